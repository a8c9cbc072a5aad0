def mX12_init (h0 : Nat) (s0 : eS) : Option eS :=
  (b2 (n_A s0 0 (7 : Int32)) fun q1 s2 => (b1 (p_P s2 112 0 h0 (some q1)) fun s3 => (b2 (n_A s3 0 (24 : Int32)) fun q4 s5 => (b1 (p_P s5 112 2 h0 (some q4)) fun s6 => (b2 (n_A s6 0 (24 : Int32)) fun q7 s8 => (b1 (p_P s8 112 3 h0 (some q7)) fun s9 => (b2 (n_A s9 0 (24 : Int32)) fun q10 s11 => (b1 (p_P s11 112 4 h0 (some q10)) fun s12 => (b2 (n_A s12 2 (24 : Int32)) fun q13 s14 => (b1 (p_P s14 112 5 h0 (some q13)) fun s15 => (b2 (n_A s15 0 (24 : Int32)) fun q16 s17 => (b1 (p_P s17 112 6 h0 (some q16)) fun s18 => (b2 (n_A s18 0 (24 : Int32)) fun q19 s20 => (b1 (p_P s20 112 7 h0 (some q19)) fun s21 => (b2 (n_A s21 0 (24 : Int32)) fun q22 s23 => (b1 (p_P s23 112 8 h0 (some q22)) fun s24 => (b2 (n_A s24 0 (12 : Int32)) fun q25 s26 => (b1 (p_P s26 112 10 h0 (some q25)) fun s27 => (b2 (n_A s27 0 (12 : Int32)) fun q28 s29 => (b1 (p_P s29 112 11 h0 (some q28)) fun s30 => (b2 (n_A s30 0 (12 : Int32)) fun q31 s32 => (b1 (p_P s32 112 12 h0 (some q31)) fun s33 => (b2 (n_A s33 2 (12 : Int32)) fun q34 s35 => (b1 (p_P s35 112 13 h0 (some q34)) fun s36 => (b2 (n_A s36 0 (12 : Int32)) fun q37 s38 => (b1 (p_P s38 112 14 h0 (some q37)) fun s39 => (b1 (p_I s39 112 15 h0 (-1 : Int32)) fun s40 => (b2 (n_A s40 0 (3 : Int32)) fun q41 s42 => (b1 (p_P s42 112 18 h0 (some q41)) fun s43 => (b2 (n_A s43 0 (6 : Int32)) fun q44 s45 => (b1 (p_P s45 112 21 h0 (some q44)) fun s46 => (b2 (n_A s46 0 (60 : Int32)) fun q47 s48 => (b1 (p_P s48 112 24 h0 (some q47)) fun s49 => (b2 (n_A s49 0 (60 : Int32)) fun q50 s51 => (b1 (p_P s51 112 25 h0 (some q50)) fun s52 => (b2 (n_A s52 0 (60 : Int32)) fun q53 s54 => (b1 (p_P s54 112 26 h0 (some q53)) fun s55 => (b2 (n_A s55 0 (420 : Int32)) fun q56 s57 => (b1 (p_P s57 112 27 h0 (some q56)) fun s58 => (b2 (n_A s58 0 (12 : Int32)) fun q59 s60 => (b1 (p_P s60 112 29 h0 (some q59)) fun s61 => (b2 (n_A s61 2 (12 : Int32)) fun q62 s63 => (b1 (p_P s63 112 30 h0 (some q62)) fun s64 => (b2 (n_A s64 0 (12 : Int32)) fun q65 s66 => (b1 (p_P s66 112 31 h0 (some q65)) fun s67 => (b2 (n_A s67 0 (12 : Int32)) fun q68 s69 => (b1 (p_P s69 112 32 h0 (some q68)) fun s70 => (b2 (n_A s70 0 (12 : Int32)) fun q71 s72 => (b1 (p_P s72 112 33 h0 (some q71)) fun s73 => (b2 (n_A s73 0 (84 : Int32)) fun q74 s75 => (b1 (p_P s75 112 34 h0 (some q74)) fun s76 => (b2 (n_A s76 0 (60 : Int32)) fun q77 s78 => (b1 (p_P s78 112 46 h0 (some q77)) fun s79 => (b2 (n_A s79 0 (14940 : Int32)) fun q80 s81 => (b1 (p_P s81 112 47 h0 (some q80)) fun s82 => (b2 (n_A s82 0 (4096 : Int32)) fun q83 s84 => (b1 (p_P s84 112 48 h0 (some q83)) fun s85 => (b2 (n_A s85 0 (256 : Int32)) fun q86 s87 => (b1 (p_P s87 112 50 h0 (some q86)) fun s88 => (b2 (n_A s88 0 (260 : Int32)) fun q89 s90 => (b1 (p_P s90 112 52 h0 (some q89)) fun s91 => (b2 (n_A s91 0 (24 : Int32)) fun q92 s93 => (b1 (p_P s93 112 54 h0 (some q92)) fun s94 => (b1 (g_P s94 112 0 h0) fun r95 => (b1 r95 fun a96 => (b1 (s_I s94 0 a96 (0 : Int32) (1 : Int32)) fun s97 => (b1 (g_P s97 112 0 h0) fun r98 => (b1 r98 fun a99 => (b1 (s_I s97 0 a99 (1 : Int32) (12 : Int32)) fun s100 => (b1 (g_P s100 112 0 h0) fun r101 => (b1 r101 fun a102 => (b1 (s_I s100 0 a102 (2 : Int32) (8 : Int32)) fun s103 => (b1 (g_P s103 112 0 h0) fun r104 => (b1 r104 fun a105 => (b1 (s_I s103 0 a105 (3 : Int32) (150 : Int32)) fun s106 => (b1 (g_P s106 112 0 h0) fun r107 => (b1 r107 fun a108 => (b1 (s_I s106 0 a108 (4 : Int32) (100 : Int32)) fun s109 => (b1 (g_P s109 112 0 h0) fun r110 => (b1 r110 fun a111 => (b1 (s_I s109 0 a111 (5 : Int32) (200 : Int32)) fun s112 => (b1 (g_P s112 112 0 h0) fun r113 => (b1 r113 fun a114 => (b1 (s_I s112 0 a114 (6 : Int32) (300 : Int32)) fun s115 => (b1 (g_P s115 112 21 h0) fun r116 => (b1 r116 fun a117 => (b1 (s_I s115 0 a117 (3 : Int32) (1 : Int32)) fun s118 => (b1 (g_P s118 112 21 h0) fun r119 => (b1 r119 fun a120 => (b1 (s_I s118 0 a120 (4 : Int32) (1 : Int32)) fun s121 => (some s121)))))))))))))))))))))))))))))))))))))))))))))))))))))))))))))))))))))))))))))))))))))))))))
set_option maxRecDepth 100000 in
set_option maxHeartbeats 4000000 in
theorem zX12_init (E : eE) {h0 : Nat} {s0 s9 : eS} (h : mX12_init h0 s0 = some s9) : EM E YX12_init [VR (some h0)] s0 none s9 := by
  refine EM_of (M := MX12_init) (own := RX12) (ini := true) rfl (by decide +kernel) rfl (fun _ => rfl) (Nat.le_of_ble_eq_true rfl) ?_
  unfold mX12_init at h
  refine EV_aload_n dX12_init_0 rfl ?_
  refine EV_objInit dX12_init_1 ⟨_, rfl⟩ tw_932 tw_93 tw_94 ⟨by decide, by decide⟩ (Nat.le_of_ble_eq_true rfl) ?_
  refine EV_aload_n dX12_init_4 rfl ?_
  refine EV_bipush (x := (7 : Int32)) dX12_init_5 (by decide) ?_
  have hh := b2_some h; clear h; obtain ⟨q1, s2, hs2, h⟩ := hh
  refine EV_nA (t := 0) (ty := .int) dX12_init_7 rfl rfl (by decide) tw_114 hs2 ?_
  have hh := b1_some h; clear h; obtain ⟨s3, hs3, h⟩ := hh
  refine EV_putP (ci := 12) (k := 0) dX12_init_9 fp_X12_7i rfl hs3 ?_
  refine EV_aload_n dX12_init_12 rfl ?_
  refine EV_bipush (x := (24 : Int32)) dX12_init_13 (by decide) ?_
  have hh := b2_some h; clear h; obtain ⟨q4, s5, hs5, h⟩ := hh
  refine EV_nA (t := 0) (ty := .int) dX12_init_15 rfl rfl (by decide) tw_114 hs5 ?_
  have hh := b1_some h; clear h; obtain ⟨s6, hs6, h⟩ := hh
  refine EV_putP (ci := 12) (k := 2) dX12_init_17 fp_X12_13i rfl hs6 ?_
  refine EV_aload_n dX12_init_20 rfl ?_
  refine EV_bipush (x := (24 : Int32)) dX12_init_21 (by decide) ?_
  have hh := b2_some h; clear h; obtain ⟨q7, s8, hs8, h⟩ := hh
  refine EV_nA (t := 0) (ty := .int) dX12_init_23 rfl rfl (by decide) tw_114 hs8 ?_
  have hh := b1_some h; clear h; obtain ⟨s9, hs9, h⟩ := hh
  refine EV_putP (ci := 12) (k := 3) dX12_init_25 fp_X12_16i rfl hs9 ?_
  refine EV_aload_n dX12_init_28 rfl ?_
  refine EV_bipush (x := (24 : Int32)) dX12_init_29 (by decide) ?_
  have hh := b2_some h; clear h; obtain ⟨q10, s11, hs11, h⟩ := hh
  refine EV_nA (t := 0) (ty := .int) dX12_init_31 rfl rfl (by decide) tw_114 hs11 ?_
  have hh := b1_some h; clear h; obtain ⟨s12, hs12, h⟩ := hh
  refine EV_putP (ci := 12) (k := 4) dX12_init_33 fp_X12_19i rfl hs12 ?_
  refine EV_aload_n dX12_init_36 rfl ?_
  refine EV_bipush (x := (24 : Int32)) dX12_init_37 (by decide) ?_
  have hh := b2_some h; clear h; obtain ⟨q13, s14, hs14, h⟩ := hh
  refine EV_nA (t := 2) (ty := .boolean) dX12_init_39 rfl rfl (by decide) tw_305 hs14 ?_
  have hh := b1_some h; clear h; obtain ⟨s15, hs15, h⟩ := hh
  refine EV_putP (ci := 12) (k := 5) dX12_init_41 fp_X12_22i rfl hs15 ?_
  refine EV_aload_n dX12_init_44 rfl ?_
  refine EV_bipush (x := (24 : Int32)) dX12_init_45 (by decide) ?_
  have hh := b2_some h; clear h; obtain ⟨q16, s17, hs17, h⟩ := hh
  refine EV_nA (t := 0) (ty := .int) dX12_init_47 rfl rfl (by decide) tw_114 hs17 ?_
  have hh := b1_some h; clear h; obtain ⟨s18, hs18, h⟩ := hh
  refine EV_putP (ci := 12) (k := 6) dX12_init_49 fp_X12_26i rfl hs18 ?_
  refine EV_aload_n dX12_init_52 rfl ?_
  refine EV_bipush (x := (24 : Int32)) dX12_init_53 (by decide) ?_
  have hh := b2_some h; clear h; obtain ⟨q19, s20, hs20, h⟩ := hh
  refine EV_nA (t := 0) (ty := .int) dX12_init_55 rfl rfl (by decide) tw_114 hs20 ?_
  have hh := b1_some h; clear h; obtain ⟨s21, hs21, h⟩ := hh
  refine EV_putP (ci := 12) (k := 7) dX12_init_57 fp_X12_29i rfl hs21 ?_
  refine EV_aload_n dX12_init_60 rfl ?_
  refine EV_bipush (x := (24 : Int32)) dX12_init_61 (by decide) ?_
  have hh := b2_some h; clear h; obtain ⟨q22, s23, hs23, h⟩ := hh
  refine EV_nA (t := 0) (ty := .int) dX12_init_63 rfl rfl (by decide) tw_114 hs23 ?_
  have hh := b1_some h; clear h; obtain ⟨s24, hs24, h⟩ := hh
  refine EV_putP (ci := 12) (k := 8) dX12_init_65 fp_X12_32i rfl hs24 ?_
  refine EV_aload_n dX12_init_68 rfl ?_
  refine EV_bipush (x := (12 : Int32)) dX12_init_69 (by decide) ?_
  have hh := b2_some h; clear h; obtain ⟨q25, s26, hs26, h⟩ := hh
  refine EV_nA (t := 0) (ty := .int) dX12_init_71 rfl rfl (by decide) tw_114 hs26 ?_
  have hh := b1_some h; clear h; obtain ⟨s27, hs27, h⟩ := hh
  refine EV_putP (ci := 12) (k := 10) dX12_init_73 fp_X12_35i rfl hs27 ?_
  refine EV_aload_n dX12_init_76 rfl ?_
  refine EV_bipush (x := (12 : Int32)) dX12_init_77 (by decide) ?_
  have hh := b2_some h; clear h; obtain ⟨q28, s29, hs29, h⟩ := hh
  refine EV_nA (t := 0) (ty := .int) dX12_init_79 rfl rfl (by decide) tw_114 hs29 ?_
  have hh := b1_some h; clear h; obtain ⟨s30, hs30, h⟩ := hh
  refine EV_putP (ci := 12) (k := 11) dX12_init_81 fp_X12_38i rfl hs30 ?_
  refine EV_aload_n dX12_init_84 rfl ?_
  refine EV_bipush (x := (12 : Int32)) dX12_init_85 (by decide) ?_
  have hh := b2_some h; clear h; obtain ⟨q31, s32, hs32, h⟩ := hh
  refine EV_nA (t := 0) (ty := .int) dX12_init_87 rfl rfl (by decide) tw_114 hs32 ?_
  have hh := b1_some h; clear h; obtain ⟨s33, hs33, h⟩ := hh
  refine EV_putP (ci := 12) (k := 12) dX12_init_89 fp_X12_41i rfl hs33 ?_
  refine EV_aload_n dX12_init_92 rfl ?_
  refine EV_bipush (x := (12 : Int32)) dX12_init_93 (by decide) ?_
  have hh := b2_some h; clear h; obtain ⟨q34, s35, hs35, h⟩ := hh
  refine EV_nA (t := 2) (ty := .boolean) dX12_init_95 rfl rfl (by decide) tw_305 hs35 ?_
  have hh := b1_some h; clear h; obtain ⟨s36, hs36, h⟩ := hh
  refine EV_putP (ci := 12) (k := 13) dX12_init_97 fp_X12_44i rfl hs36 ?_
  refine EV_aload_n dX12_init_100 rfl ?_
  refine EV_bipush (x := (12 : Int32)) dX12_init_101 (by decide) ?_
  have hh := b2_some h; clear h; obtain ⟨q37, s38, hs38, h⟩ := hh
  refine EV_nA (t := 0) (ty := .int) dX12_init_103 rfl rfl (by decide) tw_114 hs38 ?_
  have hh := b1_some h; clear h; obtain ⟨s39, hs39, h⟩ := hh
  refine EV_putP (ci := 12) (k := 14) dX12_init_105 fp_X12_47i rfl hs39 ?_
  refine EV_aload_n dX12_init_108 rfl ?_
  refine EV_iconst (x := (-1 : Int32)) dX12_init_109 (by decide) ?_
  have hh := b1_some h; clear h; obtain ⟨s40, hs40, h⟩ := hh
  refine EV_putI (ci := 12) (k := 15) dX12_init_110 fp_X12_50i rfl hs40 ?_
  refine EV_aload_n dX12_init_113 rfl ?_
  refine EV_iconst (x := (3 : Int32)) dX12_init_114 (by decide) ?_
  have hh := b2_some h; clear h; obtain ⟨q41, s42, hs42, h⟩ := hh
  refine EV_nA (t := 0) (ty := .int) dX12_init_115 rfl rfl (by decide) tw_114 hs42 ?_
  have hh := b1_some h; clear h; obtain ⟨s43, hs43, h⟩ := hh
  refine EV_putP (ci := 12) (k := 18) dX12_init_117 fp_X12_54i rfl hs43 ?_
  refine EV_aload_n dX12_init_120 rfl ?_
  refine EV_bipush (x := (6 : Int32)) dX12_init_121 (by decide) ?_
  have hh := b2_some h; clear h; obtain ⟨q44, s45, hs45, h⟩ := hh
  refine EV_nA (t := 0) (ty := .int) dX12_init_123 rfl rfl (by decide) tw_114 hs45 ?_
  have hh := b1_some h; clear h; obtain ⟨s46, hs46, h⟩ := hh
  refine EV_putP (ci := 12) (k := 21) dX12_init_125 fp_X12_57i rfl hs46 ?_
  refine EV_aload_n dX12_init_128 rfl ?_
  refine EV_bipush (x := (60 : Int32)) dX12_init_129 (by decide) ?_
  have hh := b2_some h; clear h; obtain ⟨q47, s48, hs48, h⟩ := hh
  refine EV_nA (t := 0) (ty := .int) dX12_init_131 rfl rfl (by decide) tw_114 hs48 ?_
  have hh := b1_some h; clear h; obtain ⟨s49, hs49, h⟩ := hh
  refine EV_putP (ci := 12) (k := 24) dX12_init_133 fp_X12_60i rfl hs49 ?_
  refine EV_aload_n dX12_init_136 rfl ?_
  refine EV_bipush (x := (60 : Int32)) dX12_init_137 (by decide) ?_
  have hh := b2_some h; clear h; obtain ⟨q50, s51, hs51, h⟩ := hh
  refine EV_nA (t := 0) (ty := .int) dX12_init_139 rfl rfl (by decide) tw_114 hs51 ?_
  have hh := b1_some h; clear h; obtain ⟨s52, hs52, h⟩ := hh
  refine EV_putP (ci := 12) (k := 25) dX12_init_141 fp_X12_63i rfl hs52 ?_
  refine EV_aload_n dX12_init_144 rfl ?_
  refine EV_bipush (x := (60 : Int32)) dX12_init_145 (by decide) ?_
  have hh := b2_some h; clear h; obtain ⟨q53, s54, hs54, h⟩ := hh
  refine EV_nA (t := 0) (ty := .int) dX12_init_147 rfl rfl (by decide) tw_114 hs54 ?_
  have hh := b1_some h; clear h; obtain ⟨s55, hs55, h⟩ := hh
  refine EV_putP (ci := 12) (k := 26) dX12_init_149 fp_X12_66i rfl hs55 ?_
  refine EV_aload_n dX12_init_152 rfl ?_
  refine EV_sipush (x := (420 : Int32)) dX12_init_153 (by decide) ?_
  have hh := b2_some h; clear h; obtain ⟨q56, s57, hs57, h⟩ := hh
  refine EV_nA (t := 0) (ty := .int) dX12_init_156 rfl rfl (by decide) tw_114 hs57 ?_
  have hh := b1_some h; clear h; obtain ⟨s58, hs58, h⟩ := hh
  refine EV_putP (ci := 12) (k := 27) dX12_init_158 fp_X12_69i rfl hs58 ?_
  refine EV_aload_n dX12_init_161 rfl ?_
  refine EV_bipush (x := (12 : Int32)) dX12_init_162 (by decide) ?_
  have hh := b2_some h; clear h; obtain ⟨q59, s60, hs60, h⟩ := hh
  refine EV_nA (t := 0) (ty := .int) dX12_init_164 rfl rfl (by decide) tw_114 hs60 ?_
  have hh := b1_some h; clear h; obtain ⟨s61, hs61, h⟩ := hh
  refine EV_putP (ci := 12) (k := 29) dX12_init_166 fp_X12_72i rfl hs61 ?_
  refine EV_aload_n dX12_init_169 rfl ?_
  refine EV_bipush (x := (12 : Int32)) dX12_init_170 (by decide) ?_
  have hh := b2_some h; clear h; obtain ⟨q62, s63, hs63, h⟩ := hh
  refine EV_nA (t := 2) (ty := .boolean) dX12_init_172 rfl rfl (by decide) tw_305 hs63 ?_
  have hh := b1_some h; clear h; obtain ⟨s64, hs64, h⟩ := hh
  refine EV_putP (ci := 12) (k := 30) dX12_init_174 fp_X12_75i rfl hs64 ?_
  refine EV_aload_n dX12_init_177 rfl ?_
  refine EV_bipush (x := (12 : Int32)) dX12_init_178 (by decide) ?_
  have hh := b2_some h; clear h; obtain ⟨q65, s66, hs66, h⟩ := hh
  refine EV_nA (t := 0) (ty := .int) dX12_init_180 rfl rfl (by decide) tw_114 hs66 ?_
  have hh := b1_some h; clear h; obtain ⟨s67, hs67, h⟩ := hh
  refine EV_putP (ci := 12) (k := 31) dX12_init_182 fp_X12_78i rfl hs67 ?_
  refine EV_aload_n dX12_init_185 rfl ?_
  refine EV_bipush (x := (12 : Int32)) dX12_init_186 (by decide) ?_
  have hh := b2_some h; clear h; obtain ⟨q68, s69, hs69, h⟩ := hh
  refine EV_nA (t := 0) (ty := .int) dX12_init_188 rfl rfl (by decide) tw_114 hs69 ?_
  have hh := b1_some h; clear h; obtain ⟨s70, hs70, h⟩ := hh
  refine EV_putP (ci := 12) (k := 32) dX12_init_190 fp_X12_81i rfl hs70 ?_
  refine EV_aload_n dX12_init_193 rfl ?_
  refine EV_bipush (x := (12 : Int32)) dX12_init_194 (by decide) ?_
  have hh := b2_some h; clear h; obtain ⟨q71, s72, hs72, h⟩ := hh
  refine EV_nA (t := 0) (ty := .int) dX12_init_196 rfl rfl (by decide) tw_114 hs72 ?_
  have hh := b1_some h; clear h; obtain ⟨s73, hs73, h⟩ := hh
  refine EV_putP (ci := 12) (k := 33) dX12_init_198 fp_X12_84i rfl hs73 ?_
  refine EV_aload_n dX12_init_201 rfl ?_
  refine EV_bipush (x := (84 : Int32)) dX12_init_202 (by decide) ?_
  have hh := b2_some h; clear h; obtain ⟨q74, s75, hs75, h⟩ := hh
  refine EV_nA (t := 0) (ty := .int) dX12_init_204 rfl rfl (by decide) tw_114 hs75 ?_
  have hh := b1_some h; clear h; obtain ⟨s76, hs76, h⟩ := hh
  refine EV_putP (ci := 12) (k := 34) dX12_init_206 fp_X12_87i rfl hs76 ?_
  refine EV_aload_n dX12_init_209 rfl ?_
  refine EV_bipush (x := (60 : Int32)) dX12_init_210 (by decide) ?_
  have hh := b2_some h; clear h; obtain ⟨q77, s78, hs78, h⟩ := hh
  refine EV_nA (t := 0) (ty := .int) dX12_init_212 rfl rfl (by decide) tw_114 hs78 ?_
  have hh := b1_some h; clear h; obtain ⟨s79, hs79, h⟩ := hh
  refine EV_putP (ci := 12) (k := 46) dX12_init_214 fp_X12_90i rfl hs79 ?_
  refine EV_aload_n dX12_init_217 rfl ?_
  refine EV_sipush (x := (14940 : Int32)) dX12_init_218 (by decide) ?_
  have hh := b2_some h; clear h; obtain ⟨q80, s81, hs81, h⟩ := hh
  refine EV_nA (t := 0) (ty := .int) dX12_init_221 rfl rfl (by decide) tw_114 hs81 ?_
  have hh := b1_some h; clear h; obtain ⟨s82, hs82, h⟩ := hh
  refine EV_putP (ci := 12) (k := 47) dX12_init_223 fp_X12_93i rfl hs82 ?_
  refine EV_aload_n dX12_init_226 rfl ?_
  refine EV_sipush (x := (4096 : Int32)) dX12_init_227 (by decide) ?_
  have hh := b2_some h; clear h; obtain ⟨q83, s84, hs84, h⟩ := hh
  refine EV_nA (t := 0) (ty := .int) dX12_init_230 rfl rfl (by decide) tw_114 hs84 ?_
  have hh := b1_some h; clear h; obtain ⟨s85, hs85, h⟩ := hh
  refine EV_putP (ci := 12) (k := 48) dX12_init_232 fp_X12_96i rfl hs85 ?_
  refine EV_aload_n dX12_init_235 rfl ?_
  refine EV_sipush (x := (256 : Int32)) dX12_init_236 (by decide) ?_
  have hh := b2_some h; clear h; obtain ⟨q86, s87, hs87, h⟩ := hh
  refine EV_nA (t := 0) (ty := .int) dX12_init_239 rfl rfl (by decide) tw_114 hs87 ?_
  have hh := b1_some h; clear h; obtain ⟨s88, hs88, h⟩ := hh
  refine EV_putP (ci := 12) (k := 50) dX12_init_241 fp_X12_99i rfl hs88 ?_
  refine EV_aload_n dX12_init_244 rfl ?_
  refine EV_sipush (x := (260 : Int32)) dX12_init_245 (by decide) ?_
  have hh := b2_some h; clear h; obtain ⟨q89, s90, hs90, h⟩ := hh
  refine EV_nA (t := 0) (ty := .int) dX12_init_248 rfl rfl (by decide) tw_114 hs90 ?_
  have hh := b1_some h; clear h; obtain ⟨s91, hs91, h⟩ := hh
  refine EV_putP (ci := 12) (k := 52) dX12_init_250 fp_X12_102i rfl hs91 ?_
  refine EV_aload_n dX12_init_253 rfl ?_
  refine EV_bipush (x := (24 : Int32)) dX12_init_254 (by decide) ?_
  have hh := b2_some h; clear h; obtain ⟨q92, s93, hs93, h⟩ := hh
  refine EV_nA (t := 0) (ty := .int) dX12_init_256 rfl rfl (by decide) tw_114 hs93 ?_
  have hh := b1_some h; clear h; obtain ⟨s94, hs94, h⟩ := hh
  refine EV_putP (ci := 12) (k := 54) dX12_init_258 fp_X12_105i rfl hs94 ?_
  refine EV_aload_n dX12_init_261 rfl ?_
  have hh := b1_some h; clear h; obtain ⟨r95, hr95, h⟩ := hh
  refine EV_getP (ci := 12) (k := 0) dX12_init_262 fl_X12_7 rfl hr95 ?_
  refine EV_iconst (x := (0 : Int32)) dX12_init_265 (by decide) ?_
  refine EV_iconst (x := (1 : Int32)) dX12_init_266 (by decide) ?_
  have hh := b1_some h; clear h; obtain ⟨a96, ha96, h⟩ := hh
  subst ha96
  have hh := b1_some h; clear h; obtain ⟨s97, hs97, h⟩ := hh
  refine EV_sI (t := 0) rfl dX12_init_267 hs97 ?_
  refine EV_aload_n dX12_init_268 rfl ?_
  have hh := b1_some h; clear h; obtain ⟨r98, hr98, h⟩ := hh
  refine EV_getP (ci := 12) (k := 0) dX12_init_269 fl_X12_7 rfl hr98 ?_
  refine EV_iconst (x := (1 : Int32)) dX12_init_272 (by decide) ?_
  refine EV_bipush (x := (12 : Int32)) dX12_init_273 (by decide) ?_
  have hh := b1_some h; clear h; obtain ⟨a99, ha99, h⟩ := hh
  subst ha99
  have hh := b1_some h; clear h; obtain ⟨s100, hs100, h⟩ := hh
  refine EV_sI (t := 0) rfl dX12_init_275 hs100 ?_
  refine EV_aload_n dX12_init_276 rfl ?_
  have hh := b1_some h; clear h; obtain ⟨r101, hr101, h⟩ := hh
  refine EV_getP (ci := 12) (k := 0) dX12_init_277 fl_X12_7 rfl hr101 ?_
  refine EV_iconst (x := (2 : Int32)) dX12_init_280 (by decide) ?_
  refine EV_bipush (x := (8 : Int32)) dX12_init_281 (by decide) ?_
  have hh := b1_some h; clear h; obtain ⟨a102, ha102, h⟩ := hh
  subst ha102
  have hh := b1_some h; clear h; obtain ⟨s103, hs103, h⟩ := hh
  refine EV_sI (t := 0) rfl dX12_init_283 hs103 ?_
  refine EV_aload_n dX12_init_284 rfl ?_
  have hh := b1_some h; clear h; obtain ⟨r104, hr104, h⟩ := hh
  refine EV_getP (ci := 12) (k := 0) dX12_init_285 fl_X12_7 rfl hr104 ?_
  refine EV_iconst (x := (3 : Int32)) dX12_init_288 (by decide) ?_
  refine EV_sipush (x := (150 : Int32)) dX12_init_289 (by decide) ?_
  have hh := b1_some h; clear h; obtain ⟨a105, ha105, h⟩ := hh
  subst ha105
  have hh := b1_some h; clear h; obtain ⟨s106, hs106, h⟩ := hh
  refine EV_sI (t := 0) rfl dX12_init_292 hs106 ?_
  refine EV_aload_n dX12_init_293 rfl ?_
  have hh := b1_some h; clear h; obtain ⟨r107, hr107, h⟩ := hh
  refine EV_getP (ci := 12) (k := 0) dX12_init_294 fl_X12_7 rfl hr107 ?_
  refine EV_iconst (x := (4 : Int32)) dX12_init_297 (by decide) ?_
  refine EV_bipush (x := (100 : Int32)) dX12_init_298 (by decide) ?_
  have hh := b1_some h; clear h; obtain ⟨a108, ha108, h⟩ := hh
  subst ha108
  have hh := b1_some h; clear h; obtain ⟨s109, hs109, h⟩ := hh
  refine EV_sI (t := 0) rfl dX12_init_300 hs109 ?_
  refine EV_aload_n dX12_init_301 rfl ?_
  have hh := b1_some h; clear h; obtain ⟨r110, hr110, h⟩ := hh
  refine EV_getP (ci := 12) (k := 0) dX12_init_302 fl_X12_7 rfl hr110 ?_
  refine EV_iconst (x := (5 : Int32)) dX12_init_305 (by decide) ?_
  refine EV_sipush (x := (200 : Int32)) dX12_init_306 (by decide) ?_
  have hh := b1_some h; clear h; obtain ⟨a111, ha111, h⟩ := hh
  subst ha111
  have hh := b1_some h; clear h; obtain ⟨s112, hs112, h⟩ := hh
  refine EV_sI (t := 0) rfl dX12_init_309 hs112 ?_
  refine EV_aload_n dX12_init_310 rfl ?_
  have hh := b1_some h; clear h; obtain ⟨r113, hr113, h⟩ := hh
  refine EV_getP (ci := 12) (k := 0) dX12_init_311 fl_X12_7 rfl hr113 ?_
  refine EV_bipush (x := (6 : Int32)) dX12_init_314 (by decide) ?_
  refine EV_sipush (x := (300 : Int32)) dX12_init_316 (by decide) ?_
  have hh := b1_some h; clear h; obtain ⟨a114, ha114, h⟩ := hh
  subst ha114
  have hh := b1_some h; clear h; obtain ⟨s115, hs115, h⟩ := hh
  refine EV_sI (t := 0) rfl dX12_init_319 hs115 ?_
  refine EV_aload_n dX12_init_320 rfl ?_
  have hh := b1_some h; clear h; obtain ⟨r116, hr116, h⟩ := hh
  refine EV_getP (ci := 12) (k := 21) dX12_init_321 fl_X12_57 rfl hr116 ?_
  refine EV_iconst (x := (3 : Int32)) dX12_init_324 (by decide) ?_
  refine EV_iconst (x := (1 : Int32)) dX12_init_325 (by decide) ?_
  have hh := b1_some h; clear h; obtain ⟨a117, ha117, h⟩ := hh
  subst ha117
  have hh := b1_some h; clear h; obtain ⟨s118, hs118, h⟩ := hh
  refine EV_sI (t := 0) rfl dX12_init_326 hs118 ?_
  refine EV_aload_n dX12_init_327 rfl ?_
  have hh := b1_some h; clear h; obtain ⟨r119, hr119, h⟩ := hh
  refine EV_getP (ci := 12) (k := 21) dX12_init_328 fl_X12_57 rfl hr119 ?_
  refine EV_iconst (x := (4 : Int32)) dX12_init_331 (by decide) ?_
  refine EV_iconst (x := (1 : Int32)) dX12_init_332 (by decide) ?_
  have hh := b1_some h; clear h; obtain ⟨a120, ha120, h⟩ := hh
  subst ha120
  have hh := b1_some h; clear h; obtain ⟨s121, hs121, h⟩ := hh
  refine EV_sI (t := 0) rfl dX12_init_333 hs121 ?_
  cases h
  exact EV_ret ⟨dX12_init_334, rfl⟩ rfl
def mX12_in_18 (pt0 : Int32) (s0 : eS) : Option (Int32 × eS) :=
  (b1 (o_Z pt0) fun u1 => some (pt0, s0))
set_option maxRecDepth 100000 in
set_option maxHeartbeats 4000000 in
theorem zX12_in_18 (E : eE) {pt0 : Int32} {s0 s9 : eS} {y : Int32} (h : mX12_in_18 pt0 s0 = some (y, s9)) : EV E MX12_in 18 [] [VI pt0] s0 (some (VI y)) s9 := by
  unfold mX12_in_18 at h
  have hh := b1_some h; clear h; obtain ⟨u1, hu1, h⟩ := hh
  cases h
  exact EV_ret ⟨dX12_in_18, .boolean, rfl, o_Z_n hu1⟩ rfl
def mX12_in_17 (s0 : eS) : Option (Int32 × eS) :=
  (mX12_in_18 (0 : Int32) s0)
set_option maxRecDepth 100000 in
set_option maxHeartbeats 4000000 in
theorem zX12_in_17 (E : eE) {s0 s9 : eS} {y : Int32} (h : mX12_in_17 s0 = some (y, s9)) : EV E MX12_in 17 [] [] s0 (some (VI y)) s9 := by
  unfold mX12_in_17 at h
  refine EV_iconst (x := (0 : Int32)) dX12_in_17 (by decide) ?_
  exact EV_pick [] rfl (zX12_in_18 E h)
def mX12_in (pl0 : Int64) (pl2 : Int64) (pl4 : Int64) (s0 : eS) : Option (Int32 × eS) :=
  (if (lg_cmp pl0 pl2) < 0 then (mX12_in_17 s0) else (if 0 < (lg_cmp pl0 pl4) then (mX12_in_17 s0) else (mX12_in_18 (1 : Int32) s0)))
set_option maxRecDepth 100000 in
set_option maxHeartbeats 4000000 in
theorem zX12_in (E : eE) {pl0 : Int64} {pl2 : Int64} {pl4 : Int64} {s0 s9 : eS} {y : Int32} (h : mX12_in pl0 pl2 pl4 s0 = some (y, s9)) : EM E YX12_in [VL pl0, VL pl2, VL pl4] s0 (some (VI y)) s9 := by
  refine EM_of (M := MX12_in) (own := RX12) (ini := false) rfl (by decide +kernel) rfl (fun z => nomatch z) (Nat.le_of_ble_eq_true rfl) ?_
  unfold mX12_in at h
  refine EV_lload_n dX12_in_0 rfl ?_
  refine EV_lload_n dX12_in_1 rfl ?_
  refine EV_lcmp dX12_in_2 ?_
  refine EV_if_lt (tgt := 17) dX12_in_3 (by decide) (fun c1 => ?_) (fun c1 => ?_)
  · rw [if_pos c1] at h
    exact EV_pick [] rfl (zX12_in_17 E h)
  · rw [if_neg c1] at h
    refine EV_lload_n dX12_in_6 rfl ?_
    refine EV_lload dX12_in_7 rfl ?_
    refine EV_lcmp dX12_in_9 ?_
    refine EV_if_gt (tgt := 17) dX12_in_10 (by decide) (fun c2 => ?_) (fun c2 => ?_)
    · rw [if_pos c2] at h
      exact EV_pick [] rfl (zX12_in_17 E h)
    · rw [if_neg c2] at h
      refine EV_iconst (x := (1 : Int32)) dX12_in_13 (by decide) ?_
      refine EV_goto (tgt := 18) dX12_in_14 (by decide) ?_
      exact EV_pick [] rfl (zX12_in_18 E h)
def mX12_isPoint (h0 : Nat) (pi1 : Int32) (s0 : eS) : Option (Int32 × eS) :=
  (b1 (g_I s0 112 1 h0) fun x1 => (b2 (mX12_in ((pi1).toInt64) (0 : Int64) (((x1 - (1 : Int32))).toInt64) s0) fun x3 s2 => (b1 (o_Z x3) fun u4 => some (x3, s2))))
set_option maxRecDepth 100000 in
set_option maxHeartbeats 4000000 in
theorem zX12_isPoint (E : eE) {h0 : Nat} {pi1 : Int32} {s0 s9 : eS} {y : Int32} (h : mX12_isPoint h0 pi1 s0 = some (y, s9)) : EM E YX12_isPoint [VR (some h0), VI pi1] s0 (some (VI y)) s9 := by
  refine EM_of (M := MX12_isPoint) (own := RX12) (ini := false) rfl (by decide +kernel) rfl (fun z => nomatch z) (Nat.le_of_ble_eq_true rfl) ?_
  unfold mX12_isPoint at h
  refine EV_iload_n dX12_isPoint_0 rfl ?_
  refine EV_i2l dX12_isPoint_1 ?_
  refine EV_lconst (x := (0 : Int64)) dX12_isPoint_2 (by decide) ?_
  refine EV_aload_n dX12_isPoint_3 rfl ?_
  have hh := b1_some h; clear h; obtain ⟨x1, hx1, h⟩ := hh
  refine EV_getI (ci := 12) (k := 1) dX12_isPoint_4 fl_X12_108 rfl hx1 ?_
  refine EV_iconst (x := (1 : Int32)) dX12_isPoint_7 (by decide) ?_
  refine EV_isub dX12_isPoint_8 ?_
  refine EV_i2l dX12_isPoint_9 ?_
  have hh := b2_some h; clear h; obtain ⟨x3, s2, hs2, h⟩ := hh
  refine EV_callS (Y := YX12_in) (as := [VL ((pi1).toInt64), VL (0 : Int64), VL (((x1 - (1 : Int32))).toInt64)]) (st := []) (st2 := [VI x3]) (n := 3) dX12_isPoint_10 (zX12_in E hs2) rfl cwX12_in rfl tw_1104 tw_1105 ⟨by decide, by decide⟩ (Nat.le_of_ble_eq_true rfl) rfl ?_
  have hh := b1_some h; clear h; obtain ⟨u4, hu4, h⟩ := hh
  cases h
  exact EV_ret ⟨dX12_isPoint_13, .boolean, rfl, o_Z_n hu4⟩ rfl
def mX12_set_69 (h0 : Nat) (pi1 : Int32) (pi2 : Int32) (pt0 : Int32) (s0 : eS) : Option (Int32 × eS) :=
  (if pt0 = 0 then (some ((-1 : Int32), s0)) else (b1 (g_I s0 112 35 h0) fun x2 => (if x2 = 0 then (b1 (g_P s0 112 0 h0) fun r4 => (b1 r4 fun a5 => (b1 (a_I s0 0 a5 pi1) fun x6 => (b1 (g_P s0 112 0 h0) fun r7 => (b1 r7 fun a8 => (b1 (s_I s0 0 a8 pi1 pi2) fun s9 => (some (x6, s9)))))))) else (some ((-2 : Int32), s0)))))
set_option maxRecDepth 100000 in
set_option maxHeartbeats 4000000 in
theorem zX12_set_69 (E : eE) {h0 : Nat} {pi1 : Int32} {pi2 : Int32} {pt0 : Int32} {s0 s9 : eS} {y : Int32} (h : mX12_set_69 h0 pi1 pi2 pt0 s0 = some (y, s9)) : EV E MX12_set 69 [(0, VR (some h0)), (1, VI pi1), (2, VI pi2)] [VI pt0] s0 (some (VI y)) s9 := by
  unfold mX12_set_69 at h
  refine EV_istore_n (lv2 := [(3, VI pt0), (0, VR (some h0)), (1, VI pi1), (2, VI pi2)]) dX12_set_69 (by decide) rfl ?_
  refine EV_iload_n dX12_set_70 rfl ?_
  refine EV_if_ne (tgt := 76) dX12_set_71 (by decide) (fun c1 => ?_) (fun c1 => ?_)
  · rw [if_pos c1] at h
    refine EV_iconst (x := (-1 : Int32)) dX12_set_74 (by decide) ?_
    cases h
    exact EV_ret ⟨dX12_set_75, .int, rfl, rfl⟩ rfl
  · rw [if_neg c1] at h
    refine EV_aload_n dX12_set_76 rfl ?_
    have hh := b1_some h; clear h; obtain ⟨x2, hx2, h⟩ := hh
    refine EV_getI (ci := 12) (k := 35) dX12_set_77 fl_X12_125 rfl hx2 ?_
    refine EV_if_eq (tgt := 86) dX12_set_80 (by decide) (fun c3 => ?_) (fun c3 => ?_)
    · rw [if_pos c3] at h
      refine EV_aload_n dX12_set_86 rfl ?_
      have hh := b1_some h; clear h; obtain ⟨r4, hr4, h⟩ := hh
      refine EV_getP (ci := 12) (k := 0) dX12_set_87 fl_X12_7 rfl hr4 ?_
      refine EV_iload_n dX12_set_90 rfl ?_
      have hh := b1_some h; clear h; obtain ⟨a5, ha5, h⟩ := hh
      subst ha5
      have hh := b1_some h; clear h; obtain ⟨x6, hx6, h⟩ := hh
      refine EV_aI (t := 0) (ty := .int) rfl (by decide) dX12_set_91 hx6 ?_
      refine EV_istore (lv2 := [(4, VI x6), (3, VI pt0), (0, VR (some h0)), (1, VI pi1), (2, VI pi2)]) dX12_set_92 (by decide) rfl ?_
      refine EV_aload_n dX12_set_94 rfl ?_
      have hh := b1_some h; clear h; obtain ⟨r7, hr7, h⟩ := hh
      refine EV_getP (ci := 12) (k := 0) dX12_set_95 fl_X12_7 rfl hr7 ?_
      refine EV_iload_n dX12_set_98 rfl ?_
      refine EV_iload_n dX12_set_99 rfl ?_
      have hh := b1_some h; clear h; obtain ⟨a8, ha8, h⟩ := hh
      subst ha8
      have hh := b1_some h; clear h; obtain ⟨s9, hs9, h⟩ := hh
      refine EV_sI (t := 0) rfl dX12_set_100 hs9 ?_
      refine EV_iload dX12_set_101 rfl ?_
      cases h
      exact EV_ret ⟨dX12_set_103, .int, rfl, rfl⟩ rfl
    · rw [if_neg c3] at h
      refine EV_bipush (x := (-2 : Int32)) dX12_set_83 (by decide) ?_
      cases h
      exact EV_ret ⟨dX12_set_85, .int, rfl, rfl⟩ rfl
def mX12_set_26 (h0 : Nat) (pi1 : Int32) (pi2 : Int32) (s0 : eS) : Option (Int32 × eS) :=
  (b2 (mX12_in ((pi2).toInt64) (1 : Int64) (12 : Int64) s0) fun x2 s1 => (mX12_set_69 h0 pi1 pi2 x2 s1))
set_option maxRecDepth 100000 in
set_option maxHeartbeats 4000000 in
theorem zX12_set_26 (E : eE) {h0 : Nat} {pi1 : Int32} {pi2 : Int32} {s0 s9 : eS} {y : Int32} (h : mX12_set_26 h0 pi1 pi2 s0 = some (y, s9)) : EV E MX12_set 26 [(0, VR (some h0)), (1, VI pi1), (2, VI pi2)] [] s0 (some (VI y)) s9 := by
  unfold mX12_set_26 at h
  refine EV_iload_n dX12_set_26 rfl ?_
  refine EV_i2l dX12_set_27 ?_
  refine EV_lconst (x := (1 : Int64)) dX12_set_28 (by decide) ?_
  refine EV_ldc2 (x := (12 : Int64)) dX12_set_29 tw_1107 ?_
  have hh := b2_some h; clear h; obtain ⟨x2, s1, hs1, h⟩ := hh
  refine EV_callS (Y := YX12_in) (as := [VL ((pi2).toInt64), VL (1 : Int64), VL (12 : Int64)]) (st := []) (st2 := [VI x2]) (n := 3) dX12_set_32 (zX12_in E hs1) rfl cwX12_in rfl tw_1104 tw_1105 ⟨by decide, by decide⟩ (Nat.le_of_ble_eq_true rfl) rfl ?_
  refine EV_goto (tgt := 69) dX12_set_35 (by decide) ?_
  exact EV_pick [0, 1, 2] rfl (zX12_set_69 E h)
def mX12_set_68 (h0 : Nat) (pi1 : Int32) (pi2 : Int32) (s0 : eS) : Option (Int32 × eS) :=
  (mX12_set_69 h0 pi1 pi2 (0 : Int32) s0)
set_option maxRecDepth 100000 in
set_option maxHeartbeats 4000000 in
theorem zX12_set_68 (E : eE) {h0 : Nat} {pi1 : Int32} {pi2 : Int32} {s0 s9 : eS} {y : Int32} (h : mX12_set_68 h0 pi1 pi2 s0 = some (y, s9)) : EV E MX12_set 68 [(0, VR (some h0)), (1, VI pi1), (2, VI pi2)] [] s0 (some (VI y)) s9 := by
  unfold mX12_set_68 at h
  refine EV_iconst (x := (0 : Int32)) dX12_set_68 (by decide) ?_
  exact EV_pick [0, 1, 2] rfl (zX12_set_69 E h)
def mX12_set (h0 : Nat) (pi1 : Int32) (pi2 : Int32) (s0 : eS) : Option (Int32 × eS) :=
  (if pi1 = 0 then (b2 (mX12_in ((pi2).toInt64) (0 : Int64) (65534 : Int64) s0) fun x3 s2 => (mX12_set_69 h0 pi1 pi2 x3 s2)) else (if pi1 = (1 : Int32) then (mX12_set_26 h0 pi1 pi2 s0) else (if pi1 = (2 : Int32) then (mX12_set_26 h0 pi1 pi2 s0) else (b2 (mX12_in ((pi1).toInt64) (3 : Int64) (6 : Int64) s0) fun x5 s4 => (if x5 = 0 then (mX12_set_68 h0 pi1 pi2 s4) else (b2 (mX12_in ((pi2).toInt64) (1 : Int64) (1000 : Int64) s4) fun x8 s7 => (if x8 = 0 then (mX12_set_68 h0 pi1 pi2 s7) else (mX12_set_69 h0 pi1 pi2 (1 : Int32) s7))))))))
set_option maxRecDepth 100000 in
set_option maxHeartbeats 4000000 in
theorem zX12_set (E : eE) {h0 : Nat} {pi1 : Int32} {pi2 : Int32} {s0 s9 : eS} {y : Int32} (h : mX12_set h0 pi1 pi2 s0 = some (y, s9)) : EM E YX12_set [VR (some h0), VI pi1, VI pi2] s0 (some (VI y)) s9 := by
  refine EM_of (M := MX12_set) (own := RX12) (ini := false) rfl (by decide +kernel) rfl (fun z => nomatch z) (Nat.le_of_ble_eq_true rfl) ?_
  unfold mX12_set at h
  refine EV_iload_n dX12_set_0 rfl ?_
  refine EV_if_ne (tgt := 16) dX12_set_1 (by decide) (fun c1 => ?_) (fun c1 => ?_)
  · rw [if_pos c1] at h
    refine EV_iload_n dX12_set_4 rfl ?_
    refine EV_i2l dX12_set_5 ?_
    refine EV_lconst (x := (0 : Int64)) dX12_set_6 (by decide) ?_
    refine EV_ldc2 (x := (65534 : Int64)) dX12_set_7 tw_1103 ?_
    have hh := b2_some h; clear h; obtain ⟨x3, s2, hs2, h⟩ := hh
    refine EV_callS (Y := YX12_in) (as := [VL ((pi2).toInt64), VL (0 : Int64), VL (65534 : Int64)]) (st := []) (st2 := [VI x3]) (n := 3) dX12_set_10 (zX12_in E hs2) rfl cwX12_in rfl tw_1104 tw_1105 ⟨by decide, by decide⟩ (Nat.le_of_ble_eq_true rfl) rfl ?_
    refine EV_goto (tgt := 69) dX12_set_13 (by decide) ?_
    exact EV_pick [0, 1, 2] rfl (zX12_set_69 E h)
  · rw [if_neg c1] at h
    refine EV_iload_n dX12_set_16 rfl ?_
    refine EV_iconst (x := (1 : Int32)) dX12_set_17 (by decide) ?_
    refine EV_icmp_eq (tgt := 26) dX12_set_18 (by decide) (fun c2 => ?_) (fun c2 => ?_)
    · rw [if_pos c2] at h
      exact EV_pick [0, 1, 2] rfl (zX12_set_26 E h)
    · rw [if_neg c2] at h
      refine EV_iload_n dX12_set_21 rfl ?_
      refine EV_iconst (x := (2 : Int32)) dX12_set_22 (by decide) ?_
      refine EV_icmp_ne (tgt := 38) dX12_set_23 (by decide) (fun c3 => ?_) (fun c3 => ?_)
      · rw [if_pos c3] at h
        exact EV_pick [0, 1, 2] rfl (zX12_set_26 E h)
      · rw [if_neg c3] at h
        refine EV_iload_n dX12_set_38 rfl ?_
        refine EV_i2l dX12_set_39 ?_
        refine EV_ldc2 (x := (3 : Int64)) dX12_set_40 tw_1108 ?_
        refine EV_ldc2 (x := (6 : Int64)) dX12_set_43 tw_1109 ?_
        have hh := b2_some h; clear h; obtain ⟨x5, s4, hs4, h⟩ := hh
        refine EV_callS (Y := YX12_in) (as := [VL ((pi1).toInt64), VL (3 : Int64), VL (6 : Int64)]) (st := []) (st2 := [VI x5]) (n := 3) dX12_set_46 (zX12_in E hs4) rfl cwX12_in rfl tw_1104 tw_1105 ⟨by decide, by decide⟩ (Nat.le_of_ble_eq_true rfl) rfl ?_
        refine EV_if_eq (tgt := 68) dX12_set_49 (by decide) (fun c6 => ?_) (fun c6 => ?_)
        · rw [if_pos c6] at h
          exact EV_pick [0, 1, 2] rfl (zX12_set_68 E h)
        · rw [if_neg c6] at h
          refine EV_iload_n dX12_set_52 rfl ?_
          refine EV_i2l dX12_set_53 ?_
          refine EV_lconst (x := (1 : Int64)) dX12_set_54 (by decide) ?_
          refine EV_ldc2 (x := (1000 : Int64)) dX12_set_55 tw_1110 ?_
          have hh := b2_some h; clear h; obtain ⟨x8, s7, hs7, h⟩ := hh
          refine EV_callS (Y := YX12_in) (as := [VL ((pi2).toInt64), VL (1 : Int64), VL (1000 : Int64)]) (st := []) (st2 := [VI x8]) (n := 3) dX12_set_58 (zX12_in E hs7) rfl cwX12_in rfl tw_1104 tw_1105 ⟨by decide, by decide⟩ (Nat.le_of_ble_eq_true rfl) rfl ?_
          refine EV_if_eq (tgt := 68) dX12_set_61 (by decide) (fun c9 => ?_) (fun c9 => ?_)
          · rw [if_pos c9] at h
            exact EV_pick [0, 1, 2] rfl (zX12_set_68 E h)
          · rw [if_neg c9] at h
            refine EV_iconst (x := (1 : Int32)) dX12_set_64 (by decide) ?_
            refine EV_goto (tgt := 69) dX12_set_65 (by decide) ?_
            exact EV_pick [0, 1, 2] rfl (zX12_set_69 E h)
def mX12_isFree_75 (k48 : Nat → Int32 → Int32 → Int32 → eS → Option (Int32 × eS)) (h0 : Nat) (pi1 : Int32) (pi3 : Int32) (pt0 : Int32) (s0 : eS) : Option (Int32 × eS) :=
  (k48 h0 pi1 pt0 (pi3 + (1 : Int32)) s0)
set_option maxRecDepth 100000 in
set_option maxHeartbeats 4000000 in
theorem zX12_isFree_75 (E : eE) {k48 : Nat → Int32 → Int32 → Int32 → eS → Option (Int32 × eS)} (hk48 : ∀ {h0 : Nat} {pi1 : Int32} {pi2 : Int32} {pi3 : Int32} {s0 s9 : eS} {y : Int32}, k48 h0 pi1 pi2 pi3 s0 = some (y, s9) → EV E MX12_isFree 48 [(0, VR (some h0)), (1, VI pi1), (2, VI pi2), (3, VI pi3)] [] s0 (some (VI y)) s9) {h0 : Nat} {pi1 : Int32} {pi3 : Int32} {pt0 : Int32} {s0 s9 : eS} {y : Int32} (h : mX12_isFree_75 k48 h0 pi1 pi3 pt0 s0 = some (y, s9)) : EV E MX12_isFree 75 [(0, VR (some h0)), (1, VI pi1), (3, VI pi3)] [VI pt0] s0 (some (VI y)) s9 := by
  unfold mX12_isFree_75 at h
  refine EV_istore_n (lv2 := [(2, VI pt0), (0, VR (some h0)), (1, VI pi1), (3, VI pi3)]) dX12_isFree_75 (by decide) rfl ?_
  refine EV_iinc (y := (1 : Int32)) (lv2 := [(3, VI (pi3 + (1 : Int32))), (2, VI pt0), (0, VR (some h0)), (1, VI pi1)]) dX12_isFree_76 rfl (by decide) (by decide) rfl ?_
  refine EV_goto (tgt := 48) dX12_isFree_79 (by decide) ?_
  exact EV_pick [2, 3, 1, 0] rfl (hk48 h)
def mX12_isFree_74 (k48 : Nat → Int32 → Int32 → Int32 → eS → Option (Int32 × eS)) (h0 : Nat) (pi1 : Int32) (pi3 : Int32) (s0 : eS) : Option (Int32 × eS) :=
  (mX12_isFree_75 k48 h0 pi1 pi3 (0 : Int32) s0)
set_option maxRecDepth 100000 in
set_option maxHeartbeats 4000000 in
theorem zX12_isFree_74 (E : eE) {k48 : Nat → Int32 → Int32 → Int32 → eS → Option (Int32 × eS)} (hk48 : ∀ {h0 : Nat} {pi1 : Int32} {pi2 : Int32} {pi3 : Int32} {s0 s9 : eS} {y : Int32}, k48 h0 pi1 pi2 pi3 s0 = some (y, s9) → EV E MX12_isFree 48 [(0, VR (some h0)), (1, VI pi1), (2, VI pi2), (3, VI pi3)] [] s0 (some (VI y)) s9) {h0 : Nat} {pi1 : Int32} {pi3 : Int32} {s0 s9 : eS} {y : Int32} (h : mX12_isFree_74 k48 h0 pi1 pi3 s0 = some (y, s9)) : EV E MX12_isFree 74 [(0, VR (some h0)), (1, VI pi1), (3, VI pi3)] [] s0 (some (VI y)) s9 := by
  unfold mX12_isFree_74 at h
  refine EV_iconst (x := (0 : Int32)) dX12_isFree_74 (by decide) ?_
  exact EV_pick [0, 1, 2] rfl (zX12_isFree_75 E hk48 h)
def mX12_isFree_48 : Nat → Nat → Int32 → Int32 → Int32 → eS → Option (Int32 × eS)
  | 0, _, _, _, _, _ => none
  | n + 1, h0, pi1, pi2, pi3, s0 =>
  (b1 (g_I s0 112 9 h0) fun x1 => (if x1 ≤ pi3 then (b1 (o_Z pi2) fun u3 => some (pi2, s0)) else (if pi2 = 0 then (mX12_isFree_74 (mX12_isFree_48 n) h0 pi1 pi3 s0) else (b1 (g_P s0 112 11 h0) fun r4 => (b1 r4 fun a5 => (b1 (a_I s0 0 a5 pi3) fun x6 => (if x6 = pi1 then (mX12_isFree_74 (mX12_isFree_48 n) h0 pi1 pi3 s0) else (mX12_isFree_75 (mX12_isFree_48 n) h0 pi1 pi3 (1 : Int32) s0))))))))
set_option maxRecDepth 100000 in
set_option maxHeartbeats 4000000 in
theorem zX12_isFree_48 (E : eE) : ∀ (n : Nat) {h0 : Nat} {pi1 : Int32} {pi2 : Int32} {pi3 : Int32} {s0 s9 : eS} {y : Int32}, mX12_isFree_48 n h0 pi1 pi2 pi3 s0 = some (y, s9) → EV E MX12_isFree 48 [(0, VR (some h0)), (1, VI pi1), (2, VI pi2), (3, VI pi3)] [] s0 (some (VI y)) s9 := by
  intro n
  induction n with
  | zero =>
    intro h0 pi1 pi2 pi3 s0 s9 y h
    unfold mX12_isFree_48 at h
    cases h
  | succ n ih =>
    intro h0 pi1 pi2 pi3 s0 s9 y h
    unfold mX12_isFree_48 at h
    refine EV_iload_n dX12_isFree_48 rfl ?_
    refine EV_aload_n dX12_isFree_49 rfl ?_
    have hh := b1_some h; clear h; obtain ⟨x1, hx1, h⟩ := hh
    refine EV_getI (ci := 12) (k := 9) dX12_isFree_50 fl_X12_130 rfl hx1 ?_
    refine EV_icmp_ge (tgt := 82) dX12_isFree_53 (by decide) (fun c2 => ?_) (fun c2 => ?_)
    · rw [if_pos c2] at h
      refine EV_iload_n dX12_isFree_82 rfl ?_
      have hh := b1_some h; clear h; obtain ⟨u3, hu3, h⟩ := hh
      cases h
      exact EV_ret ⟨dX12_isFree_83, .boolean, rfl, o_Z_n hu3⟩ rfl
    · rw [if_neg c2] at h
      refine EV_iload_n dX12_isFree_56 rfl ?_
      refine EV_if_eq (tgt := 74) dX12_isFree_57 (by decide) (fun c3 => ?_) (fun c3 => ?_)
      · rw [if_pos c3] at h
        exact EV_pick [0, 1, 3] rfl (zX12_isFree_74 E (@ih) h)
      · rw [if_neg c3] at h
        refine EV_aload_n dX12_isFree_60 rfl ?_
        have hh := b1_some h; clear h; obtain ⟨r4, hr4, h⟩ := hh
        refine EV_getP (ci := 12) (k := 11) dX12_isFree_61 fl_X12_38 rfl hr4 ?_
        refine EV_iload_n dX12_isFree_64 rfl ?_
        have hh := b1_some h; clear h; obtain ⟨a5, ha5, h⟩ := hh
        subst ha5
        have hh := b1_some h; clear h; obtain ⟨x6, hx6, h⟩ := hh
        refine EV_aI (t := 0) (ty := .int) rfl (by decide) dX12_isFree_65 hx6 ?_
        refine EV_iload_n dX12_isFree_66 rfl ?_
        refine EV_icmp_eq (tgt := 74) dX12_isFree_67 (by decide) (fun c7 => ?_) (fun c7 => ?_)
        · rw [if_pos c7] at h
          exact EV_pick [0, 1, 3] rfl (zX12_isFree_74 E (@ih) h)
        · rw [if_neg c7] at h
          refine EV_iconst (x := (1 : Int32)) dX12_isFree_70 (by decide) ?_
          refine EV_goto (tgt := 75) dX12_isFree_71 (by decide) ?_
          exact EV_pick [0, 1, 3] rfl (zX12_isFree_75 E (@ih) h)
def mX12_isFree_39 (k12 : Nat → Int32 → Int32 → Int32 → eS → Option (Int32 × eS)) (h0 : Nat) (pi1 : Int32) (pi3 : Int32) (pt0 : Int32) (s0 : eS) : Option (Int32 × eS) :=
  (k12 h0 pi1 pt0 (pi3 + (1 : Int32)) s0)
set_option maxRecDepth 100000 in
set_option maxHeartbeats 4000000 in
theorem zX12_isFree_39 (E : eE) {k12 : Nat → Int32 → Int32 → Int32 → eS → Option (Int32 × eS)} (hk12 : ∀ {h0 : Nat} {pi1 : Int32} {pi2 : Int32} {pi3 : Int32} {s0 s9 : eS} {y : Int32}, k12 h0 pi1 pi2 pi3 s0 = some (y, s9) → EV E MX12_isFree 12 [(0, VR (some h0)), (1, VI pi1), (2, VI pi2), (3, VI pi3)] [] s0 (some (VI y)) s9) {h0 : Nat} {pi1 : Int32} {pi3 : Int32} {pt0 : Int32} {s0 s9 : eS} {y : Int32} (h : mX12_isFree_39 k12 h0 pi1 pi3 pt0 s0 = some (y, s9)) : EV E MX12_isFree 39 [(0, VR (some h0)), (1, VI pi1), (3, VI pi3)] [VI pt0] s0 (some (VI y)) s9 := by
  unfold mX12_isFree_39 at h
  refine EV_istore_n (lv2 := [(2, VI pt0), (0, VR (some h0)), (1, VI pi1), (3, VI pi3)]) dX12_isFree_39 (by decide) rfl ?_
  refine EV_iinc (y := (1 : Int32)) (lv2 := [(3, VI (pi3 + (1 : Int32))), (2, VI pt0), (0, VR (some h0)), (1, VI pi1)]) dX12_isFree_40 rfl (by decide) (by decide) rfl ?_
  refine EV_goto (tgt := 12) dX12_isFree_43 (by decide) ?_
  exact EV_pick [2, 3, 1, 0] rfl (hk12 h)
def mX12_isFree_38 (k12 : Nat → Int32 → Int32 → Int32 → eS → Option (Int32 × eS)) (h0 : Nat) (pi1 : Int32) (pi3 : Int32) (s0 : eS) : Option (Int32 × eS) :=
  (mX12_isFree_39 k12 h0 pi1 pi3 (0 : Int32) s0)
set_option maxRecDepth 100000 in
set_option maxHeartbeats 4000000 in
theorem zX12_isFree_38 (E : eE) {k12 : Nat → Int32 → Int32 → Int32 → eS → Option (Int32 × eS)} (hk12 : ∀ {h0 : Nat} {pi1 : Int32} {pi2 : Int32} {pi3 : Int32} {s0 s9 : eS} {y : Int32}, k12 h0 pi1 pi2 pi3 s0 = some (y, s9) → EV E MX12_isFree 12 [(0, VR (some h0)), (1, VI pi1), (2, VI pi2), (3, VI pi3)] [] s0 (some (VI y)) s9) {h0 : Nat} {pi1 : Int32} {pi3 : Int32} {s0 s9 : eS} {y : Int32} (h : mX12_isFree_38 k12 h0 pi1 pi3 s0 = some (y, s9)) : EV E MX12_isFree 38 [(0, VR (some h0)), (1, VI pi1), (3, VI pi3)] [] s0 (some (VI y)) s9 := by
  unfold mX12_isFree_38 at h
  refine EV_iconst (x := (0 : Int32)) dX12_isFree_38 (by decide) ?_
  exact EV_pick [0, 1, 2] rfl (zX12_isFree_39 E hk12 h)
def mX12_isFree_12 : Nat → Nat → Int32 → Int32 → Int32 → eS → Option (Int32 × eS)
  | 0, _, _, _, _, _ => none
  | n + 1, h0, pi1, pi2, pi3, s0 =>
  (b1 (g_I s0 112 1 h0) fun x1 => (if x1 ≤ pi3 then (mX12_isFree_48 100000 h0 pi1 pi2 (0 : Int32) s0) else (if pi2 = 0 then (mX12_isFree_38 (mX12_isFree_12 n) h0 pi1 pi3 s0) else (b1 (g_P s0 112 3 h0) fun r4 => (b1 r4 fun a5 => (b1 (a_I s0 0 a5 pi3) fun x6 => (if x6 = pi1 then (mX12_isFree_38 (mX12_isFree_12 n) h0 pi1 pi3 s0) else (mX12_isFree_39 (mX12_isFree_12 n) h0 pi1 pi3 (1 : Int32) s0))))))))
set_option maxRecDepth 100000 in
set_option maxHeartbeats 4000000 in
theorem zX12_isFree_12 (E : eE) : ∀ (n : Nat) {h0 : Nat} {pi1 : Int32} {pi2 : Int32} {pi3 : Int32} {s0 s9 : eS} {y : Int32}, mX12_isFree_12 n h0 pi1 pi2 pi3 s0 = some (y, s9) → EV E MX12_isFree 12 [(0, VR (some h0)), (1, VI pi1), (2, VI pi2), (3, VI pi3)] [] s0 (some (VI y)) s9 := by
  intro n
  induction n with
  | zero =>
    intro h0 pi1 pi2 pi3 s0 s9 y h
    unfold mX12_isFree_12 at h
    cases h
  | succ n ih =>
    intro h0 pi1 pi2 pi3 s0 s9 y h
    unfold mX12_isFree_12 at h
    refine EV_iload_n dX12_isFree_12 rfl ?_
    refine EV_aload_n dX12_isFree_13 rfl ?_
    have hh := b1_some h; clear h; obtain ⟨x1, hx1, h⟩ := hh
    refine EV_getI (ci := 12) (k := 1) dX12_isFree_14 fl_X12_108 rfl hx1 ?_
    refine EV_icmp_ge (tgt := 46) dX12_isFree_17 (by decide) (fun c2 => ?_) (fun c2 => ?_)
    · rw [if_pos c2] at h
      refine EV_iconst (x := (0 : Int32)) dX12_isFree_46 (by decide) ?_
      refine EV_istore_n (lv2 := [(3, VI (0 : Int32)), (0, VR (some h0)), (1, VI pi1), (2, VI pi2)]) dX12_isFree_47 (by decide) rfl ?_
      exact EV_pick [1, 2, 3, 0] rfl (zX12_isFree_48 E _ h)
    · rw [if_neg c2] at h
      refine EV_iload_n dX12_isFree_20 rfl ?_
      refine EV_if_eq (tgt := 38) dX12_isFree_21 (by decide) (fun c3 => ?_) (fun c3 => ?_)
      · rw [if_pos c3] at h
        exact EV_pick [0, 1, 3] rfl (zX12_isFree_38 E (@ih) h)
      · rw [if_neg c3] at h
        refine EV_aload_n dX12_isFree_24 rfl ?_
        have hh := b1_some h; clear h; obtain ⟨r4, hr4, h⟩ := hh
        refine EV_getP (ci := 12) (k := 3) dX12_isFree_25 fl_X12_16 rfl hr4 ?_
        refine EV_iload_n dX12_isFree_28 rfl ?_
        have hh := b1_some h; clear h; obtain ⟨a5, ha5, h⟩ := hh
        subst ha5
        have hh := b1_some h; clear h; obtain ⟨x6, hx6, h⟩ := hh
        refine EV_aI (t := 0) (ty := .int) rfl (by decide) dX12_isFree_29 hx6 ?_
        refine EV_iload_n dX12_isFree_30 rfl ?_
        refine EV_icmp_eq (tgt := 38) dX12_isFree_31 (by decide) (fun c7 => ?_) (fun c7 => ?_)
        · rw [if_pos c7] at h
          exact EV_pick [0, 1, 3] rfl (zX12_isFree_38 E (@ih) h)
        · rw [if_neg c7] at h
          refine EV_iconst (x := (1 : Int32)) dX12_isFree_34 (by decide) ?_
          refine EV_goto (tgt := 39) dX12_isFree_35 (by decide) ?_
          exact EV_pick [0, 1, 3] rfl (zX12_isFree_39 E (@ih) h)
def mX12_isFree (h0 : Nat) (pi1 : Int32) (s0 : eS) : Option (Int32 × eS) :=
  (b2 (mX12_in ((pi1).toInt64) (1 : Int64) (16777215 : Int64) s0) fun x2 s1 => (mX12_isFree_12 100000 h0 pi1 x2 (0 : Int32) s1))
set_option maxRecDepth 100000 in
set_option maxHeartbeats 4000000 in
theorem zX12_isFree (E : eE) {h0 : Nat} {pi1 : Int32} {s0 s9 : eS} {y : Int32} (h : mX12_isFree h0 pi1 s0 = some (y, s9)) : EM E YX12_isFree [VR (some h0), VI pi1] s0 (some (VI y)) s9 := by
  refine EM_of (M := MX12_isFree) (own := RX12) (ini := false) rfl (by decide +kernel) rfl (fun z => nomatch z) (Nat.le_of_ble_eq_true rfl) ?_
  unfold mX12_isFree at h
  refine EV_iload_n dX12_isFree_0 rfl ?_
  refine EV_i2l dX12_isFree_1 ?_
  refine EV_lconst (x := (1 : Int64)) dX12_isFree_2 (by decide) ?_
  refine EV_ldc2 (x := (16777215 : Int64)) dX12_isFree_3 tw_1120 ?_
  have hh := b2_some h; clear h; obtain ⟨x2, s1, hs1, h⟩ := hh
  refine EV_callS (Y := YX12_in) (as := [VL ((pi1).toInt64), VL (1 : Int64), VL (16777215 : Int64)]) (st := []) (st2 := [VI x2]) (n := 3) dX12_isFree_6 (zX12_in E hs1) rfl cwX12_in rfl tw_1104 tw_1105 ⟨by decide, by decide⟩ (Nat.le_of_ble_eq_true rfl) rfl ?_
  refine EV_istore_n (lv2 := [(2, VI x2), (0, VR (some h0)), (1, VI pi1)]) dX12_isFree_9 (by decide) rfl ?_
  refine EV_iconst (x := (0 : Int32)) dX12_isFree_10 (by decide) ?_
  refine EV_istore_n (lv2 := [(3, VI (0 : Int32)), (2, VI x2), (0, VR (some h0)), (1, VI pi1)]) dX12_isFree_11 (by decide) rfl ?_
  exact EV_pick [2, 3, 1, 0] rfl (zX12_isFree_12 E _ h)
def mX12_point_32 (s0 : eS) : Option (Int32 × eS) :=
  (some ((-1 : Int32), s0))
set_option maxRecDepth 100000 in
set_option maxHeartbeats 4000000 in
theorem zX12_point_32 (E : eE) {s0 s9 : eS} {y : Int32} (h : mX12_point_32 s0 = some (y, s9)) : EV E MX12_point 32 [] [] s0 (some (VI y)) s9 := by
  unfold mX12_point_32 at h
  refine EV_iconst (x := (-1 : Int32)) dX12_point_32 (by decide) ?_
  cases h
  exact EV_ret ⟨dX12_point_33, .int, rfl, rfl⟩ rfl
def mX12_point (h0 : Nat) (pi1 : Int32) (pi2 : Int32) (pi3 : Int32) (pi4 : Int32) (s0 : eS) : Option (Int32 × eS) :=
  (b2 (mX12_in ((pi1).toInt64) (0 : Int64) (6 : Int64) s0) fun x2 s1 => (if x2 = 0 then (mX12_point_32 s1) else (b2 (mX12_in ((pi3).toInt64) (0 : Int64) (16 : Int64) s1) fun x5 s4 => (if x5 = 0 then (mX12_point_32 s4) else (b1 (o_K s4 112 h0) fun u31 => (b2 (mX12_isFree h0 pi2 s4) fun x8 s7 => (if x8 = 0 then (mX12_point_32 s7) else (b1 (g_I s7 112 1 h0) fun x10 => (if x10 = (24 : Int32) then (some ((-3 : Int32), s7)) else (b1 (g_P s7 112 2 h0) fun r12 => (b1 (g_I s7 112 1 h0) fun x13 => (b1 r12 fun a14 => (b1 (s_I s7 0 a14 x13 pi1) fun s15 => (b1 (g_P s15 112 3 h0) fun r16 => (b1 (g_I s15 112 1 h0) fun x17 => (b1 r16 fun a18 => (b1 (s_I s15 0 a18 x17 pi2) fun s19 => (b1 (g_P s19 112 4 h0) fun r20 => (b1 (g_I s19 112 1 h0) fun x21 => (b1 r20 fun a22 => (b1 (s_I s19 0 a22 x21 pi3) fun s23 => (b1 (g_P s23 112 5 h0) fun r24 => (b1 (g_I s23 112 1 h0) fun x25 => (b1 r24 fun a26 => (b1 (s_Z s23 2 a26 x25 pi4) fun s27 => (b1 (g_I s27 112 1 h0) fun x28 => (b1 (p_I s27 112 1 h0 (x28 + (1 : Int32))) fun s29 => (b1 (g_I s29 112 1 h0) fun x30 => (some ((x30 - (1 : Int32)), s29))))))))))))))))))))))))))))))
set_option maxRecDepth 100000 in
set_option maxHeartbeats 4000000 in
theorem zX12_point (E : eE) {h0 : Nat} {pi1 : Int32} {pi2 : Int32} {pi3 : Int32} {pi4 : Int32} {s0 s9 : eS} {y : Int32} (h : mX12_point h0 pi1 pi2 pi3 pi4 s0 = some (y, s9)) : EM E YX12_point [VR (some h0), VI pi1, VI pi2, VI pi3, VI pi4] s0 (some (VI y)) s9 := by
  refine EM_of (M := MX12_point) (own := RX12) (ini := false) rfl (by decide +kernel) rfl (fun z => nomatch z) (Nat.le_of_ble_eq_true rfl) ?_
  unfold mX12_point at h
  refine EV_iload_n dX12_point_0 rfl ?_
  refine EV_i2l dX12_point_1 ?_
  refine EV_lconst (x := (0 : Int64)) dX12_point_2 (by decide) ?_
  refine EV_ldc2 (x := (6 : Int64)) dX12_point_3 tw_1109 ?_
  have hh := b2_some h; clear h; obtain ⟨x2, s1, hs1, h⟩ := hh
  refine EV_callS (Y := YX12_in) (as := [VL ((pi1).toInt64), VL (0 : Int64), VL (6 : Int64)]) (st := []) (st2 := [VI x2]) (n := 3) dX12_point_6 (zX12_in E hs1) rfl cwX12_in rfl tw_1104 tw_1105 ⟨by decide, by decide⟩ (Nat.le_of_ble_eq_true rfl) rfl ?_
  refine EV_if_eq (tgt := 32) dX12_point_9 (by decide) (fun c3 => ?_) (fun c3 => ?_)
  · rw [if_pos c3] at h
    exact EV_pick [] rfl (zX12_point_32 E h)
  · rw [if_neg c3] at h
    refine EV_iload_n dX12_point_12 rfl ?_
    refine EV_i2l dX12_point_13 ?_
    refine EV_lconst (x := (0 : Int64)) dX12_point_14 (by decide) ?_
    refine EV_ldc2 (x := (16 : Int64)) dX12_point_15 tw_1115 ?_
    have hh := b2_some h; clear h; obtain ⟨x5, s4, hs4, h⟩ := hh
    refine EV_callS (Y := YX12_in) (as := [VL ((pi3).toInt64), VL (0 : Int64), VL (16 : Int64)]) (st := []) (st2 := [VI x5]) (n := 3) dX12_point_18 (zX12_in E hs4) rfl cwX12_in rfl tw_1104 tw_1105 ⟨by decide, by decide⟩ (Nat.le_of_ble_eq_true rfl) rfl ?_
    refine EV_if_eq (tgt := 32) dX12_point_21 (by decide) (fun c6 => ?_) (fun c6 => ?_)
    · rw [if_pos c6] at h
      exact EV_pick [] rfl (zX12_point_32 E h)
    · rw [if_neg c6] at h
      refine EV_aload_n dX12_point_24 rfl ?_
      refine EV_iload_n dX12_point_25 rfl ?_
      have hh := b1_some h; clear h; obtain ⟨u31, hu31, h⟩ := hh
      have hh := b2_some h; clear h; obtain ⟨x8, s7, hs7, h⟩ := hh
      refine EV_callV (Y := YX12_isFree) (as := [VI pi2]) (st := []) (st2 := [VI x8]) (a := h0) (ci := 12) (r := rX12) (n := 1) dX12_point_26 (zX12_isFree E hs7) rfl cwX12_isFree rfl tw_1116 tw_1118 tw_32 rfl (e_if hu31).1.1 (e_if hu31).1.2 ⟨by decide, by decide⟩ (Nat.le_of_ble_eq_true rfl) rfl ?_
      refine EV_if_ne (tgt := 34) dX12_point_29 (by decide) (fun c9 => ?_) (fun c9 => ?_)
      · rw [if_pos c9] at h
        exact EV_pick [] rfl (zX12_point_32 E h)
      · rw [if_neg c9] at h
        refine EV_aload_n dX12_point_34 rfl ?_
        have hh := b1_some h; clear h; obtain ⟨x10, hx10, h⟩ := hh
        refine EV_getI (ci := 12) (k := 1) dX12_point_35 fl_X12_108 rfl hx10 ?_
        refine EV_bipush (x := (24 : Int32)) dX12_point_38 (by decide) ?_
        refine EV_icmp_ne (tgt := 46) dX12_point_40 (by decide) (fun c11 => ?_) (fun c11 => ?_)
        · rw [if_pos c11] at h
          refine EV_bipush (x := (-3 : Int32)) dX12_point_43 (by decide) ?_
          cases h
          exact EV_ret ⟨dX12_point_45, .int, rfl, rfl⟩ rfl
        · rw [if_neg c11] at h
          refine EV_aload_n dX12_point_46 rfl ?_
          have hh := b1_some h; clear h; obtain ⟨r12, hr12, h⟩ := hh
          refine EV_getP (ci := 12) (k := 2) dX12_point_47 fl_X12_13 rfl hr12 ?_
          refine EV_aload_n dX12_point_50 rfl ?_
          have hh := b1_some h; clear h; obtain ⟨x13, hx13, h⟩ := hh
          refine EV_getI (ci := 12) (k := 1) dX12_point_51 fl_X12_108 rfl hx13 ?_
          refine EV_iload_n dX12_point_54 rfl ?_
          have hh := b1_some h; clear h; obtain ⟨a14, ha14, h⟩ := hh
          subst ha14
          have hh := b1_some h; clear h; obtain ⟨s15, hs15, h⟩ := hh
          refine EV_sI (t := 0) rfl dX12_point_55 hs15 ?_
          refine EV_aload_n dX12_point_56 rfl ?_
          have hh := b1_some h; clear h; obtain ⟨r16, hr16, h⟩ := hh
          refine EV_getP (ci := 12) (k := 3) dX12_point_57 fl_X12_16 rfl hr16 ?_
          refine EV_aload_n dX12_point_60 rfl ?_
          have hh := b1_some h; clear h; obtain ⟨x17, hx17, h⟩ := hh
          refine EV_getI (ci := 12) (k := 1) dX12_point_61 fl_X12_108 rfl hx17 ?_
          refine EV_iload_n dX12_point_64 rfl ?_
          have hh := b1_some h; clear h; obtain ⟨a18, ha18, h⟩ := hh
          subst ha18
          have hh := b1_some h; clear h; obtain ⟨s19, hs19, h⟩ := hh
          refine EV_sI (t := 0) rfl dX12_point_65 hs19 ?_
          refine EV_aload_n dX12_point_66 rfl ?_
          have hh := b1_some h; clear h; obtain ⟨r20, hr20, h⟩ := hh
          refine EV_getP (ci := 12) (k := 4) dX12_point_67 fl_X12_19 rfl hr20 ?_
          refine EV_aload_n dX12_point_70 rfl ?_
          have hh := b1_some h; clear h; obtain ⟨x21, hx21, h⟩ := hh
          refine EV_getI (ci := 12) (k := 1) dX12_point_71 fl_X12_108 rfl hx21 ?_
          refine EV_iload_n dX12_point_74 rfl ?_
          have hh := b1_some h; clear h; obtain ⟨a22, ha22, h⟩ := hh
          subst ha22
          have hh := b1_some h; clear h; obtain ⟨s23, hs23, h⟩ := hh
          refine EV_sI (t := 0) rfl dX12_point_75 hs23 ?_
          refine EV_aload_n dX12_point_76 rfl ?_
          have hh := b1_some h; clear h; obtain ⟨r24, hr24, h⟩ := hh
          refine EV_getP (ci := 12) (k := 5) dX12_point_77 fl_X12_22 rfl hr24 ?_
          refine EV_aload_n dX12_point_80 rfl ?_
          have hh := b1_some h; clear h; obtain ⟨x25, hx25, h⟩ := hh
          refine EV_getI (ci := 12) (k := 1) dX12_point_81 fl_X12_108 rfl hx25 ?_
          refine EV_iload dX12_point_84 rfl ?_
          have hh := b1_some h; clear h; obtain ⟨a26, ha26, h⟩ := hh
          subst ha26
          have hh := b1_some h; clear h; obtain ⟨s27, hs27, h⟩ := hh
          refine EV_sZ (t := 2) rfl dX12_point_86 hs27 ?_
          refine EV_aload_n dX12_point_87 rfl ?_
          refine EV_dup dX12_point_88 rfl ?_
          have hh := b1_some h; clear h; obtain ⟨x28, hx28, h⟩ := hh
          refine EV_getI (ci := 12) (k := 1) dX12_point_89 fl_X12_108 rfl hx28 ?_
          refine EV_iconst (x := (1 : Int32)) dX12_point_92 (by decide) ?_
          refine EV_iadd dX12_point_93 ?_
          have hh := b1_some h; clear h; obtain ⟨s29, hs29, h⟩ := hh
          refine EV_putI (ci := 12) (k := 1) dX12_point_94 fp_X12_108 rfl hs29 ?_
          refine EV_aload_n dX12_point_97 rfl ?_
          have hh := b1_some h; clear h; obtain ⟨x30, hx30, h⟩ := hh
          refine EV_getI (ci := 12) (k := 1) dX12_point_98 fl_X12_108 rfl hx30 ?_
          refine EV_iconst (x := (1 : Int32)) dX12_point_101 (by decide) ?_
          refine EV_isub dX12_point_102 ?_
          cases h
          exact EV_ret ⟨dX12_point_103, .int, rfl, rfl⟩ rfl
def mX12_command_33 (s0 : eS) : Option (Int32 × eS) :=
  (some ((-1 : Int32), s0))
set_option maxRecDepth 100000 in
set_option maxHeartbeats 4000000 in
theorem zX12_command_33 (E : eE) {s0 s9 : eS} {y : Int32} (h : mX12_command_33 s0 = some (y, s9)) : EV E MX12_command 33 [] [] s0 (some (VI y)) s9 := by
  unfold mX12_command_33 at h
  refine EV_iconst (x := (-1 : Int32)) dX12_command_33 (by decide) ?_
  cases h
  exact EV_ret ⟨dX12_command_34, .int, rfl, rfl⟩ rfl
def mX12_command_69 (h0 : Nat) (pi1 : Int32) (pi2 : Int32) (pi3 : Int32) (pi4 : Int32) (s0 : eS) : Option (Int32 × eS) :=
  (b1 (g_I s0 112 9 h0) fun x1 => (if x1 = (12 : Int32) then (some ((-3 : Int32), s0)) else (b1 (g_P s0 112 10 h0) fun r3 => (b1 (g_I s0 112 9 h0) fun x4 => (b1 r3 fun a5 => (b1 (s_I s0 0 a5 x4 pi1) fun s6 => (b1 (g_P s6 112 11 h0) fun r7 => (b1 (g_I s6 112 9 h0) fun x8 => (b1 r7 fun a9 => (b1 (s_I s6 0 a9 x8 pi2) fun s10 => (b1 (g_P s10 112 12 h0) fun r11 => (b1 (g_I s10 112 9 h0) fun x12 => (b1 r11 fun a13 => (b1 (s_I s10 0 a13 x12 pi3) fun s14 => (b1 (g_P s14 112 13 h0) fun r15 => (b1 (g_I s14 112 9 h0) fun x16 => (b1 r15 fun a17 => (b1 (s_Z s14 2 a17 x16 pi4) fun s18 => (b1 (g_I s18 112 9 h0) fun x19 => (b1 (p_I s18 112 9 h0 (x19 + (1 : Int32))) fun s20 => (b1 (g_I s20 112 9 h0) fun x21 => (some ((x21 - (1 : Int32)), s20)))))))))))))))))))))))
set_option maxRecDepth 100000 in
set_option maxHeartbeats 4000000 in
theorem zX12_command_69 (E : eE) {h0 : Nat} {pi1 : Int32} {pi2 : Int32} {pi3 : Int32} {pi4 : Int32} {s0 s9 : eS} {y : Int32} (h : mX12_command_69 h0 pi1 pi2 pi3 pi4 s0 = some (y, s9)) : EV E MX12_command 69 [(0, VR (some h0)), (1, VI pi1), (2, VI pi2), (3, VI pi3), (4, VI pi4)] [] s0 (some (VI y)) s9 := by
  unfold mX12_command_69 at h
  refine EV_aload_n dX12_command_69 rfl ?_
  have hh := b1_some h; clear h; obtain ⟨x1, hx1, h⟩ := hh
  refine EV_getI (ci := 12) (k := 9) dX12_command_70 fl_X12_130 rfl hx1 ?_
  refine EV_bipush (x := (12 : Int32)) dX12_command_73 (by decide) ?_
  refine EV_icmp_ne (tgt := 81) dX12_command_75 (by decide) (fun c2 => ?_) (fun c2 => ?_)
  · rw [if_pos c2] at h
    refine EV_bipush (x := (-3 : Int32)) dX12_command_78 (by decide) ?_
    cases h
    exact EV_ret ⟨dX12_command_80, .int, rfl, rfl⟩ rfl
  · rw [if_neg c2] at h
    refine EV_aload_n dX12_command_81 rfl ?_
    have hh := b1_some h; clear h; obtain ⟨r3, hr3, h⟩ := hh
    refine EV_getP (ci := 12) (k := 10) dX12_command_82 fl_X12_35 rfl hr3 ?_
    refine EV_aload_n dX12_command_85 rfl ?_
    have hh := b1_some h; clear h; obtain ⟨x4, hx4, h⟩ := hh
    refine EV_getI (ci := 12) (k := 9) dX12_command_86 fl_X12_130 rfl hx4 ?_
    refine EV_iload_n dX12_command_89 rfl ?_
    have hh := b1_some h; clear h; obtain ⟨a5, ha5, h⟩ := hh
    subst ha5
    have hh := b1_some h; clear h; obtain ⟨s6, hs6, h⟩ := hh
    refine EV_sI (t := 0) rfl dX12_command_90 hs6 ?_
    refine EV_aload_n dX12_command_91 rfl ?_
    have hh := b1_some h; clear h; obtain ⟨r7, hr7, h⟩ := hh
    refine EV_getP (ci := 12) (k := 11) dX12_command_92 fl_X12_38 rfl hr7 ?_
    refine EV_aload_n dX12_command_95 rfl ?_
    have hh := b1_some h; clear h; obtain ⟨x8, hx8, h⟩ := hh
    refine EV_getI (ci := 12) (k := 9) dX12_command_96 fl_X12_130 rfl hx8 ?_
    refine EV_iload_n dX12_command_99 rfl ?_
    have hh := b1_some h; clear h; obtain ⟨a9, ha9, h⟩ := hh
    subst ha9
    have hh := b1_some h; clear h; obtain ⟨s10, hs10, h⟩ := hh
    refine EV_sI (t := 0) rfl dX12_command_100 hs10 ?_
    refine EV_aload_n dX12_command_101 rfl ?_
    have hh := b1_some h; clear h; obtain ⟨r11, hr11, h⟩ := hh
    refine EV_getP (ci := 12) (k := 12) dX12_command_102 fl_X12_41 rfl hr11 ?_
    refine EV_aload_n dX12_command_105 rfl ?_
    have hh := b1_some h; clear h; obtain ⟨x12, hx12, h⟩ := hh
    refine EV_getI (ci := 12) (k := 9) dX12_command_106 fl_X12_130 rfl hx12 ?_
    refine EV_iload_n dX12_command_109 rfl ?_
    have hh := b1_some h; clear h; obtain ⟨a13, ha13, h⟩ := hh
    subst ha13
    have hh := b1_some h; clear h; obtain ⟨s14, hs14, h⟩ := hh
    refine EV_sI (t := 0) rfl dX12_command_110 hs14 ?_
    refine EV_aload_n dX12_command_111 rfl ?_
    have hh := b1_some h; clear h; obtain ⟨r15, hr15, h⟩ := hh
    refine EV_getP (ci := 12) (k := 13) dX12_command_112 fl_X12_44 rfl hr15 ?_
    refine EV_aload_n dX12_command_115 rfl ?_
    have hh := b1_some h; clear h; obtain ⟨x16, hx16, h⟩ := hh
    refine EV_getI (ci := 12) (k := 9) dX12_command_116 fl_X12_130 rfl hx16 ?_
    refine EV_iload dX12_command_119 rfl ?_
    have hh := b1_some h; clear h; obtain ⟨a17, ha17, h⟩ := hh
    subst ha17
    have hh := b1_some h; clear h; obtain ⟨s18, hs18, h⟩ := hh
    refine EV_sZ (t := 2) rfl dX12_command_121 hs18 ?_
    refine EV_aload_n dX12_command_122 rfl ?_
    refine EV_dup dX12_command_123 rfl ?_
    have hh := b1_some h; clear h; obtain ⟨x19, hx19, h⟩ := hh
    refine EV_getI (ci := 12) (k := 9) dX12_command_124 fl_X12_130 rfl hx19 ?_
    refine EV_iconst (x := (1 : Int32)) dX12_command_127 (by decide) ?_
    refine EV_iadd dX12_command_128 ?_
    have hh := b1_some h; clear h; obtain ⟨s20, hs20, h⟩ := hh
    refine EV_putI (ci := 12) (k := 9) dX12_command_129 fp_X12_130 rfl hs20 ?_
    refine EV_aload_n dX12_command_132 rfl ?_
    have hh := b1_some h; clear h; obtain ⟨x21, hx21, h⟩ := hh
    refine EV_getI (ci := 12) (k := 9) dX12_command_133 fl_X12_130 rfl hx21 ?_
    refine EV_iconst (x := (1 : Int32)) dX12_command_136 (by decide) ?_
    refine EV_isub dX12_command_137 ?_
    cases h
    exact EV_ret ⟨dX12_command_138, .int, rfl, rfl⟩ rfl
def mX12_command_64 (h0 : Nat) (pi1 : Int32) (pi2 : Int32) (pi3 : Int32) (pi4 : Int32) (pt0 : Int32) (pt1 : Int32) (s0 : eS) : Option (Int32 × eS) :=
  (if pt1 = pt0 then (mX12_command_69 h0 pi1 pi2 pi3 pi4 s0) else (some ((-1 : Int32), s0)))
set_option maxRecDepth 100000 in
set_option maxHeartbeats 4000000 in
theorem zX12_command_64 (E : eE) {h0 : Nat} {pi1 : Int32} {pi2 : Int32} {pi3 : Int32} {pi4 : Int32} {pt0 : Int32} {pt1 : Int32} {s0 s9 : eS} {y : Int32} (h : mX12_command_64 h0 pi1 pi2 pi3 pi4 pt0 pt1 s0 = some (y, s9)) : EV E MX12_command 64 [(0, VR (some h0)), (1, VI pi1), (2, VI pi2), (3, VI pi3), (4, VI pi4)] [VI pt0, VI pt1] s0 (some (VI y)) s9 := by
  unfold mX12_command_64 at h
  refine EV_icmp_eq (tgt := 69) dX12_command_64 (by decide) (fun c1 => ?_) (fun c1 => ?_)
  · rw [if_pos c1] at h
    exact EV_pick [0, 1, 2, 3, 4] rfl (zX12_command_69 E h)
  · rw [if_neg c1] at h
    refine EV_iconst (x := (-1 : Int32)) dX12_command_67 (by decide) ?_
    cases h
    exact EV_ret ⟨dX12_command_68, .int, rfl, rfl⟩ rfl
def mX12_command_35 (h0 : Nat) (pi1 : Int32) (pi2 : Int32) (pi3 : Int32) (pi4 : Int32) (s0 : eS) : Option (Int32 × eS) :=
  (if pi3 = (-1 : Int32) then (mX12_command_69 h0 pi1 pi2 pi3 pi4 s0) else (b1 (g_P s0 112 2 h0) fun r2 => (b1 r2 fun a3 => (b1 (a_I s0 0 a3 pi3) fun x4 => (if pi1 = 0 then (mX12_command_64 h0 pi1 pi2 pi3 pi4 (0 : Int32) x4 s0) else (if pi1 = (1 : Int32) then (mX12_command_64 h0 pi1 pi2 pi3 pi4 (1 : Int32) x4 s0) else (mX12_command_64 h0 pi1 pi2 pi3 pi4 (4 : Int32) x4 s0)))))))
set_option maxRecDepth 100000 in
set_option maxHeartbeats 4000000 in
theorem zX12_command_35 (E : eE) {h0 : Nat} {pi1 : Int32} {pi2 : Int32} {pi3 : Int32} {pi4 : Int32} {s0 s9 : eS} {y : Int32} (h : mX12_command_35 h0 pi1 pi2 pi3 pi4 s0 = some (y, s9)) : EV E MX12_command 35 [(0, VR (some h0)), (1, VI pi1), (2, VI pi2), (3, VI pi3), (4, VI pi4)] [] s0 (some (VI y)) s9 := by
  unfold mX12_command_35 at h
  refine EV_iload_n dX12_command_35 rfl ?_
  refine EV_iconst (x := (-1 : Int32)) dX12_command_36 (by decide) ?_
  refine EV_icmp_eq (tgt := 69) dX12_command_37 (by decide) (fun c1 => ?_) (fun c1 => ?_)
  · rw [if_pos c1] at h
    exact EV_pick [0, 1, 2, 3, 4] rfl (zX12_command_69 E h)
  · rw [if_neg c1] at h
    refine EV_aload_n dX12_command_40 rfl ?_
    have hh := b1_some h; clear h; obtain ⟨r2, hr2, h⟩ := hh
    refine EV_getP (ci := 12) (k := 2) dX12_command_41 fl_X12_13 rfl hr2 ?_
    refine EV_iload_n dX12_command_44 rfl ?_
    have hh := b1_some h; clear h; obtain ⟨a3, ha3, h⟩ := hh
    subst ha3
    have hh := b1_some h; clear h; obtain ⟨x4, hx4, h⟩ := hh
    refine EV_aI (t := 0) (ty := .int) rfl (by decide) dX12_command_45 hx4 ?_
    refine EV_iload_n dX12_command_46 rfl ?_
    refine EV_if_ne (tgt := 54) dX12_command_47 (by decide) (fun c5 => ?_) (fun c5 => ?_)
    · rw [if_pos c5] at h
      refine EV_iconst (x := (0 : Int32)) dX12_command_50 (by decide) ?_
      refine EV_goto (tgt := 64) dX12_command_51 (by decide) ?_
      exact EV_pick [0, 1, 2, 3, 4] rfl (zX12_command_64 E h)
    · rw [if_neg c5] at h
      refine EV_iload_n dX12_command_54 rfl ?_
      refine EV_iconst (x := (1 : Int32)) dX12_command_55 (by decide) ?_
      refine EV_icmp_ne (tgt := 63) dX12_command_56 (by decide) (fun c6 => ?_) (fun c6 => ?_)
      · rw [if_pos c6] at h
        refine EV_iconst (x := (1 : Int32)) dX12_command_59 (by decide) ?_
        refine EV_goto (tgt := 64) dX12_command_60 (by decide) ?_
        exact EV_pick [0, 1, 2, 3, 4] rfl (zX12_command_64 E h)
      · rw [if_neg c6] at h
        refine EV_iconst (x := (4 : Int32)) dX12_command_63 (by decide) ?_
        exact EV_pick [0, 1, 2, 3, 4] rfl (zX12_command_64 E h)
def mX12_command (h0 : Nat) (pi1 : Int32) (pi2 : Int32) (pi3 : Int32) (pi4 : Int32) (s0 : eS) : Option (Int32 × eS) :=
  (b2 (mX12_in ((pi1).toInt64) (0 : Int64) (2 : Int64) s0) fun x2 s1 => (if x2 = 0 then (mX12_command_33 s1) else (b1 (o_K s1 112 h0) fun u12 => (b2 (mX12_isFree h0 pi2 s1) fun x5 s4 => (if x5 = 0 then (mX12_command_33 s4) else (if pi3 = (-1 : Int32) then (mX12_command_35 h0 pi1 pi2 pi3 pi4 s4) else (b1 (o_K s4 112 h0) fun u11 => (b2 (mX12_isPoint h0 pi3 s4) fun x9 s8 => (if x9 = 0 then (mX12_command_33 s8) else (mX12_command_35 h0 pi1 pi2 pi3 pi4 s8))))))))))
set_option maxRecDepth 100000 in
set_option maxHeartbeats 4000000 in
theorem zX12_command (E : eE) {h0 : Nat} {pi1 : Int32} {pi2 : Int32} {pi3 : Int32} {pi4 : Int32} {s0 s9 : eS} {y : Int32} (h : mX12_command h0 pi1 pi2 pi3 pi4 s0 = some (y, s9)) : EM E YX12_command [VR (some h0), VI pi1, VI pi2, VI pi3, VI pi4] s0 (some (VI y)) s9 := by
  refine EM_of (M := MX12_command) (own := RX12) (ini := false) rfl (by decide +kernel) rfl (fun z => nomatch z) (Nat.le_of_ble_eq_true rfl) ?_
  unfold mX12_command at h
  refine EV_iload_n dX12_command_0 rfl ?_
  refine EV_i2l dX12_command_1 ?_
  refine EV_lconst (x := (0 : Int64)) dX12_command_2 (by decide) ?_
  refine EV_ldc2 (x := (2 : Int64)) dX12_command_3 tw_1125 ?_
  have hh := b2_some h; clear h; obtain ⟨x2, s1, hs1, h⟩ := hh
  refine EV_callS (Y := YX12_in) (as := [VL ((pi1).toInt64), VL (0 : Int64), VL (2 : Int64)]) (st := []) (st2 := [VI x2]) (n := 3) dX12_command_6 (zX12_in E hs1) rfl cwX12_in rfl tw_1104 tw_1105 ⟨by decide, by decide⟩ (Nat.le_of_ble_eq_true rfl) rfl ?_
  refine EV_if_eq (tgt := 33) dX12_command_9 (by decide) (fun c3 => ?_) (fun c3 => ?_)
  · rw [if_pos c3] at h
    exact EV_pick [] rfl (zX12_command_33 E h)
  · rw [if_neg c3] at h
    refine EV_aload_n dX12_command_12 rfl ?_
    refine EV_iload_n dX12_command_13 rfl ?_
    have hh := b1_some h; clear h; obtain ⟨u12, hu12, h⟩ := hh
    have hh := b2_some h; clear h; obtain ⟨x5, s4, hs4, h⟩ := hh
    refine EV_callV (Y := YX12_isFree) (as := [VI pi2]) (st := []) (st2 := [VI x5]) (a := h0) (ci := 12) (r := rX12) (n := 1) dX12_command_14 (zX12_isFree E hs4) rfl cwX12_isFree rfl tw_1116 tw_1118 tw_32 rfl (e_if hu12).1.1 (e_if hu12).1.2 ⟨by decide, by decide⟩ (Nat.le_of_ble_eq_true rfl) rfl ?_
    refine EV_if_eq (tgt := 33) dX12_command_17 (by decide) (fun c6 => ?_) (fun c6 => ?_)
    · rw [if_pos c6] at h
      exact EV_pick [] rfl (zX12_command_33 E h)
    · rw [if_neg c6] at h
      refine EV_iload_n dX12_command_20 rfl ?_
      refine EV_iconst (x := (-1 : Int32)) dX12_command_21 (by decide) ?_
      refine EV_icmp_eq (tgt := 35) dX12_command_22 (by decide) (fun c7 => ?_) (fun c7 => ?_)
      · rw [if_pos c7] at h
        exact EV_pick [0, 1, 2, 3, 4] rfl (zX12_command_35 E h)
      · rw [if_neg c7] at h
        refine EV_aload_n dX12_command_25 rfl ?_
        refine EV_iload_n dX12_command_26 rfl ?_
        have hh := b1_some h; clear h; obtain ⟨u11, hu11, h⟩ := hh
        have hh := b2_some h; clear h; obtain ⟨x9, s8, hs8, h⟩ := hh
        refine EV_callV (Y := YX12_isPoint) (as := [VI pi3]) (st := []) (st2 := [VI x9]) (a := h0) (ci := 12) (r := rX12) (n := 1) dX12_command_27 (zX12_isPoint E hs8) rfl cwX12_isPoint rfl tw_1126 tw_1128 tw_33 rfl (e_if hu11).1.1 (e_if hu11).1.2 ⟨by decide, by decide⟩ (Nat.le_of_ble_eq_true rfl) rfl ?_
        refine EV_if_ne (tgt := 35) dX12_command_30 (by decide) (fun c10 => ?_) (fun c10 => ?_)
        · rw [if_pos c10] at h
          exact EV_pick [] rfl (zX12_command_33 E h)
        · rw [if_neg c10] at h
          exact EV_pick [0, 1, 2, 3, 4] rfl (zX12_command_35 E h)
def mX12_isValue_70 (pi1 : Int32) (s0 : eS) : Option (Int32 × eS) :=
  (b2 (mX12_in ((pi1).toInt64) (-32768 : Int64) (32767 : Int64) s0) fun x2 s1 => (b1 (o_Z x2) fun u3 => some (x2, s1)))
set_option maxRecDepth 100000 in
set_option maxHeartbeats 4000000 in
theorem zX12_isValue_70 (E : eE) {pi1 : Int32} {s0 s9 : eS} {y : Int32} (h : mX12_isValue_70 pi1 s0 = some (y, s9)) : EV E MX12_isValue 70 [(1, VI pi1)] [] s0 (some (VI y)) s9 := by
  unfold mX12_isValue_70 at h
  refine EV_iload_n dX12_isValue_70 rfl ?_
  refine EV_i2l dX12_isValue_71 ?_
  refine EV_ldc2 (x := (-32768 : Int64)) dX12_isValue_72 tw_1139 ?_
  refine EV_ldc2 (x := (32767 : Int64)) dX12_isValue_75 tw_1140 ?_
  have hh := b2_some h; clear h; obtain ⟨x2, s1, hs1, h⟩ := hh
  refine EV_callS (Y := YX12_in) (as := [VL ((pi1).toInt64), VL (-32768 : Int64), VL (32767 : Int64)]) (st := []) (st2 := [VI x2]) (n := 3) dX12_isValue_78 (zX12_in E hs1) rfl cwX12_in rfl tw_1104 tw_1105 ⟨by decide, by decide⟩ (Nat.le_of_ble_eq_true rfl) rfl ?_
  have hh := b1_some h; clear h; obtain ⟨u3, hu3, h⟩ := hh
  cases h
  exact EV_ret ⟨dX12_isValue_81, .boolean, rfl, o_Z_n hu3⟩ rfl
def mX12_isValue_96 (pt0 : Int32) (s0 : eS) : Option (Int32 × eS) :=
  (b1 (o_Z pt0) fun u1 => some (pt0, s0))
set_option maxRecDepth 100000 in
set_option maxHeartbeats 4000000 in
theorem zX12_isValue_96 (E : eE) {pt0 : Int32} {s0 s9 : eS} {y : Int32} (h : mX12_isValue_96 pt0 s0 = some (y, s9)) : EV E MX12_isValue 96 [] [VI pt0] s0 (some (VI y)) s9 := by
  unfold mX12_isValue_96 at h
  have hh := b1_some h; clear h; obtain ⟨u1, hu1, h⟩ := hh
  cases h
  exact EV_ret ⟨dX12_isValue_96, .boolean, rfl, o_Z_n hu1⟩ rfl
def mX12_isValue (pi0 : Int32) (pi1 : Int32) (s0 : eS) : Option (Int32 × eS) :=
  (if pi0 = (0 : Int32) then (b2 (mX12_in ((pi1).toInt64) (0 : Int64) (1 : Int64) s0) fun x3 s2 => (b1 (o_Z x3) fun u4 => some (x3, s2))) else (if pi0 = (1 : Int32) then (b2 (mX12_in ((pi1).toInt64) (0 : Int64) (3 : Int64) s0) fun x7 s6 => (b1 (o_Z x7) fun u8 => some (x7, s6))) else (if pi0 = (2 : Int32) then (b2 (mX12_in ((pi1).toInt64) (-64 : Int64) (63 : Int64) s0) fun x11 s10 => (b1 (o_Z x11) fun u12 => some (x11, s10))) else (if pi0 = (3 : Int32) then (mX12_isValue_70 pi1 s0) else (if pi0 = (4 : Int32) then (mX12_isValue_70 pi1 s0) else (if pi0 = (5 : Int32) then (if (2139095040 : Int32) < (pi1 &&& (2147483647 : Int32)) then (mX12_isValue_96 (0 : Int32) s0) else (mX12_isValue_96 (1 : Int32) s0)) else (b1 (o_Z (1 : Int32)) fun u17 => some ((1 : Int32), s0))))))))
set_option maxRecDepth 100000 in
set_option maxHeartbeats 4000000 in
theorem zX12_isValue (E : eE) {pi0 : Int32} {pi1 : Int32} {s0 s9 : eS} {y : Int32} (h : mX12_isValue pi0 pi1 s0 = some (y, s9)) : EM E YX12_isValue [VI pi0, VI pi1] s0 (some (VI y)) s9 := by
  refine EM_of (M := MX12_isValue) (own := RX12) (ini := false) rfl (by decide +kernel) rfl (fun z => nomatch z) (Nat.le_of_ble_eq_true rfl) ?_
  unfold mX12_isValue at h
  refine EV_iload_n dX12_isValue_0 rfl ?_
  by_cases c1 : pi0 = (0 : Int32)
  · rw [if_pos c1] at h
    refine EV_table (tgt := 40) dX12_isValue_1 (Or.inr ⟨by rw [c1]; decide, by rw [c1]; decide, 39, by rw [c1]; decide, by decide⟩) ?_
    refine EV_iload_n dX12_isValue_40 rfl ?_
    refine EV_i2l dX12_isValue_41 ?_
    refine EV_lconst (x := (0 : Int64)) dX12_isValue_42 (by decide) ?_
    refine EV_lconst (x := (1 : Int64)) dX12_isValue_43 (by decide) ?_
    have hh := b2_some h; clear h; obtain ⟨x3, s2, hs2, h⟩ := hh
    refine EV_callS (Y := YX12_in) (as := [VL ((pi1).toInt64), VL (0 : Int64), VL (1 : Int64)]) (st := []) (st2 := [VI x3]) (n := 3) dX12_isValue_44 (zX12_in E hs2) rfl cwX12_in rfl tw_1104 tw_1105 ⟨by decide, by decide⟩ (Nat.le_of_ble_eq_true rfl) rfl ?_
    have hh := b1_some h; clear h; obtain ⟨u4, hu4, h⟩ := hh
    cases h
    exact EV_ret ⟨dX12_isValue_47, .boolean, rfl, o_Z_n hu4⟩ rfl
  · rw [if_neg c1] at h
    by_cases c5 : pi0 = (1 : Int32)
    · rw [if_pos c5] at h
      refine EV_table (tgt := 48) dX12_isValue_1 (Or.inr ⟨by rw [c5]; decide, by rw [c5]; decide, 47, by rw [c5]; decide, by decide⟩) ?_
      refine EV_iload_n dX12_isValue_48 rfl ?_
      refine EV_i2l dX12_isValue_49 ?_
      refine EV_lconst (x := (0 : Int64)) dX12_isValue_50 (by decide) ?_
      refine EV_ldc2 (x := (3 : Int64)) dX12_isValue_51 tw_1108 ?_
      have hh := b2_some h; clear h; obtain ⟨x7, s6, hs6, h⟩ := hh
      refine EV_callS (Y := YX12_in) (as := [VL ((pi1).toInt64), VL (0 : Int64), VL (3 : Int64)]) (st := []) (st2 := [VI x7]) (n := 3) dX12_isValue_54 (zX12_in E hs6) rfl cwX12_in rfl tw_1104 tw_1105 ⟨by decide, by decide⟩ (Nat.le_of_ble_eq_true rfl) rfl ?_
      have hh := b1_some h; clear h; obtain ⟨u8, hu8, h⟩ := hh
      cases h
      exact EV_ret ⟨dX12_isValue_57, .boolean, rfl, o_Z_n hu8⟩ rfl
    · rw [if_neg c5] at h
      by_cases c9 : pi0 = (2 : Int32)
      · rw [if_pos c9] at h
        refine EV_table (tgt := 58) dX12_isValue_1 (Or.inr ⟨by rw [c9]; decide, by rw [c9]; decide, 57, by rw [c9]; decide, by decide⟩) ?_
        refine EV_iload_n dX12_isValue_58 rfl ?_
        refine EV_i2l dX12_isValue_59 ?_
        refine EV_ldc2 (x := (-64 : Int64)) dX12_isValue_60 tw_1137 ?_
        refine EV_ldc2 (x := (63 : Int64)) dX12_isValue_63 tw_1138 ?_
        have hh := b2_some h; clear h; obtain ⟨x11, s10, hs10, h⟩ := hh
        refine EV_callS (Y := YX12_in) (as := [VL ((pi1).toInt64), VL (-64 : Int64), VL (63 : Int64)]) (st := []) (st2 := [VI x11]) (n := 3) dX12_isValue_66 (zX12_in E hs10) rfl cwX12_in rfl tw_1104 tw_1105 ⟨by decide, by decide⟩ (Nat.le_of_ble_eq_true rfl) rfl ?_
        have hh := b1_some h; clear h; obtain ⟨u12, hu12, h⟩ := hh
        cases h
        exact EV_ret ⟨dX12_isValue_69, .boolean, rfl, o_Z_n hu12⟩ rfl
      · rw [if_neg c9] at h
        by_cases c13 : pi0 = (3 : Int32)
        · rw [if_pos c13] at h
          refine EV_table (tgt := 70) dX12_isValue_1 (Or.inr ⟨by rw [c13]; decide, by rw [c13]; decide, 69, by rw [c13]; decide, by decide⟩) ?_
          exact EV_pick [1] rfl (zX12_isValue_70 E h)
        · rw [if_neg c13] at h
          by_cases c14 : pi0 = (4 : Int32)
          · rw [if_pos c14] at h
            refine EV_table (tgt := 70) dX12_isValue_1 (Or.inr ⟨by rw [c14]; decide, by rw [c14]; decide, 69, by rw [c14]; decide, by decide⟩) ?_
            exact EV_pick [1] rfl (zX12_isValue_70 E h)
          · rw [if_neg c14] at h
            by_cases c15 : pi0 = (5 : Int32)
            · rw [if_pos c15] at h
              refine EV_table (tgt := 82) dX12_isValue_1 (Or.inr ⟨by rw [c15]; decide, by rw [c15]; decide, 81, by rw [c15]; decide, by decide⟩) ?_
              refine EV_iload_n dX12_isValue_82 rfl ?_
              refine EV_ldc (x := (2147483647 : Int32)) dX12_isValue_83 tw_1141 ?_
              refine EV_iand dX12_isValue_85 ?_
              refine EV_ldc (x := (2139095040 : Int32)) dX12_isValue_86 tw_1142 ?_
              refine EV_icmp_gt (tgt := 95) dX12_isValue_88 (by decide) (fun c16 => ?_) (fun c16 => ?_)
              · rw [if_pos c16] at h
                refine EV_iconst (x := (0 : Int32)) dX12_isValue_95 (by decide) ?_
                exact EV_pick [] rfl (zX12_isValue_96 E h)
              · rw [if_neg c16] at h
                refine EV_iconst (x := (1 : Int32)) dX12_isValue_91 (by decide) ?_
                refine EV_goto (tgt := 96) dX12_isValue_92 (by decide) ?_
                exact EV_pick [] rfl (zX12_isValue_96 E h)
            · rw [if_neg c15] at h
              have nc1 := lv_neT (a := 0) c1 (by decide)
              have nc5 := lv_neT (a := 1) c5 (by decide)
              have nc9 := lv_neT (a := 2) c9 (by decide)
              have nc13 := lv_neT (a := 3) c13 (by decide)
              have nc14 := lv_neT (a := 4) c14 (by decide)
              have nc15 := lv_neT (a := 5) c15 (by decide)
              refine EV_table (tgt := 97) dX12_isValue_1 (Or.inl ⟨by omega, by decide⟩) ?_
              refine EV_iconst (x := (1 : Int32)) dX12_isValue_97 (by decide) ?_
              have hh := b1_some h; clear h; obtain ⟨u17, hu17, h⟩ := hh
              cases h
              exact EV_ret ⟨dX12_isValue_98, .boolean, rfl, o_Z_n hu17⟩ rfl
def mX12_timeByte_71 (pt0 : Int32) (s0 : eS) : Option (Int32 × eS) :=
  (some (pt0, s0))
set_option maxRecDepth 100000 in
set_option maxHeartbeats 4000000 in
theorem zX12_timeByte_71 (E : eE) {pt0 : Int32} {s0 s9 : eS} {y : Int32} (h : mX12_timeByte_71 pt0 s0 = some (y, s9)) : EV E MX12_timeByte 71 [] [VI pt0] s0 (some (VI y)) s9 := by
  unfold mX12_timeByte_71 at h
  cases h
  exact EV_ret ⟨dX12_timeByte_71, .int, rfl, rfl⟩ rfl
def mX12_timeByte_59 (pt0 : Int32) (pt1 : Int32) (s0 : eS) : Option (Int32 × eS) :=
  (mX12_timeByte_71 (pt1 + pt0) s0)
set_option maxRecDepth 100000 in
set_option maxHeartbeats 4000000 in
theorem zX12_timeByte_59 (E : eE) {pt0 : Int32} {pt1 : Int32} {s0 s9 : eS} {y : Int32} (h : mX12_timeByte_59 pt0 pt1 s0 = some (y, s9)) : EV E MX12_timeByte 59 [] [VI pt0, VI pt1] s0 (some (VI y)) s9 := by
  unfold mX12_timeByte_59 at h
  refine EV_iadd dX12_timeByte_59 ?_
  refine EV_goto (tgt := 71) dX12_timeByte_60 (by decide) ?_
  exact EV_pick [] rfl (zX12_timeByte_71 E h)
def mX12_timeByte (h0 : Nat) (pi1 : Int32) (s0 : eS) : Option (Int32 × eS) :=
  (if pi1 = 0 then (b1 (g_P s0 112 21 h0) fun r2 => (b1 r2 fun a3 => (b1 (a_I s0 0 a3 (0 : Int32)) fun x4 => (mX12_timeByte_71 (x4 &&& (255 : Int32)) s0)))) else (if pi1 = (1 : Int32) then (b1 (g_P s0 112 21 h0) fun r3 => (b1 r3 fun a4 => (b1 (a_I s0 0 a4 (0 : Int32)) fun x5 => (mX12_timeByte_71 (x5 >>> ((8 : Int32) &&& 31)) s0)))) else (if pi1 = (2 : Int32) then (b1 (g_P s0 112 21 h0) fun r4 => (b1 r4 fun a5 => (b1 (a_I s0 0 a5 (1 : Int32)) fun x6 => (b1 (g_I s0 112 22 h0) fun x7 => (if x7 = 0 then (mX12_timeByte_59 (128 : Int32) x6 s0) else (mX12_timeByte_59 (0 : Int32) x6 s0)))))) else (b1 (g_P s0 112 21 h0) fun r4 => (b1 r4 fun a5 => (b1 (a_I s0 0 a5 (pi1 - (1 : Int32))) fun x6 => (mX12_timeByte_71 x6 s0)))))))
set_option maxRecDepth 100000 in
set_option maxHeartbeats 4000000 in
theorem zX12_timeByte (E : eE) {h0 : Nat} {pi1 : Int32} {s0 s9 : eS} {y : Int32} (h : mX12_timeByte h0 pi1 s0 = some (y, s9)) : EM E YX12_timeByte [VR (some h0), VI pi1] s0 (some (VI y)) s9 := by
  refine EM_of (M := MX12_timeByte) (own := RX12) (ini := false) rfl (by decide +kernel) rfl (fun z => nomatch z) (Nat.le_of_ble_eq_true rfl) ?_
  unfold mX12_timeByte at h
  refine EV_iload_n dX12_timeByte_0 rfl ?_
  refine EV_if_ne (tgt := 17) dX12_timeByte_1 (by decide) (fun c1 => ?_) (fun c1 => ?_)
  · rw [if_pos c1] at h
    refine EV_aload_n dX12_timeByte_4 rfl ?_
    have hh := b1_some h; clear h; obtain ⟨r2, hr2, h⟩ := hh
    refine EV_getP (ci := 12) (k := 21) dX12_timeByte_5 fl_X12_57 rfl hr2 ?_
    refine EV_iconst (x := (0 : Int32)) dX12_timeByte_8 (by decide) ?_
    have hh := b1_some h; clear h; obtain ⟨a3, ha3, h⟩ := hh
    subst ha3
    have hh := b1_some h; clear h; obtain ⟨x4, hx4, h⟩ := hh
    refine EV_aI (t := 0) (ty := .int) rfl (by decide) dX12_timeByte_9 hx4 ?_
    refine EV_sipush (x := (255 : Int32)) dX12_timeByte_10 (by decide) ?_
    refine EV_iand dX12_timeByte_13 ?_
    refine EV_goto (tgt := 71) dX12_timeByte_14 (by decide) ?_
    exact EV_pick [] rfl (zX12_timeByte_71 E h)
  · rw [if_neg c1] at h
    refine EV_iload_n dX12_timeByte_17 rfl ?_
    refine EV_iconst (x := (1 : Int32)) dX12_timeByte_18 (by decide) ?_
    refine EV_icmp_ne (tgt := 34) dX12_timeByte_19 (by decide) (fun c2 => ?_) (fun c2 => ?_)
    · rw [if_pos c2] at h
      refine EV_aload_n dX12_timeByte_22 rfl ?_
      have hh := b1_some h; clear h; obtain ⟨r3, hr3, h⟩ := hh
      refine EV_getP (ci := 12) (k := 21) dX12_timeByte_23 fl_X12_57 rfl hr3 ?_
      refine EV_iconst (x := (0 : Int32)) dX12_timeByte_26 (by decide) ?_
      have hh := b1_some h; clear h; obtain ⟨a4, ha4, h⟩ := hh
      subst ha4
      have hh := b1_some h; clear h; obtain ⟨x5, hx5, h⟩ := hh
      refine EV_aI (t := 0) (ty := .int) rfl (by decide) dX12_timeByte_27 hx5 ?_
      refine EV_bipush (x := (8 : Int32)) dX12_timeByte_28 (by decide) ?_
      refine EV_ishr dX12_timeByte_30 ?_
      refine EV_goto (tgt := 71) dX12_timeByte_31 (by decide) ?_
      exact EV_pick [] rfl (zX12_timeByte_71 E h)
    · rw [if_neg c2] at h
      refine EV_iload_n dX12_timeByte_34 rfl ?_
      refine EV_iconst (x := (2 : Int32)) dX12_timeByte_35 (by decide) ?_
      refine EV_icmp_ne (tgt := 63) dX12_timeByte_36 (by decide) (fun c3 => ?_) (fun c3 => ?_)
      · rw [if_pos c3] at h
        refine EV_aload_n dX12_timeByte_39 rfl ?_
        have hh := b1_some h; clear h; obtain ⟨r4, hr4, h⟩ := hh
        refine EV_getP (ci := 12) (k := 21) dX12_timeByte_40 fl_X12_57 rfl hr4 ?_
        refine EV_iconst (x := (1 : Int32)) dX12_timeByte_43 (by decide) ?_
        have hh := b1_some h; clear h; obtain ⟨a5, ha5, h⟩ := hh
        subst ha5
        have hh := b1_some h; clear h; obtain ⟨x6, hx6, h⟩ := hh
        refine EV_aI (t := 0) (ty := .int) rfl (by decide) dX12_timeByte_44 hx6 ?_
        refine EV_aload_n dX12_timeByte_45 rfl ?_
        have hh := b1_some h; clear h; obtain ⟨x7, hx7, h⟩ := hh
        refine EV_getI (ci := 12) (k := 22) dX12_timeByte_46 fl_X12_168 rfl hx7 ?_
        refine EV_if_eq (tgt := 56) dX12_timeByte_49 (by decide) (fun c8 => ?_) (fun c8 => ?_)
        · rw [if_pos c8] at h
          refine EV_sipush (x := (128 : Int32)) dX12_timeByte_56 (by decide) ?_
          exact EV_pick [] rfl (zX12_timeByte_59 E h)
        · rw [if_neg c8] at h
          refine EV_iconst (x := (0 : Int32)) dX12_timeByte_52 (by decide) ?_
          refine EV_goto (tgt := 59) dX12_timeByte_53 (by decide) ?_
          exact EV_pick [] rfl (zX12_timeByte_59 E h)
      · rw [if_neg c3] at h
        refine EV_aload_n dX12_timeByte_63 rfl ?_
        have hh := b1_some h; clear h; obtain ⟨r4, hr4, h⟩ := hh
        refine EV_getP (ci := 12) (k := 21) dX12_timeByte_64 fl_X12_57 rfl hr4 ?_
        refine EV_iload_n dX12_timeByte_67 rfl ?_
        refine EV_iconst (x := (1 : Int32)) dX12_timeByte_68 (by decide) ?_
        refine EV_isub dX12_timeByte_69 ?_
        have hh := b1_some h; clear h; obtain ⟨a5, ha5, h⟩ := hh
        subst ha5
        have hh := b1_some h; clear h; obtain ⟨x6, hx6, h⟩ := hh
        refine EV_aI (t := 0) (ty := .int) rfl (by decide) dX12_timeByte_70 hx6 ?_
        exact EV_pick [] rfl (zX12_timeByte_71 E h)
def mX12_ackLow (h0 : Nat) (s0 : eS) : Option (Int32 × eS) :=
  (b1 (g_I s0 112 38 h0) fun x1 => (some ((((x1 - x1 / (32768 : Int32) * (32768 : Int32)) * (2 : Int32)) &&& (255 : Int32)), s0)))
set_option maxRecDepth 100000 in
set_option maxHeartbeats 4000000 in
theorem zX12_ackLow (E : eE) {h0 : Nat} {s0 s9 : eS} {y : Int32} (h : mX12_ackLow h0 s0 = some (y, s9)) : EM E YX12_ackLow [VR (some h0)] s0 (some (VI y)) s9 := by
  refine EM_of (M := MX12_ackLow) (own := RX12) (ini := false) rfl (by decide +kernel) rfl (fun z => nomatch z) (Nat.le_of_ble_eq_true rfl) ?_
  unfold mX12_ackLow at h
  refine EV_aload_n dX12_ackLow_0 rfl ?_
  have hh := b1_some h; clear h; obtain ⟨x1, hx1, h⟩ := hh
  refine EV_getI (ci := 12) (k := 38) dX12_ackLow_1 fl_X12_182 rfl hx1 ?_
  refine EV_ldc (x := (32768 : Int32)) dX12_ackLow_4 tw_1155 ?_
  refine EV_irem dX12_ackLow_6 (by decide) ?_
  refine EV_iconst (x := (2 : Int32)) dX12_ackLow_7 (by decide) ?_
  refine EV_imul dX12_ackLow_8 ?_
  refine EV_sipush (x := (255 : Int32)) dX12_ackLow_9 (by decide) ?_
  refine EV_iand dX12_ackLow_12 ?_
  cases h
  exact EV_ret ⟨dX12_ackLow_13, .int, rfl, rfl⟩ rfl
def mX12_ackHigh (h0 : Nat) (s0 : eS) : Option (Int32 × eS) :=
  (b1 (g_I s0 112 38 h0) fun x1 => (some (((x1 - x1 / (32768 : Int32) * (32768 : Int32)) >>> ((7 : Int32) &&& 31)), s0)))
set_option maxRecDepth 100000 in
set_option maxHeartbeats 4000000 in
theorem zX12_ackHigh (E : eE) {h0 : Nat} {s0 s9 : eS} {y : Int32} (h : mX12_ackHigh h0 s0 = some (y, s9)) : EM E YX12_ackHigh [VR (some h0)] s0 (some (VI y)) s9 := by
  refine EM_of (M := MX12_ackHigh) (own := RX12) (ini := false) rfl (by decide +kernel) rfl (fun z => nomatch z) (Nat.le_of_ble_eq_true rfl) ?_
  unfold mX12_ackHigh at h
  refine EV_aload_n dX12_ackHigh_0 rfl ?_
  have hh := b1_some h; clear h; obtain ⟨x1, hx1, h⟩ := hh
  refine EV_getI (ci := 12) (k := 38) dX12_ackHigh_1 fl_X12_182 rfl hx1 ?_
  refine EV_ldc (x := (32768 : Int32)) dX12_ackHigh_4 tw_1155 ?_
  refine EV_irem dX12_ackHigh_6 (by decide) ?_
  refine EV_bipush (x := (7 : Int32)) dX12_ackHigh_7 (by decide) ?_
  refine EV_ishr dX12_ackHigh_9 ?_
  cases h
  exact EV_ret ⟨dX12_ackHigh_10, .int, rfl, rfl⟩ rfl
def mX12_moveEvent_38 : Nat → Nat → Int32 → Int32 → Int32 → eS → Option eS
  | 0, _, _, _, _, _ => none
  | n + 1, h0, pi1, pi2, pi3, s0 =>
  (if (7 : Int32) ≤ pi3 then (some s0) else (b1 (g_P s0 112 27 h0) fun r2 => (b1 (g_P s0 112 27 h0) fun r3 => (b1 r3 fun a4 => (b1 (a_I s0 0 a4 (((7 : Int32) * pi1) + pi3)) fun x5 => (b1 r2 fun a6 => (b1 (s_I s0 0 a6 (((7 : Int32) * pi2) + pi3) x5) fun s7 => (mX12_moveEvent_38 n h0 pi1 pi2 (pi3 + (1 : Int32)) s7))))))))
set_option maxRecDepth 100000 in
set_option maxHeartbeats 4000000 in
theorem zX12_moveEvent_38 (E : eE) : ∀ (n : Nat) {h0 : Nat} {pi1 : Int32} {pi2 : Int32} {pi3 : Int32} {s0 s9 : eS}, mX12_moveEvent_38 n h0 pi1 pi2 pi3 s0 = some s9 → EV E MX12_moveEvent 38 [(0, VR (some h0)), (1, VI pi1), (2, VI pi2), (3, VI pi3)] [] s0 none s9 := by
  intro n
  induction n with
  | zero =>
    intro h0 pi1 pi2 pi3 s0 s9 h
    unfold mX12_moveEvent_38 at h
    cases h
  | succ n ih =>
    intro h0 pi1 pi2 pi3 s0 s9 h
    unfold mX12_moveEvent_38 at h
    refine EV_iload_n dX12_moveEvent_38 rfl ?_
    refine EV_bipush (x := (7 : Int32)) dX12_moveEvent_39 (by decide) ?_
    refine EV_icmp_ge (tgt := 72) dX12_moveEvent_41 (by decide) (fun c1 => ?_) (fun c1 => ?_)
    · rw [if_pos c1] at h
      cases h
      exact EV_ret ⟨dX12_moveEvent_72, rfl⟩ rfl
    · rw [if_neg c1] at h
      refine EV_aload_n dX12_moveEvent_44 rfl ?_
      have hh := b1_some h; clear h; obtain ⟨r2, hr2, h⟩ := hh
      refine EV_getP (ci := 12) (k := 27) dX12_moveEvent_45 fl_X12_69 rfl hr2 ?_
      refine EV_bipush (x := (7 : Int32)) dX12_moveEvent_48 (by decide) ?_
      refine EV_iload_n dX12_moveEvent_50 rfl ?_
      refine EV_imul dX12_moveEvent_51 ?_
      refine EV_iload_n dX12_moveEvent_52 rfl ?_
      refine EV_iadd dX12_moveEvent_53 ?_
      refine EV_aload_n dX12_moveEvent_54 rfl ?_
      have hh := b1_some h; clear h; obtain ⟨r3, hr3, h⟩ := hh
      refine EV_getP (ci := 12) (k := 27) dX12_moveEvent_55 fl_X12_69 rfl hr3 ?_
      refine EV_bipush (x := (7 : Int32)) dX12_moveEvent_58 (by decide) ?_
      refine EV_iload_n dX12_moveEvent_60 rfl ?_
      refine EV_imul dX12_moveEvent_61 ?_
      refine EV_iload_n dX12_moveEvent_62 rfl ?_
      refine EV_iadd dX12_moveEvent_63 ?_
      have hh := b1_some h; clear h; obtain ⟨a4, ha4, h⟩ := hh
      subst ha4
      have hh := b1_some h; clear h; obtain ⟨x5, hx5, h⟩ := hh
      refine EV_aI (t := 0) (ty := .int) rfl (by decide) dX12_moveEvent_64 hx5 ?_
      have hh := b1_some h; clear h; obtain ⟨a6, ha6, h⟩ := hh
      subst ha6
      have hh := b1_some h; clear h; obtain ⟨s7, hs7, h⟩ := hh
      refine EV_sI (t := 0) rfl dX12_moveEvent_65 hs7 ?_
      refine EV_iinc (y := (1 : Int32)) (lv2 := [(3, VI (pi3 + (1 : Int32))), (0, VR (some h0)), (1, VI pi1), (2, VI pi2)]) dX12_moveEvent_66 rfl (by decide) (by decide) rfl ?_
      refine EV_goto (tgt := 38) dX12_moveEvent_69 (by decide) ?_
      exact EV_pick [1, 2, 3, 0] rfl (ih h)
def mX12_moveEvent (h0 : Nat) (pi1 : Int32) (pi2 : Int32) (s0 : eS) : Option eS :=
  (b1 (g_P s0 112 24 h0) fun r1 => (b1 (g_P s0 112 24 h0) fun r2 => (b1 r2 fun a3 => (b1 (a_I s0 0 a3 pi1) fun x4 => (b1 r1 fun a5 => (b1 (s_I s0 0 a5 pi2 x4) fun s6 => (b1 (g_P s6 112 25 h0) fun r7 => (b1 (g_P s6 112 25 h0) fun r8 => (b1 r8 fun a9 => (b1 (a_I s6 0 a9 pi1) fun x10 => (b1 r7 fun a11 => (b1 (s_I s6 0 a11 pi2 x10) fun s12 => (b1 (g_P s12 112 26 h0) fun r13 => (b1 (g_P s12 112 26 h0) fun r14 => (b1 r14 fun a15 => (b1 (a_I s12 0 a15 pi1) fun x16 => (b1 r13 fun a17 => (b1 (s_I s12 0 a17 pi2 x16) fun s18 => (mX12_moveEvent_38 100000 h0 pi1 pi2 (0 : Int32) s18)))))))))))))))))))
set_option maxRecDepth 100000 in
set_option maxHeartbeats 4000000 in
theorem zX12_moveEvent (E : eE) {h0 : Nat} {pi1 : Int32} {pi2 : Int32} {s0 s9 : eS} (h : mX12_moveEvent h0 pi1 pi2 s0 = some s9) : EM E YX12_moveEvent [VR (some h0), VI pi1, VI pi2] s0 none s9 := by
  refine EM_of (M := MX12_moveEvent) (own := RX12) (ini := false) rfl (by decide +kernel) rfl (fun z => nomatch z) (Nat.le_of_ble_eq_true rfl) ?_
  unfold mX12_moveEvent at h
  refine EV_aload_n dX12_moveEvent_0 rfl ?_
  have hh := b1_some h; clear h; obtain ⟨r1, hr1, h⟩ := hh
  refine EV_getP (ci := 12) (k := 24) dX12_moveEvent_1 fl_X12_60 rfl hr1 ?_
  refine EV_iload_n dX12_moveEvent_4 rfl ?_
  refine EV_aload_n dX12_moveEvent_5 rfl ?_
  have hh := b1_some h; clear h; obtain ⟨r2, hr2, h⟩ := hh
  refine EV_getP (ci := 12) (k := 24) dX12_moveEvent_6 fl_X12_60 rfl hr2 ?_
  refine EV_iload_n dX12_moveEvent_9 rfl ?_
  have hh := b1_some h; clear h; obtain ⟨a3, ha3, h⟩ := hh
  subst ha3
  have hh := b1_some h; clear h; obtain ⟨x4, hx4, h⟩ := hh
  refine EV_aI (t := 0) (ty := .int) rfl (by decide) dX12_moveEvent_10 hx4 ?_
  have hh := b1_some h; clear h; obtain ⟨a5, ha5, h⟩ := hh
  subst ha5
  have hh := b1_some h; clear h; obtain ⟨s6, hs6, h⟩ := hh
  refine EV_sI (t := 0) rfl dX12_moveEvent_11 hs6 ?_
  refine EV_aload_n dX12_moveEvent_12 rfl ?_
  have hh := b1_some h; clear h; obtain ⟨r7, hr7, h⟩ := hh
  refine EV_getP (ci := 12) (k := 25) dX12_moveEvent_13 fl_X12_63 rfl hr7 ?_
  refine EV_iload_n dX12_moveEvent_16 rfl ?_
  refine EV_aload_n dX12_moveEvent_17 rfl ?_
  have hh := b1_some h; clear h; obtain ⟨r8, hr8, h⟩ := hh
  refine EV_getP (ci := 12) (k := 25) dX12_moveEvent_18 fl_X12_63 rfl hr8 ?_
  refine EV_iload_n dX12_moveEvent_21 rfl ?_
  have hh := b1_some h; clear h; obtain ⟨a9, ha9, h⟩ := hh
  subst ha9
  have hh := b1_some h; clear h; obtain ⟨x10, hx10, h⟩ := hh
  refine EV_aI (t := 0) (ty := .int) rfl (by decide) dX12_moveEvent_22 hx10 ?_
  have hh := b1_some h; clear h; obtain ⟨a11, ha11, h⟩ := hh
  subst ha11
  have hh := b1_some h; clear h; obtain ⟨s12, hs12, h⟩ := hh
  refine EV_sI (t := 0) rfl dX12_moveEvent_23 hs12 ?_
  refine EV_aload_n dX12_moveEvent_24 rfl ?_
  have hh := b1_some h; clear h; obtain ⟨r13, hr13, h⟩ := hh
  refine EV_getP (ci := 12) (k := 26) dX12_moveEvent_25 fl_X12_66 rfl hr13 ?_
  refine EV_iload_n dX12_moveEvent_28 rfl ?_
  refine EV_aload_n dX12_moveEvent_29 rfl ?_
  have hh := b1_some h; clear h; obtain ⟨r14, hr14, h⟩ := hh
  refine EV_getP (ci := 12) (k := 26) dX12_moveEvent_30 fl_X12_66 rfl hr14 ?_
  refine EV_iload_n dX12_moveEvent_33 rfl ?_
  have hh := b1_some h; clear h; obtain ⟨a15, ha15, h⟩ := hh
  subst ha15
  have hh := b1_some h; clear h; obtain ⟨x16, hx16, h⟩ := hh
  refine EV_aI (t := 0) (ty := .int) rfl (by decide) dX12_moveEvent_34 hx16 ?_
  have hh := b1_some h; clear h; obtain ⟨a17, ha17, h⟩ := hh
  subst ha17
  have hh := b1_some h; clear h; obtain ⟨s18, hs18, h⟩ := hh
  refine EV_sI (t := 0) rfl dX12_moveEvent_35 hs18 ?_
  refine EV_iconst (x := (0 : Int32)) dX12_moveEvent_36 (by decide) ?_
  refine EV_istore_n (lv2 := [(3, VI (0 : Int32)), (0, VR (some h0)), (1, VI pi1), (2, VI pi2)]) dX12_moveEvent_37 (by decide) rfl ?_
  exact EV_pick [1, 2, 3, 0] rfl (zX12_moveEvent_38 E _ h)
def mX12_closes_147 (k32 : Nat → Int32 → eS → Option eS) (h0 : Nat) (pi2 : Int32) (s0 : eS) : Option eS :=
  (k32 h0 (pi2 + (-1 : Int32)) s0)
set_option maxRecDepth 100000 in
set_option maxHeartbeats 4000000 in
theorem zX12_closes_147 (E : eE) {k32 : Nat → Int32 → eS → Option eS} (hk32 : ∀ {h0 : Nat} {pi2 : Int32} {s0 s9 : eS}, k32 h0 pi2 s0 = some s9 → EV E MX12_closes 32 [(0, VR (some h0)), (2, VI pi2)] [] s0 none s9) {h0 : Nat} {pi2 : Int32} {s0 s9 : eS} (h : mX12_closes_147 k32 h0 pi2 s0 = some s9) : EV E MX12_closes 147 [(0, VR (some h0)), (2, VI pi2)] [] s0 none s9 := by
  unfold mX12_closes_147 at h
  refine EV_iinc (y := (-1 : Int32)) (lv2 := [(2, VI (pi2 + (-1 : Int32))), (0, VR (some h0))]) dX12_closes_147 rfl (by decide) (by decide) rfl ?_
  refine EV_goto (tgt := 32) dX12_closes_150 (by decide) ?_
  exact EV_pick [1, 0] rfl (hk32 h)
def mX12_closes_118 (k32 : Nat → Int32 → eS → Option eS) : Nat → Nat → Int32 → Int32 → eS → Option eS
  | 0, _, _, _, _ => none
  | n + 1, h0, pi2, pi3, s0 =>
  (if (7 : Int32) ≤ pi3 then (mX12_closes_147 k32 h0 pi2 s0) else (b1 (g_P s0 112 27 h0) fun r2 => (b1 (g_P s0 112 34 h0) fun r3 => (b1 r3 fun a4 => (b1 (a_I s0 0 a4 (((7 : Int32) * pi2) + pi3)) fun x5 => (b1 r2 fun a6 => (b1 (s_I s0 0 a6 pi3 x5) fun s7 => (mX12_closes_118 k32 n h0 pi2 (pi3 + (1 : Int32)) s7))))))))
set_option maxRecDepth 100000 in
set_option maxHeartbeats 4000000 in
theorem zX12_closes_118 (E : eE) {k32 : Nat → Int32 → eS → Option eS} (hk32 : ∀ {h0 : Nat} {pi2 : Int32} {s0 s9 : eS}, k32 h0 pi2 s0 = some s9 → EV E MX12_closes 32 [(0, VR (some h0)), (2, VI pi2)] [] s0 none s9) : ∀ (n : Nat) {h0 : Nat} {pi2 : Int32} {pi3 : Int32} {s0 s9 : eS}, mX12_closes_118 k32 n h0 pi2 pi3 s0 = some s9 → EV E MX12_closes 118 [(0, VR (some h0)), (2, VI pi2), (3, VI pi3)] [] s0 none s9 := by
  intro n
  induction n with
  | zero =>
    intro h0 pi2 pi3 s0 s9 h
    unfold mX12_closes_118 at h
    cases h
  | succ n ih =>
    intro h0 pi2 pi3 s0 s9 h
    unfold mX12_closes_118 at h
    refine EV_iload_n dX12_closes_118 rfl ?_
    refine EV_bipush (x := (7 : Int32)) dX12_closes_119 (by decide) ?_
    refine EV_icmp_ge (tgt := 147) dX12_closes_121 (by decide) (fun c1 => ?_) (fun c1 => ?_)
    · rw [if_pos c1] at h
      exact EV_pick [0, 1] rfl (zX12_closes_147 E hk32 h)
    · rw [if_neg c1] at h
      refine EV_aload_n dX12_closes_124 rfl ?_
      have hh := b1_some h; clear h; obtain ⟨r2, hr2, h⟩ := hh
      refine EV_getP (ci := 12) (k := 27) dX12_closes_125 fl_X12_69 rfl hr2 ?_
      refine EV_iload_n dX12_closes_128 rfl ?_
      refine EV_aload_n dX12_closes_129 rfl ?_
      have hh := b1_some h; clear h; obtain ⟨r3, hr3, h⟩ := hh
      refine EV_getP (ci := 12) (k := 34) dX12_closes_130 fl_X12_87 rfl hr3 ?_
      refine EV_bipush (x := (7 : Int32)) dX12_closes_133 (by decide) ?_
      refine EV_iload_n dX12_closes_135 rfl ?_
      refine EV_imul dX12_closes_136 ?_
      refine EV_iload_n dX12_closes_137 rfl ?_
      refine EV_iadd dX12_closes_138 ?_
      have hh := b1_some h; clear h; obtain ⟨a4, ha4, h⟩ := hh
      subst ha4
      have hh := b1_some h; clear h; obtain ⟨x5, hx5, h⟩ := hh
      refine EV_aI (t := 0) (ty := .int) rfl (by decide) dX12_closes_139 hx5 ?_
      have hh := b1_some h; clear h; obtain ⟨a6, ha6, h⟩ := hh
      subst ha6
      have hh := b1_some h; clear h; obtain ⟨s7, hs7, h⟩ := hh
      refine EV_sI (t := 0) rfl dX12_closes_140 hs7 ?_
      refine EV_iinc (y := (1 : Int32)) (lv2 := [(3, VI (pi3 + (1 : Int32))), (0, VR (some h0)), (2, VI pi2)]) dX12_closes_141 rfl (by decide) (by decide) rfl ?_
      refine EV_goto (tgt := 118) dX12_closes_144 (by decide) ?_
      exact EV_pick [1, 2, 0] rfl (ih h)
def mX12_closes_52 (k32 : Nat → Int32 → eS → Option eS) : Nat → Nat → Int32 → Int32 → eS → Option eS
  | 0, _, _, _, _ => none
  | n + 1, h0, pi2, pi3, s0 =>
  (if pi3 < 0 then (b1 (g_I s0 112 23 h0) fun x2 => (b1 (p_I s0 112 23 h0 (x2 + (1 : Int32))) fun s3 => (b1 (g_P s3 112 24 h0) fun r4 => (b1 (g_P s3 112 31 h0) fun r5 => (b1 r5 fun a6 => (b1 (a_I s3 0 a6 pi2) fun x7 => (b1 r4 fun a8 => (b1 (s_I s3 0 a8 (0 : Int32) x7) fun s9 => (b1 (g_P s9 112 25 h0) fun r10 => (b1 (g_P s9 112 32 h0) fun r11 => (b1 r11 fun a12 => (b1 (a_I s9 0 a12 pi2) fun x13 => (b1 r10 fun a14 => (b1 (s_I s9 0 a14 (0 : Int32) x13) fun s15 => (b1 (g_P s15 112 26 h0) fun r16 => (b1 (g_P s15 112 33 h0) fun r17 => (b1 r17 fun a18 => (b1 (a_I s15 0 a18 pi2) fun x19 => (b1 r16 fun a20 => (b1 (s_I s15 0 a20 (0 : Int32) x19) fun s21 => (mX12_closes_118 k32 100000 h0 pi2 (0 : Int32) s21))))))))))))))))))))) else (b1 (o_K s0 112 h0) fun u4 => (b1 (mX12_moveEvent h0 pi3 (pi3 + (1 : Int32)) s0) fun s2 => (mX12_closes_52 k32 n h0 pi2 (pi3 + (-1 : Int32)) s2))))
set_option maxRecDepth 100000 in
set_option maxHeartbeats 4000000 in
theorem zX12_closes_52 (E : eE) {k32 : Nat → Int32 → eS → Option eS} (hk32 : ∀ {h0 : Nat} {pi2 : Int32} {s0 s9 : eS}, k32 h0 pi2 s0 = some s9 → EV E MX12_closes 32 [(0, VR (some h0)), (2, VI pi2)] [] s0 none s9) : ∀ (n : Nat) {h0 : Nat} {pi2 : Int32} {pi3 : Int32} {s0 s9 : eS}, mX12_closes_52 k32 n h0 pi2 pi3 s0 = some s9 → EV E MX12_closes 52 [(0, VR (some h0)), (2, VI pi2), (3, VI pi3)] [] s0 none s9 := by
  intro n
  induction n with
  | zero =>
    intro h0 pi2 pi3 s0 s9 h
    unfold mX12_closes_52 at h
    cases h
  | succ n ih =>
    intro h0 pi2 pi3 s0 s9 h
    unfold mX12_closes_52 at h
    refine EV_iload_n dX12_closes_52 rfl ?_
    refine EV_if_lt (tgt := 70) dX12_closes_53 (by decide) (fun c1 => ?_) (fun c1 => ?_)
    · rw [if_pos c1] at h
      refine EV_aload_n dX12_closes_70 rfl ?_
      refine EV_dup dX12_closes_71 rfl ?_
      have hh := b1_some h; clear h; obtain ⟨x2, hx2, h⟩ := hh
      refine EV_getI (ci := 12) (k := 23) dX12_closes_72 fl_X12_158 rfl hx2 ?_
      refine EV_iconst (x := (1 : Int32)) dX12_closes_75 (by decide) ?_
      refine EV_iadd dX12_closes_76 ?_
      have hh := b1_some h; clear h; obtain ⟨s3, hs3, h⟩ := hh
      refine EV_putI (ci := 12) (k := 23) dX12_closes_77 fp_X12_158 rfl hs3 ?_
      refine EV_aload_n dX12_closes_80 rfl ?_
      have hh := b1_some h; clear h; obtain ⟨r4, hr4, h⟩ := hh
      refine EV_getP (ci := 12) (k := 24) dX12_closes_81 fl_X12_60 rfl hr4 ?_
      refine EV_iconst (x := (0 : Int32)) dX12_closes_84 (by decide) ?_
      refine EV_aload_n dX12_closes_85 rfl ?_
      have hh := b1_some h; clear h; obtain ⟨r5, hr5, h⟩ := hh
      refine EV_getP (ci := 12) (k := 31) dX12_closes_86 fl_X12_78 rfl hr5 ?_
      refine EV_iload_n dX12_closes_89 rfl ?_
      have hh := b1_some h; clear h; obtain ⟨a6, ha6, h⟩ := hh
      subst ha6
      have hh := b1_some h; clear h; obtain ⟨x7, hx7, h⟩ := hh
      refine EV_aI (t := 0) (ty := .int) rfl (by decide) dX12_closes_90 hx7 ?_
      have hh := b1_some h; clear h; obtain ⟨a8, ha8, h⟩ := hh
      subst ha8
      have hh := b1_some h; clear h; obtain ⟨s9, hs9, h⟩ := hh
      refine EV_sI (t := 0) rfl dX12_closes_91 hs9 ?_
      refine EV_aload_n dX12_closes_92 rfl ?_
      have hh := b1_some h; clear h; obtain ⟨r10, hr10, h⟩ := hh
      refine EV_getP (ci := 12) (k := 25) dX12_closes_93 fl_X12_63 rfl hr10 ?_
      refine EV_iconst (x := (0 : Int32)) dX12_closes_96 (by decide) ?_
      refine EV_aload_n dX12_closes_97 rfl ?_
      have hh := b1_some h; clear h; obtain ⟨r11, hr11, h⟩ := hh
      refine EV_getP (ci := 12) (k := 32) dX12_closes_98 fl_X12_81 rfl hr11 ?_
      refine EV_iload_n dX12_closes_101 rfl ?_
      have hh := b1_some h; clear h; obtain ⟨a12, ha12, h⟩ := hh
      subst ha12
      have hh := b1_some h; clear h; obtain ⟨x13, hx13, h⟩ := hh
      refine EV_aI (t := 0) (ty := .int) rfl (by decide) dX12_closes_102 hx13 ?_
      have hh := b1_some h; clear h; obtain ⟨a14, ha14, h⟩ := hh
      subst ha14
      have hh := b1_some h; clear h; obtain ⟨s15, hs15, h⟩ := hh
      refine EV_sI (t := 0) rfl dX12_closes_103 hs15 ?_
      refine EV_aload_n dX12_closes_104 rfl ?_
      have hh := b1_some h; clear h; obtain ⟨r16, hr16, h⟩ := hh
      refine EV_getP (ci := 12) (k := 26) dX12_closes_105 fl_X12_66 rfl hr16 ?_
      refine EV_iconst (x := (0 : Int32)) dX12_closes_108 (by decide) ?_
      refine EV_aload_n dX12_closes_109 rfl ?_
      have hh := b1_some h; clear h; obtain ⟨r17, hr17, h⟩ := hh
      refine EV_getP (ci := 12) (k := 33) dX12_closes_110 fl_X12_84 rfl hr17 ?_
      refine EV_iload_n dX12_closes_113 rfl ?_
      have hh := b1_some h; clear h; obtain ⟨a18, ha18, h⟩ := hh
      subst ha18
      have hh := b1_some h; clear h; obtain ⟨x19, hx19, h⟩ := hh
      refine EV_aI (t := 0) (ty := .int) rfl (by decide) dX12_closes_114 hx19 ?_
      have hh := b1_some h; clear h; obtain ⟨a20, ha20, h⟩ := hh
      subst ha20
      have hh := b1_some h; clear h; obtain ⟨s21, hs21, h⟩ := hh
      refine EV_sI (t := 0) rfl dX12_closes_115 hs21 ?_
      refine EV_iconst (x := (0 : Int32)) dX12_closes_116 (by decide) ?_
      refine EV_istore_n (lv2 := [(3, VI (0 : Int32)), (0, VR (some h0)), (2, VI pi2)]) dX12_closes_117 (by decide) rfl ?_
      exact EV_pick [1, 2, 0] rfl (zX12_closes_118 E hk32 _ h)
    · rw [if_neg c1] at h
      refine EV_aload_n dX12_closes_56 rfl ?_
      refine EV_iload_n dX12_closes_57 rfl ?_
      refine EV_iload_n dX12_closes_58 rfl ?_
      refine EV_iconst (x := (1 : Int32)) dX12_closes_59 (by decide) ?_
      refine EV_iadd dX12_closes_60 ?_
      have hh := b1_some h; clear h; obtain ⟨u4, hu4, h⟩ := hh
      have hh := b1_some h; clear h; obtain ⟨s2, hs2, h⟩ := hh
      refine EV_callV (Y := YX12_moveEvent) (as := [VI pi3, VI (pi3 + (1 : Int32))]) (st := []) (st2 := []) (a := h0) (ci := 12) (r := rX12) (n := 2) dX12_closes_61 (zX12_moveEvent E hs2) rfl cwX12_moveEvent rfl tw_1172 tw_1174 tw_41 rfl (e_if hu4).1.1 (e_if hu4).1.2 ⟨by decide, by decide⟩ (Nat.le_of_ble_eq_true rfl) rfl ?_
      refine EV_iinc (y := (-1 : Int32)) (lv2 := [(3, VI (pi3 + (-1 : Int32))), (0, VR (some h0)), (2, VI pi2)]) dX12_closes_64 rfl (by decide) (by decide) rfl ?_
      refine EV_goto (tgt := 52) dX12_closes_67 (by decide) ?_
      exact EV_pick [1, 2, 0] rfl (ih h)
def mX12_closes_32 : Nat → Nat → Int32 → eS → Option eS
  | 0, _, _, _ => none
  | n + 1, h0, pi2, s0 =>
  (if pi2 < 0 then (b1 (p_I s0 112 28 h0 (0 : Int32)) fun s2 => (b1 (g_I s2 112 38 h0) fun x3 => (b1 (p_I s2 112 39 h0 x3) fun s4 => (b1 (p_Z s4 112 42 h0 (0 : Int32)) fun s5 => (some s5))))) else (b1 (g_P s0 112 30 h0) fun r2 => (b1 r2 fun a3 => (b1 (a_I s0 2 a3 pi2) fun x4 => (if x4 = 0 then (mX12_closes_147 (mX12_closes_32 n) h0 pi2 s0) else (b1 (g_I s0 112 23 h0) fun x6 => (mX12_closes_52 (mX12_closes_32 n) 100000 h0 pi2 (x6 - (1 : Int32)) s0)))))))
set_option maxRecDepth 100000 in
set_option maxHeartbeats 4000000 in
theorem zX12_closes_32 (E : eE) : ∀ (n : Nat) {h0 : Nat} {pi2 : Int32} {s0 s9 : eS}, mX12_closes_32 n h0 pi2 s0 = some s9 → EV E MX12_closes 32 [(0, VR (some h0)), (2, VI pi2)] [] s0 none s9 := by
  intro n
  induction n with
  | zero =>
    intro h0 pi2 s0 s9 h
    unfold mX12_closes_32 at h
    cases h
  | succ n ih =>
    intro h0 pi2 s0 s9 h
    unfold mX12_closes_32 at h
    refine EV_iload_n dX12_closes_32 rfl ?_
    refine EV_if_lt (tgt := 153) dX12_closes_33 (by decide) (fun c1 => ?_) (fun c1 => ?_)
    · rw [if_pos c1] at h
      refine EV_aload_n dX12_closes_153 rfl ?_
      refine EV_iconst (x := (0 : Int32)) dX12_closes_154 (by decide) ?_
      have hh := b1_some h; clear h; obtain ⟨s2, hs2, h⟩ := hh
      refine EV_putI (ci := 12) (k := 28) dX12_closes_155 fp_X12_206 rfl hs2 ?_
      refine EV_aload_n dX12_closes_158 rfl ?_
      refine EV_aload_n dX12_closes_159 rfl ?_
      have hh := b1_some h; clear h; obtain ⟨x3, hx3, h⟩ := hh
      refine EV_getI (ci := 12) (k := 38) dX12_closes_160 fl_X12_182 rfl hx3 ?_
      have hh := b1_some h; clear h; obtain ⟨s4, hs4, h⟩ := hh
      refine EV_putI (ci := 12) (k := 39) dX12_closes_163 fp_X12_197 rfl hs4 ?_
      refine EV_aload_n dX12_closes_166 rfl ?_
      refine EV_iconst (x := (0 : Int32)) dX12_closes_167 (by decide) ?_
      have hh := b1_some h; clear h; obtain ⟨s5, hs5, h⟩ := hh
      refine EV_putZ (ci := 12) (k := 42) dX12_closes_168 fp_X12_258 rfl hs5 ?_
      cases h
      exact EV_ret ⟨dX12_closes_171, rfl⟩ rfl
    · rw [if_neg c1] at h
      refine EV_aload_n dX12_closes_36 rfl ?_
      have hh := b1_some h; clear h; obtain ⟨r2, hr2, h⟩ := hh
      refine EV_getP (ci := 12) (k := 30) dX12_closes_37 fl_X12_75 rfl hr2 ?_
      refine EV_iload_n dX12_closes_40 rfl ?_
      have hh := b1_some h; clear h; obtain ⟨a3, ha3, h⟩ := hh
      subst ha3
      have hh := b1_some h; clear h; obtain ⟨x4, hx4, h⟩ := hh
      refine EV_aI (t := 2) (ty := .boolean) rfl (by decide) dX12_closes_41 hx4 ?_
      refine EV_if_eq (tgt := 147) dX12_closes_42 (by decide) (fun c5 => ?_) (fun c5 => ?_)
      · rw [if_pos c5] at h
        exact EV_pick [0, 1] rfl (zX12_closes_147 E (@ih) h)
      · rw [if_neg c5] at h
        refine EV_aload_n dX12_closes_45 rfl ?_
        have hh := b1_some h; clear h; obtain ⟨x6, hx6, h⟩ := hh
        refine EV_getI (ci := 12) (k := 23) dX12_closes_46 fl_X12_158 rfl hx6 ?_
        refine EV_iconst (x := (1 : Int32)) dX12_closes_49 (by decide) ?_
        refine EV_isub dX12_closes_50 ?_
        refine EV_istore_n (lv2 := [(3, VI (x6 - (1 : Int32))), (0, VR (some h0)), (2, VI pi2)]) dX12_closes_51 (by decide) rfl ?_
        exact EV_pick [1, 2, 0] rfl (zX12_closes_52 E (@ih) _ h)
def mX12_closes (h0 : Nat) (pi1 : Int32) (s0 : eS) : Option eS :=
  (b1 (p_I s0 112 35 h0 (0 : Int32)) fun s1 => (b1 (p_I s1 112 36 h0 pi1) fun s2 => (b1 (p_I s2 112 45 h0 (0 : Int32)) fun s3 => (b1 (p_I s3 112 15 h0 (-1 : Int32)) fun s4 => (b1 (p_I s4 112 51 h0 (0 : Int32)) fun s5 => (b1 (g_I s5 112 28 h0) fun x6 => (mX12_closes_32 100000 h0 (x6 - (1 : Int32)) s5)))))))
set_option maxRecDepth 100000 in
set_option maxHeartbeats 4000000 in
theorem zX12_closes (E : eE) {h0 : Nat} {pi1 : Int32} {s0 s9 : eS} (h : mX12_closes h0 pi1 s0 = some s9) : EM E YX12_closes [VR (some h0), VI pi1] s0 none s9 := by
  refine EM_of (M := MX12_closes) (own := RX12) (ini := false) rfl (by decide +kernel) rfl (fun z => nomatch z) (Nat.le_of_ble_eq_true rfl) ?_
  unfold mX12_closes at h
  refine EV_aload_n dX12_closes_0 rfl ?_
  refine EV_iconst (x := (0 : Int32)) dX12_closes_1 (by decide) ?_
  have hh := b1_some h; clear h; obtain ⟨s1, hs1, h⟩ := hh
  refine EV_putI (ci := 12) (k := 35) dX12_closes_2 fp_X12_125 rfl hs1 ?_
  refine EV_aload_n dX12_closes_5 rfl ?_
  refine EV_iload_n dX12_closes_6 rfl ?_
  have hh := b1_some h; clear h; obtain ⟨s2, hs2, h⟩ := hh
  refine EV_putI (ci := 12) (k := 36) dX12_closes_7 fp_X12_252 rfl hs2 ?_
  refine EV_aload_n dX12_closes_10 rfl ?_
  refine EV_iconst (x := (0 : Int32)) dX12_closes_11 (by decide) ?_
  have hh := b1_some h; clear h; obtain ⟨s3, hs3, h⟩ := hh
  refine EV_putI (ci := 12) (k := 45) dX12_closes_12 fp_X12_222 rfl hs3 ?_
  refine EV_aload_n dX12_closes_15 rfl ?_
  refine EV_iconst (x := (-1 : Int32)) dX12_closes_16 (by decide) ?_
  have hh := b1_some h; clear h; obtain ⟨s4, hs4, h⟩ := hh
  refine EV_putI (ci := 12) (k := 15) dX12_closes_17 fp_X12_50 rfl hs4 ?_
  refine EV_aload_n dX12_closes_20 rfl ?_
  refine EV_iconst (x := (0 : Int32)) dX12_closes_21 (by decide) ?_
  have hh := b1_some h; clear h; obtain ⟨s5, hs5, h⟩ := hh
  refine EV_putI (ci := 12) (k := 51) dX12_closes_22 fp_X12_255 rfl hs5 ?_
  refine EV_aload_n dX12_closes_25 rfl ?_
  have hh := b1_some h; clear h; obtain ⟨x6, hx6, h⟩ := hh
  refine EV_getI (ci := 12) (k := 28) dX12_closes_26 fl_X12_206 rfl hx6 ?_
  refine EV_iconst (x := (1 : Int32)) dX12_closes_29 (by decide) ?_
  refine EV_isub dX12_closes_30 ?_
  refine EV_istore_n (lv2 := [(2, VI (x6 - (1 : Int32))), (0, VR (some h0)), (1, VI pi1)]) dX12_closes_31 (by decide) rfl ?_
  exact EV_pick [1, 0] rfl (zX12_closes_32 E _ h)
def mX12_byteOut (h0 : Nat) (pi1 : Int32) (s0 : eS) : Option eS :=
  (b1 (g_P s0 112 48 h0) fun r1 => (b1 (g_I s0 112 49 h0) fun x2 => (b1 r1 fun a3 => (b1 (s_I s0 0 a3 x2 pi1) fun s4 => (b1 (g_I s4 112 49 h0) fun x5 => (b1 (p_I s4 112 49 h0 (x5 + (1 : Int32))) fun s6 => (some s6)))))))
set_option maxRecDepth 100000 in
set_option maxHeartbeats 4000000 in
theorem zX12_byteOut (E : eE) {h0 : Nat} {pi1 : Int32} {s0 s9 : eS} (h : mX12_byteOut h0 pi1 s0 = some s9) : EM E YX12_byteOut [VR (some h0), VI pi1] s0 none s9 := by
  refine EM_of (M := MX12_byteOut) (own := RX12) (ini := false) rfl (by decide +kernel) rfl (fun z => nomatch z) (Nat.le_of_ble_eq_true rfl) ?_
  unfold mX12_byteOut at h
  refine EV_aload_n dX12_byteOut_0 rfl ?_
  have hh := b1_some h; clear h; obtain ⟨r1, hr1, h⟩ := hh
  refine EV_getP (ci := 12) (k := 48) dX12_byteOut_1 fl_X12_96 rfl hr1 ?_
  refine EV_aload_n dX12_byteOut_4 rfl ?_
  have hh := b1_some h; clear h; obtain ⟨x2, hx2, h⟩ := hh
  refine EV_getI (ci := 12) (k := 49) dX12_byteOut_5 fl_X12_172 rfl hx2 ?_
  refine EV_iload_n dX12_byteOut_8 rfl ?_
  have hh := b1_some h; clear h; obtain ⟨a3, ha3, h⟩ := hh
  subst ha3
  have hh := b1_some h; clear h; obtain ⟨s4, hs4, h⟩ := hh
  refine EV_sI (t := 0) rfl dX12_byteOut_9 hs4 ?_
  refine EV_aload_n dX12_byteOut_10 rfl ?_
  refine EV_dup dX12_byteOut_11 rfl ?_
  have hh := b1_some h; clear h; obtain ⟨x5, hx5, h⟩ := hh
  refine EV_getI (ci := 12) (k := 49) dX12_byteOut_12 fl_X12_172 rfl hx5 ?_
  refine EV_iconst (x := (1 : Int32)) dX12_byteOut_15 (by decide) ?_
  refine EV_iadd dX12_byteOut_16 ?_
  have hh := b1_some h; clear h; obtain ⟨s6, hs6, h⟩ := hh
  refine EV_putI (ci := 12) (k := 49) dX12_byteOut_17 fp_X12_172 rfl hs6 ?_
  cases h
  exact EV_ret ⟨dX12_byteOut_20, rfl⟩ rfl
def mX12_frames_62 : Nat → Nat → Int32 → Int32 → eS → Option (Int32 × eS)
  | 0, _, _, _, _ => none
  | n + 1, h0, pi5, pi6, s0 =>
  (if pi5 ≤ pi6 then (b1 (o_Z (1 : Int32)) fun u2 => some ((1 : Int32), s0)) else (b1 (g_P s0 112 52 h0) fun r2 => (b1 r2 fun a3 => (b1 (a_I s0 0 a3 pi6) fun x4 => (b1 (o_K s0 112 h0) fun u7 => (b1 (mX12_byteOut h0 x4 s0) fun s5 => (mX12_frames_62 n h0 pi5 (pi6 + (1 : Int32)) s5)))))))
set_option maxRecDepth 100000 in
set_option maxHeartbeats 4000000 in
theorem zX12_frames_62 (E : eE) : ∀ (n : Nat) {h0 : Nat} {pi5 : Int32} {pi6 : Int32} {s0 s9 : eS} {y : Int32}, mX12_frames_62 n h0 pi5 pi6 s0 = some (y, s9) → EV E MX12_frames 62 [(0, VR (some h0)), (5, VI pi5), (6, VI pi6)] [] s0 (some (VI y)) s9 := by
  intro n
  induction n with
  | zero =>
    intro h0 pi5 pi6 s0 s9 y h
    unfold mX12_frames_62 at h
    cases h
  | succ n ih =>
    intro h0 pi5 pi6 s0 s9 y h
    unfold mX12_frames_62 at h
    refine EV_iload dX12_frames_62 rfl ?_
    refine EV_iload dX12_frames_64 rfl ?_
    refine EV_icmp_ge (tgt := 86) dX12_frames_66 (by decide) (fun c1 => ?_) (fun c1 => ?_)
    · rw [if_pos c1] at h
      refine EV_iconst (x := (1 : Int32)) dX12_frames_86 (by decide) ?_
      have hh := b1_some h; clear h; obtain ⟨u2, hu2, h⟩ := hh
      cases h
      exact EV_ret ⟨dX12_frames_87, .boolean, rfl, o_Z_n hu2⟩ rfl
    · rw [if_neg c1] at h
      refine EV_aload_n dX12_frames_69 rfl ?_
      refine EV_aload_n dX12_frames_70 rfl ?_
      have hh := b1_some h; clear h; obtain ⟨r2, hr2, h⟩ := hh
      refine EV_getP (ci := 12) (k := 52) dX12_frames_71 fl_X12_102 rfl hr2 ?_
      refine EV_iload dX12_frames_74 rfl ?_
      have hh := b1_some h; clear h; obtain ⟨a3, ha3, h⟩ := hh
      subst ha3
      have hh := b1_some h; clear h; obtain ⟨x4, hx4, h⟩ := hh
      refine EV_aI (t := 0) (ty := .int) rfl (by decide) dX12_frames_76 hx4 ?_
      have hh := b1_some h; clear h; obtain ⟨u7, hu7, h⟩ := hh
      have hh := b1_some h; clear h; obtain ⟨s5, hs5, h⟩ := hh
      refine EV_callV (Y := YX12_byteOut) (as := [VI x4]) (st := []) (st2 := []) (a := h0) (ci := 12) (r := rX12) (n := 1) dX12_frames_77 (zX12_byteOut E hs5) rfl cwX12_byteOut rfl tw_1176 tw_1178 tw_42 rfl (e_if hu7).1.1 (e_if hu7).1.2 ⟨by decide, by decide⟩ (Nat.le_of_ble_eq_true rfl) rfl ?_
      refine EV_iinc (y := (1 : Int32)) (lv2 := [(6, VI (pi6 + (1 : Int32))), (0, VR (some h0)), (5, VI pi5)]) dX12_frames_80 rfl (by decide) (by decide) rfl ?_
      refine EV_goto (tgt := 62) dX12_frames_83 (by decide) ?_
      exact EV_pick [1, 2, 0] rfl (ih h)
def mX12_frames (h0 : Nat) (pi1 : Int32) (pi2 : Int32) (pi3 : Int32) (pi4 : Int32) (pi5 : Int32) (s0 : eS) : Option (Int32 × eS) :=
  (b1 (g_I s0 112 49 h0) fun x1 => (if ((x1 + (6 : Int32)) + pi5) ≤ (4096 : Int32) then (b1 (o_K s0 112 h0) fun u20 => (b1 (mX12_byteOut h0 (104 : Int32) s0) fun s3 => (b1 (o_K s3 112 h0) fun u19 => (b1 (mX12_byteOut h0 ((4 : Int32) + pi5) s3) fun s5 => (b1 (o_K s5 112 h0) fun u18 => (b1 (mX12_byteOut h0 pi1 s5) fun s7 => (b1 (o_K s7 112 h0) fun u17 => (b1 (mX12_byteOut h0 pi2 s7) fun s9 => (b1 (o_K s9 112 h0) fun u16 => (b1 (mX12_byteOut h0 pi3 s9) fun s11 => (b1 (o_K s11 112 h0) fun u15 => (b1 (mX12_byteOut h0 pi4 s11) fun s13 => (mX12_frames_62 100000 h0 pi5 (0 : Int32) s13))))))))))))) else (b1 (o_K s0 112 h0) fun u6 => (b1 (mX12_closes h0 (6 : Int32) s0) fun s3 => (b1 (o_Z (0 : Int32)) fun u5 => some ((0 : Int32), s3))))))
set_option maxRecDepth 100000 in
set_option maxHeartbeats 4000000 in
theorem zX12_frames (E : eE) {h0 : Nat} {pi1 : Int32} {pi2 : Int32} {pi3 : Int32} {pi4 : Int32} {pi5 : Int32} {s0 s9 : eS} {y : Int32} (h : mX12_frames h0 pi1 pi2 pi3 pi4 pi5 s0 = some (y, s9)) : EM E YX12_frames [VR (some h0), VI pi1, VI pi2, VI pi3, VI pi4, VI pi5] s0 (some (VI y)) s9 := by
  refine EM_of (M := MX12_frames) (own := RX12) (ini := false) rfl (by decide +kernel) rfl (fun z => nomatch z) (Nat.le_of_ble_eq_true rfl) ?_
  unfold mX12_frames at h
  refine EV_aload_n dX12_frames_0 rfl ?_
  have hh := b1_some h; clear h; obtain ⟨x1, hx1, h⟩ := hh
  refine EV_getI (ci := 12) (k := 49) dX12_frames_1 fl_X12_172 rfl hx1 ?_
  refine EV_bipush (x := (6 : Int32)) dX12_frames_4 (by decide) ?_
  refine EV_iadd dX12_frames_6 ?_
  refine EV_iload dX12_frames_7 rfl ?_
  refine EV_iadd dX12_frames_9 ?_
  refine EV_sipush (x := (4096 : Int32)) dX12_frames_10 (by decide) ?_
  refine EV_icmp_le (tgt := 24) dX12_frames_13 (by decide) (fun c2 => ?_) (fun c2 => ?_)
  · rw [if_pos c2] at h
    refine EV_aload_n dX12_frames_24 rfl ?_
    refine EV_bipush (x := (104 : Int32)) dX12_frames_25 (by decide) ?_
    have hh := b1_some h; clear h; obtain ⟨u20, hu20, h⟩ := hh
    have hh := b1_some h; clear h; obtain ⟨s3, hs3, h⟩ := hh
    refine EV_callV (Y := YX12_byteOut) (as := [VI (104 : Int32)]) (st := []) (st2 := []) (a := h0) (ci := 12) (r := rX12) (n := 1) dX12_frames_27 (zX12_byteOut E hs3) rfl cwX12_byteOut rfl tw_1176 tw_1178 tw_42 rfl (e_if hu20).1.1 (e_if hu20).1.2 ⟨by decide, by decide⟩ (Nat.le_of_ble_eq_true rfl) rfl ?_
    refine EV_aload_n dX12_frames_30 rfl ?_
    refine EV_iconst (x := (4 : Int32)) dX12_frames_31 (by decide) ?_
    refine EV_iload dX12_frames_32 rfl ?_
    refine EV_iadd dX12_frames_34 ?_
    have hh := b1_some h; clear h; obtain ⟨u19, hu19, h⟩ := hh
    have hh := b1_some h; clear h; obtain ⟨s5, hs5, h⟩ := hh
    refine EV_callV (Y := YX12_byteOut) (as := [VI ((4 : Int32) + pi5)]) (st := []) (st2 := []) (a := h0) (ci := 12) (r := rX12) (n := 1) dX12_frames_35 (zX12_byteOut E hs5) rfl cwX12_byteOut rfl tw_1176 tw_1178 tw_42 rfl (e_if hu19).1.1 (e_if hu19).1.2 ⟨by decide, by decide⟩ (Nat.le_of_ble_eq_true rfl) rfl ?_
    refine EV_aload_n dX12_frames_38 rfl ?_
    refine EV_iload_n dX12_frames_39 rfl ?_
    have hh := b1_some h; clear h; obtain ⟨u18, hu18, h⟩ := hh
    have hh := b1_some h; clear h; obtain ⟨s7, hs7, h⟩ := hh
    refine EV_callV (Y := YX12_byteOut) (as := [VI pi1]) (st := []) (st2 := []) (a := h0) (ci := 12) (r := rX12) (n := 1) dX12_frames_40 (zX12_byteOut E hs7) rfl cwX12_byteOut rfl tw_1176 tw_1178 tw_42 rfl (e_if hu18).1.1 (e_if hu18).1.2 ⟨by decide, by decide⟩ (Nat.le_of_ble_eq_true rfl) rfl ?_
    refine EV_aload_n dX12_frames_43 rfl ?_
    refine EV_iload_n dX12_frames_44 rfl ?_
    have hh := b1_some h; clear h; obtain ⟨u17, hu17, h⟩ := hh
    have hh := b1_some h; clear h; obtain ⟨s9, hs9, h⟩ := hh
    refine EV_callV (Y := YX12_byteOut) (as := [VI pi2]) (st := []) (st2 := []) (a := h0) (ci := 12) (r := rX12) (n := 1) dX12_frames_45 (zX12_byteOut E hs9) rfl cwX12_byteOut rfl tw_1176 tw_1178 tw_42 rfl (e_if hu17).1.1 (e_if hu17).1.2 ⟨by decide, by decide⟩ (Nat.le_of_ble_eq_true rfl) rfl ?_
    refine EV_aload_n dX12_frames_48 rfl ?_
    refine EV_iload_n dX12_frames_49 rfl ?_
    have hh := b1_some h; clear h; obtain ⟨u16, hu16, h⟩ := hh
    have hh := b1_some h; clear h; obtain ⟨s11, hs11, h⟩ := hh
    refine EV_callV (Y := YX12_byteOut) (as := [VI pi3]) (st := []) (st2 := []) (a := h0) (ci := 12) (r := rX12) (n := 1) dX12_frames_50 (zX12_byteOut E hs11) rfl cwX12_byteOut rfl tw_1176 tw_1178 tw_42 rfl (e_if hu16).1.1 (e_if hu16).1.2 ⟨by decide, by decide⟩ (Nat.le_of_ble_eq_true rfl) rfl ?_
    refine EV_aload_n dX12_frames_53 rfl ?_
    refine EV_iload dX12_frames_54 rfl ?_
    have hh := b1_some h; clear h; obtain ⟨u15, hu15, h⟩ := hh
    have hh := b1_some h; clear h; obtain ⟨s13, hs13, h⟩ := hh
    refine EV_callV (Y := YX12_byteOut) (as := [VI pi4]) (st := []) (st2 := []) (a := h0) (ci := 12) (r := rX12) (n := 1) dX12_frames_56 (zX12_byteOut E hs13) rfl cwX12_byteOut rfl tw_1176 tw_1178 tw_42 rfl (e_if hu15).1.1 (e_if hu15).1.2 ⟨by decide, by decide⟩ (Nat.le_of_ble_eq_true rfl) rfl ?_
    refine EV_iconst (x := (0 : Int32)) dX12_frames_59 (by decide) ?_
    refine EV_istore (lv2 := [(6, VI (0 : Int32)), (0, VR (some h0)), (1, VI pi1), (2, VI pi2), (3, VI pi3), (4, VI pi4), (5, VI pi5)]) dX12_frames_60 (by decide) rfl ?_
    exact EV_pick [1, 6, 0] rfl (zX12_frames_62 E _ h)
  · rw [if_neg c2] at h
    refine EV_aload_n dX12_frames_16 rfl ?_
    refine EV_bipush (x := (6 : Int32)) dX12_frames_17 (by decide) ?_
    have hh := b1_some h; clear h; obtain ⟨u6, hu6, h⟩ := hh
    have hh := b1_some h; clear h; obtain ⟨s3, hs3, h⟩ := hh
    refine EV_callV (Y := YX12_closes) (as := [VI (6 : Int32)]) (st := []) (st2 := []) (a := h0) (ci := 12) (r := rX12) (n := 1) dX12_frames_19 (zX12_closes E hs3) rfl cwX12_closes rfl tw_1168 tw_1170 tw_40 rfl (e_if hu6).1.1 (e_if hu6).1.2 ⟨by decide, by decide⟩ (Nat.le_of_ble_eq_true rfl) rfl ?_
    refine EV_iconst (x := (0 : Int32)) dX12_frames_22 (by decide) ?_
    have hh := b1_some h; clear h; obtain ⟨u5, hu5, h⟩ := hh
    cases h
    exact EV_ret ⟨dX12_frames_23, .boolean, rfl, o_Z_n hu5⟩ rfl
def mX12_sendsDraft (h0 : Nat) (s0 : eS) : Option (Int32 × eS) :=
  (b1 (g_I s0 112 37 h0) fun x1 => (b1 (o_K s0 112 h0) fun u24 => (b2 (mX12_ackLow h0 s0) fun x3 s2 => (b1 (o_K s2 112 h0) fun u23 => (b2 (mX12_ackHigh h0 s2) fun x5 s4 => (b1 (g_I s4 112 53 h0) fun x6 => (b1 (o_K s4 112 h0) fun u22 => (b2 (mX12_frames h0 (((x1 - x1 / (32768 : Int32) * (32768 : Int32)) * (2 : Int32)) &&& (255 : Int32)) ((x1 - x1 / (32768 : Int32) * (32768 : Int32)) >>> ((7 : Int32) &&& 31)) x3 x5 x6 s4) fun x8 s7 => (if x8 = 0 then (b1 (o_Z (0 : Int32)) fun u10 => some ((0 : Int32), s7)) else (b1 (g_I s7 112 38 h0) fun x10 => (b1 (p_I s7 112 39 h0 x10) fun s11 => (b1 (g_I s11 112 37 h0) fun x12 => (b1 (p_I s11 112 37 h0 (x12 + (1 : Int32))) fun s13 => (b1 (g_P s13 112 29 h0) fun r14 => (b1 (g_I s13 112 28 h0) fun x15 => (b1 (g_I s13 112 20 h0) fun x16 => (b1 r14 fun a17 => (b1 (s_I s13 0 a17 x15 x16) fun s18 => (b1 (g_I s18 112 28 h0) fun x19 => (b1 (p_I s18 112 28 h0 (x19 + (1 : Int32))) fun s20 => (b1 (o_Z (1 : Int32)) fun u21 => some ((1 : Int32), s20))))))))))))))))))))))
set_option maxRecDepth 100000 in
set_option maxHeartbeats 4000000 in
theorem zX12_sendsDraft (E : eE) {h0 : Nat} {s0 s9 : eS} {y : Int32} (h : mX12_sendsDraft h0 s0 = some (y, s9)) : EM E YX12_sendsDraft [VR (some h0)] s0 (some (VI y)) s9 := by
  refine EM_of (M := MX12_sendsDraft) (own := RX12) (ini := false) rfl (by decide +kernel) rfl (fun z => nomatch z) (Nat.le_of_ble_eq_true rfl) ?_
  unfold mX12_sendsDraft at h
  refine EV_aload_n dX12_sendsDraft_0 rfl ?_
  have hh := b1_some h; clear h; obtain ⟨x1, hx1, h⟩ := hh
  refine EV_getI (ci := 12) (k := 37) dX12_sendsDraft_1 fl_X12_200 rfl hx1 ?_
  refine EV_ldc (x := (32768 : Int32)) dX12_sendsDraft_4 tw_1155 ?_
  refine EV_irem dX12_sendsDraft_6 (by decide) ?_
  refine EV_istore_n (lv2 := [(1, VI (x1 - x1 / (32768 : Int32) * (32768 : Int32))), (0, VR (some h0))]) dX12_sendsDraft_7 (by decide) rfl ?_
  refine EV_aload_n dX12_sendsDraft_8 rfl ?_
  refine EV_iload_n dX12_sendsDraft_9 rfl ?_
  refine EV_iconst (x := (2 : Int32)) dX12_sendsDraft_10 (by decide) ?_
  refine EV_imul dX12_sendsDraft_11 ?_
  refine EV_sipush (x := (255 : Int32)) dX12_sendsDraft_12 (by decide) ?_
  refine EV_iand dX12_sendsDraft_15 ?_
  refine EV_iload_n dX12_sendsDraft_16 rfl ?_
  refine EV_bipush (x := (7 : Int32)) dX12_sendsDraft_17 (by decide) ?_
  refine EV_ishr dX12_sendsDraft_19 ?_
  refine EV_aload_n dX12_sendsDraft_20 rfl ?_
  have hh := b1_some h; clear h; obtain ⟨u24, hu24, h⟩ := hh
  have hh := b2_some h; clear h; obtain ⟨x3, s2, hs2, h⟩ := hh
  refine EV_callV (Y := YX12_ackLow) (as := []) (st := [VI ((x1 - x1 / (32768 : Int32) * (32768 : Int32)) >>> ((7 : Int32) &&& 31)), VI (((x1 - x1 / (32768 : Int32) * (32768 : Int32)) * (2 : Int32)) &&& (255 : Int32)), VR (some h0)]) (st2 := [VI x3, VI ((x1 - x1 / (32768 : Int32) * (32768 : Int32)) >>> ((7 : Int32) &&& 31)), VI (((x1 - x1 / (32768 : Int32) * (32768 : Int32)) * (2 : Int32)) &&& (255 : Int32)), VR (some h0)]) (a := h0) (ci := 12) (r := rX12) (n := 0) dX12_sendsDraft_21 (zX12_ackLow E hs2) rfl cwX12_ackLow rfl tw_1156 tw_1158 tw_37 rfl (e_if hu24).1.1 (e_if hu24).1.2 ⟨by decide, by decide⟩ (Nat.le_of_ble_eq_true rfl) rfl ?_
  refine EV_aload_n dX12_sendsDraft_24 rfl ?_
  have hh := b1_some h; clear h; obtain ⟨u23, hu23, h⟩ := hh
  have hh := b2_some h; clear h; obtain ⟨x5, s4, hs4, h⟩ := hh
  refine EV_callV (Y := YX12_ackHigh) (as := []) (st := [VI x3, VI ((x1 - x1 / (32768 : Int32) * (32768 : Int32)) >>> ((7 : Int32) &&& 31)), VI (((x1 - x1 / (32768 : Int32) * (32768 : Int32)) * (2 : Int32)) &&& (255 : Int32)), VR (some h0)]) (st2 := [VI x5, VI x3, VI ((x1 - x1 / (32768 : Int32) * (32768 : Int32)) >>> ((7 : Int32) &&& 31)), VI (((x1 - x1 / (32768 : Int32) * (32768 : Int32)) * (2 : Int32)) &&& (255 : Int32)), VR (some h0)]) (a := h0) (ci := 12) (r := rX12) (n := 0) dX12_sendsDraft_25 (zX12_ackHigh E hs4) rfl cwX12_ackHigh rfl tw_1160 tw_1162 tw_38 rfl (e_if hu23).1.1 (e_if hu23).1.2 ⟨by decide, by decide⟩ (Nat.le_of_ble_eq_true rfl) rfl ?_
  refine EV_aload_n dX12_sendsDraft_28 rfl ?_
  have hh := b1_some h; clear h; obtain ⟨x6, hx6, h⟩ := hh
  refine EV_getI (ci := 12) (k := 53) dX12_sendsDraft_29 fl_X12_203 rfl hx6 ?_
  have hh := b1_some h; clear h; obtain ⟨u22, hu22, h⟩ := hh
  have hh := b2_some h; clear h; obtain ⟨x8, s7, hs7, h⟩ := hh
  refine EV_callV (Y := YX12_frames) (as := [VI (((x1 - x1 / (32768 : Int32) * (32768 : Int32)) * (2 : Int32)) &&& (255 : Int32)), VI ((x1 - x1 / (32768 : Int32) * (32768 : Int32)) >>> ((7 : Int32) &&& 31)), VI x3, VI x5, VI x6]) (st := []) (st2 := [VI x8]) (a := h0) (ci := 12) (r := rX12) (n := 5) dX12_sendsDraft_32 (zX12_frames E hs7) rfl cwX12_frames rfl tw_1164 tw_1166 tw_39 rfl (e_if hu22).1.1 (e_if hu22).1.2 ⟨by decide, by decide⟩ (Nat.le_of_ble_eq_true rfl) rfl ?_
  refine EV_if_ne (tgt := 40) dX12_sendsDraft_35 (by decide) (fun c9 => ?_) (fun c9 => ?_)
  · rw [if_pos c9] at h
    refine EV_iconst (x := (0 : Int32)) dX12_sendsDraft_38 (by decide) ?_
    have hh := b1_some h; clear h; obtain ⟨u10, hu10, h⟩ := hh
    cases h
    exact EV_ret ⟨dX12_sendsDraft_39, .boolean, rfl, o_Z_n hu10⟩ rfl
  · rw [if_neg c9] at h
    refine EV_aload_n dX12_sendsDraft_40 rfl ?_
    refine EV_aload_n dX12_sendsDraft_41 rfl ?_
    have hh := b1_some h; clear h; obtain ⟨x10, hx10, h⟩ := hh
    refine EV_getI (ci := 12) (k := 38) dX12_sendsDraft_42 fl_X12_182 rfl hx10 ?_
    have hh := b1_some h; clear h; obtain ⟨s11, hs11, h⟩ := hh
    refine EV_putI (ci := 12) (k := 39) dX12_sendsDraft_45 fp_X12_197 rfl hs11 ?_
    refine EV_aload_n dX12_sendsDraft_48 rfl ?_
    refine EV_dup dX12_sendsDraft_49 rfl ?_
    have hh := b1_some h; clear h; obtain ⟨x12, hx12, h⟩ := hh
    refine EV_getI (ci := 12) (k := 37) dX12_sendsDraft_50 fl_X12_200 rfl hx12 ?_
    refine EV_iconst (x := (1 : Int32)) dX12_sendsDraft_53 (by decide) ?_
    refine EV_iadd dX12_sendsDraft_54 ?_
    have hh := b1_some h; clear h; obtain ⟨s13, hs13, h⟩ := hh
    refine EV_putI (ci := 12) (k := 37) dX12_sendsDraft_55 fp_X12_200 rfl hs13 ?_
    refine EV_aload_n dX12_sendsDraft_58 rfl ?_
    have hh := b1_some h; clear h; obtain ⟨r14, hr14, h⟩ := hh
    refine EV_getP (ci := 12) (k := 29) dX12_sendsDraft_59 fl_X12_72 rfl hr14 ?_
    refine EV_aload_n dX12_sendsDraft_62 rfl ?_
    have hh := b1_some h; clear h; obtain ⟨x15, hx15, h⟩ := hh
    refine EV_getI (ci := 12) (k := 28) dX12_sendsDraft_63 fl_X12_206 rfl hx15 ?_
    refine EV_aload_n dX12_sendsDraft_66 rfl ?_
    have hh := b1_some h; clear h; obtain ⟨x16, hx16, h⟩ := hh
    refine EV_getI (ci := 12) (k := 20) dX12_sendsDraft_67 fl_X12_209 rfl hx16 ?_
    have hh := b1_some h; clear h; obtain ⟨a17, ha17, h⟩ := hh
    subst ha17
    have hh := b1_some h; clear h; obtain ⟨s18, hs18, h⟩ := hh
    refine EV_sI (t := 0) rfl dX12_sendsDraft_70 hs18 ?_
    refine EV_aload_n dX12_sendsDraft_71 rfl ?_
    refine EV_dup dX12_sendsDraft_72 rfl ?_
    have hh := b1_some h; clear h; obtain ⟨x19, hx19, h⟩ := hh
    refine EV_getI (ci := 12) (k := 28) dX12_sendsDraft_73 fl_X12_206 rfl hx19 ?_
    refine EV_iconst (x := (1 : Int32)) dX12_sendsDraft_76 (by decide) ?_
    refine EV_iadd dX12_sendsDraft_77 ?_
    have hh := b1_some h; clear h; obtain ⟨s20, hs20, h⟩ := hh
    refine EV_putI (ci := 12) (k := 28) dX12_sendsDraft_78 fp_X12_206 rfl hs20 ?_
    refine EV_iconst (x := (1 : Int32)) dX12_sendsDraft_81 (by decide) ?_
    have hh := b1_some h; clear h; obtain ⟨u21, hu21, h⟩ := hh
    cases h
    exact EV_ret ⟨dX12_sendsDraft_82, .boolean, rfl, o_Z_n hu21⟩ rfl
def mX12_firstAnswerGoes_36 (k12 : Nat → Int32 → eS → Option eS) : Nat → Nat → Int32 → Int32 → eS → Option eS
  | 0, _, _, _, _ => none
  | n + 1, h0, pi1, pi2, s0 =>
  (b1 (g_P s0 112 46 h0) fun r1 => (b1 r1 fun a2 => (b1 (a_I s0 0 a2 pi1) fun x3 => (if x3 ≤ pi2 then (k12 h0 (pi1 + (1 : Int32)) s0) else (b1 (g_P s0 112 47 h0) fun r5 => (b1 (g_P s0 112 47 h0) fun r6 => (b1 r6 fun a7 => (b1 (a_I s0 0 a7 (((249 : Int32) * (pi1 + (1 : Int32))) + pi2)) fun x8 => (b1 r5 fun a9 => (b1 (s_I s0 0 a9 (((249 : Int32) * pi1) + pi2) x8) fun s10 => (mX12_firstAnswerGoes_36 k12 n h0 pi1 (pi2 + (1 : Int32)) s10)))))))))))
set_option maxRecDepth 100000 in
set_option maxHeartbeats 4000000 in
theorem zX12_firstAnswerGoes_36 (E : eE) {k12 : Nat → Int32 → eS → Option eS} (hk12 : ∀ {h0 : Nat} {pi1 : Int32} {s0 s9 : eS}, k12 h0 pi1 s0 = some s9 → EV E MX12_firstAnswerGoes 12 [(0, VR (some h0)), (1, VI pi1)] [] s0 none s9) : ∀ (n : Nat) {h0 : Nat} {pi1 : Int32} {pi2 : Int32} {s0 s9 : eS}, mX12_firstAnswerGoes_36 k12 n h0 pi1 pi2 s0 = some s9 → EV E MX12_firstAnswerGoes 36 [(0, VR (some h0)), (1, VI pi1), (2, VI pi2)] [] s0 none s9 := by
  intro n
  induction n with
  | zero =>
    intro h0 pi1 pi2 s0 s9 h
    unfold mX12_firstAnswerGoes_36 at h
    cases h
  | succ n ih =>
    intro h0 pi1 pi2 s0 s9 h
    unfold mX12_firstAnswerGoes_36 at h
    refine EV_iload_n dX12_firstAnswerGoes_36 rfl ?_
    refine EV_aload_n dX12_firstAnswerGoes_37 rfl ?_
    have hh := b1_some h; clear h; obtain ⟨r1, hr1, h⟩ := hh
    refine EV_getP (ci := 12) (k := 46) dX12_firstAnswerGoes_38 fl_X12_90 rfl hr1 ?_
    refine EV_iload_n dX12_firstAnswerGoes_41 rfl ?_
    have hh := b1_some h; clear h; obtain ⟨a2, ha2, h⟩ := hh
    subst ha2
    have hh := b1_some h; clear h; obtain ⟨x3, hx3, h⟩ := hh
    refine EV_aI (t := 0) (ty := .int) rfl (by decide) dX12_firstAnswerGoes_42 hx3 ?_
    refine EV_icmp_ge (tgt := 78) dX12_firstAnswerGoes_43 (by decide) (fun c4 => ?_) (fun c4 => ?_)
    · rw [if_pos c4] at h
      refine EV_iinc (y := (1 : Int32)) (lv2 := [(1, VI (pi1 + (1 : Int32))), (0, VR (some h0)), (2, VI pi2)]) dX12_firstAnswerGoes_78 rfl (by decide) (by decide) rfl ?_
      refine EV_goto (tgt := 12) dX12_firstAnswerGoes_81 (by decide) ?_
      exact EV_pick [1, 0] rfl (hk12 h)
    · rw [if_neg c4] at h
      refine EV_aload_n dX12_firstAnswerGoes_46 rfl ?_
      have hh := b1_some h; clear h; obtain ⟨r5, hr5, h⟩ := hh
      refine EV_getP (ci := 12) (k := 47) dX12_firstAnswerGoes_47 fl_X12_93 rfl hr5 ?_
      refine EV_sipush (x := (249 : Int32)) dX12_firstAnswerGoes_50 (by decide) ?_
      refine EV_iload_n dX12_firstAnswerGoes_53 rfl ?_
      refine EV_imul dX12_firstAnswerGoes_54 ?_
      refine EV_iload_n dX12_firstAnswerGoes_55 rfl ?_
      refine EV_iadd dX12_firstAnswerGoes_56 ?_
      refine EV_aload_n dX12_firstAnswerGoes_57 rfl ?_
      have hh := b1_some h; clear h; obtain ⟨r6, hr6, h⟩ := hh
      refine EV_getP (ci := 12) (k := 47) dX12_firstAnswerGoes_58 fl_X12_93 rfl hr6 ?_
      refine EV_sipush (x := (249 : Int32)) dX12_firstAnswerGoes_61 (by decide) ?_
      refine EV_iload_n dX12_firstAnswerGoes_64 rfl ?_
      refine EV_iconst (x := (1 : Int32)) dX12_firstAnswerGoes_65 (by decide) ?_
      refine EV_iadd dX12_firstAnswerGoes_66 ?_
      refine EV_imul dX12_firstAnswerGoes_67 ?_
      refine EV_iload_n dX12_firstAnswerGoes_68 rfl ?_
      refine EV_iadd dX12_firstAnswerGoes_69 ?_
      have hh := b1_some h; clear h; obtain ⟨a7, ha7, h⟩ := hh
      subst ha7
      have hh := b1_some h; clear h; obtain ⟨x8, hx8, h⟩ := hh
      refine EV_aI (t := 0) (ty := .int) rfl (by decide) dX12_firstAnswerGoes_70 hx8 ?_
      have hh := b1_some h; clear h; obtain ⟨a9, ha9, h⟩ := hh
      subst ha9
      have hh := b1_some h; clear h; obtain ⟨s10, hs10, h⟩ := hh
      refine EV_sI (t := 0) rfl dX12_firstAnswerGoes_71 hs10 ?_
      refine EV_iinc (y := (1 : Int32)) (lv2 := [(2, VI (pi2 + (1 : Int32))), (0, VR (some h0)), (1, VI pi1)]) dX12_firstAnswerGoes_72 rfl (by decide) (by decide) rfl ?_
      refine EV_goto (tgt := 36) dX12_firstAnswerGoes_75 (by decide) ?_
      exact EV_pick [1, 2, 0] rfl (ih h)
def mX12_firstAnswerGoes_12 : Nat → Nat → Int32 → eS → Option eS
  | 0, _, _, _ => none
  | n + 1, h0, pi1, s0 =>
  (b1 (g_I s0 112 45 h0) fun x1 => (if x1 ≤ pi1 then (some s0) else (b1 (g_P s0 112 46 h0) fun r3 => (b1 (g_P s0 112 46 h0) fun r4 => (b1 r4 fun a5 => (b1 (a_I s0 0 a5 (pi1 + (1 : Int32))) fun x6 => (b1 r3 fun a7 => (b1 (s_I s0 0 a7 pi1 x6) fun s8 => (mX12_firstAnswerGoes_36 (mX12_firstAnswerGoes_12 n) 100000 h0 pi1 (0 : Int32) s8)))))))))
set_option maxRecDepth 100000 in
set_option maxHeartbeats 4000000 in
theorem zX12_firstAnswerGoes_12 (E : eE) : ∀ (n : Nat) {h0 : Nat} {pi1 : Int32} {s0 s9 : eS}, mX12_firstAnswerGoes_12 n h0 pi1 s0 = some s9 → EV E MX12_firstAnswerGoes 12 [(0, VR (some h0)), (1, VI pi1)] [] s0 none s9 := by
  intro n
  induction n with
  | zero =>
    intro h0 pi1 s0 s9 h
    unfold mX12_firstAnswerGoes_12 at h
    cases h
  | succ n ih =>
    intro h0 pi1 s0 s9 h
    unfold mX12_firstAnswerGoes_12 at h
    refine EV_iload_n dX12_firstAnswerGoes_12 rfl ?_
    refine EV_aload_n dX12_firstAnswerGoes_13 rfl ?_
    have hh := b1_some h; clear h; obtain ⟨x1, hx1, h⟩ := hh
    refine EV_getI (ci := 12) (k := 45) dX12_firstAnswerGoes_14 fl_X12_222 rfl hx1 ?_
    refine EV_icmp_ge (tgt := 84) dX12_firstAnswerGoes_17 (by decide) (fun c2 => ?_) (fun c2 => ?_)
    · rw [if_pos c2] at h
      cases h
      exact EV_ret ⟨dX12_firstAnswerGoes_84, rfl⟩ rfl
    · rw [if_neg c2] at h
      refine EV_aload_n dX12_firstAnswerGoes_20 rfl ?_
      have hh := b1_some h; clear h; obtain ⟨r3, hr3, h⟩ := hh
      refine EV_getP (ci := 12) (k := 46) dX12_firstAnswerGoes_21 fl_X12_90 rfl hr3 ?_
      refine EV_iload_n dX12_firstAnswerGoes_24 rfl ?_
      refine EV_aload_n dX12_firstAnswerGoes_25 rfl ?_
      have hh := b1_some h; clear h; obtain ⟨r4, hr4, h⟩ := hh
      refine EV_getP (ci := 12) (k := 46) dX12_firstAnswerGoes_26 fl_X12_90 rfl hr4 ?_
      refine EV_iload_n dX12_firstAnswerGoes_29 rfl ?_
      refine EV_iconst (x := (1 : Int32)) dX12_firstAnswerGoes_30 (by decide) ?_
      refine EV_iadd dX12_firstAnswerGoes_31 ?_
      have hh := b1_some h; clear h; obtain ⟨a5, ha5, h⟩ := hh
      subst ha5
      have hh := b1_some h; clear h; obtain ⟨x6, hx6, h⟩ := hh
      refine EV_aI (t := 0) (ty := .int) rfl (by decide) dX12_firstAnswerGoes_32 hx6 ?_
      have hh := b1_some h; clear h; obtain ⟨a7, ha7, h⟩ := hh
      subst ha7
      have hh := b1_some h; clear h; obtain ⟨s8, hs8, h⟩ := hh
      refine EV_sI (t := 0) rfl dX12_firstAnswerGoes_33 hs8 ?_
      refine EV_iconst (x := (0 : Int32)) dX12_firstAnswerGoes_34 (by decide) ?_
      refine EV_istore_n (lv2 := [(2, VI (0 : Int32)), (0, VR (some h0)), (1, VI pi1)]) dX12_firstAnswerGoes_35 (by decide) rfl ?_
      exact EV_pick [1, 2, 0] rfl (zX12_firstAnswerGoes_36 E (@ih) _ h)
def mX12_firstAnswerGoes (h0 : Nat) (s0 : eS) : Option eS :=
  (b1 (g_I s0 112 45 h0) fun x1 => (b1 (p_I s0 112 45 h0 (x1 - (1 : Int32))) fun s2 => (mX12_firstAnswerGoes_12 100000 h0 (0 : Int32) s2)))
set_option maxRecDepth 100000 in
set_option maxHeartbeats 4000000 in
theorem zX12_firstAnswerGoes (E : eE) {h0 : Nat} {s0 s9 : eS} (h : mX12_firstAnswerGoes h0 s0 = some s9) : EM E YX12_firstAnswerGoes [VR (some h0)] s0 none s9 := by
  refine EM_of (M := MX12_firstAnswerGoes) (own := RX12) (ini := false) rfl (by decide +kernel) rfl (fun z => nomatch z) (Nat.le_of_ble_eq_true rfl) ?_
  unfold mX12_firstAnswerGoes at h
  refine EV_aload_n dX12_firstAnswerGoes_0 rfl ?_
  refine EV_dup dX12_firstAnswerGoes_1 rfl ?_
  have hh := b1_some h; clear h; obtain ⟨x1, hx1, h⟩ := hh
  refine EV_getI (ci := 12) (k := 45) dX12_firstAnswerGoes_2 fl_X12_222 rfl hx1 ?_
  refine EV_iconst (x := (1 : Int32)) dX12_firstAnswerGoes_5 (by decide) ?_
  refine EV_isub dX12_firstAnswerGoes_6 ?_
  have hh := b1_some h; clear h; obtain ⟨s2, hs2, h⟩ := hh
  refine EV_putI (ci := 12) (k := 45) dX12_firstAnswerGoes_7 fp_X12_222 rfl hs2 ?_
  refine EV_iconst (x := (0 : Int32)) dX12_firstAnswerGoes_10 (by decide) ?_
  refine EV_istore_n (lv2 := [(1, VI (0 : Int32)), (0, VR (some h0))]) dX12_firstAnswerGoes_11 (by decide) rfl ?_
  exact EV_pick [1, 0] rfl (zX12_firstAnswerGoes_12 E _ h)
def mX12_timedTypeOf_16 (pt0 : Int32) (s0 : eS) : Option (Int32 × eS) :=
  (some (pt0, s0))
set_option maxRecDepth 100000 in
set_option maxHeartbeats 4000000 in
theorem zX12_timedTypeOf_16 (E : eE) {pt0 : Int32} {s0 s9 : eS} {y : Int32} (h : mX12_timedTypeOf_16 pt0 s0 = some (y, s9)) : EV E MX12_timedTypeOf 16 [] [VI pt0] s0 (some (VI y)) s9 := by
  unfold mX12_timedTypeOf_16 at h
  cases h
  exact EV_ret ⟨dX12_timedTypeOf_16, .int, rfl, rfl⟩ rfl
def mX12_timedTypeOf (pi0 : Int32) (s0 : eS) : Option (Int32 × eS) :=
  (if (3 : Int32) ≤ pi0 then (mX12_timedTypeOf_16 ((31 : Int32) + pi0) s0) else (mX12_timedTypeOf_16 ((30 : Int32) + pi0) s0))
set_option maxRecDepth 100000 in
set_option maxHeartbeats 4000000 in
theorem zX12_timedTypeOf (E : eE) {pi0 : Int32} {s0 s9 : eS} {y : Int32} (h : mX12_timedTypeOf pi0 s0 = some (y, s9)) : EM E YX12_timedTypeOf [VI pi0] s0 (some (VI y)) s9 := by
  refine EM_of (M := MX12_timedTypeOf) (own := RX12) (ini := false) rfl (by decide +kernel) rfl (fun z => nomatch z) (Nat.le_of_ble_eq_true rfl) ?_
  unfold mX12_timedTypeOf at h
  refine EV_iload_n dX12_timedTypeOf_0 rfl ?_
  refine EV_iconst (x := (3 : Int32)) dX12_timedTypeOf_1 (by decide) ?_
  refine EV_icmp_ge (tgt := 12) dX12_timedTypeOf_2 (by decide) (fun c1 => ?_) (fun c1 => ?_)
  · rw [if_pos c1] at h
    refine EV_bipush (x := (31 : Int32)) dX12_timedTypeOf_12 (by decide) ?_
    refine EV_iload_n dX12_timedTypeOf_14 rfl ?_
    refine EV_iadd dX12_timedTypeOf_15 ?_
    exact EV_pick [] rfl (zX12_timedTypeOf_16 E h)
  · rw [if_neg c1] at h
    refine EV_bipush (x := (30 : Int32)) dX12_timedTypeOf_5 (by decide) ?_
    refine EV_iload_n dX12_timedTypeOf_7 rfl ?_
    refine EV_iadd dX12_timedTypeOf_8 ?_
    refine EV_goto (tgt := 16) dX12_timedTypeOf_9 (by decide) ?_
    exact EV_pick [] rfl (zX12_timedTypeOf_16 E h)
def mX12_typeOf_58 (pt0 : Int32) (s0 : eS) : Option (Int32 × eS) :=
  (some (pt0, s0))
set_option maxRecDepth 100000 in
set_option maxHeartbeats 4000000 in
theorem zX12_typeOf_58 (E : eE) {pt0 : Int32} {s0 s9 : eS} {y : Int32} (h : mX12_typeOf_58 pt0 s0 = some (y, s9)) : EV E MX12_typeOf 58 [] [VI pt0] s0 (some (VI y)) s9 := by
  unfold mX12_typeOf_58 at h
  cases h
  exact EV_ret ⟨dX12_typeOf_58, .int, rfl, rfl⟩ rfl
def mX12_typeOf (pi0 : Int32) (s0 : eS) : Option (Int32 × eS) :=
  (if pi0 = 0 then (mX12_typeOf_58 (1 : Int32) s0) else (if pi0 = (1 : Int32) then (mX12_typeOf_58 (3 : Int32) s0) else (if pi0 = (2 : Int32) then (mX12_typeOf_58 (5 : Int32) s0) else (if pi0 = (3 : Int32) then (mX12_typeOf_58 (9 : Int32) s0) else (if pi0 = (4 : Int32) then (mX12_typeOf_58 (11 : Int32) s0) else (if pi0 = (5 : Int32) then (mX12_typeOf_58 (13 : Int32) s0) else (mX12_typeOf_58 (15 : Int32) s0)))))))
set_option maxRecDepth 100000 in
set_option maxHeartbeats 4000000 in
theorem zX12_typeOf (E : eE) {pi0 : Int32} {s0 s9 : eS} {y : Int32} (h : mX12_typeOf pi0 s0 = some (y, s9)) : EM E YX12_typeOf [VI pi0] s0 (some (VI y)) s9 := by
  refine EM_of (M := MX12_typeOf) (own := RX12) (ini := false) rfl (by decide +kernel) rfl (fun z => nomatch z) (Nat.le_of_ble_eq_true rfl) ?_
  unfold mX12_typeOf at h
  refine EV_iload_n dX12_typeOf_0 rfl ?_
  refine EV_if_ne (tgt := 8) dX12_typeOf_1 (by decide) (fun c1 => ?_) (fun c1 => ?_)
  · rw [if_pos c1] at h
    refine EV_iconst (x := (1 : Int32)) dX12_typeOf_4 (by decide) ?_
    refine EV_goto (tgt := 58) dX12_typeOf_5 (by decide) ?_
    exact EV_pick [] rfl (zX12_typeOf_58 E h)
  · rw [if_neg c1] at h
    refine EV_iload_n dX12_typeOf_8 rfl ?_
    refine EV_iconst (x := (1 : Int32)) dX12_typeOf_9 (by decide) ?_
    refine EV_icmp_ne (tgt := 17) dX12_typeOf_10 (by decide) (fun c2 => ?_) (fun c2 => ?_)
    · rw [if_pos c2] at h
      refine EV_iconst (x := (3 : Int32)) dX12_typeOf_13 (by decide) ?_
      refine EV_goto (tgt := 58) dX12_typeOf_14 (by decide) ?_
      exact EV_pick [] rfl (zX12_typeOf_58 E h)
    · rw [if_neg c2] at h
      refine EV_iload_n dX12_typeOf_17 rfl ?_
      refine EV_iconst (x := (2 : Int32)) dX12_typeOf_18 (by decide) ?_
      refine EV_icmp_ne (tgt := 26) dX12_typeOf_19 (by decide) (fun c3 => ?_) (fun c3 => ?_)
      · rw [if_pos c3] at h
        refine EV_iconst (x := (5 : Int32)) dX12_typeOf_22 (by decide) ?_
        refine EV_goto (tgt := 58) dX12_typeOf_23 (by decide) ?_
        exact EV_pick [] rfl (zX12_typeOf_58 E h)
      · rw [if_neg c3] at h
        refine EV_iload_n dX12_typeOf_26 rfl ?_
        refine EV_iconst (x := (3 : Int32)) dX12_typeOf_27 (by decide) ?_
        refine EV_icmp_ne (tgt := 36) dX12_typeOf_28 (by decide) (fun c4 => ?_) (fun c4 => ?_)
        · rw [if_pos c4] at h
          refine EV_bipush (x := (9 : Int32)) dX12_typeOf_31 (by decide) ?_
          refine EV_goto (tgt := 58) dX12_typeOf_33 (by decide) ?_
          exact EV_pick [] rfl (zX12_typeOf_58 E h)
        · rw [if_neg c4] at h
          refine EV_iload_n dX12_typeOf_36 rfl ?_
          refine EV_iconst (x := (4 : Int32)) dX12_typeOf_37 (by decide) ?_
          refine EV_icmp_ne (tgt := 46) dX12_typeOf_38 (by decide) (fun c5 => ?_) (fun c5 => ?_)
          · rw [if_pos c5] at h
            refine EV_bipush (x := (11 : Int32)) dX12_typeOf_41 (by decide) ?_
            refine EV_goto (tgt := 58) dX12_typeOf_43 (by decide) ?_
            exact EV_pick [] rfl (zX12_typeOf_58 E h)
          · rw [if_neg c5] at h
            refine EV_iload_n dX12_typeOf_46 rfl ?_
            refine EV_iconst (x := (5 : Int32)) dX12_typeOf_47 (by decide) ?_
            refine EV_icmp_ne (tgt := 56) dX12_typeOf_48 (by decide) (fun c6 => ?_) (fun c6 => ?_)
            · rw [if_pos c6] at h
              refine EV_bipush (x := (13 : Int32)) dX12_typeOf_51 (by decide) ?_
              refine EV_goto (tgt := 58) dX12_typeOf_53 (by decide) ?_
              exact EV_pick [] rfl (zX12_typeOf_58 E h)
            · rw [if_neg c6] at h
              refine EV_bipush (x := (15 : Int32)) dX12_typeOf_56 (by decide) ?_
              exact EV_pick [] rfl (zX12_typeOf_58 E h)
def mX12_put (h0 : Nat) (pi1 : Int32) (s0 : eS) : Option eS :=
  (b1 (g_P s0 112 52 h0) fun r1 => (b1 (g_I s0 112 53 h0) fun x2 => (b1 r1 fun a3 => (b1 (s_I s0 0 a3 x2 pi1) fun s4 => (b1 (g_I s4 112 53 h0) fun x5 => (b1 (p_I s4 112 53 h0 (x5 + (1 : Int32))) fun s6 => (some s6)))))))
set_option maxRecDepth 100000 in
set_option maxHeartbeats 4000000 in
theorem zX12_put (E : eE) {h0 : Nat} {pi1 : Int32} {s0 s9 : eS} (h : mX12_put h0 pi1 s0 = some s9) : EM E YX12_put [VR (some h0), VI pi1] s0 none s9 := by
  refine EM_of (M := MX12_put) (own := RX12) (ini := false) rfl (by decide +kernel) rfl (fun z => nomatch z) (Nat.le_of_ble_eq_true rfl) ?_
  unfold mX12_put at h
  refine EV_aload_n dX12_put_0 rfl ?_
  have hh := b1_some h; clear h; obtain ⟨r1, hr1, h⟩ := hh
  refine EV_getP (ci := 12) (k := 52) dX12_put_1 fl_X12_102 rfl hr1 ?_
  refine EV_aload_n dX12_put_4 rfl ?_
  have hh := b1_some h; clear h; obtain ⟨x2, hx2, h⟩ := hh
  refine EV_getI (ci := 12) (k := 53) dX12_put_5 fl_X12_203 rfl hx2 ?_
  refine EV_iload_n dX12_put_8 rfl ?_
  have hh := b1_some h; clear h; obtain ⟨a3, ha3, h⟩ := hh
  subst ha3
  have hh := b1_some h; clear h; obtain ⟨s4, hs4, h⟩ := hh
  refine EV_sI (t := 0) rfl dX12_put_9 hs4 ?_
  refine EV_aload_n dX12_put_10 rfl ?_
  refine EV_dup dX12_put_11 rfl ?_
  have hh := b1_some h; clear h; obtain ⟨x5, hx5, h⟩ := hh
  refine EV_getI (ci := 12) (k := 53) dX12_put_12 fl_X12_203 rfl hx5 ?_
  refine EV_iconst (x := (1 : Int32)) dX12_put_15 (by decide) ?_
  refine EV_iadd dX12_put_16 ?_
  have hh := b1_some h; clear h; obtain ⟨s6, hs6, h⟩ := hh
  refine EV_putI (ci := 12) (k := 53) dX12_put_17 fp_X12_203 rfl hs6 ?_
  cases h
  exact EV_ret ⟨dX12_put_20, rfl⟩ rfl
def mX12_putNumber_2 : Nat → Nat → Int32 → Int32 → Int32 → eS → Option eS
  | 0, _, _, _, _, _ => none
  | n + 1, h0, pi1, pi2, pi3, s0 =>
  (if pi2 ≤ pi3 then (some s0) else (b1 (o_K s0 112 h0) fun u4 => (b1 (mX12_put h0 ((pi1 >>> (((8 : Int32) * pi3) &&& 31)) &&& (255 : Int32)) s0) fun s2 => (mX12_putNumber_2 n h0 pi1 pi2 (pi3 + (1 : Int32)) s2))))
set_option maxRecDepth 100000 in
set_option maxHeartbeats 4000000 in
theorem zX12_putNumber_2 (E : eE) : ∀ (n : Nat) {h0 : Nat} {pi1 : Int32} {pi2 : Int32} {pi3 : Int32} {s0 s9 : eS}, mX12_putNumber_2 n h0 pi1 pi2 pi3 s0 = some s9 → EV E MX12_putNumber 2 [(0, VR (some h0)), (1, VI pi1), (2, VI pi2), (3, VI pi3)] [] s0 none s9 := by
  intro n
  induction n with
  | zero =>
    intro h0 pi1 pi2 pi3 s0 s9 h
    unfold mX12_putNumber_2 at h
    cases h
  | succ n ih =>
    intro h0 pi1 pi2 pi3 s0 s9 h
    unfold mX12_putNumber_2 at h
    refine EV_iload_n dX12_putNumber_2 rfl ?_
    refine EV_iload_n dX12_putNumber_3 rfl ?_
    refine EV_icmp_ge (tgt := 27) dX12_putNumber_4 (by decide) (fun c1 => ?_) (fun c1 => ?_)
    · rw [if_pos c1] at h
      cases h
      exact EV_ret ⟨dX12_putNumber_27, rfl⟩ rfl
    · rw [if_neg c1] at h
      refine EV_aload_n dX12_putNumber_7 rfl ?_
      refine EV_iload_n dX12_putNumber_8 rfl ?_
      refine EV_bipush (x := (8 : Int32)) dX12_putNumber_9 (by decide) ?_
      refine EV_iload_n dX12_putNumber_11 rfl ?_
      refine EV_imul dX12_putNumber_12 ?_
      refine EV_ishr dX12_putNumber_13 ?_
      refine EV_sipush (x := (255 : Int32)) dX12_putNumber_14 (by decide) ?_
      refine EV_iand dX12_putNumber_17 ?_
      have hh := b1_some h; clear h; obtain ⟨u4, hu4, h⟩ := hh
      have hh := b1_some h; clear h; obtain ⟨s2, hs2, h⟩ := hh
      refine EV_callV (Y := YX12_put) (as := [VI ((pi1 >>> (((8 : Int32) * pi3) &&& 31)) &&& (255 : Int32))]) (st := []) (st2 := []) (a := h0) (ci := 12) (r := rX12) (n := 1) dX12_putNumber_18 (zX12_put E hs2) rfl cwX12_put rfl tw_1198 tw_1200 tw_46 rfl (e_if hu4).1.1 (e_if hu4).1.2 ⟨by decide, by decide⟩ (Nat.le_of_ble_eq_true rfl) rfl ?_
      refine EV_iinc (y := (1 : Int32)) (lv2 := [(3, VI (pi3 + (1 : Int32))), (0, VR (some h0)), (1, VI pi1), (2, VI pi2)]) dX12_putNumber_21 rfl (by decide) (by decide) rfl ?_
      refine EV_goto (tgt := 2) dX12_putNumber_24 (by decide) ?_
      exact EV_pick [1, 2, 3, 0] rfl (ih h)
def mX12_putNumber (h0 : Nat) (pi1 : Int32) (pi2 : Int32) (s0 : eS) : Option eS :=
  (mX12_putNumber_2 100000 h0 pi1 pi2 (0 : Int32) s0)
set_option maxRecDepth 100000 in
set_option maxHeartbeats 4000000 in
theorem zX12_putNumber (E : eE) {h0 : Nat} {pi1 : Int32} {pi2 : Int32} {s0 s9 : eS} (h : mX12_putNumber h0 pi1 pi2 s0 = some s9) : EM E YX12_putNumber [VR (some h0), VI pi1, VI pi2] s0 none s9 := by
  refine EM_of (M := MX12_putNumber) (own := RX12) (ini := false) rfl (by decide +kernel) rfl (fun z => nomatch z) (Nat.le_of_ble_eq_true rfl) ?_
  unfold mX12_putNumber at h
  refine EV_iconst (x := (0 : Int32)) dX12_putNumber_0 (by decide) ?_
  refine EV_istore_n (lv2 := [(3, VI (0 : Int32)), (0, VR (some h0)), (1, VI pi1), (2, VI pi2)]) dX12_putNumber_1 (by decide) rfl ?_
  exact EV_pick [1, 2, 3, 0] rfl (zX12_putNumber_2 E _ h)
def mX12_head (h0 : Nat) (pi1 : Int32) (pi2 : Int32) (pi3 : Int32) (pi4 : Int32) (s0 : eS) : Option eS :=
  (b1 (p_I s0 112 53 h0 (0 : Int32)) fun s1 => (b1 (o_K s1 112 h0) fun u19 => (b1 (mX12_put h0 pi1 s1) fun s2 => (b1 (o_K s2 112 h0) fun u18 => (b1 (mX12_put h0 pi2 s2) fun s4 => (b1 (o_K s4 112 h0) fun u17 => (b1 (mX12_put h0 pi3 s4) fun s6 => (b1 (o_K s6 112 h0) fun u16 => (b1 (mX12_put h0 pi4 s6) fun s8 => (b1 (g_P s8 112 0 h0) fun r10 => (b1 r10 fun a11 => (b1 (a_I s8 0 a11 (0 : Int32)) fun x12 => (b1 (o_K s8 112 h0) fun u15 => (b1 (mX12_putNumber h0 x12 (2 : Int32) s8) fun s13 => (some s13)))))))))))))))
set_option maxRecDepth 100000 in
set_option maxHeartbeats 4000000 in
theorem zX12_head (E : eE) {h0 : Nat} {pi1 : Int32} {pi2 : Int32} {pi3 : Int32} {pi4 : Int32} {s0 s9 : eS} (h : mX12_head h0 pi1 pi2 pi3 pi4 s0 = some s9) : EM E YX12_head [VR (some h0), VI pi1, VI pi2, VI pi3, VI pi4] s0 none s9 := by
  refine EM_of (M := MX12_head) (own := RX12) (ini := false) rfl (by decide +kernel) rfl (fun z => nomatch z) (Nat.le_of_ble_eq_true rfl) ?_
  unfold mX12_head at h
  refine EV_aload_n dX12_head_0 rfl ?_
  refine EV_iconst (x := (0 : Int32)) dX12_head_1 (by decide) ?_
  have hh := b1_some h; clear h; obtain ⟨s1, hs1, h⟩ := hh
  refine EV_putI (ci := 12) (k := 53) dX12_head_2 fp_X12_203 rfl hs1 ?_
  refine EV_aload_n dX12_head_5 rfl ?_
  refine EV_iload_n dX12_head_6 rfl ?_
  have hh := b1_some h; clear h; obtain ⟨u19, hu19, h⟩ := hh
  have hh := b1_some h; clear h; obtain ⟨s2, hs2, h⟩ := hh
  refine EV_callV (Y := YX12_put) (as := [VI pi1]) (st := []) (st2 := []) (a := h0) (ci := 12) (r := rX12) (n := 1) dX12_head_7 (zX12_put E hs2) rfl cwX12_put rfl tw_1198 tw_1200 tw_46 rfl (e_if hu19).1.1 (e_if hu19).1.2 ⟨by decide, by decide⟩ (Nat.le_of_ble_eq_true rfl) rfl ?_
  refine EV_aload_n dX12_head_10 rfl ?_
  refine EV_iload_n dX12_head_11 rfl ?_
  have hh := b1_some h; clear h; obtain ⟨u18, hu18, h⟩ := hh
  have hh := b1_some h; clear h; obtain ⟨s4, hs4, h⟩ := hh
  refine EV_callV (Y := YX12_put) (as := [VI pi2]) (st := []) (st2 := []) (a := h0) (ci := 12) (r := rX12) (n := 1) dX12_head_12 (zX12_put E hs4) rfl cwX12_put rfl tw_1198 tw_1200 tw_46 rfl (e_if hu18).1.1 (e_if hu18).1.2 ⟨by decide, by decide⟩ (Nat.le_of_ble_eq_true rfl) rfl ?_
  refine EV_aload_n dX12_head_15 rfl ?_
  refine EV_iload_n dX12_head_16 rfl ?_
  have hh := b1_some h; clear h; obtain ⟨u17, hu17, h⟩ := hh
  have hh := b1_some h; clear h; obtain ⟨s6, hs6, h⟩ := hh
  refine EV_callV (Y := YX12_put) (as := [VI pi3]) (st := []) (st2 := []) (a := h0) (ci := 12) (r := rX12) (n := 1) dX12_head_17 (zX12_put E hs6) rfl cwX12_put rfl tw_1198 tw_1200 tw_46 rfl (e_if hu17).1.1 (e_if hu17).1.2 ⟨by decide, by decide⟩ (Nat.le_of_ble_eq_true rfl) rfl ?_
  refine EV_aload_n dX12_head_20 rfl ?_
  refine EV_iload dX12_head_21 rfl ?_
  have hh := b1_some h; clear h; obtain ⟨u16, hu16, h⟩ := hh
  have hh := b1_some h; clear h; obtain ⟨s8, hs8, h⟩ := hh
  refine EV_callV (Y := YX12_put) (as := [VI pi4]) (st := []) (st2 := []) (a := h0) (ci := 12) (r := rX12) (n := 1) dX12_head_23 (zX12_put E hs8) rfl cwX12_put rfl tw_1198 tw_1200 tw_46 rfl (e_if hu16).1.1 (e_if hu16).1.2 ⟨by decide, by decide⟩ (Nat.le_of_ble_eq_true rfl) rfl ?_
  refine EV_aload_n dX12_head_26 rfl ?_
  refine EV_aload_n dX12_head_27 rfl ?_
  have hh := b1_some h; clear h; obtain ⟨r10, hr10, h⟩ := hh
  refine EV_getP (ci := 12) (k := 0) dX12_head_28 fl_X12_7 rfl hr10 ?_
  refine EV_iconst (x := (0 : Int32)) dX12_head_31 (by decide) ?_
  have hh := b1_some h; clear h; obtain ⟨a11, ha11, h⟩ := hh
  subst ha11
  have hh := b1_some h; clear h; obtain ⟨x12, hx12, h⟩ := hh
  refine EV_aI (t := 0) (ty := .int) rfl (by decide) dX12_head_32 hx12 ?_
  refine EV_iconst (x := (2 : Int32)) dX12_head_33 (by decide) ?_
  have hh := b1_some h; clear h; obtain ⟨u15, hu15, h⟩ := hh
  have hh := b1_some h; clear h; obtain ⟨s13, hs13, h⟩ := hh
  refine EV_callV (Y := YX12_putNumber) (as := [VI x12, VI (2 : Int32)]) (st := []) (st2 := []) (a := h0) (ci := 12) (r := rX12) (n := 2) dX12_head_34 (zX12_putNumber E hs13) rfl cwX12_putNumber rfl tw_1202 tw_1204 tw_47 rfl (e_if hu15).1.1 (e_if hu15).1.2 ⟨by decide, by decide⟩ (Nat.le_of_ble_eq_true rfl) rfl ?_
  cases h
  exact EV_ret ⟨dX12_head_37, rfl⟩ rfl
def mX12_object_114 (pt0 : Int32) (pt1 : Option Nat) (s0 : eS) : Option eS :=
  (b1 pt1 fun a1 => (b1 (o_K s0 112 a1) fun u4 => (b1 (mX12_put a1 pt0 s0) fun s2 => (some s2))))
set_option maxRecDepth 100000 in
set_option maxHeartbeats 4000000 in
theorem zX12_object_114 (E : eE) {pt0 : Int32} {pt1 : Option Nat} {s0 s9 : eS} (h : mX12_object_114 pt0 pt1 s0 = some s9) : EV E MX12_object 114 [] [VI pt0, VR pt1] s0 none s9 := by
  unfold mX12_object_114 at h
  have hh := b1_some h; clear h; obtain ⟨a1, ha1, h⟩ := hh
  subst ha1
  have hh := b1_some h; clear h; obtain ⟨u4, hu4, h⟩ := hh
  have hh := b1_some h; clear h; obtain ⟨s2, hs2, h⟩ := hh
  refine EV_callV (Y := YX12_put) (as := [VI pt0]) (st := []) (st2 := []) (a := a1) (ci := 12) (r := rX12) (n := 1) dX12_object_114 (zX12_put E hs2) rfl cwX12_put rfl tw_1198 tw_1200 tw_46 rfl (e_if hu4).1.1 (e_if hu4).1.2 ⟨by decide, by decide⟩ (Nat.le_of_ble_eq_true rfl) rfl ?_
  cases h
  exact EV_ret ⟨dX12_object_117, rfl⟩ rfl
def mX12_object_79 (h0 : Nat) (pi3 : Int32) (pi4 : Int32) (pi5 : Int32) (pt0 : Int32) (pt1 : Int32) (pt2 : Option Nat) (s0 : eS) : Option eS :=
  (b1 pt2 fun a1 => (b1 (o_K s0 112 a1) fun u6 => (b1 (mX12_putNumber a1 pt1 pt0 s0) fun s2 => (if pi4 = (6 : Int32) then (b1 (g_I s2 112 19 h0) fun x5 => (mX12_object_114 ((x5 - x5 / (32 : Int32) * (32 : Int32)) ||| ((pi3 <<< ((3 : Int32) &&& 31)) &&& (128 : Int32))) (some h0) s2)) else (mX12_object_114 ((pi3 &&& (1 : Int32)) ||| pi5) (some h0) s2)))))
set_option maxRecDepth 100000 in
set_option maxHeartbeats 4000000 in
theorem zX12_object_79 (E : eE) {h0 : Nat} {pi3 : Int32} {pi4 : Int32} {pi5 : Int32} {pt0 : Int32} {pt1 : Int32} {pt2 : Option Nat} {s0 s9 : eS} (h : mX12_object_79 h0 pi3 pi4 pi5 pt0 pt1 pt2 s0 = some s9) : EV E MX12_object 79 [(0, VR (some h0)), (3, VI pi3), (4, VI pi4), (5, VI pi5)] [VI pt0, VI pt1, VR pt2] s0 none s9 := by
  unfold mX12_object_79 at h
  have hh := b1_some h; clear h; obtain ⟨a1, ha1, h⟩ := hh
  subst ha1
  have hh := b1_some h; clear h; obtain ⟨u6, hu6, h⟩ := hh
  have hh := b1_some h; clear h; obtain ⟨s2, hs2, h⟩ := hh
  refine EV_callV (Y := YX12_putNumber) (as := [VI pt1, VI pt0]) (st := []) (st2 := []) (a := a1) (ci := 12) (r := rX12) (n := 2) dX12_object_79 (zX12_putNumber E hs2) rfl cwX12_putNumber rfl tw_1202 tw_1204 tw_47 rfl (e_if hu6).1.1 (e_if hu6).1.2 ⟨by decide, by decide⟩ (Nat.le_of_ble_eq_true rfl) rfl ?_
  refine EV_aload_n dX12_object_82 rfl ?_
  refine EV_iload dX12_object_83 rfl ?_
  refine EV_bipush (x := (6 : Int32)) dX12_object_85 (by decide) ?_
  refine EV_icmp_ne (tgt := 108) dX12_object_87 (by decide) (fun c4 => ?_) (fun c4 => ?_)
  · rw [if_pos c4] at h
    refine EV_aload_n dX12_object_90 rfl ?_
    have hh := b1_some h; clear h; obtain ⟨x5, hx5, h⟩ := hh
    refine EV_getI (ci := 12) (k := 19) dX12_object_91 fl_X12_219 rfl hx5 ?_
    refine EV_bipush (x := (32 : Int32)) dX12_object_94 (by decide) ?_
    refine EV_irem dX12_object_96 (by decide) ?_
    refine EV_iload_n dX12_object_97 rfl ?_
    refine EV_iconst (x := (3 : Int32)) dX12_object_98 (by decide) ?_
    refine EV_ishl dX12_object_99 ?_
    refine EV_sipush (x := (128 : Int32)) dX12_object_100 (by decide) ?_
    refine EV_iand dX12_object_103 ?_
    refine EV_ior dX12_object_104 ?_
    refine EV_goto (tgt := 114) dX12_object_105 (by decide) ?_
    exact EV_pick [] rfl (zX12_object_114 E h)
  · rw [if_neg c4] at h
    refine EV_iload_n dX12_object_108 rfl ?_
    refine EV_iconst (x := (1 : Int32)) dX12_object_109 (by decide) ?_
    refine EV_iand dX12_object_110 ?_
    refine EV_iload dX12_object_111 rfl ?_
    refine EV_ior dX12_object_113 ?_
    exact EV_pick [] rfl (zX12_object_114 E h)
def mX12_object_58 (h0 : Nat) (pi3 : Int32) (pi4 : Int32) (pi5 : Int32) (pt0 : Int32) (pt1 : Option Nat) (s0 : eS) : Option eS :=
  (if pi4 = (2 : Int32) then (mX12_object_79 h0 pi3 pi4 pi5 (1 : Int32) pt0 pt1 s0) else (if (5 : Int32) ≤ pi4 then (mX12_object_79 h0 pi3 pi4 pi5 (4 : Int32) pt0 pt1 s0) else (mX12_object_79 h0 pi3 pi4 pi5 (2 : Int32) pt0 pt1 s0)))
set_option maxRecDepth 100000 in
set_option maxHeartbeats 4000000 in
theorem zX12_object_58 (E : eE) {h0 : Nat} {pi3 : Int32} {pi4 : Int32} {pi5 : Int32} {pt0 : Int32} {pt1 : Option Nat} {s0 s9 : eS} (h : mX12_object_58 h0 pi3 pi4 pi5 pt0 pt1 s0 = some s9) : EV E MX12_object 58 [(0, VR (some h0)), (3, VI pi3), (4, VI pi4), (5, VI pi5)] [VI pt0, VR pt1] s0 none s9 := by
  unfold mX12_object_58 at h
  refine EV_iload dX12_object_58 rfl ?_
  refine EV_iconst (x := (2 : Int32)) dX12_object_60 (by decide) ?_
  refine EV_icmp_ne (tgt := 68) dX12_object_61 (by decide) (fun c1 => ?_) (fun c1 => ?_)
  · rw [if_pos c1] at h
    refine EV_iconst (x := (1 : Int32)) dX12_object_64 (by decide) ?_
    refine EV_goto (tgt := 79) dX12_object_65 (by decide) ?_
    exact EV_pick [0, 1, 2, 3] rfl (zX12_object_79 E h)
  · rw [if_neg c1] at h
    refine EV_iload dX12_object_68 rfl ?_
    refine EV_iconst (x := (5 : Int32)) dX12_object_70 (by decide) ?_
    refine EV_icmp_ge (tgt := 78) dX12_object_71 (by decide) (fun c2 => ?_) (fun c2 => ?_)
    · rw [if_pos c2] at h
      refine EV_iconst (x := (4 : Int32)) dX12_object_78 (by decide) ?_
      exact EV_pick [0, 1, 2, 3] rfl (zX12_object_79 E h)
    · rw [if_neg c2] at h
      refine EV_iconst (x := (2 : Int32)) dX12_object_74 (by decide) ?_
      refine EV_goto (tgt := 79) dX12_object_75 (by decide) ?_
      exact EV_pick [0, 1, 2, 3] rfl (zX12_object_79 E h)
def mX12_object (h0 : Nat) (pi1 : Int32) (pi2 : Int32) (pi3 : Int32) (s0 : eS) : Option eS :=
  (b1 (g_P s0 112 2 h0) fun r1 => (b1 r1 fun a2 => (b1 (a_I s0 0 a2 pi1) fun x3 => (b1 (g_P s0 112 3 h0) fun r4 => (b1 r4 fun a5 => (b1 (a_I s0 0 a5 pi1) fun x6 => (b1 (o_K s0 112 h0) fun u13 => (b1 (mX12_putNumber h0 x6 (3 : Int32) s0) fun s7 => (if (2 : Int32) ≤ x3 then (if x3 = (2 : Int32) then (mX12_object_58 h0 pi3 x3 ((pi3 <<< ((3 : Int32) &&& 31)) &&& (240 : Int32)) (pi2 &&& (127 : Int32)) (some h0) s7) else (mX12_object_58 h0 pi3 x3 ((pi3 <<< ((3 : Int32) &&& 31)) &&& (240 : Int32)) pi2 (some h0) s7)) else (b1 (o_K s7 112 h0) fun u12 => (b1 (mX12_put h0 (pi2 ||| ((pi3 <<< ((3 : Int32) &&& 31)) &&& (240 : Int32))) s7) fun s10 => (some s10))))))))))))
set_option maxRecDepth 100000 in
set_option maxHeartbeats 4000000 in
theorem zX12_object (E : eE) {h0 : Nat} {pi1 : Int32} {pi2 : Int32} {pi3 : Int32} {s0 s9 : eS} (h : mX12_object h0 pi1 pi2 pi3 s0 = some s9) : EM E YX12_object [VR (some h0), VI pi1, VI pi2, VI pi3] s0 none s9 := by
  refine EM_of (M := MX12_object) (own := RX12) (ini := false) rfl (by decide +kernel) rfl (fun z => nomatch z) (Nat.le_of_ble_eq_true rfl) ?_
  unfold mX12_object at h
  refine EV_aload_n dX12_object_0 rfl ?_
  have hh := b1_some h; clear h; obtain ⟨r1, hr1, h⟩ := hh
  refine EV_getP (ci := 12) (k := 2) dX12_object_1 fl_X12_13 rfl hr1 ?_
  refine EV_iload_n dX12_object_4 rfl ?_
  have hh := b1_some h; clear h; obtain ⟨a2, ha2, h⟩ := hh
  subst ha2
  have hh := b1_some h; clear h; obtain ⟨x3, hx3, h⟩ := hh
  refine EV_aI (t := 0) (ty := .int) rfl (by decide) dX12_object_5 hx3 ?_
  refine EV_istore (lv2 := [(4, VI x3), (0, VR (some h0)), (1, VI pi1), (2, VI pi2), (3, VI pi3)]) dX12_object_6 (by decide) rfl ?_
  refine EV_aload_n dX12_object_8 rfl ?_
  refine EV_aload_n dX12_object_9 rfl ?_
  have hh := b1_some h; clear h; obtain ⟨r4, hr4, h⟩ := hh
  refine EV_getP (ci := 12) (k := 3) dX12_object_10 fl_X12_16 rfl hr4 ?_
  refine EV_iload_n dX12_object_13 rfl ?_
  have hh := b1_some h; clear h; obtain ⟨a5, ha5, h⟩ := hh
  subst ha5
  have hh := b1_some h; clear h; obtain ⟨x6, hx6, h⟩ := hh
  refine EV_aI (t := 0) (ty := .int) rfl (by decide) dX12_object_14 hx6 ?_
  refine EV_iconst (x := (3 : Int32)) dX12_object_15 (by decide) ?_
  have hh := b1_some h; clear h; obtain ⟨u13, hu13, h⟩ := hh
  have hh := b1_some h; clear h; obtain ⟨s7, hs7, h⟩ := hh
  refine EV_callV (Y := YX12_putNumber) (as := [VI x6, VI (3 : Int32)]) (st := []) (st2 := []) (a := h0) (ci := 12) (r := rX12) (n := 2) dX12_object_16 (zX12_putNumber E hs7) rfl cwX12_putNumber rfl tw_1202 tw_1204 tw_47 rfl (e_if hu13).1.1 (e_if hu13).1.2 ⟨by decide, by decide⟩ (Nat.le_of_ble_eq_true rfl) rfl ?_
  refine EV_iload_n dX12_object_19 rfl ?_
  refine EV_iconst (x := (3 : Int32)) dX12_object_20 (by decide) ?_
  refine EV_ishl dX12_object_21 ?_
  refine EV_sipush (x := (240 : Int32)) dX12_object_22 (by decide) ?_
  refine EV_iand dX12_object_25 ?_
  refine EV_istore (lv2 := [(5, VI ((pi3 <<< ((3 : Int32) &&& 31)) &&& (240 : Int32))), (4, VI x3), (0, VR (some h0)), (1, VI pi1), (2, VI pi2), (3, VI pi3)]) dX12_object_26 (by decide) rfl ?_
  refine EV_iload dX12_object_28 rfl ?_
  refine EV_iconst (x := (2 : Int32)) dX12_object_30 (by decide) ?_
  refine EV_icmp_ge (tgt := 43) dX12_object_31 (by decide) (fun c9 => ?_) (fun c9 => ?_)
  · rw [if_pos c9] at h
    refine EV_aload_n dX12_object_43 rfl ?_
    refine EV_iload dX12_object_44 rfl ?_
    refine EV_iconst (x := (2 : Int32)) dX12_object_46 (by decide) ?_
    refine EV_icmp_ne (tgt := 57) dX12_object_47 (by decide) (fun c10 => ?_) (fun c10 => ?_)
    · rw [if_pos c10] at h
      refine EV_iload_n dX12_object_50 rfl ?_
      refine EV_bipush (x := (127 : Int32)) dX12_object_51 (by decide) ?_
      refine EV_iand dX12_object_53 ?_
      refine EV_goto (tgt := 58) dX12_object_54 (by decide) ?_
      exact EV_pick [2, 5, 1, 0] rfl (zX12_object_58 E h)
    · rw [if_neg c10] at h
      refine EV_iload_n dX12_object_57 rfl ?_
      exact EV_pick [2, 5, 1, 0] rfl (zX12_object_58 E h)
  · rw [if_neg c9] at h
    refine EV_aload_n dX12_object_34 rfl ?_
    refine EV_iload_n dX12_object_35 rfl ?_
    refine EV_iload dX12_object_36 rfl ?_
    refine EV_ior dX12_object_38 ?_
    have hh := b1_some h; clear h; obtain ⟨u12, hu12, h⟩ := hh
    have hh := b1_some h; clear h; obtain ⟨s10, hs10, h⟩ := hh
    refine EV_callV (Y := YX12_put) (as := [VI (pi2 ||| ((pi3 <<< ((3 : Int32) &&& 31)) &&& (240 : Int32)))]) (st := []) (st2 := []) (a := h0) (ci := 12) (r := rX12) (n := 1) dX12_object_39 (zX12_put E hs10) rfl cwX12_put rfl tw_1198 tw_1200 tw_46 rfl (e_if hu12).1.1 (e_if hu12).1.2 ⟨by decide, by decide⟩ (Nat.le_of_ble_eq_true rfl) rfl ?_
    cases h
    exact EV_ret ⟨dX12_object_42, rfl⟩ rfl
def mX12_sendsEvent_191 : Nat → Nat → Int32 → eS → Option (Int32 × eS)
  | 0, _, _, _ => none
  | n + 1, h0, pi3, s0 =>
  (b1 (g_I s0 112 23 h0) fun x1 => (if x1 ≤ pi3 then (b1 (o_Z (1 : Int32)) fun u3 => some ((1 : Int32), s0)) else (b1 (o_K s0 112 h0) fun u5 => (b1 (mX12_moveEvent h0 (pi3 + (1 : Int32)) pi3 s0) fun s3 => (mX12_sendsEvent_191 n h0 (pi3 + (1 : Int32)) s3)))))
set_option maxRecDepth 100000 in
set_option maxHeartbeats 4000000 in
theorem zX12_sendsEvent_191 (E : eE) : ∀ (n : Nat) {h0 : Nat} {pi3 : Int32} {s0 s9 : eS} {y : Int32}, mX12_sendsEvent_191 n h0 pi3 s0 = some (y, s9) → EV E MX12_sendsEvent 191 [(0, VR (some h0)), (3, VI pi3)] [] s0 (some (VI y)) s9 := by
  intro n
  induction n with
  | zero =>
    intro h0 pi3 s0 s9 y h
    unfold mX12_sendsEvent_191 at h
    cases h
  | succ n ih =>
    intro h0 pi3 s0 s9 y h
    unfold mX12_sendsEvent_191 at h
    refine EV_iload_n dX12_sendsEvent_191 rfl ?_
    refine EV_aload_n dX12_sendsEvent_192 rfl ?_
    have hh := b1_some h; clear h; obtain ⟨x1, hx1, h⟩ := hh
    refine EV_getI (ci := 12) (k := 23) dX12_sendsEvent_193 fl_X12_158 rfl hx1 ?_
    refine EV_icmp_ge (tgt := 213) dX12_sendsEvent_196 (by decide) (fun c2 => ?_) (fun c2 => ?_)
    · rw [if_pos c2] at h
      refine EV_iconst (x := (1 : Int32)) dX12_sendsEvent_213 (by decide) ?_
      have hh := b1_some h; clear h; obtain ⟨u3, hu3, h⟩ := hh
      cases h
      exact EV_ret ⟨dX12_sendsEvent_214, .boolean, rfl, o_Z_n hu3⟩ rfl
    · rw [if_neg c2] at h
      refine EV_aload_n dX12_sendsEvent_199 rfl ?_
      refine EV_iload_n dX12_sendsEvent_200 rfl ?_
      refine EV_iconst (x := (1 : Int32)) dX12_sendsEvent_201 (by decide) ?_
      refine EV_iadd dX12_sendsEvent_202 ?_
      refine EV_iload_n dX12_sendsEvent_203 rfl ?_
      have hh := b1_some h; clear h; obtain ⟨u5, hu5, h⟩ := hh
      have hh := b1_some h; clear h; obtain ⟨s3, hs3, h⟩ := hh
      refine EV_callV (Y := YX12_moveEvent) (as := [VI (pi3 + (1 : Int32)), VI pi3]) (st := []) (st2 := []) (a := h0) (ci := 12) (r := rX12) (n := 2) dX12_sendsEvent_204 (zX12_moveEvent E hs3) rfl cwX12_moveEvent rfl tw_1172 tw_1174 tw_41 rfl (e_if hu5).1.1 (e_if hu5).1.2 ⟨by decide, by decide⟩ (Nat.le_of_ble_eq_true rfl) rfl ?_
      refine EV_iinc (y := (1 : Int32)) (lv2 := [(3, VI (pi3 + (1 : Int32))), (0, VR (some h0))]) dX12_sendsEvent_207 rfl (by decide) (by decide) rfl ?_
      refine EV_goto (tgt := 191) dX12_sendsEvent_210 (by decide) ?_
      exact EV_pick [1, 0] rfl (ih h)
def mX12_sendsEvent_150 : Nat → Nat → Int32 → Int32 → eS → Option (Int32 × eS)
  | 0, _, _, _, _ => none
  | n + 1, h0, pi2, pi3, s0 =>
  (if (7 : Int32) ≤ pi3 then (b1 (g_I s0 112 23 h0) fun x2 => (b1 (p_I s0 112 23 h0 (x2 - (1 : Int32))) fun s3 => (mX12_sendsEvent_191 100000 h0 (0 : Int32) s3))) else (b1 (g_P s0 112 34 h0) fun r2 => (b1 (g_P s0 112 27 h0) fun r3 => (b1 r3 fun a4 => (b1 (a_I s0 0 a4 pi3) fun x5 => (b1 r2 fun a6 => (b1 (s_I s0 0 a6 (((7 : Int32) * pi2) + pi3) x5) fun s7 => (mX12_sendsEvent_150 n h0 pi2 (pi3 + (1 : Int32)) s7))))))))
set_option maxRecDepth 100000 in
set_option maxHeartbeats 4000000 in
theorem zX12_sendsEvent_150 (E : eE) : ∀ (n : Nat) {h0 : Nat} {pi2 : Int32} {pi3 : Int32} {s0 s9 : eS} {y : Int32}, mX12_sendsEvent_150 n h0 pi2 pi3 s0 = some (y, s9) → EV E MX12_sendsEvent 150 [(0, VR (some h0)), (2, VI pi2), (3, VI pi3)] [] s0 (some (VI y)) s9 := by
  intro n
  induction n with
  | zero =>
    intro h0 pi2 pi3 s0 s9 y h
    unfold mX12_sendsEvent_150 at h
    cases h
  | succ n ih =>
    intro h0 pi2 pi3 s0 s9 y h
    unfold mX12_sendsEvent_150 at h
    refine EV_iload_n dX12_sendsEvent_150 rfl ?_
    refine EV_bipush (x := (7 : Int32)) dX12_sendsEvent_151 (by decide) ?_
    refine EV_icmp_ge (tgt := 179) dX12_sendsEvent_153 (by decide) (fun c1 => ?_) (fun c1 => ?_)
    · rw [if_pos c1] at h
      refine EV_aload_n dX12_sendsEvent_179 rfl ?_
      refine EV_dup dX12_sendsEvent_180 rfl ?_
      have hh := b1_some h; clear h; obtain ⟨x2, hx2, h⟩ := hh
      refine EV_getI (ci := 12) (k := 23) dX12_sendsEvent_181 fl_X12_158 rfl hx2 ?_
      refine EV_iconst (x := (1 : Int32)) dX12_sendsEvent_184 (by decide) ?_
      refine EV_isub dX12_sendsEvent_185 ?_
      have hh := b1_some h; clear h; obtain ⟨s3, hs3, h⟩ := hh
      refine EV_putI (ci := 12) (k := 23) dX12_sendsEvent_186 fp_X12_158 rfl hs3 ?_
      refine EV_iconst (x := (0 : Int32)) dX12_sendsEvent_189 (by decide) ?_
      refine EV_istore_n (lv2 := [(3, VI (0 : Int32)), (0, VR (some h0)), (2, VI pi2)]) dX12_sendsEvent_190 (by decide) rfl ?_
      exact EV_pick [1, 0] rfl (zX12_sendsEvent_191 E _ h)
    · rw [if_neg c1] at h
      refine EV_aload_n dX12_sendsEvent_156 rfl ?_
      have hh := b1_some h; clear h; obtain ⟨r2, hr2, h⟩ := hh
      refine EV_getP (ci := 12) (k := 34) dX12_sendsEvent_157 fl_X12_87 rfl hr2 ?_
      refine EV_bipush (x := (7 : Int32)) dX12_sendsEvent_160 (by decide) ?_
      refine EV_iload_n dX12_sendsEvent_162 rfl ?_
      refine EV_imul dX12_sendsEvent_163 ?_
      refine EV_iload_n dX12_sendsEvent_164 rfl ?_
      refine EV_iadd dX12_sendsEvent_165 ?_
      refine EV_aload_n dX12_sendsEvent_166 rfl ?_
      have hh := b1_some h; clear h; obtain ⟨r3, hr3, h⟩ := hh
      refine EV_getP (ci := 12) (k := 27) dX12_sendsEvent_167 fl_X12_69 rfl hr3 ?_
      refine EV_iload_n dX12_sendsEvent_170 rfl ?_
      have hh := b1_some h; clear h; obtain ⟨a4, ha4, h⟩ := hh
      subst ha4
      have hh := b1_some h; clear h; obtain ⟨x5, hx5, h⟩ := hh
      refine EV_aI (t := 0) (ty := .int) rfl (by decide) dX12_sendsEvent_171 hx5 ?_
      have hh := b1_some h; clear h; obtain ⟨a6, ha6, h⟩ := hh
      subst ha6
      have hh := b1_some h; clear h; obtain ⟨s7, hs7, h⟩ := hh
      refine EV_sI (t := 0) rfl dX12_sendsEvent_172 hs7 ?_
      refine EV_iinc (y := (1 : Int32)) (lv2 := [(3, VI (pi3 + (1 : Int32))), (0, VR (some h0)), (2, VI pi2)]) dX12_sendsEvent_173 rfl (by decide) (by decide) rfl ?_
      refine EV_goto (tgt := 150) dX12_sendsEvent_176 (by decide) ?_
      exact EV_pick [1, 2, 0] rfl (ih h)
def mX12_sendsEvent_94 (h0 : Nat) (pi1 : Int32) (s0 : eS) : Option (Int32 × eS) :=
  (b1 (o_K s0 112 h0) fun u23 => (b2 (mX12_sendsDraft h0 s0) fun x2 s1 => (if x2 = 0 then (b1 (o_Z (0 : Int32)) fun u4 => some ((0 : Int32), s1)) else (b1 (g_I s1 112 28 h0) fun x4 => (b1 (g_P s1 112 30 h0) fun r5 => (b1 r5 fun a6 => (b1 (s_Z s1 2 a6 (x4 - (1 : Int32)) (1 : Int32)) fun s7 => (b1 (g_P s7 112 31 h0) fun r8 => (b1 r8 fun a9 => (b1 (s_I s7 0 a9 (x4 - (1 : Int32)) pi1) fun s10 => (b1 (g_P s10 112 32 h0) fun r11 => (b1 (g_P s10 112 25 h0) fun r12 => (b1 r12 fun a13 => (b1 (a_I s10 0 a13 (0 : Int32)) fun x14 => (b1 r11 fun a15 => (b1 (s_I s10 0 a15 (x4 - (1 : Int32)) x14) fun s16 => (b1 (g_P s16 112 33 h0) fun r17 => (b1 (g_P s16 112 26 h0) fun r18 => (b1 r18 fun a19 => (b1 (a_I s16 0 a19 (0 : Int32)) fun x20 => (b1 r17 fun a21 => (b1 (s_I s16 0 a21 (x4 - (1 : Int32)) x20) fun s22 => (mX12_sendsEvent_150 100000 h0 (x4 - (1 : Int32)) (0 : Int32) s22)))))))))))))))))))))))
set_option maxRecDepth 100000 in
set_option maxHeartbeats 4000000 in
theorem zX12_sendsEvent_94 (E : eE) {h0 : Nat} {pi1 : Int32} {s0 s9 : eS} {y : Int32} (h : mX12_sendsEvent_94 h0 pi1 s0 = some (y, s9)) : EV E MX12_sendsEvent 94 [(0, VR (some h0)), (1, VI pi1)] [] s0 (some (VI y)) s9 := by
  unfold mX12_sendsEvent_94 at h
  refine EV_aload_n dX12_sendsEvent_94 rfl ?_
  have hh := b1_some h; clear h; obtain ⟨u23, hu23, h⟩ := hh
  have hh := b2_some h; clear h; obtain ⟨x2, s1, hs1, h⟩ := hh
  refine EV_callV (Y := YX12_sendsDraft) (as := []) (st := []) (st2 := [VI x2]) (a := h0) (ci := 12) (r := rX12) (n := 0) dX12_sendsEvent_95 (zX12_sendsDraft E hs1) rfl cwX12_sendsDraft rfl tw_1151 tw_1153 tw_36 rfl (e_if hu23).1.1 (e_if hu23).1.2 ⟨by decide, by decide⟩ (Nat.le_of_ble_eq_true rfl) rfl ?_
  refine EV_if_ne (tgt := 103) dX12_sendsEvent_98 (by decide) (fun c3 => ?_) (fun c3 => ?_)
  · rw [if_pos c3] at h
    refine EV_iconst (x := (0 : Int32)) dX12_sendsEvent_101 (by decide) ?_
    have hh := b1_some h; clear h; obtain ⟨u4, hu4, h⟩ := hh
    cases h
    exact EV_ret ⟨dX12_sendsEvent_102, .boolean, rfl, o_Z_n hu4⟩ rfl
  · rw [if_neg c3] at h
    refine EV_aload_n dX12_sendsEvent_103 rfl ?_
    have hh := b1_some h; clear h; obtain ⟨x4, hx4, h⟩ := hh
    refine EV_getI (ci := 12) (k := 28) dX12_sendsEvent_104 fl_X12_206 rfl hx4 ?_
    refine EV_iconst (x := (1 : Int32)) dX12_sendsEvent_107 (by decide) ?_
    refine EV_isub dX12_sendsEvent_108 ?_
    refine EV_istore_n (lv2 := [(2, VI (x4 - (1 : Int32))), (0, VR (some h0)), (1, VI pi1)]) dX12_sendsEvent_109 (by decide) rfl ?_
    refine EV_aload_n dX12_sendsEvent_110 rfl ?_
    have hh := b1_some h; clear h; obtain ⟨r5, hr5, h⟩ := hh
    refine EV_getP (ci := 12) (k := 30) dX12_sendsEvent_111 fl_X12_75 rfl hr5 ?_
    refine EV_iload_n dX12_sendsEvent_114 rfl ?_
    refine EV_iconst (x := (1 : Int32)) dX12_sendsEvent_115 (by decide) ?_
    have hh := b1_some h; clear h; obtain ⟨a6, ha6, h⟩ := hh
    subst ha6
    have hh := b1_some h; clear h; obtain ⟨s7, hs7, h⟩ := hh
    refine EV_sZ (t := 2) rfl dX12_sendsEvent_116 hs7 ?_
    refine EV_aload_n dX12_sendsEvent_117 rfl ?_
    have hh := b1_some h; clear h; obtain ⟨r8, hr8, h⟩ := hh
    refine EV_getP (ci := 12) (k := 31) dX12_sendsEvent_118 fl_X12_78 rfl hr8 ?_
    refine EV_iload_n dX12_sendsEvent_121 rfl ?_
    refine EV_iload_n dX12_sendsEvent_122 rfl ?_
    have hh := b1_some h; clear h; obtain ⟨a9, ha9, h⟩ := hh
    subst ha9
    have hh := b1_some h; clear h; obtain ⟨s10, hs10, h⟩ := hh
    refine EV_sI (t := 0) rfl dX12_sendsEvent_123 hs10 ?_
    refine EV_aload_n dX12_sendsEvent_124 rfl ?_
    have hh := b1_some h; clear h; obtain ⟨r11, hr11, h⟩ := hh
    refine EV_getP (ci := 12) (k := 32) dX12_sendsEvent_125 fl_X12_81 rfl hr11 ?_
    refine EV_iload_n dX12_sendsEvent_128 rfl ?_
    refine EV_aload_n dX12_sendsEvent_129 rfl ?_
    have hh := b1_some h; clear h; obtain ⟨r12, hr12, h⟩ := hh
    refine EV_getP (ci := 12) (k := 25) dX12_sendsEvent_130 fl_X12_63 rfl hr12 ?_
    refine EV_iconst (x := (0 : Int32)) dX12_sendsEvent_133 (by decide) ?_
    have hh := b1_some h; clear h; obtain ⟨a13, ha13, h⟩ := hh
    subst ha13
    have hh := b1_some h; clear h; obtain ⟨x14, hx14, h⟩ := hh
    refine EV_aI (t := 0) (ty := .int) rfl (by decide) dX12_sendsEvent_134 hx14 ?_
    have hh := b1_some h; clear h; obtain ⟨a15, ha15, h⟩ := hh
    subst ha15
    have hh := b1_some h; clear h; obtain ⟨s16, hs16, h⟩ := hh
    refine EV_sI (t := 0) rfl dX12_sendsEvent_135 hs16 ?_
    refine EV_aload_n dX12_sendsEvent_136 rfl ?_
    have hh := b1_some h; clear h; obtain ⟨r17, hr17, h⟩ := hh
    refine EV_getP (ci := 12) (k := 33) dX12_sendsEvent_137 fl_X12_84 rfl hr17 ?_
    refine EV_iload_n dX12_sendsEvent_140 rfl ?_
    refine EV_aload_n dX12_sendsEvent_141 rfl ?_
    have hh := b1_some h; clear h; obtain ⟨r18, hr18, h⟩ := hh
    refine EV_getP (ci := 12) (k := 26) dX12_sendsEvent_142 fl_X12_66 rfl hr18 ?_
    refine EV_iconst (x := (0 : Int32)) dX12_sendsEvent_145 (by decide) ?_
    have hh := b1_some h; clear h; obtain ⟨a19, ha19, h⟩ := hh
    subst ha19
    have hh := b1_some h; clear h; obtain ⟨x20, hx20, h⟩ := hh
    refine EV_aI (t := 0) (ty := .int) rfl (by decide) dX12_sendsEvent_146 hx20 ?_
    have hh := b1_some h; clear h; obtain ⟨a21, ha21, h⟩ := hh
    subst ha21
    have hh := b1_some h; clear h; obtain ⟨s22, hs22, h⟩ := hh
    refine EV_sI (t := 0) rfl dX12_sendsEvent_147 hs22 ?_
    refine EV_iconst (x := (0 : Int32)) dX12_sendsEvent_148 (by decide) ?_
    refine EV_istore_n (lv2 := [(3, VI (0 : Int32)), (2, VI (x4 - (1 : Int32))), (0, VR (some h0)), (1, VI pi1)]) dX12_sendsEvent_149 (by decide) rfl ?_
    exact EV_pick [2, 1, 0] rfl (zX12_sendsEvent_150 E _ h)
def mX12_sendsEvent_63 : Nat → Nat → Int32 → Int32 → eS → Option (Int32 × eS)
  | 0, _, _, _, _ => none
  | n + 1, h0, pi1, pi2, s0 =>
  (if (7 : Int32) ≤ pi2 then (mX12_sendsEvent_94 h0 pi1 s0) else (b1 (g_P s0 112 5 h0) fun r2 => (b1 r2 fun a3 => (b1 (a_I s0 2 a3 pi1) fun x4 => (if x4 = 0 then (mX12_sendsEvent_94 h0 pi1 s0) else (b1 (g_P s0 112 27 h0) fun r6 => (b1 r6 fun a7 => (b1 (a_I s0 0 a7 pi2) fun x8 => (b1 (o_K s0 112 h0) fun u11 => (b1 (mX12_put h0 x8 s0) fun s9 => (mX12_sendsEvent_63 n h0 pi1 (pi2 + (1 : Int32)) s9)))))))))))
set_option maxRecDepth 100000 in
set_option maxHeartbeats 4000000 in
theorem zX12_sendsEvent_63 (E : eE) : ∀ (n : Nat) {h0 : Nat} {pi1 : Int32} {pi2 : Int32} {s0 s9 : eS} {y : Int32}, mX12_sendsEvent_63 n h0 pi1 pi2 s0 = some (y, s9) → EV E MX12_sendsEvent 63 [(0, VR (some h0)), (1, VI pi1), (2, VI pi2)] [] s0 (some (VI y)) s9 := by
  intro n
  induction n with
  | zero =>
    intro h0 pi1 pi2 s0 s9 y h
    unfold mX12_sendsEvent_63 at h
    cases h
  | succ n ih =>
    intro h0 pi1 pi2 s0 s9 y h
    unfold mX12_sendsEvent_63 at h
    refine EV_iload_n dX12_sendsEvent_63 rfl ?_
    refine EV_bipush (x := (7 : Int32)) dX12_sendsEvent_64 (by decide) ?_
    refine EV_icmp_ge (tgt := 94) dX12_sendsEvent_66 (by decide) (fun c1 => ?_) (fun c1 => ?_)
    · rw [if_pos c1] at h
      exact EV_pick [0, 1] rfl (zX12_sendsEvent_94 E h)
    · rw [if_neg c1] at h
      refine EV_aload_n dX12_sendsEvent_69 rfl ?_
      have hh := b1_some h; clear h; obtain ⟨r2, hr2, h⟩ := hh
      refine EV_getP (ci := 12) (k := 5) dX12_sendsEvent_70 fl_X12_22 rfl hr2 ?_
      refine EV_iload_n dX12_sendsEvent_73 rfl ?_
      have hh := b1_some h; clear h; obtain ⟨a3, ha3, h⟩ := hh
      subst ha3
      have hh := b1_some h; clear h; obtain ⟨x4, hx4, h⟩ := hh
      refine EV_aI (t := 2) (ty := .boolean) rfl (by decide) dX12_sendsEvent_74 hx4 ?_
      refine EV_if_eq (tgt := 94) dX12_sendsEvent_75 (by decide) (fun c5 => ?_) (fun c5 => ?_)
      · rw [if_pos c5] at h
        exact EV_pick [0, 1] rfl (zX12_sendsEvent_94 E h)
      · rw [if_neg c5] at h
        refine EV_aload_n dX12_sendsEvent_78 rfl ?_
        refine EV_aload_n dX12_sendsEvent_79 rfl ?_
        have hh := b1_some h; clear h; obtain ⟨r6, hr6, h⟩ := hh
        refine EV_getP (ci := 12) (k := 27) dX12_sendsEvent_80 fl_X12_69 rfl hr6 ?_
        refine EV_iload_n dX12_sendsEvent_83 rfl ?_
        have hh := b1_some h; clear h; obtain ⟨a7, ha7, h⟩ := hh
        subst ha7
        have hh := b1_some h; clear h; obtain ⟨x8, hx8, h⟩ := hh
        refine EV_aI (t := 0) (ty := .int) rfl (by decide) dX12_sendsEvent_84 hx8 ?_
        have hh := b1_some h; clear h; obtain ⟨u11, hu11, h⟩ := hh
        have hh := b1_some h; clear h; obtain ⟨s9, hs9, h⟩ := hh
        refine EV_callV (Y := YX12_put) (as := [VI x8]) (st := []) (st2 := []) (a := h0) (ci := 12) (r := rX12) (n := 1) dX12_sendsEvent_85 (zX12_put E hs9) rfl cwX12_put rfl tw_1198 tw_1200 tw_46 rfl (e_if hu11).1.1 (e_if hu11).1.2 ⟨by decide, by decide⟩ (Nat.le_of_ble_eq_true rfl) rfl ?_
        refine EV_iinc (y := (1 : Int32)) (lv2 := [(2, VI (pi2 + (1 : Int32))), (0, VR (some h0)), (1, VI pi1)]) dX12_sendsEvent_88 rfl (by decide) (by decide) rfl ?_
        refine EV_goto (tgt := 63) dX12_sendsEvent_91 (by decide) ?_
        exact EV_pick [1, 2, 0] rfl (ih h)
def mX12_sendsEvent_38 (h0 : Nat) (pi1 : Int32) (pt0 : Int32) (pt1 : Option Nat) (s0 : eS) : Option (Int32 × eS) :=
  (b1 pt1 fun a1 => (b1 (o_K s0 112 a1) fun u13 => (b1 (mX12_head a1 pt0 (1 : Int32) (3 : Int32) (0 : Int32) s0) fun s2 => (b1 (g_P s2 112 25 h0) fun r4 => (b1 r4 fun a5 => (b1 (a_I s2 0 a5 (0 : Int32)) fun x6 => (b1 (g_P s2 112 26 h0) fun r7 => (b1 r7 fun a8 => (b1 (a_I s2 0 a8 (0 : Int32)) fun x9 => (b1 (o_K s2 112 h0) fun u12 => (b1 (mX12_object h0 pi1 x6 x9 s2) fun s10 => (mX12_sendsEvent_63 100000 h0 pi1 (0 : Int32) s10))))))))))))
set_option maxRecDepth 100000 in
set_option maxHeartbeats 4000000 in
theorem zX12_sendsEvent_38 (E : eE) {h0 : Nat} {pi1 : Int32} {pt0 : Int32} {pt1 : Option Nat} {s0 s9 : eS} {y : Int32} (h : mX12_sendsEvent_38 h0 pi1 pt0 pt1 s0 = some (y, s9)) : EV E MX12_sendsEvent 38 [(0, VR (some h0)), (1, VI pi1)] [VI pt0, VR pt1] s0 (some (VI y)) s9 := by
  unfold mX12_sendsEvent_38 at h
  refine EV_iconst (x := (1 : Int32)) dX12_sendsEvent_38 (by decide) ?_
  refine EV_iconst (x := (3 : Int32)) dX12_sendsEvent_39 (by decide) ?_
  refine EV_iconst (x := (0 : Int32)) dX12_sendsEvent_40 (by decide) ?_
  have hh := b1_some h; clear h; obtain ⟨a1, ha1, h⟩ := hh
  subst ha1
  have hh := b1_some h; clear h; obtain ⟨u13, hu13, h⟩ := hh
  have hh := b1_some h; clear h; obtain ⟨s2, hs2, h⟩ := hh
  refine EV_callV (Y := YX12_head) (as := [VI pt0, VI (1 : Int32), VI (3 : Int32), VI (0 : Int32)]) (st := []) (st2 := []) (a := a1) (ci := 12) (r := rX12) (n := 4) dX12_sendsEvent_41 (zX12_head E hs2) rfl cwX12_head rfl tw_1194 tw_1196 tw_45 rfl (e_if hu13).1.1 (e_if hu13).1.2 ⟨by decide, by decide⟩ (Nat.le_of_ble_eq_true rfl) rfl ?_
  refine EV_aload_n dX12_sendsEvent_44 rfl ?_
  refine EV_iload_n dX12_sendsEvent_45 rfl ?_
  refine EV_aload_n dX12_sendsEvent_46 rfl ?_
  have hh := b1_some h; clear h; obtain ⟨r4, hr4, h⟩ := hh
  refine EV_getP (ci := 12) (k := 25) dX12_sendsEvent_47 fl_X12_63 rfl hr4 ?_
  refine EV_iconst (x := (0 : Int32)) dX12_sendsEvent_50 (by decide) ?_
  have hh := b1_some h; clear h; obtain ⟨a5, ha5, h⟩ := hh
  subst ha5
  have hh := b1_some h; clear h; obtain ⟨x6, hx6, h⟩ := hh
  refine EV_aI (t := 0) (ty := .int) rfl (by decide) dX12_sendsEvent_51 hx6 ?_
  refine EV_aload_n dX12_sendsEvent_52 rfl ?_
  have hh := b1_some h; clear h; obtain ⟨r7, hr7, h⟩ := hh
  refine EV_getP (ci := 12) (k := 26) dX12_sendsEvent_53 fl_X12_66 rfl hr7 ?_
  refine EV_iconst (x := (0 : Int32)) dX12_sendsEvent_56 (by decide) ?_
  have hh := b1_some h; clear h; obtain ⟨a8, ha8, h⟩ := hh
  subst ha8
  have hh := b1_some h; clear h; obtain ⟨x9, hx9, h⟩ := hh
  refine EV_aI (t := 0) (ty := .int) rfl (by decide) dX12_sendsEvent_57 hx9 ?_
  have hh := b1_some h; clear h; obtain ⟨u12, hu12, h⟩ := hh
  have hh := b1_some h; clear h; obtain ⟨s10, hs10, h⟩ := hh
  refine EV_callV (Y := YX12_object) (as := [VI pi1, VI x6, VI x9]) (st := []) (st2 := []) (a := h0) (ci := 12) (r := rX12) (n := 3) dX12_sendsEvent_58 (zX12_object E hs10) rfl cwX12_object rfl tw_1206 tw_1208 tw_48 rfl (e_if hu12).1.1 (e_if hu12).1.2 ⟨by decide, by decide⟩ (Nat.le_of_ble_eq_true rfl) rfl ?_
  refine EV_iconst (x := (0 : Int32)) dX12_sendsEvent_61 (by decide) ?_
  refine EV_istore_n (lv2 := [(2, VI (0 : Int32)), (0, VR (some h0)), (1, VI pi1)]) dX12_sendsEvent_62 (by decide) rfl ?_
  exact EV_pick [1, 2, 0] rfl (zX12_sendsEvent_63 E _ h)
def mX12_sendsEvent (h0 : Nat) (s0 : eS) : Option (Int32 × eS) :=
  (b1 (g_P s0 112 24 h0) fun r1 => (b1 r1 fun a2 => (b1 (a_I s0 0 a2 (0 : Int32)) fun x3 => (b1 (g_P s0 112 5 h0) fun r4 => (b1 r4 fun a5 => (b1 (a_I s0 2 a5 x3) fun x6 => (if x6 = 0 then (b1 (g_P s0 112 2 h0) fun r8 => (b1 r8 fun a9 => (b1 (a_I s0 0 a9 x3) fun x10 => (b2 (mX12_typeOf x10 s0) fun x12 s11 => (mX12_sendsEvent_38 h0 x3 x12 (some h0) s11))))) else (b1 (g_P s0 112 2 h0) fun r8 => (b1 r8 fun a9 => (b1 (a_I s0 0 a9 x3) fun x10 => (b2 (mX12_timedTypeOf x10 s0) fun x12 s11 => (mX12_sendsEvent_38 h0 x3 x12 (some h0) s11))))))))))))
set_option maxRecDepth 100000 in
set_option maxHeartbeats 4000000 in
theorem zX12_sendsEvent (E : eE) {h0 : Nat} {s0 s9 : eS} {y : Int32} (h : mX12_sendsEvent h0 s0 = some (y, s9)) : EM E YX12_sendsEvent [VR (some h0)] s0 (some (VI y)) s9 := by
  refine EM_of (M := MX12_sendsEvent) (own := RX12) (ini := false) rfl (by decide +kernel) rfl (fun z => nomatch z) (Nat.le_of_ble_eq_true rfl) ?_
  unfold mX12_sendsEvent at h
  refine EV_aload_n dX12_sendsEvent_0 rfl ?_
  have hh := b1_some h; clear h; obtain ⟨r1, hr1, h⟩ := hh
  refine EV_getP (ci := 12) (k := 24) dX12_sendsEvent_1 fl_X12_60 rfl hr1 ?_
  refine EV_iconst (x := (0 : Int32)) dX12_sendsEvent_4 (by decide) ?_
  have hh := b1_some h; clear h; obtain ⟨a2, ha2, h⟩ := hh
  subst ha2
  have hh := b1_some h; clear h; obtain ⟨x3, hx3, h⟩ := hh
  refine EV_aI (t := 0) (ty := .int) rfl (by decide) dX12_sendsEvent_5 hx3 ?_
  refine EV_istore_n (lv2 := [(1, VI x3), (0, VR (some h0))]) dX12_sendsEvent_6 (by decide) rfl ?_
  refine EV_aload_n dX12_sendsEvent_7 rfl ?_
  refine EV_aload_n dX12_sendsEvent_8 rfl ?_
  have hh := b1_some h; clear h; obtain ⟨r4, hr4, h⟩ := hh
  refine EV_getP (ci := 12) (k := 5) dX12_sendsEvent_9 fl_X12_22 rfl hr4 ?_
  refine EV_iload_n dX12_sendsEvent_12 rfl ?_
  have hh := b1_some h; clear h; obtain ⟨a5, ha5, h⟩ := hh
  subst ha5
  have hh := b1_some h; clear h; obtain ⟨x6, hx6, h⟩ := hh
  refine EV_aI (t := 2) (ty := .boolean) rfl (by decide) dX12_sendsEvent_13 hx6 ?_
  refine EV_if_eq (tgt := 29) dX12_sendsEvent_14 (by decide) (fun c7 => ?_) (fun c7 => ?_)
  · rw [if_pos c7] at h
    refine EV_aload_n dX12_sendsEvent_29 rfl ?_
    have hh := b1_some h; clear h; obtain ⟨r8, hr8, h⟩ := hh
    refine EV_getP (ci := 12) (k := 2) dX12_sendsEvent_30 fl_X12_13 rfl hr8 ?_
    refine EV_iload_n dX12_sendsEvent_33 rfl ?_
    have hh := b1_some h; clear h; obtain ⟨a9, ha9, h⟩ := hh
    subst ha9
    have hh := b1_some h; clear h; obtain ⟨x10, hx10, h⟩ := hh
    refine EV_aI (t := 0) (ty := .int) rfl (by decide) dX12_sendsEvent_34 hx10 ?_
    have hh := b2_some h; clear h; obtain ⟨x12, s11, hs11, h⟩ := hh
    refine EV_callS (Y := YX12_typeOf) (as := [VI x10]) (st := [VR (some h0)]) (st2 := [VI x12, VR (some h0)]) (n := 1) dX12_sendsEvent_35 (zX12_typeOf E hs11) rfl cwX12_typeOf rfl tw_1191 tw_1192 ⟨by decide, by decide⟩ (Nat.le_of_ble_eq_true rfl) rfl ?_
    exact EV_pick [1, 0] rfl (zX12_sendsEvent_38 E h)
  · rw [if_neg c7] at h
    refine EV_aload_n dX12_sendsEvent_17 rfl ?_
    have hh := b1_some h; clear h; obtain ⟨r8, hr8, h⟩ := hh
    refine EV_getP (ci := 12) (k := 2) dX12_sendsEvent_18 fl_X12_13 rfl hr8 ?_
    refine EV_iload_n dX12_sendsEvent_21 rfl ?_
    have hh := b1_some h; clear h; obtain ⟨a9, ha9, h⟩ := hh
    subst ha9
    have hh := b1_some h; clear h; obtain ⟨x10, hx10, h⟩ := hh
    refine EV_aI (t := 0) (ty := .int) rfl (by decide) dX12_sendsEvent_22 hx10 ?_
    have hh := b2_some h; clear h; obtain ⟨x12, s11, hs11, h⟩ := hh
    refine EV_callS (Y := YX12_timedTypeOf) (as := [VI x10]) (st := [VR (some h0)]) (st2 := [VI x12, VR (some h0)]) (n := 1) dX12_sendsEvent_23 (zX12_timedTypeOf E hs11) rfl cwX12_timedTypeOf rfl tw_1188 tw_1189 ⟨by decide, by decide⟩ (Nat.le_of_ble_eq_true rfl) rfl ?_
    refine EV_goto (tgt := 38) dX12_sendsEvent_26 (by decide) ?_
    exact EV_pick [1, 0] rfl (zX12_sendsEvent_38 E h)
def mX12_sends_115 (s0 : eS) : Option eS :=
  (some s0)
set_option maxRecDepth 100000 in
set_option maxHeartbeats 4000000 in
theorem zX12_sends_115 (E : eE) {s0 s9 : eS} (h : mX12_sends_115 s0 = some s9) : EV E MX12_sends 115 [] [] s0 none s9 := by
  unfold mX12_sends_115 at h
  cases h
  exact EV_ret ⟨dX12_sends_115, rfl⟩ rfl
def mX12_sends_54 (k0 : Nat → eS → Option eS) : Nat → Nat → Int32 → eS → Option eS
  | 0, _, _, _ => none
  | n + 1, h0, pi1, s0 =>
  (b1 (g_I s0 112 53 h0) fun x1 => (if x1 ≤ pi1 then (b1 (o_K s0 112 h0) fun u13 => (b2 (mX12_sendsDraft h0 s0) fun x4 s3 => (if x4 = 0 then (some s3) else (b1 (g_P s3 112 30 h0) fun r6 => (b1 (g_I s3 112 28 h0) fun x7 => (b1 r6 fun a8 => (b1 (s_Z s3 2 a8 (x7 - (1 : Int32)) (0 : Int32)) fun s9 => (b1 (o_K s9 112 h0) fun u12 => (b1 (mX12_firstAnswerGoes h0 s9) fun s10 => (k0 h0 s10)))))))))) else (b1 (g_P s0 112 52 h0) fun r3 => (b1 (g_P s0 112 47 h0) fun r4 => (b1 r4 fun a5 => (b1 (a_I s0 0 a5 pi1) fun x6 => (b1 r3 fun a7 => (b1 (s_I s0 0 a7 pi1 x6) fun s8 => (mX12_sends_54 k0 n h0 (pi1 + (1 : Int32)) s8)))))))))
set_option maxRecDepth 100000 in
set_option maxHeartbeats 4000000 in
theorem zX12_sends_54 (E : eE) {k0 : Nat → eS → Option eS} (hk0 : ∀ {h0 : Nat} {s0 s9 : eS}, k0 h0 s0 = some s9 → EV E MX12_sends 0 [(0, VR (some h0))] [] s0 none s9) : ∀ (n : Nat) {h0 : Nat} {pi1 : Int32} {s0 s9 : eS}, mX12_sends_54 k0 n h0 pi1 s0 = some s9 → EV E MX12_sends 54 [(0, VR (some h0)), (1, VI pi1)] [] s0 none s9 := by
  intro n
  induction n with
  | zero =>
    intro h0 pi1 s0 s9 h
    unfold mX12_sends_54 at h
    cases h
  | succ n ih =>
    intro h0 pi1 s0 s9 h
    unfold mX12_sends_54 at h
    refine EV_iload_n dX12_sends_54 rfl ?_
    refine EV_aload_n dX12_sends_55 rfl ?_
    have hh := b1_some h; clear h; obtain ⟨x1, hx1, h⟩ := hh
    refine EV_getI (ci := 12) (k := 53) dX12_sends_56 fl_X12_203 rfl hx1 ?_
    refine EV_icmp_ge (tgt := 80) dX12_sends_59 (by decide) (fun c2 => ?_) (fun c2 => ?_)
    · rw [if_pos c2] at h
      refine EV_aload_n dX12_sends_80 rfl ?_
      have hh := b1_some h; clear h; obtain ⟨u13, hu13, h⟩ := hh
      have hh := b2_some h; clear h; obtain ⟨x4, s3, hs3, h⟩ := hh
      refine EV_callV (Y := YX12_sendsDraft) (as := []) (st := []) (st2 := [VI x4]) (a := h0) (ci := 12) (r := rX12) (n := 0) dX12_sends_81 (zX12_sendsDraft E hs3) rfl cwX12_sendsDraft rfl tw_1151 tw_1153 tw_36 rfl (e_if hu13).1.1 (e_if hu13).1.2 ⟨by decide, by decide⟩ (Nat.le_of_ble_eq_true rfl) rfl ?_
      refine EV_if_ne (tgt := 88) dX12_sends_84 (by decide) (fun c5 => ?_) (fun c5 => ?_)
      · rw [if_pos c5] at h
        cases h
        exact EV_ret ⟨dX12_sends_87, rfl⟩ rfl
      · rw [if_neg c5] at h
        refine EV_aload_n dX12_sends_88 rfl ?_
        have hh := b1_some h; clear h; obtain ⟨r6, hr6, h⟩ := hh
        refine EV_getP (ci := 12) (k := 30) dX12_sends_89 fl_X12_75 rfl hr6 ?_
        refine EV_aload_n dX12_sends_92 rfl ?_
        have hh := b1_some h; clear h; obtain ⟨x7, hx7, h⟩ := hh
        refine EV_getI (ci := 12) (k := 28) dX12_sends_93 fl_X12_206 rfl hx7 ?_
        refine EV_iconst (x := (1 : Int32)) dX12_sends_96 (by decide) ?_
        refine EV_isub dX12_sends_97 ?_
        refine EV_iconst (x := (0 : Int32)) dX12_sends_98 (by decide) ?_
        have hh := b1_some h; clear h; obtain ⟨a8, ha8, h⟩ := hh
        subst ha8
        have hh := b1_some h; clear h; obtain ⟨s9, hs9, h⟩ := hh
        refine EV_sZ (t := 2) rfl dX12_sends_99 hs9 ?_
        refine EV_aload_n dX12_sends_100 rfl ?_
        have hh := b1_some h; clear h; obtain ⟨u12, hu12, h⟩ := hh
        have hh := b1_some h; clear h; obtain ⟨s10, hs10, h⟩ := hh
        refine EV_callV (Y := YX12_firstAnswerGoes) (as := []) (st := []) (st2 := []) (a := h0) (ci := 12) (r := rX12) (n := 0) dX12_sends_101 (zX12_firstAnswerGoes E hs10) rfl cwX12_firstAnswerGoes rfl tw_1180 tw_1182 tw_43 rfl (e_if hu12).1.1 (e_if hu12).1.2 ⟨by decide, by decide⟩ (Nat.le_of_ble_eq_true rfl) rfl ?_
        refine EV_goto (tgt := 0) dX12_sends_104 (by decide) ?_
        exact EV_pick [0] rfl (hk0 h)
    · rw [if_neg c2] at h
      refine EV_aload_n dX12_sends_62 rfl ?_
      have hh := b1_some h; clear h; obtain ⟨r3, hr3, h⟩ := hh
      refine EV_getP (ci := 12) (k := 52) dX12_sends_63 fl_X12_102 rfl hr3 ?_
      refine EV_iload_n dX12_sends_66 rfl ?_
      refine EV_aload_n dX12_sends_67 rfl ?_
      have hh := b1_some h; clear h; obtain ⟨r4, hr4, h⟩ := hh
      refine EV_getP (ci := 12) (k := 47) dX12_sends_68 fl_X12_93 rfl hr4 ?_
      refine EV_iload_n dX12_sends_71 rfl ?_
      have hh := b1_some h; clear h; obtain ⟨a5, ha5, h⟩ := hh
      subst ha5
      have hh := b1_some h; clear h; obtain ⟨x6, hx6, h⟩ := hh
      refine EV_aI (t := 0) (ty := .int) rfl (by decide) dX12_sends_72 hx6 ?_
      have hh := b1_some h; clear h; obtain ⟨a7, ha7, h⟩ := hh
      subst ha7
      have hh := b1_some h; clear h; obtain ⟨s8, hs8, h⟩ := hh
      refine EV_sI (t := 0) rfl dX12_sends_73 hs8 ?_
      refine EV_iinc (y := (1 : Int32)) (lv2 := [(1, VI (pi1 + (1 : Int32))), (0, VR (some h0))]) dX12_sends_74 rfl (by decide) (by decide) rfl ?_
      refine EV_goto (tgt := 54) dX12_sends_77 (by decide) ?_
      exact EV_pick [1, 0] rfl (ih h)
def mX12_sends_35 (k0 : Nat → eS → Option eS) (h0 : Nat) (s0 : eS) : Option eS :=
  (b1 (g_I s0 112 45 h0) fun x1 => (if x1 ≤ 0 then (b1 (o_K s0 112 h0) fun u6 => (b2 (mX12_sendsEvent h0 s0) fun x4 s3 => (if x4 = 0 then (some s3) else (k0 h0 s3)))) else (b1 (g_P s0 112 46 h0) fun r3 => (b1 r3 fun a4 => (b1 (a_I s0 0 a4 (0 : Int32)) fun x5 => (b1 (p_I s0 112 53 h0 x5) fun s6 => (mX12_sends_54 k0 100000 h0 (0 : Int32) s6)))))))
set_option maxRecDepth 100000 in
set_option maxHeartbeats 4000000 in
theorem zX12_sends_35 (E : eE) {k0 : Nat → eS → Option eS} (hk0 : ∀ {h0 : Nat} {s0 s9 : eS}, k0 h0 s0 = some s9 → EV E MX12_sends 0 [(0, VR (some h0))] [] s0 none s9) {h0 : Nat} {s0 s9 : eS} (h : mX12_sends_35 k0 h0 s0 = some s9) : EV E MX12_sends 35 [(0, VR (some h0))] [] s0 none s9 := by
  unfold mX12_sends_35 at h
  refine EV_aload_n dX12_sends_35 rfl ?_
  have hh := b1_some h; clear h; obtain ⟨x1, hx1, h⟩ := hh
  refine EV_getI (ci := 12) (k := 45) dX12_sends_36 fl_X12_222 rfl hx1 ?_
  refine EV_if_le (tgt := 107) dX12_sends_39 (by decide) (fun c2 => ?_) (fun c2 => ?_)
  · rw [if_pos c2] at h
    refine EV_aload_n dX12_sends_107 rfl ?_
    have hh := b1_some h; clear h; obtain ⟨u6, hu6, h⟩ := hh
    have hh := b2_some h; clear h; obtain ⟨x4, s3, hs3, h⟩ := hh
    refine EV_callV (Y := YX12_sendsEvent) (as := []) (st := []) (st2 := [VI x4]) (a := h0) (ci := 12) (r := rX12) (n := 0) dX12_sends_108 (zX12_sendsEvent E hs3) rfl cwX12_sendsEvent rfl tw_1184 tw_1186 tw_44 rfl (e_if hu6).1.1 (e_if hu6).1.2 ⟨by decide, by decide⟩ (Nat.le_of_ble_eq_true rfl) rfl ?_
    refine EV_if_ne (tgt := 0) dX12_sends_111 (by decide) (fun c5 => ?_) (fun c5 => ?_)
    · rw [if_pos c5] at h
      cases h
      exact EV_ret ⟨dX12_sends_114, rfl⟩ rfl
    · rw [if_neg c5] at h
      exact EV_pick [0] rfl (hk0 h)
  · rw [if_neg c2] at h
    refine EV_aload_n dX12_sends_42 rfl ?_
    refine EV_aload_n dX12_sends_43 rfl ?_
    have hh := b1_some h; clear h; obtain ⟨r3, hr3, h⟩ := hh
    refine EV_getP (ci := 12) (k := 46) dX12_sends_44 fl_X12_90 rfl hr3 ?_
    refine EV_iconst (x := (0 : Int32)) dX12_sends_47 (by decide) ?_
    have hh := b1_some h; clear h; obtain ⟨a4, ha4, h⟩ := hh
    subst ha4
    have hh := b1_some h; clear h; obtain ⟨x5, hx5, h⟩ := hh
    refine EV_aI (t := 0) (ty := .int) rfl (by decide) dX12_sends_48 hx5 ?_
    have hh := b1_some h; clear h; obtain ⟨s6, hs6, h⟩ := hh
    refine EV_putI (ci := 12) (k := 53) dX12_sends_49 fp_X12_203 rfl hs6 ?_
    refine EV_iconst (x := (0 : Int32)) dX12_sends_52 (by decide) ?_
    refine EV_istore_n (lv2 := [(1, VI (0 : Int32)), (0, VR (some h0))]) dX12_sends_53 (by decide) rfl ?_
    exact EV_pick [1, 0] rfl (zX12_sends_54 E hk0 _ h)
def mX12_sends_0 : Nat → Nat → eS → Option eS
  | 0, _, _ => none
  | n + 1, h0, s0 =>
  (b1 (g_I s0 112 35 h0) fun x1 => (if x1 = (2 : Int32) then (b1 (g_I s0 112 28 h0) fun x3 => (b1 (g_P s0 112 0 h0) fun r4 => (b1 r4 fun a5 => (b1 (a_I s0 0 a5 (1 : Int32)) fun x6 => (if x6 ≤ x3 then (mX12_sends_115 s0) else (b1 (g_I s0 112 45 h0) fun x8 => (if 0 < x8 then (mX12_sends_35 (mX12_sends_0 n) h0 s0) else (b1 (g_I s0 112 23 h0) fun x10 => (if x10 ≤ 0 then (mX12_sends_115 s0) else (mX12_sends_35 (mX12_sends_0 n) h0 s0)))))))))) else (mX12_sends_115 s0)))
set_option maxRecDepth 100000 in
set_option maxHeartbeats 4000000 in
theorem zX12_sends_0 (E : eE) : ∀ (n : Nat) {h0 : Nat} {s0 s9 : eS}, mX12_sends_0 n h0 s0 = some s9 → EV E MX12_sends 0 [(0, VR (some h0))] [] s0 none s9 := by
  intro n
  induction n with
  | zero =>
    intro h0 s0 s9 h
    unfold mX12_sends_0 at h
    cases h
  | succ n ih =>
    intro h0 s0 s9 h
    unfold mX12_sends_0 at h
    refine EV_aload_n dX12_sends_0 rfl ?_
    have hh := b1_some h; clear h; obtain ⟨x1, hx1, h⟩ := hh
    refine EV_getI (ci := 12) (k := 35) dX12_sends_1 fl_X12_125 rfl hx1 ?_
    refine EV_iconst (x := (2 : Int32)) dX12_sends_4 (by decide) ?_
    refine EV_icmp_ne (tgt := 115) dX12_sends_5 (by decide) (fun c2 => ?_) (fun c2 => ?_)
    · rw [if_pos c2] at h
      refine EV_aload_n dX12_sends_8 rfl ?_
      have hh := b1_some h; clear h; obtain ⟨x3, hx3, h⟩ := hh
      refine EV_getI (ci := 12) (k := 28) dX12_sends_9 fl_X12_206 rfl hx3 ?_
      refine EV_aload_n dX12_sends_12 rfl ?_
      have hh := b1_some h; clear h; obtain ⟨r4, hr4, h⟩ := hh
      refine EV_getP (ci := 12) (k := 0) dX12_sends_13 fl_X12_7 rfl hr4 ?_
      refine EV_iconst (x := (1 : Int32)) dX12_sends_16 (by decide) ?_
      have hh := b1_some h; clear h; obtain ⟨a5, ha5, h⟩ := hh
      subst ha5
      have hh := b1_some h; clear h; obtain ⟨x6, hx6, h⟩ := hh
      refine EV_aI (t := 0) (ty := .int) rfl (by decide) dX12_sends_17 hx6 ?_
      refine EV_icmp_ge (tgt := 115) dX12_sends_18 (by decide) (fun c7 => ?_) (fun c7 => ?_)
      · rw [if_pos c7] at h
        exact EV_pick [] rfl (zX12_sends_115 E h)
      · rw [if_neg c7] at h
        refine EV_aload_n dX12_sends_21 rfl ?_
        have hh := b1_some h; clear h; obtain ⟨x8, hx8, h⟩ := hh
        refine EV_getI (ci := 12) (k := 45) dX12_sends_22 fl_X12_222 rfl hx8 ?_
        refine EV_if_gt (tgt := 35) dX12_sends_25 (by decide) (fun c9 => ?_) (fun c9 => ?_)
        · rw [if_pos c9] at h
          exact EV_pick [0] rfl (zX12_sends_35 E (@ih) h)
        · rw [if_neg c9] at h
          refine EV_aload_n dX12_sends_28 rfl ?_
          have hh := b1_some h; clear h; obtain ⟨x10, hx10, h⟩ := hh
          refine EV_getI (ci := 12) (k := 23) dX12_sends_29 fl_X12_158 rfl hx10 ?_
          refine EV_if_le (tgt := 115) dX12_sends_32 (by decide) (fun c11 => ?_) (fun c11 => ?_)
          · rw [if_pos c11] at h
            exact EV_pick [] rfl (zX12_sends_115 E h)
          · rw [if_neg c11] at h
            exact EV_pick [0] rfl (zX12_sends_35 E (@ih) h)
    · rw [if_neg c2] at h
      exact EV_pick [] rfl (zX12_sends_115 E h)
def mX12_sends (h0 : Nat) (s0 : eS) : Option eS := mX12_sends_0 100000 h0 s0
set_option maxRecDepth 100000 in
set_option maxHeartbeats 4000000 in
theorem zX12_sends (E : eE) {h0 : Nat} {s0 s9 : eS} (h : mX12_sends h0 s0 = some s9) : EM E YX12_sends [VR (some h0)] s0 none s9 := by
  refine EM_of (M := MX12_sends) (own := RX12) (ini := false) rfl (by decide +kernel) rfl (fun z => nomatch z) (Nat.le_of_ble_eq_true rfl) ?_
  unfold mX12_sends at h
  exact EV_pick [0] rfl (zX12_sends_0 E _ h)
def mX12_change_21 (s0 : eS) : Option (Int32 × eS) :=
  (some ((-1 : Int32), s0))
set_option maxRecDepth 100000 in
set_option maxHeartbeats 4000000 in
theorem zX12_change_21 (E : eE) {s0 s9 : eS} {y : Int32} (h : mX12_change_21 s0 = some (y, s9)) : EV E MX12_change 21 [] [] s0 (some (VI y)) s9 := by
  unfold mX12_change_21 at h
  refine EV_iconst (x := (-1 : Int32)) dX12_change_21 (by decide) ?_
  cases h
  exact EV_ret ⟨dX12_change_22, .int, rfl, rfl⟩ rfl
def mX12_change_216 (h0 : Nat) (s0 : eS) : Option (Int32 × eS) :=
  (b1 (o_K s0 112 h0) fun u3 => (b1 (mX12_sends h0 s0) fun s1 => (some ((1 : Int32), s1))))
set_option maxRecDepth 100000 in
set_option maxHeartbeats 4000000 in
theorem zX12_change_216 (E : eE) {h0 : Nat} {s0 s9 : eS} {y : Int32} (h : mX12_change_216 h0 s0 = some (y, s9)) : EV E MX12_change 216 [(0, VR (some h0))] [] s0 (some (VI y)) s9 := by
  unfold mX12_change_216 at h
  refine EV_aload_n dX12_change_216 rfl ?_
  have hh := b1_some h; clear h; obtain ⟨u3, hu3, h⟩ := hh
  have hh := b1_some h; clear h; obtain ⟨s1, hs1, h⟩ := hh
  refine EV_callV (Y := YX12_sends) (as := []) (st := []) (st2 := []) (a := h0) (ci := 12) (r := rX12) (n := 0) dX12_change_217 (zX12_sends E hs1) rfl cwX12_sends rfl tw_1147 tw_1149 tw_35 rfl (e_if hu3).1.1 (e_if hu3).1.2 ⟨by decide, by decide⟩ (Nat.le_of_ble_eq_true rfl) rfl ?_
  refine EV_iconst (x := (1 : Int32)) dX12_change_220 (by decide) ?_
  cases h
  exact EV_ret ⟨dX12_change_221, .int, rfl, rfl⟩ rfl
def mX12_change_172 : Nat → Nat → Int32 → eS → Option (Int32 × eS)
  | 0, _, _, _ => none
  | n + 1, h0, pi5, s0 =>
  (if (7 : Int32) ≤ pi5 then (b1 (g_I s0 112 23 h0) fun x2 => (b1 (p_I s0 112 23 h0 (x2 + (1 : Int32))) fun s3 => (mX12_change_216 h0 s3))) else (b1 (g_P s0 112 27 h0) fun r2 => (b1 (g_I s0 112 23 h0) fun x3 => (b1 (o_K s0 112 h0) fun u8 => (b2 (mX12_timeByte h0 pi5 s0) fun x5 s4 => (b1 r2 fun a6 => (b1 (s_I s4 0 a6 (((7 : Int32) * x3) + pi5) x5) fun s7 => (mX12_change_172 n h0 (pi5 + (1 : Int32)) s7))))))))
set_option maxRecDepth 100000 in
set_option maxHeartbeats 4000000 in
theorem zX12_change_172 (E : eE) : ∀ (n : Nat) {h0 : Nat} {pi5 : Int32} {s0 s9 : eS} {y : Int32}, mX12_change_172 n h0 pi5 s0 = some (y, s9) → EV E MX12_change 172 [(0, VR (some h0)), (5, VI pi5)] [] s0 (some (VI y)) s9 := by
  intro n
  induction n with
  | zero =>
    intro h0 pi5 s0 s9 y h
    unfold mX12_change_172 at h
    cases h
  | succ n ih =>
    intro h0 pi5 s0 s9 y h
    unfold mX12_change_172 at h
    refine EV_iload dX12_change_172 rfl ?_
    refine EV_bipush (x := (7 : Int32)) dX12_change_174 (by decide) ?_
    refine EV_icmp_ge (tgt := 206) dX12_change_176 (by decide) (fun c1 => ?_) (fun c1 => ?_)
    · rw [if_pos c1] at h
      refine EV_aload_n dX12_change_206 rfl ?_
      refine EV_dup dX12_change_207 rfl ?_
      have hh := b1_some h; clear h; obtain ⟨x2, hx2, h⟩ := hh
      refine EV_getI (ci := 12) (k := 23) dX12_change_208 fl_X12_158 rfl hx2 ?_
      refine EV_iconst (x := (1 : Int32)) dX12_change_211 (by decide) ?_
      refine EV_iadd dX12_change_212 ?_
      have hh := b1_some h; clear h; obtain ⟨s3, hs3, h⟩ := hh
      refine EV_putI (ci := 12) (k := 23) dX12_change_213 fp_X12_158 rfl hs3 ?_
      exact EV_pick [0] rfl (zX12_change_216 E h)
    · rw [if_neg c1] at h
      refine EV_aload_n dX12_change_179 rfl ?_
      have hh := b1_some h; clear h; obtain ⟨r2, hr2, h⟩ := hh
      refine EV_getP (ci := 12) (k := 27) dX12_change_180 fl_X12_69 rfl hr2 ?_
      refine EV_bipush (x := (7 : Int32)) dX12_change_183 (by decide) ?_
      refine EV_aload_n dX12_change_185 rfl ?_
      have hh := b1_some h; clear h; obtain ⟨x3, hx3, h⟩ := hh
      refine EV_getI (ci := 12) (k := 23) dX12_change_186 fl_X12_158 rfl hx3 ?_
      refine EV_imul dX12_change_189 ?_
      refine EV_iload dX12_change_190 rfl ?_
      refine EV_iadd dX12_change_192 ?_
      refine EV_aload_n dX12_change_193 rfl ?_
      refine EV_iload dX12_change_194 rfl ?_
      have hh := b1_some h; clear h; obtain ⟨u8, hu8, h⟩ := hh
      have hh := b2_some h; clear h; obtain ⟨x5, s4, hs4, h⟩ := hh
      refine EV_callV (Y := YX12_timeByte) (as := [VI pi5]) (st := [VI (((7 : Int32) * x3) + pi5), VR r2]) (st2 := [VI x5, VI (((7 : Int32) * x3) + pi5), VR r2]) (a := h0) (ci := 12) (r := rX12) (n := 1) dX12_change_196 (zX12_timeByte E hs4) rfl cwX12_timeByte rfl tw_1143 tw_1145 tw_34 rfl (e_if hu8).1.1 (e_if hu8).1.2 ⟨by decide, by decide⟩ (Nat.le_of_ble_eq_true rfl) rfl ?_
      have hh := b1_some h; clear h; obtain ⟨a6, ha6, h⟩ := hh
      subst ha6
      have hh := b1_some h; clear h; obtain ⟨s7, hs7, h⟩ := hh
      refine EV_sI (t := 0) rfl dX12_change_199 hs7 ?_
      refine EV_iinc (y := (1 : Int32)) (lv2 := [(5, VI (pi5 + (1 : Int32))), (0, VR (some h0))]) dX12_change_200 rfl (by decide) (by decide) rfl ?_
      refine EV_goto (tgt := 172) dX12_change_203 (by decide) ?_
      exact EV_pick [1, 0] rfl (ih h)
def mX12_change_114 (h0 : Nat) (pi1 : Int32) (pi2 : Int32) (pi3 : Int32) (s0 : eS) : Option (Int32 × eS) :=
  (b1 (g_P s0 112 6 h0) fun r1 => (b1 r1 fun a2 => (b1 (s_I s0 0 a2 pi1 pi2) fun s3 => (b1 (g_P s3 112 7 h0) fun r4 => (b1 r4 fun a5 => (b1 (s_I s3 0 a5 pi1 pi3) fun s6 => (b1 (g_P s6 112 2 h0) fun r7 => (b1 r7 fun a8 => (b1 (a_I s6 0 a8 pi1) fun x9 => (if x9 = (6 : Int32) then (mX12_change_216 h0 s6) else (b1 (g_P s6 112 24 h0) fun r11 => (b1 (g_I s6 112 23 h0) fun x12 => (b1 r11 fun a13 => (b1 (s_I s6 0 a13 x12 pi1) fun s14 => (b1 (g_P s14 112 25 h0) fun r15 => (b1 (g_I s14 112 23 h0) fun x16 => (b1 r15 fun a17 => (b1 (s_I s14 0 a17 x16 pi2) fun s18 => (b1 (g_P s18 112 26 h0) fun r19 => (b1 (g_I s18 112 23 h0) fun x20 => (b1 r19 fun a21 => (b1 (s_I s18 0 a21 x20 pi3) fun s22 => (mX12_change_172 100000 h0 (0 : Int32) s22)))))))))))))))))))))))
set_option maxRecDepth 100000 in
set_option maxHeartbeats 4000000 in
theorem zX12_change_114 (E : eE) {h0 : Nat} {pi1 : Int32} {pi2 : Int32} {pi3 : Int32} {s0 s9 : eS} {y : Int32} (h : mX12_change_114 h0 pi1 pi2 pi3 s0 = some (y, s9)) : EV E MX12_change 114 [(0, VR (some h0)), (1, VI pi1), (2, VI pi2), (3, VI pi3)] [] s0 (some (VI y)) s9 := by
  unfold mX12_change_114 at h
  refine EV_aload_n dX12_change_114 rfl ?_
  have hh := b1_some h; clear h; obtain ⟨r1, hr1, h⟩ := hh
  refine EV_getP (ci := 12) (k := 6) dX12_change_115 fl_X12_26 rfl hr1 ?_
  refine EV_iload_n dX12_change_118 rfl ?_
  refine EV_iload_n dX12_change_119 rfl ?_
  have hh := b1_some h; clear h; obtain ⟨a2, ha2, h⟩ := hh
  subst ha2
  have hh := b1_some h; clear h; obtain ⟨s3, hs3, h⟩ := hh
  refine EV_sI (t := 0) rfl dX12_change_120 hs3 ?_
  refine EV_aload_n dX12_change_121 rfl ?_
  have hh := b1_some h; clear h; obtain ⟨r4, hr4, h⟩ := hh
  refine EV_getP (ci := 12) (k := 7) dX12_change_122 fl_X12_29 rfl hr4 ?_
  refine EV_iload_n dX12_change_125 rfl ?_
  refine EV_iload_n dX12_change_126 rfl ?_
  have hh := b1_some h; clear h; obtain ⟨a5, ha5, h⟩ := hh
  subst ha5
  have hh := b1_some h; clear h; obtain ⟨s6, hs6, h⟩ := hh
  refine EV_sI (t := 0) rfl dX12_change_127 hs6 ?_
  refine EV_aload_n dX12_change_128 rfl ?_
  have hh := b1_some h; clear h; obtain ⟨r7, hr7, h⟩ := hh
  refine EV_getP (ci := 12) (k := 2) dX12_change_129 fl_X12_13 rfl hr7 ?_
  refine EV_iload_n dX12_change_132 rfl ?_
  have hh := b1_some h; clear h; obtain ⟨a8, ha8, h⟩ := hh
  subst ha8
  have hh := b1_some h; clear h; obtain ⟨x9, hx9, h⟩ := hh
  refine EV_aI (t := 0) (ty := .int) rfl (by decide) dX12_change_133 hx9 ?_
  refine EV_bipush (x := (6 : Int32)) dX12_change_134 (by decide) ?_
  refine EV_icmp_eq (tgt := 216) dX12_change_136 (by decide) (fun c10 => ?_) (fun c10 => ?_)
  · rw [if_pos c10] at h
    exact EV_pick [0] rfl (zX12_change_216 E h)
  · rw [if_neg c10] at h
    refine EV_aload_n dX12_change_139 rfl ?_
    have hh := b1_some h; clear h; obtain ⟨r11, hr11, h⟩ := hh
    refine EV_getP (ci := 12) (k := 24) dX12_change_140 fl_X12_60 rfl hr11 ?_
    refine EV_aload_n dX12_change_143 rfl ?_
    have hh := b1_some h; clear h; obtain ⟨x12, hx12, h⟩ := hh
    refine EV_getI (ci := 12) (k := 23) dX12_change_144 fl_X12_158 rfl hx12 ?_
    refine EV_iload_n dX12_change_147 rfl ?_
    have hh := b1_some h; clear h; obtain ⟨a13, ha13, h⟩ := hh
    subst ha13
    have hh := b1_some h; clear h; obtain ⟨s14, hs14, h⟩ := hh
    refine EV_sI (t := 0) rfl dX12_change_148 hs14 ?_
    refine EV_aload_n dX12_change_149 rfl ?_
    have hh := b1_some h; clear h; obtain ⟨r15, hr15, h⟩ := hh
    refine EV_getP (ci := 12) (k := 25) dX12_change_150 fl_X12_63 rfl hr15 ?_
    refine EV_aload_n dX12_change_153 rfl ?_
    have hh := b1_some h; clear h; obtain ⟨x16, hx16, h⟩ := hh
    refine EV_getI (ci := 12) (k := 23) dX12_change_154 fl_X12_158 rfl hx16 ?_
    refine EV_iload_n dX12_change_157 rfl ?_
    have hh := b1_some h; clear h; obtain ⟨a17, ha17, h⟩ := hh
    subst ha17
    have hh := b1_some h; clear h; obtain ⟨s18, hs18, h⟩ := hh
    refine EV_sI (t := 0) rfl dX12_change_158 hs18 ?_
    refine EV_aload_n dX12_change_159 rfl ?_
    have hh := b1_some h; clear h; obtain ⟨r19, hr19, h⟩ := hh
    refine EV_getP (ci := 12) (k := 26) dX12_change_160 fl_X12_66 rfl hr19 ?_
    refine EV_aload_n dX12_change_163 rfl ?_
    have hh := b1_some h; clear h; obtain ⟨x20, hx20, h⟩ := hh
    refine EV_getI (ci := 12) (k := 23) dX12_change_164 fl_X12_158 rfl hx20 ?_
    refine EV_iload_n dX12_change_167 rfl ?_
    have hh := b1_some h; clear h; obtain ⟨a21, ha21, h⟩ := hh
    subst ha21
    have hh := b1_some h; clear h; obtain ⟨s22, hs22, h⟩ := hh
    refine EV_sI (t := 0) rfl dX12_change_168 hs22 ?_
    refine EV_iconst (x := (0 : Int32)) dX12_change_169 (by decide) ?_
    refine EV_istore (lv2 := [(5, VI (0 : Int32)), (0, VR (some h0)), (1, VI pi1), (2, VI pi2), (3, VI pi3)]) dX12_change_170 (by decide) rfl ?_
    exact EV_pick [1, 0] rfl (zX12_change_172 E _ h)
def mX12_change_91 (h0 : Nat) (pi1 : Int32) (pi2 : Int32) (pi3 : Int32) (s0 : eS) : Option (Int32 × eS) :=
  (b1 (g_P s0 112 2 h0) fun r1 => (b1 r1 fun a2 => (b1 (a_I s0 0 a2 pi1) fun x3 => (if x3 = (6 : Int32) then (mX12_change_114 h0 pi1 pi2 pi3 s0) else (b1 (g_I s0 112 23 h0) fun x5 => (if x5 < (40 : Int32) then (mX12_change_114 h0 pi1 pi2 pi3 s0) else (some ((-3 : Int32), s0))))))))
set_option maxRecDepth 100000 in
set_option maxHeartbeats 4000000 in
theorem zX12_change_91 (E : eE) {h0 : Nat} {pi1 : Int32} {pi2 : Int32} {pi3 : Int32} {s0 s9 : eS} {y : Int32} (h : mX12_change_91 h0 pi1 pi2 pi3 s0 = some (y, s9)) : EV E MX12_change 91 [(0, VR (some h0)), (1, VI pi1), (2, VI pi2), (3, VI pi3)] [] s0 (some (VI y)) s9 := by
  unfold mX12_change_91 at h
  refine EV_aload_n dX12_change_91 rfl ?_
  have hh := b1_some h; clear h; obtain ⟨r1, hr1, h⟩ := hh
  refine EV_getP (ci := 12) (k := 2) dX12_change_92 fl_X12_13 rfl hr1 ?_
  refine EV_iload_n dX12_change_95 rfl ?_
  have hh := b1_some h; clear h; obtain ⟨a2, ha2, h⟩ := hh
  subst ha2
  have hh := b1_some h; clear h; obtain ⟨x3, hx3, h⟩ := hh
  refine EV_aI (t := 0) (ty := .int) rfl (by decide) dX12_change_96 hx3 ?_
  refine EV_bipush (x := (6 : Int32)) dX12_change_97 (by decide) ?_
  refine EV_icmp_eq (tgt := 114) dX12_change_99 (by decide) (fun c4 => ?_) (fun c4 => ?_)
  · rw [if_pos c4] at h
    exact EV_pick [0, 1, 2, 3] rfl (zX12_change_114 E h)
  · rw [if_neg c4] at h
    refine EV_aload_n dX12_change_102 rfl ?_
    have hh := b1_some h; clear h; obtain ⟨x5, hx5, h⟩ := hh
    refine EV_getI (ci := 12) (k := 23) dX12_change_103 fl_X12_158 rfl hx5 ?_
    refine EV_bipush (x := (40 : Int32)) dX12_change_106 (by decide) ?_
    refine EV_icmp_lt (tgt := 114) dX12_change_108 (by decide) (fun c6 => ?_) (fun c6 => ?_)
    · rw [if_pos c6] at h
      exact EV_pick [0, 1, 2, 3] rfl (zX12_change_114 E h)
    · rw [if_neg c6] at h
      refine EV_bipush (x := (-3 : Int32)) dX12_change_111 (by decide) ?_
      cases h
      exact EV_ret ⟨dX12_change_113, .int, rfl, rfl⟩ rfl
def mX12_change_56 (h0 : Nat) (pi1 : Int32) (pi2 : Int32) (pi3 : Int32) (pt0 : Int32) (s0 : eS) : Option (Int32 × eS) :=
  (if (pi3 &&& (pt0 ^^^ (-1 : Int32))) = 0 then (b1 (g_P s0 112 6 h0) fun r2 => (b1 r2 fun a3 => (b1 (a_I s0 0 a3 pi1) fun x4 => (if x4 = pi2 then (b1 (g_P s0 112 7 h0) fun r6 => (b1 r6 fun a7 => (b1 (a_I s0 0 a7 pi1) fun x8 => (if x8 = pi3 then (some ((0 : Int32), s0)) else (mX12_change_91 h0 pi1 pi2 pi3 s0))))) else (mX12_change_91 h0 pi1 pi2 pi3 s0))))) else (some ((-1 : Int32), s0)))
set_option maxRecDepth 100000 in
set_option maxHeartbeats 4000000 in
theorem zX12_change_56 (E : eE) {h0 : Nat} {pi1 : Int32} {pi2 : Int32} {pi3 : Int32} {pt0 : Int32} {s0 s9 : eS} {y : Int32} (h : mX12_change_56 h0 pi1 pi2 pi3 pt0 s0 = some (y, s9)) : EV E MX12_change 56 [(0, VR (some h0)), (1, VI pi1), (2, VI pi2), (3, VI pi3)] [VI pt0] s0 (some (VI y)) s9 := by
  unfold mX12_change_56 at h
  refine EV_istore (lv2 := [(4, VI pt0), (0, VR (some h0)), (1, VI pi1), (2, VI pi2), (3, VI pi3)]) dX12_change_56 (by decide) rfl ?_
  refine EV_iload_n dX12_change_58 rfl ?_
  refine EV_iload dX12_change_59 rfl ?_
  refine EV_iconst (x := (-1 : Int32)) dX12_change_61 (by decide) ?_
  refine EV_ixor dX12_change_62 ?_
  refine EV_iand dX12_change_63 ?_
  refine EV_if_eq (tgt := 69) dX12_change_64 (by decide) (fun c1 => ?_) (fun c1 => ?_)
  · rw [if_pos c1] at h
    refine EV_aload_n dX12_change_69 rfl ?_
    have hh := b1_some h; clear h; obtain ⟨r2, hr2, h⟩ := hh
    refine EV_getP (ci := 12) (k := 6) dX12_change_70 fl_X12_26 rfl hr2 ?_
    refine EV_iload_n dX12_change_73 rfl ?_
    have hh := b1_some h; clear h; obtain ⟨a3, ha3, h⟩ := hh
    subst ha3
    have hh := b1_some h; clear h; obtain ⟨x4, hx4, h⟩ := hh
    refine EV_aI (t := 0) (ty := .int) rfl (by decide) dX12_change_74 hx4 ?_
    refine EV_iload_n dX12_change_75 rfl ?_
    refine EV_icmp_ne (tgt := 91) dX12_change_76 (by decide) (fun c5 => ?_) (fun c5 => ?_)
    · rw [if_pos c5] at h
      refine EV_aload_n dX12_change_79 rfl ?_
      have hh := b1_some h; clear h; obtain ⟨r6, hr6, h⟩ := hh
      refine EV_getP (ci := 12) (k := 7) dX12_change_80 fl_X12_29 rfl hr6 ?_
      refine EV_iload_n dX12_change_83 rfl ?_
      have hh := b1_some h; clear h; obtain ⟨a7, ha7, h⟩ := hh
      subst ha7
      have hh := b1_some h; clear h; obtain ⟨x8, hx8, h⟩ := hh
      refine EV_aI (t := 0) (ty := .int) rfl (by decide) dX12_change_84 hx8 ?_
      refine EV_iload_n dX12_change_85 rfl ?_
      refine EV_icmp_ne (tgt := 91) dX12_change_86 (by decide) (fun c9 => ?_) (fun c9 => ?_)
      · rw [if_pos c9] at h
        refine EV_iconst (x := (0 : Int32)) dX12_change_89 (by decide) ?_
        cases h
        exact EV_ret ⟨dX12_change_90, .int, rfl, rfl⟩ rfl
      · rw [if_neg c9] at h
        exact EV_pick [1, 2, 3, 4] rfl (zX12_change_91 E h)
    · rw [if_neg c5] at h
      exact EV_pick [1, 2, 3, 4] rfl (zX12_change_91 E h)
  · rw [if_neg c1] at h
    refine EV_iconst (x := (-1 : Int32)) dX12_change_67 (by decide) ?_
    cases h
    exact EV_ret ⟨dX12_change_68, .int, rfl, rfl⟩ rfl
def mX12_change (h0 : Nat) (pi1 : Int32) (pi2 : Int32) (pi3 : Int32) (s0 : eS) : Option (Int32 × eS) :=
  (b1 (o_K s0 112 h0) fun u18 => (b2 (mX12_isPoint h0 pi1 s0) fun x2 s1 => (if x2 = 0 then (mX12_change_21 s1) else (b1 (g_P s1 112 2 h0) fun r4 => (b1 r4 fun a5 => (b1 (a_I s1 0 a5 pi1) fun x6 => (b2 (mX12_isValue x6 pi2 s1) fun x8 s7 => (if x8 = 0 then (mX12_change_21 s7) else (b1 (g_P s7 112 2 h0) fun r10 => (b1 r10 fun a11 => (b1 (a_I s7 0 a11 pi1) fun x12 => (if x12 = (6 : Int32) then (mX12_change_56 h0 pi1 pi2 pi3 (16 : Int32) s7) else (b1 (g_P s7 112 2 h0) fun r14 => (b1 r14 fun a15 => (b1 (a_I s7 0 a15 pi1) fun x16 => (if (2 : Int32) ≤ x16 then (mX12_change_56 h0 pi1 pi2 pi3 (31 : Int32) s7) else (mX12_change_56 h0 pi1 pi2 pi3 (30 : Int32) s7)))))))))))))))))
set_option maxRecDepth 100000 in
set_option maxHeartbeats 4000000 in
theorem zX12_change (E : eE) {h0 : Nat} {pi1 : Int32} {pi2 : Int32} {pi3 : Int32} {s0 s9 : eS} {y : Int32} (h : mX12_change h0 pi1 pi2 pi3 s0 = some (y, s9)) : EM E YX12_change [VR (some h0), VI pi1, VI pi2, VI pi3] s0 (some (VI y)) s9 := by
  refine EM_of (M := MX12_change) (own := RX12) (ini := false) rfl (by decide +kernel) rfl (fun z => nomatch z) (Nat.le_of_ble_eq_true rfl) ?_
  unfold mX12_change at h
  refine EV_aload_n dX12_change_0 rfl ?_
  refine EV_iload_n dX12_change_1 rfl ?_
  have hh := b1_some h; clear h; obtain ⟨u18, hu18, h⟩ := hh
  have hh := b2_some h; clear h; obtain ⟨x2, s1, hs1, h⟩ := hh
  refine EV_callV (Y := YX12_isPoint) (as := [VI pi1]) (st := []) (st2 := [VI x2]) (a := h0) (ci := 12) (r := rX12) (n := 1) dX12_change_2 (zX12_isPoint E hs1) rfl cwX12_isPoint rfl tw_1126 tw_1128 tw_33 rfl (e_if hu18).1.1 (e_if hu18).1.2 ⟨by decide, by decide⟩ (Nat.le_of_ble_eq_true rfl) rfl ?_
  refine EV_if_eq (tgt := 21) dX12_change_5 (by decide) (fun c3 => ?_) (fun c3 => ?_)
  · rw [if_pos c3] at h
    exact EV_pick [] rfl (zX12_change_21 E h)
  · rw [if_neg c3] at h
    refine EV_aload_n dX12_change_8 rfl ?_
    have hh := b1_some h; clear h; obtain ⟨r4, hr4, h⟩ := hh
    refine EV_getP (ci := 12) (k := 2) dX12_change_9 fl_X12_13 rfl hr4 ?_
    refine EV_iload_n dX12_change_12 rfl ?_
    have hh := b1_some h; clear h; obtain ⟨a5, ha5, h⟩ := hh
    subst ha5
    have hh := b1_some h; clear h; obtain ⟨x6, hx6, h⟩ := hh
    refine EV_aI (t := 0) (ty := .int) rfl (by decide) dX12_change_13 hx6 ?_
    refine EV_iload_n dX12_change_14 rfl ?_
    have hh := b2_some h; clear h; obtain ⟨x8, s7, hs7, h⟩ := hh
    refine EV_callS (Y := YX12_isValue) (as := [VI x6, VI pi2]) (st := []) (st2 := [VI x8]) (n := 2) dX12_change_15 (zX12_isValue E hs7) rfl cwX12_isValue rfl tw_1134 tw_1135 ⟨by decide, by decide⟩ (Nat.le_of_ble_eq_true rfl) rfl ?_
    refine EV_if_ne (tgt := 23) dX12_change_18 (by decide) (fun c9 => ?_) (fun c9 => ?_)
    · rw [if_pos c9] at h
      exact EV_pick [] rfl (zX12_change_21 E h)
    · rw [if_neg c9] at h
      refine EV_aload_n dX12_change_23 rfl ?_
      have hh := b1_some h; clear h; obtain ⟨r10, hr10, h⟩ := hh
      refine EV_getP (ci := 12) (k := 2) dX12_change_24 fl_X12_13 rfl hr10 ?_
      refine EV_iload_n dX12_change_27 rfl ?_
      have hh := b1_some h; clear h; obtain ⟨a11, ha11, h⟩ := hh
      subst ha11
      have hh := b1_some h; clear h; obtain ⟨x12, hx12, h⟩ := hh
      refine EV_aI (t := 0) (ty := .int) rfl (by decide) dX12_change_28 hx12 ?_
      refine EV_bipush (x := (6 : Int32)) dX12_change_29 (by decide) ?_
      refine EV_icmp_ne (tgt := 39) dX12_change_31 (by decide) (fun c13 => ?_) (fun c13 => ?_)
      · rw [if_pos c13] at h
        refine EV_bipush (x := (16 : Int32)) dX12_change_34 (by decide) ?_
        refine EV_goto (tgt := 56) dX12_change_36 (by decide) ?_
        exact EV_pick [0, 1, 2, 3] rfl (zX12_change_56 E h)
      · rw [if_neg c13] at h
        refine EV_aload_n dX12_change_39 rfl ?_
        have hh := b1_some h; clear h; obtain ⟨r14, hr14, h⟩ := hh
        refine EV_getP (ci := 12) (k := 2) dX12_change_40 fl_X12_13 rfl hr14 ?_
        refine EV_iload_n dX12_change_43 rfl ?_
        have hh := b1_some h; clear h; obtain ⟨a15, ha15, h⟩ := hh
        subst ha15
        have hh := b1_some h; clear h; obtain ⟨x16, hx16, h⟩ := hh
        refine EV_aI (t := 0) (ty := .int) rfl (by decide) dX12_change_44 hx16 ?_
        refine EV_iconst (x := (2 : Int32)) dX12_change_45 (by decide) ?_
        refine EV_icmp_ge (tgt := 54) dX12_change_46 (by decide) (fun c17 => ?_) (fun c17 => ?_)
        · rw [if_pos c17] at h
          refine EV_bipush (x := (31 : Int32)) dX12_change_54 (by decide) ?_
          exact EV_pick [0, 1, 2, 3] rfl (zX12_change_56 E h)
        · rw [if_neg c17] at h
          refine EV_bipush (x := (30 : Int32)) dX12_change_49 (by decide) ?_
          refine EV_goto (tgt := 56) dX12_change_51 (by decide) ?_
          exact EV_pick [0, 1, 2, 3] rfl (zX12_change_56 E h)
def mX12_tells_26 (s0 : eS) : Option eS :=
  (some s0)
set_option maxRecDepth 100000 in
set_option maxHeartbeats 4000000 in
theorem zX12_tells_26 (E : eE) {s0 s9 : eS} (h : mX12_tells_26 s0 = some s9) : EV E MX12_tells 26 [] [] s0 none s9 := by
  unfold mX12_tells_26 at h
  cases h
  exact EV_ret ⟨dX12_tells_26, rfl⟩ rfl
def mX12_tells (h0 : Nat) (s0 : eS) : Option eS :=
  (b1 (o_K s0 112 h0) fun u12 => (b2 (mX12_ackLow h0 s0) fun x2 s1 => (b1 (o_K s1 112 h0) fun u11 => (b2 (mX12_ackHigh h0 s1) fun x4 s3 => (b1 (o_K s3 112 h0) fun u10 => (b2 (mX12_frames h0 (1 : Int32) (0 : Int32) x2 x4 (0 : Int32) s3) fun x6 s5 => (if x6 = 0 then (mX12_tells_26 s5) else (b1 (g_I s5 112 38 h0) fun x8 => (b1 (p_I s5 112 39 h0 x8) fun s9 => (mX12_tells_26 s9))))))))))
set_option maxRecDepth 100000 in
set_option maxHeartbeats 4000000 in
theorem zX12_tells (E : eE) {h0 : Nat} {s0 s9 : eS} (h : mX12_tells h0 s0 = some s9) : EM E YX12_tells [VR (some h0)] s0 none s9 := by
  refine EM_of (M := MX12_tells) (own := RX12) (ini := false) rfl (by decide +kernel) rfl (fun z => nomatch z) (Nat.le_of_ble_eq_true rfl) ?_
  unfold mX12_tells at h
  refine EV_aload_n dX12_tells_0 rfl ?_
  refine EV_iconst (x := (1 : Int32)) dX12_tells_1 (by decide) ?_
  refine EV_iconst (x := (0 : Int32)) dX12_tells_2 (by decide) ?_
  refine EV_aload_n dX12_tells_3 rfl ?_
  have hh := b1_some h; clear h; obtain ⟨u12, hu12, h⟩ := hh
  have hh := b2_some h; clear h; obtain ⟨x2, s1, hs1, h⟩ := hh
  refine EV_callV (Y := YX12_ackLow) (as := []) (st := [VI (0 : Int32), VI (1 : Int32), VR (some h0)]) (st2 := [VI x2, VI (0 : Int32), VI (1 : Int32), VR (some h0)]) (a := h0) (ci := 12) (r := rX12) (n := 0) dX12_tells_4 (zX12_ackLow E hs1) rfl cwX12_ackLow rfl tw_1156 tw_1158 tw_37 rfl (e_if hu12).1.1 (e_if hu12).1.2 ⟨by decide, by decide⟩ (Nat.le_of_ble_eq_true rfl) rfl ?_
  refine EV_aload_n dX12_tells_7 rfl ?_
  have hh := b1_some h; clear h; obtain ⟨u11, hu11, h⟩ := hh
  have hh := b2_some h; clear h; obtain ⟨x4, s3, hs3, h⟩ := hh
  refine EV_callV (Y := YX12_ackHigh) (as := []) (st := [VI x2, VI (0 : Int32), VI (1 : Int32), VR (some h0)]) (st2 := [VI x4, VI x2, VI (0 : Int32), VI (1 : Int32), VR (some h0)]) (a := h0) (ci := 12) (r := rX12) (n := 0) dX12_tells_8 (zX12_ackHigh E hs3) rfl cwX12_ackHigh rfl tw_1160 tw_1162 tw_38 rfl (e_if hu11).1.1 (e_if hu11).1.2 ⟨by decide, by decide⟩ (Nat.le_of_ble_eq_true rfl) rfl ?_
  refine EV_iconst (x := (0 : Int32)) dX12_tells_11 (by decide) ?_
  have hh := b1_some h; clear h; obtain ⟨u10, hu10, h⟩ := hh
  have hh := b2_some h; clear h; obtain ⟨x6, s5, hs5, h⟩ := hh
  refine EV_callV (Y := YX12_frames) (as := [VI (1 : Int32), VI (0 : Int32), VI x2, VI x4, VI (0 : Int32)]) (st := []) (st2 := [VI x6]) (a := h0) (ci := 12) (r := rX12) (n := 5) dX12_tells_12 (zX12_frames E hs5) rfl cwX12_frames rfl tw_1164 tw_1166 tw_39 rfl (e_if hu10).1.1 (e_if hu10).1.2 ⟨by decide, by decide⟩ (Nat.le_of_ble_eq_true rfl) rfl ?_
  refine EV_if_eq (tgt := 26) dX12_tells_15 (by decide) (fun c7 => ?_) (fun c7 => ?_)
  · rw [if_pos c7] at h
    exact EV_pick [] rfl (zX12_tells_26 E h)
  · rw [if_neg c7] at h
    refine EV_aload_n dX12_tells_18 rfl ?_
    refine EV_aload_n dX12_tells_19 rfl ?_
    have hh := b1_some h; clear h; obtain ⟨x8, hx8, h⟩ := hh
    refine EV_getI (ci := 12) (k := 38) dX12_tells_20 fl_X12_182 rfl hx8 ?_
    have hh := b1_some h; clear h; obtain ⟨s9, hs9, h⟩ := hh
    refine EV_putI (ci := 12) (k := 39) dX12_tells_23 fp_X12_197 rfl hs9 ?_
    exact EV_pick [] rfl (zX12_tells_26 E h)
def mX12_open (h0 : Nat) (s0 : eS) : Option (Int32 × eS) :=
  (b1 (g_I s0 112 35 h0) fun x1 => (if x1 = 0 then (b1 (p_I s0 112 35 h0 (1 : Int32)) fun s3 => (b1 (p_I s3 112 49 h0 (0 : Int32)) fun s4 => (b1 (p_I s4 112 37 h0 (0 : Int32)) fun s5 => (b1 (p_I s5 112 38 h0 (0 : Int32)) fun s6 => (b1 (p_I s6 112 39 h0 (0 : Int32)) fun s7 => (b1 (p_I s7 112 51 h0 (0 : Int32)) fun s8 => (b1 (g_I s8 112 20 h0) fun x9 => (b1 (p_I s8 112 41 h0 x9) fun s10 => (some ((1 : Int32), s10)))))))))) else (some ((-2 : Int32), s0))))
set_option maxRecDepth 100000 in
set_option maxHeartbeats 4000000 in
theorem zX12_open (E : eE) {h0 : Nat} {s0 s9 : eS} {y : Int32} (h : mX12_open h0 s0 = some (y, s9)) : EM E YX12_open [VR (some h0)] s0 (some (VI y)) s9 := by
  refine EM_of (M := MX12_open) (own := RX12) (ini := false) rfl (by decide +kernel) rfl (fun z => nomatch z) (Nat.le_of_ble_eq_true rfl) ?_
  unfold mX12_open at h
  refine EV_aload_n dX12_open_0 rfl ?_
  have hh := b1_some h; clear h; obtain ⟨x1, hx1, h⟩ := hh
  refine EV_getI (ci := 12) (k := 35) dX12_open_1 fl_X12_125 rfl hx1 ?_
  refine EV_if_eq (tgt := 10) dX12_open_4 (by decide) (fun c2 => ?_) (fun c2 => ?_)
  · rw [if_pos c2] at h
    refine EV_aload_n dX12_open_10 rfl ?_
    refine EV_iconst (x := (1 : Int32)) dX12_open_11 (by decide) ?_
    have hh := b1_some h; clear h; obtain ⟨s3, hs3, h⟩ := hh
    refine EV_putI (ci := 12) (k := 35) dX12_open_12 fp_X12_125 rfl hs3 ?_
    refine EV_aload_n dX12_open_15 rfl ?_
    refine EV_iconst (x := (0 : Int32)) dX12_open_16 (by decide) ?_
    have hh := b1_some h; clear h; obtain ⟨s4, hs4, h⟩ := hh
    refine EV_putI (ci := 12) (k := 49) dX12_open_17 fp_X12_172 rfl hs4 ?_
    refine EV_aload_n dX12_open_20 rfl ?_
    refine EV_iconst (x := (0 : Int32)) dX12_open_21 (by decide) ?_
    have hh := b1_some h; clear h; obtain ⟨s5, hs5, h⟩ := hh
    refine EV_putI (ci := 12) (k := 37) dX12_open_22 fp_X12_200 rfl hs5 ?_
    refine EV_aload_n dX12_open_25 rfl ?_
    refine EV_iconst (x := (0 : Int32)) dX12_open_26 (by decide) ?_
    have hh := b1_some h; clear h; obtain ⟨s6, hs6, h⟩ := hh
    refine EV_putI (ci := 12) (k := 38) dX12_open_27 fp_X12_182 rfl hs6 ?_
    refine EV_aload_n dX12_open_30 rfl ?_
    refine EV_iconst (x := (0 : Int32)) dX12_open_31 (by decide) ?_
    have hh := b1_some h; clear h; obtain ⟨s7, hs7, h⟩ := hh
    refine EV_putI (ci := 12) (k := 39) dX12_open_32 fp_X12_197 rfl hs7 ?_
    refine EV_aload_n dX12_open_35 rfl ?_
    refine EV_iconst (x := (0 : Int32)) dX12_open_36 (by decide) ?_
    have hh := b1_some h; clear h; obtain ⟨s8, hs8, h⟩ := hh
    refine EV_putI (ci := 12) (k := 51) dX12_open_37 fp_X12_255 rfl hs8 ?_
    refine EV_aload_n dX12_open_40 rfl ?_
    refine EV_aload_n dX12_open_41 rfl ?_
    have hh := b1_some h; clear h; obtain ⟨x9, hx9, h⟩ := hh
    refine EV_getI (ci := 12) (k := 20) dX12_open_42 fl_X12_209 rfl hx9 ?_
    have hh := b1_some h; clear h; obtain ⟨s10, hs10, h⟩ := hh
    refine EV_putI (ci := 12) (k := 41) dX12_open_45 fp_X12_261 rfl hs10 ?_
    refine EV_iconst (x := (1 : Int32)) dX12_open_48 (by decide) ?_
    cases h
    exact EV_ret ⟨dX12_open_49, .int, rfl, rfl⟩ rfl
  · rw [if_neg c2] at h
    refine EV_bipush (x := (-2 : Int32)) dX12_open_7 (by decide) ?_
    cases h
    exact EV_ret ⟨dX12_open_9, .int, rfl, rfl⟩ rfl
def mX12_close (h0 : Nat) (s0 : eS) : Option (Int32 × eS) :=
  (b1 (g_I s0 112 35 h0) fun x1 => (if x1 = 0 then (some ((-2 : Int32), s0)) else (b1 (o_K s0 112 h0) fun u5 => (b1 (mX12_closes h0 (1 : Int32) s0) fun s3 => (some ((1 : Int32), s3))))))
set_option maxRecDepth 100000 in
set_option maxHeartbeats 4000000 in
theorem zX12_close (E : eE) {h0 : Nat} {s0 s9 : eS} {y : Int32} (h : mX12_close h0 s0 = some (y, s9)) : EM E YX12_close [VR (some h0)] s0 (some (VI y)) s9 := by
  refine EM_of (M := MX12_close) (own := RX12) (ini := false) rfl (by decide +kernel) rfl (fun z => nomatch z) (Nat.le_of_ble_eq_true rfl) ?_
  unfold mX12_close at h
  refine EV_aload_n dX12_close_0 rfl ?_
  have hh := b1_some h; clear h; obtain ⟨x1, hx1, h⟩ := hh
  refine EV_getI (ci := 12) (k := 35) dX12_close_1 fl_X12_125 rfl hx1 ?_
  refine EV_if_ne (tgt := 10) dX12_close_4 (by decide) (fun c2 => ?_) (fun c2 => ?_)
  · rw [if_pos c2] at h
    refine EV_bipush (x := (-2 : Int32)) dX12_close_7 (by decide) ?_
    cases h
    exact EV_ret ⟨dX12_close_9, .int, rfl, rfl⟩ rfl
  · rw [if_neg c2] at h
    refine EV_aload_n dX12_close_10 rfl ?_
    refine EV_iconst (x := (1 : Int32)) dX12_close_11 (by decide) ?_
    have hh := b1_some h; clear h; obtain ⟨u5, hu5, h⟩ := hh
    have hh := b1_some h; clear h; obtain ⟨s3, hs3, h⟩ := hh
    refine EV_callV (Y := YX12_closes) (as := [VI (1 : Int32)]) (st := []) (st2 := []) (a := h0) (ci := 12) (r := rX12) (n := 1) dX12_close_12 (zX12_closes E hs3) rfl cwX12_closes rfl tw_1168 tw_1170 tw_40 rfl (e_if hu5).1.1 (e_if hu5).1.2 ⟨by decide, by decide⟩ (Nat.le_of_ble_eq_true rfl) rfl ?_
    refine EV_iconst (x := (1 : Int32)) dX12_close_15 (by decide) ?_
    cases h
    exact EV_ret ⟨dX12_close_16, .int, rfl, rfl⟩ rfl
def mX12_canBe_24 (pt0 : Int32) (s0 : eS) : Option (Int32 × eS) :=
  (b1 (o_Z pt0) fun u1 => some (pt0, s0))
set_option maxRecDepth 100000 in
set_option maxHeartbeats 4000000 in
theorem zX12_canBe_24 (E : eE) {pt0 : Int32} {s0 s9 : eS} {y : Int32} (h : mX12_canBe_24 pt0 s0 = some (y, s9)) : EV E MX12_canBe 24 [] [VI pt0] s0 (some (VI y)) s9 := by
  unfold mX12_canBe_24 at h
  have hh := b1_some h; clear h; obtain ⟨u1, hu1, h⟩ := hh
  cases h
  exact EV_ret ⟨dX12_canBe_24, .boolean, rfl, o_Z_n hu1⟩ rfl
def mX12_canBe_193 (pt0 : Int32) (s0 : eS) : Option (Int32 × eS) :=
  (b1 (o_Z pt0) fun u1 => some (pt0, s0))
set_option maxRecDepth 100000 in
set_option maxHeartbeats 4000000 in
theorem zX12_canBe_193 (E : eE) {pt0 : Int32} {s0 s9 : eS} {y : Int32} (h : mX12_canBe_193 pt0 s0 = some (y, s9)) : EV E MX12_canBe 193 [] [VI pt0] s0 (some (VI y)) s9 := by
  unfold mX12_canBe_193 at h
  have hh := b1_some h; clear h; obtain ⟨u1, hu1, h⟩ := hh
  cases h
  exact EV_ret ⟨dX12_canBe_193, .boolean, rfl, o_Z_n hu1⟩ rfl
def mX12_canBe_192 (s0 : eS) : Option (Int32 × eS) :=
  (mX12_canBe_193 (0 : Int32) s0)
set_option maxRecDepth 100000 in
set_option maxHeartbeats 4000000 in
theorem zX12_canBe_192 (E : eE) {s0 s9 : eS} {y : Int32} (h : mX12_canBe_192 s0 = some (y, s9)) : EV E MX12_canBe 192 [] [] s0 (some (VI y)) s9 := by
  unfold mX12_canBe_192 at h
  refine EV_iconst (x := (0 : Int32)) dX12_canBe_192 (by decide) ?_
  exact EV_pick [] rfl (zX12_canBe_193 E h)
def mX12_canBe_156 (h0 : Nat) (pi1 : Int32) (pi2 : Int32) (pt0 : Int32) (s0 : eS) : Option (Int32 × eS) :=
  (if pi1 = (1 : Int32) then (mX12_canBe_193 pi2 s0) else (if pt0 = 0 then (mX12_canBe_192 s0) else (b1 (g_P s0 112 50 h0) fun r3 => (b1 r3 fun a4 => (b1 (a_I s0 0 a4 (4 : Int32)) fun x5 => (if x5 = 0 then (b1 (g_P s0 112 50 h0) fun r7 => (b1 r7 fun a8 => (b1 (a_I s0 0 a8 (5 : Int32)) fun x9 => (if x9 = 0 then (mX12_canBe_193 (1 : Int32) s0) else (mX12_canBe_192 s0))))) else (mX12_canBe_192 s0)))))))
set_option maxRecDepth 100000 in
set_option maxHeartbeats 4000000 in
theorem zX12_canBe_156 (E : eE) {h0 : Nat} {pi1 : Int32} {pi2 : Int32} {pt0 : Int32} {s0 s9 : eS} {y : Int32} (h : mX12_canBe_156 h0 pi1 pi2 pt0 s0 = some (y, s9)) : EV E MX12_canBe 156 [(0, VR (some h0)), (1, VI pi1), (2, VI pi2)] [VI pt0] s0 (some (VI y)) s9 := by
  unfold mX12_canBe_156 at h
  refine EV_istore_n (lv2 := [(3, VI pt0), (0, VR (some h0)), (1, VI pi1), (2, VI pi2)]) dX12_canBe_156 (by decide) rfl ?_
  refine EV_iload_n dX12_canBe_157 rfl ?_
  refine EV_iconst (x := (1 : Int32)) dX12_canBe_158 (by decide) ?_
  refine EV_icmp_ne (tgt := 166) dX12_canBe_159 (by decide) (fun c1 => ?_) (fun c1 => ?_)
  · rw [if_pos c1] at h
    refine EV_iload_n dX12_canBe_162 rfl ?_
    refine EV_goto (tgt := 193) dX12_canBe_163 (by decide) ?_
    exact EV_pick [] rfl (zX12_canBe_193 E h)
  · rw [if_neg c1] at h
    refine EV_iload_n dX12_canBe_166 rfl ?_
    refine EV_if_eq (tgt := 192) dX12_canBe_167 (by decide) (fun c2 => ?_) (fun c2 => ?_)
    · rw [if_pos c2] at h
      exact EV_pick [] rfl (zX12_canBe_192 E h)
    · rw [if_neg c2] at h
      refine EV_aload_n dX12_canBe_170 rfl ?_
      have hh := b1_some h; clear h; obtain ⟨r3, hr3, h⟩ := hh
      refine EV_getP (ci := 12) (k := 50) dX12_canBe_171 fl_X12_99 rfl hr3 ?_
      refine EV_iconst (x := (4 : Int32)) dX12_canBe_174 (by decide) ?_
      have hh := b1_some h; clear h; obtain ⟨a4, ha4, h⟩ := hh
      subst ha4
      have hh := b1_some h; clear h; obtain ⟨x5, hx5, h⟩ := hh
      refine EV_aI (t := 0) (ty := .int) rfl (by decide) dX12_canBe_175 hx5 ?_
      refine EV_if_ne (tgt := 192) dX12_canBe_176 (by decide) (fun c6 => ?_) (fun c6 => ?_)
      · rw [if_pos c6] at h
        refine EV_aload_n dX12_canBe_179 rfl ?_
        have hh := b1_some h; clear h; obtain ⟨r7, hr7, h⟩ := hh
        refine EV_getP (ci := 12) (k := 50) dX12_canBe_180 fl_X12_99 rfl hr7 ?_
        refine EV_iconst (x := (5 : Int32)) dX12_canBe_183 (by decide) ?_
        have hh := b1_some h; clear h; obtain ⟨a8, ha8, h⟩ := hh
        subst ha8
        have hh := b1_some h; clear h; obtain ⟨x9, hx9, h⟩ := hh
        refine EV_aI (t := 0) (ty := .int) rfl (by decide) dX12_canBe_184 hx9 ?_
        refine EV_if_ne (tgt := 192) dX12_canBe_185 (by decide) (fun c10 => ?_) (fun c10 => ?_)
        · rw [if_pos c10] at h
          refine EV_iconst (x := (1 : Int32)) dX12_canBe_188 (by decide) ?_
          refine EV_goto (tgt := 193) dX12_canBe_189 (by decide) ?_
          exact EV_pick [] rfl (zX12_canBe_193 E h)
        · rw [if_neg c10] at h
          exact EV_pick [] rfl (zX12_canBe_192 E h)
      · rw [if_neg c6] at h
        exact EV_pick [] rfl (zX12_canBe_192 E h)
def mX12_canBe_151 (h0 : Nat) (pi1 : Int32) (pi2 : Int32) (s0 : eS) : Option (Int32 × eS) :=
  (mX12_canBe_156 h0 pi1 pi2 (1 : Int32) s0)
set_option maxRecDepth 100000 in
set_option maxHeartbeats 4000000 in
theorem zX12_canBe_151 (E : eE) {h0 : Nat} {pi1 : Int32} {pi2 : Int32} {s0 s9 : eS} {y : Int32} (h : mX12_canBe_151 h0 pi1 pi2 s0 = some (y, s9)) : EV E MX12_canBe 151 [(0, VR (some h0)), (1, VI pi1), (2, VI pi2)] [] s0 (some (VI y)) s9 := by
  unfold mX12_canBe_151 at h
  refine EV_iconst (x := (1 : Int32)) dX12_canBe_151 (by decide) ?_
  refine EV_goto (tgt := 156) dX12_canBe_152 (by decide) ?_
  exact EV_pick [0, 1, 2] rfl (zX12_canBe_156 E h)
def mX12_canBe_112 (s0 : eS) : Option (Int32 × eS) :=
  (b1 (o_Z (0 : Int32)) fun u1 => some ((0 : Int32), s0))
set_option maxRecDepth 100000 in
set_option maxHeartbeats 4000000 in
theorem zX12_canBe_112 (E : eE) {s0 s9 : eS} {y : Int32} (h : mX12_canBe_112 s0 = some (y, s9)) : EV E MX12_canBe 112 [] [] s0 (some (VI y)) s9 := by
  unfold mX12_canBe_112 at h
  refine EV_iconst (x := (0 : Int32)) dX12_canBe_112 (by decide) ?_
  have hh := b1_some h; clear h; obtain ⟨u1, hu1, h⟩ := hh
  cases h
  exact EV_ret ⟨dX12_canBe_113, .boolean, rfl, o_Z_n hu1⟩ rfl
def mX12_canBe_84 (h0 : Nat) (pi1 : Int32) (pt0 : Int32) (s0 : eS) : Option (Int32 × eS) :=
  (if (pi1 &&& (1 : Int32)) = 0 then (b1 (o_Z pt0) fun u2 => some (pt0, s0)) else (b1 (g_P s0 112 50 h0) fun r2 => (b1 r2 fun a3 => (b1 (a_I s0 0 a3 (1 : Int32)) fun x4 => (if x4 = (4 : Int32) then (b1 (g_P s0 112 50 h0) fun r6 => (b1 r6 fun a7 => (b1 (a_I s0 0 a7 (3 : Int32)) fun x8 => (if x8 = 0 then (if pi1 = (7 : Int32) then (mX12_canBe_151 h0 pi1 pt0 s0) else (if pi1 = (11 : Int32) then (mX12_canBe_151 h0 pi1 pt0 s0) else (if pi1 = (19 : Int32) then (mX12_canBe_151 h0 pi1 pt0 s0) else (if pi1 = (35 : Int32) then (mX12_canBe_151 h0 pi1 pt0 s0) else (if pi1 = (67 : Int32) then (mX12_canBe_151 h0 pi1 pt0 s0) else (if pi1 = (131 : Int32) then (mX12_canBe_151 h0 pi1 pt0 s0) else (mX12_canBe_156 h0 pi1 pt0 (0 : Int32) s0))))))) else (mX12_canBe_112 s0))))) else (mX12_canBe_112 s0))))))
set_option maxRecDepth 100000 in
set_option maxHeartbeats 4000000 in
theorem zX12_canBe_84 (E : eE) {h0 : Nat} {pi1 : Int32} {pt0 : Int32} {s0 s9 : eS} {y : Int32} (h : mX12_canBe_84 h0 pi1 pt0 s0 = some (y, s9)) : EV E MX12_canBe 84 [(0, VR (some h0)), (1, VI pi1)] [VI pt0] s0 (some (VI y)) s9 := by
  unfold mX12_canBe_84 at h
  refine EV_istore_n (lv2 := [(2, VI pt0), (0, VR (some h0)), (1, VI pi1)]) dX12_canBe_84 (by decide) rfl ?_
  refine EV_iload_n dX12_canBe_85 rfl ?_
  refine EV_iconst (x := (1 : Int32)) dX12_canBe_86 (by decide) ?_
  refine EV_iand dX12_canBe_87 ?_
  refine EV_if_ne (tgt := 93) dX12_canBe_88 (by decide) (fun c1 => ?_) (fun c1 => ?_)
  · rw [if_pos c1] at h
    refine EV_iload_n dX12_canBe_91 rfl ?_
    have hh := b1_some h; clear h; obtain ⟨u2, hu2, h⟩ := hh
    cases h
    exact EV_ret ⟨dX12_canBe_92, .boolean, rfl, o_Z_n hu2⟩ rfl
  · rw [if_neg c1] at h
    refine EV_aload_n dX12_canBe_93 rfl ?_
    have hh := b1_some h; clear h; obtain ⟨r2, hr2, h⟩ := hh
    refine EV_getP (ci := 12) (k := 50) dX12_canBe_94 fl_X12_99 rfl hr2 ?_
    refine EV_iconst (x := (1 : Int32)) dX12_canBe_97 (by decide) ?_
    have hh := b1_some h; clear h; obtain ⟨a3, ha3, h⟩ := hh
    subst ha3
    have hh := b1_some h; clear h; obtain ⟨x4, hx4, h⟩ := hh
    refine EV_aI (t := 0) (ty := .int) rfl (by decide) dX12_canBe_98 hx4 ?_
    refine EV_iconst (x := (4 : Int32)) dX12_canBe_99 (by decide) ?_
    refine EV_icmp_ne (tgt := 112) dX12_canBe_100 (by decide) (fun c5 => ?_) (fun c5 => ?_)
    · rw [if_pos c5] at h
      refine EV_aload_n dX12_canBe_103 rfl ?_
      have hh := b1_some h; clear h; obtain ⟨r6, hr6, h⟩ := hh
      refine EV_getP (ci := 12) (k := 50) dX12_canBe_104 fl_X12_99 rfl hr6 ?_
      refine EV_iconst (x := (3 : Int32)) dX12_canBe_107 (by decide) ?_
      have hh := b1_some h; clear h; obtain ⟨a7, ha7, h⟩ := hh
      subst ha7
      have hh := b1_some h; clear h; obtain ⟨x8, hx8, h⟩ := hh
      refine EV_aI (t := 0) (ty := .int) rfl (by decide) dX12_canBe_108 hx8 ?_
      refine EV_if_eq (tgt := 114) dX12_canBe_109 (by decide) (fun c9 => ?_) (fun c9 => ?_)
      · rw [if_pos c9] at h
        refine EV_iload_n dX12_canBe_114 rfl ?_
        refine EV_bipush (x := (7 : Int32)) dX12_canBe_115 (by decide) ?_
        refine EV_icmp_eq (tgt := 151) dX12_canBe_117 (by decide) (fun c10 => ?_) (fun c10 => ?_)
        · rw [if_pos c10] at h
          exact EV_pick [1, 2, 0] rfl (zX12_canBe_151 E h)
        · rw [if_neg c10] at h
          refine EV_iload_n dX12_canBe_120 rfl ?_
          refine EV_bipush (x := (11 : Int32)) dX12_canBe_121 (by decide) ?_
          refine EV_icmp_eq (tgt := 151) dX12_canBe_123 (by decide) (fun c11 => ?_) (fun c11 => ?_)
          · rw [if_pos c11] at h
            exact EV_pick [1, 2, 0] rfl (zX12_canBe_151 E h)
          · rw [if_neg c11] at h
            refine EV_iload_n dX12_canBe_126 rfl ?_
            refine EV_bipush (x := (19 : Int32)) dX12_canBe_127 (by decide) ?_
            refine EV_icmp_eq (tgt := 151) dX12_canBe_129 (by decide) (fun c12 => ?_) (fun c12 => ?_)
            · rw [if_pos c12] at h
              exact EV_pick [1, 2, 0] rfl (zX12_canBe_151 E h)
            · rw [if_neg c12] at h
              refine EV_iload_n dX12_canBe_132 rfl ?_
              refine EV_bipush (x := (35 : Int32)) dX12_canBe_133 (by decide) ?_
              refine EV_icmp_eq (tgt := 151) dX12_canBe_135 (by decide) (fun c13 => ?_) (fun c13 => ?_)
              · rw [if_pos c13] at h
                exact EV_pick [1, 2, 0] rfl (zX12_canBe_151 E h)
              · rw [if_neg c13] at h
                refine EV_iload_n dX12_canBe_138 rfl ?_
                refine EV_bipush (x := (67 : Int32)) dX12_canBe_139 (by decide) ?_
                refine EV_icmp_eq (tgt := 151) dX12_canBe_141 (by decide) (fun c14 => ?_) (fun c14 => ?_)
                · rw [if_pos c14] at h
                  exact EV_pick [1, 2, 0] rfl (zX12_canBe_151 E h)
                · rw [if_neg c14] at h
                  refine EV_iload_n dX12_canBe_144 rfl ?_
                  refine EV_sipush (x := (131 : Int32)) dX12_canBe_145 (by decide) ?_
                  refine EV_icmp_ne (tgt := 155) dX12_canBe_148 (by decide) (fun c15 => ?_) (fun c15 => ?_)
                  · rw [if_pos c15] at h
                    exact EV_pick [1, 2, 0] rfl (zX12_canBe_151 E h)
                  · rw [if_neg c15] at h
                    refine EV_iconst (x := (0 : Int32)) dX12_canBe_155 (by decide) ?_
                    exact EV_pick [1, 2, 0] rfl (zX12_canBe_156 E h)
      · rw [if_neg c9] at h
        exact EV_pick [] rfl (zX12_canBe_112 E h)
    · rw [if_neg c5] at h
      exact EV_pick [] rfl (zX12_canBe_112 E h)
def mX12_canBe (h0 : Nat) (s0 : eS) : Option (Int32 × eS) :=
  (b1 (g_I s0 112 51 h0) fun x1 => (if x1 = (1 : Int32) then (b1 (g_P s0 112 50 h0) fun r3 => (b1 r3 fun a4 => (b1 (a_I s0 0 a4 (0 : Int32)) fun x5 => (if x5 = (104 : Int32) then (mX12_canBe_24 (1 : Int32) s0) else (mX12_canBe_24 (0 : Int32) s0))))) else (b1 (g_I s0 112 51 h0) fun x3 => (if x3 = (2 : Int32) then (b1 (g_P s0 112 50 h0) fun r5 => (b1 r5 fun a6 => (b1 (a_I s0 0 a6 (1 : Int32)) fun x7 => (b2 (mX12_in ((x7).toInt64) (4 : Int64) (253 : Int64) s0) fun x9 s8 => (b1 (o_Z x9) fun u10 => some (x9, s8)))))) else (b1 (g_I s0 112 51 h0) fun x5 => (if x5 = (6 : Int32) then (b1 (g_P s0 112 50 h0) fun r7 => (b1 r7 fun a8 => (b1 (a_I s0 0 a8 (2 : Int32)) fun x9 => (b1 (g_P s0 112 50 h0) fun r10 => (b1 r10 fun a11 => (b1 (a_I s0 0 a11 (4 : Int32)) fun x12 => (if (x12 &&& (1 : Int32)) = 0 then (mX12_canBe_84 h0 x9 (1 : Int32) s0) else (mX12_canBe_84 h0 x9 (0 : Int32) s0)))))))) else (b1 (o_Z (1 : Int32)) fun u7 => some ((1 : Int32), s0))))))))
set_option maxRecDepth 100000 in
set_option maxHeartbeats 4000000 in
theorem zX12_canBe (E : eE) {h0 : Nat} {s0 s9 : eS} {y : Int32} (h : mX12_canBe h0 s0 = some (y, s9)) : EM E YX12_canBe [VR (some h0)] s0 (some (VI y)) s9 := by
  refine EM_of (M := MX12_canBe) (own := RX12) (ini := false) rfl (by decide +kernel) rfl (fun z => nomatch z) (Nat.le_of_ble_eq_true rfl) ?_
  unfold mX12_canBe at h
  refine EV_aload_n dX12_canBe_0 rfl ?_
  have hh := b1_some h; clear h; obtain ⟨x1, hx1, h⟩ := hh
  refine EV_getI (ci := 12) (k := 51) dX12_canBe_1 fl_X12_255 rfl hx1 ?_
  refine EV_iconst (x := (1 : Int32)) dX12_canBe_4 (by decide) ?_
  refine EV_icmp_ne (tgt := 25) dX12_canBe_5 (by decide) (fun c2 => ?_) (fun c2 => ?_)
  · rw [if_pos c2] at h
    refine EV_aload_n dX12_canBe_8 rfl ?_
    have hh := b1_some h; clear h; obtain ⟨r3, hr3, h⟩ := hh
    refine EV_getP (ci := 12) (k := 50) dX12_canBe_9 fl_X12_99 rfl hr3 ?_
    refine EV_iconst (x := (0 : Int32)) dX12_canBe_12 (by decide) ?_
    have hh := b1_some h; clear h; obtain ⟨a4, ha4, h⟩ := hh
    subst ha4
    have hh := b1_some h; clear h; obtain ⟨x5, hx5, h⟩ := hh
    refine EV_aI (t := 0) (ty := .int) rfl (by decide) dX12_canBe_13 hx5 ?_
    refine EV_bipush (x := (104 : Int32)) dX12_canBe_14 (by decide) ?_
    refine EV_icmp_ne (tgt := 23) dX12_canBe_16 (by decide) (fun c6 => ?_) (fun c6 => ?_)
    · rw [if_pos c6] at h
      refine EV_iconst (x := (1 : Int32)) dX12_canBe_19 (by decide) ?_
      refine EV_goto (tgt := 24) dX12_canBe_20 (by decide) ?_
      exact EV_pick [] rfl (zX12_canBe_24 E h)
    · rw [if_neg c6] at h
      refine EV_iconst (x := (0 : Int32)) dX12_canBe_23 (by decide) ?_
      exact EV_pick [] rfl (zX12_canBe_24 E h)
  · rw [if_neg c2] at h
    refine EV_aload_n dX12_canBe_25 rfl ?_
    have hh := b1_some h; clear h; obtain ⟨x3, hx3, h⟩ := hh
    refine EV_getI (ci := 12) (k := 51) dX12_canBe_26 fl_X12_255 rfl hx3 ?_
    refine EV_iconst (x := (2 : Int32)) dX12_canBe_29 (by decide) ?_
    refine EV_icmp_ne (tgt := 50) dX12_canBe_30 (by decide) (fun c4 => ?_) (fun c4 => ?_)
    · rw [if_pos c4] at h
      refine EV_aload_n dX12_canBe_33 rfl ?_
      have hh := b1_some h; clear h; obtain ⟨r5, hr5, h⟩ := hh
      refine EV_getP (ci := 12) (k := 50) dX12_canBe_34 fl_X12_99 rfl hr5 ?_
      refine EV_iconst (x := (1 : Int32)) dX12_canBe_37 (by decide) ?_
      have hh := b1_some h; clear h; obtain ⟨a6, ha6, h⟩ := hh
      subst ha6
      have hh := b1_some h; clear h; obtain ⟨x7, hx7, h⟩ := hh
      refine EV_aI (t := 0) (ty := .int) rfl (by decide) dX12_canBe_38 hx7 ?_
      refine EV_i2l dX12_canBe_39 ?_
      refine EV_ldc2 (x := (4 : Int64)) dX12_canBe_40 tw_1228 ?_
      refine EV_ldc2 (x := (253 : Int64)) dX12_canBe_43 tw_1229 ?_
      have hh := b2_some h; clear h; obtain ⟨x9, s8, hs8, h⟩ := hh
      refine EV_callS (Y := YX12_in) (as := [VL ((x7).toInt64), VL (4 : Int64), VL (253 : Int64)]) (st := []) (st2 := [VI x9]) (n := 3) dX12_canBe_46 (zX12_in E hs8) rfl cwX12_in rfl tw_1104 tw_1105 ⟨by decide, by decide⟩ (Nat.le_of_ble_eq_true rfl) rfl ?_
      have hh := b1_some h; clear h; obtain ⟨u10, hu10, h⟩ := hh
      cases h
      exact EV_ret ⟨dX12_canBe_49, .boolean, rfl, o_Z_n hu10⟩ rfl
    · rw [if_neg c4] at h
      refine EV_aload_n dX12_canBe_50 rfl ?_
      have hh := b1_some h; clear h; obtain ⟨x5, hx5, h⟩ := hh
      refine EV_getI (ci := 12) (k := 51) dX12_canBe_51 fl_X12_255 rfl hx5 ?_
      refine EV_bipush (x := (6 : Int32)) dX12_canBe_54 (by decide) ?_
      refine EV_icmp_eq (tgt := 61) dX12_canBe_56 (by decide) (fun c6 => ?_) (fun c6 => ?_)
      · rw [if_pos c6] at h
        refine EV_aload_n dX12_canBe_61 rfl ?_
        have hh := b1_some h; clear h; obtain ⟨r7, hr7, h⟩ := hh
        refine EV_getP (ci := 12) (k := 50) dX12_canBe_62 fl_X12_99 rfl hr7 ?_
        refine EV_iconst (x := (2 : Int32)) dX12_canBe_65 (by decide) ?_
        have hh := b1_some h; clear h; obtain ⟨a8, ha8, h⟩ := hh
        subst ha8
        have hh := b1_some h; clear h; obtain ⟨x9, hx9, h⟩ := hh
        refine EV_aI (t := 0) (ty := .int) rfl (by decide) dX12_canBe_66 hx9 ?_
        refine EV_istore_n (lv2 := [(1, VI x9), (0, VR (some h0))]) dX12_canBe_67 (by decide) rfl ?_
        refine EV_aload_n dX12_canBe_68 rfl ?_
        have hh := b1_some h; clear h; obtain ⟨r10, hr10, h⟩ := hh
        refine EV_getP (ci := 12) (k := 50) dX12_canBe_69 fl_X12_99 rfl hr10 ?_
        refine EV_iconst (x := (4 : Int32)) dX12_canBe_72 (by decide) ?_
        have hh := b1_some h; clear h; obtain ⟨a11, ha11, h⟩ := hh
        subst ha11
        have hh := b1_some h; clear h; obtain ⟨x12, hx12, h⟩ := hh
        refine EV_aI (t := 0) (ty := .int) rfl (by decide) dX12_canBe_73 hx12 ?_
        refine EV_iconst (x := (1 : Int32)) dX12_canBe_74 (by decide) ?_
        refine EV_iand dX12_canBe_75 ?_
        refine EV_if_ne (tgt := 83) dX12_canBe_76 (by decide) (fun c13 => ?_) (fun c13 => ?_)
        · rw [if_pos c13] at h
          refine EV_iconst (x := (1 : Int32)) dX12_canBe_79 (by decide) ?_
          refine EV_goto (tgt := 84) dX12_canBe_80 (by decide) ?_
          exact EV_pick [1, 0] rfl (zX12_canBe_84 E h)
        · rw [if_neg c13] at h
          refine EV_iconst (x := (0 : Int32)) dX12_canBe_83 (by decide) ?_
          exact EV_pick [1, 0] rfl (zX12_canBe_84 E h)
      · rw [if_neg c6] at h
        refine EV_iconst (x := (1 : Int32)) dX12_canBe_59 (by decide) ?_
        have hh := b1_some h; clear h; obtain ⟨u7, hu7, h⟩ := hh
        cases h
        exact EV_ret ⟨dX12_canBe_60, .boolean, rfl, o_Z_n hu7⟩ rfl
def mX12_acknowledges_153 (k61 : Nat → Int32 → Int32 → eS → Option (Int32 × eS)) : Nat → Nat → Int32 → Int32 → Int32 → eS → Option (Int32 × eS)
  | 0, _, _, _, _, _ => none
  | n + 1, h0, pi3, pi4, pi5, s0 =>
  (if (7 : Int32) ≤ pi5 then (k61 h0 pi3 (pi4 + (1 : Int32)) s0) else (b1 (g_P s0 112 34 h0) fun r2 => (b1 (g_P s0 112 34 h0) fun r3 => (b1 r3 fun a4 => (b1 (a_I s0 0 a4 (((7 : Int32) * pi4) + pi5)) fun x5 => (b1 r2 fun a6 => (b1 (s_I s0 0 a6 (((7 : Int32) * (pi4 - pi3)) + pi5) x5) fun s7 => (mX12_acknowledges_153 k61 n h0 pi3 pi4 (pi5 + (1 : Int32)) s7))))))))
set_option maxRecDepth 100000 in
set_option maxHeartbeats 4000000 in
theorem zX12_acknowledges_153 (E : eE) {k61 : Nat → Int32 → Int32 → eS → Option (Int32 × eS)} (hk61 : ∀ {h0 : Nat} {pi3 : Int32} {pi4 : Int32} {s0 s9 : eS} {y : Int32}, k61 h0 pi3 pi4 s0 = some (y, s9) → EV E MX12_acknowledges 61 [(0, VR (some h0)), (3, VI pi3), (4, VI pi4)] [] s0 (some (VI y)) s9) : ∀ (n : Nat) {h0 : Nat} {pi3 : Int32} {pi4 : Int32} {pi5 : Int32} {s0 s9 : eS} {y : Int32}, mX12_acknowledges_153 k61 n h0 pi3 pi4 pi5 s0 = some (y, s9) → EV E MX12_acknowledges 153 [(0, VR (some h0)), (3, VI pi3), (4, VI pi4), (5, VI pi5)] [] s0 (some (VI y)) s9 := by
  intro n
  induction n with
  | zero =>
    intro h0 pi3 pi4 pi5 s0 s9 y h
    unfold mX12_acknowledges_153 at h
    cases h
  | succ n ih =>
    intro h0 pi3 pi4 pi5 s0 s9 y h
    unfold mX12_acknowledges_153 at h
    refine EV_iload dX12_acknowledges_153 rfl ?_
    refine EV_bipush (x := (7 : Int32)) dX12_acknowledges_155 (by decide) ?_
    refine EV_icmp_ge (tgt := 194) dX12_acknowledges_157 (by decide) (fun c1 => ?_) (fun c1 => ?_)
    · rw [if_pos c1] at h
      refine EV_iinc (y := (1 : Int32)) (lv2 := [(4, VI (pi4 + (1 : Int32))), (0, VR (some h0)), (3, VI pi3), (5, VI pi5)]) dX12_acknowledges_194 rfl (by decide) (by decide) rfl ?_
      refine EV_goto (tgt := 61) dX12_acknowledges_197 (by decide) ?_
      exact EV_pick [1, 2, 0] rfl (hk61 h)
    · rw [if_neg c1] at h
      refine EV_aload_n dX12_acknowledges_160 rfl ?_
      have hh := b1_some h; clear h; obtain ⟨r2, hr2, h⟩ := hh
      refine EV_getP (ci := 12) (k := 34) dX12_acknowledges_161 fl_X12_87 rfl hr2 ?_
      refine EV_bipush (x := (7 : Int32)) dX12_acknowledges_164 (by decide) ?_
      refine EV_iload dX12_acknowledges_166 rfl ?_
      refine EV_iload_n dX12_acknowledges_168 rfl ?_
      refine EV_isub dX12_acknowledges_169 ?_
      refine EV_imul dX12_acknowledges_170 ?_
      refine EV_iload dX12_acknowledges_171 rfl ?_
      refine EV_iadd dX12_acknowledges_173 ?_
      refine EV_aload_n dX12_acknowledges_174 rfl ?_
      have hh := b1_some h; clear h; obtain ⟨r3, hr3, h⟩ := hh
      refine EV_getP (ci := 12) (k := 34) dX12_acknowledges_175 fl_X12_87 rfl hr3 ?_
      refine EV_bipush (x := (7 : Int32)) dX12_acknowledges_178 (by decide) ?_
      refine EV_iload dX12_acknowledges_180 rfl ?_
      refine EV_imul dX12_acknowledges_182 ?_
      refine EV_iload dX12_acknowledges_183 rfl ?_
      refine EV_iadd dX12_acknowledges_185 ?_
      have hh := b1_some h; clear h; obtain ⟨a4, ha4, h⟩ := hh
      subst ha4
      have hh := b1_some h; clear h; obtain ⟨x5, hx5, h⟩ := hh
      refine EV_aI (t := 0) (ty := .int) rfl (by decide) dX12_acknowledges_186 hx5 ?_
      have hh := b1_some h; clear h; obtain ⟨a6, ha6, h⟩ := hh
      subst ha6
      have hh := b1_some h; clear h; obtain ⟨s7, hs7, h⟩ := hh
      refine EV_sI (t := 0) rfl dX12_acknowledges_187 hs7 ?_
      refine EV_iinc (y := (1 : Int32)) (lv2 := [(5, VI (pi5 + (1 : Int32))), (0, VR (some h0)), (3, VI pi3), (4, VI pi4)]) dX12_acknowledges_188 rfl (by decide) (by decide) rfl ?_
      refine EV_goto (tgt := 153) dX12_acknowledges_191 (by decide) ?_
      exact EV_pick [1, 2, 3, 0] rfl (ih h)
def mX12_acknowledges_61 : Nat → Nat → Int32 → Int32 → eS → Option (Int32 × eS)
  | 0, _, _, _, _ => none
  | n + 1, h0, pi3, pi4, s0 =>
  (b1 (g_I s0 112 28 h0) fun x1 => (if x1 ≤ pi4 then (b1 (g_I s0 112 28 h0) fun x3 => (b1 (p_I s0 112 28 h0 (x3 - pi3)) fun s4 => (b1 (o_Z (1 : Int32)) fun u5 => some ((1 : Int32), s4)))) else (b1 (g_P s0 112 29 h0) fun r3 => (b1 (g_P s0 112 29 h0) fun r4 => (b1 r4 fun a5 => (b1 (a_I s0 0 a5 pi4) fun x6 => (b1 r3 fun a7 => (b1 (s_I s0 0 a7 (pi4 - pi3) x6) fun s8 => (b1 (g_P s8 112 30 h0) fun r9 => (b1 (g_P s8 112 30 h0) fun r10 => (b1 r10 fun a11 => (b1 (a_I s8 2 a11 pi4) fun x12 => (b1 r9 fun a13 => (b1 (s_Z s8 2 a13 (pi4 - pi3) x12) fun s14 => (b1 (g_P s14 112 31 h0) fun r15 => (b1 (g_P s14 112 31 h0) fun r16 => (b1 r16 fun a17 => (b1 (a_I s14 0 a17 pi4) fun x18 => (b1 r15 fun a19 => (b1 (s_I s14 0 a19 (pi4 - pi3) x18) fun s20 => (b1 (g_P s20 112 32 h0) fun r21 => (b1 (g_P s20 112 32 h0) fun r22 => (b1 r22 fun a23 => (b1 (a_I s20 0 a23 pi4) fun x24 => (b1 r21 fun a25 => (b1 (s_I s20 0 a25 (pi4 - pi3) x24) fun s26 => (b1 (g_P s26 112 33 h0) fun r27 => (b1 (g_P s26 112 33 h0) fun r28 => (b1 r28 fun a29 => (b1 (a_I s26 0 a29 pi4) fun x30 => (b1 r27 fun a31 => (b1 (s_I s26 0 a31 (pi4 - pi3) x30) fun s32 => (mX12_acknowledges_153 (mX12_acknowledges_61 n) 100000 h0 pi3 pi4 (0 : Int32) s32)))))))))))))))))))))))))))))))))
set_option maxRecDepth 100000 in
set_option maxHeartbeats 4000000 in
theorem zX12_acknowledges_61 (E : eE) : ∀ (n : Nat) {h0 : Nat} {pi3 : Int32} {pi4 : Int32} {s0 s9 : eS} {y : Int32}, mX12_acknowledges_61 n h0 pi3 pi4 s0 = some (y, s9) → EV E MX12_acknowledges 61 [(0, VR (some h0)), (3, VI pi3), (4, VI pi4)] [] s0 (some (VI y)) s9 := by
  intro n
  induction n with
  | zero =>
    intro h0 pi3 pi4 s0 s9 y h
    unfold mX12_acknowledges_61 at h
    cases h
  | succ n ih =>
    intro h0 pi3 pi4 s0 s9 y h
    unfold mX12_acknowledges_61 at h
    refine EV_iload dX12_acknowledges_61 rfl ?_
    refine EV_aload_n dX12_acknowledges_63 rfl ?_
    have hh := b1_some h; clear h; obtain ⟨x1, hx1, h⟩ := hh
    refine EV_getI (ci := 12) (k := 28) dX12_acknowledges_64 fl_X12_206 rfl hx1 ?_
    refine EV_icmp_ge (tgt := 200) dX12_acknowledges_67 (by decide) (fun c2 => ?_) (fun c2 => ?_)
    · rw [if_pos c2] at h
      refine EV_aload_n dX12_acknowledges_200 rfl ?_
      refine EV_dup dX12_acknowledges_201 rfl ?_
      have hh := b1_some h; clear h; obtain ⟨x3, hx3, h⟩ := hh
      refine EV_getI (ci := 12) (k := 28) dX12_acknowledges_202 fl_X12_206 rfl hx3 ?_
      refine EV_iload_n dX12_acknowledges_205 rfl ?_
      refine EV_isub dX12_acknowledges_206 ?_
      have hh := b1_some h; clear h; obtain ⟨s4, hs4, h⟩ := hh
      refine EV_putI (ci := 12) (k := 28) dX12_acknowledges_207 fp_X12_206 rfl hs4 ?_
      refine EV_iconst (x := (1 : Int32)) dX12_acknowledges_210 (by decide) ?_
      have hh := b1_some h; clear h; obtain ⟨u5, hu5, h⟩ := hh
      cases h
      exact EV_ret ⟨dX12_acknowledges_211, .boolean, rfl, o_Z_n hu5⟩ rfl
    · rw [if_neg c2] at h
      refine EV_aload_n dX12_acknowledges_70 rfl ?_
      have hh := b1_some h; clear h; obtain ⟨r3, hr3, h⟩ := hh
      refine EV_getP (ci := 12) (k := 29) dX12_acknowledges_71 fl_X12_72 rfl hr3 ?_
      refine EV_iload dX12_acknowledges_74 rfl ?_
      refine EV_iload_n dX12_acknowledges_76 rfl ?_
      refine EV_isub dX12_acknowledges_77 ?_
      refine EV_aload_n dX12_acknowledges_78 rfl ?_
      have hh := b1_some h; clear h; obtain ⟨r4, hr4, h⟩ := hh
      refine EV_getP (ci := 12) (k := 29) dX12_acknowledges_79 fl_X12_72 rfl hr4 ?_
      refine EV_iload dX12_acknowledges_82 rfl ?_
      have hh := b1_some h; clear h; obtain ⟨a5, ha5, h⟩ := hh
      subst ha5
      have hh := b1_some h; clear h; obtain ⟨x6, hx6, h⟩ := hh
      refine EV_aI (t := 0) (ty := .int) rfl (by decide) dX12_acknowledges_84 hx6 ?_
      have hh := b1_some h; clear h; obtain ⟨a7, ha7, h⟩ := hh
      subst ha7
      have hh := b1_some h; clear h; obtain ⟨s8, hs8, h⟩ := hh
      refine EV_sI (t := 0) rfl dX12_acknowledges_85 hs8 ?_
      refine EV_aload_n dX12_acknowledges_86 rfl ?_
      have hh := b1_some h; clear h; obtain ⟨r9, hr9, h⟩ := hh
      refine EV_getP (ci := 12) (k := 30) dX12_acknowledges_87 fl_X12_75 rfl hr9 ?_
      refine EV_iload dX12_acknowledges_90 rfl ?_
      refine EV_iload_n dX12_acknowledges_92 rfl ?_
      refine EV_isub dX12_acknowledges_93 ?_
      refine EV_aload_n dX12_acknowledges_94 rfl ?_
      have hh := b1_some h; clear h; obtain ⟨r10, hr10, h⟩ := hh
      refine EV_getP (ci := 12) (k := 30) dX12_acknowledges_95 fl_X12_75 rfl hr10 ?_
      refine EV_iload dX12_acknowledges_98 rfl ?_
      have hh := b1_some h; clear h; obtain ⟨a11, ha11, h⟩ := hh
      subst ha11
      have hh := b1_some h; clear h; obtain ⟨x12, hx12, h⟩ := hh
      refine EV_aI (t := 2) (ty := .boolean) rfl (by decide) dX12_acknowledges_100 hx12 ?_
      have hh := b1_some h; clear h; obtain ⟨a13, ha13, h⟩ := hh
      subst ha13
      have hh := b1_some h; clear h; obtain ⟨s14, hs14, h⟩ := hh
      refine EV_sZ (t := 2) rfl dX12_acknowledges_101 hs14 ?_
      refine EV_aload_n dX12_acknowledges_102 rfl ?_
      have hh := b1_some h; clear h; obtain ⟨r15, hr15, h⟩ := hh
      refine EV_getP (ci := 12) (k := 31) dX12_acknowledges_103 fl_X12_78 rfl hr15 ?_
      refine EV_iload dX12_acknowledges_106 rfl ?_
      refine EV_iload_n dX12_acknowledges_108 rfl ?_
      refine EV_isub dX12_acknowledges_109 ?_
      refine EV_aload_n dX12_acknowledges_110 rfl ?_
      have hh := b1_some h; clear h; obtain ⟨r16, hr16, h⟩ := hh
      refine EV_getP (ci := 12) (k := 31) dX12_acknowledges_111 fl_X12_78 rfl hr16 ?_
      refine EV_iload dX12_acknowledges_114 rfl ?_
      have hh := b1_some h; clear h; obtain ⟨a17, ha17, h⟩ := hh
      subst ha17
      have hh := b1_some h; clear h; obtain ⟨x18, hx18, h⟩ := hh
      refine EV_aI (t := 0) (ty := .int) rfl (by decide) dX12_acknowledges_116 hx18 ?_
      have hh := b1_some h; clear h; obtain ⟨a19, ha19, h⟩ := hh
      subst ha19
      have hh := b1_some h; clear h; obtain ⟨s20, hs20, h⟩ := hh
      refine EV_sI (t := 0) rfl dX12_acknowledges_117 hs20 ?_
      refine EV_aload_n dX12_acknowledges_118 rfl ?_
      have hh := b1_some h; clear h; obtain ⟨r21, hr21, h⟩ := hh
      refine EV_getP (ci := 12) (k := 32) dX12_acknowledges_119 fl_X12_81 rfl hr21 ?_
      refine EV_iload dX12_acknowledges_122 rfl ?_
      refine EV_iload_n dX12_acknowledges_124 rfl ?_
      refine EV_isub dX12_acknowledges_125 ?_
      refine EV_aload_n dX12_acknowledges_126 rfl ?_
      have hh := b1_some h; clear h; obtain ⟨r22, hr22, h⟩ := hh
      refine EV_getP (ci := 12) (k := 32) dX12_acknowledges_127 fl_X12_81 rfl hr22 ?_
      refine EV_iload dX12_acknowledges_130 rfl ?_
      have hh := b1_some h; clear h; obtain ⟨a23, ha23, h⟩ := hh
      subst ha23
      have hh := b1_some h; clear h; obtain ⟨x24, hx24, h⟩ := hh
      refine EV_aI (t := 0) (ty := .int) rfl (by decide) dX12_acknowledges_132 hx24 ?_
      have hh := b1_some h; clear h; obtain ⟨a25, ha25, h⟩ := hh
      subst ha25
      have hh := b1_some h; clear h; obtain ⟨s26, hs26, h⟩ := hh
      refine EV_sI (t := 0) rfl dX12_acknowledges_133 hs26 ?_
      refine EV_aload_n dX12_acknowledges_134 rfl ?_
      have hh := b1_some h; clear h; obtain ⟨r27, hr27, h⟩ := hh
      refine EV_getP (ci := 12) (k := 33) dX12_acknowledges_135 fl_X12_84 rfl hr27 ?_
      refine EV_iload dX12_acknowledges_138 rfl ?_
      refine EV_iload_n dX12_acknowledges_140 rfl ?_
      refine EV_isub dX12_acknowledges_141 ?_
      refine EV_aload_n dX12_acknowledges_142 rfl ?_
      have hh := b1_some h; clear h; obtain ⟨r28, hr28, h⟩ := hh
      refine EV_getP (ci := 12) (k := 33) dX12_acknowledges_143 fl_X12_84 rfl hr28 ?_
      refine EV_iload dX12_acknowledges_146 rfl ?_
      have hh := b1_some h; clear h; obtain ⟨a29, ha29, h⟩ := hh
      subst ha29
      have hh := b1_some h; clear h; obtain ⟨x30, hx30, h⟩ := hh
      refine EV_aI (t := 0) (ty := .int) rfl (by decide) dX12_acknowledges_148 hx30 ?_
      have hh := b1_some h; clear h; obtain ⟨a31, ha31, h⟩ := hh
      subst ha31
      have hh := b1_some h; clear h; obtain ⟨s32, hs32, h⟩ := hh
      refine EV_sI (t := 0) rfl dX12_acknowledges_149 hs32 ?_
      refine EV_iconst (x := (0 : Int32)) dX12_acknowledges_150 (by decide) ?_
      refine EV_istore (lv2 := [(5, VI (0 : Int32)), (0, VR (some h0)), (3, VI pi3), (4, VI pi4)]) dX12_acknowledges_151 (by decide) rfl ?_
      exact EV_pick [1, 2, 3, 0] rfl (zX12_acknowledges_153 E (@ih) _ h)
def mX12_acknowledges (h0 : Nat) (s0 : eS) : Option (Int32 × eS) :=
  (b1 (g_P s0 112 50 h0) fun r1 => (b1 r1 fun a2 => (b1 (a_I s0 0 a2 (4 : Int32)) fun x3 => (b1 (g_P s0 112 50 h0) fun r4 => (b1 r4 fun a5 => (b1 (a_I s0 0 a5 (5 : Int32)) fun x6 => (b1 (g_I s0 112 37 h0) fun x7 => (b1 (g_I s0 112 28 h0) fun x8 => (b1 (g_I s0 112 28 h0) fun x9 => (if (((((x3 / (2 : Int32)) + ((128 : Int32) * x6)) - ((x7 - x8) - (x7 - x8) / (32768 : Int32) * (32768 : Int32))) + (32768 : Int32)) - ((((x3 / (2 : Int32)) + ((128 : Int32) * x6)) - ((x7 - x8) - (x7 - x8) / (32768 : Int32) * (32768 : Int32))) + (32768 : Int32)) / (32768 : Int32) * (32768 : Int32)) ≤ x9 then (mX12_acknowledges_61 100000 h0 (((((x3 / (2 : Int32)) + ((128 : Int32) * x6)) - ((x7 - x8) - (x7 - x8) / (32768 : Int32) * (32768 : Int32))) + (32768 : Int32)) - ((((x3 / (2 : Int32)) + ((128 : Int32) * x6)) - ((x7 - x8) - (x7 - x8) / (32768 : Int32) * (32768 : Int32))) + (32768 : Int32)) / (32768 : Int32) * (32768 : Int32)) (((((x3 / (2 : Int32)) + ((128 : Int32) * x6)) - ((x7 - x8) - (x7 - x8) / (32768 : Int32) * (32768 : Int32))) + (32768 : Int32)) - ((((x3 / (2 : Int32)) + ((128 : Int32) * x6)) - ((x7 - x8) - (x7 - x8) / (32768 : Int32) * (32768 : Int32))) + (32768 : Int32)) / (32768 : Int32) * (32768 : Int32)) s0) else (b1 (o_K s0 112 h0) fun u14 => (b1 (mX12_closes h0 (3 : Int32) s0) fun s11 => (b1 (o_Z (0 : Int32)) fun u13 => some ((0 : Int32), s11))))))))))))))
set_option maxRecDepth 100000 in
set_option maxHeartbeats 4000000 in
theorem zX12_acknowledges (E : eE) {h0 : Nat} {s0 s9 : eS} {y : Int32} (h : mX12_acknowledges h0 s0 = some (y, s9)) : EM E YX12_acknowledges [VR (some h0)] s0 (some (VI y)) s9 := by
  refine EM_of (M := MX12_acknowledges) (own := RX12) (ini := false) rfl (by decide +kernel) rfl (fun z => nomatch z) (Nat.le_of_ble_eq_true rfl) ?_
  unfold mX12_acknowledges at h
  refine EV_aload_n dX12_acknowledges_0 rfl ?_
  have hh := b1_some h; clear h; obtain ⟨r1, hr1, h⟩ := hh
  refine EV_getP (ci := 12) (k := 50) dX12_acknowledges_1 fl_X12_99 rfl hr1 ?_
  refine EV_iconst (x := (4 : Int32)) dX12_acknowledges_4 (by decide) ?_
  have hh := b1_some h; clear h; obtain ⟨a2, ha2, h⟩ := hh
  subst ha2
  have hh := b1_some h; clear h; obtain ⟨x3, hx3, h⟩ := hh
  refine EV_aI (t := 0) (ty := .int) rfl (by decide) dX12_acknowledges_5 hx3 ?_
  refine EV_iconst (x := (2 : Int32)) dX12_acknowledges_6 (by decide) ?_
  refine EV_idiv dX12_acknowledges_7 (by decide) ?_
  refine EV_sipush (x := (128 : Int32)) dX12_acknowledges_8 (by decide) ?_
  refine EV_aload_n dX12_acknowledges_11 rfl ?_
  have hh := b1_some h; clear h; obtain ⟨r4, hr4, h⟩ := hh
  refine EV_getP (ci := 12) (k := 50) dX12_acknowledges_12 fl_X12_99 rfl hr4 ?_
  refine EV_iconst (x := (5 : Int32)) dX12_acknowledges_15 (by decide) ?_
  have hh := b1_some h; clear h; obtain ⟨a5, ha5, h⟩ := hh
  subst ha5
  have hh := b1_some h; clear h; obtain ⟨x6, hx6, h⟩ := hh
  refine EV_aI (t := 0) (ty := .int) rfl (by decide) dX12_acknowledges_16 hx6 ?_
  refine EV_imul dX12_acknowledges_17 ?_
  refine EV_iadd dX12_acknowledges_18 ?_
  refine EV_istore_n (lv2 := [(1, VI ((x3 / (2 : Int32)) + ((128 : Int32) * x6))), (0, VR (some h0))]) dX12_acknowledges_19 (by decide) rfl ?_
  refine EV_aload_n dX12_acknowledges_20 rfl ?_
  have hh := b1_some h; clear h; obtain ⟨x7, hx7, h⟩ := hh
  refine EV_getI (ci := 12) (k := 37) dX12_acknowledges_21 fl_X12_200 rfl hx7 ?_
  refine EV_aload_n dX12_acknowledges_24 rfl ?_
  have hh := b1_some h; clear h; obtain ⟨x8, hx8, h⟩ := hh
  refine EV_getI (ci := 12) (k := 28) dX12_acknowledges_25 fl_X12_206 rfl hx8 ?_
  refine EV_isub dX12_acknowledges_28 ?_
  refine EV_ldc (x := (32768 : Int32)) dX12_acknowledges_29 tw_1155 ?_
  refine EV_irem dX12_acknowledges_31 (by decide) ?_
  refine EV_istore_n (lv2 := [(2, VI ((x7 - x8) - (x7 - x8) / (32768 : Int32) * (32768 : Int32))), (1, VI ((x3 / (2 : Int32)) + ((128 : Int32) * x6))), (0, VR (some h0))]) dX12_acknowledges_32 (by decide) rfl ?_
  refine EV_iload_n dX12_acknowledges_33 rfl ?_
  refine EV_iload_n dX12_acknowledges_34 rfl ?_
  refine EV_isub dX12_acknowledges_35 ?_
  refine EV_ldc (x := (32768 : Int32)) dX12_acknowledges_36 tw_1155 ?_
  refine EV_iadd dX12_acknowledges_38 ?_
  refine EV_ldc (x := (32768 : Int32)) dX12_acknowledges_39 tw_1155 ?_
  refine EV_irem dX12_acknowledges_41 (by decide) ?_
  refine EV_istore_n (lv2 := [(3, VI (((((x3 / (2 : Int32)) + ((128 : Int32) * x6)) - ((x7 - x8) - (x7 - x8) / (32768 : Int32) * (32768 : Int32))) + (32768 : Int32)) - ((((x3 / (2 : Int32)) + ((128 : Int32) * x6)) - ((x7 - x8) - (x7 - x8) / (32768 : Int32) * (32768 : Int32))) + (32768 : Int32)) / (32768 : Int32) * (32768 : Int32))), (2, VI ((x7 - x8) - (x7 - x8) / (32768 : Int32) * (32768 : Int32))), (1, VI ((x3 / (2 : Int32)) + ((128 : Int32) * x6))), (0, VR (some h0))]) dX12_acknowledges_42 (by decide) rfl ?_
  refine EV_iload_n dX12_acknowledges_43 rfl ?_
  refine EV_aload_n dX12_acknowledges_44 rfl ?_
  have hh := b1_some h; clear h; obtain ⟨x9, hx9, h⟩ := hh
  refine EV_getI (ci := 12) (k := 28) dX12_acknowledges_45 fl_X12_206 rfl hx9 ?_
  refine EV_icmp_le (tgt := 58) dX12_acknowledges_48 (by decide) (fun c10 => ?_) (fun c10 => ?_)
  · rw [if_pos c10] at h
    refine EV_iload_n dX12_acknowledges_58 rfl ?_
    refine EV_istore (lv2 := [(4, VI (((((x3 / (2 : Int32)) + ((128 : Int32) * x6)) - ((x7 - x8) - (x7 - x8) / (32768 : Int32) * (32768 : Int32))) + (32768 : Int32)) - ((((x3 / (2 : Int32)) + ((128 : Int32) * x6)) - ((x7 - x8) - (x7 - x8) / (32768 : Int32) * (32768 : Int32))) + (32768 : Int32)) / (32768 : Int32) * (32768 : Int32))), (3, VI (((((x3 / (2 : Int32)) + ((128 : Int32) * x6)) - ((x7 - x8) - (x7 - x8) / (32768 : Int32) * (32768 : Int32))) + (32768 : Int32)) - ((((x3 / (2 : Int32)) + ((128 : Int32) * x6)) - ((x7 - x8) - (x7 - x8) / (32768 : Int32) * (32768 : Int32))) + (32768 : Int32)) / (32768 : Int32) * (32768 : Int32))), (2, VI ((x7 - x8) - (x7 - x8) / (32768 : Int32) * (32768 : Int32))), (1, VI ((x3 / (2 : Int32)) + ((128 : Int32) * x6))), (0, VR (some h0))]) dX12_acknowledges_59 (by decide) rfl ?_
    exact EV_pick [4, 1, 0] rfl (zX12_acknowledges_61 E _ h)
  · rw [if_neg c10] at h
    refine EV_aload_n dX12_acknowledges_51 rfl ?_
    refine EV_iconst (x := (3 : Int32)) dX12_acknowledges_52 (by decide) ?_
    have hh := b1_some h; clear h; obtain ⟨u14, hu14, h⟩ := hh
    have hh := b1_some h; clear h; obtain ⟨s11, hs11, h⟩ := hh
    refine EV_callV (Y := YX12_closes) (as := [VI (3 : Int32)]) (st := []) (st2 := []) (a := h0) (ci := 12) (r := rX12) (n := 1) dX12_acknowledges_53 (zX12_closes E hs11) rfl cwX12_closes rfl tw_1168 tw_1170 tw_40 rfl (e_if hu14).1.1 (e_if hu14).1.2 ⟨by decide, by decide⟩ (Nat.le_of_ble_eq_true rfl) rfl ?_
    refine EV_iconst (x := (0 : Int32)) dX12_acknowledges_56 (by decide) ?_
    have hh := b1_some h; clear h; obtain ⟨u13, hu13, h⟩ := hh
    cases h
    exact EV_ret ⟨dX12_acknowledges_57, .boolean, rfl, o_Z_n hu13⟩ rfl
def mX12_at (h0 : Nat) (pi1 : Int32) (s0 : eS) : Option (Int32 × eS) :=
  (b1 (g_P s0 112 50 h0) fun r1 => (b1 r1 fun a2 => (b1 (a_I s0 0 a2 ((6 : Int32) + pi1)) fun x3 => (some (x3, s0)))))
set_option maxRecDepth 100000 in
set_option maxHeartbeats 4000000 in
theorem zX12_at (E : eE) {h0 : Nat} {pi1 : Int32} {s0 s9 : eS} {y : Int32} (h : mX12_at h0 pi1 s0 = some (y, s9)) : EM E YX12_at [VR (some h0), VI pi1] s0 (some (VI y)) s9 := by
  refine EM_of (M := MX12_at) (own := RX12) (ini := false) rfl (by decide +kernel) rfl (fun z => nomatch z) (Nat.le_of_ble_eq_true rfl) ?_
  unfold mX12_at at h
  refine EV_aload_n dX12_at_0 rfl ?_
  have hh := b1_some h; clear h; obtain ⟨r1, hr1, h⟩ := hh
  refine EV_getP (ci := 12) (k := 50) dX12_at_1 fl_X12_99 rfl hr1 ?_
  refine EV_bipush (x := (6 : Int32)) dX12_at_4 (by decide) ?_
  refine EV_iload_n dX12_at_6 rfl ?_
  refine EV_iadd dX12_at_7 ?_
  have hh := b1_some h; clear h; obtain ⟨a2, ha2, h⟩ := hh
  subst ha2
  have hh := b1_some h; clear h; obtain ⟨x3, hx3, h⟩ := hh
  refine EV_aI (t := 0) (ty := .int) rfl (by decide) dX12_at_8 hx3 ?_
  cases h
  exact EV_ret ⟨dX12_at_9, .int, rfl, rfl⟩ rfl
def mX12_isOrder_23 (pt0 : Int32) (s0 : eS) : Option (Int32 × eS) :=
  (b1 (o_Z pt0) fun u1 => some (pt0, s0))
set_option maxRecDepth 100000 in
set_option maxHeartbeats 4000000 in
theorem zX12_isOrder_23 (E : eE) {pt0 : Int32} {s0 s9 : eS} {y : Int32} (h : mX12_isOrder_23 pt0 s0 = some (y, s9)) : EV E MX12_isOrder 23 [] [VI pt0] s0 (some (VI y)) s9 := by
  unfold mX12_isOrder_23 at h
  have hh := b1_some h; clear h; obtain ⟨u1, hu1, h⟩ := hh
  cases h
  exact EV_ret ⟨dX12_isOrder_23, .boolean, rfl, o_Z_n hu1⟩ rfl
def mX12_isOrder_18 (s0 : eS) : Option (Int32 × eS) :=
  (mX12_isOrder_23 (1 : Int32) s0)
set_option maxRecDepth 100000 in
set_option maxHeartbeats 4000000 in
theorem zX12_isOrder_18 (E : eE) {s0 s9 : eS} {y : Int32} (h : mX12_isOrder_18 s0 = some (y, s9)) : EV E MX12_isOrder 18 [] [] s0 (some (VI y)) s9 := by
  unfold mX12_isOrder_18 at h
  refine EV_iconst (x := (1 : Int32)) dX12_isOrder_18 (by decide) ?_
  refine EV_goto (tgt := 23) dX12_isOrder_19 (by decide) ?_
  exact EV_pick [] rfl (zX12_isOrder_23 E h)
def mX12_isOrder (pi0 : Int32) (s0 : eS) : Option (Int32 × eS) :=
  (if pi0 = (45 : Int32) then (mX12_isOrder_18 s0) else (if pi0 = (46 : Int32) then (mX12_isOrder_18 s0) else (if pi0 = (49 : Int32) then (mX12_isOrder_18 s0) else (mX12_isOrder_23 (0 : Int32) s0))))
set_option maxRecDepth 100000 in
set_option maxHeartbeats 4000000 in
theorem zX12_isOrder (E : eE) {pi0 : Int32} {s0 s9 : eS} {y : Int32} (h : mX12_isOrder pi0 s0 = some (y, s9)) : EM E YX12_isOrder [VI pi0] s0 (some (VI y)) s9 := by
  refine EM_of (M := MX12_isOrder) (own := RX12) (ini := false) rfl (by decide +kernel) rfl (fun z => nomatch z) (Nat.le_of_ble_eq_true rfl) ?_
  unfold mX12_isOrder at h
  refine EV_iload_n dX12_isOrder_0 rfl ?_
  refine EV_bipush (x := (45 : Int32)) dX12_isOrder_1 (by decide) ?_
  refine EV_icmp_eq (tgt := 18) dX12_isOrder_3 (by decide) (fun c1 => ?_) (fun c1 => ?_)
  · rw [if_pos c1] at h
    exact EV_pick [] rfl (zX12_isOrder_18 E h)
  · rw [if_neg c1] at h
    refine EV_iload_n dX12_isOrder_6 rfl ?_
    refine EV_bipush (x := (46 : Int32)) dX12_isOrder_7 (by decide) ?_
    refine EV_icmp_eq (tgt := 18) dX12_isOrder_9 (by decide) (fun c2 => ?_) (fun c2 => ?_)
    · rw [if_pos c2] at h
      exact EV_pick [] rfl (zX12_isOrder_18 E h)
    · rw [if_neg c2] at h
      refine EV_iload_n dX12_isOrder_12 rfl ?_
      refine EV_bipush (x := (49 : Int32)) dX12_isOrder_13 (by decide) ?_
      refine EV_icmp_ne (tgt := 22) dX12_isOrder_15 (by decide) (fun c3 => ?_) (fun c3 => ?_)
      · rw [if_pos c3] at h
        exact EV_pick [] rfl (zX12_isOrder_18 E h)
      · rw [if_neg c3] at h
        refine EV_iconst (x := (0 : Int32)) dX12_isOrder_22 (by decide) ?_
        exact EV_pick [] rfl (zX12_isOrder_23 E h)
def mX12_waits_41 : Nat → Nat → Int32 → eS → Option (Int32 × eS)
  | 0, _, _, _ => none
  | n + 1, h0, pi1, s0 =>
  (b1 (g_I s0 112 53 h0) fun x1 => (if x1 ≤ pi1 then (b1 (g_I s0 112 45 h0) fun x3 => (b1 (p_I s0 112 45 h0 (x3 + (1 : Int32))) fun s4 => (b1 (o_Z (1 : Int32)) fun u5 => some ((1 : Int32), s4)))) else (b1 (g_P s0 112 47 h0) fun r3 => (b1 (g_I s0 112 45 h0) fun x4 => (b1 (g_P s0 112 52 h0) fun r5 => (b1 r5 fun a6 => (b1 (a_I s0 0 a6 pi1) fun x7 => (b1 r3 fun a8 => (b1 (s_I s0 0 a8 (((249 : Int32) * x4) + pi1) x7) fun s9 => (mX12_waits_41 n h0 (pi1 + (1 : Int32)) s9))))))))))
set_option maxRecDepth 100000 in
set_option maxHeartbeats 4000000 in
theorem zX12_waits_41 (E : eE) : ∀ (n : Nat) {h0 : Nat} {pi1 : Int32} {s0 s9 : eS} {y : Int32}, mX12_waits_41 n h0 pi1 s0 = some (y, s9) → EV E MX12_waits 41 [(0, VR (some h0)), (1, VI pi1)] [] s0 (some (VI y)) s9 := by
  intro n
  induction n with
  | zero =>
    intro h0 pi1 s0 s9 y h
    unfold mX12_waits_41 at h
    cases h
  | succ n ih =>
    intro h0 pi1 s0 s9 y h
    unfold mX12_waits_41 at h
    refine EV_iload_n dX12_waits_41 rfl ?_
    refine EV_aload_n dX12_waits_42 rfl ?_
    have hh := b1_some h; clear h; obtain ⟨x1, hx1, h⟩ := hh
    refine EV_getI (ci := 12) (k := 53) dX12_waits_43 fl_X12_203 rfl hx1 ?_
    refine EV_icmp_ge (tgt := 76) dX12_waits_46 (by decide) (fun c2 => ?_) (fun c2 => ?_)
    · rw [if_pos c2] at h
      refine EV_aload_n dX12_waits_76 rfl ?_
      refine EV_dup dX12_waits_77 rfl ?_
      have hh := b1_some h; clear h; obtain ⟨x3, hx3, h⟩ := hh
      refine EV_getI (ci := 12) (k := 45) dX12_waits_78 fl_X12_222 rfl hx3 ?_
      refine EV_iconst (x := (1 : Int32)) dX12_waits_81 (by decide) ?_
      refine EV_iadd dX12_waits_82 ?_
      have hh := b1_some h; clear h; obtain ⟨s4, hs4, h⟩ := hh
      refine EV_putI (ci := 12) (k := 45) dX12_waits_83 fp_X12_222 rfl hs4 ?_
      refine EV_iconst (x := (1 : Int32)) dX12_waits_86 (by decide) ?_
      have hh := b1_some h; clear h; obtain ⟨u5, hu5, h⟩ := hh
      cases h
      exact EV_ret ⟨dX12_waits_87, .boolean, rfl, o_Z_n hu5⟩ rfl
    · rw [if_neg c2] at h
      refine EV_aload_n dX12_waits_49 rfl ?_
      have hh := b1_some h; clear h; obtain ⟨r3, hr3, h⟩ := hh
      refine EV_getP (ci := 12) (k := 47) dX12_waits_50 fl_X12_93 rfl hr3 ?_
      refine EV_sipush (x := (249 : Int32)) dX12_waits_53 (by decide) ?_
      refine EV_aload_n dX12_waits_56 rfl ?_
      have hh := b1_some h; clear h; obtain ⟨x4, hx4, h⟩ := hh
      refine EV_getI (ci := 12) (k := 45) dX12_waits_57 fl_X12_222 rfl hx4 ?_
      refine EV_imul dX12_waits_60 ?_
      refine EV_iload_n dX12_waits_61 rfl ?_
      refine EV_iadd dX12_waits_62 ?_
      refine EV_aload_n dX12_waits_63 rfl ?_
      have hh := b1_some h; clear h; obtain ⟨r5, hr5, h⟩ := hh
      refine EV_getP (ci := 12) (k := 52) dX12_waits_64 fl_X12_102 rfl hr5 ?_
      refine EV_iload_n dX12_waits_67 rfl ?_
      have hh := b1_some h; clear h; obtain ⟨a6, ha6, h⟩ := hh
      subst ha6
      have hh := b1_some h; clear h; obtain ⟨x7, hx7, h⟩ := hh
      refine EV_aI (t := 0) (ty := .int) rfl (by decide) dX12_waits_68 hx7 ?_
      have hh := b1_some h; clear h; obtain ⟨a8, ha8, h⟩ := hh
      subst ha8
      have hh := b1_some h; clear h; obtain ⟨s9, hs9, h⟩ := hh
      refine EV_sI (t := 0) rfl dX12_waits_69 hs9 ?_
      refine EV_iinc (y := (1 : Int32)) (lv2 := [(1, VI (pi1 + (1 : Int32))), (0, VR (some h0))]) dX12_waits_70 rfl (by decide) (by decide) rfl ?_
      refine EV_goto (tgt := 41) dX12_waits_73 (by decide) ?_
      exact EV_pick [1, 0] rfl (ih h)
def mX12_waits (h0 : Nat) (s0 : eS) : Option (Int32 × eS) :=
  (b1 (g_I s0 112 35 h0) fun x1 => (if x1 = 0 then (b1 (o_Z (0 : Int32)) fun u3 => some ((0 : Int32), s0)) else (b1 (g_I s0 112 45 h0) fun x3 => (if x3 = (60 : Int32) then (b1 (o_K s0 112 h0) fun u8 => (b1 (mX12_closes h0 (7 : Int32) s0) fun s5 => (b1 (o_Z (0 : Int32)) fun u7 => some ((0 : Int32), s5)))) else (b1 (g_P s0 112 46 h0) fun r5 => (b1 (g_I s0 112 45 h0) fun x6 => (b1 (g_I s0 112 53 h0) fun x7 => (b1 r5 fun a8 => (b1 (s_I s0 0 a8 x6 x7) fun s9 => (mX12_waits_41 100000 h0 (0 : Int32) s9))))))))))
set_option maxRecDepth 100000 in
set_option maxHeartbeats 4000000 in
theorem zX12_waits (E : eE) {h0 : Nat} {s0 s9 : eS} {y : Int32} (h : mX12_waits h0 s0 = some (y, s9)) : EM E YX12_waits [VR (some h0)] s0 (some (VI y)) s9 := by
  refine EM_of (M := MX12_waits) (own := RX12) (ini := false) rfl (by decide +kernel) rfl (fun z => nomatch z) (Nat.le_of_ble_eq_true rfl) ?_
  unfold mX12_waits at h
  refine EV_aload_n dX12_waits_0 rfl ?_
  have hh := b1_some h; clear h; obtain ⟨x1, hx1, h⟩ := hh
  refine EV_getI (ci := 12) (k := 35) dX12_waits_1 fl_X12_125 rfl hx1 ?_
  refine EV_if_ne (tgt := 9) dX12_waits_4 (by decide) (fun c2 => ?_) (fun c2 => ?_)
  · rw [if_pos c2] at h
    refine EV_iconst (x := (0 : Int32)) dX12_waits_7 (by decide) ?_
    have hh := b1_some h; clear h; obtain ⟨u3, hu3, h⟩ := hh
    cases h
    exact EV_ret ⟨dX12_waits_8, .boolean, rfl, o_Z_n hu3⟩ rfl
  · rw [if_neg c2] at h
    refine EV_aload_n dX12_waits_9 rfl ?_
    have hh := b1_some h; clear h; obtain ⟨x3, hx3, h⟩ := hh
    refine EV_getI (ci := 12) (k := 45) dX12_waits_10 fl_X12_222 rfl hx3 ?_
    refine EV_bipush (x := (60 : Int32)) dX12_waits_13 (by decide) ?_
    refine EV_icmp_ne (tgt := 26) dX12_waits_15 (by decide) (fun c4 => ?_) (fun c4 => ?_)
    · rw [if_pos c4] at h
      refine EV_aload_n dX12_waits_18 rfl ?_
      refine EV_bipush (x := (7 : Int32)) dX12_waits_19 (by decide) ?_
      have hh := b1_some h; clear h; obtain ⟨u8, hu8, h⟩ := hh
      have hh := b1_some h; clear h; obtain ⟨s5, hs5, h⟩ := hh
      refine EV_callV (Y := YX12_closes) (as := [VI (7 : Int32)]) (st := []) (st2 := []) (a := h0) (ci := 12) (r := rX12) (n := 1) dX12_waits_21 (zX12_closes E hs5) rfl cwX12_closes rfl tw_1168 tw_1170 tw_40 rfl (e_if hu8).1.1 (e_if hu8).1.2 ⟨by decide, by decide⟩ (Nat.le_of_ble_eq_true rfl) rfl ?_
      refine EV_iconst (x := (0 : Int32)) dX12_waits_24 (by decide) ?_
      have hh := b1_some h; clear h; obtain ⟨u7, hu7, h⟩ := hh
      cases h
      exact EV_ret ⟨dX12_waits_25, .boolean, rfl, o_Z_n hu7⟩ rfl
    · rw [if_neg c4] at h
      refine EV_aload_n dX12_waits_26 rfl ?_
      have hh := b1_some h; clear h; obtain ⟨r5, hr5, h⟩ := hh
      refine EV_getP (ci := 12) (k := 46) dX12_waits_27 fl_X12_90 rfl hr5 ?_
      refine EV_aload_n dX12_waits_30 rfl ?_
      have hh := b1_some h; clear h; obtain ⟨x6, hx6, h⟩ := hh
      refine EV_getI (ci := 12) (k := 45) dX12_waits_31 fl_X12_222 rfl hx6 ?_
      refine EV_aload_n dX12_waits_34 rfl ?_
      have hh := b1_some h; clear h; obtain ⟨x7, hx7, h⟩ := hh
      refine EV_getI (ci := 12) (k := 53) dX12_waits_35 fl_X12_203 rfl hx7 ?_
      have hh := b1_some h; clear h; obtain ⟨a8, ha8, h⟩ := hh
      subst ha8
      have hh := b1_some h; clear h; obtain ⟨s9, hs9, h⟩ := hh
      refine EV_sI (t := 0) rfl dX12_waits_38 hs9 ?_
      refine EV_iconst (x := (0 : Int32)) dX12_waits_39 (by decide) ?_
      refine EV_istore_n (lv2 := [(1, VI (0 : Int32)), (0, VR (some h0))]) dX12_waits_40 (by decide) rfl ?_
      exact EV_pick [1, 0] rfl (zX12_waits_41 E _ h)
def mX12_same_55 (h0 : Nat) (pt0 : Int32) (pt1 : Int32) (pt2 : Int32) (pt3 : Option Nat) (s0 : eS) : Option eS :=
  (b1 (o_K s0 112 h0) fun u8 => (b2 (mX12_at h0 (2 : Int32) s0) fun x2 s1 => (b1 pt3 fun a3 => (b1 (s_I s1 0 a3 pt2 ((pt1 ||| pt0) ||| (x2 &&& (128 : Int32)))) fun s4 => (b1 (o_K s4 112 h0) fun u7 => (b2 (mX12_waits h0 s4) fun x6 s5 => (some s5)))))))
set_option maxRecDepth 100000 in
set_option maxHeartbeats 4000000 in
theorem zX12_same_55 (E : eE) {h0 : Nat} {pt0 : Int32} {pt1 : Int32} {pt2 : Int32} {pt3 : Option Nat} {s0 s9 : eS} (h : mX12_same_55 h0 pt0 pt1 pt2 pt3 s0 = some s9) : EV E MX12_same 55 [(0, VR (some h0))] [VI pt0, VI pt1, VI pt2, VR pt3] s0 none s9 := by
  unfold mX12_same_55 at h
  refine EV_ior dX12_same_55 ?_
  refine EV_aload_n dX12_same_56 rfl ?_
  refine EV_iconst (x := (2 : Int32)) dX12_same_57 (by decide) ?_
  have hh := b1_some h; clear h; obtain ⟨u8, hu8, h⟩ := hh
  have hh := b2_some h; clear h; obtain ⟨x2, s1, hs1, h⟩ := hh
  refine EV_callV (Y := YX12_at) (as := [VI (2 : Int32)]) (st := [VI (pt1 ||| pt0), VI pt2, VR pt3]) (st2 := [VI x2, VI (pt1 ||| pt0), VI pt2, VR pt3]) (a := h0) (ci := 12) (r := rX12) (n := 1) dX12_same_58 (zX12_at E hs1) rfl cwX12_at rfl tw_1246 tw_1248 tw_54 rfl (e_if hu8).1.1 (e_if hu8).1.2 ⟨by decide, by decide⟩ (Nat.le_of_ble_eq_true rfl) rfl ?_
  refine EV_sipush (x := (128 : Int32)) dX12_same_61 (by decide) ?_
  refine EV_iand dX12_same_64 ?_
  refine EV_ior dX12_same_65 ?_
  have hh := b1_some h; clear h; obtain ⟨a3, ha3, h⟩ := hh
  subst ha3
  have hh := b1_some h; clear h; obtain ⟨s4, hs4, h⟩ := hh
  refine EV_sI (t := 0) rfl dX12_same_66 hs4 ?_
  refine EV_aload_n dX12_same_67 rfl ?_
  have hh := b1_some h; clear h; obtain ⟨u7, hu7, h⟩ := hh
  have hh := b2_some h; clear h; obtain ⟨x6, s5, hs5, h⟩ := hh
  refine EV_callV (Y := YX12_waits) (as := []) (st := []) (st2 := [VI x6]) (a := h0) (ci := 12) (r := rX12) (n := 0) dX12_same_68 (zX12_waits E hs5) rfl cwX12_waits rfl tw_1260 tw_1262 tw_56 rfl (e_if hu7).1.1 (e_if hu7).1.2 ⟨by decide, by decide⟩ (Nat.le_of_ble_eq_true rfl) rfl ?_
  refine EV_istore_n (lv2 := [(3, VI x6), (0, VR (some h0))]) dX12_same_71 (by decide) rfl ?_
  cases h
  exact EV_ret ⟨dX12_same_72, rfl⟩ rfl
def mX12_same_14 : Nat → Nat → Int32 → Int32 → Int32 → eS → Option eS
  | 0, _, _, _, _, _ => none
  | n + 1, h0, pi1, pi2, pi3, s0 =>
  (b1 (g_I s0 112 53 h0) fun x1 => (if x1 ≤ pi3 then (b1 (g_P s0 112 52 h0) fun r3 => (if pi2 = 0 then (mX12_same_55 h0 (0 : Int32) pi1 (2 : Int32) r3 s0) else (mX12_same_55 h0 (64 : Int32) pi1 (2 : Int32) r3 s0))) else (b1 (g_P s0 112 52 h0) fun r3 => (b1 (o_K s0 112 h0) fun u8 => (b2 (mX12_at h0 pi3 s0) fun x5 s4 => (b1 r3 fun a6 => (b1 (s_I s4 0 a6 pi3 x5) fun s7 => (mX12_same_14 n h0 pi1 pi2 (pi3 + (1 : Int32)) s7))))))))
set_option maxRecDepth 100000 in
set_option maxHeartbeats 4000000 in
theorem zX12_same_14 (E : eE) : ∀ (n : Nat) {h0 : Nat} {pi1 : Int32} {pi2 : Int32} {pi3 : Int32} {s0 s9 : eS}, mX12_same_14 n h0 pi1 pi2 pi3 s0 = some s9 → EV E MX12_same 14 [(0, VR (some h0)), (1, VI pi1), (2, VI pi2), (3, VI pi3)] [] s0 none s9 := by
  intro n
  induction n with
  | zero =>
    intro h0 pi1 pi2 pi3 s0 s9 h
    unfold mX12_same_14 at h
    cases h
  | succ n ih =>
    intro h0 pi1 pi2 pi3 s0 s9 h
    unfold mX12_same_14 at h
    refine EV_iload_n dX12_same_14 rfl ?_
    refine EV_aload_n dX12_same_15 rfl ?_
    have hh := b1_some h; clear h; obtain ⟨x1, hx1, h⟩ := hh
    refine EV_getI (ci := 12) (k := 53) dX12_same_16 fl_X12_203 rfl hx1 ?_
    refine EV_icmp_ge (tgt := 39) dX12_same_19 (by decide) (fun c2 => ?_) (fun c2 => ?_)
    · rw [if_pos c2] at h
      refine EV_aload_n dX12_same_39 rfl ?_
      have hh := b1_some h; clear h; obtain ⟨r3, hr3, h⟩ := hh
      refine EV_getP (ci := 12) (k := 52) dX12_same_40 fl_X12_102 rfl hr3 ?_
      refine EV_iconst (x := (2 : Int32)) dX12_same_43 (by decide) ?_
      refine EV_iload_n dX12_same_44 rfl ?_
      refine EV_iload_n dX12_same_45 rfl ?_
      refine EV_if_eq (tgt := 54) dX12_same_46 (by decide) (fun c4 => ?_) (fun c4 => ?_)
      · rw [if_pos c4] at h
        refine EV_iconst (x := (0 : Int32)) dX12_same_54 (by decide) ?_
        exact EV_pick [0] rfl (zX12_same_55 E h)
      · rw [if_neg c4] at h
        refine EV_bipush (x := (64 : Int32)) dX12_same_49 (by decide) ?_
        refine EV_goto (tgt := 55) dX12_same_51 (by decide) ?_
        exact EV_pick [0] rfl (zX12_same_55 E h)
    · rw [if_neg c2] at h
      refine EV_aload_n dX12_same_22 rfl ?_
      have hh := b1_some h; clear h; obtain ⟨r3, hr3, h⟩ := hh
      refine EV_getP (ci := 12) (k := 52) dX12_same_23 fl_X12_102 rfl hr3 ?_
      refine EV_iload_n dX12_same_26 rfl ?_
      refine EV_aload_n dX12_same_27 rfl ?_
      refine EV_iload_n dX12_same_28 rfl ?_
      have hh := b1_some h; clear h; obtain ⟨u8, hu8, h⟩ := hh
      have hh := b2_some h; clear h; obtain ⟨x5, s4, hs4, h⟩ := hh
      refine EV_callV (Y := YX12_at) (as := [VI pi3]) (st := [VI pi3, VR r3]) (st2 := [VI x5, VI pi3, VR r3]) (a := h0) (ci := 12) (r := rX12) (n := 1) dX12_same_29 (zX12_at E hs4) rfl cwX12_at rfl tw_1246 tw_1248 tw_54 rfl (e_if hu8).1.1 (e_if hu8).1.2 ⟨by decide, by decide⟩ (Nat.le_of_ble_eq_true rfl) rfl ?_
      have hh := b1_some h; clear h; obtain ⟨a6, ha6, h⟩ := hh
      subst ha6
      have hh := b1_some h; clear h; obtain ⟨s7, hs7, h⟩ := hh
      refine EV_sI (t := 0) rfl dX12_same_32 hs7 ?_
      refine EV_iinc (y := (1 : Int32)) (lv2 := [(3, VI (pi3 + (1 : Int32))), (0, VR (some h0)), (1, VI pi1), (2, VI pi2)]) dX12_same_33 rfl (by decide) (by decide) rfl ?_
      refine EV_goto (tgt := 14) dX12_same_36 (by decide) ?_
      exact EV_pick [1, 2, 3, 0] rfl (ih h)
def mX12_same (h0 : Nat) (pi1 : Int32) (pi2 : Int32) (s0 : eS) : Option eS :=
  (b1 (g_P s0 112 50 h0) fun r1 => (b1 r1 fun a2 => (b1 (a_I s0 0 a2 (1 : Int32)) fun x3 => (b1 (p_I s0 112 53 h0 (x3 - (4 : Int32))) fun s4 => (mX12_same_14 100000 h0 pi1 pi2 (0 : Int32) s4)))))
set_option maxRecDepth 100000 in
set_option maxHeartbeats 4000000 in
theorem zX12_same (E : eE) {h0 : Nat} {pi1 : Int32} {pi2 : Int32} {s0 s9 : eS} (h : mX12_same h0 pi1 pi2 s0 = some s9) : EM E YX12_same [VR (some h0), VI pi1, VI pi2] s0 none s9 := by
  refine EM_of (M := MX12_same) (own := RX12) (ini := false) rfl (by decide +kernel) rfl (fun z => nomatch z) (Nat.le_of_ble_eq_true rfl) ?_
  unfold mX12_same at h
  refine EV_aload_n dX12_same_0 rfl ?_
  refine EV_aload_n dX12_same_1 rfl ?_
  have hh := b1_some h; clear h; obtain ⟨r1, hr1, h⟩ := hh
  refine EV_getP (ci := 12) (k := 50) dX12_same_2 fl_X12_99 rfl hr1 ?_
  refine EV_iconst (x := (1 : Int32)) dX12_same_5 (by decide) ?_
  have hh := b1_some h; clear h; obtain ⟨a2, ha2, h⟩ := hh
  subst ha2
  have hh := b1_some h; clear h; obtain ⟨x3, hx3, h⟩ := hh
  refine EV_aI (t := 0) (ty := .int) rfl (by decide) dX12_same_6 hx3 ?_
  refine EV_iconst (x := (4 : Int32)) dX12_same_7 (by decide) ?_
  refine EV_isub dX12_same_8 ?_
  have hh := b1_some h; clear h; obtain ⟨s4, hs4, h⟩ := hh
  refine EV_putI (ci := 12) (k := 53) dX12_same_9 fp_X12_203 rfl hs4 ?_
  refine EV_iconst (x := (0 : Int32)) dX12_same_12 (by decide) ?_
  refine EV_istore_n (lv2 := [(3, VI (0 : Int32)), (0, VR (some h0)), (1, VI pi1), (2, VI pi2)]) dX12_same_13 (by decide) rfl ?_
  exact EV_pick [1, 2, 3, 0] rfl (zX12_same_14 E _ h)
def mX12_lengthOf_64 (pt0 : Int32) (s0 : eS) : Option (Int32 × eS) :=
  (some (pt0, s0))
set_option maxRecDepth 100000 in
set_option maxHeartbeats 4000000 in
theorem zX12_lengthOf_64 (E : eE) {pt0 : Int32} {s0 s9 : eS} {y : Int32} (h : mX12_lengthOf_64 pt0 s0 = some (y, s9)) : EV E MX12_lengthOf 64 [] [VI pt0] s0 (some (VI y)) s9 := by
  unfold mX12_lengthOf_64 at h
  cases h
  exact EV_ret ⟨dX12_lengthOf_64, .int, rfl, rfl⟩ rfl
def mX12_lengthOf_24 (s0 : eS) : Option (Int32 × eS) :=
  (mX12_lengthOf_64 (10 : Int32) s0)
set_option maxRecDepth 100000 in
set_option maxHeartbeats 4000000 in
theorem zX12_lengthOf_24 (E : eE) {s0 s9 : eS} {y : Int32} (h : mX12_lengthOf_24 s0 = some (y, s9)) : EV E MX12_lengthOf 24 [] [] s0 (some (VI y)) s9 := by
  unfold mX12_lengthOf_24 at h
  refine EV_bipush (x := (10 : Int32)) dX12_lengthOf_24 (by decide) ?_
  refine EV_goto (tgt := 64) dX12_lengthOf_26 (by decide) ?_
  exact EV_pick [] rfl (zX12_lengthOf_64 E h)
def mX12_lengthOf (pi0 : Int32) (s0 : eS) : Option (Int32 × eS) :=
  (if pi0 = (45 : Int32) then (mX12_lengthOf_24 s0) else (if pi0 = (46 : Int32) then (mX12_lengthOf_24 s0) else (if pi0 = (100 : Int32) then (mX12_lengthOf_24 s0) else (if pi0 = (101 : Int32) then (mX12_lengthOf_24 s0) else (if pi0 = (49 : Int32) then (mX12_lengthOf_64 (12 : Int32) s0) else (if pi0 = (102 : Int32) then (mX12_lengthOf_64 (9 : Int32) s0) else (if pi0 = (103 : Int32) then (mX12_lengthOf_64 (16 : Int32) s0) else (mX12_lengthOf_64 (11 : Int32) s0))))))))
set_option maxRecDepth 100000 in
set_option maxHeartbeats 4000000 in
theorem zX12_lengthOf (E : eE) {pi0 : Int32} {s0 s9 : eS} {y : Int32} (h : mX12_lengthOf pi0 s0 = some (y, s9)) : EM E YX12_lengthOf [VI pi0] s0 (some (VI y)) s9 := by
  refine EM_of (M := MX12_lengthOf) (own := RX12) (ini := false) rfl (by decide +kernel) rfl (fun z => nomatch z) (Nat.le_of_ble_eq_true rfl) ?_
  unfold mX12_lengthOf at h
  refine EV_iload_n dX12_lengthOf_0 rfl ?_
  refine EV_bipush (x := (45 : Int32)) dX12_lengthOf_1 (by decide) ?_
  refine EV_icmp_eq (tgt := 24) dX12_lengthOf_3 (by decide) (fun c1 => ?_) (fun c1 => ?_)
  · rw [if_pos c1] at h
    exact EV_pick [] rfl (zX12_lengthOf_24 E h)
  · rw [if_neg c1] at h
    refine EV_iload_n dX12_lengthOf_6 rfl ?_
    refine EV_bipush (x := (46 : Int32)) dX12_lengthOf_7 (by decide) ?_
    refine EV_icmp_eq (tgt := 24) dX12_lengthOf_9 (by decide) (fun c2 => ?_) (fun c2 => ?_)
    · rw [if_pos c2] at h
      exact EV_pick [] rfl (zX12_lengthOf_24 E h)
    · rw [if_neg c2] at h
      refine EV_iload_n dX12_lengthOf_12 rfl ?_
      refine EV_bipush (x := (100 : Int32)) dX12_lengthOf_13 (by decide) ?_
      refine EV_icmp_eq (tgt := 24) dX12_lengthOf_15 (by decide) (fun c3 => ?_) (fun c3 => ?_)
      · rw [if_pos c3] at h
        exact EV_pick [] rfl (zX12_lengthOf_24 E h)
      · rw [if_neg c3] at h
        refine EV_iload_n dX12_lengthOf_18 rfl ?_
        refine EV_bipush (x := (101 : Int32)) dX12_lengthOf_19 (by decide) ?_
        refine EV_icmp_ne (tgt := 29) dX12_lengthOf_21 (by decide) (fun c4 => ?_) (fun c4 => ?_)
        · rw [if_pos c4] at h
          exact EV_pick [] rfl (zX12_lengthOf_24 E h)
        · rw [if_neg c4] at h
          refine EV_iload_n dX12_lengthOf_29 rfl ?_
          refine EV_bipush (x := (49 : Int32)) dX12_lengthOf_30 (by decide) ?_
          refine EV_icmp_ne (tgt := 40) dX12_lengthOf_32 (by decide) (fun c5 => ?_) (fun c5 => ?_)
          · rw [if_pos c5] at h
            refine EV_bipush (x := (12 : Int32)) dX12_lengthOf_35 (by decide) ?_
            refine EV_goto (tgt := 64) dX12_lengthOf_37 (by decide) ?_
            exact EV_pick [] rfl (zX12_lengthOf_64 E h)
          · rw [if_neg c5] at h
            refine EV_iload_n dX12_lengthOf_40 rfl ?_
            refine EV_bipush (x := (102 : Int32)) dX12_lengthOf_41 (by decide) ?_
            refine EV_icmp_ne (tgt := 51) dX12_lengthOf_43 (by decide) (fun c6 => ?_) (fun c6 => ?_)
            · rw [if_pos c6] at h
              refine EV_bipush (x := (9 : Int32)) dX12_lengthOf_46 (by decide) ?_
              refine EV_goto (tgt := 64) dX12_lengthOf_48 (by decide) ?_
              exact EV_pick [] rfl (zX12_lengthOf_64 E h)
            · rw [if_neg c6] at h
              refine EV_iload_n dX12_lengthOf_51 rfl ?_
              refine EV_bipush (x := (103 : Int32)) dX12_lengthOf_52 (by decide) ?_
              refine EV_icmp_ne (tgt := 62) dX12_lengthOf_54 (by decide) (fun c7 => ?_) (fun c7 => ?_)
              · rw [if_pos c7] at h
                refine EV_bipush (x := (16 : Int32)) dX12_lengthOf_57 (by decide) ?_
                refine EV_goto (tgt := 64) dX12_lengthOf_59 (by decide) ?_
                exact EV_pick [] rfl (zX12_lengthOf_64 E h)
              · rw [if_neg c7] at h
                refine EV_bipush (x := (11 : Int32)) dX12_lengthOf_62 (by decide) ?_
                exact EV_pick [] rfl (zX12_lengthOf_64 E h)
def mX12_isTest_17 (pt0 : Int32) (s0 : eS) : Option (Int32 × eS) :=
  (b1 (o_Z pt0) fun u1 => some (pt0, s0))
set_option maxRecDepth 100000 in
set_option maxHeartbeats 4000000 in
theorem zX12_isTest_17 (E : eE) {pt0 : Int32} {s0 s9 : eS} {y : Int32} (h : mX12_isTest_17 pt0 s0 = some (y, s9)) : EV E MX12_isTest 17 [] [VI pt0] s0 (some (VI y)) s9 := by
  unfold mX12_isTest_17 at h
  have hh := b1_some h; clear h; obtain ⟨u1, hu1, h⟩ := hh
  cases h
  exact EV_ret ⟨dX12_isTest_17, .boolean, rfl, o_Z_n hu1⟩ rfl
def mX12_isTest (h0 : Nat) (s0 : eS) : Option (Int32 × eS) :=
  (b1 (o_K s0 112 h0) fun u4 => (b2 (mX12_at h0 (2 : Int32) s0) fun x2 s1 => (if (x2 &&& (128 : Int32)) = 0 then (mX12_isTest_17 (0 : Int32) s1) else (mX12_isTest_17 (1 : Int32) s1))))
set_option maxRecDepth 100000 in
set_option maxHeartbeats 4000000 in
theorem zX12_isTest (E : eE) {h0 : Nat} {s0 s9 : eS} {y : Int32} (h : mX12_isTest h0 s0 = some (y, s9)) : EM E YX12_isTest [VR (some h0)] s0 (some (VI y)) s9 := by
  refine EM_of (M := MX12_isTest) (own := RX12) (ini := false) rfl (by decide +kernel) rfl (fun z => nomatch z) (Nat.le_of_ble_eq_true rfl) ?_
  unfold mX12_isTest at h
  refine EV_aload_n dX12_isTest_0 rfl ?_
  refine EV_iconst (x := (2 : Int32)) dX12_isTest_1 (by decide) ?_
  have hh := b1_some h; clear h; obtain ⟨u4, hu4, h⟩ := hh
  have hh := b2_some h; clear h; obtain ⟨x2, s1, hs1, h⟩ := hh
  refine EV_callV (Y := YX12_at) (as := [VI (2 : Int32)]) (st := []) (st2 := [VI x2]) (a := h0) (ci := 12) (r := rX12) (n := 1) dX12_isTest_2 (zX12_at E hs1) rfl cwX12_at rfl tw_1246 tw_1248 tw_54 rfl (e_if hu4).1.1 (e_if hu4).1.2 ⟨by decide, by decide⟩ (Nat.le_of_ble_eq_true rfl) rfl ?_
  refine EV_sipush (x := (128 : Int32)) dX12_isTest_5 (by decide) ?_
  refine EV_iand dX12_isTest_8 ?_
  refine EV_if_eq (tgt := 16) dX12_isTest_9 (by decide) (fun c3 => ?_) (fun c3 => ?_)
  · rw [if_pos c3] at h
    refine EV_iconst (x := (0 : Int32)) dX12_isTest_16 (by decide) ?_
    exact EV_pick [] rfl (zX12_isTest_17 E h)
  · rw [if_neg c3] at h
    refine EV_iconst (x := (1 : Int32)) dX12_isTest_12 (by decide) ?_
    refine EV_goto (tgt := 17) dX12_isTest_13 (by decide) ?_
    exact EV_pick [] rfl (zX12_isTest_17 E h)
def mX12_keepBytes_37 (k3 : Nat → Int32 → Int32 → eS → Option eS) (h0 : Nat) (pi1 : Int32) (pi2 : Int32) (pt0 : Int32) (pt1 : Int32) (pt2 : Option Nat) (s0 : eS) : Option eS :=
  (b1 pt2 fun a1 => (b1 (s_I s0 0 a1 pt1 pt0) fun s2 => (k3 h0 pi1 (pi2 + (1 : Int32)) s2)))
set_option maxRecDepth 100000 in
set_option maxHeartbeats 4000000 in
theorem zX12_keepBytes_37 (E : eE) {k3 : Nat → Int32 → Int32 → eS → Option eS} (hk3 : ∀ {h0 : Nat} {pi1 : Int32} {pi2 : Int32} {s0 s9 : eS}, k3 h0 pi1 pi2 s0 = some s9 → EV E MX12_keepBytes 3 [(0, VR (some h0)), (1, VI pi1), (2, VI pi2)] [] s0 none s9) {h0 : Nat} {pi1 : Int32} {pi2 : Int32} {pt0 : Int32} {pt1 : Int32} {pt2 : Option Nat} {s0 s9 : eS} (h : mX12_keepBytes_37 k3 h0 pi1 pi2 pt0 pt1 pt2 s0 = some s9) : EV E MX12_keepBytes 37 [(0, VR (some h0)), (1, VI pi1), (2, VI pi2)] [VI pt0, VI pt1, VR pt2] s0 none s9 := by
  unfold mX12_keepBytes_37 at h
  have hh := b1_some h; clear h; obtain ⟨a1, ha1, h⟩ := hh
  subst ha1
  have hh := b1_some h; clear h; obtain ⟨s2, hs2, h⟩ := hh
  refine EV_sI (t := 0) rfl dX12_keepBytes_37 hs2 ?_
  refine EV_iinc (y := (1 : Int32)) (lv2 := [(2, VI (pi2 + (1 : Int32))), (0, VR (some h0)), (1, VI pi1)]) dX12_keepBytes_38 rfl (by decide) (by decide) rfl ?_
  refine EV_goto (tgt := 3) dX12_keepBytes_41 (by decide) ?_
  exact EV_pick [1, 2, 0] rfl (hk3 h)
def mX12_keepBytes_3 : Nat → Nat → Int32 → Int32 → eS → Option eS
  | 0, _, _, _, _ => none
  | n + 1, h0, pi1, pi2, s0 =>
  (if pi1 < pi2 then (some s0) else (b1 (g_P s0 112 18 h0) fun r2 => (if pi2 = pi1 then (b1 (o_K s0 112 h0) fun u6 => (b2 (mX12_at h0 pi2 s0) fun x5 s4 => (mX12_keepBytes_37 (mX12_keepBytes_3 n) h0 pi1 pi2 (x5 &&& (127 : Int32)) (pi2 - (9 : Int32)) r2 s4))) else (b1 (o_K s0 112 h0) fun u6 => (b2 (mX12_at h0 pi2 s0) fun x5 s4 => (mX12_keepBytes_37 (mX12_keepBytes_3 n) h0 pi1 pi2 x5 (pi2 - (9 : Int32)) r2 s4))))))
set_option maxRecDepth 100000 in
set_option maxHeartbeats 4000000 in
theorem zX12_keepBytes_3 (E : eE) : ∀ (n : Nat) {h0 : Nat} {pi1 : Int32} {pi2 : Int32} {s0 s9 : eS}, mX12_keepBytes_3 n h0 pi1 pi2 s0 = some s9 → EV E MX12_keepBytes 3 [(0, VR (some h0)), (1, VI pi1), (2, VI pi2)] [] s0 none s9 := by
  intro n
  induction n with
  | zero =>
    intro h0 pi1 pi2 s0 s9 h
    unfold mX12_keepBytes_3 at h
    cases h
  | succ n ih =>
    intro h0 pi1 pi2 s0 s9 h
    unfold mX12_keepBytes_3 at h
    refine EV_iload_n dX12_keepBytes_3 rfl ?_
    refine EV_iload_n dX12_keepBytes_4 rfl ?_
    refine EV_icmp_gt (tgt := 44) dX12_keepBytes_5 (by decide) (fun c1 => ?_) (fun c1 => ?_)
    · rw [if_pos c1] at h
      cases h
      exact EV_ret ⟨dX12_keepBytes_44, rfl⟩ rfl
    · rw [if_neg c1] at h
      refine EV_aload_n dX12_keepBytes_8 rfl ?_
      have hh := b1_some h; clear h; obtain ⟨r2, hr2, h⟩ := hh
      refine EV_getP (ci := 12) (k := 18) dX12_keepBytes_9 fl_X12_54 rfl hr2 ?_
      refine EV_iload_n dX12_keepBytes_12 rfl ?_
      refine EV_bipush (x := (9 : Int32)) dX12_keepBytes_13 (by decide) ?_
      refine EV_isub dX12_keepBytes_15 ?_
      refine EV_iload_n dX12_keepBytes_16 rfl ?_
      refine EV_iload_n dX12_keepBytes_17 rfl ?_
      refine EV_icmp_ne (tgt := 32) dX12_keepBytes_18 (by decide) (fun c3 => ?_) (fun c3 => ?_)
      · rw [if_pos c3] at h
        refine EV_aload_n dX12_keepBytes_21 rfl ?_
        refine EV_iload_n dX12_keepBytes_22 rfl ?_
        have hh := b1_some h; clear h; obtain ⟨u6, hu6, h⟩ := hh
        have hh := b2_some h; clear h; obtain ⟨x5, s4, hs4, h⟩ := hh
        refine EV_callV (Y := YX12_at) (as := [VI pi2]) (st := [VI (pi2 - (9 : Int32)), VR r2]) (st2 := [VI x5, VI (pi2 - (9 : Int32)), VR r2]) (a := h0) (ci := 12) (r := rX12) (n := 1) dX12_keepBytes_23 (zX12_at E hs4) rfl cwX12_at rfl tw_1246 tw_1248 tw_54 rfl (e_if hu6).1.1 (e_if hu6).1.2 ⟨by decide, by decide⟩ (Nat.le_of_ble_eq_true rfl) rfl ?_
        refine EV_bipush (x := (127 : Int32)) dX12_keepBytes_26 (by decide) ?_
        refine EV_iand dX12_keepBytes_28 ?_
        refine EV_goto (tgt := 37) dX12_keepBytes_29 (by decide) ?_
        exact EV_pick [0, 1, 2] rfl (zX12_keepBytes_37 E (@ih) h)
      · rw [if_neg c3] at h
        refine EV_aload_n dX12_keepBytes_32 rfl ?_
        refine EV_iload_n dX12_keepBytes_33 rfl ?_
        have hh := b1_some h; clear h; obtain ⟨u6, hu6, h⟩ := hh
        have hh := b2_some h; clear h; obtain ⟨x5, s4, hs4, h⟩ := hh
        refine EV_callV (Y := YX12_at) (as := [VI pi2]) (st := [VI (pi2 - (9 : Int32)), VR r2]) (st2 := [VI x5, VI (pi2 - (9 : Int32)), VR r2]) (a := h0) (ci := 12) (r := rX12) (n := 1) dX12_keepBytes_34 (zX12_at E hs4) rfl cwX12_at rfl tw_1246 tw_1248 tw_54 rfl (e_if hu6).1.1 (e_if hu6).1.2 ⟨by decide, by decide⟩ (Nat.le_of_ble_eq_true rfl) rfl ?_
        exact EV_pick [0, 1, 2] rfl (zX12_keepBytes_37 E (@ih) h)
def mX12_keepBytes (h0 : Nat) (pi1 : Int32) (s0 : eS) : Option eS :=
  (mX12_keepBytes_3 100000 h0 pi1 (9 : Int32) s0)
set_option maxRecDepth 100000 in
set_option maxHeartbeats 4000000 in
theorem zX12_keepBytes (E : eE) {h0 : Nat} {pi1 : Int32} {s0 s9 : eS} (h : mX12_keepBytes h0 pi1 s0 = some s9) : EM E YX12_keepBytes [VR (some h0), VI pi1] s0 none s9 := by
  refine EM_of (M := MX12_keepBytes) (own := RX12) (ini := false) rfl (by decide +kernel) rfl (fun z => nomatch z) (Nat.le_of_ble_eq_true rfl) ?_
  unfold mX12_keepBytes at h
  refine EV_bipush (x := (9 : Int32)) dX12_keepBytes_0 (by decide) ?_
  refine EV_istore_n (lv2 := [(2, VI (9 : Int32)), (0, VR (some h0)), (1, VI pi1)]) dX12_keepBytes_2 (by decide) rfl ?_
  exact EV_pick [1, 2, 0] rfl (zX12_keepBytes_3 E _ h)
def mX12_areBytes_52 (k5 : Nat → Int32 → Int32 → Int32 → eS → Option (Int32 × eS)) (h0 : Nat) (pi1 : Int32) (pi3 : Int32) (pt0 : Int32) (s0 : eS) : Option (Int32 × eS) :=
  (k5 h0 pi1 pt0 (pi3 + (1 : Int32)) s0)
set_option maxRecDepth 100000 in
set_option maxHeartbeats 4000000 in
theorem zX12_areBytes_52 (E : eE) {k5 : Nat → Int32 → Int32 → Int32 → eS → Option (Int32 × eS)} (hk5 : ∀ {h0 : Nat} {pi1 : Int32} {pi2 : Int32} {pi3 : Int32} {s0 s9 : eS} {y : Int32}, k5 h0 pi1 pi2 pi3 s0 = some (y, s9) → EV E MX12_areBytes 5 [(0, VR (some h0)), (1, VI pi1), (2, VI pi2), (3, VI pi3)] [] s0 (some (VI y)) s9) {h0 : Nat} {pi1 : Int32} {pi3 : Int32} {pt0 : Int32} {s0 s9 : eS} {y : Int32} (h : mX12_areBytes_52 k5 h0 pi1 pi3 pt0 s0 = some (y, s9)) : EV E MX12_areBytes 52 [(0, VR (some h0)), (1, VI pi1), (3, VI pi3)] [VI pt0] s0 (some (VI y)) s9 := by
  unfold mX12_areBytes_52 at h
  refine EV_istore_n (lv2 := [(2, VI pt0), (0, VR (some h0)), (1, VI pi1), (3, VI pi3)]) dX12_areBytes_52 (by decide) rfl ?_
  refine EV_iinc (y := (1 : Int32)) (lv2 := [(3, VI (pi3 + (1 : Int32))), (2, VI pt0), (0, VR (some h0)), (1, VI pi1)]) dX12_areBytes_53 rfl (by decide) (by decide) rfl ?_
  refine EV_goto (tgt := 5) dX12_areBytes_56 (by decide) ?_
  exact EV_pick [2, 3, 1, 0] rfl (hk5 h)
def mX12_areBytes_51 (k5 : Nat → Int32 → Int32 → Int32 → eS → Option (Int32 × eS)) (h0 : Nat) (pi1 : Int32) (pi3 : Int32) (s0 : eS) : Option (Int32 × eS) :=
  (mX12_areBytes_52 k5 h0 pi1 pi3 (0 : Int32) s0)
set_option maxRecDepth 100000 in
set_option maxHeartbeats 4000000 in
theorem zX12_areBytes_51 (E : eE) {k5 : Nat → Int32 → Int32 → Int32 → eS → Option (Int32 × eS)} (hk5 : ∀ {h0 : Nat} {pi1 : Int32} {pi2 : Int32} {pi3 : Int32} {s0 s9 : eS} {y : Int32}, k5 h0 pi1 pi2 pi3 s0 = some (y, s9) → EV E MX12_areBytes 5 [(0, VR (some h0)), (1, VI pi1), (2, VI pi2), (3, VI pi3)] [] s0 (some (VI y)) s9) {h0 : Nat} {pi1 : Int32} {pi3 : Int32} {s0 s9 : eS} {y : Int32} (h : mX12_areBytes_51 k5 h0 pi1 pi3 s0 = some (y, s9)) : EV E MX12_areBytes 51 [(0, VR (some h0)), (1, VI pi1), (3, VI pi3)] [] s0 (some (VI y)) s9 := by
  unfold mX12_areBytes_51 at h
  refine EV_iconst (x := (0 : Int32)) dX12_areBytes_51 (by decide) ?_
  exact EV_pick [0, 1, 2] rfl (zX12_areBytes_52 E hk5 h)
def mX12_areBytes_44 (k5 : Nat → Int32 → Int32 → Int32 → eS → Option (Int32 × eS)) (h0 : Nat) (pi1 : Int32) (pi3 : Int32) (pt0 : Int32) (pt1 : Int32) (s0 : eS) : Option (Int32 × eS) :=
  (if pt1 = pt0 then (mX12_areBytes_52 k5 h0 pi1 pi3 (1 : Int32) s0) else (mX12_areBytes_51 k5 h0 pi1 pi3 s0))
set_option maxRecDepth 100000 in
set_option maxHeartbeats 4000000 in
theorem zX12_areBytes_44 (E : eE) {k5 : Nat → Int32 → Int32 → Int32 → eS → Option (Int32 × eS)} (hk5 : ∀ {h0 : Nat} {pi1 : Int32} {pi2 : Int32} {pi3 : Int32} {s0 s9 : eS} {y : Int32}, k5 h0 pi1 pi2 pi3 s0 = some (y, s9) → EV E MX12_areBytes 5 [(0, VR (some h0)), (1, VI pi1), (2, VI pi2), (3, VI pi3)] [] s0 (some (VI y)) s9) {h0 : Nat} {pi1 : Int32} {pi3 : Int32} {pt0 : Int32} {pt1 : Int32} {s0 s9 : eS} {y : Int32} (h : mX12_areBytes_44 k5 h0 pi1 pi3 pt0 pt1 s0 = some (y, s9)) : EV E MX12_areBytes 44 [(0, VR (some h0)), (1, VI pi1), (3, VI pi3)] [VI pt0, VI pt1] s0 (some (VI y)) s9 := by
  unfold mX12_areBytes_44 at h
  refine EV_icmp_ne (tgt := 51) dX12_areBytes_44 (by decide) (fun c1 => ?_) (fun c1 => ?_)
  · rw [if_pos c1] at h
    refine EV_iconst (x := (1 : Int32)) dX12_areBytes_47 (by decide) ?_
    refine EV_goto (tgt := 52) dX12_areBytes_48 (by decide) ?_
    exact EV_pick [0, 1, 2] rfl (zX12_areBytes_52 E hk5 h)
  · rw [if_neg c1] at h
    exact EV_pick [0, 1, 2] rfl (zX12_areBytes_51 E hk5 h)
def mX12_areBytes_5 : Nat → Nat → Int32 → Int32 → Int32 → eS → Option (Int32 × eS)
  | 0, _, _, _, _, _ => none
  | n + 1, h0, pi1, pi2, pi3, s0 =>
  (if pi1 < pi3 then (b1 (o_Z pi2) fun u2 => some (pi2, s0)) else (if pi2 = 0 then (mX12_areBytes_51 (mX12_areBytes_5 n) h0 pi1 pi3 s0) else (b1 (g_P s0 112 18 h0) fun r3 => (b1 r3 fun a4 => (b1 (a_I s0 0 a4 (pi3 - (9 : Int32))) fun x5 => (if pi3 = pi1 then (b1 (o_K s0 112 h0) fun u9 => (b2 (mX12_at h0 pi3 s0) fun x8 s7 => (mX12_areBytes_44 (mX12_areBytes_5 n) h0 pi1 pi3 (x8 &&& (127 : Int32)) x5 s7))) else (b1 (o_K s0 112 h0) fun u9 => (b2 (mX12_at h0 pi3 s0) fun x8 s7 => (mX12_areBytes_44 (mX12_areBytes_5 n) h0 pi1 pi3 x8 x5 s7)))))))))
set_option maxRecDepth 100000 in
set_option maxHeartbeats 4000000 in
theorem zX12_areBytes_5 (E : eE) : ∀ (n : Nat) {h0 : Nat} {pi1 : Int32} {pi2 : Int32} {pi3 : Int32} {s0 s9 : eS} {y : Int32}, mX12_areBytes_5 n h0 pi1 pi2 pi3 s0 = some (y, s9) → EV E MX12_areBytes 5 [(0, VR (some h0)), (1, VI pi1), (2, VI pi2), (3, VI pi3)] [] s0 (some (VI y)) s9 := by
  intro n
  induction n with
  | zero =>
    intro h0 pi1 pi2 pi3 s0 s9 y h
    unfold mX12_areBytes_5 at h
    cases h
  | succ n ih =>
    intro h0 pi1 pi2 pi3 s0 s9 y h
    unfold mX12_areBytes_5 at h
    refine EV_iload_n dX12_areBytes_5 rfl ?_
    refine EV_iload_n dX12_areBytes_6 rfl ?_
    refine EV_icmp_gt (tgt := 59) dX12_areBytes_7 (by decide) (fun c1 => ?_) (fun c1 => ?_)
    · rw [if_pos c1] at h
      refine EV_iload_n dX12_areBytes_59 rfl ?_
      have hh := b1_some h; clear h; obtain ⟨u2, hu2, h⟩ := hh
      cases h
      exact EV_ret ⟨dX12_areBytes_60, .boolean, rfl, o_Z_n hu2⟩ rfl
    · rw [if_neg c1] at h
      refine EV_iload_n dX12_areBytes_10 rfl ?_
      refine EV_if_eq (tgt := 51) dX12_areBytes_11 (by decide) (fun c2 => ?_) (fun c2 => ?_)
      · rw [if_pos c2] at h
        exact EV_pick [0, 1, 3] rfl (zX12_areBytes_51 E (@ih) h)
      · rw [if_neg c2] at h
        refine EV_aload_n dX12_areBytes_14 rfl ?_
        have hh := b1_some h; clear h; obtain ⟨r3, hr3, h⟩ := hh
        refine EV_getP (ci := 12) (k := 18) dX12_areBytes_15 fl_X12_54 rfl hr3 ?_
        refine EV_iload_n dX12_areBytes_18 rfl ?_
        refine EV_bipush (x := (9 : Int32)) dX12_areBytes_19 (by decide) ?_
        refine EV_isub dX12_areBytes_21 ?_
        have hh := b1_some h; clear h; obtain ⟨a4, ha4, h⟩ := hh
        subst ha4
        have hh := b1_some h; clear h; obtain ⟨x5, hx5, h⟩ := hh
        refine EV_aI (t := 0) (ty := .int) rfl (by decide) dX12_areBytes_22 hx5 ?_
        refine EV_iload_n dX12_areBytes_23 rfl ?_
        refine EV_iload_n dX12_areBytes_24 rfl ?_
        refine EV_icmp_ne (tgt := 39) dX12_areBytes_25 (by decide) (fun c6 => ?_) (fun c6 => ?_)
        · rw [if_pos c6] at h
          refine EV_aload_n dX12_areBytes_28 rfl ?_
          refine EV_iload_n dX12_areBytes_29 rfl ?_
          have hh := b1_some h; clear h; obtain ⟨u9, hu9, h⟩ := hh
          have hh := b2_some h; clear h; obtain ⟨x8, s7, hs7, h⟩ := hh
          refine EV_callV (Y := YX12_at) (as := [VI pi3]) (st := [VI x5]) (st2 := [VI x8, VI x5]) (a := h0) (ci := 12) (r := rX12) (n := 1) dX12_areBytes_30 (zX12_at E hs7) rfl cwX12_at rfl tw_1246 tw_1248 tw_54 rfl (e_if hu9).1.1 (e_if hu9).1.2 ⟨by decide, by decide⟩ (Nat.le_of_ble_eq_true rfl) rfl ?_
          refine EV_bipush (x := (127 : Int32)) dX12_areBytes_33 (by decide) ?_
          refine EV_iand dX12_areBytes_35 ?_
          refine EV_goto (tgt := 44) dX12_areBytes_36 (by decide) ?_
          exact EV_pick [0, 1, 3] rfl (zX12_areBytes_44 E (@ih) h)
        · rw [if_neg c6] at h
          refine EV_aload_n dX12_areBytes_39 rfl ?_
          refine EV_iload_n dX12_areBytes_40 rfl ?_
          have hh := b1_some h; clear h; obtain ⟨u9, hu9, h⟩ := hh
          have hh := b2_some h; clear h; obtain ⟨x8, s7, hs7, h⟩ := hh
          refine EV_callV (Y := YX12_at) (as := [VI pi3]) (st := [VI x5]) (st2 := [VI x8, VI x5]) (a := h0) (ci := 12) (r := rX12) (n := 1) dX12_areBytes_41 (zX12_at E hs7) rfl cwX12_at rfl tw_1246 tw_1248 tw_54 rfl (e_if hu9).1.1 (e_if hu9).1.2 ⟨by decide, by decide⟩ (Nat.le_of_ble_eq_true rfl) rfl ?_
          exact EV_pick [0, 1, 3] rfl (zX12_areBytes_44 E (@ih) h)
def mX12_areBytes (h0 : Nat) (pi1 : Int32) (s0 : eS) : Option (Int32 × eS) :=
  (mX12_areBytes_5 100000 h0 pi1 (1 : Int32) (9 : Int32) s0)
set_option maxRecDepth 100000 in
set_option maxHeartbeats 4000000 in
theorem zX12_areBytes (E : eE) {h0 : Nat} {pi1 : Int32} {s0 s9 : eS} {y : Int32} (h : mX12_areBytes h0 pi1 s0 = some (y, s9)) : EM E YX12_areBytes [VR (some h0), VI pi1] s0 (some (VI y)) s9 := by
  refine EM_of (M := MX12_areBytes) (own := RX12) (ini := false) rfl (by decide +kernel) rfl (fun z => nomatch z) (Nat.le_of_ble_eq_true rfl) ?_
  unfold mX12_areBytes at h
  refine EV_iconst (x := (1 : Int32)) dX12_areBytes_0 (by decide) ?_
  refine EV_istore_n (lv2 := [(2, VI (1 : Int32)), (0, VR (some h0)), (1, VI pi1)]) dX12_areBytes_1 (by decide) rfl ?_
  refine EV_bipush (x := (9 : Int32)) dX12_areBytes_2 (by decide) ?_
  refine EV_istore_n (lv2 := [(3, VI (9 : Int32)), (2, VI (1 : Int32)), (0, VR (some h0)), (1, VI pi1)]) dX12_areBytes_4 (by decide) rfl ?_
  exact EV_pick [2, 3, 1, 0] rfl (zX12_areBytes_5 E _ h)
def mX12_carriesOut_151 (s0 : eS) : Option eS :=
  (some s0)
set_option maxRecDepth 100000 in
set_option maxHeartbeats 4000000 in
theorem zX12_carriesOut_151 (E : eE) {s0 s9 : eS} (h : mX12_carriesOut_151 s0 = some s9) : EV E MX12_carriesOut 151 [] [] s0 none s9 := by
  unfold mX12_carriesOut_151 at h
  cases h
  exact EV_ret ⟨dX12_carriesOut_151, rfl⟩ rfl
def mX12_carriesOut_137 (h0 : Nat) (s0 : eS) : Option eS :=
  (b1 (g_I s0 112 35 h0) fun x1 => (if x1 = 0 then (mX12_carriesOut_151 s0) else (b1 (o_K s0 112 h0) fun u5 => (b1 (mX12_same h0 (10 : Int32) (0 : Int32) s0) fun s3 => (mX12_carriesOut_151 s3)))))
set_option maxRecDepth 100000 in
set_option maxHeartbeats 4000000 in
theorem zX12_carriesOut_137 (E : eE) {h0 : Nat} {s0 s9 : eS} (h : mX12_carriesOut_137 h0 s0 = some s9) : EV E MX12_carriesOut 137 [(0, VR (some h0))] [] s0 none s9 := by
  unfold mX12_carriesOut_137 at h
  refine EV_aload_n dX12_carriesOut_137 rfl ?_
  have hh := b1_some h; clear h; obtain ⟨x1, hx1, h⟩ := hh
  refine EV_getI (ci := 12) (k := 35) dX12_carriesOut_138 fl_X12_125 rfl hx1 ?_
  refine EV_if_eq (tgt := 151) dX12_carriesOut_141 (by decide) (fun c2 => ?_) (fun c2 => ?_)
  · rw [if_pos c2] at h
    exact EV_pick [] rfl (zX12_carriesOut_151 E h)
  · rw [if_neg c2] at h
    refine EV_aload_n dX12_carriesOut_144 rfl ?_
    refine EV_bipush (x := (10 : Int32)) dX12_carriesOut_145 (by decide) ?_
    refine EV_iconst (x := (0 : Int32)) dX12_carriesOut_147 (by decide) ?_
    have hh := b1_some h; clear h; obtain ⟨u5, hu5, h⟩ := hh
    have hh := b1_some h; clear h; obtain ⟨s3, hs3, h⟩ := hh
    refine EV_callV (Y := YX12_same) (as := [VI (10 : Int32), VI (0 : Int32)]) (st := []) (st2 := []) (a := h0) (ci := 12) (r := rX12) (n := 2) dX12_carriesOut_148 (zX12_same E hs3) rfl cwX12_same rfl tw_1256 tw_1258 tw_55 rfl (e_if hu5).1.1 (e_if hu5).1.2 ⟨by decide, by decide⟩ (Nat.le_of_ble_eq_true rfl) rfl ?_
    exact EV_pick [] rfl (zX12_carriesOut_151 E h)
def mX12_carriesOut_88 (h0 : Nat) (pi4 : Int32) (pt0 : Int32) (pt1 : Int32) (pt2 : Option Nat) (s0 : eS) : Option eS :=
  (b1 pt2 fun a1 => (b1 (s_I s0 0 a1 pt1 pt0) fun s2 => (b1 (g_P s2 112 2 h0) fun r3 => (b1 r3 fun a4 => (b1 (a_I s2 0 a4 pi4) fun x5 => (b2 (mX12_typeOf x5 s2) fun x7 s6 => (b1 (o_K s6 112 h0) fun u25 => (b2 (mX12_at h0 (3 : Int32) s6) fun x9 s8 => (b1 (o_K s8 112 h0) fun u24 => (b1 (mX12_head h0 x7 (1 : Int32) (11 : Int32) x9 s8) fun s10 => (b1 (g_P s10 112 6 h0) fun r12 => (b1 r12 fun a13 => (b1 (a_I s10 0 a13 pi4) fun x14 => (b1 (g_P s10 112 7 h0) fun r15 => (b1 r15 fun a16 => (b1 (a_I s10 0 a16 pi4) fun x17 => (b1 (o_K s10 112 h0) fun u23 => (b1 (mX12_object h0 pi4 x14 x17 s10) fun s18 => (b1 (o_K s18 112 h0) fun u22 => (b2 (mX12_waits h0 s18) fun x21 s20 => (mX12_carriesOut_137 h0 s20)))))))))))))))))))))
set_option maxRecDepth 100000 in
set_option maxHeartbeats 4000000 in
theorem zX12_carriesOut_88 (E : eE) {h0 : Nat} {pi4 : Int32} {pt0 : Int32} {pt1 : Int32} {pt2 : Option Nat} {s0 s9 : eS} (h : mX12_carriesOut_88 h0 pi4 pt0 pt1 pt2 s0 = some s9) : EV E MX12_carriesOut 88 [(0, VR (some h0)), (4, VI pi4)] [VI pt0, VI pt1, VR pt2] s0 none s9 := by
  unfold mX12_carriesOut_88 at h
  have hh := b1_some h; clear h; obtain ⟨a1, ha1, h⟩ := hh
  subst ha1
  have hh := b1_some h; clear h; obtain ⟨s2, hs2, h⟩ := hh
  refine EV_sI (t := 0) rfl dX12_carriesOut_88 hs2 ?_
  refine EV_aload_n dX12_carriesOut_89 rfl ?_
  refine EV_aload_n dX12_carriesOut_90 rfl ?_
  have hh := b1_some h; clear h; obtain ⟨r3, hr3, h⟩ := hh
  refine EV_getP (ci := 12) (k := 2) dX12_carriesOut_91 fl_X12_13 rfl hr3 ?_
  refine EV_iload dX12_carriesOut_94 rfl ?_
  have hh := b1_some h; clear h; obtain ⟨a4, ha4, h⟩ := hh
  subst ha4
  have hh := b1_some h; clear h; obtain ⟨x5, hx5, h⟩ := hh
  refine EV_aI (t := 0) (ty := .int) rfl (by decide) dX12_carriesOut_96 hx5 ?_
  have hh := b2_some h; clear h; obtain ⟨x7, s6, hs6, h⟩ := hh
  refine EV_callS (Y := YX12_typeOf) (as := [VI x5]) (st := [VR (some h0)]) (st2 := [VI x7, VR (some h0)]) (n := 1) dX12_carriesOut_97 (zX12_typeOf E hs6) rfl cwX12_typeOf rfl tw_1191 tw_1192 ⟨by decide, by decide⟩ (Nat.le_of_ble_eq_true rfl) rfl ?_
  refine EV_iconst (x := (1 : Int32)) dX12_carriesOut_100 (by decide) ?_
  refine EV_bipush (x := (11 : Int32)) dX12_carriesOut_101 (by decide) ?_
  refine EV_aload_n dX12_carriesOut_103 rfl ?_
  refine EV_iconst (x := (3 : Int32)) dX12_carriesOut_104 (by decide) ?_
  have hh := b1_some h; clear h; obtain ⟨u25, hu25, h⟩ := hh
  have hh := b2_some h; clear h; obtain ⟨x9, s8, hs8, h⟩ := hh
  refine EV_callV (Y := YX12_at) (as := [VI (3 : Int32)]) (st := [VI (11 : Int32), VI (1 : Int32), VI x7, VR (some h0)]) (st2 := [VI x9, VI (11 : Int32), VI (1 : Int32), VI x7, VR (some h0)]) (a := h0) (ci := 12) (r := rX12) (n := 1) dX12_carriesOut_105 (zX12_at E hs8) rfl cwX12_at rfl tw_1246 tw_1248 tw_54 rfl (e_if hu25).1.1 (e_if hu25).1.2 ⟨by decide, by decide⟩ (Nat.le_of_ble_eq_true rfl) rfl ?_
  have hh := b1_some h; clear h; obtain ⟨u24, hu24, h⟩ := hh
  have hh := b1_some h; clear h; obtain ⟨s10, hs10, h⟩ := hh
  refine EV_callV (Y := YX12_head) (as := [VI x7, VI (1 : Int32), VI (11 : Int32), VI x9]) (st := []) (st2 := []) (a := h0) (ci := 12) (r := rX12) (n := 4) dX12_carriesOut_108 (zX12_head E hs10) rfl cwX12_head rfl tw_1194 tw_1196 tw_45 rfl (e_if hu24).1.1 (e_if hu24).1.2 ⟨by decide, by decide⟩ (Nat.le_of_ble_eq_true rfl) rfl ?_
  refine EV_aload_n dX12_carriesOut_111 rfl ?_
  refine EV_iload dX12_carriesOut_112 rfl ?_
  refine EV_aload_n dX12_carriesOut_114 rfl ?_
  have hh := b1_some h; clear h; obtain ⟨r12, hr12, h⟩ := hh
  refine EV_getP (ci := 12) (k := 6) dX12_carriesOut_115 fl_X12_26 rfl hr12 ?_
  refine EV_iload dX12_carriesOut_118 rfl ?_
  have hh := b1_some h; clear h; obtain ⟨a13, ha13, h⟩ := hh
  subst ha13
  have hh := b1_some h; clear h; obtain ⟨x14, hx14, h⟩ := hh
  refine EV_aI (t := 0) (ty := .int) rfl (by decide) dX12_carriesOut_120 hx14 ?_
  refine EV_aload_n dX12_carriesOut_121 rfl ?_
  have hh := b1_some h; clear h; obtain ⟨r15, hr15, h⟩ := hh
  refine EV_getP (ci := 12) (k := 7) dX12_carriesOut_122 fl_X12_29 rfl hr15 ?_
  refine EV_iload dX12_carriesOut_125 rfl ?_
  have hh := b1_some h; clear h; obtain ⟨a16, ha16, h⟩ := hh
  subst ha16
  have hh := b1_some h; clear h; obtain ⟨x17, hx17, h⟩ := hh
  refine EV_aI (t := 0) (ty := .int) rfl (by decide) dX12_carriesOut_127 hx17 ?_
  have hh := b1_some h; clear h; obtain ⟨u23, hu23, h⟩ := hh
  have hh := b1_some h; clear h; obtain ⟨s18, hs18, h⟩ := hh
  refine EV_callV (Y := YX12_object) (as := [VI pi4, VI x14, VI x17]) (st := []) (st2 := []) (a := h0) (ci := 12) (r := rX12) (n := 3) dX12_carriesOut_128 (zX12_object E hs18) rfl cwX12_object rfl tw_1206 tw_1208 tw_48 rfl (e_if hu23).1.1 (e_if hu23).1.2 ⟨by decide, by decide⟩ (Nat.le_of_ble_eq_true rfl) rfl ?_
  refine EV_aload_n dX12_carriesOut_131 rfl ?_
  have hh := b1_some h; clear h; obtain ⟨u22, hu22, h⟩ := hh
  have hh := b2_some h; clear h; obtain ⟨x21, s20, hs20, h⟩ := hh
  refine EV_callV (Y := YX12_waits) (as := []) (st := []) (st2 := [VI x21]) (a := h0) (ci := 12) (r := rX12) (n := 0) dX12_carriesOut_132 (zX12_waits E hs20) rfl cwX12_waits rfl tw_1260 tw_1262 tw_56 rfl (e_if hu22).1.1 (e_if hu22).1.2 ⟨by decide, by decide⟩ (Nat.le_of_ble_eq_true rfl) rfl ?_
  refine EV_istore (lv2 := [(5, VI x21), (0, VR (some h0)), (4, VI pi4)]) dX12_carriesOut_135 (by decide) rfl ?_
  exact EV_pick [1] rfl (zX12_carriesOut_137 E h)
def mX12_carriesOut (h0 : Nat) (pi1 : Int32) (pi2 : Int32) (pi3 : Int32) (s0 : eS) : Option eS :=
  (b1 (o_K s0 112 h0) fun u23 => (b2 (mX12_isTest h0 s0) fun x2 s1 => (if x2 = 0 then (b1 (g_I s1 112 35 h0) fun x4 => (if x4 = 0 then (mX12_carriesOut_137 h0 s1) else (b1 (g_P s1 112 14 h0) fun r6 => (b1 r6 fun a7 => (b1 (a_I s1 0 a7 pi1) fun x8 => (b1 (s_I s1 0 a7 pi1 (x8 + (1 : Int32))) fun s9 => (b1 (g_P s9 112 12 h0) fun r10 => (b1 r10 fun a11 => (b1 (a_I s9 0 a11 pi1) fun x12 => (if x12 = (-1 : Int32) then (mX12_carriesOut_137 h0 s9) else (b1 (g_P s9 112 6 h0) fun r14 => (if pi2 = 0 then (mX12_carriesOut_88 h0 x12 (pi3 &&& (1 : Int32)) x12 r14 s9) else (if pi2 = (1 : Int32) then (mX12_carriesOut_88 h0 x12 (pi3 &&& (3 : Int32)) x12 r14 s9) else (b1 (o_K s9 112 h0) fun u22 => (b2 (mX12_at h0 (9 : Int32) s9) fun x18 s17 => (b1 (o_K s17 112 h0) fun u21 => (b2 (mX12_at h0 (10 : Int32) s17) fun x20 s19 => (mX12_carriesOut_88 h0 x12 (((x18 + ((256 : Int32) * x20)) <<< ((16 : Int32) &&& 31)) >>> ((16 : Int32) &&& 31)) x12 r14 s19)))))))))))))))))) else (mX12_carriesOut_137 h0 s1))))
set_option maxRecDepth 100000 in
set_option maxHeartbeats 4000000 in
theorem zX12_carriesOut (E : eE) {h0 : Nat} {pi1 : Int32} {pi2 : Int32} {pi3 : Int32} {s0 s9 : eS} (h : mX12_carriesOut h0 pi1 pi2 pi3 s0 = some s9) : EM E YX12_carriesOut [VR (some h0), VI pi1, VI pi2, VI pi3] s0 none s9 := by
  refine EM_of (M := MX12_carriesOut) (own := RX12) (ini := false) rfl (by decide +kernel) rfl (fun z => nomatch z) (Nat.le_of_ble_eq_true rfl) ?_
  unfold mX12_carriesOut at h
  refine EV_aload_n dX12_carriesOut_0 rfl ?_
  have hh := b1_some h; clear h; obtain ⟨u23, hu23, h⟩ := hh
  have hh := b2_some h; clear h; obtain ⟨x2, s1, hs1, h⟩ := hh
  refine EV_callV (Y := YX12_isTest) (as := []) (st := []) (st2 := [VI x2]) (a := h0) (ci := 12) (r := rX12) (n := 0) dX12_carriesOut_1 (zX12_isTest E hs1) rfl cwX12_isTest rfl tw_1272 tw_1274 tw_58 rfl (e_if hu23).1.1 (e_if hu23).1.2 ⟨by decide, by decide⟩ (Nat.le_of_ble_eq_true rfl) rfl ?_
  refine EV_if_ne (tgt := 137) dX12_carriesOut_4 (by decide) (fun c3 => ?_) (fun c3 => ?_)
  · rw [if_pos c3] at h
    refine EV_aload_n dX12_carriesOut_7 rfl ?_
    have hh := b1_some h; clear h; obtain ⟨x4, hx4, h⟩ := hh
    refine EV_getI (ci := 12) (k := 35) dX12_carriesOut_8 fl_X12_125 rfl hx4 ?_
    refine EV_if_eq (tgt := 137) dX12_carriesOut_11 (by decide) (fun c5 => ?_) (fun c5 => ?_)
    · rw [if_pos c5] at h
      exact EV_pick [0] rfl (zX12_carriesOut_137 E h)
    · rw [if_neg c5] at h
      refine EV_aload_n dX12_carriesOut_14 rfl ?_
      have hh := b1_some h; clear h; obtain ⟨r6, hr6, h⟩ := hh
      refine EV_getP (ci := 12) (k := 14) dX12_carriesOut_15 fl_X12_47 rfl hr6 ?_
      refine EV_iload_n dX12_carriesOut_18 rfl ?_
      refine EV_dup2 dX12_carriesOut_19 rfl rfl ?_
      have hh := b1_some h; clear h; obtain ⟨a7, ha7, h⟩ := hh
      subst ha7
      have hh := b1_some h; clear h; obtain ⟨x8, hx8, h⟩ := hh
      refine EV_aI (t := 0) (ty := .int) rfl (by decide) dX12_carriesOut_20 hx8 ?_
      refine EV_iconst (x := (1 : Int32)) dX12_carriesOut_21 (by decide) ?_
      refine EV_iadd dX12_carriesOut_22 ?_
      have hh := b1_some h; clear h; obtain ⟨s9, hs9, h⟩ := hh
      refine EV_sI (t := 0) rfl dX12_carriesOut_23 hs9 ?_
      refine EV_aload_n dX12_carriesOut_24 rfl ?_
      have hh := b1_some h; clear h; obtain ⟨r10, hr10, h⟩ := hh
      refine EV_getP (ci := 12) (k := 12) dX12_carriesOut_25 fl_X12_41 rfl hr10 ?_
      refine EV_iload_n dX12_carriesOut_28 rfl ?_
      have hh := b1_some h; clear h; obtain ⟨a11, ha11, h⟩ := hh
      subst ha11
      have hh := b1_some h; clear h; obtain ⟨x12, hx12, h⟩ := hh
      refine EV_aI (t := 0) (ty := .int) rfl (by decide) dX12_carriesOut_29 hx12 ?_
      refine EV_istore (lv2 := [(4, VI x12), (0, VR (some h0)), (1, VI pi1), (2, VI pi2), (3, VI pi3)]) dX12_carriesOut_30 (by decide) rfl ?_
      refine EV_iload dX12_carriesOut_32 rfl ?_
      refine EV_iconst (x := (-1 : Int32)) dX12_carriesOut_34 (by decide) ?_
      refine EV_icmp_eq (tgt := 137) dX12_carriesOut_35 (by decide) (fun c13 => ?_) (fun c13 => ?_)
      · rw [if_pos c13] at h
        exact EV_pick [1] rfl (zX12_carriesOut_137 E h)
      · rw [if_neg c13] at h
        refine EV_aload_n dX12_carriesOut_38 rfl ?_
        have hh := b1_some h; clear h; obtain ⟨r14, hr14, h⟩ := hh
        refine EV_getP (ci := 12) (k := 6) dX12_carriesOut_39 fl_X12_26 rfl hr14 ?_
        refine EV_iload dX12_carriesOut_42 rfl ?_
        refine EV_iload_n dX12_carriesOut_44 rfl ?_
        refine EV_if_ne (tgt := 54) dX12_carriesOut_45 (by decide) (fun c15 => ?_) (fun c15 => ?_)
        · rw [if_pos c15] at h
          refine EV_iload_n dX12_carriesOut_48 rfl ?_
          refine EV_iconst (x := (1 : Int32)) dX12_carriesOut_49 (by decide) ?_
          refine EV_iand dX12_carriesOut_50 ?_
          refine EV_goto (tgt := 88) dX12_carriesOut_51 (by decide) ?_
          exact EV_pick [1, 0] rfl (zX12_carriesOut_88 E h)
        · rw [if_neg c15] at h
          refine EV_iload_n dX12_carriesOut_54 rfl ?_
          refine EV_iconst (x := (1 : Int32)) dX12_carriesOut_55 (by decide) ?_
          refine EV_icmp_ne (tgt := 65) dX12_carriesOut_56 (by decide) (fun c16 => ?_) (fun c16 => ?_)
          · rw [if_pos c16] at h
            refine EV_iload_n dX12_carriesOut_59 rfl ?_
            refine EV_iconst (x := (3 : Int32)) dX12_carriesOut_60 (by decide) ?_
            refine EV_iand dX12_carriesOut_61 ?_
            refine EV_goto (tgt := 88) dX12_carriesOut_62 (by decide) ?_
            exact EV_pick [1, 0] rfl (zX12_carriesOut_88 E h)
          · rw [if_neg c16] at h
            refine EV_aload_n dX12_carriesOut_65 rfl ?_
            refine EV_bipush (x := (9 : Int32)) dX12_carriesOut_66 (by decide) ?_
            have hh := b1_some h; clear h; obtain ⟨u22, hu22, h⟩ := hh
            have hh := b2_some h; clear h; obtain ⟨x18, s17, hs17, h⟩ := hh
            refine EV_callV (Y := YX12_at) (as := [VI (9 : Int32)]) (st := [VI x12, VR r14]) (st2 := [VI x18, VI x12, VR r14]) (a := h0) (ci := 12) (r := rX12) (n := 1) dX12_carriesOut_68 (zX12_at E hs17) rfl cwX12_at rfl tw_1246 tw_1248 tw_54 rfl (e_if hu22).1.1 (e_if hu22).1.2 ⟨by decide, by decide⟩ (Nat.le_of_ble_eq_true rfl) rfl ?_
            refine EV_sipush (x := (256 : Int32)) dX12_carriesOut_71 (by decide) ?_
            refine EV_aload_n dX12_carriesOut_74 rfl ?_
            refine EV_bipush (x := (10 : Int32)) dX12_carriesOut_75 (by decide) ?_
            have hh := b1_some h; clear h; obtain ⟨u21, hu21, h⟩ := hh
            have hh := b2_some h; clear h; obtain ⟨x20, s19, hs19, h⟩ := hh
            refine EV_callV (Y := YX12_at) (as := [VI (10 : Int32)]) (st := [VI (256 : Int32), VI x18, VI x12, VR r14]) (st2 := [VI x20, VI (256 : Int32), VI x18, VI x12, VR r14]) (a := h0) (ci := 12) (r := rX12) (n := 1) dX12_carriesOut_77 (zX12_at E hs19) rfl cwX12_at rfl tw_1246 tw_1248 tw_54 rfl (e_if hu21).1.1 (e_if hu21).1.2 ⟨by decide, by decide⟩ (Nat.le_of_ble_eq_true rfl) rfl ?_
            refine EV_imul dX12_carriesOut_80 ?_
            refine EV_iadd dX12_carriesOut_81 ?_
            refine EV_bipush (x := (16 : Int32)) dX12_carriesOut_82 (by decide) ?_
            refine EV_ishl dX12_carriesOut_84 ?_
            refine EV_bipush (x := (16 : Int32)) dX12_carriesOut_85 (by decide) ?_
            refine EV_ishr dX12_carriesOut_87 ?_
            exact EV_pick [1, 0] rfl (zX12_carriesOut_88 E h)
  · rw [if_neg c3] at h
    exact EV_pick [0] rfl (zX12_carriesOut_137 E h)
def mX12_commanded_132 (pt0 : Int32) (pt1 : Option Nat) (s0 : eS) : Option eS :=
  (b1 pt1 fun a1 => (b1 (p_I s0 112 15 a1 pt0) fun s2 => (some s2)))
set_option maxRecDepth 100000 in
set_option maxHeartbeats 4000000 in
theorem zX12_commanded_132 (E : eE) {pt0 : Int32} {pt1 : Option Nat} {s0 s9 : eS} (h : mX12_commanded_132 pt0 pt1 s0 = some s9) : EV E MX12_commanded 132 [] [VI pt0, VR pt1] s0 none s9 := by
  unfold mX12_commanded_132 at h
  have hh := b1_some h; clear h; obtain ⟨a1, ha1, h⟩ := hh
  subst ha1
  have hh := b1_some h; clear h; obtain ⟨s2, hs2, h⟩ := hh
  refine EV_putI (ci := 12) (k := 15) dX12_commanded_132 fp_X12_50 rfl hs2 ?_
  cases h
  exact EV_ret ⟨dX12_commanded_135, rfl⟩ rfl
def mX12_commanded_128 (h0 : Nat) (pt0 : Option Nat) (s0 : eS) : Option eS :=
  (b1 (g_I s0 112 15 h0) fun x1 => (mX12_commanded_132 x1 pt0 s0))
set_option maxRecDepth 100000 in
set_option maxHeartbeats 4000000 in
theorem zX12_commanded_128 (E : eE) {h0 : Nat} {pt0 : Option Nat} {s0 s9 : eS} (h : mX12_commanded_128 h0 pt0 s0 = some s9) : EV E MX12_commanded 128 [(0, VR (some h0))] [VR pt0] s0 none s9 := by
  unfold mX12_commanded_128 at h
  refine EV_aload_n dX12_commanded_128 rfl ?_
  have hh := b1_some h; clear h; obtain ⟨x1, hx1, h⟩ := hh
  refine EV_getI (ci := 12) (k := 15) dX12_commanded_129 fl_X12_50 rfl hx1 ?_
  exact EV_pick [] rfl (zX12_commanded_132 E h)
def mX12_commanded_104 (h0 : Nat) (pi4 : Int32) (pt0 : Int32) (pt1 : Int32) (pt2 : Option Nat) (s0 : eS) : Option eS :=
  (b1 pt2 fun a1 => (b1 (o_K s0 112 a1) fun u10 => (b1 (mX12_same a1 pt1 pt0 s0) fun s2 => (b1 (g_I s2 112 15 h0) fun x4 => (if x4 = pi4 then (b1 (o_K s2 112 h0) fun u9 => (b2 (mX12_isTest h0 s2) fun x7 s6 => (if x7 = 0 then (mX12_commanded_132 (-1 : Int32) (some h0) s6) else (mX12_commanded_128 h0 (some h0) s6)))) else (mX12_commanded_128 h0 (some h0) s2))))))
set_option maxRecDepth 100000 in
set_option maxHeartbeats 4000000 in
theorem zX12_commanded_104 (E : eE) {h0 : Nat} {pi4 : Int32} {pt0 : Int32} {pt1 : Int32} {pt2 : Option Nat} {s0 s9 : eS} (h : mX12_commanded_104 h0 pi4 pt0 pt1 pt2 s0 = some s9) : EV E MX12_commanded 104 [(0, VR (some h0)), (4, VI pi4)] [VI pt0, VI pt1, VR pt2] s0 none s9 := by
  unfold mX12_commanded_104 at h
  have hh := b1_some h; clear h; obtain ⟨a1, ha1, h⟩ := hh
  subst ha1
  have hh := b1_some h; clear h; obtain ⟨u10, hu10, h⟩ := hh
  have hh := b1_some h; clear h; obtain ⟨s2, hs2, h⟩ := hh
  refine EV_callV (Y := YX12_same) (as := [VI pt1, VI pt0]) (st := []) (st2 := []) (a := a1) (ci := 12) (r := rX12) (n := 2) dX12_commanded_104 (zX12_same E hs2) rfl cwX12_same rfl tw_1256 tw_1258 tw_55 rfl (e_if hu10).1.1 (e_if hu10).1.2 ⟨by decide, by decide⟩ (Nat.le_of_ble_eq_true rfl) rfl ?_
  refine EV_aload_n dX12_commanded_107 rfl ?_
  refine EV_aload_n dX12_commanded_108 rfl ?_
  have hh := b1_some h; clear h; obtain ⟨x4, hx4, h⟩ := hh
  refine EV_getI (ci := 12) (k := 15) dX12_commanded_109 fl_X12_50 rfl hx4 ?_
  refine EV_iload dX12_commanded_112 rfl ?_
  refine EV_icmp_ne (tgt := 128) dX12_commanded_114 (by decide) (fun c5 => ?_) (fun c5 => ?_)
  · rw [if_pos c5] at h
    refine EV_aload_n dX12_commanded_117 rfl ?_
    have hh := b1_some h; clear h; obtain ⟨u9, hu9, h⟩ := hh
    have hh := b2_some h; clear h; obtain ⟨x7, s6, hs6, h⟩ := hh
    refine EV_callV (Y := YX12_isTest) (as := []) (st := [VR (some h0)]) (st2 := [VI x7, VR (some h0)]) (a := h0) (ci := 12) (r := rX12) (n := 0) dX12_commanded_118 (zX12_isTest E hs6) rfl cwX12_isTest rfl tw_1272 tw_1274 tw_58 rfl (e_if hu9).1.1 (e_if hu9).1.2 ⟨by decide, by decide⟩ (Nat.le_of_ble_eq_true rfl) rfl ?_
    refine EV_if_ne (tgt := 128) dX12_commanded_121 (by decide) (fun c8 => ?_) (fun c8 => ?_)
    · rw [if_pos c8] at h
      refine EV_iconst (x := (-1 : Int32)) dX12_commanded_124 (by decide) ?_
      refine EV_goto (tgt := 132) dX12_commanded_125 (by decide) ?_
      exact EV_pick [] rfl (zX12_commanded_132 E h)
    · rw [if_neg c8] at h
      exact EV_pick [0] rfl (zX12_commanded_128 E h)
  · rw [if_neg c5] at h
    exact EV_pick [0] rfl (zX12_commanded_128 E h)
def mX12_commanded_406 (s0 : eS) : Option eS :=
  (some s0)
set_option maxRecDepth 100000 in
set_option maxHeartbeats 4000000 in
theorem zX12_commanded_406 (E : eE) {s0 s9 : eS} (h : mX12_commanded_406 s0 = some s9) : EV E MX12_commanded 406 [] [] s0 none s9 := by
  unfold mX12_commanded_406 at h
  cases h
  exact EV_ret ⟨dX12_commanded_406, rfl⟩ rfl
def mX12_commanded_388 (h0 : Nat) (pi4 : Int32) (pi5 : Int32) (pi7 : Int32) (pi8 : Int32) (pt0 : Int32) (pt1 : Int32) (pt2 : Option Nat) (s0 : eS) : Option eS :=
  (b1 pt2 fun a1 => (b1 (o_K s0 112 a1) fun u8 => (b1 (mX12_same a1 pt1 pt0 s0) fun s2 => (if pi8 = 0 then (mX12_commanded_406 s2) else (b1 (o_K s2 112 h0) fun u7 => (b1 (mX12_carriesOut h0 pi4 pi5 pi7 s2) fun s5 => (mX12_commanded_406 s5)))))))
set_option maxRecDepth 100000 in
set_option maxHeartbeats 4000000 in
theorem zX12_commanded_388 (E : eE) {h0 : Nat} {pi4 : Int32} {pi5 : Int32} {pi7 : Int32} {pi8 : Int32} {pt0 : Int32} {pt1 : Int32} {pt2 : Option Nat} {s0 s9 : eS} (h : mX12_commanded_388 h0 pi4 pi5 pi7 pi8 pt0 pt1 pt2 s0 = some s9) : EV E MX12_commanded 388 [(0, VR (some h0)), (4, VI pi4), (5, VI pi5), (7, VI pi7), (8, VI pi8)] [VI pt0, VI pt1, VR pt2] s0 none s9 := by
  unfold mX12_commanded_388 at h
  have hh := b1_some h; clear h; obtain ⟨a1, ha1, h⟩ := hh
  subst ha1
  have hh := b1_some h; clear h; obtain ⟨u8, hu8, h⟩ := hh
  have hh := b1_some h; clear h; obtain ⟨s2, hs2, h⟩ := hh
  refine EV_callV (Y := YX12_same) (as := [VI pt1, VI pt0]) (st := []) (st2 := []) (a := a1) (ci := 12) (r := rX12) (n := 2) dX12_commanded_388 (zX12_same E hs2) rfl cwX12_same rfl tw_1256 tw_1258 tw_55 rfl (e_if hu8).1.1 (e_if hu8).1.2 ⟨by decide, by decide⟩ (Nat.le_of_ble_eq_true rfl) rfl ?_
  refine EV_iload dX12_commanded_391 rfl ?_
  refine EV_if_eq (tgt := 406) dX12_commanded_393 (by decide) (fun c4 => ?_) (fun c4 => ?_)
  · rw [if_pos c4] at h
    exact EV_pick [] rfl (zX12_commanded_406 E h)
  · rw [if_neg c4] at h
    refine EV_aload_n dX12_commanded_396 rfl ?_
    refine EV_iload dX12_commanded_397 rfl ?_
    refine EV_iload dX12_commanded_399 rfl ?_
    refine EV_iload dX12_commanded_401 rfl ?_
    have hh := b1_some h; clear h; obtain ⟨u7, hu7, h⟩ := hh
    have hh := b1_some h; clear h; obtain ⟨s5, hs5, h⟩ := hh
    refine EV_callV (Y := YX12_carriesOut) (as := [VI pi4, VI pi5, VI pi7]) (st := []) (st2 := []) (a := h0) (ci := 12) (r := rX12) (n := 3) dX12_commanded_403 (zX12_carriesOut E hs5) rfl cwX12_carriesOut rfl tw_1284 tw_1286 tw_61 rfl (e_if hu7).1.1 (e_if hu7).1.2 ⟨by decide, by decide⟩ (Nat.le_of_ble_eq_true rfl) rfl ?_
    exact EV_pick [] rfl (zX12_commanded_406 E h)
def mX12_commanded_372 (h0 : Nat) (pi4 : Int32) (pi5 : Int32) (pi7 : Int32) (pi8 : Int32) (pt0 : Int32) (pt1 : Option Nat) (s0 : eS) : Option eS :=
  (b1 pt1 fun a1 => (b1 (p_I s0 112 15 a1 pt0) fun s2 => (if pi8 = 0 then (mX12_commanded_388 h0 pi4 pi5 pi7 pi8 (1 : Int32) (7 : Int32) (some h0) s2) else (mX12_commanded_388 h0 pi4 pi5 pi7 pi8 (0 : Int32) (7 : Int32) (some h0) s2))))
set_option maxRecDepth 100000 in
set_option maxHeartbeats 4000000 in
theorem zX12_commanded_372 (E : eE) {h0 : Nat} {pi4 : Int32} {pi5 : Int32} {pi7 : Int32} {pi8 : Int32} {pt0 : Int32} {pt1 : Option Nat} {s0 s9 : eS} (h : mX12_commanded_372 h0 pi4 pi5 pi7 pi8 pt0 pt1 s0 = some s9) : EV E MX12_commanded 372 [(0, VR (some h0)), (4, VI pi4), (5, VI pi5), (7, VI pi7), (8, VI pi8)] [VI pt0, VR pt1] s0 none s9 := by
  unfold mX12_commanded_372 at h
  have hh := b1_some h; clear h; obtain ⟨a1, ha1, h⟩ := hh
  subst ha1
  have hh := b1_some h; clear h; obtain ⟨s2, hs2, h⟩ := hh
  refine EV_putI (ci := 12) (k := 15) dX12_commanded_372 fp_X12_50 rfl hs2 ?_
  refine EV_aload_n dX12_commanded_375 rfl ?_
  refine EV_bipush (x := (7 : Int32)) dX12_commanded_376 (by decide) ?_
  refine EV_iload dX12_commanded_378 rfl ?_
  refine EV_if_ne (tgt := 387) dX12_commanded_380 (by decide) (fun c3 => ?_) (fun c3 => ?_)
  · rw [if_pos c3] at h
    refine EV_iconst (x := (1 : Int32)) dX12_commanded_383 (by decide) ?_
    refine EV_goto (tgt := 388) dX12_commanded_384 (by decide) ?_
    exact EV_pick [0, 1, 2, 3, 4] rfl (zX12_commanded_388 E h)
  · rw [if_neg c3] at h
    refine EV_iconst (x := (0 : Int32)) dX12_commanded_387 (by decide) ?_
    exact EV_pick [0, 1, 2, 3, 4] rfl (zX12_commanded_388 E h)
def mX12_commanded_368 (h0 : Nat) (pi4 : Int32) (pi5 : Int32) (pi7 : Int32) (pi8 : Int32) (pt0 : Option Nat) (s0 : eS) : Option eS :=
  (b1 (g_I s0 112 15 h0) fun x1 => (mX12_commanded_372 h0 pi4 pi5 pi7 pi8 x1 pt0 s0))
set_option maxRecDepth 100000 in
set_option maxHeartbeats 4000000 in
theorem zX12_commanded_368 (E : eE) {h0 : Nat} {pi4 : Int32} {pi5 : Int32} {pi7 : Int32} {pi8 : Int32} {pt0 : Option Nat} {s0 s9 : eS} (h : mX12_commanded_368 h0 pi4 pi5 pi7 pi8 pt0 s0 = some s9) : EV E MX12_commanded 368 [(0, VR (some h0)), (4, VI pi4), (5, VI pi5), (7, VI pi7), (8, VI pi8)] [VR pt0] s0 none s9 := by
  unfold mX12_commanded_368 at h
  refine EV_aload_n dX12_commanded_368 rfl ?_
  have hh := b1_some h; clear h; obtain ⟨x1, hx1, h⟩ := hh
  refine EV_getI (ci := 12) (k := 15) dX12_commanded_369 fl_X12_50 rfl hx1 ?_
  exact EV_pick [0, 1, 2, 3, 4] rfl (zX12_commanded_372 E h)
def mX12_commanded_345 (h0 : Nat) (pi4 : Int32) (pi5 : Int32) (pi7 : Int32) (pt0 : Int32) (s0 : eS) : Option eS :=
  (b1 (g_I s0 112 15 h0) fun x1 => (if x1 = pi4 then (b1 (o_K s0 112 h0) fun u6 => (b2 (mX12_isTest h0 s0) fun x4 s3 => (if x4 = 0 then (mX12_commanded_372 h0 pi4 pi5 pi7 pt0 (-1 : Int32) (some h0) s3) else (mX12_commanded_368 h0 pi4 pi5 pi7 pt0 (some h0) s3)))) else (mX12_commanded_368 h0 pi4 pi5 pi7 pt0 (some h0) s0)))
set_option maxRecDepth 100000 in
set_option maxHeartbeats 4000000 in
theorem zX12_commanded_345 (E : eE) {h0 : Nat} {pi4 : Int32} {pi5 : Int32} {pi7 : Int32} {pt0 : Int32} {s0 s9 : eS} (h : mX12_commanded_345 h0 pi4 pi5 pi7 pt0 s0 = some s9) : EV E MX12_commanded 345 [(0, VR (some h0)), (4, VI pi4), (5, VI pi5), (7, VI pi7)] [VI pt0] s0 none s9 := by
  unfold mX12_commanded_345 at h
  refine EV_istore (lv2 := [(8, VI pt0), (0, VR (some h0)), (4, VI pi4), (5, VI pi5), (7, VI pi7)]) dX12_commanded_345 (by decide) rfl ?_
  refine EV_aload_n dX12_commanded_347 rfl ?_
  refine EV_aload_n dX12_commanded_348 rfl ?_
  have hh := b1_some h; clear h; obtain ⟨x1, hx1, h⟩ := hh
  refine EV_getI (ci := 12) (k := 15) dX12_commanded_349 fl_X12_50 rfl hx1 ?_
  refine EV_iload dX12_commanded_352 rfl ?_
  refine EV_icmp_ne (tgt := 368) dX12_commanded_354 (by decide) (fun c2 => ?_) (fun c2 => ?_)
  · rw [if_pos c2] at h
    refine EV_aload_n dX12_commanded_357 rfl ?_
    have hh := b1_some h; clear h; obtain ⟨u6, hu6, h⟩ := hh
    have hh := b2_some h; clear h; obtain ⟨x4, s3, hs3, h⟩ := hh
    refine EV_callV (Y := YX12_isTest) (as := []) (st := [VR (some h0)]) (st2 := [VI x4, VR (some h0)]) (a := h0) (ci := 12) (r := rX12) (n := 0) dX12_commanded_358 (zX12_isTest E hs3) rfl cwX12_isTest rfl tw_1272 tw_1274 tw_58 rfl (e_if hu6).1.1 (e_if hu6).1.2 ⟨by decide, by decide⟩ (Nat.le_of_ble_eq_true rfl) rfl ?_
    refine EV_if_ne (tgt := 368) dX12_commanded_361 (by decide) (fun c5 => ?_) (fun c5 => ?_)
    · rw [if_pos c5] at h
      refine EV_iconst (x := (-1 : Int32)) dX12_commanded_364 (by decide) ?_
      refine EV_goto (tgt := 372) dX12_commanded_365 (by decide) ?_
      exact EV_pick [1, 2, 3, 4, 0] rfl (zX12_commanded_372 E h)
    · rw [if_neg c5] at h
      exact EV_pick [1, 2, 3, 4, 0] rfl (zX12_commanded_368 E h)
  · rw [if_neg c2] at h
    exact EV_pick [1, 2, 3, 4, 0] rfl (zX12_commanded_368 E h)
def mX12_commanded_340 (h0 : Nat) (pi4 : Int32) (pi5 : Int32) (pi7 : Int32) (s0 : eS) : Option eS :=
  (mX12_commanded_345 h0 pi4 pi5 pi7 (1 : Int32) s0)
set_option maxRecDepth 100000 in
set_option maxHeartbeats 4000000 in
theorem zX12_commanded_340 (E : eE) {h0 : Nat} {pi4 : Int32} {pi5 : Int32} {pi7 : Int32} {s0 s9 : eS} (h : mX12_commanded_340 h0 pi4 pi5 pi7 s0 = some s9) : EV E MX12_commanded 340 [(0, VR (some h0)), (4, VI pi4), (5, VI pi5), (7, VI pi7)] [] s0 none s9 := by
  unfold mX12_commanded_340 at h
  refine EV_iconst (x := (1 : Int32)) dX12_commanded_340 (by decide) ?_
  refine EV_goto (tgt := 345) dX12_commanded_341 (by decide) ?_
  exact EV_pick [0, 1, 2, 3] rfl (zX12_commanded_345 E h)
def mX12_commanded_344 (h0 : Nat) (pi4 : Int32) (pi5 : Int32) (pi7 : Int32) (s0 : eS) : Option eS :=
  (mX12_commanded_345 h0 pi4 pi5 pi7 (0 : Int32) s0)
set_option maxRecDepth 100000 in
set_option maxHeartbeats 4000000 in
theorem zX12_commanded_344 (E : eE) {h0 : Nat} {pi4 : Int32} {pi5 : Int32} {pi7 : Int32} {s0 s9 : eS} (h : mX12_commanded_344 h0 pi4 pi5 pi7 s0 = some s9) : EV E MX12_commanded 344 [(0, VR (some h0)), (4, VI pi4), (5, VI pi5), (7, VI pi7)] [] s0 none s9 := by
  unfold mX12_commanded_344 at h
  refine EV_iconst (x := (0 : Int32)) dX12_commanded_344 (by decide) ?_
  exact EV_pick [0, 1, 2, 3] rfl (zX12_commanded_345 E h)
def mX12_commanded_299 (s0 : eS) : Option eS :=
  (some s0)
set_option maxRecDepth 100000 in
set_option maxHeartbeats 4000000 in
theorem zX12_commanded_299 (E : eE) {s0 s9 : eS} (h : mX12_commanded_299 s0 = some s9) : EV E MX12_commanded 299 [] [] s0 none s9 := by
  unfold mX12_commanded_299 at h
  cases h
  exact EV_ret ⟨dX12_commanded_299, rfl⟩ rfl
def mX12_commanded_248 (h0 : Nat) (pi4 : Int32) (pi6 : Int32) (pi8 : Int32) (pt0 : Int32) (pt1 : Int32) (pt2 : Option Nat) (s0 : eS) : Option eS :=
  (b1 pt2 fun a1 => (b1 (o_K s0 112 a1) fun u21 => (b1 (mX12_same a1 pt1 pt0 s0) fun s2 => (if pi8 = 0 then (mX12_commanded_299 s2) else (b1 (o_K s2 112 h0) fun u20 => (b2 (mX12_isTest h0 s2) fun x6 s5 => (if x6 = 0 then (b1 (g_I s5 112 35 h0) fun x8 => (if x8 = 0 then (mX12_commanded_299 s5) else (b1 (p_I s5 112 15 h0 pi4) fun s10 => (b1 (g_I s10 112 20 h0) fun x11 => (b1 (p_I s10 112 16 h0 x11) fun s12 => (b1 (o_K s12 112 h0) fun u19 => (b2 (mX12_at h0 (3 : Int32) s12) fun x14 s13 => (b1 (p_I s13 112 17 h0 x14) fun s15 => (b1 (o_K s15 112 h0) fun u18 => (b1 (mX12_keepBytes h0 pi6 s15) fun s16 => (mX12_commanded_299 s16))))))))))) else (mX12_commanded_299 s5))))))))
set_option maxRecDepth 100000 in
set_option maxHeartbeats 4000000 in
theorem zX12_commanded_248 (E : eE) {h0 : Nat} {pi4 : Int32} {pi6 : Int32} {pi8 : Int32} {pt0 : Int32} {pt1 : Int32} {pt2 : Option Nat} {s0 s9 : eS} (h : mX12_commanded_248 h0 pi4 pi6 pi8 pt0 pt1 pt2 s0 = some s9) : EV E MX12_commanded 248 [(0, VR (some h0)), (4, VI pi4), (6, VI pi6), (8, VI pi8)] [VI pt0, VI pt1, VR pt2] s0 none s9 := by
  unfold mX12_commanded_248 at h
  have hh := b1_some h; clear h; obtain ⟨a1, ha1, h⟩ := hh
  subst ha1
  have hh := b1_some h; clear h; obtain ⟨u21, hu21, h⟩ := hh
  have hh := b1_some h; clear h; obtain ⟨s2, hs2, h⟩ := hh
  refine EV_callV (Y := YX12_same) (as := [VI pt1, VI pt0]) (st := []) (st2 := []) (a := a1) (ci := 12) (r := rX12) (n := 2) dX12_commanded_248 (zX12_same E hs2) rfl cwX12_same rfl tw_1256 tw_1258 tw_55 rfl (e_if hu21).1.1 (e_if hu21).1.2 ⟨by decide, by decide⟩ (Nat.le_of_ble_eq_true rfl) rfl ?_
  refine EV_iload dX12_commanded_251 rfl ?_
  refine EV_if_eq (tgt := 299) dX12_commanded_253 (by decide) (fun c4 => ?_) (fun c4 => ?_)
  · rw [if_pos c4] at h
    exact EV_pick [] rfl (zX12_commanded_299 E h)
  · rw [if_neg c4] at h
    refine EV_aload_n dX12_commanded_256 rfl ?_
    have hh := b1_some h; clear h; obtain ⟨u20, hu20, h⟩ := hh
    have hh := b2_some h; clear h; obtain ⟨x6, s5, hs5, h⟩ := hh
    refine EV_callV (Y := YX12_isTest) (as := []) (st := []) (st2 := [VI x6]) (a := h0) (ci := 12) (r := rX12) (n := 0) dX12_commanded_257 (zX12_isTest E hs5) rfl cwX12_isTest rfl tw_1272 tw_1274 tw_58 rfl (e_if hu20).1.1 (e_if hu20).1.2 ⟨by decide, by decide⟩ (Nat.le_of_ble_eq_true rfl) rfl ?_
    refine EV_if_ne (tgt := 299) dX12_commanded_260 (by decide) (fun c7 => ?_) (fun c7 => ?_)
    · rw [if_pos c7] at h
      refine EV_aload_n dX12_commanded_263 rfl ?_
      have hh := b1_some h; clear h; obtain ⟨x8, hx8, h⟩ := hh
      refine EV_getI (ci := 12) (k := 35) dX12_commanded_264 fl_X12_125 rfl hx8 ?_
      refine EV_if_eq (tgt := 299) dX12_commanded_267 (by decide) (fun c9 => ?_) (fun c9 => ?_)
      · rw [if_pos c9] at h
        exact EV_pick [] rfl (zX12_commanded_299 E h)
      · rw [if_neg c9] at h
        refine EV_aload_n dX12_commanded_270 rfl ?_
        refine EV_iload dX12_commanded_271 rfl ?_
        have hh := b1_some h; clear h; obtain ⟨s10, hs10, h⟩ := hh
        refine EV_putI (ci := 12) (k := 15) dX12_commanded_273 fp_X12_50 rfl hs10 ?_
        refine EV_aload_n dX12_commanded_276 rfl ?_
        refine EV_aload_n dX12_commanded_277 rfl ?_
        have hh := b1_some h; clear h; obtain ⟨x11, hx11, h⟩ := hh
        refine EV_getI (ci := 12) (k := 20) dX12_commanded_278 fl_X12_209 rfl hx11 ?_
        have hh := b1_some h; clear h; obtain ⟨s12, hs12, h⟩ := hh
        refine EV_putI (ci := 12) (k := 16) dX12_commanded_281 fp_X12_333 rfl hs12 ?_
        refine EV_aload_n dX12_commanded_284 rfl ?_
        refine EV_aload_n dX12_commanded_285 rfl ?_
        refine EV_iconst (x := (3 : Int32)) dX12_commanded_286 (by decide) ?_
        have hh := b1_some h; clear h; obtain ⟨u19, hu19, h⟩ := hh
        have hh := b2_some h; clear h; obtain ⟨x14, s13, hs13, h⟩ := hh
        refine EV_callV (Y := YX12_at) (as := [VI (3 : Int32)]) (st := [VR (some h0)]) (st2 := [VI x14, VR (some h0)]) (a := h0) (ci := 12) (r := rX12) (n := 1) dX12_commanded_287 (zX12_at E hs13) rfl cwX12_at rfl tw_1246 tw_1248 tw_54 rfl (e_if hu19).1.1 (e_if hu19).1.2 ⟨by decide, by decide⟩ (Nat.le_of_ble_eq_true rfl) rfl ?_
        have hh := b1_some h; clear h; obtain ⟨s15, hs15, h⟩ := hh
        refine EV_putI (ci := 12) (k := 17) dX12_commanded_290 fp_X12_336 rfl hs15 ?_
        refine EV_aload_n dX12_commanded_293 rfl ?_
        refine EV_iload dX12_commanded_294 rfl ?_
        have hh := b1_some h; clear h; obtain ⟨u18, hu18, h⟩ := hh
        have hh := b1_some h; clear h; obtain ⟨s16, hs16, h⟩ := hh
        refine EV_callV (Y := YX12_keepBytes) (as := [VI pi6]) (st := []) (st2 := []) (a := h0) (ci := 12) (r := rX12) (n := 1) dX12_commanded_296 (zX12_keepBytes E hs16) rfl cwX12_keepBytes rfl tw_1276 tw_1278 tw_59 rfl (e_if hu18).1.1 (e_if hu18).1.2 ⟨by decide, by decide⟩ (Nat.le_of_ble_eq_true rfl) rfl ?_
        exact EV_pick [] rfl (zX12_commanded_299 E h)
    · rw [if_neg c7] at h
      exact EV_pick [] rfl (zX12_commanded_299 E h)
def mX12_commanded_233 (h0 : Nat) (pi4 : Int32) (pi6 : Int32) (pt0 : Int32) (s0 : eS) : Option eS :=
  (if pt0 = 0 then (mX12_commanded_248 h0 pi4 pi6 pt0 (1 : Int32) (7 : Int32) (some h0) s0) else (mX12_commanded_248 h0 pi4 pi6 pt0 (0 : Int32) (7 : Int32) (some h0) s0))
set_option maxRecDepth 100000 in
set_option maxHeartbeats 4000000 in
theorem zX12_commanded_233 (E : eE) {h0 : Nat} {pi4 : Int32} {pi6 : Int32} {pt0 : Int32} {s0 s9 : eS} (h : mX12_commanded_233 h0 pi4 pi6 pt0 s0 = some s9) : EV E MX12_commanded 233 [(0, VR (some h0)), (4, VI pi4), (6, VI pi6)] [VI pt0] s0 none s9 := by
  unfold mX12_commanded_233 at h
  refine EV_istore (lv2 := [(8, VI pt0), (0, VR (some h0)), (4, VI pi4), (6, VI pi6)]) dX12_commanded_233 (by decide) rfl ?_
  refine EV_aload_n dX12_commanded_235 rfl ?_
  refine EV_bipush (x := (7 : Int32)) dX12_commanded_236 (by decide) ?_
  refine EV_iload dX12_commanded_238 rfl ?_
  refine EV_if_ne (tgt := 247) dX12_commanded_240 (by decide) (fun c1 => ?_) (fun c1 => ?_)
  · rw [if_pos c1] at h
    refine EV_iconst (x := (1 : Int32)) dX12_commanded_243 (by decide) ?_
    refine EV_goto (tgt := 248) dX12_commanded_244 (by decide) ?_
    exact EV_pick [1, 2, 3, 0] rfl (zX12_commanded_248 E h)
  · rw [if_neg c1] at h
    refine EV_iconst (x := (0 : Int32)) dX12_commanded_247 (by decide) ?_
    exact EV_pick [1, 2, 3, 0] rfl (zX12_commanded_248 E h)
def mX12_commanded_232 (h0 : Nat) (pi4 : Int32) (pi6 : Int32) (s0 : eS) : Option eS :=
  (mX12_commanded_233 h0 pi4 pi6 (0 : Int32) s0)
set_option maxRecDepth 100000 in
set_option maxHeartbeats 4000000 in
theorem zX12_commanded_232 (E : eE) {h0 : Nat} {pi4 : Int32} {pi6 : Int32} {s0 s9 : eS} (h : mX12_commanded_232 h0 pi4 pi6 s0 = some s9) : EV E MX12_commanded 232 [(0, VR (some h0)), (4, VI pi4), (6, VI pi6)] [] s0 none s9 := by
  unfold mX12_commanded_232 at h
  refine EV_iconst (x := (0 : Int32)) dX12_commanded_232 (by decide) ?_
  exact EV_pick [0, 1, 2] rfl (zX12_commanded_233 E h)
def mX12_commanded_201 (h0 : Nat) (pi4 : Int32) (pi5 : Int32) (pi6 : Int32) (pi7 : Int32) (s0 : eS) : Option eS :=
  (if (pi7 &&& (128 : Int32)) = 0 then (b1 (g_P s0 112 13 h0) fun r2 => (b1 r2 fun a3 => (b1 (a_I s0 2 a3 pi4) fun x4 => (if x4 = 0 then (mX12_commanded_340 h0 pi4 pi5 pi7 s0) else (b1 (g_I s0 112 15 h0) fun x6 => (if x6 = pi4 then (b1 (g_I s0 112 17 h0) fun x8 => (b1 (o_K s0 112 h0) fun u16 => (b2 (mX12_at h0 (3 : Int32) s0) fun x10 s9 => (if x8 = x10 then (b1 (o_K s9 112 h0) fun u15 => (b2 (mX12_areBytes h0 pi6 s9) fun x13 s12 => (if x13 = 0 then (mX12_commanded_344 h0 pi4 pi5 pi7 s12) else (mX12_commanded_340 h0 pi4 pi5 pi7 s12)))) else (mX12_commanded_344 h0 pi4 pi5 pi7 s9))))) else (mX12_commanded_344 h0 pi4 pi5 pi7 s0))))))) else (b1 (g_P s0 112 13 h0) fun r2 => (b1 r2 fun a3 => (b1 (a_I s0 2 a3 pi4) fun x4 => (if x4 = 0 then (mX12_commanded_232 h0 pi4 pi6 s0) else (b1 (g_I s0 112 15 h0) fun x6 => (if x6 = (-1 : Int32) then (mX12_commanded_233 h0 pi4 pi6 (1 : Int32) s0) else (mX12_commanded_232 h0 pi4 pi6 s0))))))))
set_option maxRecDepth 100000 in
set_option maxHeartbeats 4000000 in
theorem zX12_commanded_201 (E : eE) {h0 : Nat} {pi4 : Int32} {pi5 : Int32} {pi6 : Int32} {pi7 : Int32} {s0 s9 : eS} (h : mX12_commanded_201 h0 pi4 pi5 pi6 pi7 s0 = some s9) : EV E MX12_commanded 201 [(0, VR (some h0)), (4, VI pi4), (5, VI pi5), (6, VI pi6), (7, VI pi7)] [] s0 none s9 := by
  unfold mX12_commanded_201 at h
  refine EV_iload dX12_commanded_201 rfl ?_
  refine EV_sipush (x := (128 : Int32)) dX12_commanded_203 (by decide) ?_
  refine EV_iand dX12_commanded_206 ?_
  refine EV_if_eq (tgt := 300) dX12_commanded_207 (by decide) (fun c1 => ?_) (fun c1 => ?_)
  · rw [if_pos c1] at h
    refine EV_aload_n dX12_commanded_300 rfl ?_
    have hh := b1_some h; clear h; obtain ⟨r2, hr2, h⟩ := hh
    refine EV_getP (ci := 12) (k := 13) dX12_commanded_301 fl_X12_44 rfl hr2 ?_
    refine EV_iload dX12_commanded_304 rfl ?_
    have hh := b1_some h; clear h; obtain ⟨a3, ha3, h⟩ := hh
    subst ha3
    have hh := b1_some h; clear h; obtain ⟨x4, hx4, h⟩ := hh
    refine EV_aI (t := 2) (ty := .boolean) rfl (by decide) dX12_commanded_306 hx4 ?_
    refine EV_if_eq (tgt := 340) dX12_commanded_307 (by decide) (fun c5 => ?_) (fun c5 => ?_)
    · rw [if_pos c5] at h
      exact EV_pick [0, 1, 2, 4] rfl (zX12_commanded_340 E h)
    · rw [if_neg c5] at h
      refine EV_aload_n dX12_commanded_310 rfl ?_
      have hh := b1_some h; clear h; obtain ⟨x6, hx6, h⟩ := hh
      refine EV_getI (ci := 12) (k := 15) dX12_commanded_311 fl_X12_50 rfl hx6 ?_
      refine EV_iload dX12_commanded_314 rfl ?_
      refine EV_icmp_ne (tgt := 344) dX12_commanded_316 (by decide) (fun c7 => ?_) (fun c7 => ?_)
      · rw [if_pos c7] at h
        refine EV_aload_n dX12_commanded_319 rfl ?_
        have hh := b1_some h; clear h; obtain ⟨x8, hx8, h⟩ := hh
        refine EV_getI (ci := 12) (k := 17) dX12_commanded_320 fl_X12_336 rfl hx8 ?_
        refine EV_aload_n dX12_commanded_323 rfl ?_
        refine EV_iconst (x := (3 : Int32)) dX12_commanded_324 (by decide) ?_
        have hh := b1_some h; clear h; obtain ⟨u16, hu16, h⟩ := hh
        have hh := b2_some h; clear h; obtain ⟨x10, s9, hs9, h⟩ := hh
        refine EV_callV (Y := YX12_at) (as := [VI (3 : Int32)]) (st := [VI x8]) (st2 := [VI x10, VI x8]) (a := h0) (ci := 12) (r := rX12) (n := 1) dX12_commanded_325 (zX12_at E hs9) rfl cwX12_at rfl tw_1246 tw_1248 tw_54 rfl (e_if hu16).1.1 (e_if hu16).1.2 ⟨by decide, by decide⟩ (Nat.le_of_ble_eq_true rfl) rfl ?_
        refine EV_icmp_ne (tgt := 344) dX12_commanded_328 (by decide) (fun c11 => ?_) (fun c11 => ?_)
        · rw [if_pos c11] at h
          refine EV_aload_n dX12_commanded_331 rfl ?_
          refine EV_iload dX12_commanded_332 rfl ?_
          have hh := b1_some h; clear h; obtain ⟨u15, hu15, h⟩ := hh
          have hh := b2_some h; clear h; obtain ⟨x13, s12, hs12, h⟩ := hh
          refine EV_callV (Y := YX12_areBytes) (as := [VI pi6]) (st := []) (st2 := [VI x13]) (a := h0) (ci := 12) (r := rX12) (n := 1) dX12_commanded_334 (zX12_areBytes E hs12) rfl cwX12_areBytes rfl tw_1280 tw_1282 tw_60 rfl (e_if hu15).1.1 (e_if hu15).1.2 ⟨by decide, by decide⟩ (Nat.le_of_ble_eq_true rfl) rfl ?_
          refine EV_if_eq (tgt := 344) dX12_commanded_337 (by decide) (fun c14 => ?_) (fun c14 => ?_)
          · rw [if_pos c14] at h
            exact EV_pick [0, 1, 2, 4] rfl (zX12_commanded_344 E h)
          · rw [if_neg c14] at h
            exact EV_pick [0, 1, 2, 4] rfl (zX12_commanded_340 E h)
        · rw [if_neg c11] at h
          exact EV_pick [0, 1, 2, 4] rfl (zX12_commanded_344 E h)
      · rw [if_neg c7] at h
        exact EV_pick [0, 1, 2, 4] rfl (zX12_commanded_344 E h)
  · rw [if_neg c1] at h
    refine EV_aload_n dX12_commanded_210 rfl ?_
    have hh := b1_some h; clear h; obtain ⟨r2, hr2, h⟩ := hh
    refine EV_getP (ci := 12) (k := 13) dX12_commanded_211 fl_X12_44 rfl hr2 ?_
    refine EV_iload dX12_commanded_214 rfl ?_
    have hh := b1_some h; clear h; obtain ⟨a3, ha3, h⟩ := hh
    subst ha3
    have hh := b1_some h; clear h; obtain ⟨x4, hx4, h⟩ := hh
    refine EV_aI (t := 2) (ty := .boolean) rfl (by decide) dX12_commanded_216 hx4 ?_
    refine EV_if_eq (tgt := 232) dX12_commanded_217 (by decide) (fun c5 => ?_) (fun c5 => ?_)
    · rw [if_pos c5] at h
      exact EV_pick [0, 1, 3] rfl (zX12_commanded_232 E h)
    · rw [if_neg c5] at h
      refine EV_aload_n dX12_commanded_220 rfl ?_
      have hh := b1_some h; clear h; obtain ⟨x6, hx6, h⟩ := hh
      refine EV_getI (ci := 12) (k := 15) dX12_commanded_221 fl_X12_50 rfl hx6 ?_
      refine EV_iconst (x := (-1 : Int32)) dX12_commanded_224 (by decide) ?_
      refine EV_icmp_ne (tgt := 232) dX12_commanded_225 (by decide) (fun c7 => ?_) (fun c7 => ?_)
      · rw [if_pos c7] at h
        refine EV_iconst (x := (1 : Int32)) dX12_commanded_228 (by decide) ?_
        refine EV_goto (tgt := 233) dX12_commanded_229 (by decide) ?_
        exact EV_pick [0, 1, 3] rfl (zX12_commanded_233 E h)
      · rw [if_neg c7] at h
        exact EV_pick [0, 1, 3] rfl (zX12_commanded_232 E h)
def mX12_commanded_193 (h0 : Nat) (s0 : eS) : Option eS :=
  (b1 (o_K s0 112 h0) fun u3 => (b1 (mX12_same h0 (7 : Int32) (1 : Int32) s0) fun s1 => (some s1)))
set_option maxRecDepth 100000 in
set_option maxHeartbeats 4000000 in
theorem zX12_commanded_193 (E : eE) {h0 : Nat} {s0 s9 : eS} (h : mX12_commanded_193 h0 s0 = some s9) : EV E MX12_commanded 193 [(0, VR (some h0))] [] s0 none s9 := by
  unfold mX12_commanded_193 at h
  refine EV_aload_n dX12_commanded_193 rfl ?_
  refine EV_bipush (x := (7 : Int32)) dX12_commanded_194 (by decide) ?_
  refine EV_iconst (x := (1 : Int32)) dX12_commanded_196 (by decide) ?_
  have hh := b1_some h; clear h; obtain ⟨u3, hu3, h⟩ := hh
  have hh := b1_some h; clear h; obtain ⟨s1, hs1, h⟩ := hh
  refine EV_callV (Y := YX12_same) (as := [VI (7 : Int32), VI (1 : Int32)]) (st := []) (st2 := []) (a := h0) (ci := 12) (r := rX12) (n := 2) dX12_commanded_197 (zX12_same E hs1) rfl cwX12_same rfl tw_1256 tw_1258 tw_55 rfl (e_if hu3).1.1 (e_if hu3).1.2 ⟨by decide, by decide⟩ (Nat.le_of_ble_eq_true rfl) rfl ?_
  cases h
  exact EV_ret ⟨dX12_commanded_200, rfl⟩ rfl
def mX12_commanded_171 (h0 : Nat) (pi4 : Int32) (pi5 : Int32) (pi6 : Int32) (pi7 : Int32) (s0 : eS) : Option eS :=
  (if pi5 = (1 : Int32) then (if (pi7 &&& (3 : Int32)) = (1 : Int32) then (mX12_commanded_201 h0 pi4 pi5 pi6 pi7 s0) else (if (pi7 &&& (3 : Int32)) = (2 : Int32) then (mX12_commanded_201 h0 pi4 pi5 pi6 pi7 s0) else (mX12_commanded_193 h0 s0))) else (mX12_commanded_201 h0 pi4 pi5 pi6 pi7 s0))
set_option maxRecDepth 100000 in
set_option maxHeartbeats 4000000 in
theorem zX12_commanded_171 (E : eE) {h0 : Nat} {pi4 : Int32} {pi5 : Int32} {pi6 : Int32} {pi7 : Int32} {s0 s9 : eS} (h : mX12_commanded_171 h0 pi4 pi5 pi6 pi7 s0 = some s9) : EV E MX12_commanded 171 [(0, VR (some h0)), (4, VI pi4), (5, VI pi5), (6, VI pi6), (7, VI pi7)] [] s0 none s9 := by
  unfold mX12_commanded_171 at h
  refine EV_iload dX12_commanded_171 rfl ?_
  refine EV_iconst (x := (1 : Int32)) dX12_commanded_173 (by decide) ?_
  refine EV_icmp_ne (tgt := 201) dX12_commanded_174 (by decide) (fun c1 => ?_) (fun c1 => ?_)
  · rw [if_pos c1] at h
    refine EV_iload dX12_commanded_177 rfl ?_
    refine EV_iconst (x := (3 : Int32)) dX12_commanded_179 (by decide) ?_
    refine EV_iand dX12_commanded_180 ?_
    refine EV_iconst (x := (1 : Int32)) dX12_commanded_181 (by decide) ?_
    refine EV_icmp_eq (tgt := 201) dX12_commanded_182 (by decide) (fun c2 => ?_) (fun c2 => ?_)
    · rw [if_pos c2] at h
      exact EV_pick [0, 1, 2, 3, 4] rfl (zX12_commanded_201 E h)
    · rw [if_neg c2] at h
      refine EV_iload dX12_commanded_185 rfl ?_
      refine EV_iconst (x := (3 : Int32)) dX12_commanded_187 (by decide) ?_
      refine EV_iand dX12_commanded_188 ?_
      refine EV_iconst (x := (2 : Int32)) dX12_commanded_189 (by decide) ?_
      refine EV_icmp_eq (tgt := 201) dX12_commanded_190 (by decide) (fun c3 => ?_) (fun c3 => ?_)
      · rw [if_pos c3] at h
        exact EV_pick [0, 1, 2, 3, 4] rfl (zX12_commanded_201 E h)
      · rw [if_neg c3] at h
        exact EV_pick [0] rfl (zX12_commanded_193 E h)
  · rw [if_neg c1] at h
    exact EV_pick [0, 1, 2, 3, 4] rfl (zX12_commanded_201 E h)
def mX12_commanded_149 (h0 : Nat) (pi4 : Int32) (pi5 : Int32) (pt0 : Int32) (s0 : eS) : Option eS :=
  (b1 (o_K s0 112 h0) fun u5 => (b2 (mX12_at h0 pt0 s0) fun x2 s1 => (if pi5 = 0 then (if (x2 &&& (2 : Int32)) = 0 then (mX12_commanded_171 h0 pi4 pi5 pt0 x2 s1) else (mX12_commanded_193 h0 s1)) else (mX12_commanded_171 h0 pi4 pi5 pt0 x2 s1))))
set_option maxRecDepth 100000 in
set_option maxHeartbeats 4000000 in
theorem zX12_commanded_149 (E : eE) {h0 : Nat} {pi4 : Int32} {pi5 : Int32} {pt0 : Int32} {s0 s9 : eS} (h : mX12_commanded_149 h0 pi4 pi5 pt0 s0 = some s9) : EV E MX12_commanded 149 [(0, VR (some h0)), (4, VI pi4), (5, VI pi5)] [VI pt0] s0 none s9 := by
  unfold mX12_commanded_149 at h
  refine EV_istore (lv2 := [(6, VI pt0), (0, VR (some h0)), (4, VI pi4), (5, VI pi5)]) dX12_commanded_149 (by decide) rfl ?_
  refine EV_aload_n dX12_commanded_151 rfl ?_
  refine EV_iload dX12_commanded_152 rfl ?_
  have hh := b1_some h; clear h; obtain ⟨u5, hu5, h⟩ := hh
  have hh := b2_some h; clear h; obtain ⟨x2, s1, hs1, h⟩ := hh
  refine EV_callV (Y := YX12_at) (as := [VI pt0]) (st := []) (st2 := [VI x2]) (a := h0) (ci := 12) (r := rX12) (n := 1) dX12_commanded_154 (zX12_at E hs1) rfl cwX12_at rfl tw_1246 tw_1248 tw_54 rfl (e_if hu5).1.1 (e_if hu5).1.2 ⟨by decide, by decide⟩ (Nat.le_of_ble_eq_true rfl) rfl ?_
  refine EV_istore (lv2 := [(7, VI x2), (6, VI pt0), (0, VR (some h0)), (4, VI pi4), (5, VI pi5)]) dX12_commanded_157 (by decide) rfl ?_
  refine EV_iload dX12_commanded_159 rfl ?_
  refine EV_if_ne (tgt := 171) dX12_commanded_161 (by decide) (fun c3 => ?_) (fun c3 => ?_)
  · rw [if_pos c3] at h
    refine EV_iload dX12_commanded_164 rfl ?_
    refine EV_iconst (x := (2 : Int32)) dX12_commanded_166 (by decide) ?_
    refine EV_iand dX12_commanded_167 ?_
    refine EV_if_ne (tgt := 193) dX12_commanded_168 (by decide) (fun c4 => ?_) (fun c4 => ?_)
    · rw [if_pos c4] at h
      exact EV_pick [2, 3, 4, 1, 0] rfl (zX12_commanded_171 E h)
    · rw [if_neg c4] at h
      exact EV_pick [2] rfl (zX12_commanded_193 E h)
  · rw [if_neg c3] at h
    exact EV_pick [2, 3, 4, 1, 0] rfl (zX12_commanded_171 E h)
def mX12_commanded_64 (h0 : Nat) (pi2 : Int32) (pi4 : Int32) (pi5 : Int32) (s0 : eS) : Option eS :=
  (b1 (g_I s0 112 9 h0) fun x1 => (if pi4 = x1 then (b1 (o_K s0 112 h0) fun u5 => (b1 (mX12_same h0 (47 : Int32) (1 : Int32) s0) fun s3 => (some s3))) else (if pi2 = (8 : Int32) then (b1 (g_I s0 112 15 h0) fun x4 => (if x4 = pi4 then (mX12_commanded_104 h0 pi4 (0 : Int32) (9 : Int32) (some h0) s0) else (mX12_commanded_104 h0 pi4 (1 : Int32) (9 : Int32) (some h0) s0))) else (if pi5 = (2 : Int32) then (mX12_commanded_149 h0 pi4 pi5 (11 : Int32) s0) else (mX12_commanded_149 h0 pi4 pi5 (9 : Int32) s0)))))
set_option maxRecDepth 100000 in
set_option maxHeartbeats 4000000 in
theorem zX12_commanded_64 (E : eE) {h0 : Nat} {pi2 : Int32} {pi4 : Int32} {pi5 : Int32} {s0 s9 : eS} (h : mX12_commanded_64 h0 pi2 pi4 pi5 s0 = some s9) : EV E MX12_commanded 64 [(0, VR (some h0)), (2, VI pi2), (4, VI pi4), (5, VI pi5)] [] s0 none s9 := by
  unfold mX12_commanded_64 at h
  refine EV_iload dX12_commanded_64 rfl ?_
  refine EV_aload_n dX12_commanded_66 rfl ?_
  have hh := b1_some h; clear h; obtain ⟨x1, hx1, h⟩ := hh
  refine EV_getI (ci := 12) (k := 9) dX12_commanded_67 fl_X12_130 rfl hx1 ?_
  refine EV_icmp_ne (tgt := 81) dX12_commanded_70 (by decide) (fun c2 => ?_) (fun c2 => ?_)
  · rw [if_pos c2] at h
    refine EV_aload_n dX12_commanded_73 rfl ?_
    refine EV_bipush (x := (47 : Int32)) dX12_commanded_74 (by decide) ?_
    refine EV_iconst (x := (1 : Int32)) dX12_commanded_76 (by decide) ?_
    have hh := b1_some h; clear h; obtain ⟨u5, hu5, h⟩ := hh
    have hh := b1_some h; clear h; obtain ⟨s3, hs3, h⟩ := hh
    refine EV_callV (Y := YX12_same) (as := [VI (47 : Int32), VI (1 : Int32)]) (st := []) (st2 := []) (a := h0) (ci := 12) (r := rX12) (n := 2) dX12_commanded_77 (zX12_same E hs3) rfl cwX12_same rfl tw_1256 tw_1258 tw_55 rfl (e_if hu5).1.1 (e_if hu5).1.2 ⟨by decide, by decide⟩ (Nat.le_of_ble_eq_true rfl) rfl ?_
    cases h
    exact EV_ret ⟨dX12_commanded_80, rfl⟩ rfl
  · rw [if_neg c2] at h
    refine EV_iload_n dX12_commanded_81 rfl ?_
    refine EV_bipush (x := (8 : Int32)) dX12_commanded_82 (by decide) ?_
    refine EV_icmp_ne (tgt := 136) dX12_commanded_84 (by decide) (fun c3 => ?_) (fun c3 => ?_)
    · rw [if_pos c3] at h
      refine EV_aload_n dX12_commanded_87 rfl ?_
      refine EV_bipush (x := (9 : Int32)) dX12_commanded_88 (by decide) ?_
      refine EV_aload_n dX12_commanded_90 rfl ?_
      have hh := b1_some h; clear h; obtain ⟨x4, hx4, h⟩ := hh
      refine EV_getI (ci := 12) (k := 15) dX12_commanded_91 fl_X12_50 rfl hx4 ?_
      refine EV_iload dX12_commanded_94 rfl ?_
      refine EV_icmp_eq (tgt := 103) dX12_commanded_96 (by decide) (fun c5 => ?_) (fun c5 => ?_)
      · rw [if_pos c5] at h
        refine EV_iconst (x := (0 : Int32)) dX12_commanded_103 (by decide) ?_
        exact EV_pick [0, 2] rfl (zX12_commanded_104 E h)
      · rw [if_neg c5] at h
        refine EV_iconst (x := (1 : Int32)) dX12_commanded_99 (by decide) ?_
        refine EV_goto (tgt := 104) dX12_commanded_100 (by decide) ?_
        exact EV_pick [0, 2] rfl (zX12_commanded_104 E h)
    · rw [if_neg c3] at h
      refine EV_iload dX12_commanded_136 rfl ?_
      refine EV_iconst (x := (2 : Int32)) dX12_commanded_138 (by decide) ?_
      refine EV_icmp_ne (tgt := 147) dX12_commanded_139 (by decide) (fun c4 => ?_) (fun c4 => ?_)
      · rw [if_pos c4] at h
        refine EV_bipush (x := (11 : Int32)) dX12_commanded_142 (by decide) ?_
        refine EV_goto (tgt := 149) dX12_commanded_144 (by decide) ?_
        exact EV_pick [0, 2, 3] rfl (zX12_commanded_149 E h)
      · rw [if_neg c4] at h
        refine EV_bipush (x := (9 : Int32)) dX12_commanded_147 (by decide) ?_
        exact EV_pick [0, 2, 3] rfl (zX12_commanded_149 E h)
def mX12_commanded_58 (k26 : Nat → Int32 → Int32 → Int32 → Int32 → eS → Option eS) (h0 : Nat) (pi2 : Int32) (pi3 : Int32) (pi4 : Int32) (pi5 : Int32) (s0 : eS) : Option eS :=
  (k26 h0 pi2 pi3 (pi4 + (1 : Int32)) pi5 s0)
set_option maxRecDepth 100000 in
set_option maxHeartbeats 4000000 in
theorem zX12_commanded_58 (E : eE) {k26 : Nat → Int32 → Int32 → Int32 → Int32 → eS → Option eS} (hk26 : ∀ {h0 : Nat} {pi2 : Int32} {pi3 : Int32} {pi4 : Int32} {pi5 : Int32} {s0 s9 : eS}, k26 h0 pi2 pi3 pi4 pi5 s0 = some s9 → EV E MX12_commanded 26 [(0, VR (some h0)), (2, VI pi2), (3, VI pi3), (4, VI pi4), (5, VI pi5)] [] s0 none s9) {h0 : Nat} {pi2 : Int32} {pi3 : Int32} {pi4 : Int32} {pi5 : Int32} {s0 s9 : eS} (h : mX12_commanded_58 k26 h0 pi2 pi3 pi4 pi5 s0 = some s9) : EV E MX12_commanded 58 [(0, VR (some h0)), (2, VI pi2), (3, VI pi3), (4, VI pi4), (5, VI pi5)] [] s0 none s9 := by
  unfold mX12_commanded_58 at h
  refine EV_iinc (y := (1 : Int32)) (lv2 := [(4, VI (pi4 + (1 : Int32))), (0, VR (some h0)), (2, VI pi2), (3, VI pi3), (5, VI pi5)]) dX12_commanded_58 rfl (by decide) (by decide) rfl ?_
  refine EV_goto (tgt := 26) dX12_commanded_61 (by decide) ?_
  exact EV_pick [1, 2, 3, 0, 4] rfl (hk26 h)
def mX12_commanded_26 : Nat → Nat → Int32 → Int32 → Int32 → Int32 → eS → Option eS
  | 0, _, _, _, _, _, _ => none
  | n + 1, h0, pi2, pi3, pi4, pi5, s0 =>
  (b1 (g_I s0 112 9 h0) fun x1 => (if x1 ≤ pi4 then (mX12_commanded_64 h0 pi2 pi4 pi5 s0) else (b1 (g_P s0 112 11 h0) fun r3 => (b1 r3 fun a4 => (b1 (a_I s0 0 a4 pi4) fun x5 => (if x5 = pi3 then (b1 (g_P s0 112 10 h0) fun r7 => (b1 r7 fun a8 => (b1 (a_I s0 0 a8 pi4) fun x9 => (if x9 = pi5 then (mX12_commanded_64 h0 pi2 pi4 pi5 s0) else (mX12_commanded_58 (mX12_commanded_26 n) h0 pi2 pi3 pi4 pi5 s0))))) else (mX12_commanded_58 (mX12_commanded_26 n) h0 pi2 pi3 pi4 pi5 s0)))))))
set_option maxRecDepth 100000 in
set_option maxHeartbeats 4000000 in
theorem zX12_commanded_26 (E : eE) : ∀ (n : Nat) {h0 : Nat} {pi2 : Int32} {pi3 : Int32} {pi4 : Int32} {pi5 : Int32} {s0 s9 : eS}, mX12_commanded_26 n h0 pi2 pi3 pi4 pi5 s0 = some s9 → EV E MX12_commanded 26 [(0, VR (some h0)), (2, VI pi2), (3, VI pi3), (4, VI pi4), (5, VI pi5)] [] s0 none s9 := by
  intro n
  induction n with
  | zero =>
    intro h0 pi2 pi3 pi4 pi5 s0 s9 h
    unfold mX12_commanded_26 at h
    cases h
  | succ n ih =>
    intro h0 pi2 pi3 pi4 pi5 s0 s9 h
    unfold mX12_commanded_26 at h
    refine EV_iload dX12_commanded_26 rfl ?_
    refine EV_aload_n dX12_commanded_28 rfl ?_
    have hh := b1_some h; clear h; obtain ⟨x1, hx1, h⟩ := hh
    refine EV_getI (ci := 12) (k := 9) dX12_commanded_29 fl_X12_130 rfl hx1 ?_
    refine EV_icmp_ge (tgt := 64) dX12_commanded_32 (by decide) (fun c2 => ?_) (fun c2 => ?_)
    · rw [if_pos c2] at h
      exact EV_pick [0, 1, 3, 4] rfl (zX12_commanded_64 E h)
    · rw [if_neg c2] at h
      refine EV_aload_n dX12_commanded_35 rfl ?_
      have hh := b1_some h; clear h; obtain ⟨r3, hr3, h⟩ := hh
      refine EV_getP (ci := 12) (k := 11) dX12_commanded_36 fl_X12_38 rfl hr3 ?_
      refine EV_iload dX12_commanded_39 rfl ?_
      have hh := b1_some h; clear h; obtain ⟨a4, ha4, h⟩ := hh
      subst ha4
      have hh := b1_some h; clear h; obtain ⟨x5, hx5, h⟩ := hh
      refine EV_aI (t := 0) (ty := .int) rfl (by decide) dX12_commanded_41 hx5 ?_
      refine EV_iload_n dX12_commanded_42 rfl ?_
      refine EV_icmp_ne (tgt := 58) dX12_commanded_43 (by decide) (fun c6 => ?_) (fun c6 => ?_)
      · rw [if_pos c6] at h
        refine EV_aload_n dX12_commanded_46 rfl ?_
        have hh := b1_some h; clear h; obtain ⟨r7, hr7, h⟩ := hh
        refine EV_getP (ci := 12) (k := 10) dX12_commanded_47 fl_X12_35 rfl hr7 ?_
        refine EV_iload dX12_commanded_50 rfl ?_
        have hh := b1_some h; clear h; obtain ⟨a8, ha8, h⟩ := hh
        subst ha8
        have hh := b1_some h; clear h; obtain ⟨x9, hx9, h⟩ := hh
        refine EV_aI (t := 0) (ty := .int) rfl (by decide) dX12_commanded_52 hx9 ?_
        refine EV_iload dX12_commanded_53 rfl ?_
        refine EV_icmp_eq (tgt := 64) dX12_commanded_55 (by decide) (fun c10 => ?_) (fun c10 => ?_)
        · rw [if_pos c10] at h
          exact EV_pick [0, 1, 3, 4] rfl (zX12_commanded_64 E h)
        · rw [if_neg c10] at h
          exact EV_pick [0, 1, 2, 3, 4] rfl (zX12_commanded_58 E (@ih) h)
      · rw [if_neg c6] at h
        exact EV_pick [0, 1, 2, 3, 4] rfl (zX12_commanded_58 E (@ih) h)
def mX12_commanded_24 (h0 : Nat) (pi2 : Int32) (pi3 : Int32) (pi4 : Int32) (pt0 : Int32) (s0 : eS) : Option eS :=
  (mX12_commanded_26 100000 h0 pi2 pi3 pi4 pt0 s0)
set_option maxRecDepth 100000 in
set_option maxHeartbeats 4000000 in
theorem zX12_commanded_24 (E : eE) {h0 : Nat} {pi2 : Int32} {pi3 : Int32} {pi4 : Int32} {pt0 : Int32} {s0 s9 : eS} (h : mX12_commanded_24 h0 pi2 pi3 pi4 pt0 s0 = some s9) : EV E MX12_commanded 24 [(0, VR (some h0)), (2, VI pi2), (3, VI pi3), (4, VI pi4)] [VI pt0] s0 none s9 := by
  unfold mX12_commanded_24 at h
  refine EV_istore (lv2 := [(5, VI pt0), (0, VR (some h0)), (2, VI pi2), (3, VI pi3), (4, VI pi4)]) dX12_commanded_24 (by decide) rfl ?_
  exact EV_pick [1, 2, 3, 4, 0] rfl (zX12_commanded_26 E _ h)
def mX12_commanded (h0 : Nat) (pi1 : Int32) (pi2 : Int32) (pi3 : Int32) (s0 : eS) : Option eS :=
  (if pi1 = (45 : Int32) then (mX12_commanded_24 h0 pi2 pi3 (0 : Int32) (0 : Int32) s0) else (if pi1 = (46 : Int32) then (mX12_commanded_24 h0 pi2 pi3 (0 : Int32) (1 : Int32) s0) else (mX12_commanded_24 h0 pi2 pi3 (0 : Int32) (2 : Int32) s0)))
set_option maxRecDepth 100000 in
set_option maxHeartbeats 4000000 in
theorem zX12_commanded (E : eE) {h0 : Nat} {pi1 : Int32} {pi2 : Int32} {pi3 : Int32} {s0 s9 : eS} (h : mX12_commanded h0 pi1 pi2 pi3 s0 = some s9) : EM E YX12_commanded [VR (some h0), VI pi1, VI pi2, VI pi3] s0 none s9 := by
  refine EM_of (M := MX12_commanded) (own := RX12) (ini := false) rfl (by decide +kernel) rfl (fun z => nomatch z) (Nat.le_of_ble_eq_true rfl) ?_
  unfold mX12_commanded at h
  refine EV_iconst (x := (0 : Int32)) dX12_commanded_0 (by decide) ?_
  refine EV_istore (lv2 := [(4, VI (0 : Int32)), (0, VR (some h0)), (1, VI pi1), (2, VI pi2), (3, VI pi3)]) dX12_commanded_1 (by decide) rfl ?_
  refine EV_iload_n dX12_commanded_3 rfl ?_
  refine EV_bipush (x := (45 : Int32)) dX12_commanded_4 (by decide) ?_
  refine EV_icmp_ne (tgt := 13) dX12_commanded_6 (by decide) (fun c1 => ?_) (fun c1 => ?_)
  · rw [if_pos c1] at h
    refine EV_iconst (x := (0 : Int32)) dX12_commanded_9 (by decide) ?_
    refine EV_goto (tgt := 24) dX12_commanded_10 (by decide) ?_
    exact EV_pick [1, 3, 4, 0] rfl (zX12_commanded_24 E h)
  · rw [if_neg c1] at h
    refine EV_iload_n dX12_commanded_13 rfl ?_
    refine EV_bipush (x := (46 : Int32)) dX12_commanded_14 (by decide) ?_
    refine EV_icmp_ne (tgt := 23) dX12_commanded_16 (by decide) (fun c2 => ?_) (fun c2 => ?_)
    · rw [if_pos c2] at h
      refine EV_iconst (x := (1 : Int32)) dX12_commanded_19 (by decide) ?_
      refine EV_goto (tgt := 24) dX12_commanded_20 (by decide) ?_
      exact EV_pick [1, 3, 4, 0] rfl (zX12_commanded_24 E h)
    · rw [if_neg c2] at h
      refine EV_iconst (x := (2 : Int32)) dX12_commanded_23 (by decide) ?_
      exact EV_pick [1, 3, 4, 0] rfl (zX12_commanded_24 E h)
def mX12_reads_93 (s0 : eS) : Option eS :=
  (some s0)
set_option maxRecDepth 100000 in
set_option maxHeartbeats 4000000 in
theorem zX12_reads_93 (E : eE) {s0 s9 : eS} (h : mX12_reads_93 s0 = some s9) : EV E MX12_reads 93 [] [] s0 none s9 := by
  unfold mX12_reads_93 at h
  cases h
  exact EV_ret ⟨dX12_reads_93, rfl⟩ rfl
def mX12_reads_26 (h0 : Nat) (pi2 : Int32) (s0 : eS) : Option eS :=
  (b1 (g_I s0 112 1 h0) fun x1 => (if pi2 = x1 then (b1 (o_K s0 112 h0) fun u5 => (b1 (mX12_same h0 (47 : Int32) (1 : Int32) s0) fun s3 => (mX12_reads_93 s3))) else (b1 (o_K s0 112 h0) fun u29 => (b2 (mX12_isTest h0 s0) fun x4 s3 => (if x4 = 0 then (b1 (g_P s3 112 2 h0) fun r6 => (b1 r6 fun a7 => (b1 (a_I s3 0 a7 pi2) fun x8 => (b2 (mX12_typeOf x8 s3) fun x10 s9 => (b1 (o_K s9 112 h0) fun u28 => (b2 (mX12_at h0 (3 : Int32) s9) fun x12 s11 => (b1 (o_K s11 112 h0) fun u27 => (b1 (mX12_head h0 x10 (1 : Int32) (5 : Int32) x12 s11) fun s13 => (b1 (g_P s13 112 6 h0) fun r15 => (b1 r15 fun a16 => (b1 (a_I s13 0 a16 pi2) fun x17 => (b1 (g_P s13 112 7 h0) fun r18 => (b1 r18 fun a19 => (b1 (a_I s13 0 a19 pi2) fun x20 => (b1 (o_K s13 112 h0) fun u26 => (b1 (mX12_object h0 pi2 x17 x20 s13) fun s21 => (b1 (o_K s21 112 h0) fun u25 => (b2 (mX12_waits h0 s21) fun x24 s23 => (mX12_reads_93 s23))))))))))))))))))) else (mX12_reads_93 s3))))))
set_option maxRecDepth 100000 in
set_option maxHeartbeats 4000000 in
theorem zX12_reads_26 (E : eE) {h0 : Nat} {pi2 : Int32} {s0 s9 : eS} (h : mX12_reads_26 h0 pi2 s0 = some s9) : EV E MX12_reads 26 [(0, VR (some h0)), (2, VI pi2)] [] s0 none s9 := by
  unfold mX12_reads_26 at h
  refine EV_iload_n dX12_reads_26 rfl ?_
  refine EV_aload_n dX12_reads_27 rfl ?_
  have hh := b1_some h; clear h; obtain ⟨x1, hx1, h⟩ := hh
  refine EV_getI (ci := 12) (k := 1) dX12_reads_28 fl_X12_108 rfl hx1 ?_
  refine EV_icmp_ne (tgt := 44) dX12_reads_31 (by decide) (fun c2 => ?_) (fun c2 => ?_)
  · rw [if_pos c2] at h
    refine EV_aload_n dX12_reads_34 rfl ?_
    refine EV_bipush (x := (47 : Int32)) dX12_reads_35 (by decide) ?_
    refine EV_iconst (x := (1 : Int32)) dX12_reads_37 (by decide) ?_
    have hh := b1_some h; clear h; obtain ⟨u5, hu5, h⟩ := hh
    have hh := b1_some h; clear h; obtain ⟨s3, hs3, h⟩ := hh
    refine EV_callV (Y := YX12_same) (as := [VI (47 : Int32), VI (1 : Int32)]) (st := []) (st2 := []) (a := h0) (ci := 12) (r := rX12) (n := 2) dX12_reads_38 (zX12_same E hs3) rfl cwX12_same rfl tw_1256 tw_1258 tw_55 rfl (e_if hu5).1.1 (e_if hu5).1.2 ⟨by decide, by decide⟩ (Nat.le_of_ble_eq_true rfl) rfl ?_
    refine EV_goto (tgt := 93) dX12_reads_41 (by decide) ?_
    exact EV_pick [] rfl (zX12_reads_93 E h)
  · rw [if_neg c2] at h
    refine EV_aload_n dX12_reads_44 rfl ?_
    have hh := b1_some h; clear h; obtain ⟨u29, hu29, h⟩ := hh
    have hh := b2_some h; clear h; obtain ⟨x4, s3, hs3, h⟩ := hh
    refine EV_callV (Y := YX12_isTest) (as := []) (st := []) (st2 := [VI x4]) (a := h0) (ci := 12) (r := rX12) (n := 0) dX12_reads_45 (zX12_isTest E hs3) rfl cwX12_isTest rfl tw_1272 tw_1274 tw_58 rfl (e_if hu29).1.1 (e_if hu29).1.2 ⟨by decide, by decide⟩ (Nat.le_of_ble_eq_true rfl) rfl ?_
    refine EV_if_ne (tgt := 93) dX12_reads_48 (by decide) (fun c5 => ?_) (fun c5 => ?_)
    · rw [if_pos c5] at h
      refine EV_aload_n dX12_reads_51 rfl ?_
      refine EV_aload_n dX12_reads_52 rfl ?_
      have hh := b1_some h; clear h; obtain ⟨r6, hr6, h⟩ := hh
      refine EV_getP (ci := 12) (k := 2) dX12_reads_53 fl_X12_13 rfl hr6 ?_
      refine EV_iload_n dX12_reads_56 rfl ?_
      have hh := b1_some h; clear h; obtain ⟨a7, ha7, h⟩ := hh
      subst ha7
      have hh := b1_some h; clear h; obtain ⟨x8, hx8, h⟩ := hh
      refine EV_aI (t := 0) (ty := .int) rfl (by decide) dX12_reads_57 hx8 ?_
      have hh := b2_some h; clear h; obtain ⟨x10, s9, hs9, h⟩ := hh
      refine EV_callS (Y := YX12_typeOf) (as := [VI x8]) (st := [VR (some h0)]) (st2 := [VI x10, VR (some h0)]) (n := 1) dX12_reads_58 (zX12_typeOf E hs9) rfl cwX12_typeOf rfl tw_1191 tw_1192 ⟨by decide, by decide⟩ (Nat.le_of_ble_eq_true rfl) rfl ?_
      refine EV_iconst (x := (1 : Int32)) dX12_reads_61 (by decide) ?_
      refine EV_iconst (x := (5 : Int32)) dX12_reads_62 (by decide) ?_
      refine EV_aload_n dX12_reads_63 rfl ?_
      refine EV_iconst (x := (3 : Int32)) dX12_reads_64 (by decide) ?_
      have hh := b1_some h; clear h; obtain ⟨u28, hu28, h⟩ := hh
      have hh := b2_some h; clear h; obtain ⟨x12, s11, hs11, h⟩ := hh
      refine EV_callV (Y := YX12_at) (as := [VI (3 : Int32)]) (st := [VI (5 : Int32), VI (1 : Int32), VI x10, VR (some h0)]) (st2 := [VI x12, VI (5 : Int32), VI (1 : Int32), VI x10, VR (some h0)]) (a := h0) (ci := 12) (r := rX12) (n := 1) dX12_reads_65 (zX12_at E hs11) rfl cwX12_at rfl tw_1246 tw_1248 tw_54 rfl (e_if hu28).1.1 (e_if hu28).1.2 ⟨by decide, by decide⟩ (Nat.le_of_ble_eq_true rfl) rfl ?_
      have hh := b1_some h; clear h; obtain ⟨u27, hu27, h⟩ := hh
      have hh := b1_some h; clear h; obtain ⟨s13, hs13, h⟩ := hh
      refine EV_callV (Y := YX12_head) (as := [VI x10, VI (1 : Int32), VI (5 : Int32), VI x12]) (st := []) (st2 := []) (a := h0) (ci := 12) (r := rX12) (n := 4) dX12_reads_68 (zX12_head E hs13) rfl cwX12_head rfl tw_1194 tw_1196 tw_45 rfl (e_if hu27).1.1 (e_if hu27).1.2 ⟨by decide, by decide⟩ (Nat.le_of_ble_eq_true rfl) rfl ?_
      refine EV_aload_n dX12_reads_71 rfl ?_
      refine EV_iload_n dX12_reads_72 rfl ?_
      refine EV_aload_n dX12_reads_73 rfl ?_
      have hh := b1_some h; clear h; obtain ⟨r15, hr15, h⟩ := hh
      refine EV_getP (ci := 12) (k := 6) dX12_reads_74 fl_X12_26 rfl hr15 ?_
      refine EV_iload_n dX12_reads_77 rfl ?_
      have hh := b1_some h; clear h; obtain ⟨a16, ha16, h⟩ := hh
      subst ha16
      have hh := b1_some h; clear h; obtain ⟨x17, hx17, h⟩ := hh
      refine EV_aI (t := 0) (ty := .int) rfl (by decide) dX12_reads_78 hx17 ?_
      refine EV_aload_n dX12_reads_79 rfl ?_
      have hh := b1_some h; clear h; obtain ⟨r18, hr18, h⟩ := hh
      refine EV_getP (ci := 12) (k := 7) dX12_reads_80 fl_X12_29 rfl hr18 ?_
      refine EV_iload_n dX12_reads_83 rfl ?_
      have hh := b1_some h; clear h; obtain ⟨a19, ha19, h⟩ := hh
      subst ha19
      have hh := b1_some h; clear h; obtain ⟨x20, hx20, h⟩ := hh
      refine EV_aI (t := 0) (ty := .int) rfl (by decide) dX12_reads_84 hx20 ?_
      have hh := b1_some h; clear h; obtain ⟨u26, hu26, h⟩ := hh
      have hh := b1_some h; clear h; obtain ⟨s21, hs21, h⟩ := hh
      refine EV_callV (Y := YX12_object) (as := [VI pi2, VI x17, VI x20]) (st := []) (st2 := []) (a := h0) (ci := 12) (r := rX12) (n := 3) dX12_reads_85 (zX12_object E hs21) rfl cwX12_object rfl tw_1206 tw_1208 tw_48 rfl (e_if hu26).1.1 (e_if hu26).1.2 ⟨by decide, by decide⟩ (Nat.le_of_ble_eq_true rfl) rfl ?_
      refine EV_aload_n dX12_reads_88 rfl ?_
      have hh := b1_some h; clear h; obtain ⟨u25, hu25, h⟩ := hh
      have hh := b2_some h; clear h; obtain ⟨x24, s23, hs23, h⟩ := hh
      refine EV_callV (Y := YX12_waits) (as := []) (st := []) (st2 := [VI x24]) (a := h0) (ci := 12) (r := rX12) (n := 0) dX12_reads_89 (zX12_waits E hs23) rfl cwX12_waits rfl tw_1260 tw_1262 tw_56 rfl (e_if hu25).1.1 (e_if hu25).1.2 ⟨by decide, by decide⟩ (Nat.le_of_ble_eq_true rfl) rfl ?_
      refine EV_istore_n (lv2 := [(3, VI x24), (0, VR (some h0)), (2, VI pi2)]) dX12_reads_92 (by decide) rfl ?_
      exact EV_pick [] rfl (zX12_reads_93 E h)
    · rw [if_neg c5] at h
      exact EV_pick [] rfl (zX12_reads_93 E h)
def mX12_reads_2 : Nat → Nat → Int32 → Int32 → eS → Option eS
  | 0, _, _, _, _ => none
  | n + 1, h0, pi1, pi2, s0 =>
  (b1 (g_I s0 112 1 h0) fun x1 => (if x1 ≤ pi2 then (mX12_reads_26 h0 pi2 s0) else (b1 (g_P s0 112 3 h0) fun r3 => (b1 r3 fun a4 => (b1 (a_I s0 0 a4 pi2) fun x5 => (if x5 = pi1 then (mX12_reads_26 h0 pi2 s0) else (mX12_reads_2 n h0 pi1 (pi2 + (1 : Int32)) s0)))))))
set_option maxRecDepth 100000 in
set_option maxHeartbeats 4000000 in
theorem zX12_reads_2 (E : eE) : ∀ (n : Nat) {h0 : Nat} {pi1 : Int32} {pi2 : Int32} {s0 s9 : eS}, mX12_reads_2 n h0 pi1 pi2 s0 = some s9 → EV E MX12_reads 2 [(0, VR (some h0)), (1, VI pi1), (2, VI pi2)] [] s0 none s9 := by
  intro n
  induction n with
  | zero =>
    intro h0 pi1 pi2 s0 s9 h
    unfold mX12_reads_2 at h
    cases h
  | succ n ih =>
    intro h0 pi1 pi2 s0 s9 h
    unfold mX12_reads_2 at h
    refine EV_iload_n dX12_reads_2 rfl ?_
    refine EV_aload_n dX12_reads_3 rfl ?_
    have hh := b1_some h; clear h; obtain ⟨x1, hx1, h⟩ := hh
    refine EV_getI (ci := 12) (k := 1) dX12_reads_4 fl_X12_108 rfl hx1 ?_
    refine EV_icmp_ge (tgt := 26) dX12_reads_7 (by decide) (fun c2 => ?_) (fun c2 => ?_)
    · rw [if_pos c2] at h
      exact EV_pick [0, 2] rfl (zX12_reads_26 E h)
    · rw [if_neg c2] at h
      refine EV_aload_n dX12_reads_10 rfl ?_
      have hh := b1_some h; clear h; obtain ⟨r3, hr3, h⟩ := hh
      refine EV_getP (ci := 12) (k := 3) dX12_reads_11 fl_X12_16 rfl hr3 ?_
      refine EV_iload_n dX12_reads_14 rfl ?_
      have hh := b1_some h; clear h; obtain ⟨a4, ha4, h⟩ := hh
      subst ha4
      have hh := b1_some h; clear h; obtain ⟨x5, hx5, h⟩ := hh
      refine EV_aI (t := 0) (ty := .int) rfl (by decide) dX12_reads_15 hx5 ?_
      refine EV_iload_n dX12_reads_16 rfl ?_
      refine EV_icmp_eq (tgt := 26) dX12_reads_17 (by decide) (fun c6 => ?_) (fun c6 => ?_)
      · rw [if_pos c6] at h
        exact EV_pick [0, 2] rfl (zX12_reads_26 E h)
      · rw [if_neg c6] at h
        refine EV_iinc (y := (1 : Int32)) (lv2 := [(2, VI (pi2 + (1 : Int32))), (0, VR (some h0)), (1, VI pi1)]) dX12_reads_20 rfl (by decide) (by decide) rfl ?_
        refine EV_goto (tgt := 2) dX12_reads_23 (by decide) ?_
        exact EV_pick [1, 2, 0] rfl (ih h)
def mX12_reads (h0 : Nat) (pi1 : Int32) (s0 : eS) : Option eS :=
  (mX12_reads_2 100000 h0 pi1 (0 : Int32) s0)
set_option maxRecDepth 100000 in
set_option maxHeartbeats 4000000 in
theorem zX12_reads (E : eE) {h0 : Nat} {pi1 : Int32} {s0 s9 : eS} (h : mX12_reads h0 pi1 s0 = some s9) : EM E YX12_reads [VR (some h0), VI pi1] s0 none s9 := by
  refine EM_of (M := MX12_reads) (own := RX12) (ini := false) rfl (by decide +kernel) rfl (fun z => nomatch z) (Nat.le_of_ble_eq_true rfl) ?_
  unfold mX12_reads at h
  refine EV_iconst (x := (0 : Int32)) dX12_reads_0 (by decide) ?_
  refine EV_istore_n (lv2 := [(2, VI (0 : Int32)), (0, VR (some h0)), (1, VI pi1)]) dX12_reads_1 (by decide) rfl ?_
  exact EV_pick [1, 2, 0] rfl (zX12_reads_2 E _ h)
def mX12_objects_310 (s0 : eS) : Option eS :=
  (some s0)
set_option maxRecDepth 100000 in
set_option maxHeartbeats 4000000 in
theorem zX12_objects_310 (E : eE) {s0 s9 : eS} (h : mX12_objects_310 s0 = some s9) : EV E MX12_objects 310 [] [] s0 none s9 := by
  unfold mX12_objects_310 at h
  cases h
  exact EV_ret ⟨dX12_objects_310, rfl⟩ rfl
def mX12_objects_273 (k127 : Nat → Int32 → Int32 → Int32 → Int32 → eS → Option eS) (k224 : Nat → Int32 → Int32 → Int32 → Int32 → Int32 → Int32 → eS → Option eS) (h0 : Nat) (pi2 : Int32) (pi3 : Int32) (pi4 : Int32) (pi5 : Int32) (pi6 : Int32) (pi7 : Int32) (pt0 : Int32) (pt1 : Int32) (pt2 : Option Nat) (s0 : eS) : Option eS :=
  (b1 (g_P s0 112 7 h0) fun r1 => (b1 (g_P s0 112 54 h0) fun r2 => (b1 r2 fun a3 => (b1 (a_I s0 0 a3 pi7) fun x4 => (b1 r1 fun a5 => (b1 (a_I s0 0 a5 x4) fun x6 => (b1 pt2 fun a7 => (b1 (o_K s0 112 a7) fun u10 => (b1 (mX12_object a7 pt1 pt0 x6 s0) fun s8 => (k224 h0 pi2 pi3 pi4 pi5 pi6 (pi7 + (1 : Int32)) s8))))))))))
set_option maxRecDepth 100000 in
set_option maxHeartbeats 4000000 in
theorem zX12_objects_273 (E : eE) {k127 : Nat → Int32 → Int32 → Int32 → Int32 → eS → Option eS} {k224 : Nat → Int32 → Int32 → Int32 → Int32 → Int32 → Int32 → eS → Option eS} (hk127 : ∀ {h0 : Nat} {pi2 : Int32} {pi3 : Int32} {pi4 : Int32} {pi5 : Int32} {s0 s9 : eS}, k127 h0 pi2 pi3 pi4 pi5 s0 = some s9 → EV E MX12_objects 127 [(0, VR (some h0)), (2, VI pi2), (3, VI pi3), (4, VI pi4), (5, VI pi5)] [] s0 none s9) (hk224 : ∀ {h0 : Nat} {pi2 : Int32} {pi3 : Int32} {pi4 : Int32} {pi5 : Int32} {pi6 : Int32} {pi7 : Int32} {s0 s9 : eS}, k224 h0 pi2 pi3 pi4 pi5 pi6 pi7 s0 = some s9 → EV E MX12_objects 224 [(0, VR (some h0)), (2, VI pi2), (3, VI pi3), (4, VI pi4), (5, VI pi5), (6, VI pi6), (7, VI pi7)] [] s0 none s9) {h0 : Nat} {pi2 : Int32} {pi3 : Int32} {pi4 : Int32} {pi5 : Int32} {pi6 : Int32} {pi7 : Int32} {pt0 : Int32} {pt1 : Int32} {pt2 : Option Nat} {s0 s9 : eS} (h : mX12_objects_273 k127 k224 h0 pi2 pi3 pi4 pi5 pi6 pi7 pt0 pt1 pt2 s0 = some s9) : EV E MX12_objects 273 [(0, VR (some h0)), (2, VI pi2), (3, VI pi3), (4, VI pi4), (5, VI pi5), (6, VI pi6), (7, VI pi7)] [VI pt0, VI pt1, VR pt2] s0 none s9 := by
  unfold mX12_objects_273 at h
  refine EV_aload_n dX12_objects_273 rfl ?_
  have hh := b1_some h; clear h; obtain ⟨r1, hr1, h⟩ := hh
  refine EV_getP (ci := 12) (k := 7) dX12_objects_274 fl_X12_29 rfl hr1 ?_
  refine EV_aload_n dX12_objects_277 rfl ?_
  have hh := b1_some h; clear h; obtain ⟨r2, hr2, h⟩ := hh
  refine EV_getP (ci := 12) (k := 54) dX12_objects_278 fl_X12_105 rfl hr2 ?_
  refine EV_iload dX12_objects_281 rfl ?_
  have hh := b1_some h; clear h; obtain ⟨a3, ha3, h⟩ := hh
  subst ha3
  have hh := b1_some h; clear h; obtain ⟨x4, hx4, h⟩ := hh
  refine EV_aI (t := 0) (ty := .int) rfl (by decide) dX12_objects_283 hx4 ?_
  have hh := b1_some h; clear h; obtain ⟨a5, ha5, h⟩ := hh
  subst ha5
  have hh := b1_some h; clear h; obtain ⟨x6, hx6, h⟩ := hh
  refine EV_aI (t := 0) (ty := .int) rfl (by decide) dX12_objects_284 hx6 ?_
  have hh := b1_some h; clear h; obtain ⟨a7, ha7, h⟩ := hh
  subst ha7
  have hh := b1_some h; clear h; obtain ⟨u10, hu10, h⟩ := hh
  have hh := b1_some h; clear h; obtain ⟨s8, hs8, h⟩ := hh
  refine EV_callV (Y := YX12_object) (as := [VI pt1, VI pt0, VI x6]) (st := []) (st2 := []) (a := a7) (ci := 12) (r := rX12) (n := 3) dX12_objects_285 (zX12_object E hs8) rfl cwX12_object rfl tw_1206 tw_1208 tw_48 rfl (e_if hu10).1.1 (e_if hu10).1.2 ⟨by decide, by decide⟩ (Nat.le_of_ble_eq_true rfl) rfl ?_
  refine EV_iinc (y := (1 : Int32)) (lv2 := [(7, VI (pi7 + (1 : Int32))), (0, VR (some h0)), (2, VI pi2), (3, VI pi3), (4, VI pi4), (5, VI pi5), (6, VI pi6)]) dX12_objects_288 rfl (by decide) (by decide) rfl ?_
  refine EV_goto (tgt := 224) dX12_objects_291 (by decide) ?_
  exact EV_pick [1, 2, 3, 4, 5, 6, 0] rfl (hk224 h)
def mX12_objects_224 (k127 : Nat → Int32 → Int32 → Int32 → Int32 → eS → Option eS) : Nat → Nat → Int32 → Int32 → Int32 → Int32 → Int32 → Int32 → eS → Option eS
  | 0, _, _, _, _, _, _, _, _ => none
  | n + 1, h0, pi2, pi3, pi4, pi5, pi6, pi7, s0 =>
  (if (pi5 + pi6) ≤ pi7 then (b1 (o_K s0 112 h0) fun u4 => (b2 (mX12_waits h0 s0) fun x3 s2 => (k127 h0 pi2 pi3 pi4 (pi5 + pi6) s2))) else (b1 (g_P s0 112 54 h0) fun r2 => (b1 r2 fun a3 => (b1 (a_I s0 0 a3 pi7) fun x4 => (if pi2 = 0 then (b1 (g_P s0 112 6 h0) fun r6 => (b1 (g_P s0 112 54 h0) fun r7 => (b1 r7 fun a8 => (b1 (a_I s0 0 a8 pi7) fun x9 => (b1 r6 fun a10 => (b1 (a_I s0 0 a10 x9) fun x11 => (mX12_objects_273 k127 (mX12_objects_224 k127 n) h0 pi2 pi3 pi4 pi5 pi6 pi7 x11 x4 (some h0) s0))))))) else (b1 (g_P s0 112 8 h0) fun r6 => (b1 (g_P s0 112 54 h0) fun r7 => (b1 r7 fun a8 => (b1 (a_I s0 0 a8 pi7) fun x9 => (b1 r6 fun a10 => (b1 (a_I s0 0 a10 x9) fun x11 => (mX12_objects_273 k127 (mX12_objects_224 k127 n) h0 pi2 pi3 pi4 pi5 pi6 pi7 x11 x4 (some h0) s0))))))))))))
set_option maxRecDepth 100000 in
set_option maxHeartbeats 4000000 in
theorem zX12_objects_224 (E : eE) {k127 : Nat → Int32 → Int32 → Int32 → Int32 → eS → Option eS} (hk127 : ∀ {h0 : Nat} {pi2 : Int32} {pi3 : Int32} {pi4 : Int32} {pi5 : Int32} {s0 s9 : eS}, k127 h0 pi2 pi3 pi4 pi5 s0 = some s9 → EV E MX12_objects 127 [(0, VR (some h0)), (2, VI pi2), (3, VI pi3), (4, VI pi4), (5, VI pi5)] [] s0 none s9) : ∀ (n : Nat) {h0 : Nat} {pi2 : Int32} {pi3 : Int32} {pi4 : Int32} {pi5 : Int32} {pi6 : Int32} {pi7 : Int32} {s0 s9 : eS}, mX12_objects_224 k127 n h0 pi2 pi3 pi4 pi5 pi6 pi7 s0 = some s9 → EV E MX12_objects 224 [(0, VR (some h0)), (2, VI pi2), (3, VI pi3), (4, VI pi4), (5, VI pi5), (6, VI pi6), (7, VI pi7)] [] s0 none s9 := by
  intro n
  induction n with
  | zero =>
    intro h0 pi2 pi3 pi4 pi5 pi6 pi7 s0 s9 h
    unfold mX12_objects_224 at h
    cases h
  | succ n ih =>
    intro h0 pi2 pi3 pi4 pi5 pi6 pi7 s0 s9 h
    unfold mX12_objects_224 at h
    refine EV_iload dX12_objects_224 rfl ?_
    refine EV_iload dX12_objects_226 rfl ?_
    refine EV_iload dX12_objects_228 rfl ?_
    refine EV_iadd dX12_objects_230 ?_
    refine EV_icmp_ge (tgt := 294) dX12_objects_231 (by decide) (fun c1 => ?_) (fun c1 => ?_)
    · rw [if_pos c1] at h
      refine EV_aload_n dX12_objects_294 rfl ?_
      have hh := b1_some h; clear h; obtain ⟨u4, hu4, h⟩ := hh
      have hh := b2_some h; clear h; obtain ⟨x3, s2, hs2, h⟩ := hh
      refine EV_callV (Y := YX12_waits) (as := []) (st := []) (st2 := [VI x3]) (a := h0) (ci := 12) (r := rX12) (n := 0) dX12_objects_295 (zX12_waits E hs2) rfl cwX12_waits rfl tw_1260 tw_1262 tw_56 rfl (e_if hu4).1.1 (e_if hu4).1.2 ⟨by decide, by decide⟩ (Nat.le_of_ble_eq_true rfl) rfl ?_
      refine EV_istore (lv2 := [(7, VI x3), (0, VR (some h0)), (2, VI pi2), (3, VI pi3), (4, VI pi4), (5, VI pi5), (6, VI pi6)]) dX12_objects_298 (by decide) rfl ?_
      refine EV_iload dX12_objects_300 rfl ?_
      refine EV_iload dX12_objects_302 rfl ?_
      refine EV_iadd dX12_objects_304 ?_
      refine EV_istore (lv2 := [(5, VI (pi5 + pi6)), (7, VI x3), (0, VR (some h0)), (2, VI pi2), (3, VI pi3), (4, VI pi4), (6, VI pi6)]) dX12_objects_305 (by decide) rfl ?_
      refine EV_goto (tgt := 127) dX12_objects_307 (by decide) ?_
      exact EV_pick [2, 3, 4, 5, 0] rfl (hk127 h)
    · rw [if_neg c1] at h
      refine EV_aload_n dX12_objects_234 rfl ?_
      refine EV_aload_n dX12_objects_235 rfl ?_
      have hh := b1_some h; clear h; obtain ⟨r2, hr2, h⟩ := hh
      refine EV_getP (ci := 12) (k := 54) dX12_objects_236 fl_X12_105 rfl hr2 ?_
      refine EV_iload dX12_objects_239 rfl ?_
      have hh := b1_some h; clear h; obtain ⟨a3, ha3, h⟩ := hh
      subst ha3
      have hh := b1_some h; clear h; obtain ⟨x4, hx4, h⟩ := hh
      refine EV_aI (t := 0) (ty := .int) rfl (by decide) dX12_objects_241 hx4 ?_
      refine EV_iload_n dX12_objects_242 rfl ?_
      refine EV_if_eq (tgt := 261) dX12_objects_243 (by decide) (fun c5 => ?_) (fun c5 => ?_)
      · rw [if_pos c5] at h
        refine EV_aload_n dX12_objects_261 rfl ?_
        have hh := b1_some h; clear h; obtain ⟨r6, hr6, h⟩ := hh
        refine EV_getP (ci := 12) (k := 6) dX12_objects_262 fl_X12_26 rfl hr6 ?_
        refine EV_aload_n dX12_objects_265 rfl ?_
        have hh := b1_some h; clear h; obtain ⟨r7, hr7, h⟩ := hh
        refine EV_getP (ci := 12) (k := 54) dX12_objects_266 fl_X12_105 rfl hr7 ?_
        refine EV_iload dX12_objects_269 rfl ?_
        have hh := b1_some h; clear h; obtain ⟨a8, ha8, h⟩ := hh
        subst ha8
        have hh := b1_some h; clear h; obtain ⟨x9, hx9, h⟩ := hh
        refine EV_aI (t := 0) (ty := .int) rfl (by decide) dX12_objects_271 hx9 ?_
        have hh := b1_some h; clear h; obtain ⟨a10, ha10, h⟩ := hh
        subst ha10
        have hh := b1_some h; clear h; obtain ⟨x11, hx11, h⟩ := hh
        refine EV_aI (t := 0) (ty := .int) rfl (by decide) dX12_objects_272 hx11 ?_
        exact EV_pick [0, 1, 2, 3, 4, 5, 6] rfl (zX12_objects_273 E hk127 (@ih) h)
      · rw [if_neg c5] at h
        refine EV_aload_n dX12_objects_246 rfl ?_
        have hh := b1_some h; clear h; obtain ⟨r6, hr6, h⟩ := hh
        refine EV_getP (ci := 12) (k := 8) dX12_objects_247 fl_X12_32 rfl hr6 ?_
        refine EV_aload_n dX12_objects_250 rfl ?_
        have hh := b1_some h; clear h; obtain ⟨r7, hr7, h⟩ := hh
        refine EV_getP (ci := 12) (k := 54) dX12_objects_251 fl_X12_105 rfl hr7 ?_
        refine EV_iload dX12_objects_254 rfl ?_
        have hh := b1_some h; clear h; obtain ⟨a8, ha8, h⟩ := hh
        subst ha8
        have hh := b1_some h; clear h; obtain ⟨x9, hx9, h⟩ := hh
        refine EV_aI (t := 0) (ty := .int) rfl (by decide) dX12_objects_256 hx9 ?_
        have hh := b1_some h; clear h; obtain ⟨a10, ha10, h⟩ := hh
        subst ha10
        have hh := b1_some h; clear h; obtain ⟨x11, hx11, h⟩ := hh
        refine EV_aI (t := 0) (ty := .int) rfl (by decide) dX12_objects_257 hx11 ?_
        refine EV_goto (tgt := 273) dX12_objects_258 (by decide) ?_
        exact EV_pick [0, 1, 2, 3, 4, 5, 6] rfl (zX12_objects_273 E hk127 (@ih) h)
def mX12_objects_197 (k127 : Nat → Int32 → Int32 → Int32 → Int32 → eS → Option eS) (h0 : Nat) (pi2 : Int32) (pi3 : Int32) (pi4 : Int32) (pi5 : Int32) (pi6 : Int32) (s0 : eS) : Option eS :=
  (b1 (g_P s0 112 2 h0) fun r1 => (b1 (g_P s0 112 54 h0) fun r2 => (b1 r2 fun a3 => (b1 (a_I s0 0 a3 pi5) fun x4 => (b1 r1 fun a5 => (b1 (a_I s0 0 a5 x4) fun x6 => (b2 (mX12_typeOf x6 s0) fun x8 s7 => (b1 (o_K s7 112 h0) fun u11 => (b1 (mX12_head h0 x8 pi6 pi3 (0 : Int32) s7) fun s9 => (mX12_objects_224 k127 100000 h0 pi2 pi3 pi4 pi5 pi6 pi5 s9))))))))))
set_option maxRecDepth 100000 in
set_option maxHeartbeats 4000000 in
theorem zX12_objects_197 (E : eE) {k127 : Nat → Int32 → Int32 → Int32 → Int32 → eS → Option eS} (hk127 : ∀ {h0 : Nat} {pi2 : Int32} {pi3 : Int32} {pi4 : Int32} {pi5 : Int32} {s0 s9 : eS}, k127 h0 pi2 pi3 pi4 pi5 s0 = some s9 → EV E MX12_objects 127 [(0, VR (some h0)), (2, VI pi2), (3, VI pi3), (4, VI pi4), (5, VI pi5)] [] s0 none s9) {h0 : Nat} {pi2 : Int32} {pi3 : Int32} {pi4 : Int32} {pi5 : Int32} {pi6 : Int32} {s0 s9 : eS} (h : mX12_objects_197 k127 h0 pi2 pi3 pi4 pi5 pi6 s0 = some s9) : EV E MX12_objects 197 [(0, VR (some h0)), (2, VI pi2), (3, VI pi3), (4, VI pi4), (5, VI pi5), (6, VI pi6)] [] s0 none s9 := by
  unfold mX12_objects_197 at h
  refine EV_aload_n dX12_objects_197 rfl ?_
  refine EV_aload_n dX12_objects_198 rfl ?_
  have hh := b1_some h; clear h; obtain ⟨r1, hr1, h⟩ := hh
  refine EV_getP (ci := 12) (k := 2) dX12_objects_199 fl_X12_13 rfl hr1 ?_
  refine EV_aload_n dX12_objects_202 rfl ?_
  have hh := b1_some h; clear h; obtain ⟨r2, hr2, h⟩ := hh
  refine EV_getP (ci := 12) (k := 54) dX12_objects_203 fl_X12_105 rfl hr2 ?_
  refine EV_iload dX12_objects_206 rfl ?_
  have hh := b1_some h; clear h; obtain ⟨a3, ha3, h⟩ := hh
  subst ha3
  have hh := b1_some h; clear h; obtain ⟨x4, hx4, h⟩ := hh
  refine EV_aI (t := 0) (ty := .int) rfl (by decide) dX12_objects_208 hx4 ?_
  have hh := b1_some h; clear h; obtain ⟨a5, ha5, h⟩ := hh
  subst ha5
  have hh := b1_some h; clear h; obtain ⟨x6, hx6, h⟩ := hh
  refine EV_aI (t := 0) (ty := .int) rfl (by decide) dX12_objects_209 hx6 ?_
  have hh := b2_some h; clear h; obtain ⟨x8, s7, hs7, h⟩ := hh
  refine EV_callS (Y := YX12_typeOf) (as := [VI x6]) (st := [VR (some h0)]) (st2 := [VI x8, VR (some h0)]) (n := 1) dX12_objects_210 (zX12_typeOf E hs7) rfl cwX12_typeOf rfl tw_1191 tw_1192 ⟨by decide, by decide⟩ (Nat.le_of_ble_eq_true rfl) rfl ?_
  refine EV_iload dX12_objects_213 rfl ?_
  refine EV_iload_n dX12_objects_215 rfl ?_
  refine EV_iconst (x := (0 : Int32)) dX12_objects_216 (by decide) ?_
  have hh := b1_some h; clear h; obtain ⟨u11, hu11, h⟩ := hh
  have hh := b1_some h; clear h; obtain ⟨s9, hs9, h⟩ := hh
  refine EV_callV (Y := YX12_head) (as := [VI x8, VI pi6, VI pi3, VI (0 : Int32)]) (st := []) (st2 := []) (a := h0) (ci := 12) (r := rX12) (n := 4) dX12_objects_217 (zX12_head E hs9) rfl cwX12_head rfl tw_1194 tw_1196 tw_45 rfl (e_if hu11).1.1 (e_if hu11).1.2 ⟨by decide, by decide⟩ (Nat.le_of_ble_eq_true rfl) rfl ?_
  refine EV_iload dX12_objects_220 rfl ?_
  refine EV_istore (lv2 := [(7, VI pi5), (0, VR (some h0)), (2, VI pi2), (3, VI pi3), (4, VI pi4), (5, VI pi5), (6, VI pi6)]) dX12_objects_222 (by decide) rfl ?_
  exact EV_pick [1, 2, 3, 4, 5, 6, 0] rfl (zX12_objects_224 E hk127 _ h)
def mX12_objects_144 (k127 : Nat → Int32 → Int32 → Int32 → Int32 → eS → Option eS) : Nat → Nat → Int32 → Int32 → Int32 → Int32 → Int32 → eS → Option eS
  | 0, _, _, _, _, _, _, _ => none
  | n + 1, h0, pi2, pi3, pi4, pi5, pi6, s0 =>
  (if pi4 ≤ (pi5 + pi6) then (mX12_objects_197 k127 h0 pi2 pi3 pi4 pi5 pi6 s0) else (if (6 : Int32) ≤ pi6 then (mX12_objects_197 k127 h0 pi2 pi3 pi4 pi5 pi6 s0) else (b1 (g_P s0 112 2 h0) fun r3 => (b1 (g_P s0 112 54 h0) fun r4 => (b1 r4 fun a5 => (b1 (a_I s0 0 a5 (pi5 + pi6)) fun x6 => (b1 r3 fun a7 => (b1 (a_I s0 0 a7 x6) fun x8 => (b1 (g_P s0 112 2 h0) fun r9 => (b1 (g_P s0 112 54 h0) fun r10 => (b1 r10 fun a11 => (b1 (a_I s0 0 a11 pi5) fun x12 => (b1 r9 fun a13 => (b1 (a_I s0 0 a13 x12) fun x14 => (if x8 = x14 then (mX12_objects_144 k127 n h0 pi2 pi3 pi4 pi5 (pi6 + (1 : Int32)) s0) else (mX12_objects_197 k127 h0 pi2 pi3 pi4 pi5 pi6 s0))))))))))))))))
set_option maxRecDepth 100000 in
set_option maxHeartbeats 4000000 in
theorem zX12_objects_144 (E : eE) {k127 : Nat → Int32 → Int32 → Int32 → Int32 → eS → Option eS} (hk127 : ∀ {h0 : Nat} {pi2 : Int32} {pi3 : Int32} {pi4 : Int32} {pi5 : Int32} {s0 s9 : eS}, k127 h0 pi2 pi3 pi4 pi5 s0 = some s9 → EV E MX12_objects 127 [(0, VR (some h0)), (2, VI pi2), (3, VI pi3), (4, VI pi4), (5, VI pi5)] [] s0 none s9) : ∀ (n : Nat) {h0 : Nat} {pi2 : Int32} {pi3 : Int32} {pi4 : Int32} {pi5 : Int32} {pi6 : Int32} {s0 s9 : eS}, mX12_objects_144 k127 n h0 pi2 pi3 pi4 pi5 pi6 s0 = some s9 → EV E MX12_objects 144 [(0, VR (some h0)), (2, VI pi2), (3, VI pi3), (4, VI pi4), (5, VI pi5), (6, VI pi6)] [] s0 none s9 := by
  intro n
  induction n with
  | zero =>
    intro h0 pi2 pi3 pi4 pi5 pi6 s0 s9 h
    unfold mX12_objects_144 at h
    cases h
  | succ n ih =>
    intro h0 pi2 pi3 pi4 pi5 pi6 s0 s9 h
    unfold mX12_objects_144 at h
    refine EV_iload dX12_objects_144 rfl ?_
    refine EV_iload dX12_objects_146 rfl ?_
    refine EV_iadd dX12_objects_148 ?_
    refine EV_iload dX12_objects_149 rfl ?_
    refine EV_icmp_ge (tgt := 197) dX12_objects_151 (by decide) (fun c1 => ?_) (fun c1 => ?_)
    · rw [if_pos c1] at h
      exact EV_pick [0, 1, 2, 3, 4, 5] rfl (zX12_objects_197 E hk127 h)
    · rw [if_neg c1] at h
      refine EV_iload dX12_objects_154 rfl ?_
      refine EV_bipush (x := (6 : Int32)) dX12_objects_156 (by decide) ?_
      refine EV_icmp_ge (tgt := 197) dX12_objects_158 (by decide) (fun c2 => ?_) (fun c2 => ?_)
      · rw [if_pos c2] at h
        exact EV_pick [0, 1, 2, 3, 4, 5] rfl (zX12_objects_197 E hk127 h)
      · rw [if_neg c2] at h
        refine EV_aload_n dX12_objects_161 rfl ?_
        have hh := b1_some h; clear h; obtain ⟨r3, hr3, h⟩ := hh
        refine EV_getP (ci := 12) (k := 2) dX12_objects_162 fl_X12_13 rfl hr3 ?_
        refine EV_aload_n dX12_objects_165 rfl ?_
        have hh := b1_some h; clear h; obtain ⟨r4, hr4, h⟩ := hh
        refine EV_getP (ci := 12) (k := 54) dX12_objects_166 fl_X12_105 rfl hr4 ?_
        refine EV_iload dX12_objects_169 rfl ?_
        refine EV_iload dX12_objects_171 rfl ?_
        refine EV_iadd dX12_objects_173 ?_
        have hh := b1_some h; clear h; obtain ⟨a5, ha5, h⟩ := hh
        subst ha5
        have hh := b1_some h; clear h; obtain ⟨x6, hx6, h⟩ := hh
        refine EV_aI (t := 0) (ty := .int) rfl (by decide) dX12_objects_174 hx6 ?_
        have hh := b1_some h; clear h; obtain ⟨a7, ha7, h⟩ := hh
        subst ha7
        have hh := b1_some h; clear h; obtain ⟨x8, hx8, h⟩ := hh
        refine EV_aI (t := 0) (ty := .int) rfl (by decide) dX12_objects_175 hx8 ?_
        refine EV_aload_n dX12_objects_176 rfl ?_
        have hh := b1_some h; clear h; obtain ⟨r9, hr9, h⟩ := hh
        refine EV_getP (ci := 12) (k := 2) dX12_objects_177 fl_X12_13 rfl hr9 ?_
        refine EV_aload_n dX12_objects_180 rfl ?_
        have hh := b1_some h; clear h; obtain ⟨r10, hr10, h⟩ := hh
        refine EV_getP (ci := 12) (k := 54) dX12_objects_181 fl_X12_105 rfl hr10 ?_
        refine EV_iload dX12_objects_184 rfl ?_
        have hh := b1_some h; clear h; obtain ⟨a11, ha11, h⟩ := hh
        subst ha11
        have hh := b1_some h; clear h; obtain ⟨x12, hx12, h⟩ := hh
        refine EV_aI (t := 0) (ty := .int) rfl (by decide) dX12_objects_186 hx12 ?_
        have hh := b1_some h; clear h; obtain ⟨a13, ha13, h⟩ := hh
        subst ha13
        have hh := b1_some h; clear h; obtain ⟨x14, hx14, h⟩ := hh
        refine EV_aI (t := 0) (ty := .int) rfl (by decide) dX12_objects_187 hx14 ?_
        refine EV_icmp_ne (tgt := 197) dX12_objects_188 (by decide) (fun c15 => ?_) (fun c15 => ?_)
        · rw [if_pos c15] at h
          refine EV_iinc (y := (1 : Int32)) (lv2 := [(6, VI (pi6 + (1 : Int32))), (0, VR (some h0)), (2, VI pi2), (3, VI pi3), (4, VI pi4), (5, VI pi5)]) dX12_objects_191 rfl (by decide) (by decide) rfl ?_
          refine EV_goto (tgt := 144) dX12_objects_194 (by decide) ?_
          exact EV_pick [1, 2, 3, 4, 5, 0] rfl (ih h)
        · rw [if_neg c15] at h
          exact EV_pick [0, 1, 2, 3, 4, 5] rfl (zX12_objects_197 E hk127 h)
def mX12_objects_127 : Nat → Nat → Int32 → Int32 → Int32 → Int32 → eS → Option eS
  | 0, _, _, _, _, _, _ => none
  | n + 1, h0, pi2, pi3, pi4, pi5, s0 =>
  (if pi4 ≤ pi5 then (mX12_objects_310 s0) else (b1 (g_I s0 112 35 h0) fun x2 => (if x2 = 0 then (mX12_objects_310 s0) else (mX12_objects_144 (mX12_objects_127 n) 100000 h0 pi2 pi3 pi4 pi5 (1 : Int32) s0))))
set_option maxRecDepth 100000 in
set_option maxHeartbeats 4000000 in
theorem zX12_objects_127 (E : eE) : ∀ (n : Nat) {h0 : Nat} {pi2 : Int32} {pi3 : Int32} {pi4 : Int32} {pi5 : Int32} {s0 s9 : eS}, mX12_objects_127 n h0 pi2 pi3 pi4 pi5 s0 = some s9 → EV E MX12_objects 127 [(0, VR (some h0)), (2, VI pi2), (3, VI pi3), (4, VI pi4), (5, VI pi5)] [] s0 none s9 := by
  intro n
  induction n with
  | zero =>
    intro h0 pi2 pi3 pi4 pi5 s0 s9 h
    unfold mX12_objects_127 at h
    cases h
  | succ n ih =>
    intro h0 pi2 pi3 pi4 pi5 s0 s9 h
    unfold mX12_objects_127 at h
    refine EV_iload dX12_objects_127 rfl ?_
    refine EV_iload dX12_objects_129 rfl ?_
    refine EV_icmp_ge (tgt := 310) dX12_objects_131 (by decide) (fun c1 => ?_) (fun c1 => ?_)
    · rw [if_pos c1] at h
      exact EV_pick [] rfl (zX12_objects_310 E h)
    · rw [if_neg c1] at h
      refine EV_aload_n dX12_objects_134 rfl ?_
      have hh := b1_some h; clear h; obtain ⟨x2, hx2, h⟩ := hh
      refine EV_getI (ci := 12) (k := 35) dX12_objects_135 fl_X12_125 rfl hx2 ?_
      refine EV_if_eq (tgt := 310) dX12_objects_138 (by decide) (fun c3 => ?_) (fun c3 => ?_)
      · rw [if_pos c3] at h
        exact EV_pick [] rfl (zX12_objects_310 E h)
      · rw [if_neg c3] at h
        refine EV_iconst (x := (1 : Int32)) dX12_objects_141 (by decide) ?_
        refine EV_istore (lv2 := [(6, VI (1 : Int32)), (0, VR (some h0)), (2, VI pi2), (3, VI pi3), (4, VI pi4), (5, VI pi5)]) dX12_objects_142 (by decide) rfl ?_
        exact EV_pick [1, 2, 3, 4, 5, 0] rfl (zX12_objects_144 E (@ih) _ h)
def mX12_objects_118 (k6 : Nat → Int32 → Int32 → Int32 → Int32 → Int32 → eS → Option eS) (h0 : Nat) (pi1 : Int32) (pi2 : Int32) (pi3 : Int32) (pi4 : Int32) (pi5 : Int32) (s0 : eS) : Option eS :=
  (k6 h0 pi1 pi2 pi3 pi4 (pi5 + (1 : Int32)) s0)
set_option maxRecDepth 100000 in
set_option maxHeartbeats 4000000 in
theorem zX12_objects_118 (E : eE) {k6 : Nat → Int32 → Int32 → Int32 → Int32 → Int32 → eS → Option eS} (hk6 : ∀ {h0 : Nat} {pi1 : Int32} {pi2 : Int32} {pi3 : Int32} {pi4 : Int32} {pi5 : Int32} {s0 s9 : eS}, k6 h0 pi1 pi2 pi3 pi4 pi5 s0 = some s9 → EV E MX12_objects 6 [(0, VR (some h0)), (1, VI pi1), (2, VI pi2), (3, VI pi3), (4, VI pi4), (5, VI pi5)] [] s0 none s9) {h0 : Nat} {pi1 : Int32} {pi2 : Int32} {pi3 : Int32} {pi4 : Int32} {pi5 : Int32} {s0 s9 : eS} (h : mX12_objects_118 k6 h0 pi1 pi2 pi3 pi4 pi5 s0 = some s9) : EV E MX12_objects 118 [(0, VR (some h0)), (1, VI pi1), (2, VI pi2), (3, VI pi3), (4, VI pi4), (5, VI pi5)] [] s0 none s9 := by
  unfold mX12_objects_118 at h
  refine EV_iinc (y := (1 : Int32)) (lv2 := [(5, VI (pi5 + (1 : Int32))), (0, VR (some h0)), (1, VI pi1), (2, VI pi2), (3, VI pi3), (4, VI pi4)]) dX12_objects_118 rfl (by decide) (by decide) rfl ?_
  refine EV_goto (tgt := 6) dX12_objects_121 (by decide) ?_
  exact EV_pick [1, 2, 3, 4, 5, 0] rfl (hk6 h)
def mX12_objects_106 (k6 : Nat → Int32 → Int32 → Int32 → Int32 → Int32 → eS → Option eS) (h0 : Nat) (pi1 : Int32) (pi2 : Int32) (pi3 : Int32) (pi4 : Int32) (pi5 : Int32) (pi6 : Int32) (s0 : eS) : Option eS :=
  (b1 (g_P s0 112 54 h0) fun r1 => (b1 r1 fun a2 => (b1 (s_I s0 0 a2 pi6 pi5) fun s3 => (mX12_objects_118 k6 h0 pi1 pi2 pi3 (pi4 + (1 : Int32)) pi5 s3))))
set_option maxRecDepth 100000 in
set_option maxHeartbeats 4000000 in
theorem zX12_objects_106 (E : eE) {k6 : Nat → Int32 → Int32 → Int32 → Int32 → Int32 → eS → Option eS} (hk6 : ∀ {h0 : Nat} {pi1 : Int32} {pi2 : Int32} {pi3 : Int32} {pi4 : Int32} {pi5 : Int32} {s0 s9 : eS}, k6 h0 pi1 pi2 pi3 pi4 pi5 s0 = some s9 → EV E MX12_objects 6 [(0, VR (some h0)), (1, VI pi1), (2, VI pi2), (3, VI pi3), (4, VI pi4), (5, VI pi5)] [] s0 none s9) {h0 : Nat} {pi1 : Int32} {pi2 : Int32} {pi3 : Int32} {pi4 : Int32} {pi5 : Int32} {pi6 : Int32} {s0 s9 : eS} (h : mX12_objects_106 k6 h0 pi1 pi2 pi3 pi4 pi5 pi6 s0 = some s9) : EV E MX12_objects 106 [(0, VR (some h0)), (1, VI pi1), (2, VI pi2), (3, VI pi3), (4, VI pi4), (5, VI pi5), (6, VI pi6)] [] s0 none s9 := by
  unfold mX12_objects_106 at h
  refine EV_aload_n dX12_objects_106 rfl ?_
  have hh := b1_some h; clear h; obtain ⟨r1, hr1, h⟩ := hh
  refine EV_getP (ci := 12) (k := 54) dX12_objects_107 fl_X12_105 rfl hr1 ?_
  refine EV_iload dX12_objects_110 rfl ?_
  refine EV_iload dX12_objects_112 rfl ?_
  have hh := b1_some h; clear h; obtain ⟨a2, ha2, h⟩ := hh
  subst ha2
  have hh := b1_some h; clear h; obtain ⟨s3, hs3, h⟩ := hh
  refine EV_sI (t := 0) rfl dX12_objects_114 hs3 ?_
  refine EV_iinc (y := (1 : Int32)) (lv2 := [(4, VI (pi4 + (1 : Int32))), (0, VR (some h0)), (1, VI pi1), (2, VI pi2), (3, VI pi3), (5, VI pi5), (6, VI pi6)]) dX12_objects_115 rfl (by decide) (by decide) rfl ?_
  exact EV_pick [1, 2, 3, 4, 0, 5] rfl (zX12_objects_118 E hk6 h)
def mX12_objects_55 (k6 : Nat → Int32 → Int32 → Int32 → Int32 → Int32 → eS → Option eS) : Nat → Nat → Int32 → Int32 → Int32 → Int32 → Int32 → Int32 → eS → Option eS
  | 0, _, _, _, _, _, _, _, _ => none
  | n + 1, h0, pi1, pi2, pi3, pi4, pi5, pi6, s0 =>
  (if pi6 ≤ 0 then (mX12_objects_106 k6 h0 pi1 pi2 pi3 pi4 pi5 pi6 s0) else (b1 (g_P s0 112 3 h0) fun r2 => (b1 (g_P s0 112 54 h0) fun r3 => (b1 r3 fun a4 => (b1 (a_I s0 0 a4 (pi6 - (1 : Int32))) fun x5 => (b1 r2 fun a6 => (b1 (a_I s0 0 a6 x5) fun x7 => (b1 (g_P s0 112 3 h0) fun r8 => (b1 r8 fun a9 => (b1 (a_I s0 0 a9 pi5) fun x10 => (if x7 ≤ x10 then (mX12_objects_106 k6 h0 pi1 pi2 pi3 pi4 pi5 pi6 s0) else (b1 (g_P s0 112 54 h0) fun r12 => (b1 (g_P s0 112 54 h0) fun r13 => (b1 r13 fun a14 => (b1 (a_I s0 0 a14 (pi6 - (1 : Int32))) fun x15 => (b1 r12 fun a16 => (b1 (s_I s0 0 a16 pi6 x15) fun s17 => (mX12_objects_55 k6 n h0 pi1 pi2 pi3 pi4 pi5 (pi6 + (-1 : Int32)) s17))))))))))))))))))
set_option maxRecDepth 100000 in
set_option maxHeartbeats 4000000 in
theorem zX12_objects_55 (E : eE) {k6 : Nat → Int32 → Int32 → Int32 → Int32 → Int32 → eS → Option eS} (hk6 : ∀ {h0 : Nat} {pi1 : Int32} {pi2 : Int32} {pi3 : Int32} {pi4 : Int32} {pi5 : Int32} {s0 s9 : eS}, k6 h0 pi1 pi2 pi3 pi4 pi5 s0 = some s9 → EV E MX12_objects 6 [(0, VR (some h0)), (1, VI pi1), (2, VI pi2), (3, VI pi3), (4, VI pi4), (5, VI pi5)] [] s0 none s9) : ∀ (n : Nat) {h0 : Nat} {pi1 : Int32} {pi2 : Int32} {pi3 : Int32} {pi4 : Int32} {pi5 : Int32} {pi6 : Int32} {s0 s9 : eS}, mX12_objects_55 k6 n h0 pi1 pi2 pi3 pi4 pi5 pi6 s0 = some s9 → EV E MX12_objects 55 [(0, VR (some h0)), (1, VI pi1), (2, VI pi2), (3, VI pi3), (4, VI pi4), (5, VI pi5), (6, VI pi6)] [] s0 none s9 := by
  intro n
  induction n with
  | zero =>
    intro h0 pi1 pi2 pi3 pi4 pi5 pi6 s0 s9 h
    unfold mX12_objects_55 at h
    cases h
  | succ n ih =>
    intro h0 pi1 pi2 pi3 pi4 pi5 pi6 s0 s9 h
    unfold mX12_objects_55 at h
    refine EV_iload dX12_objects_55 rfl ?_
    refine EV_if_le (tgt := 106) dX12_objects_57 (by decide) (fun c1 => ?_) (fun c1 => ?_)
    · rw [if_pos c1] at h
      exact EV_pick [0, 1, 2, 3, 4, 5, 6] rfl (zX12_objects_106 E hk6 h)
    · rw [if_neg c1] at h
      refine EV_aload_n dX12_objects_60 rfl ?_
      have hh := b1_some h; clear h; obtain ⟨r2, hr2, h⟩ := hh
      refine EV_getP (ci := 12) (k := 3) dX12_objects_61 fl_X12_16 rfl hr2 ?_
      refine EV_aload_n dX12_objects_64 rfl ?_
      have hh := b1_some h; clear h; obtain ⟨r3, hr3, h⟩ := hh
      refine EV_getP (ci := 12) (k := 54) dX12_objects_65 fl_X12_105 rfl hr3 ?_
      refine EV_iload dX12_objects_68 rfl ?_
      refine EV_iconst (x := (1 : Int32)) dX12_objects_70 (by decide) ?_
      refine EV_isub dX12_objects_71 ?_
      have hh := b1_some h; clear h; obtain ⟨a4, ha4, h⟩ := hh
      subst ha4
      have hh := b1_some h; clear h; obtain ⟨x5, hx5, h⟩ := hh
      refine EV_aI (t := 0) (ty := .int) rfl (by decide) dX12_objects_72 hx5 ?_
      have hh := b1_some h; clear h; obtain ⟨a6, ha6, h⟩ := hh
      subst ha6
      have hh := b1_some h; clear h; obtain ⟨x7, hx7, h⟩ := hh
      refine EV_aI (t := 0) (ty := .int) rfl (by decide) dX12_objects_73 hx7 ?_
      refine EV_aload_n dX12_objects_74 rfl ?_
      have hh := b1_some h; clear h; obtain ⟨r8, hr8, h⟩ := hh
      refine EV_getP (ci := 12) (k := 3) dX12_objects_75 fl_X12_16 rfl hr8 ?_
      refine EV_iload dX12_objects_78 rfl ?_
      have hh := b1_some h; clear h; obtain ⟨a9, ha9, h⟩ := hh
      subst ha9
      have hh := b1_some h; clear h; obtain ⟨x10, hx10, h⟩ := hh
      refine EV_aI (t := 0) (ty := .int) rfl (by decide) dX12_objects_80 hx10 ?_
      refine EV_icmp_le (tgt := 106) dX12_objects_81 (by decide) (fun c11 => ?_) (fun c11 => ?_)
      · rw [if_pos c11] at h
        exact EV_pick [0, 1, 2, 3, 4, 5, 6] rfl (zX12_objects_106 E hk6 h)
      · rw [if_neg c11] at h
        refine EV_aload_n dX12_objects_84 rfl ?_
        have hh := b1_some h; clear h; obtain ⟨r12, hr12, h⟩ := hh
        refine EV_getP (ci := 12) (k := 54) dX12_objects_85 fl_X12_105 rfl hr12 ?_
        refine EV_iload dX12_objects_88 rfl ?_
        refine EV_aload_n dX12_objects_90 rfl ?_
        have hh := b1_some h; clear h; obtain ⟨r13, hr13, h⟩ := hh
        refine EV_getP (ci := 12) (k := 54) dX12_objects_91 fl_X12_105 rfl hr13 ?_
        refine EV_iload dX12_objects_94 rfl ?_
        refine EV_iconst (x := (1 : Int32)) dX12_objects_96 (by decide) ?_
        refine EV_isub dX12_objects_97 ?_
        have hh := b1_some h; clear h; obtain ⟨a14, ha14, h⟩ := hh
        subst ha14
        have hh := b1_some h; clear h; obtain ⟨x15, hx15, h⟩ := hh
        refine EV_aI (t := 0) (ty := .int) rfl (by decide) dX12_objects_98 hx15 ?_
        have hh := b1_some h; clear h; obtain ⟨a16, ha16, h⟩ := hh
        subst ha16
        have hh := b1_some h; clear h; obtain ⟨s17, hs17, h⟩ := hh
        refine EV_sI (t := 0) rfl dX12_objects_99 hs17 ?_
        refine EV_iinc (y := (-1 : Int32)) (lv2 := [(6, VI (pi6 + (-1 : Int32))), (0, VR (some h0)), (1, VI pi1), (2, VI pi2), (3, VI pi3), (4, VI pi4), (5, VI pi5)]) dX12_objects_100 rfl (by decide) (by decide) rfl ?_
        refine EV_goto (tgt := 55) dX12_objects_103 (by decide) ?_
        exact EV_pick [1, 2, 3, 4, 5, 6, 0] rfl (ih h)
def mX12_objects_51 (k6 : Nat → Int32 → Int32 → Int32 → Int32 → Int32 → eS → Option eS) (h0 : Nat) (pi1 : Int32) (pi2 : Int32) (pi3 : Int32) (pi4 : Int32) (pi5 : Int32) (s0 : eS) : Option eS :=
  (mX12_objects_55 k6 100000 h0 pi1 pi2 pi3 pi4 pi5 pi4 s0)
set_option maxRecDepth 100000 in
set_option maxHeartbeats 4000000 in
theorem zX12_objects_51 (E : eE) {k6 : Nat → Int32 → Int32 → Int32 → Int32 → Int32 → eS → Option eS} (hk6 : ∀ {h0 : Nat} {pi1 : Int32} {pi2 : Int32} {pi3 : Int32} {pi4 : Int32} {pi5 : Int32} {s0 s9 : eS}, k6 h0 pi1 pi2 pi3 pi4 pi5 s0 = some s9 → EV E MX12_objects 6 [(0, VR (some h0)), (1, VI pi1), (2, VI pi2), (3, VI pi3), (4, VI pi4), (5, VI pi5)] [] s0 none s9) {h0 : Nat} {pi1 : Int32} {pi2 : Int32} {pi3 : Int32} {pi4 : Int32} {pi5 : Int32} {s0 s9 : eS} (h : mX12_objects_51 k6 h0 pi1 pi2 pi3 pi4 pi5 s0 = some s9) : EV E MX12_objects 51 [(0, VR (some h0)), (1, VI pi1), (2, VI pi2), (3, VI pi3), (4, VI pi4), (5, VI pi5)] [] s0 none s9 := by
  unfold mX12_objects_51 at h
  refine EV_iload dX12_objects_51 rfl ?_
  refine EV_istore (lv2 := [(6, VI pi4), (0, VR (some h0)), (1, VI pi1), (2, VI pi2), (3, VI pi3), (4, VI pi4), (5, VI pi5)]) dX12_objects_53 (by decide) rfl ?_
  exact EV_pick [1, 2, 3, 4, 5, 6, 0] rfl (zX12_objects_55 E hk6 _ h)
def mX12_objects_32 (k6 : Nat → Int32 → Int32 → Int32 → Int32 → Int32 → eS → Option eS) (h0 : Nat) (pi1 : Int32) (pi2 : Int32) (pi3 : Int32) (pi4 : Int32) (pi5 : Int32) (pt0 : Int32) (s0 : eS) : Option eS :=
  (if pt0 = pi2 then (if pi1 = 0 then (mX12_objects_51 k6 h0 pi1 pi2 pi3 pi4 pi5 s0) else (b1 (g_P s0 112 4 h0) fun r3 => (b1 r3 fun a4 => (b1 (a_I s0 0 a4 pi5) fun x5 => (if x5 = pi1 then (mX12_objects_51 k6 h0 pi1 pi2 pi3 pi4 pi5 s0) else (mX12_objects_118 k6 h0 pi1 pi2 pi3 pi4 pi5 s0)))))) else (mX12_objects_118 k6 h0 pi1 pi2 pi3 pi4 pi5 s0))
set_option maxRecDepth 100000 in
set_option maxHeartbeats 4000000 in
theorem zX12_objects_32 (E : eE) {k6 : Nat → Int32 → Int32 → Int32 → Int32 → Int32 → eS → Option eS} (hk6 : ∀ {h0 : Nat} {pi1 : Int32} {pi2 : Int32} {pi3 : Int32} {pi4 : Int32} {pi5 : Int32} {s0 s9 : eS}, k6 h0 pi1 pi2 pi3 pi4 pi5 s0 = some s9 → EV E MX12_objects 6 [(0, VR (some h0)), (1, VI pi1), (2, VI pi2), (3, VI pi3), (4, VI pi4), (5, VI pi5)] [] s0 none s9) {h0 : Nat} {pi1 : Int32} {pi2 : Int32} {pi3 : Int32} {pi4 : Int32} {pi5 : Int32} {pt0 : Int32} {s0 s9 : eS} (h : mX12_objects_32 k6 h0 pi1 pi2 pi3 pi4 pi5 pt0 s0 = some s9) : EV E MX12_objects 32 [(0, VR (some h0)), (1, VI pi1), (2, VI pi2), (3, VI pi3), (4, VI pi4), (5, VI pi5)] [VI pt0] s0 none s9 := by
  unfold mX12_objects_32 at h
  refine EV_iload_n dX12_objects_32 rfl ?_
  refine EV_icmp_ne (tgt := 118) dX12_objects_33 (by decide) (fun c1 => ?_) (fun c1 => ?_)
  · rw [if_pos c1] at h
    refine EV_iload_n dX12_objects_36 rfl ?_
    refine EV_if_eq (tgt := 51) dX12_objects_37 (by decide) (fun c2 => ?_) (fun c2 => ?_)
    · rw [if_pos c2] at h
      exact EV_pick [0, 1, 2, 3, 4, 5] rfl (zX12_objects_51 E hk6 h)
    · rw [if_neg c2] at h
      refine EV_aload_n dX12_objects_40 rfl ?_
      have hh := b1_some h; clear h; obtain ⟨r3, hr3, h⟩ := hh
      refine EV_getP (ci := 12) (k := 4) dX12_objects_41 fl_X12_19 rfl hr3 ?_
      refine EV_iload dX12_objects_44 rfl ?_
      have hh := b1_some h; clear h; obtain ⟨a4, ha4, h⟩ := hh
      subst ha4
      have hh := b1_some h; clear h; obtain ⟨x5, hx5, h⟩ := hh
      refine EV_aI (t := 0) (ty := .int) rfl (by decide) dX12_objects_46 hx5 ?_
      refine EV_iload_n dX12_objects_47 rfl ?_
      refine EV_icmp_ne (tgt := 118) dX12_objects_48 (by decide) (fun c6 => ?_) (fun c6 => ?_)
      · rw [if_pos c6] at h
        exact EV_pick [0, 1, 2, 3, 4, 5] rfl (zX12_objects_51 E hk6 h)
      · rw [if_neg c6] at h
        exact EV_pick [0, 1, 2, 3, 4, 5] rfl (zX12_objects_118 E hk6 h)
  · rw [if_neg c1] at h
    exact EV_pick [0, 1, 2, 3, 4, 5] rfl (zX12_objects_118 E hk6 h)
def mX12_objects_6 : Nat → Nat → Int32 → Int32 → Int32 → Int32 → Int32 → eS → Option eS
  | 0, _, _, _, _, _, _, _ => none
  | n + 1, h0, pi1, pi2, pi3, pi4, pi5, s0 =>
  (b1 (g_I s0 112 1 h0) fun x1 => (if x1 ≤ pi5 then (mX12_objects_127 100000 h0 pi2 pi3 pi4 (0 : Int32) s0) else (b1 (g_P s0 112 2 h0) fun r3 => (b1 r3 fun a4 => (b1 (a_I s0 0 a4 pi5) fun x5 => (if x5 = (6 : Int32) then (mX12_objects_32 (mX12_objects_6 n) h0 pi1 pi2 pi3 pi4 pi5 (1 : Int32) s0) else (mX12_objects_32 (mX12_objects_6 n) h0 pi1 pi2 pi3 pi4 pi5 (0 : Int32) s0)))))))
set_option maxRecDepth 100000 in
set_option maxHeartbeats 4000000 in
theorem zX12_objects_6 (E : eE) : ∀ (n : Nat) {h0 : Nat} {pi1 : Int32} {pi2 : Int32} {pi3 : Int32} {pi4 : Int32} {pi5 : Int32} {s0 s9 : eS}, mX12_objects_6 n h0 pi1 pi2 pi3 pi4 pi5 s0 = some s9 → EV E MX12_objects 6 [(0, VR (some h0)), (1, VI pi1), (2, VI pi2), (3, VI pi3), (4, VI pi4), (5, VI pi5)] [] s0 none s9 := by
  intro n
  induction n with
  | zero =>
    intro h0 pi1 pi2 pi3 pi4 pi5 s0 s9 h
    unfold mX12_objects_6 at h
    cases h
  | succ n ih =>
    intro h0 pi1 pi2 pi3 pi4 pi5 s0 s9 h
    unfold mX12_objects_6 at h
    refine EV_iload dX12_objects_6 rfl ?_
    refine EV_aload_n dX12_objects_8 rfl ?_
    have hh := b1_some h; clear h; obtain ⟨x1, hx1, h⟩ := hh
    refine EV_getI (ci := 12) (k := 1) dX12_objects_9 fl_X12_108 rfl hx1 ?_
    refine EV_icmp_ge (tgt := 124) dX12_objects_12 (by decide) (fun c2 => ?_) (fun c2 => ?_)
    · rw [if_pos c2] at h
      refine EV_iconst (x := (0 : Int32)) dX12_objects_124 (by decide) ?_
      refine EV_istore (lv2 := [(5, VI (0 : Int32)), (0, VR (some h0)), (1, VI pi1), (2, VI pi2), (3, VI pi3), (4, VI pi4)]) dX12_objects_125 (by decide) rfl ?_
      exact EV_pick [1, 3, 4, 5, 0] rfl (zX12_objects_127 E _ h)
    · rw [if_neg c2] at h
      refine EV_aload_n dX12_objects_15 rfl ?_
      have hh := b1_some h; clear h; obtain ⟨r3, hr3, h⟩ := hh
      refine EV_getP (ci := 12) (k := 2) dX12_objects_16 fl_X12_13 rfl hr3 ?_
      refine EV_iload dX12_objects_19 rfl ?_
      have hh := b1_some h; clear h; obtain ⟨a4, ha4, h⟩ := hh
      subst ha4
      have hh := b1_some h; clear h; obtain ⟨x5, hx5, h⟩ := hh
      refine EV_aI (t := 0) (ty := .int) rfl (by decide) dX12_objects_21 hx5 ?_
      refine EV_bipush (x := (6 : Int32)) dX12_objects_22 (by decide) ?_
      refine EV_icmp_ne (tgt := 31) dX12_objects_24 (by decide) (fun c6 => ?_) (fun c6 => ?_)
      · rw [if_pos c6] at h
        refine EV_iconst (x := (1 : Int32)) dX12_objects_27 (by decide) ?_
        refine EV_goto (tgt := 32) dX12_objects_28 (by decide) ?_
        exact EV_pick [0, 1, 2, 3, 4, 5] rfl (zX12_objects_32 E (@ih) h)
      · rw [if_neg c6] at h
        refine EV_iconst (x := (0 : Int32)) dX12_objects_31 (by decide) ?_
        exact EV_pick [0, 1, 2, 3, 4, 5] rfl (zX12_objects_32 E (@ih) h)
def mX12_objects (h0 : Nat) (pi1 : Int32) (pi2 : Int32) (pi3 : Int32) (s0 : eS) : Option eS :=
  (mX12_objects_6 100000 h0 pi1 pi2 pi3 (0 : Int32) (0 : Int32) s0)
set_option maxRecDepth 100000 in
set_option maxHeartbeats 4000000 in
theorem zX12_objects (E : eE) {h0 : Nat} {pi1 : Int32} {pi2 : Int32} {pi3 : Int32} {s0 s9 : eS} (h : mX12_objects h0 pi1 pi2 pi3 s0 = some s9) : EM E YX12_objects [VR (some h0), VI pi1, VI pi2, VI pi3] s0 none s9 := by
  refine EM_of (M := MX12_objects) (own := RX12) (ini := false) rfl (by decide +kernel) rfl (fun z => nomatch z) (Nat.le_of_ble_eq_true rfl) ?_
  unfold mX12_objects at h
  refine EV_iconst (x := (0 : Int32)) dX12_objects_0 (by decide) ?_
  refine EV_istore (lv2 := [(4, VI (0 : Int32)), (0, VR (some h0)), (1, VI pi1), (2, VI pi2), (3, VI pi3)]) dX12_objects_1 (by decide) rfl ?_
  refine EV_iconst (x := (0 : Int32)) dX12_objects_3 (by decide) ?_
  refine EV_istore (lv2 := [(5, VI (0 : Int32)), (4, VI (0 : Int32)), (0, VR (some h0)), (1, VI pi1), (2, VI pi2), (3, VI pi3)]) dX12_objects_4 (by decide) rfl ?_
  exact EV_pick [2, 3, 4, 5, 1, 0] rfl (zX12_objects_6 E _ h)
def mX12_freezes_89 (pt0 : Int32) (pt1 : Int32) (pt2 : Option Nat) (s0 : eS) : Option eS :=
  (b1 pt2 fun a1 => (b1 (p_I s0 112 19 a1 (pt1 + pt0)) fun s2 => (some s2)))
set_option maxRecDepth 100000 in
set_option maxHeartbeats 4000000 in
theorem zX12_freezes_89 (E : eE) {pt0 : Int32} {pt1 : Int32} {pt2 : Option Nat} {s0 s9 : eS} (h : mX12_freezes_89 pt0 pt1 pt2 s0 = some s9) : EV E MX12_freezes 89 [] [VI pt0, VI pt1, VR pt2] s0 none s9 := by
  unfold mX12_freezes_89 at h
  refine EV_iadd dX12_freezes_89 ?_
  have hh := b1_some h; clear h; obtain ⟨a1, ha1, h⟩ := hh
  subst ha1
  have hh := b1_some h; clear h; obtain ⟨s2, hs2, h⟩ := hh
  refine EV_putI (ci := 12) (k := 19) dX12_freezes_90 fp_X12_219 rfl hs2 ?_
  cases h
  exact EV_ret ⟨dX12_freezes_93, rfl⟩ rfl
def mX12_freezes_68 (k2 : Nat → Int32 → Int32 → eS → Option eS) (h0 : Nat) (pi1 : Int32) (pi2 : Int32) (s0 : eS) : Option eS :=
  (k2 h0 pi1 (pi2 + (1 : Int32)) s0)
set_option maxRecDepth 100000 in
set_option maxHeartbeats 4000000 in
theorem zX12_freezes_68 (E : eE) {k2 : Nat → Int32 → Int32 → eS → Option eS} (hk2 : ∀ {h0 : Nat} {pi1 : Int32} {pi2 : Int32} {s0 s9 : eS}, k2 h0 pi1 pi2 s0 = some s9 → EV E MX12_freezes 2 [(0, VR (some h0)), (1, VI pi1), (2, VI pi2)] [] s0 none s9) {h0 : Nat} {pi1 : Int32} {pi2 : Int32} {s0 s9 : eS} (h : mX12_freezes_68 k2 h0 pi1 pi2 s0 = some s9) : EV E MX12_freezes 68 [(0, VR (some h0)), (1, VI pi1), (2, VI pi2)] [] s0 none s9 := by
  unfold mX12_freezes_68 at h
  refine EV_iinc (y := (1 : Int32)) (lv2 := [(2, VI (pi2 + (1 : Int32))), (0, VR (some h0)), (1, VI pi1)]) dX12_freezes_68 rfl (by decide) (by decide) rfl ?_
  refine EV_goto (tgt := 2) dX12_freezes_71 (by decide) ?_
  exact EV_pick [1, 2, 0] rfl (hk2 h)
def mX12_freezes_67 (k2 : Nat → Int32 → Int32 → eS → Option eS) (h0 : Nat) (pi1 : Int32) (pi2 : Int32) (pt0 : Int32) (pt1 : Int32) (pt2 : Option Nat) (s0 : eS) : Option eS :=
  (b1 pt2 fun a1 => (b1 (s_I s0 0 a1 pt1 pt0) fun s2 => (mX12_freezes_68 k2 h0 pi1 pi2 s2)))
set_option maxRecDepth 100000 in
set_option maxHeartbeats 4000000 in
theorem zX12_freezes_67 (E : eE) {k2 : Nat → Int32 → Int32 → eS → Option eS} (hk2 : ∀ {h0 : Nat} {pi1 : Int32} {pi2 : Int32} {s0 s9 : eS}, k2 h0 pi1 pi2 s0 = some s9 → EV E MX12_freezes 2 [(0, VR (some h0)), (1, VI pi1), (2, VI pi2)] [] s0 none s9) {h0 : Nat} {pi1 : Int32} {pi2 : Int32} {pt0 : Int32} {pt1 : Int32} {pt2 : Option Nat} {s0 s9 : eS} (h : mX12_freezes_67 k2 h0 pi1 pi2 pt0 pt1 pt2 s0 = some s9) : EV E MX12_freezes 67 [(0, VR (some h0)), (1, VI pi1), (2, VI pi2)] [VI pt0, VI pt1, VR pt2] s0 none s9 := by
  unfold mX12_freezes_67 at h
  have hh := b1_some h; clear h; obtain ⟨a1, ha1, h⟩ := hh
  subst ha1
  have hh := b1_some h; clear h; obtain ⟨s2, hs2, h⟩ := hh
  refine EV_sI (t := 0) rfl dX12_freezes_67 hs2 ?_
  exact EV_pick [0, 1, 2] rfl (zX12_freezes_68 E hk2 h)
def mX12_freezes_46 (k2 : Nat → Int32 → Int32 → eS → Option eS) (h0 : Nat) (pi1 : Int32) (pi2 : Int32) (pt0 : Int32) (pt1 : Int32) (pt2 : Option Nat) (s0 : eS) : Option eS :=
  (b1 pt2 fun a1 => (b1 (s_I s0 0 a1 pt1 pt0) fun s2 => (b1 (g_P s2 112 6 h0) fun r3 => (if pi1 ≤ (1 : Int32) then (b1 (g_P s2 112 6 h0) fun r5 => (b1 r5 fun a6 => (b1 (a_I s2 0 a6 pi2) fun x7 => (mX12_freezes_67 k2 h0 pi1 pi2 x7 pi2 r3 s2)))) else (mX12_freezes_67 k2 h0 pi1 pi2 (0 : Int32) pi2 r3 s2)))))
set_option maxRecDepth 100000 in
set_option maxHeartbeats 4000000 in
theorem zX12_freezes_46 (E : eE) {k2 : Nat → Int32 → Int32 → eS → Option eS} (hk2 : ∀ {h0 : Nat} {pi1 : Int32} {pi2 : Int32} {s0 s9 : eS}, k2 h0 pi1 pi2 s0 = some s9 → EV E MX12_freezes 2 [(0, VR (some h0)), (1, VI pi1), (2, VI pi2)] [] s0 none s9) {h0 : Nat} {pi1 : Int32} {pi2 : Int32} {pt0 : Int32} {pt1 : Int32} {pt2 : Option Nat} {s0 s9 : eS} (h : mX12_freezes_46 k2 h0 pi1 pi2 pt0 pt1 pt2 s0 = some s9) : EV E MX12_freezes 46 [(0, VR (some h0)), (1, VI pi1), (2, VI pi2)] [VI pt0, VI pt1, VR pt2] s0 none s9 := by
  unfold mX12_freezes_46 at h
  have hh := b1_some h; clear h; obtain ⟨a1, ha1, h⟩ := hh
  subst ha1
  have hh := b1_some h; clear h; obtain ⟨s2, hs2, h⟩ := hh
  refine EV_sI (t := 0) rfl dX12_freezes_46 hs2 ?_
  refine EV_aload_n dX12_freezes_47 rfl ?_
  have hh := b1_some h; clear h; obtain ⟨r3, hr3, h⟩ := hh
  refine EV_getP (ci := 12) (k := 6) dX12_freezes_48 fl_X12_26 rfl hr3 ?_
  refine EV_iload_n dX12_freezes_51 rfl ?_
  refine EV_iload_n dX12_freezes_52 rfl ?_
  refine EV_iconst (x := (1 : Int32)) dX12_freezes_53 (by decide) ?_
  refine EV_icmp_le (tgt := 61) dX12_freezes_54 (by decide) (fun c4 => ?_) (fun c4 => ?_)
  · rw [if_pos c4] at h
    refine EV_aload_n dX12_freezes_61 rfl ?_
    have hh := b1_some h; clear h; obtain ⟨r5, hr5, h⟩ := hh
    refine EV_getP (ci := 12) (k := 6) dX12_freezes_62 fl_X12_26 rfl hr5 ?_
    refine EV_iload_n dX12_freezes_65 rfl ?_
    have hh := b1_some h; clear h; obtain ⟨a6, ha6, h⟩ := hh
    subst ha6
    have hh := b1_some h; clear h; obtain ⟨x7, hx7, h⟩ := hh
    refine EV_aI (t := 0) (ty := .int) rfl (by decide) dX12_freezes_66 hx7 ?_
    exact EV_pick [0, 1, 2] rfl (zX12_freezes_67 E hk2 h)
  · rw [if_neg c4] at h
    refine EV_iconst (x := (0 : Int32)) dX12_freezes_57 (by decide) ?_
    refine EV_goto (tgt := 67) dX12_freezes_58 (by decide) ?_
    exact EV_pick [0, 1, 2] rfl (zX12_freezes_67 E hk2 h)
def mX12_freezes_2 : Nat → Nat → Int32 → Int32 → eS → Option eS
  | 0, _, _, _, _ => none
  | n + 1, h0, pi1, pi2, s0 =>
  (b1 (g_I s0 112 1 h0) fun x1 => (if x1 ≤ pi2 then (b1 (g_I s0 112 19 h0) fun x3 => (if (3 : Int32) ≤ pi1 then (mX12_freezes_89 (0 : Int32) x3 (some h0) s0) else (mX12_freezes_89 (1 : Int32) x3 (some h0) s0))) else (b1 (g_P s0 112 2 h0) fun r3 => (b1 r3 fun a4 => (b1 (a_I s0 0 a4 pi2) fun x5 => (if x5 = (6 : Int32) then (b1 (g_P s0 112 8 h0) fun r7 => (if (3 : Int32) ≤ pi1 then (b1 (g_P s0 112 8 h0) fun r9 => (b1 r9 fun a10 => (b1 (a_I s0 0 a10 pi2) fun x11 => (mX12_freezes_46 (mX12_freezes_2 n) h0 pi1 pi2 x11 pi2 r7 s0)))) else (b1 (g_P s0 112 6 h0) fun r9 => (b1 r9 fun a10 => (b1 (a_I s0 0 a10 pi2) fun x11 => (mX12_freezes_46 (mX12_freezes_2 n) h0 pi1 pi2 x11 pi2 r7 s0)))))) else (mX12_freezes_68 (mX12_freezes_2 n) h0 pi1 pi2 s0)))))))
set_option maxRecDepth 100000 in
set_option maxHeartbeats 4000000 in
theorem zX12_freezes_2 (E : eE) : ∀ (n : Nat) {h0 : Nat} {pi1 : Int32} {pi2 : Int32} {s0 s9 : eS}, mX12_freezes_2 n h0 pi1 pi2 s0 = some s9 → EV E MX12_freezes 2 [(0, VR (some h0)), (1, VI pi1), (2, VI pi2)] [] s0 none s9 := by
  intro n
  induction n with
  | zero =>
    intro h0 pi1 pi2 s0 s9 h
    unfold mX12_freezes_2 at h
    cases h
  | succ n ih =>
    intro h0 pi1 pi2 s0 s9 h
    unfold mX12_freezes_2 at h
    refine EV_iload_n dX12_freezes_2 rfl ?_
    refine EV_aload_n dX12_freezes_3 rfl ?_
    have hh := b1_some h; clear h; obtain ⟨x1, hx1, h⟩ := hh
    refine EV_getI (ci := 12) (k := 1) dX12_freezes_4 fl_X12_108 rfl hx1 ?_
    refine EV_icmp_ge (tgt := 74) dX12_freezes_7 (by decide) (fun c2 => ?_) (fun c2 => ?_)
    · rw [if_pos c2] at h
      refine EV_aload_n dX12_freezes_74 rfl ?_
      refine EV_dup dX12_freezes_75 rfl ?_
      have hh := b1_some h; clear h; obtain ⟨x3, hx3, h⟩ := hh
      refine EV_getI (ci := 12) (k := 19) dX12_freezes_76 fl_X12_219 rfl hx3 ?_
      refine EV_iload_n dX12_freezes_79 rfl ?_
      refine EV_iconst (x := (3 : Int32)) dX12_freezes_80 (by decide) ?_
      refine EV_icmp_ge (tgt := 88) dX12_freezes_81 (by decide) (fun c4 => ?_) (fun c4 => ?_)
      · rw [if_pos c4] at h
        refine EV_iconst (x := (0 : Int32)) dX12_freezes_88 (by decide) ?_
        exact EV_pick [] rfl (zX12_freezes_89 E h)
      · rw [if_neg c4] at h
        refine EV_iconst (x := (1 : Int32)) dX12_freezes_84 (by decide) ?_
        refine EV_goto (tgt := 89) dX12_freezes_85 (by decide) ?_
        exact EV_pick [] rfl (zX12_freezes_89 E h)
    · rw [if_neg c2] at h
      refine EV_aload_n dX12_freezes_10 rfl ?_
      have hh := b1_some h; clear h; obtain ⟨r3, hr3, h⟩ := hh
      refine EV_getP (ci := 12) (k := 2) dX12_freezes_11 fl_X12_13 rfl hr3 ?_
      refine EV_iload_n dX12_freezes_14 rfl ?_
      have hh := b1_some h; clear h; obtain ⟨a4, ha4, h⟩ := hh
      subst ha4
      have hh := b1_some h; clear h; obtain ⟨x5, hx5, h⟩ := hh
      refine EV_aI (t := 0) (ty := .int) rfl (by decide) dX12_freezes_15 hx5 ?_
      refine EV_bipush (x := (6 : Int32)) dX12_freezes_16 (by decide) ?_
      refine EV_icmp_ne (tgt := 68) dX12_freezes_18 (by decide) (fun c6 => ?_) (fun c6 => ?_)
      · rw [if_pos c6] at h
        refine EV_aload_n dX12_freezes_21 rfl ?_
        have hh := b1_some h; clear h; obtain ⟨r7, hr7, h⟩ := hh
        refine EV_getP (ci := 12) (k := 8) dX12_freezes_22 fl_X12_32 rfl hr7 ?_
        refine EV_iload_n dX12_freezes_25 rfl ?_
        refine EV_iload_n dX12_freezes_26 rfl ?_
        refine EV_iconst (x := (3 : Int32)) dX12_freezes_27 (by decide) ?_
        refine EV_icmp_ge (tgt := 40) dX12_freezes_28 (by decide) (fun c8 => ?_) (fun c8 => ?_)
        · rw [if_pos c8] at h
          refine EV_aload_n dX12_freezes_40 rfl ?_
          have hh := b1_some h; clear h; obtain ⟨r9, hr9, h⟩ := hh
          refine EV_getP (ci := 12) (k := 8) dX12_freezes_41 fl_X12_32 rfl hr9 ?_
          refine EV_iload_n dX12_freezes_44 rfl ?_
          have hh := b1_some h; clear h; obtain ⟨a10, ha10, h⟩ := hh
          subst ha10
          have hh := b1_some h; clear h; obtain ⟨x11, hx11, h⟩ := hh
          refine EV_aI (t := 0) (ty := .int) rfl (by decide) dX12_freezes_45 hx11 ?_
          exact EV_pick [0, 1, 2] rfl (zX12_freezes_46 E (@ih) h)
        · rw [if_neg c8] at h
          refine EV_aload_n dX12_freezes_31 rfl ?_
          have hh := b1_some h; clear h; obtain ⟨r9, hr9, h⟩ := hh
          refine EV_getP (ci := 12) (k := 6) dX12_freezes_32 fl_X12_26 rfl hr9 ?_
          refine EV_iload_n dX12_freezes_35 rfl ?_
          have hh := b1_some h; clear h; obtain ⟨a10, ha10, h⟩ := hh
          subst ha10
          have hh := b1_some h; clear h; obtain ⟨x11, hx11, h⟩ := hh
          refine EV_aI (t := 0) (ty := .int) rfl (by decide) dX12_freezes_36 hx11 ?_
          refine EV_goto (tgt := 46) dX12_freezes_37 (by decide) ?_
          exact EV_pick [0, 1, 2] rfl (zX12_freezes_46 E (@ih) h)
      · rw [if_neg c6] at h
        exact EV_pick [0, 1, 2] rfl (zX12_freezes_68 E (@ih) h)
def mX12_freezes (h0 : Nat) (pi1 : Int32) (s0 : eS) : Option eS :=
  (mX12_freezes_2 100000 h0 pi1 (0 : Int32) s0)
set_option maxRecDepth 100000 in
set_option maxHeartbeats 4000000 in
theorem zX12_freezes (E : eE) {h0 : Nat} {pi1 : Int32} {s0 s9 : eS} (h : mX12_freezes h0 pi1 s0 = some s9) : EM E YX12_freezes [VR (some h0), VI pi1] s0 none s9 := by
  refine EM_of (M := MX12_freezes) (own := RX12) (ini := false) rfl (by decide +kernel) rfl (fun z => nomatch z) (Nat.le_of_ble_eq_true rfl) ?_
  unfold mX12_freezes at h
  refine EV_iconst (x := (0 : Int32)) dX12_freezes_0 (by decide) ?_
  refine EV_istore_n (lv2 := [(2, VI (0 : Int32)), (0, VR (some h0)), (1, VI pi1)]) dX12_freezes_1 (by decide) rfl ?_
  exact EV_pick [1, 2, 0] rfl (zX12_freezes_2 E _ h)
def mX12_daysOf_51 (pt0 : Int32) (s0 : eS) : Option (Int32 × eS) :=
  (some (pt0, s0))
set_option maxRecDepth 100000 in
set_option maxHeartbeats 4000000 in
theorem zX12_daysOf_51 (E : eE) {pt0 : Int32} {s0 s9 : eS} {y : Int32} (h : mX12_daysOf_51 pt0 s0 = some (y, s9)) : EV E MX12_daysOf 51 [] [VI pt0] s0 (some (VI y)) s9 := by
  unfold mX12_daysOf_51 at h
  cases h
  exact EV_ret ⟨dX12_daysOf_51, .int, rfl, rfl⟩ rfl
def mX12_daysOf_44 (s0 : eS) : Option (Int32 × eS) :=
  (mX12_daysOf_51 (30 : Int32) s0)
set_option maxRecDepth 100000 in
set_option maxHeartbeats 4000000 in
theorem zX12_daysOf_44 (E : eE) {s0 s9 : eS} {y : Int32} (h : mX12_daysOf_44 s0 = some (y, s9)) : EV E MX12_daysOf 44 [] [] s0 (some (VI y)) s9 := by
  unfold mX12_daysOf_44 at h
  refine EV_bipush (x := (30 : Int32)) dX12_daysOf_44 (by decide) ?_
  refine EV_goto (tgt := 51) dX12_daysOf_46 (by decide) ?_
  exact EV_pick [] rfl (zX12_daysOf_51 E h)
def mX12_daysOf (pi0 : Int32) (pi1 : Int32) (s0 : eS) : Option (Int32 × eS) :=
  (if pi0 = (2 : Int32) then (if (pi1 - pi1 / (4 : Int32) * (4 : Int32)) = 0 then (mX12_daysOf_51 (29 : Int32) s0) else (mX12_daysOf_51 (28 : Int32) s0)) else (if pi0 = (4 : Int32) then (mX12_daysOf_44 s0) else (if pi0 = (6 : Int32) then (mX12_daysOf_44 s0) else (if pi0 = (9 : Int32) then (mX12_daysOf_44 s0) else (if pi0 = (11 : Int32) then (mX12_daysOf_44 s0) else (mX12_daysOf_51 (31 : Int32) s0))))))
set_option maxRecDepth 100000 in
set_option maxHeartbeats 4000000 in
theorem zX12_daysOf (E : eE) {pi0 : Int32} {pi1 : Int32} {s0 s9 : eS} {y : Int32} (h : mX12_daysOf pi0 pi1 s0 = some (y, s9)) : EM E YX12_daysOf [VI pi0, VI pi1] s0 (some (VI y)) s9 := by
  refine EM_of (M := MX12_daysOf) (own := RX12) (ini := false) rfl (by decide +kernel) rfl (fun z => nomatch z) (Nat.le_of_ble_eq_true rfl) ?_
  unfold mX12_daysOf at h
  refine EV_iload_n dX12_daysOf_0 rfl ?_
  refine EV_iconst (x := (2 : Int32)) dX12_daysOf_1 (by decide) ?_
  refine EV_icmp_ne (tgt := 21) dX12_daysOf_2 (by decide) (fun c1 => ?_) (fun c1 => ?_)
  · rw [if_pos c1] at h
    refine EV_iload_n dX12_daysOf_5 rfl ?_
    refine EV_iconst (x := (4 : Int32)) dX12_daysOf_6 (by decide) ?_
    refine EV_irem dX12_daysOf_7 (by decide) ?_
    refine EV_if_ne (tgt := 16) dX12_daysOf_8 (by decide) (fun c2 => ?_) (fun c2 => ?_)
    · rw [if_pos c2] at h
      refine EV_bipush (x := (29 : Int32)) dX12_daysOf_11 (by decide) ?_
      refine EV_goto (tgt := 51) dX12_daysOf_13 (by decide) ?_
      exact EV_pick [] rfl (zX12_daysOf_51 E h)
    · rw [if_neg c2] at h
      refine EV_bipush (x := (28 : Int32)) dX12_daysOf_16 (by decide) ?_
      refine EV_goto (tgt := 51) dX12_daysOf_18 (by decide) ?_
      exact EV_pick [] rfl (zX12_daysOf_51 E h)
  · rw [if_neg c1] at h
    refine EV_iload_n dX12_daysOf_21 rfl ?_
    refine EV_iconst (x := (4 : Int32)) dX12_daysOf_22 (by decide) ?_
    refine EV_icmp_eq (tgt := 44) dX12_daysOf_23 (by decide) (fun c2 => ?_) (fun c2 => ?_)
    · rw [if_pos c2] at h
      exact EV_pick [] rfl (zX12_daysOf_44 E h)
    · rw [if_neg c2] at h
      refine EV_iload_n dX12_daysOf_26 rfl ?_
      refine EV_bipush (x := (6 : Int32)) dX12_daysOf_27 (by decide) ?_
      refine EV_icmp_eq (tgt := 44) dX12_daysOf_29 (by decide) (fun c3 => ?_) (fun c3 => ?_)
      · rw [if_pos c3] at h
        exact EV_pick [] rfl (zX12_daysOf_44 E h)
      · rw [if_neg c3] at h
        refine EV_iload_n dX12_daysOf_32 rfl ?_
        refine EV_bipush (x := (9 : Int32)) dX12_daysOf_33 (by decide) ?_
        refine EV_icmp_eq (tgt := 44) dX12_daysOf_35 (by decide) (fun c4 => ?_) (fun c4 => ?_)
        · rw [if_pos c4] at h
          exact EV_pick [] rfl (zX12_daysOf_44 E h)
        · rw [if_neg c4] at h
          refine EV_iload_n dX12_daysOf_38 rfl ?_
          refine EV_bipush (x := (11 : Int32)) dX12_daysOf_39 (by decide) ?_
          refine EV_icmp_ne (tgt := 49) dX12_daysOf_41 (by decide) (fun c5 => ?_) (fun c5 => ?_)
          · rw [if_pos c5] at h
            exact EV_pick [] rfl (zX12_daysOf_44 E h)
          · rw [if_neg c5] at h
            refine EV_bipush (x := (31 : Int32)) dX12_daysOf_49 (by decide) ?_
            exact EV_pick [] rfl (zX12_daysOf_51 E h)
def mX12_isTime_102 (pt0 : Int32) (s0 : eS) : Option (Int32 × eS) :=
  (b1 (o_Z pt0) fun u1 => some (pt0, s0))
set_option maxRecDepth 100000 in
set_option maxHeartbeats 4000000 in
theorem zX12_isTime_102 (E : eE) {pt0 : Int32} {s0 s9 : eS} {y : Int32} (h : mX12_isTime_102 pt0 s0 = some (y, s9)) : EV E MX12_isTime 102 [] [VI pt0] s0 (some (VI y)) s9 := by
  unfold mX12_isTime_102 at h
  have hh := b1_some h; clear h; obtain ⟨u1, hu1, h⟩ := hh
  cases h
  exact EV_ret ⟨dX12_isTime_102, .boolean, rfl, o_Z_n hu1⟩ rfl
def mX12_isTime_101 (s0 : eS) : Option (Int32 × eS) :=
  (mX12_isTime_102 (0 : Int32) s0)
set_option maxRecDepth 100000 in
set_option maxHeartbeats 4000000 in
theorem zX12_isTime_101 (E : eE) {s0 s9 : eS} {y : Int32} (h : mX12_isTime_101 s0 = some (y, s9)) : EV E MX12_isTime 101 [] [] s0 (some (VI y)) s9 := by
  unfold mX12_isTime_101 at h
  refine EV_iconst (x := (0 : Int32)) dX12_isTime_101 (by decide) ?_
  exact EV_pick [] rfl (zX12_isTime_102 E h)
def mX12_isTime (h0 : Nat) (s0 : eS) : Option (Int32 × eS) :=
  (b1 (o_K s0 112 h0) fun u33 => (b2 (mX12_at h0 (14 : Int32) s0) fun x2 s1 => (b1 (o_K s1 112 h0) fun u32 => (b2 (mX12_at h0 (15 : Int32) s1) fun x4 s3 => (b1 (o_K s3 112 h0) fun u31 => (b2 (mX12_at h0 (9 : Int32) s3) fun x6 s5 => (b1 (o_K s5 112 h0) fun u30 => (b2 (mX12_at h0 (10 : Int32) s5) fun x8 s7 => (if (60000 : Int32) ≤ (x6 + ((256 : Int32) * x8)) then (mX12_isTime_101 s7) else (b1 (o_K s7 112 h0) fun u29 => (b2 (mX12_at h0 (11 : Int32) s7) fun x11 s10 => (if (60 : Int32) ≤ x11 then (mX12_isTime_101 s10) else (b1 (o_K s10 112 h0) fun u28 => (b2 (mX12_at h0 (12 : Int32) s10) fun x14 s13 => (if (24 : Int32) ≤ x14 then (mX12_isTime_101 s13) else (b2 (mX12_in ((x2).toInt64) (1 : Int64) (12 : Int64) s13) fun x17 s16 => (if x17 = 0 then (mX12_isTime_101 s16) else (if (100 : Int32) ≤ x4 then (mX12_isTime_101 s16) else (b1 (o_K s16 112 h0) fun u27 => (b2 (mX12_at h0 (13 : Int32) s16) fun x21 s20 => (b2 (mX12_daysOf x2 x4 s20) fun x23 s22 => (b2 (mX12_in ((x21).toInt64) (1 : Int64) ((x23).toInt64) s22) fun x25 s24 => (if x25 = 0 then (mX12_isTime_101 s24) else (mX12_isTime_102 (1 : Int32) s24))))))))))))))))))))))))
set_option maxRecDepth 100000 in
set_option maxHeartbeats 4000000 in
theorem zX12_isTime (E : eE) {h0 : Nat} {s0 s9 : eS} {y : Int32} (h : mX12_isTime h0 s0 = some (y, s9)) : EM E YX12_isTime [VR (some h0)] s0 (some (VI y)) s9 := by
  refine EM_of (M := MX12_isTime) (own := RX12) (ini := false) rfl (by decide +kernel) rfl (fun z => nomatch z) (Nat.le_of_ble_eq_true rfl) ?_
  unfold mX12_isTime at h
  refine EV_aload_n dX12_isTime_0 rfl ?_
  refine EV_bipush (x := (14 : Int32)) dX12_isTime_1 (by decide) ?_
  have hh := b1_some h; clear h; obtain ⟨u33, hu33, h⟩ := hh
  have hh := b2_some h; clear h; obtain ⟨x2, s1, hs1, h⟩ := hh
  refine EV_callV (Y := YX12_at) (as := [VI (14 : Int32)]) (st := []) (st2 := [VI x2]) (a := h0) (ci := 12) (r := rX12) (n := 1) dX12_isTime_3 (zX12_at E hs1) rfl cwX12_at rfl tw_1246 tw_1248 tw_54 rfl (e_if hu33).1.1 (e_if hu33).1.2 ⟨by decide, by decide⟩ (Nat.le_of_ble_eq_true rfl) rfl ?_
  refine EV_istore_n (lv2 := [(1, VI x2), (0, VR (some h0))]) dX12_isTime_6 (by decide) rfl ?_
  refine EV_aload_n dX12_isTime_7 rfl ?_
  refine EV_bipush (x := (15 : Int32)) dX12_isTime_8 (by decide) ?_
  have hh := b1_some h; clear h; obtain ⟨u32, hu32, h⟩ := hh
  have hh := b2_some h; clear h; obtain ⟨x4, s3, hs3, h⟩ := hh
  refine EV_callV (Y := YX12_at) (as := [VI (15 : Int32)]) (st := []) (st2 := [VI x4]) (a := h0) (ci := 12) (r := rX12) (n := 1) dX12_isTime_10 (zX12_at E hs3) rfl cwX12_at rfl tw_1246 tw_1248 tw_54 rfl (e_if hu32).1.1 (e_if hu32).1.2 ⟨by decide, by decide⟩ (Nat.le_of_ble_eq_true rfl) rfl ?_
  refine EV_istore_n (lv2 := [(2, VI x4), (1, VI x2), (0, VR (some h0))]) dX12_isTime_13 (by decide) rfl ?_
  refine EV_aload_n dX12_isTime_14 rfl ?_
  refine EV_bipush (x := (9 : Int32)) dX12_isTime_15 (by decide) ?_
  have hh := b1_some h; clear h; obtain ⟨u31, hu31, h⟩ := hh
  have hh := b2_some h; clear h; obtain ⟨x6, s5, hs5, h⟩ := hh
  refine EV_callV (Y := YX12_at) (as := [VI (9 : Int32)]) (st := []) (st2 := [VI x6]) (a := h0) (ci := 12) (r := rX12) (n := 1) dX12_isTime_17 (zX12_at E hs5) rfl cwX12_at rfl tw_1246 tw_1248 tw_54 rfl (e_if hu31).1.1 (e_if hu31).1.2 ⟨by decide, by decide⟩ (Nat.le_of_ble_eq_true rfl) rfl ?_
  refine EV_sipush (x := (256 : Int32)) dX12_isTime_20 (by decide) ?_
  refine EV_aload_n dX12_isTime_23 rfl ?_
  refine EV_bipush (x := (10 : Int32)) dX12_isTime_24 (by decide) ?_
  have hh := b1_some h; clear h; obtain ⟨u30, hu30, h⟩ := hh
  have hh := b2_some h; clear h; obtain ⟨x8, s7, hs7, h⟩ := hh
  refine EV_callV (Y := YX12_at) (as := [VI (10 : Int32)]) (st := [VI (256 : Int32), VI x6]) (st2 := [VI x8, VI (256 : Int32), VI x6]) (a := h0) (ci := 12) (r := rX12) (n := 1) dX12_isTime_26 (zX12_at E hs7) rfl cwX12_at rfl tw_1246 tw_1248 tw_54 rfl (e_if hu30).1.1 (e_if hu30).1.2 ⟨by decide, by decide⟩ (Nat.le_of_ble_eq_true rfl) rfl ?_
  refine EV_imul dX12_isTime_29 ?_
  refine EV_iadd dX12_isTime_30 ?_
  refine EV_ldcw (x := (60000 : Int32)) dX12_isTime_31 tw_1310 ?_
  refine EV_icmp_ge (tgt := 101) dX12_isTime_34 (by decide) (fun c9 => ?_) (fun c9 => ?_)
  · rw [if_pos c9] at h
    exact EV_pick [] rfl (zX12_isTime_101 E h)
  · rw [if_neg c9] at h
    refine EV_aload_n dX12_isTime_37 rfl ?_
    refine EV_bipush (x := (11 : Int32)) dX12_isTime_38 (by decide) ?_
    have hh := b1_some h; clear h; obtain ⟨u29, hu29, h⟩ := hh
    have hh := b2_some h; clear h; obtain ⟨x11, s10, hs10, h⟩ := hh
    refine EV_callV (Y := YX12_at) (as := [VI (11 : Int32)]) (st := []) (st2 := [VI x11]) (a := h0) (ci := 12) (r := rX12) (n := 1) dX12_isTime_40 (zX12_at E hs10) rfl cwX12_at rfl tw_1246 tw_1248 tw_54 rfl (e_if hu29).1.1 (e_if hu29).1.2 ⟨by decide, by decide⟩ (Nat.le_of_ble_eq_true rfl) rfl ?_
    refine EV_bipush (x := (60 : Int32)) dX12_isTime_43 (by decide) ?_
    refine EV_icmp_ge (tgt := 101) dX12_isTime_45 (by decide) (fun c12 => ?_) (fun c12 => ?_)
    · rw [if_pos c12] at h
      exact EV_pick [] rfl (zX12_isTime_101 E h)
    · rw [if_neg c12] at h
      refine EV_aload_n dX12_isTime_48 rfl ?_
      refine EV_bipush (x := (12 : Int32)) dX12_isTime_49 (by decide) ?_
      have hh := b1_some h; clear h; obtain ⟨u28, hu28, h⟩ := hh
      have hh := b2_some h; clear h; obtain ⟨x14, s13, hs13, h⟩ := hh
      refine EV_callV (Y := YX12_at) (as := [VI (12 : Int32)]) (st := []) (st2 := [VI x14]) (a := h0) (ci := 12) (r := rX12) (n := 1) dX12_isTime_51 (zX12_at E hs13) rfl cwX12_at rfl tw_1246 tw_1248 tw_54 rfl (e_if hu28).1.1 (e_if hu28).1.2 ⟨by decide, by decide⟩ (Nat.le_of_ble_eq_true rfl) rfl ?_
      refine EV_bipush (x := (24 : Int32)) dX12_isTime_54 (by decide) ?_
      refine EV_icmp_ge (tgt := 101) dX12_isTime_56 (by decide) (fun c15 => ?_) (fun c15 => ?_)
      · rw [if_pos c15] at h
        exact EV_pick [] rfl (zX12_isTime_101 E h)
      · rw [if_neg c15] at h
        refine EV_iload_n dX12_isTime_59 rfl ?_
        refine EV_i2l dX12_isTime_60 ?_
        refine EV_lconst (x := (1 : Int64)) dX12_isTime_61 (by decide) ?_
        refine EV_ldc2 (x := (12 : Int64)) dX12_isTime_62 tw_1107 ?_
        have hh := b2_some h; clear h; obtain ⟨x17, s16, hs16, h⟩ := hh
        refine EV_callS (Y := YX12_in) (as := [VL ((x2).toInt64), VL (1 : Int64), VL (12 : Int64)]) (st := []) (st2 := [VI x17]) (n := 3) dX12_isTime_65 (zX12_in E hs16) rfl cwX12_in rfl tw_1104 tw_1105 ⟨by decide, by decide⟩ (Nat.le_of_ble_eq_true rfl) rfl ?_
        refine EV_if_eq (tgt := 101) dX12_isTime_68 (by decide) (fun c18 => ?_) (fun c18 => ?_)
        · rw [if_pos c18] at h
          exact EV_pick [] rfl (zX12_isTime_101 E h)
        · rw [if_neg c18] at h
          refine EV_iload_n dX12_isTime_71 rfl ?_
          refine EV_bipush (x := (100 : Int32)) dX12_isTime_72 (by decide) ?_
          refine EV_icmp_ge (tgt := 101) dX12_isTime_74 (by decide) (fun c19 => ?_) (fun c19 => ?_)
          · rw [if_pos c19] at h
            exact EV_pick [] rfl (zX12_isTime_101 E h)
          · rw [if_neg c19] at h
            refine EV_aload_n dX12_isTime_77 rfl ?_
            refine EV_bipush (x := (13 : Int32)) dX12_isTime_78 (by decide) ?_
            have hh := b1_some h; clear h; obtain ⟨u27, hu27, h⟩ := hh
            have hh := b2_some h; clear h; obtain ⟨x21, s20, hs20, h⟩ := hh
            refine EV_callV (Y := YX12_at) (as := [VI (13 : Int32)]) (st := []) (st2 := [VI x21]) (a := h0) (ci := 12) (r := rX12) (n := 1) dX12_isTime_80 (zX12_at E hs20) rfl cwX12_at rfl tw_1246 tw_1248 tw_54 rfl (e_if hu27).1.1 (e_if hu27).1.2 ⟨by decide, by decide⟩ (Nat.le_of_ble_eq_true rfl) rfl ?_
            refine EV_i2l dX12_isTime_83 ?_
            refine EV_lconst (x := (1 : Int64)) dX12_isTime_84 (by decide) ?_
            refine EV_iload_n dX12_isTime_85 rfl ?_
            refine EV_iload_n dX12_isTime_86 rfl ?_
            have hh := b2_some h; clear h; obtain ⟨x23, s22, hs22, h⟩ := hh
            refine EV_callS (Y := YX12_daysOf) (as := [VI x2, VI x4]) (st := [VL (1 : Int64), VL ((x21).toInt64)]) (st2 := [VI x23, VL (1 : Int64), VL ((x21).toInt64)]) (n := 2) dX12_isTime_87 (zX12_daysOf E hs22) rfl cwX12_daysOf rfl tw_1311 tw_1312 ⟨by decide, by decide⟩ (Nat.le_of_ble_eq_true rfl) rfl ?_
            refine EV_i2l dX12_isTime_90 ?_
            have hh := b2_some h; clear h; obtain ⟨x25, s24, hs24, h⟩ := hh
            refine EV_callS (Y := YX12_in) (as := [VL ((x21).toInt64), VL (1 : Int64), VL ((x23).toInt64)]) (st := []) (st2 := [VI x25]) (n := 3) dX12_isTime_91 (zX12_in E hs24) rfl cwX12_in rfl tw_1104 tw_1105 ⟨by decide, by decide⟩ (Nat.le_of_ble_eq_true rfl) rfl ?_
            refine EV_if_eq (tgt := 101) dX12_isTime_94 (by decide) (fun c26 => ?_) (fun c26 => ?_)
            · rw [if_pos c26] at h
              exact EV_pick [] rfl (zX12_isTime_101 E h)
            · rw [if_neg c26] at h
              refine EV_iconst (x := (1 : Int32)) dX12_isTime_97 (by decide) ?_
              refine EV_goto (tgt := 102) dX12_isTime_98 (by decide) ?_
              exact EV_pick [] rfl (zX12_isTime_102 E h)
def mX12_asked_355 (s0 : eS) : Option eS :=
  (some s0)
set_option maxRecDepth 100000 in
set_option maxHeartbeats 4000000 in
theorem zX12_asked_355 (E : eE) {s0 s9 : eS} (h : mX12_asked_355 s0 = some s9) : EV E MX12_asked 355 [] [] s0 none s9 := by
  unfold mX12_asked_355 at h
  cases h
  exact EV_ret ⟨dX12_asked_355, rfl⟩ rfl
def mX12_asked_104 (s0 : eS) : Option eS :=
  (mX12_asked_355 s0)
set_option maxRecDepth 100000 in
set_option maxHeartbeats 4000000 in
theorem zX12_asked_104 (E : eE) {s0 s9 : eS} (h : mX12_asked_104 s0 = some s9) : EV E MX12_asked 104 [] [] s0 none s9 := by
  unfold mX12_asked_104 at h
  refine EV_goto (tgt := 355) dX12_asked_104 (by decide) ?_
  exact EV_pick [] rfl (zX12_asked_355 E h)
def mX12_asked_85 (h0 : Nat) (pi4 : Int32) (s0 : eS) : Option eS :=
  (if pi4 = 0 then (mX12_asked_104 s0) else (b1 (g_I s0 112 35 h0) fun x2 => (if x2 = 0 then (mX12_asked_104 s0) else (b1 (o_K s0 112 h0) fun u6 => (b1 (mX12_same h0 (10 : Int32) (0 : Int32) s0) fun s4 => (mX12_asked_104 s4))))))
set_option maxRecDepth 100000 in
set_option maxHeartbeats 4000000 in
theorem zX12_asked_85 (E : eE) {h0 : Nat} {pi4 : Int32} {s0 s9 : eS} (h : mX12_asked_85 h0 pi4 s0 = some s9) : EV E MX12_asked 85 [(0, VR (some h0)), (4, VI pi4)] [] s0 none s9 := by
  unfold mX12_asked_85 at h
  refine EV_iload dX12_asked_85 rfl ?_
  refine EV_if_eq (tgt := 104) dX12_asked_87 (by decide) (fun c1 => ?_) (fun c1 => ?_)
  · rw [if_pos c1] at h
    exact EV_pick [] rfl (zX12_asked_104 E h)
  · rw [if_neg c1] at h
    refine EV_aload_n dX12_asked_90 rfl ?_
    have hh := b1_some h; clear h; obtain ⟨x2, hx2, h⟩ := hh
    refine EV_getI (ci := 12) (k := 35) dX12_asked_91 fl_X12_125 rfl hx2 ?_
    refine EV_if_eq (tgt := 104) dX12_asked_94 (by decide) (fun c3 => ?_) (fun c3 => ?_)
    · rw [if_pos c3] at h
      exact EV_pick [] rfl (zX12_asked_104 E h)
    · rw [if_neg c3] at h
      refine EV_aload_n dX12_asked_97 rfl ?_
      refine EV_bipush (x := (10 : Int32)) dX12_asked_98 (by decide) ?_
      refine EV_iconst (x := (0 : Int32)) dX12_asked_100 (by decide) ?_
      have hh := b1_some h; clear h; obtain ⟨u6, hu6, h⟩ := hh
      have hh := b1_some h; clear h; obtain ⟨s4, hs4, h⟩ := hh
      refine EV_callV (Y := YX12_same) (as := [VI (10 : Int32), VI (0 : Int32)]) (st := []) (st2 := []) (a := h0) (ci := 12) (r := rX12) (n := 2) dX12_asked_101 (zX12_same E hs4) rfl cwX12_same rfl tw_1256 tw_1258 tw_55 rfl (e_if hu6).1.1 (e_if hu6).1.2 ⟨by decide, by decide⟩ (Nat.le_of_ble_eq_true rfl) rfl ?_
      exact EV_pick [] rfl (zX12_asked_104 E h)
def mX12_asked_53 (h0 : Nat) (pi3 : Int32) (pi4 : Int32) (pt0 : Int32) (pt1 : Int32) (pt2 : Option Nat) (s0 : eS) : Option eS :=
  (b1 pt2 fun a1 => (b1 (o_K s0 112 a1) fun u14 => (b1 (mX12_same a1 pt1 pt0 s0) fun s2 => (if pi4 = 0 then (mX12_asked_85 h0 pi4 s2) else (b1 (o_K s2 112 h0) fun u13 => (b2 (mX12_isTest h0 s2) fun x6 s5 => (if x6 = 0 then (b1 (g_I s5 112 35 h0) fun x8 => (if x8 = 0 then (mX12_asked_85 h0 pi4 s5) else (b1 (o_K s5 112 h0) fun u12 => (b1 (mX12_objects h0 (pi3 - (20 : Int32)) (0 : Int32) pi3 s5) fun s10 => (mX12_asked_85 h0 pi4 s10))))) else (mX12_asked_85 h0 pi4 s5))))))))
set_option maxRecDepth 100000 in
set_option maxHeartbeats 4000000 in
theorem zX12_asked_53 (E : eE) {h0 : Nat} {pi3 : Int32} {pi4 : Int32} {pt0 : Int32} {pt1 : Int32} {pt2 : Option Nat} {s0 s9 : eS} (h : mX12_asked_53 h0 pi3 pi4 pt0 pt1 pt2 s0 = some s9) : EV E MX12_asked 53 [(0, VR (some h0)), (3, VI pi3), (4, VI pi4)] [VI pt0, VI pt1, VR pt2] s0 none s9 := by
  unfold mX12_asked_53 at h
  have hh := b1_some h; clear h; obtain ⟨a1, ha1, h⟩ := hh
  subst ha1
  have hh := b1_some h; clear h; obtain ⟨u14, hu14, h⟩ := hh
  have hh := b1_some h; clear h; obtain ⟨s2, hs2, h⟩ := hh
  refine EV_callV (Y := YX12_same) (as := [VI pt1, VI pt0]) (st := []) (st2 := []) (a := a1) (ci := 12) (r := rX12) (n := 2) dX12_asked_53 (zX12_same E hs2) rfl cwX12_same rfl tw_1256 tw_1258 tw_55 rfl (e_if hu14).1.1 (e_if hu14).1.2 ⟨by decide, by decide⟩ (Nat.le_of_ble_eq_true rfl) rfl ?_
  refine EV_iload dX12_asked_56 rfl ?_
  refine EV_if_eq (tgt := 85) dX12_asked_58 (by decide) (fun c4 => ?_) (fun c4 => ?_)
  · rw [if_pos c4] at h
    exact EV_pick [0, 2] rfl (zX12_asked_85 E h)
  · rw [if_neg c4] at h
    refine EV_aload_n dX12_asked_61 rfl ?_
    have hh := b1_some h; clear h; obtain ⟨u13, hu13, h⟩ := hh
    have hh := b2_some h; clear h; obtain ⟨x6, s5, hs5, h⟩ := hh
    refine EV_callV (Y := YX12_isTest) (as := []) (st := []) (st2 := [VI x6]) (a := h0) (ci := 12) (r := rX12) (n := 0) dX12_asked_62 (zX12_isTest E hs5) rfl cwX12_isTest rfl tw_1272 tw_1274 tw_58 rfl (e_if hu13).1.1 (e_if hu13).1.2 ⟨by decide, by decide⟩ (Nat.le_of_ble_eq_true rfl) rfl ?_
    refine EV_if_ne (tgt := 85) dX12_asked_65 (by decide) (fun c7 => ?_) (fun c7 => ?_)
    · rw [if_pos c7] at h
      refine EV_aload_n dX12_asked_68 rfl ?_
      have hh := b1_some h; clear h; obtain ⟨x8, hx8, h⟩ := hh
      refine EV_getI (ci := 12) (k := 35) dX12_asked_69 fl_X12_125 rfl hx8 ?_
      refine EV_if_eq (tgt := 85) dX12_asked_72 (by decide) (fun c9 => ?_) (fun c9 => ?_)
      · rw [if_pos c9] at h
        exact EV_pick [0, 2] rfl (zX12_asked_85 E h)
      · rw [if_neg c9] at h
        refine EV_aload_n dX12_asked_75 rfl ?_
        refine EV_iload_n dX12_asked_76 rfl ?_
        refine EV_bipush (x := (20 : Int32)) dX12_asked_77 (by decide) ?_
        refine EV_isub dX12_asked_79 ?_
        refine EV_iconst (x := (0 : Int32)) dX12_asked_80 (by decide) ?_
        refine EV_iload_n dX12_asked_81 rfl ?_
        have hh := b1_some h; clear h; obtain ⟨u12, hu12, h⟩ := hh
        have hh := b1_some h; clear h; obtain ⟨s10, hs10, h⟩ := hh
        refine EV_callV (Y := YX12_objects) (as := [VI (pi3 - (20 : Int32)), VI (0 : Int32), VI pi3]) (st := []) (st2 := []) (a := h0) (ci := 12) (r := rX12) (n := 3) dX12_asked_82 (zX12_objects E hs10) rfl cwX12_objects rfl tw_1298 tw_1300 tw_64 rfl (e_if hu12).1.1 (e_if hu12).1.2 ⟨by decide, by decide⟩ (Nat.le_of_ble_eq_true rfl) rfl ?_
        exact EV_pick [0, 2] rfl (zX12_asked_85 E h)
    · rw [if_neg c7] at h
      exact EV_pick [0, 2] rfl (zX12_asked_85 E h)
def mX12_asked_208 (s0 : eS) : Option eS :=
  (mX12_asked_355 s0)
set_option maxRecDepth 100000 in
set_option maxHeartbeats 4000000 in
theorem zX12_asked_208 (E : eE) {s0 s9 : eS} (h : mX12_asked_208 s0 = some s9) : EV E MX12_asked 208 [] [] s0 none s9 := by
  unfold mX12_asked_208 at h
  refine EV_goto (tgt := 355) dX12_asked_208 (by decide) ?_
  exact EV_pick [] rfl (zX12_asked_355 E h)
def mX12_asked_189 (h0 : Nat) (pi4 : Int32) (s0 : eS) : Option eS :=
  (if pi4 = 0 then (mX12_asked_208 s0) else (b1 (g_I s0 112 35 h0) fun x2 => (if x2 = 0 then (mX12_asked_208 s0) else (b1 (o_K s0 112 h0) fun u6 => (b1 (mX12_same h0 (10 : Int32) (0 : Int32) s0) fun s4 => (mX12_asked_208 s4))))))
set_option maxRecDepth 100000 in
set_option maxHeartbeats 4000000 in
theorem zX12_asked_189 (E : eE) {h0 : Nat} {pi4 : Int32} {s0 s9 : eS} (h : mX12_asked_189 h0 pi4 s0 = some s9) : EV E MX12_asked 189 [(0, VR (some h0)), (4, VI pi4)] [] s0 none s9 := by
  unfold mX12_asked_189 at h
  refine EV_iload dX12_asked_189 rfl ?_
  refine EV_if_eq (tgt := 208) dX12_asked_191 (by decide) (fun c1 => ?_) (fun c1 => ?_)
  · rw [if_pos c1] at h
    exact EV_pick [] rfl (zX12_asked_208 E h)
  · rw [if_neg c1] at h
    refine EV_aload_n dX12_asked_194 rfl ?_
    have hh := b1_some h; clear h; obtain ⟨x2, hx2, h⟩ := hh
    refine EV_getI (ci := 12) (k := 35) dX12_asked_195 fl_X12_125 rfl hx2 ?_
    refine EV_if_eq (tgt := 208) dX12_asked_198 (by decide) (fun c3 => ?_) (fun c3 => ?_)
    · rw [if_pos c3] at h
      exact EV_pick [] rfl (zX12_asked_208 E h)
    · rw [if_neg c3] at h
      refine EV_aload_n dX12_asked_201 rfl ?_
      refine EV_bipush (x := (10 : Int32)) dX12_asked_202 (by decide) ?_
      refine EV_iconst (x := (0 : Int32)) dX12_asked_204 (by decide) ?_
      have hh := b1_some h; clear h; obtain ⟨u6, hu6, h⟩ := hh
      have hh := b1_some h; clear h; obtain ⟨s4, hs4, h⟩ := hh
      refine EV_callV (Y := YX12_same) (as := [VI (10 : Int32), VI (0 : Int32)]) (st := []) (st2 := []) (a := h0) (ci := 12) (r := rX12) (n := 2) dX12_asked_205 (zX12_same E hs4) rfl cwX12_same rfl tw_1256 tw_1258 tw_55 rfl (e_if hu6).1.1 (e_if hu6).1.2 ⟨by decide, by decide⟩ (Nat.le_of_ble_eq_true rfl) rfl ?_
      exact EV_pick [] rfl (zX12_asked_208 E h)
def mX12_asked_141 (h0 : Nat) (pi3 : Int32) (pi4 : Int32) (pt0 : Int32) (pt1 : Int32) (pt2 : Option Nat) (s0 : eS) : Option eS :=
  (b1 pt2 fun a1 => (b1 (o_K s0 112 a1) fun u15 => (b1 (mX12_same a1 pt1 pt0 s0) fun s2 => (if pi4 = 0 then (mX12_asked_189 h0 pi4 s2) else (b1 (o_K s2 112 h0) fun u14 => (b2 (mX12_isTest h0 s2) fun x6 s5 => (if x6 = 0 then (b1 (g_I s5 112 35 h0) fun x8 => (if x8 = 0 then (mX12_asked_189 h0 pi4 s5) else (if (pi3 >>> ((6 : Int32) &&& 31)) = 0 then (b1 (o_K s5 112 h0) fun u13 => (b1 (mX12_objects h0 (0 : Int32) (1 : Int32) (37 : Int32) s5) fun s11 => (mX12_asked_189 h0 pi4 s11))) else (b1 (o_K s5 112 h0) fun u13 => (b1 (mX12_freezes h0 (pi3 >>> ((6 : Int32) &&& 31)) s5) fun s11 => (mX12_asked_189 h0 pi4 s11)))))) else (mX12_asked_189 h0 pi4 s5))))))))
set_option maxRecDepth 100000 in
set_option maxHeartbeats 4000000 in
theorem zX12_asked_141 (E : eE) {h0 : Nat} {pi3 : Int32} {pi4 : Int32} {pt0 : Int32} {pt1 : Int32} {pt2 : Option Nat} {s0 s9 : eS} (h : mX12_asked_141 h0 pi3 pi4 pt0 pt1 pt2 s0 = some s9) : EV E MX12_asked 141 [(0, VR (some h0)), (3, VI pi3), (4, VI pi4)] [VI pt0, VI pt1, VR pt2] s0 none s9 := by
  unfold mX12_asked_141 at h
  have hh := b1_some h; clear h; obtain ⟨a1, ha1, h⟩ := hh
  subst ha1
  have hh := b1_some h; clear h; obtain ⟨u15, hu15, h⟩ := hh
  have hh := b1_some h; clear h; obtain ⟨s2, hs2, h⟩ := hh
  refine EV_callV (Y := YX12_same) (as := [VI pt1, VI pt0]) (st := []) (st2 := []) (a := a1) (ci := 12) (r := rX12) (n := 2) dX12_asked_141 (zX12_same E hs2) rfl cwX12_same rfl tw_1256 tw_1258 tw_55 rfl (e_if hu15).1.1 (e_if hu15).1.2 ⟨by decide, by decide⟩ (Nat.le_of_ble_eq_true rfl) rfl ?_
  refine EV_iload dX12_asked_144 rfl ?_
  refine EV_if_eq (tgt := 189) dX12_asked_146 (by decide) (fun c4 => ?_) (fun c4 => ?_)
  · rw [if_pos c4] at h
    exact EV_pick [0, 2] rfl (zX12_asked_189 E h)
  · rw [if_neg c4] at h
    refine EV_aload_n dX12_asked_149 rfl ?_
    have hh := b1_some h; clear h; obtain ⟨u14, hu14, h⟩ := hh
    have hh := b2_some h; clear h; obtain ⟨x6, s5, hs5, h⟩ := hh
    refine EV_callV (Y := YX12_isTest) (as := []) (st := []) (st2 := [VI x6]) (a := h0) (ci := 12) (r := rX12) (n := 0) dX12_asked_150 (zX12_isTest E hs5) rfl cwX12_isTest rfl tw_1272 tw_1274 tw_58 rfl (e_if hu14).1.1 (e_if hu14).1.2 ⟨by decide, by decide⟩ (Nat.le_of_ble_eq_true rfl) rfl ?_
    refine EV_if_ne (tgt := 189) dX12_asked_153 (by decide) (fun c7 => ?_) (fun c7 => ?_)
    · rw [if_pos c7] at h
      refine EV_aload_n dX12_asked_156 rfl ?_
      have hh := b1_some h; clear h; obtain ⟨x8, hx8, h⟩ := hh
      refine EV_getI (ci := 12) (k := 35) dX12_asked_157 fl_X12_125 rfl hx8 ?_
      refine EV_if_eq (tgt := 189) dX12_asked_160 (by decide) (fun c9 => ?_) (fun c9 => ?_)
      · rw [if_pos c9] at h
        exact EV_pick [0, 2] rfl (zX12_asked_189 E h)
      · rw [if_neg c9] at h
        refine EV_iload_n dX12_asked_163 rfl ?_
        refine EV_bipush (x := (6 : Int32)) dX12_asked_164 (by decide) ?_
        refine EV_ishr dX12_asked_166 ?_
        refine EV_if_ne (tgt := 181) dX12_asked_167 (by decide) (fun c10 => ?_) (fun c10 => ?_)
        · rw [if_pos c10] at h
          refine EV_aload_n dX12_asked_170 rfl ?_
          refine EV_iconst (x := (0 : Int32)) dX12_asked_171 (by decide) ?_
          refine EV_iconst (x := (1 : Int32)) dX12_asked_172 (by decide) ?_
          refine EV_bipush (x := (37 : Int32)) dX12_asked_173 (by decide) ?_
          have hh := b1_some h; clear h; obtain ⟨u13, hu13, h⟩ := hh
          have hh := b1_some h; clear h; obtain ⟨s11, hs11, h⟩ := hh
          refine EV_callV (Y := YX12_objects) (as := [VI (0 : Int32), VI (1 : Int32), VI (37 : Int32)]) (st := []) (st2 := []) (a := h0) (ci := 12) (r := rX12) (n := 3) dX12_asked_175 (zX12_objects E hs11) rfl cwX12_objects rfl tw_1298 tw_1300 tw_64 rfl (e_if hu13).1.1 (e_if hu13).1.2 ⟨by decide, by decide⟩ (Nat.le_of_ble_eq_true rfl) rfl ?_
          refine EV_goto (tgt := 189) dX12_asked_178 (by decide) ?_
          exact EV_pick [0, 2] rfl (zX12_asked_189 E h)
        · rw [if_neg c10] at h
          refine EV_aload_n dX12_asked_181 rfl ?_
          refine EV_iload_n dX12_asked_182 rfl ?_
          refine EV_bipush (x := (6 : Int32)) dX12_asked_183 (by decide) ?_
          refine EV_ishr dX12_asked_185 ?_
          have hh := b1_some h; clear h; obtain ⟨u13, hu13, h⟩ := hh
          have hh := b1_some h; clear h; obtain ⟨s11, hs11, h⟩ := hh
          refine EV_callV (Y := YX12_freezes) (as := [VI (pi3 >>> ((6 : Int32) &&& 31))]) (st := []) (st2 := []) (a := h0) (ci := 12) (r := rX12) (n := 1) dX12_asked_186 (zX12_freezes E hs11) rfl cwX12_freezes rfl tw_1302 tw_1304 tw_65 rfl (e_if hu13).1.1 (e_if hu13).1.2 ⟨by decide, by decide⟩ (Nat.le_of_ble_eq_true rfl) rfl ?_
          exact EV_pick [0, 2] rfl (zX12_asked_189 E h)
    · rw [if_neg c7] at h
      exact EV_pick [0, 2] rfl (zX12_asked_189 E h)
def mX12_asked_126 (h0 : Nat) (pi3 : Int32) (pt0 : Int32) (s0 : eS) : Option eS :=
  (if pt0 = 0 then (mX12_asked_141 h0 pi3 pt0 (1 : Int32) (7 : Int32) (some h0) s0) else (mX12_asked_141 h0 pi3 pt0 (0 : Int32) (7 : Int32) (some h0) s0))
set_option maxRecDepth 100000 in
set_option maxHeartbeats 4000000 in
theorem zX12_asked_126 (E : eE) {h0 : Nat} {pi3 : Int32} {pt0 : Int32} {s0 s9 : eS} (h : mX12_asked_126 h0 pi3 pt0 s0 = some s9) : EV E MX12_asked 126 [(0, VR (some h0)), (3, VI pi3)] [VI pt0] s0 none s9 := by
  unfold mX12_asked_126 at h
  refine EV_istore (lv2 := [(4, VI pt0), (0, VR (some h0)), (3, VI pi3)]) dX12_asked_126 (by decide) rfl ?_
  refine EV_aload_n dX12_asked_128 rfl ?_
  refine EV_bipush (x := (7 : Int32)) dX12_asked_129 (by decide) ?_
  refine EV_iload dX12_asked_131 rfl ?_
  refine EV_if_ne (tgt := 140) dX12_asked_133 (by decide) (fun c1 => ?_) (fun c1 => ?_)
  · rw [if_pos c1] at h
    refine EV_iconst (x := (1 : Int32)) dX12_asked_136 (by decide) ?_
    refine EV_goto (tgt := 141) dX12_asked_137 (by decide) ?_
    exact EV_pick [1, 2, 0] rfl (zX12_asked_141 E h)
  · rw [if_neg c1] at h
    refine EV_iconst (x := (0 : Int32)) dX12_asked_140 (by decide) ?_
    exact EV_pick [1, 2, 0] rfl (zX12_asked_141 E h)
def mX12_asked_318 (s0 : eS) : Option eS :=
  (mX12_asked_355 s0)
set_option maxRecDepth 100000 in
set_option maxHeartbeats 4000000 in
theorem zX12_asked_318 (E : eE) {s0 s9 : eS} (h : mX12_asked_318 s0 = some s9) : EV E MX12_asked 318 [] [] s0 none s9 := by
  unfold mX12_asked_318 at h
  refine EV_goto (tgt := 355) dX12_asked_318 (by decide) ?_
  exact EV_pick [] rfl (zX12_asked_355 E h)
def mX12_asked_284 : Nat → Nat → Int32 → eS → Option eS
  | 0, _, _, _ => none
  | n + 1, h0, pi5, s0 =>
  (if (6 : Int32) ≤ pi5 then (b1 (p_Z s0 112 22 h0 (1 : Int32)) fun s2 => (mX12_asked_318 s2)) else (b1 (g_P s0 112 21 h0) fun r2 => (b1 (o_K s0 112 h0) fun u7 => (b2 (mX12_at h0 ((10 : Int32) + pi5) s0) fun x4 s3 => (b1 r2 fun a5 => (b1 (s_I s3 0 a5 pi5 x4) fun s6 => (mX12_asked_284 n h0 (pi5 + (1 : Int32)) s6)))))))
set_option maxRecDepth 100000 in
set_option maxHeartbeats 4000000 in
theorem zX12_asked_284 (E : eE) : ∀ (n : Nat) {h0 : Nat} {pi5 : Int32} {s0 s9 : eS}, mX12_asked_284 n h0 pi5 s0 = some s9 → EV E MX12_asked 284 [(0, VR (some h0)), (5, VI pi5)] [] s0 none s9 := by
  intro n
  induction n with
  | zero =>
    intro h0 pi5 s0 s9 h
    unfold mX12_asked_284 at h
    cases h
  | succ n ih =>
    intro h0 pi5 s0 s9 h
    unfold mX12_asked_284 at h
    refine EV_iload dX12_asked_284 rfl ?_
    refine EV_bipush (x := (6 : Int32)) dX12_asked_286 (by decide) ?_
    refine EV_icmp_ge (tgt := 313) dX12_asked_288 (by decide) (fun c1 => ?_) (fun c1 => ?_)
    · rw [if_pos c1] at h
      refine EV_aload_n dX12_asked_313 rfl ?_
      refine EV_iconst (x := (1 : Int32)) dX12_asked_314 (by decide) ?_
      have hh := b1_some h; clear h; obtain ⟨s2, hs2, h⟩ := hh
      refine EV_putZ (ci := 12) (k := 22) dX12_asked_315 fp_X12_168 rfl hs2 ?_
      exact EV_pick [] rfl (zX12_asked_318 E h)
    · rw [if_neg c1] at h
      refine EV_aload_n dX12_asked_291 rfl ?_
      have hh := b1_some h; clear h; obtain ⟨r2, hr2, h⟩ := hh
      refine EV_getP (ci := 12) (k := 21) dX12_asked_292 fl_X12_57 rfl hr2 ?_
      refine EV_iload dX12_asked_295 rfl ?_
      refine EV_aload_n dX12_asked_297 rfl ?_
      refine EV_bipush (x := (10 : Int32)) dX12_asked_298 (by decide) ?_
      refine EV_iload dX12_asked_300 rfl ?_
      refine EV_iadd dX12_asked_302 ?_
      have hh := b1_some h; clear h; obtain ⟨u7, hu7, h⟩ := hh
      have hh := b2_some h; clear h; obtain ⟨x4, s3, hs3, h⟩ := hh
      refine EV_callV (Y := YX12_at) (as := [VI ((10 : Int32) + pi5)]) (st := [VI pi5, VR r2]) (st2 := [VI x4, VI pi5, VR r2]) (a := h0) (ci := 12) (r := rX12) (n := 1) dX12_asked_303 (zX12_at E hs3) rfl cwX12_at rfl tw_1246 tw_1248 tw_54 rfl (e_if hu7).1.1 (e_if hu7).1.2 ⟨by decide, by decide⟩ (Nat.le_of_ble_eq_true rfl) rfl ?_
      have hh := b1_some h; clear h; obtain ⟨a5, ha5, h⟩ := hh
      subst ha5
      have hh := b1_some h; clear h; obtain ⟨s6, hs6, h⟩ := hh
      refine EV_sI (t := 0) rfl dX12_asked_306 hs6 ?_
      refine EV_iinc (y := (1 : Int32)) (lv2 := [(5, VI (pi5 + (1 : Int32))), (0, VR (some h0))]) dX12_asked_307 rfl (by decide) (by decide) rfl ?_
      refine EV_goto (tgt := 284) dX12_asked_310 (by decide) ?_
      exact EV_pick [1, 0] rfl (ih h)
def mX12_asked_236 (h0 : Nat) (pi4 : Int32) (pt0 : Int32) (pt1 : Int32) (pt2 : Option Nat) (s0 : eS) : Option eS :=
  (b1 pt2 fun a1 => (b1 (o_K s0 112 a1) fun u20 => (b1 (mX12_same a1 pt1 pt0 s0) fun s2 => (if pi4 = 0 then (mX12_asked_318 s2) else (b1 (o_K s2 112 h0) fun u19 => (b2 (mX12_isTest h0 s2) fun x6 s5 => (if x6 = 0 then (b1 (g_I s5 112 35 h0) fun x8 => (if x8 = 0 then (mX12_asked_318 s5) else (b1 (g_P s5 112 21 h0) fun r10 => (b1 (o_K s5 112 h0) fun u18 => (b2 (mX12_at h0 (9 : Int32) s5) fun x12 s11 => (b1 (o_K s11 112 h0) fun u17 => (b2 (mX12_at h0 (10 : Int32) s11) fun x14 s13 => (b1 r10 fun a15 => (b1 (s_I s13 0 a15 (0 : Int32) (x12 + ((256 : Int32) * x14))) fun s16 => (mX12_asked_284 100000 h0 (1 : Int32) s16)))))))))) else (mX12_asked_318 s5))))))))
set_option maxRecDepth 100000 in
set_option maxHeartbeats 4000000 in
theorem zX12_asked_236 (E : eE) {h0 : Nat} {pi4 : Int32} {pt0 : Int32} {pt1 : Int32} {pt2 : Option Nat} {s0 s9 : eS} (h : mX12_asked_236 h0 pi4 pt0 pt1 pt2 s0 = some s9) : EV E MX12_asked 236 [(0, VR (some h0)), (4, VI pi4)] [VI pt0, VI pt1, VR pt2] s0 none s9 := by
  unfold mX12_asked_236 at h
  have hh := b1_some h; clear h; obtain ⟨a1, ha1, h⟩ := hh
  subst ha1
  have hh := b1_some h; clear h; obtain ⟨u20, hu20, h⟩ := hh
  have hh := b1_some h; clear h; obtain ⟨s2, hs2, h⟩ := hh
  refine EV_callV (Y := YX12_same) (as := [VI pt1, VI pt0]) (st := []) (st2 := []) (a := a1) (ci := 12) (r := rX12) (n := 2) dX12_asked_236 (zX12_same E hs2) rfl cwX12_same rfl tw_1256 tw_1258 tw_55 rfl (e_if hu20).1.1 (e_if hu20).1.2 ⟨by decide, by decide⟩ (Nat.le_of_ble_eq_true rfl) rfl ?_
  refine EV_iload dX12_asked_239 rfl ?_
  refine EV_if_eq (tgt := 318) dX12_asked_241 (by decide) (fun c4 => ?_) (fun c4 => ?_)
  · rw [if_pos c4] at h
    exact EV_pick [] rfl (zX12_asked_318 E h)
  · rw [if_neg c4] at h
    refine EV_aload_n dX12_asked_244 rfl ?_
    have hh := b1_some h; clear h; obtain ⟨u19, hu19, h⟩ := hh
    have hh := b2_some h; clear h; obtain ⟨x6, s5, hs5, h⟩ := hh
    refine EV_callV (Y := YX12_isTest) (as := []) (st := []) (st2 := [VI x6]) (a := h0) (ci := 12) (r := rX12) (n := 0) dX12_asked_245 (zX12_isTest E hs5) rfl cwX12_isTest rfl tw_1272 tw_1274 tw_58 rfl (e_if hu19).1.1 (e_if hu19).1.2 ⟨by decide, by decide⟩ (Nat.le_of_ble_eq_true rfl) rfl ?_
    refine EV_if_ne (tgt := 318) dX12_asked_248 (by decide) (fun c7 => ?_) (fun c7 => ?_)
    · rw [if_pos c7] at h
      refine EV_aload_n dX12_asked_251 rfl ?_
      have hh := b1_some h; clear h; obtain ⟨x8, hx8, h⟩ := hh
      refine EV_getI (ci := 12) (k := 35) dX12_asked_252 fl_X12_125 rfl hx8 ?_
      refine EV_if_eq (tgt := 318) dX12_asked_255 (by decide) (fun c9 => ?_) (fun c9 => ?_)
      · rw [if_pos c9] at h
        exact EV_pick [] rfl (zX12_asked_318 E h)
      · rw [if_neg c9] at h
        refine EV_aload_n dX12_asked_258 rfl ?_
        have hh := b1_some h; clear h; obtain ⟨r10, hr10, h⟩ := hh
        refine EV_getP (ci := 12) (k := 21) dX12_asked_259 fl_X12_57 rfl hr10 ?_
        refine EV_iconst (x := (0 : Int32)) dX12_asked_262 (by decide) ?_
        refine EV_aload_n dX12_asked_263 rfl ?_
        refine EV_bipush (x := (9 : Int32)) dX12_asked_264 (by decide) ?_
        have hh := b1_some h; clear h; obtain ⟨u18, hu18, h⟩ := hh
        have hh := b2_some h; clear h; obtain ⟨x12, s11, hs11, h⟩ := hh
        refine EV_callV (Y := YX12_at) (as := [VI (9 : Int32)]) (st := [VI (0 : Int32), VR r10]) (st2 := [VI x12, VI (0 : Int32), VR r10]) (a := h0) (ci := 12) (r := rX12) (n := 1) dX12_asked_266 (zX12_at E hs11) rfl cwX12_at rfl tw_1246 tw_1248 tw_54 rfl (e_if hu18).1.1 (e_if hu18).1.2 ⟨by decide, by decide⟩ (Nat.le_of_ble_eq_true rfl) rfl ?_
        refine EV_sipush (x := (256 : Int32)) dX12_asked_269 (by decide) ?_
        refine EV_aload_n dX12_asked_272 rfl ?_
        refine EV_bipush (x := (10 : Int32)) dX12_asked_273 (by decide) ?_
        have hh := b1_some h; clear h; obtain ⟨u17, hu17, h⟩ := hh
        have hh := b2_some h; clear h; obtain ⟨x14, s13, hs13, h⟩ := hh
        refine EV_callV (Y := YX12_at) (as := [VI (10 : Int32)]) (st := [VI (256 : Int32), VI x12, VI (0 : Int32), VR r10]) (st2 := [VI x14, VI (256 : Int32), VI x12, VI (0 : Int32), VR r10]) (a := h0) (ci := 12) (r := rX12) (n := 1) dX12_asked_275 (zX12_at E hs13) rfl cwX12_at rfl tw_1246 tw_1248 tw_54 rfl (e_if hu17).1.1 (e_if hu17).1.2 ⟨by decide, by decide⟩ (Nat.le_of_ble_eq_true rfl) rfl ?_
        refine EV_imul dX12_asked_278 ?_
        refine EV_iadd dX12_asked_279 ?_
        have hh := b1_some h; clear h; obtain ⟨a15, ha15, h⟩ := hh
        subst ha15
        have hh := b1_some h; clear h; obtain ⟨s16, hs16, h⟩ := hh
        refine EV_sI (t := 0) rfl dX12_asked_280 hs16 ?_
        refine EV_iconst (x := (1 : Int32)) dX12_asked_281 (by decide) ?_
        refine EV_istore (lv2 := [(5, VI (1 : Int32)), (0, VR (some h0)), (4, VI pi4)]) dX12_asked_282 (by decide) rfl ?_
        exact EV_pick [1, 0] rfl (zX12_asked_284 E _ h)
    · rw [if_neg c7] at h
      exact EV_pick [] rfl (zX12_asked_318 E h)
def mX12_asked_352 (pt0 : Int32) (pt1 : Int32) (pt2 : Option Nat) (s0 : eS) : Option eS :=
  (b1 pt2 fun a1 => (b1 (o_K s0 112 a1) fun u4 => (b1 (mX12_same a1 pt1 pt0 s0) fun s2 => (mX12_asked_355 s2))))
set_option maxRecDepth 100000 in
set_option maxHeartbeats 4000000 in
theorem zX12_asked_352 (E : eE) {pt0 : Int32} {pt1 : Int32} {pt2 : Option Nat} {s0 s9 : eS} (h : mX12_asked_352 pt0 pt1 pt2 s0 = some s9) : EV E MX12_asked 352 [] [VI pt0, VI pt1, VR pt2] s0 none s9 := by
  unfold mX12_asked_352 at h
  have hh := b1_some h; clear h; obtain ⟨a1, ha1, h⟩ := hh
  subst ha1
  have hh := b1_some h; clear h; obtain ⟨u4, hu4, h⟩ := hh
  have hh := b1_some h; clear h; obtain ⟨s2, hs2, h⟩ := hh
  refine EV_callV (Y := YX12_same) (as := [VI pt1, VI pt0]) (st := []) (st2 := []) (a := a1) (ci := 12) (r := rX12) (n := 2) dX12_asked_352 (zX12_same E hs2) rfl cwX12_same rfl tw_1256 tw_1258 tw_55 rfl (e_if hu4).1.1 (e_if hu4).1.2 ⟨by decide, by decide⟩ (Nat.le_of_ble_eq_true rfl) rfl ?_
  exact EV_pick [] rfl (zX12_asked_355 E h)
def mX12_asked_347 (pt0 : Int32) (pt1 : Option Nat) (s0 : eS) : Option eS :=
  (mX12_asked_352 (1 : Int32) pt0 pt1 s0)
set_option maxRecDepth 100000 in
set_option maxHeartbeats 4000000 in
theorem zX12_asked_347 (E : eE) {pt0 : Int32} {pt1 : Option Nat} {s0 s9 : eS} (h : mX12_asked_347 pt0 pt1 s0 = some s9) : EV E MX12_asked 347 [] [VI pt0, VR pt1] s0 none s9 := by
  unfold mX12_asked_347 at h
  refine EV_iconst (x := (1 : Int32)) dX12_asked_347 (by decide) ?_
  refine EV_goto (tgt := 352) dX12_asked_348 (by decide) ?_
  exact EV_pick [] rfl (zX12_asked_352 E h)
def mX12_asked (h0 : Nat) (pi1 : Int32) (pi2 : Int32) (s0 : eS) : Option eS :=
  (b1 (o_K s0 112 h0) fun u14 => (b2 (mX12_at h0 (9 : Int32) s0) fun x2 s1 => (if pi1 = (100 : Int32) then (b2 (mX12_in ((x2).toInt64) (20 : Int64) (36 : Int64) s1) fun x5 s4 => (if pi2 = (8 : Int32) then (b1 (o_K s4 112 h0) fun u9 => (b1 (mX12_same h0 (9 : Int32) (1 : Int32) s4) fun s7 => (some s7))) else (if x5 = 0 then (mX12_asked_53 h0 x2 x5 (1 : Int32) (7 : Int32) (some h0) s4) else (mX12_asked_53 h0 x2 x5 (0 : Int32) (7 : Int32) (some h0) s4)))) else (if pi1 = (101 : Int32) then (if (x2 &&& (63 : Int32)) = (5 : Int32) then (mX12_asked_126 h0 x2 (1 : Int32) s1) else (mX12_asked_126 h0 x2 (0 : Int32) s1)) else (if pi1 = (103 : Int32) then (b1 (o_K s1 112 h0) fun u9 => (b2 (mX12_isTime h0 s1) fun x7 s6 => (if x7 = 0 then (mX12_asked_236 h0 x7 (1 : Int32) (7 : Int32) (some h0) s6) else (mX12_asked_236 h0 x7 (0 : Int32) (7 : Int32) (some h0) s6)))) else (b1 (o_K s1 112 h0) fun u13 => (b2 (mX12_at h0 (9 : Int32) s1) fun x7 s6 => (if x7 = (170 : Int32) then (b1 (o_K s6 112 h0) fun u12 => (b2 (mX12_at h0 (10 : Int32) s6) fun x10 s9 => (if x10 = (85 : Int32) then (mX12_asked_352 (0 : Int32) (7 : Int32) (some h0) s9) else (mX12_asked_347 (7 : Int32) (some h0) s9)))) else (mX12_asked_347 (7 : Int32) (some h0) s6)))))))))
set_option maxRecDepth 100000 in
set_option maxHeartbeats 4000000 in
theorem zX12_asked (E : eE) {h0 : Nat} {pi1 : Int32} {pi2 : Int32} {s0 s9 : eS} (h : mX12_asked h0 pi1 pi2 s0 = some s9) : EM E YX12_asked [VR (some h0), VI pi1, VI pi2] s0 none s9 := by
  refine EM_of (M := MX12_asked) (own := RX12) (ini := false) rfl (by decide +kernel) rfl (fun z => nomatch z) (Nat.le_of_ble_eq_true rfl) ?_
  unfold mX12_asked at h
  refine EV_aload_n dX12_asked_0 rfl ?_
  refine EV_bipush (x := (9 : Int32)) dX12_asked_1 (by decide) ?_
  have hh := b1_some h; clear h; obtain ⟨u14, hu14, h⟩ := hh
  have hh := b2_some h; clear h; obtain ⟨x2, s1, hs1, h⟩ := hh
  refine EV_callV (Y := YX12_at) (as := [VI (9 : Int32)]) (st := []) (st2 := [VI x2]) (a := h0) (ci := 12) (r := rX12) (n := 1) dX12_asked_3 (zX12_at E hs1) rfl cwX12_at rfl tw_1246 tw_1248 tw_54 rfl (e_if hu14).1.1 (e_if hu14).1.2 ⟨by decide, by decide⟩ (Nat.le_of_ble_eq_true rfl) rfl ?_
  refine EV_istore_n (lv2 := [(3, VI x2), (0, VR (some h0)), (1, VI pi1), (2, VI pi2)]) dX12_asked_6 (by decide) rfl ?_
  refine EV_iload_n dX12_asked_7 rfl ?_
  refine EV_bipush (x := (100 : Int32)) dX12_asked_8 (by decide) ?_
  refine EV_icmp_ne (tgt := 107) dX12_asked_10 (by decide) (fun c3 => ?_) (fun c3 => ?_)
  · rw [if_pos c3] at h
    refine EV_iload_n dX12_asked_13 rfl ?_
    refine EV_i2l dX12_asked_14 ?_
    refine EV_ldc2 (x := (20 : Int64)) dX12_asked_15 tw_1296 ?_
    refine EV_ldc2 (x := (36 : Int64)) dX12_asked_18 tw_1297 ?_
    have hh := b2_some h; clear h; obtain ⟨x5, s4, hs4, h⟩ := hh
    refine EV_callS (Y := YX12_in) (as := [VL ((x2).toInt64), VL (20 : Int64), VL (36 : Int64)]) (st := []) (st2 := [VI x5]) (n := 3) dX12_asked_21 (zX12_in E hs4) rfl cwX12_in rfl tw_1104 tw_1105 ⟨by decide, by decide⟩ (Nat.le_of_ble_eq_true rfl) rfl ?_
    refine EV_istore (lv2 := [(4, VI x5), (3, VI x2), (0, VR (some h0)), (1, VI pi1), (2, VI pi2)]) dX12_asked_24 (by decide) rfl ?_
    refine EV_iload_n dX12_asked_26 rfl ?_
    refine EV_bipush (x := (8 : Int32)) dX12_asked_27 (by decide) ?_
    refine EV_icmp_ne (tgt := 40) dX12_asked_29 (by decide) (fun c6 => ?_) (fun c6 => ?_)
    · rw [if_pos c6] at h
      refine EV_aload_n dX12_asked_32 rfl ?_
      refine EV_bipush (x := (9 : Int32)) dX12_asked_33 (by decide) ?_
      refine EV_iconst (x := (1 : Int32)) dX12_asked_35 (by decide) ?_
      have hh := b1_some h; clear h; obtain ⟨u9, hu9, h⟩ := hh
      have hh := b1_some h; clear h; obtain ⟨s7, hs7, h⟩ := hh
      refine EV_callV (Y := YX12_same) (as := [VI (9 : Int32), VI (1 : Int32)]) (st := []) (st2 := []) (a := h0) (ci := 12) (r := rX12) (n := 2) dX12_asked_36 (zX12_same E hs7) rfl cwX12_same rfl tw_1256 tw_1258 tw_55 rfl (e_if hu9).1.1 (e_if hu9).1.2 ⟨by decide, by decide⟩ (Nat.le_of_ble_eq_true rfl) rfl ?_
      cases h
      exact EV_ret ⟨dX12_asked_39, rfl⟩ rfl
    · rw [if_neg c6] at h
      refine EV_aload_n dX12_asked_40 rfl ?_
      refine EV_bipush (x := (7 : Int32)) dX12_asked_41 (by decide) ?_
      refine EV_iload dX12_asked_43 rfl ?_
      refine EV_if_ne (tgt := 52) dX12_asked_45 (by decide) (fun c7 => ?_) (fun c7 => ?_)
      · rw [if_pos c7] at h
        refine EV_iconst (x := (1 : Int32)) dX12_asked_48 (by decide) ?_
        refine EV_goto (tgt := 53) dX12_asked_49 (by decide) ?_
        exact EV_pick [2, 1, 0] rfl (zX12_asked_53 E h)
      · rw [if_neg c7] at h
        refine EV_iconst (x := (0 : Int32)) dX12_asked_52 (by decide) ?_
        exact EV_pick [2, 1, 0] rfl (zX12_asked_53 E h)
  · rw [if_neg c3] at h
    refine EV_iload_n dX12_asked_107 rfl ?_
    refine EV_bipush (x := (101 : Int32)) dX12_asked_108 (by decide) ?_
    refine EV_icmp_ne (tgt := 211) dX12_asked_110 (by decide) (fun c4 => ?_) (fun c4 => ?_)
    · rw [if_pos c4] at h
      refine EV_iload_n dX12_asked_113 rfl ?_
      refine EV_bipush (x := (63 : Int32)) dX12_asked_114 (by decide) ?_
      refine EV_iand dX12_asked_116 ?_
      refine EV_iconst (x := (5 : Int32)) dX12_asked_117 (by decide) ?_
      refine EV_icmp_ne (tgt := 125) dX12_asked_118 (by decide) (fun c5 => ?_) (fun c5 => ?_)
      · rw [if_pos c5] at h
        refine EV_iconst (x := (1 : Int32)) dX12_asked_121 (by decide) ?_
        refine EV_goto (tgt := 126) dX12_asked_122 (by decide) ?_
        exact EV_pick [1, 0] rfl (zX12_asked_126 E h)
      · rw [if_neg c5] at h
        refine EV_iconst (x := (0 : Int32)) dX12_asked_125 (by decide) ?_
        exact EV_pick [1, 0] rfl (zX12_asked_126 E h)
    · rw [if_neg c4] at h
      refine EV_iload_n dX12_asked_211 rfl ?_
      refine EV_bipush (x := (103 : Int32)) dX12_asked_212 (by decide) ?_
      refine EV_icmp_ne (tgt := 321) dX12_asked_214 (by decide) (fun c5 => ?_) (fun c5 => ?_)
      · rw [if_pos c5] at h
        refine EV_aload_n dX12_asked_217 rfl ?_
        have hh := b1_some h; clear h; obtain ⟨u9, hu9, h⟩ := hh
        have hh := b2_some h; clear h; obtain ⟨x7, s6, hs6, h⟩ := hh
        refine EV_callV (Y := YX12_isTime) (as := []) (st := []) (st2 := [VI x7]) (a := h0) (ci := 12) (r := rX12) (n := 0) dX12_asked_218 (zX12_isTime E hs6) rfl cwX12_isTime rfl tw_1306 tw_1308 tw_66 rfl (e_if hu9).1.1 (e_if hu9).1.2 ⟨by decide, by decide⟩ (Nat.le_of_ble_eq_true rfl) rfl ?_
        refine EV_istore (lv2 := [(4, VI x7), (3, VI x2), (0, VR (some h0)), (1, VI pi1), (2, VI pi2)]) dX12_asked_221 (by decide) rfl ?_
        refine EV_aload_n dX12_asked_223 rfl ?_
        refine EV_bipush (x := (7 : Int32)) dX12_asked_224 (by decide) ?_
        refine EV_iload dX12_asked_226 rfl ?_
        refine EV_if_ne (tgt := 235) dX12_asked_228 (by decide) (fun c8 => ?_) (fun c8 => ?_)
        · rw [if_pos c8] at h
          refine EV_iconst (x := (1 : Int32)) dX12_asked_231 (by decide) ?_
          refine EV_goto (tgt := 236) dX12_asked_232 (by decide) ?_
          exact EV_pick [2, 0] rfl (zX12_asked_236 E h)
        · rw [if_neg c8] at h
          refine EV_iconst (x := (0 : Int32)) dX12_asked_235 (by decide) ?_
          exact EV_pick [2, 0] rfl (zX12_asked_236 E h)
      · rw [if_neg c5] at h
        refine EV_aload_n dX12_asked_321 rfl ?_
        refine EV_bipush (x := (7 : Int32)) dX12_asked_322 (by decide) ?_
        refine EV_aload_n dX12_asked_324 rfl ?_
        refine EV_bipush (x := (9 : Int32)) dX12_asked_325 (by decide) ?_
        have hh := b1_some h; clear h; obtain ⟨u13, hu13, h⟩ := hh
        have hh := b2_some h; clear h; obtain ⟨x7, s6, hs6, h⟩ := hh
        refine EV_callV (Y := YX12_at) (as := [VI (9 : Int32)]) (st := [VI (7 : Int32), VR (some h0)]) (st2 := [VI x7, VI (7 : Int32), VR (some h0)]) (a := h0) (ci := 12) (r := rX12) (n := 1) dX12_asked_327 (zX12_at E hs6) rfl cwX12_at rfl tw_1246 tw_1248 tw_54 rfl (e_if hu13).1.1 (e_if hu13).1.2 ⟨by decide, by decide⟩ (Nat.le_of_ble_eq_true rfl) rfl ?_
        refine EV_sipush (x := (170 : Int32)) dX12_asked_330 (by decide) ?_
        refine EV_icmp_ne (tgt := 347) dX12_asked_333 (by decide) (fun c8 => ?_) (fun c8 => ?_)
        · rw [if_pos c8] at h
          refine EV_aload_n dX12_asked_336 rfl ?_
          refine EV_bipush (x := (10 : Int32)) dX12_asked_337 (by decide) ?_
          have hh := b1_some h; clear h; obtain ⟨u12, hu12, h⟩ := hh
          have hh := b2_some h; clear h; obtain ⟨x10, s9, hs9, h⟩ := hh
          refine EV_callV (Y := YX12_at) (as := [VI (10 : Int32)]) (st := [VI (7 : Int32), VR (some h0)]) (st2 := [VI x10, VI (7 : Int32), VR (some h0)]) (a := h0) (ci := 12) (r := rX12) (n := 1) dX12_asked_339 (zX12_at E hs9) rfl cwX12_at rfl tw_1246 tw_1248 tw_54 rfl (e_if hu12).1.1 (e_if hu12).1.2 ⟨by decide, by decide⟩ (Nat.le_of_ble_eq_true rfl) rfl ?_
          refine EV_bipush (x := (85 : Int32)) dX12_asked_342 (by decide) ?_
          refine EV_icmp_eq (tgt := 351) dX12_asked_344 (by decide) (fun c11 => ?_) (fun c11 => ?_)
          · rw [if_pos c11] at h
            refine EV_iconst (x := (0 : Int32)) dX12_asked_351 (by decide) ?_
            exact EV_pick [] rfl (zX12_asked_352 E h)
          · rw [if_neg c11] at h
            exact EV_pick [] rfl (zX12_asked_347 E h)
        · rw [if_neg c8] at h
          exact EV_pick [] rfl (zX12_asked_347 E h)
def mX12_rest_305 (s0 : eS) : Option eS :=
  (some s0)
set_option maxRecDepth 100000 in
set_option maxHeartbeats 4000000 in
theorem zX12_rest_305 (E : eE) {s0 s9 : eS} (h : mX12_rest_305 s0 = some s9) : EV E MX12_rest 305 [] [] s0 none s9 := by
  unfold mX12_rest_305 at h
  cases h
  exact EV_ret ⟨dX12_rest_305, rfl⟩ rfl
def mX12_rest_238 (h0 : Nat) (s0 : eS) : Option eS :=
  (b1 (g_I s0 112 44 h0) fun x1 => (b1 (p_I s0 112 44 h0 (x1 + (1 : Int32))) fun s2 => (mX12_rest_305 s2)))
set_option maxRecDepth 100000 in
set_option maxHeartbeats 4000000 in
theorem zX12_rest_238 (E : eE) {h0 : Nat} {s0 s9 : eS} (h : mX12_rest_238 h0 s0 = some s9) : EV E MX12_rest 238 [(0, VR (some h0))] [] s0 none s9 := by
  unfold mX12_rest_238 at h
  refine EV_aload_n dX12_rest_238 rfl ?_
  refine EV_dup dX12_rest_239 rfl ?_
  have hh := b1_some h; clear h; obtain ⟨x1, hx1, h⟩ := hh
  refine EV_getI (ci := 12) (k := 44) dX12_rest_240 fl_X12_302 rfl hx1 ?_
  refine EV_iconst (x := (1 : Int32)) dX12_rest_243 (by decide) ?_
  refine EV_iadd dX12_rest_244 ?_
  have hh := b1_some h; clear h; obtain ⟨s2, hs2, h⟩ := hh
  refine EV_putI (ci := 12) (k := 44) dX12_rest_245 fp_X12_302 rfl hs2 ?_
  refine EV_goto (tgt := 305) dX12_rest_248 (by decide) ?_
  exact EV_pick [] rfl (zX12_rest_305 E h)
def mX12_rest_221 (h0 : Nat) (pi1 : Int32) (pi2 : Int32) (pi3 : Int32) (pi5 : Int32) (s0 : eS) : Option eS :=
  (b2 (mX12_lengthOf pi2 s0) fun x2 s1 => (if pi1 = x2 then (b1 (o_K s1 112 h0) fun u15 => (b2 (mX12_at h0 (1 : Int32) s1) fun x5 s4 => (if x5 = (1 : Int32) then (b2 (mX12_isOrder pi2 s4) fun x8 s7 => (if x8 = 0 then (if pi2 = (102 : Int32) then (b1 (o_K s7 112 h0) fun u13 => (b1 (mX12_reads h0 pi5 s7) fun s11 => (mX12_rest_305 s11))) else (if pi5 = 0 then (b1 (o_K s7 112 h0) fun u14 => (b1 (mX12_asked h0 pi2 pi3 s7) fun s12 => (mX12_rest_305 s12))) else (b1 (o_K s7 112 h0) fun u14 => (b1 (mX12_same h0 (47 : Int32) (1 : Int32) s7) fun s12 => (mX12_rest_305 s12))))) else (b1 (o_K s7 112 h0) fun u12 => (b1 (mX12_commanded h0 pi2 pi3 pi5 s7) fun s10 => (mX12_rest_305 s10))))) else (mX12_rest_238 h0 s4)))) else (mX12_rest_238 h0 s1)))
set_option maxRecDepth 100000 in
set_option maxHeartbeats 4000000 in
theorem zX12_rest_221 (E : eE) {h0 : Nat} {pi1 : Int32} {pi2 : Int32} {pi3 : Int32} {pi5 : Int32} {s0 s9 : eS} (h : mX12_rest_221 h0 pi1 pi2 pi3 pi5 s0 = some s9) : EV E MX12_rest 221 [(0, VR (some h0)), (1, VI pi1), (2, VI pi2), (3, VI pi3), (5, VI pi5)] [] s0 none s9 := by
  unfold mX12_rest_221 at h
  refine EV_iload_n dX12_rest_221 rfl ?_
  refine EV_iload_n dX12_rest_222 rfl ?_
  have hh := b2_some h; clear h; obtain ⟨x2, s1, hs1, h⟩ := hh
  refine EV_callS (Y := YX12_lengthOf) (as := [VI pi2]) (st := [VI pi1]) (st2 := [VI x2, VI pi1]) (n := 1) dX12_rest_223 (zX12_lengthOf E hs1) rfl cwX12_lengthOf rfl tw_1265 tw_1266 ⟨by decide, by decide⟩ (Nat.le_of_ble_eq_true rfl) rfl ?_
  refine EV_icmp_ne (tgt := 238) dX12_rest_226 (by decide) (fun c3 => ?_) (fun c3 => ?_)
  · rw [if_pos c3] at h
    refine EV_aload_n dX12_rest_229 rfl ?_
    refine EV_iconst (x := (1 : Int32)) dX12_rest_230 (by decide) ?_
    have hh := b1_some h; clear h; obtain ⟨u15, hu15, h⟩ := hh
    have hh := b2_some h; clear h; obtain ⟨x5, s4, hs4, h⟩ := hh
    refine EV_callV (Y := YX12_at) (as := [VI (1 : Int32)]) (st := []) (st2 := [VI x5]) (a := h0) (ci := 12) (r := rX12) (n := 1) dX12_rest_231 (zX12_at E hs4) rfl cwX12_at rfl tw_1246 tw_1248 tw_54 rfl (e_if hu15).1.1 (e_if hu15).1.2 ⟨by decide, by decide⟩ (Nat.le_of_ble_eq_true rfl) rfl ?_
    refine EV_iconst (x := (1 : Int32)) dX12_rest_234 (by decide) ?_
    refine EV_icmp_eq (tgt := 251) dX12_rest_235 (by decide) (fun c6 => ?_) (fun c6 => ?_)
    · rw [if_pos c6] at h
      refine EV_iload_n dX12_rest_251 rfl ?_
      have hh := b2_some h; clear h; obtain ⟨x8, s7, hs7, h⟩ := hh
      refine EV_callS (Y := YX12_isOrder) (as := [VI pi2]) (st := []) (st2 := [VI x8]) (n := 1) dX12_rest_252 (zX12_isOrder E hs7) rfl cwX12_isOrder rfl tw_1251 tw_1252 ⟨by decide, by decide⟩ (Nat.le_of_ble_eq_true rfl) rfl ?_
      refine EV_if_eq (tgt := 269) dX12_rest_255 (by decide) (fun c9 => ?_) (fun c9 => ?_)
      · rw [if_pos c9] at h
        refine EV_iload_n dX12_rest_269 rfl ?_
        refine EV_bipush (x := (102 : Int32)) dX12_rest_270 (by decide) ?_
        refine EV_icmp_ne (tgt := 284) dX12_rest_272 (by decide) (fun c10 => ?_) (fun c10 => ?_)
        · rw [if_pos c10] at h
          refine EV_aload_n dX12_rest_275 rfl ?_
          refine EV_iload dX12_rest_276 rfl ?_
          have hh := b1_some h; clear h; obtain ⟨u13, hu13, h⟩ := hh
          have hh := b1_some h; clear h; obtain ⟨s11, hs11, h⟩ := hh
          refine EV_callV (Y := YX12_reads) (as := [VI pi5]) (st := []) (st2 := []) (a := h0) (ci := 12) (r := rX12) (n := 1) dX12_rest_278 (zX12_reads E hs11) rfl cwX12_reads rfl tw_1288 tw_1290 tw_62 rfl (e_if hu13).1.1 (e_if hu13).1.2 ⟨by decide, by decide⟩ (Nat.le_of_ble_eq_true rfl) rfl ?_
          refine EV_goto (tgt := 305) dX12_rest_281 (by decide) ?_
          exact EV_pick [] rfl (zX12_rest_305 E h)
        · rw [if_neg c10] at h
          refine EV_iload dX12_rest_284 rfl ?_
          refine EV_if_eq (tgt := 299) dX12_rest_286 (by decide) (fun c11 => ?_) (fun c11 => ?_)
          · rw [if_pos c11] at h
            refine EV_aload_n dX12_rest_299 rfl ?_
            refine EV_iload_n dX12_rest_300 rfl ?_
            refine EV_iload_n dX12_rest_301 rfl ?_
            have hh := b1_some h; clear h; obtain ⟨u14, hu14, h⟩ := hh
            have hh := b1_some h; clear h; obtain ⟨s12, hs12, h⟩ := hh
            refine EV_callV (Y := YX12_asked) (as := [VI pi2, VI pi3]) (st := []) (st2 := []) (a := h0) (ci := 12) (r := rX12) (n := 2) dX12_rest_302 (zX12_asked E hs12) rfl cwX12_asked rfl tw_1292 tw_1294 tw_63 rfl (e_if hu14).1.1 (e_if hu14).1.2 ⟨by decide, by decide⟩ (Nat.le_of_ble_eq_true rfl) rfl ?_
            exact EV_pick [] rfl (zX12_rest_305 E h)
          · rw [if_neg c11] at h
            refine EV_aload_n dX12_rest_289 rfl ?_
            refine EV_bipush (x := (47 : Int32)) dX12_rest_290 (by decide) ?_
            refine EV_iconst (x := (1 : Int32)) dX12_rest_292 (by decide) ?_
            have hh := b1_some h; clear h; obtain ⟨u14, hu14, h⟩ := hh
            have hh := b1_some h; clear h; obtain ⟨s12, hs12, h⟩ := hh
            refine EV_callV (Y := YX12_same) (as := [VI (47 : Int32), VI (1 : Int32)]) (st := []) (st2 := []) (a := h0) (ci := 12) (r := rX12) (n := 2) dX12_rest_293 (zX12_same E hs12) rfl cwX12_same rfl tw_1256 tw_1258 tw_55 rfl (e_if hu14).1.1 (e_if hu14).1.2 ⟨by decide, by decide⟩ (Nat.le_of_ble_eq_true rfl) rfl ?_
            refine EV_goto (tgt := 305) dX12_rest_296 (by decide) ?_
            exact EV_pick [] rfl (zX12_rest_305 E h)
      · rw [if_neg c9] at h
        refine EV_aload_n dX12_rest_258 rfl ?_
        refine EV_iload_n dX12_rest_259 rfl ?_
        refine EV_iload_n dX12_rest_260 rfl ?_
        refine EV_iload dX12_rest_261 rfl ?_
        have hh := b1_some h; clear h; obtain ⟨u12, hu12, h⟩ := hh
        have hh := b1_some h; clear h; obtain ⟨s10, hs10, h⟩ := hh
        refine EV_callV (Y := YX12_commanded) (as := [VI pi2, VI pi3, VI pi5]) (st := []) (st2 := []) (a := h0) (ci := 12) (r := rX12) (n := 3) dX12_rest_263 (zX12_commanded E hs10) rfl cwX12_commanded rfl tw_1268 tw_1270 tw_57 rfl (e_if hu12).1.1 (e_if hu12).1.2 ⟨by decide, by decide⟩ (Nat.le_of_ble_eq_true rfl) rfl ?_
        refine EV_goto (tgt := 305) dX12_rest_266 (by decide) ?_
        exact EV_pick [] rfl (zX12_rest_305 E h)
    · rw [if_neg c6] at h
      exact EV_pick [0] rfl (zX12_rest_238 E h)
  · rw [if_neg c3] at h
    exact EV_pick [0] rfl (zX12_rest_238 E h)
def mX12_rest_211 (h0 : Nat) (s0 : eS) : Option eS :=
  (b1 (o_K s0 112 h0) fun u3 => (b1 (mX12_same h0 (46 : Int32) (1 : Int32) s0) fun s1 => (mX12_rest_305 s1)))
set_option maxRecDepth 100000 in
set_option maxHeartbeats 4000000 in
theorem zX12_rest_211 (E : eE) {h0 : Nat} {s0 s9 : eS} (h : mX12_rest_211 h0 s0 = some s9) : EV E MX12_rest 211 [(0, VR (some h0))] [] s0 none s9 := by
  unfold mX12_rest_211 at h
  refine EV_aload_n dX12_rest_211 rfl ?_
  refine EV_bipush (x := (46 : Int32)) dX12_rest_212 (by decide) ?_
  refine EV_iconst (x := (1 : Int32)) dX12_rest_214 (by decide) ?_
  have hh := b1_some h; clear h; obtain ⟨u3, hu3, h⟩ := hh
  have hh := b1_some h; clear h; obtain ⟨s1, hs1, h⟩ := hh
  refine EV_callV (Y := YX12_same) (as := [VI (46 : Int32), VI (1 : Int32)]) (st := []) (st2 := []) (a := h0) (ci := 12) (r := rX12) (n := 2) dX12_rest_215 (zX12_same E hs1) rfl cwX12_same rfl tw_1256 tw_1258 tw_55 rfl (e_if hu3).1.1 (e_if hu3).1.2 ⟨by decide, by decide⟩ (Nat.le_of_ble_eq_true rfl) rfl ?_
  refine EV_goto (tgt := 305) dX12_rest_218 (by decide) ?_
  exact EV_pick [] rfl (zX12_rest_305 E h)
def mX12_rest_170 (h0 : Nat) (pi1 : Int32) (pi2 : Int32) (pi3 : Int32) (pi4 : Int32) (pi5 : Int32) (pi6 : Int32) (s0 : eS) : Option eS :=
  (if pi6 = 0 then (b1 (o_K s0 112 h0) fun u4 => (b1 (mX12_same h0 (45 : Int32) (1 : Int32) s0) fun s2 => (mX12_rest_305 s2))) else (b1 (g_P s0 112 0 h0) fun r2 => (b1 r2 fun a3 => (b1 (a_I s0 0 a3 (0 : Int32)) fun x4 => (if pi4 = x4 then (mX12_rest_221 h0 pi1 pi2 pi3 pi5 s0) else (b2 (mX12_isOrder pi2 s0) fun x7 s6 => (if x7 = 0 then (if pi4 = (65535 : Int32) then (mX12_rest_221 h0 pi1 pi2 pi3 pi5 s6) else (mX12_rest_211 h0 s6)) else (mX12_rest_211 h0 s6))))))))
set_option maxRecDepth 100000 in
set_option maxHeartbeats 4000000 in
theorem zX12_rest_170 (E : eE) {h0 : Nat} {pi1 : Int32} {pi2 : Int32} {pi3 : Int32} {pi4 : Int32} {pi5 : Int32} {pi6 : Int32} {s0 s9 : eS} (h : mX12_rest_170 h0 pi1 pi2 pi3 pi4 pi5 pi6 s0 = some s9) : EV E MX12_rest 170 [(0, VR (some h0)), (1, VI pi1), (2, VI pi2), (3, VI pi3), (4, VI pi4), (5, VI pi5), (6, VI pi6)] [] s0 none s9 := by
  unfold mX12_rest_170 at h
  refine EV_iload dX12_rest_170 rfl ?_
  refine EV_if_ne (tgt := 185) dX12_rest_172 (by decide) (fun c1 => ?_) (fun c1 => ?_)
  · rw [if_pos c1] at h
    refine EV_aload_n dX12_rest_175 rfl ?_
    refine EV_bipush (x := (45 : Int32)) dX12_rest_176 (by decide) ?_
    refine EV_iconst (x := (1 : Int32)) dX12_rest_178 (by decide) ?_
    have hh := b1_some h; clear h; obtain ⟨u4, hu4, h⟩ := hh
    have hh := b1_some h; clear h; obtain ⟨s2, hs2, h⟩ := hh
    refine EV_callV (Y := YX12_same) (as := [VI (45 : Int32), VI (1 : Int32)]) (st := []) (st2 := []) (a := h0) (ci := 12) (r := rX12) (n := 2) dX12_rest_179 (zX12_same E hs2) rfl cwX12_same rfl tw_1256 tw_1258 tw_55 rfl (e_if hu4).1.1 (e_if hu4).1.2 ⟨by decide, by decide⟩ (Nat.le_of_ble_eq_true rfl) rfl ?_
    refine EV_goto (tgt := 305) dX12_rest_182 (by decide) ?_
    exact EV_pick [] rfl (zX12_rest_305 E h)
  · rw [if_neg c1] at h
    refine EV_iload dX12_rest_185 rfl ?_
    refine EV_aload_n dX12_rest_187 rfl ?_
    have hh := b1_some h; clear h; obtain ⟨r2, hr2, h⟩ := hh
    refine EV_getP (ci := 12) (k := 0) dX12_rest_188 fl_X12_7 rfl hr2 ?_
    refine EV_iconst (x := (0 : Int32)) dX12_rest_191 (by decide) ?_
    have hh := b1_some h; clear h; obtain ⟨a3, ha3, h⟩ := hh
    subst ha3
    have hh := b1_some h; clear h; obtain ⟨x4, hx4, h⟩ := hh
    refine EV_aI (t := 0) (ty := .int) rfl (by decide) dX12_rest_192 hx4 ?_
    refine EV_icmp_eq (tgt := 221) dX12_rest_193 (by decide) (fun c5 => ?_) (fun c5 => ?_)
    · rw [if_pos c5] at h
      exact EV_pick [0, 1, 2, 3, 5] rfl (zX12_rest_221 E h)
    · rw [if_neg c5] at h
      refine EV_iload_n dX12_rest_196 rfl ?_
      have hh := b2_some h; clear h; obtain ⟨x7, s6, hs6, h⟩ := hh
      refine EV_callS (Y := YX12_isOrder) (as := [VI pi2]) (st := []) (st2 := [VI x7]) (n := 1) dX12_rest_197 (zX12_isOrder E hs6) rfl cwX12_isOrder rfl tw_1251 tw_1252 ⟨by decide, by decide⟩ (Nat.le_of_ble_eq_true rfl) rfl ?_
      refine EV_if_ne (tgt := 211) dX12_rest_200 (by decide) (fun c8 => ?_) (fun c8 => ?_)
      · rw [if_pos c8] at h
        refine EV_iload dX12_rest_203 rfl ?_
        refine EV_ldcw (x := (65535 : Int32)) dX12_rest_205 tw_1264 ?_
        refine EV_icmp_eq (tgt := 221) dX12_rest_208 (by decide) (fun c9 => ?_) (fun c9 => ?_)
        · rw [if_pos c9] at h
          exact EV_pick [0, 1, 2, 3, 5] rfl (zX12_rest_221 E h)
        · rw [if_neg c9] at h
          exact EV_pick [0] rfl (zX12_rest_211 E h)
      · rw [if_neg c8] at h
        exact EV_pick [0] rfl (zX12_rest_211 E h)
def mX12_rest_137 (h0 : Nat) (pi1 : Int32) (pi2 : Int32) (pi3 : Int32) (pi4 : Int32) (pi5 : Int32) (pt0 : Int32) (s0 : eS) : Option eS :=
  (b2 (mX12_isOrder pi2 s0) fun x2 s1 => (if x2 = 0 then (b2 (mX12_in ((pi2).toInt64) (100 : Int64) (104 : Int64) s1) fun x5 s4 => (if x5 = 0 then (b1 (o_K s4 112 h0) fun u9 => (b1 (mX12_same h0 (44 : Int32) (1 : Int32) s4) fun s7 => (mX12_rest_305 s7))) else (mX12_rest_170 h0 pi1 pi2 pi3 pi4 pi5 pt0 s4))) else (mX12_rest_170 h0 pi1 pi2 pi3 pi4 pi5 pt0 s1)))
set_option maxRecDepth 100000 in
set_option maxHeartbeats 4000000 in
theorem zX12_rest_137 (E : eE) {h0 : Nat} {pi1 : Int32} {pi2 : Int32} {pi3 : Int32} {pi4 : Int32} {pi5 : Int32} {pt0 : Int32} {s0 s9 : eS} (h : mX12_rest_137 h0 pi1 pi2 pi3 pi4 pi5 pt0 s0 = some s9) : EV E MX12_rest 137 [(0, VR (some h0)), (1, VI pi1), (2, VI pi2), (3, VI pi3), (4, VI pi4), (5, VI pi5)] [VI pt0] s0 none s9 := by
  unfold mX12_rest_137 at h
  refine EV_istore (lv2 := [(6, VI pt0), (0, VR (some h0)), (1, VI pi1), (2, VI pi2), (3, VI pi3), (4, VI pi4), (5, VI pi5)]) dX12_rest_137 (by decide) rfl ?_
  refine EV_iload_n dX12_rest_139 rfl ?_
  have hh := b2_some h; clear h; obtain ⟨x2, s1, hs1, h⟩ := hh
  refine EV_callS (Y := YX12_isOrder) (as := [VI pi2]) (st := []) (st2 := [VI x2]) (n := 1) dX12_rest_140 (zX12_isOrder E hs1) rfl cwX12_isOrder rfl tw_1251 tw_1252 ⟨by decide, by decide⟩ (Nat.le_of_ble_eq_true rfl) rfl ?_
  refine EV_if_ne (tgt := 170) dX12_rest_143 (by decide) (fun c3 => ?_) (fun c3 => ?_)
  · rw [if_pos c3] at h
    refine EV_iload_n dX12_rest_146 rfl ?_
    refine EV_i2l dX12_rest_147 ?_
    refine EV_ldc2 (x := (100 : Int64)) dX12_rest_148 tw_1254 ?_
    refine EV_ldc2 (x := (104 : Int64)) dX12_rest_151 tw_1255 ?_
    have hh := b2_some h; clear h; obtain ⟨x5, s4, hs4, h⟩ := hh
    refine EV_callS (Y := YX12_in) (as := [VL ((pi2).toInt64), VL (100 : Int64), VL (104 : Int64)]) (st := []) (st2 := [VI x5]) (n := 3) dX12_rest_154 (zX12_in E hs4) rfl cwX12_in rfl tw_1104 tw_1105 ⟨by decide, by decide⟩ (Nat.le_of_ble_eq_true rfl) rfl ?_
    refine EV_if_ne (tgt := 170) dX12_rest_157 (by decide) (fun c6 => ?_) (fun c6 => ?_)
    · rw [if_pos c6] at h
      refine EV_aload_n dX12_rest_160 rfl ?_
      refine EV_bipush (x := (44 : Int32)) dX12_rest_161 (by decide) ?_
      refine EV_iconst (x := (1 : Int32)) dX12_rest_163 (by decide) ?_
      have hh := b1_some h; clear h; obtain ⟨u9, hu9, h⟩ := hh
      have hh := b1_some h; clear h; obtain ⟨s7, hs7, h⟩ := hh
      refine EV_callV (Y := YX12_same) (as := [VI (44 : Int32), VI (1 : Int32)]) (st := []) (st2 := []) (a := h0) (ci := 12) (r := rX12) (n := 2) dX12_rest_164 (zX12_same E hs7) rfl cwX12_same rfl tw_1256 tw_1258 tw_55 rfl (e_if hu9).1.1 (e_if hu9).1.2 ⟨by decide, by decide⟩ (Nat.le_of_ble_eq_true rfl) rfl ?_
      refine EV_goto (tgt := 305) dX12_rest_167 (by decide) ?_
      exact EV_pick [] rfl (zX12_rest_305 E h)
    · rw [if_neg c6] at h
      exact EV_pick [1, 2, 3, 4, 5, 6, 0] rfl (zX12_rest_170 E h)
  · rw [if_neg c3] at h
    exact EV_pick [1, 2, 3, 4, 5, 6, 0] rfl (zX12_rest_170 E h)
def mX12_rest_132 (h0 : Nat) (pi1 : Int32) (pi2 : Int32) (pi3 : Int32) (pi4 : Int32) (pi5 : Int32) (s0 : eS) : Option eS :=
  (mX12_rest_137 h0 pi1 pi2 pi3 pi4 pi5 (1 : Int32) s0)
set_option maxRecDepth 100000 in
set_option maxHeartbeats 4000000 in
theorem zX12_rest_132 (E : eE) {h0 : Nat} {pi1 : Int32} {pi2 : Int32} {pi3 : Int32} {pi4 : Int32} {pi5 : Int32} {s0 s9 : eS} (h : mX12_rest_132 h0 pi1 pi2 pi3 pi4 pi5 s0 = some s9) : EV E MX12_rest 132 [(0, VR (some h0)), (1, VI pi1), (2, VI pi2), (3, VI pi3), (4, VI pi4), (5, VI pi5)] [] s0 none s9 := by
  unfold mX12_rest_132 at h
  refine EV_iconst (x := (1 : Int32)) dX12_rest_132 (by decide) ?_
  refine EV_goto (tgt := 137) dX12_rest_133 (by decide) ?_
  exact EV_pick [0, 1, 2, 3, 4, 5] rfl (zX12_rest_137 E h)
def mX12_rest_136 (h0 : Nat) (pi1 : Int32) (pi2 : Int32) (pi3 : Int32) (pi4 : Int32) (pi5 : Int32) (s0 : eS) : Option eS :=
  (mX12_rest_137 h0 pi1 pi2 pi3 pi4 pi5 (0 : Int32) s0)
set_option maxRecDepth 100000 in
set_option maxHeartbeats 4000000 in
theorem zX12_rest_136 (E : eE) {h0 : Nat} {pi1 : Int32} {pi2 : Int32} {pi3 : Int32} {pi4 : Int32} {pi5 : Int32} {s0 s9 : eS} (h : mX12_rest_136 h0 pi1 pi2 pi3 pi4 pi5 s0 = some s9) : EV E MX12_rest 136 [(0, VR (some h0)), (1, VI pi1), (2, VI pi2), (3, VI pi3), (4, VI pi4), (5, VI pi5)] [] s0 none s9 := by
  unfold mX12_rest_136 at h
  refine EV_iconst (x := (0 : Int32)) dX12_rest_136 (by decide) ?_
  exact EV_pick [0, 1, 2, 3, 4, 5] rfl (zX12_rest_137 E h)
def mX12_rest (h0 : Nat) (s0 : eS) : Option eS :=
  (b1 (g_P s0 112 50 h0) fun r1 => (b1 r1 fun a2 => (b1 (a_I s0 0 a2 (1 : Int32)) fun x3 => (if (9 : Int32) ≤ (x3 - (4 : Int32)) then (b1 (o_K s0 112 h0) fun u32 => (b2 (mX12_at h0 (0 : Int32) s0) fun x6 s5 => (b1 (o_K s5 112 h0) fun u31 => (b2 (mX12_at h0 (2 : Int32) s5) fun x8 s7 => (b1 (o_K s7 112 h0) fun u30 => (b2 (mX12_at h0 (4 : Int32) s7) fun x10 s9 => (b1 (o_K s9 112 h0) fun u29 => (b2 (mX12_at h0 (5 : Int32) s9) fun x12 s11 => (b1 (o_K s11 112 h0) fun u28 => (b2 (mX12_at h0 (6 : Int32) s11) fun x14 s13 => (b1 (o_K s13 112 h0) fun u27 => (b2 (mX12_at h0 (7 : Int32) s13) fun x16 s15 => (b1 (o_K s15 112 h0) fun u26 => (b2 (mX12_at h0 (8 : Int32) s15) fun x18 s17 => (if x6 = (102 : Int32) then (if (x8 &&& (63 : Int32)) = (5 : Int32) then (mX12_rest_137 h0 (x3 - (4 : Int32)) x6 (x8 &&& (63 : Int32)) (x10 + ((256 : Int32) * x12)) ((x14 + ((256 : Int32) * x16)) + ((65536 : Int32) * x18)) (1 : Int32) s17) else (mX12_rest_137 h0 (x3 - (4 : Int32)) x6 (x8 &&& (63 : Int32)) (x10 + ((256 : Int32) * x12)) ((x14 + ((256 : Int32) * x16)) + ((65536 : Int32) * x18)) (0 : Int32) s17)) else (if (x8 &&& (63 : Int32)) = (6 : Int32) then (mX12_rest_132 h0 (x3 - (4 : Int32)) x6 (x8 &&& (63 : Int32)) (x10 + ((256 : Int32) * x12)) ((x14 + ((256 : Int32) * x16)) + ((65536 : Int32) * x18)) s17) else (if (x8 &&& (63 : Int32)) = (8 : Int32) then (b2 (mX12_isOrder x6 s17) fun x23 s22 => (if x23 = 0 then (if x6 = (100 : Int32) then (mX12_rest_132 h0 (x3 - (4 : Int32)) x6 (x8 &&& (63 : Int32)) (x10 + ((256 : Int32) * x12)) ((x14 + ((256 : Int32) * x16)) + ((65536 : Int32) * x18)) s22) else (mX12_rest_136 h0 (x3 - (4 : Int32)) x6 (x8 &&& (63 : Int32)) (x10 + ((256 : Int32) * x12)) ((x14 + ((256 : Int32) * x16)) + ((65536 : Int32) * x18)) s22)) else (mX12_rest_132 h0 (x3 - (4 : Int32)) x6 (x8 &&& (63 : Int32)) (x10 + ((256 : Int32) * x12)) ((x14 + ((256 : Int32) * x16)) + ((65536 : Int32) * x18)) s22))) else (mX12_rest_136 h0 (x3 - (4 : Int32)) x6 (x8 &&& (63 : Int32)) (x10 + ((256 : Int32) * x12)) ((x14 + ((256 : Int32) * x16)) + ((65536 : Int32) * x18)) s17)))))))))))))))))) else (b1 (g_I s0 112 44 h0) fun x5 => (b1 (p_I s0 112 44 h0 (x5 + (1 : Int32))) fun s6 => (some s6)))))))
set_option maxRecDepth 100000 in
set_option maxHeartbeats 4000000 in
theorem zX12_rest (E : eE) {h0 : Nat} {s0 s9 : eS} (h : mX12_rest h0 s0 = some s9) : EM E YX12_rest [VR (some h0)] s0 none s9 := by
  refine EM_of (M := MX12_rest) (own := RX12) (ini := false) rfl (by decide +kernel) rfl (fun z => nomatch z) (Nat.le_of_ble_eq_true rfl) ?_
  unfold mX12_rest at h
  refine EV_aload_n dX12_rest_0 rfl ?_
  have hh := b1_some h; clear h; obtain ⟨r1, hr1, h⟩ := hh
  refine EV_getP (ci := 12) (k := 50) dX12_rest_1 fl_X12_99 rfl hr1 ?_
  refine EV_iconst (x := (1 : Int32)) dX12_rest_4 (by decide) ?_
  have hh := b1_some h; clear h; obtain ⟨a2, ha2, h⟩ := hh
  subst ha2
  have hh := b1_some h; clear h; obtain ⟨x3, hx3, h⟩ := hh
  refine EV_aI (t := 0) (ty := .int) rfl (by decide) dX12_rest_5 hx3 ?_
  refine EV_iconst (x := (4 : Int32)) dX12_rest_6 (by decide) ?_
  refine EV_isub dX12_rest_7 ?_
  refine EV_istore_n (lv2 := [(1, VI (x3 - (4 : Int32))), (0, VR (some h0))]) dX12_rest_8 (by decide) rfl ?_
  refine EV_iload_n dX12_rest_9 rfl ?_
  refine EV_bipush (x := (9 : Int32)) dX12_rest_10 (by decide) ?_
  refine EV_icmp_ge (tgt := 26) dX12_rest_12 (by decide) (fun c4 => ?_) (fun c4 => ?_)
  · rw [if_pos c4] at h
    refine EV_aload_n dX12_rest_26 rfl ?_
    refine EV_iconst (x := (0 : Int32)) dX12_rest_27 (by decide) ?_
    have hh := b1_some h; clear h; obtain ⟨u32, hu32, h⟩ := hh
    have hh := b2_some h; clear h; obtain ⟨x6, s5, hs5, h⟩ := hh
    refine EV_callV (Y := YX12_at) (as := [VI (0 : Int32)]) (st := []) (st2 := [VI x6]) (a := h0) (ci := 12) (r := rX12) (n := 1) dX12_rest_28 (zX12_at E hs5) rfl cwX12_at rfl tw_1246 tw_1248 tw_54 rfl (e_if hu32).1.1 (e_if hu32).1.2 ⟨by decide, by decide⟩ (Nat.le_of_ble_eq_true rfl) rfl ?_
    refine EV_istore_n (lv2 := [(2, VI x6), (1, VI (x3 - (4 : Int32))), (0, VR (some h0))]) dX12_rest_31 (by decide) rfl ?_
    refine EV_aload_n dX12_rest_32 rfl ?_
    refine EV_iconst (x := (2 : Int32)) dX12_rest_33 (by decide) ?_
    have hh := b1_some h; clear h; obtain ⟨u31, hu31, h⟩ := hh
    have hh := b2_some h; clear h; obtain ⟨x8, s7, hs7, h⟩ := hh
    refine EV_callV (Y := YX12_at) (as := [VI (2 : Int32)]) (st := []) (st2 := [VI x8]) (a := h0) (ci := 12) (r := rX12) (n := 1) dX12_rest_34 (zX12_at E hs7) rfl cwX12_at rfl tw_1246 tw_1248 tw_54 rfl (e_if hu31).1.1 (e_if hu31).1.2 ⟨by decide, by decide⟩ (Nat.le_of_ble_eq_true rfl) rfl ?_
    refine EV_bipush (x := (63 : Int32)) dX12_rest_37 (by decide) ?_
    refine EV_iand dX12_rest_39 ?_
    refine EV_istore_n (lv2 := [(3, VI (x8 &&& (63 : Int32))), (2, VI x6), (1, VI (x3 - (4 : Int32))), (0, VR (some h0))]) dX12_rest_40 (by decide) rfl ?_
    refine EV_aload_n dX12_rest_41 rfl ?_
    refine EV_iconst (x := (4 : Int32)) dX12_rest_42 (by decide) ?_
    have hh := b1_some h; clear h; obtain ⟨u30, hu30, h⟩ := hh
    have hh := b2_some h; clear h; obtain ⟨x10, s9, hs9, h⟩ := hh
    refine EV_callV (Y := YX12_at) (as := [VI (4 : Int32)]) (st := []) (st2 := [VI x10]) (a := h0) (ci := 12) (r := rX12) (n := 1) dX12_rest_43 (zX12_at E hs9) rfl cwX12_at rfl tw_1246 tw_1248 tw_54 rfl (e_if hu30).1.1 (e_if hu30).1.2 ⟨by decide, by decide⟩ (Nat.le_of_ble_eq_true rfl) rfl ?_
    refine EV_sipush (x := (256 : Int32)) dX12_rest_46 (by decide) ?_
    refine EV_aload_n dX12_rest_49 rfl ?_
    refine EV_iconst (x := (5 : Int32)) dX12_rest_50 (by decide) ?_
    have hh := b1_some h; clear h; obtain ⟨u29, hu29, h⟩ := hh
    have hh := b2_some h; clear h; obtain ⟨x12, s11, hs11, h⟩ := hh
    refine EV_callV (Y := YX12_at) (as := [VI (5 : Int32)]) (st := [VI (256 : Int32), VI x10]) (st2 := [VI x12, VI (256 : Int32), VI x10]) (a := h0) (ci := 12) (r := rX12) (n := 1) dX12_rest_51 (zX12_at E hs11) rfl cwX12_at rfl tw_1246 tw_1248 tw_54 rfl (e_if hu29).1.1 (e_if hu29).1.2 ⟨by decide, by decide⟩ (Nat.le_of_ble_eq_true rfl) rfl ?_
    refine EV_imul dX12_rest_54 ?_
    refine EV_iadd dX12_rest_55 ?_
    refine EV_istore (lv2 := [(4, VI (x10 + ((256 : Int32) * x12))), (3, VI (x8 &&& (63 : Int32))), (2, VI x6), (1, VI (x3 - (4 : Int32))), (0, VR (some h0))]) dX12_rest_56 (by decide) rfl ?_
    refine EV_aload_n dX12_rest_58 rfl ?_
    refine EV_bipush (x := (6 : Int32)) dX12_rest_59 (by decide) ?_
    have hh := b1_some h; clear h; obtain ⟨u28, hu28, h⟩ := hh
    have hh := b2_some h; clear h; obtain ⟨x14, s13, hs13, h⟩ := hh
    refine EV_callV (Y := YX12_at) (as := [VI (6 : Int32)]) (st := []) (st2 := [VI x14]) (a := h0) (ci := 12) (r := rX12) (n := 1) dX12_rest_61 (zX12_at E hs13) rfl cwX12_at rfl tw_1246 tw_1248 tw_54 rfl (e_if hu28).1.1 (e_if hu28).1.2 ⟨by decide, by decide⟩ (Nat.le_of_ble_eq_true rfl) rfl ?_
    refine EV_sipush (x := (256 : Int32)) dX12_rest_64 (by decide) ?_
    refine EV_aload_n dX12_rest_67 rfl ?_
    refine EV_bipush (x := (7 : Int32)) dX12_rest_68 (by decide) ?_
    have hh := b1_some h; clear h; obtain ⟨u27, hu27, h⟩ := hh
    have hh := b2_some h; clear h; obtain ⟨x16, s15, hs15, h⟩ := hh
    refine EV_callV (Y := YX12_at) (as := [VI (7 : Int32)]) (st := [VI (256 : Int32), VI x14]) (st2 := [VI x16, VI (256 : Int32), VI x14]) (a := h0) (ci := 12) (r := rX12) (n := 1) dX12_rest_70 (zX12_at E hs15) rfl cwX12_at rfl tw_1246 tw_1248 tw_54 rfl (e_if hu27).1.1 (e_if hu27).1.2 ⟨by decide, by decide⟩ (Nat.le_of_ble_eq_true rfl) rfl ?_
    refine EV_imul dX12_rest_73 ?_
    refine EV_iadd dX12_rest_74 ?_
    refine EV_ldcw (x := (65536 : Int32)) dX12_rest_75 tw_1250 ?_
    refine EV_aload_n dX12_rest_78 rfl ?_
    refine EV_bipush (x := (8 : Int32)) dX12_rest_79 (by decide) ?_
    have hh := b1_some h; clear h; obtain ⟨u26, hu26, h⟩ := hh
    have hh := b2_some h; clear h; obtain ⟨x18, s17, hs17, h⟩ := hh
    refine EV_callV (Y := YX12_at) (as := [VI (8 : Int32)]) (st := [VI (65536 : Int32), VI (x14 + ((256 : Int32) * x16))]) (st2 := [VI x18, VI (65536 : Int32), VI (x14 + ((256 : Int32) * x16))]) (a := h0) (ci := 12) (r := rX12) (n := 1) dX12_rest_81 (zX12_at E hs17) rfl cwX12_at rfl tw_1246 tw_1248 tw_54 rfl (e_if hu26).1.1 (e_if hu26).1.2 ⟨by decide, by decide⟩ (Nat.le_of_ble_eq_true rfl) rfl ?_
    refine EV_imul dX12_rest_84 ?_
    refine EV_iadd dX12_rest_85 ?_
    refine EV_istore (lv2 := [(5, VI ((x14 + ((256 : Int32) * x16)) + ((65536 : Int32) * x18))), (4, VI (x10 + ((256 : Int32) * x12))), (3, VI (x8 &&& (63 : Int32))), (2, VI x6), (1, VI (x3 - (4 : Int32))), (0, VR (some h0))]) dX12_rest_86 (by decide) rfl ?_
    refine EV_iload_n dX12_rest_88 rfl ?_
    refine EV_bipush (x := (102 : Int32)) dX12_rest_89 (by decide) ?_
    refine EV_icmp_ne (tgt := 107) dX12_rest_91 (by decide) (fun c19 => ?_) (fun c19 => ?_)
    · rw [if_pos c19] at h
      refine EV_iload_n dX12_rest_94 rfl ?_
      refine EV_iconst (x := (5 : Int32)) dX12_rest_95 (by decide) ?_
      refine EV_icmp_ne (tgt := 103) dX12_rest_96 (by decide) (fun c20 => ?_) (fun c20 => ?_)
      · rw [if_pos c20] at h
        refine EV_iconst (x := (1 : Int32)) dX12_rest_99 (by decide) ?_
        refine EV_goto (tgt := 137) dX12_rest_100 (by decide) ?_
        exact EV_pick [5, 4, 3, 2, 1, 0] rfl (zX12_rest_137 E h)
      · rw [if_neg c20] at h
        refine EV_iconst (x := (0 : Int32)) dX12_rest_103 (by decide) ?_
        refine EV_goto (tgt := 137) dX12_rest_104 (by decide) ?_
        exact EV_pick [5, 4, 3, 2, 1, 0] rfl (zX12_rest_137 E h)
    · rw [if_neg c19] at h
      refine EV_iload_n dX12_rest_107 rfl ?_
      refine EV_bipush (x := (6 : Int32)) dX12_rest_108 (by decide) ?_
      refine EV_icmp_eq (tgt := 132) dX12_rest_110 (by decide) (fun c20 => ?_) (fun c20 => ?_)
      · rw [if_pos c20] at h
        exact EV_pick [5, 4, 3, 2, 1, 0] rfl (zX12_rest_132 E h)
      · rw [if_neg c20] at h
        refine EV_iload_n dX12_rest_113 rfl ?_
        refine EV_bipush (x := (8 : Int32)) dX12_rest_114 (by decide) ?_
        refine EV_icmp_ne (tgt := 136) dX12_rest_116 (by decide) (fun c21 => ?_) (fun c21 => ?_)
        · rw [if_pos c21] at h
          refine EV_iload_n dX12_rest_119 rfl ?_
          have hh := b2_some h; clear h; obtain ⟨x23, s22, hs22, h⟩ := hh
          refine EV_callS (Y := YX12_isOrder) (as := [VI x6]) (st := []) (st2 := [VI x23]) (n := 1) dX12_rest_120 (zX12_isOrder E hs22) rfl cwX12_isOrder rfl tw_1251 tw_1252 ⟨by decide, by decide⟩ (Nat.le_of_ble_eq_true rfl) rfl ?_
          refine EV_if_ne (tgt := 132) dX12_rest_123 (by decide) (fun c24 => ?_) (fun c24 => ?_)
          · rw [if_pos c24] at h
            refine EV_iload_n dX12_rest_126 rfl ?_
            refine EV_bipush (x := (100 : Int32)) dX12_rest_127 (by decide) ?_
            refine EV_icmp_ne (tgt := 136) dX12_rest_129 (by decide) (fun c25 => ?_) (fun c25 => ?_)
            · rw [if_pos c25] at h
              exact EV_pick [5, 4, 3, 2, 1, 0] rfl (zX12_rest_132 E h)
            · rw [if_neg c25] at h
              exact EV_pick [5, 4, 3, 2, 1, 0] rfl (zX12_rest_136 E h)
          · rw [if_neg c24] at h
            exact EV_pick [5, 4, 3, 2, 1, 0] rfl (zX12_rest_132 E h)
        · rw [if_neg c21] at h
          exact EV_pick [5, 4, 3, 2, 1, 0] rfl (zX12_rest_136 E h)
  · rw [if_neg c4] at h
    refine EV_aload_n dX12_rest_15 rfl ?_
    refine EV_dup dX12_rest_16 rfl ?_
    have hh := b1_some h; clear h; obtain ⟨x5, hx5, h⟩ := hh
    refine EV_getI (ci := 12) (k := 44) dX12_rest_17 fl_X12_302 rfl hx5 ?_
    refine EV_iconst (x := (1 : Int32)) dX12_rest_20 (by decide) ?_
    refine EV_iadd dX12_rest_21 ?_
    have hh := b1_some h; clear h; obtain ⟨s6, hs6, h⟩ := hh
    refine EV_putI (ci := 12) (k := 44) dX12_rest_22 fp_X12_302 rfl hs6 ?_
    cases h
    exact EV_ret ⟨dX12_rest_25, rfl⟩ rfl
def mX12_takesData_110 (s0 : eS) : Option eS :=
  (some s0)
set_option maxRecDepth 100000 in
set_option maxHeartbeats 4000000 in
theorem zX12_takesData_110 (E : eE) {s0 s9 : eS} (h : mX12_takesData_110 s0 = some s9) : EV E MX12_takesData 110 [] [] s0 none s9 := by
  unfold mX12_takesData_110 at h
  cases h
  exact EV_ret ⟨dX12_takesData_110, rfl⟩ rfl
def mX12_takesData_93 (h0 : Nat) (pt0 : Int32) (pt1 : Option Nat) (s0 : eS) : Option eS :=
  (b1 pt1 fun a1 => (b1 (p_I s0 112 40 a1 pt0) fun s2 => (b1 (g_I s2 112 38 h0) fun x3 => (b1 (p_I s2 112 38 h0 (x3 + (1 : Int32))) fun s4 => (b1 (o_K s4 112 h0) fun u7 => (b1 (mX12_rest h0 s4) fun s5 => (mX12_takesData_110 s5)))))))
set_option maxRecDepth 100000 in
set_option maxHeartbeats 4000000 in
theorem zX12_takesData_93 (E : eE) {h0 : Nat} {pt0 : Int32} {pt1 : Option Nat} {s0 s9 : eS} (h : mX12_takesData_93 h0 pt0 pt1 s0 = some s9) : EV E MX12_takesData 93 [(0, VR (some h0))] [VI pt0, VR pt1] s0 none s9 := by
  unfold mX12_takesData_93 at h
  have hh := b1_some h; clear h; obtain ⟨a1, ha1, h⟩ := hh
  subst ha1
  have hh := b1_some h; clear h; obtain ⟨s2, hs2, h⟩ := hh
  refine EV_putI (ci := 12) (k := 40) dX12_takesData_93 fp_X12_290 rfl hs2 ?_
  refine EV_aload_n dX12_takesData_96 rfl ?_
  refine EV_dup dX12_takesData_97 rfl ?_
  have hh := b1_some h; clear h; obtain ⟨x3, hx3, h⟩ := hh
  refine EV_getI (ci := 12) (k := 38) dX12_takesData_98 fl_X12_182 rfl hx3 ?_
  refine EV_iconst (x := (1 : Int32)) dX12_takesData_101 (by decide) ?_
  refine EV_iadd dX12_takesData_102 ?_
  have hh := b1_some h; clear h; obtain ⟨s4, hs4, h⟩ := hh
  refine EV_putI (ci := 12) (k := 38) dX12_takesData_103 fp_X12_182 rfl hs4 ?_
  refine EV_aload_n dX12_takesData_106 rfl ?_
  have hh := b1_some h; clear h; obtain ⟨u7, hu7, h⟩ := hh
  have hh := b1_some h; clear h; obtain ⟨s5, hs5, h⟩ := hh
  refine EV_callV (Y := YX12_rest) (as := []) (st := []) (st2 := []) (a := h0) (ci := 12) (r := rX12) (n := 0) dX12_takesData_107 (zX12_rest E hs5) rfl cwX12_rest rfl tw_1242 tw_1244 tw_53 rfl (e_if hu7).1.1 (e_if hu7).1.2 ⟨by decide, by decide⟩ (Nat.le_of_ble_eq_true rfl) rfl ?_
  exact EV_pick [] rfl (zX12_takesData_110 E h)
def mX12_takesData_44 (h0 : Nat) (pi1 : Int32) (s0 : eS) : Option eS :=
  (b1 (g_I s0 112 38 h0) fun x1 => (if pi1 = (x1 - x1 / (32768 : Int32) * (32768 : Int32)) then (b1 (o_K s0 112 h0) fun u10 => (b2 (mX12_acknowledges h0 s0) fun x4 s3 => (if x4 = 0 then (mX12_takesData_110 s3) else (b1 (g_I s3 112 38 h0) fun x6 => (b1 (g_I s3 112 39 h0) fun x7 => (if x6 = x7 then (b1 (g_I s3 112 20 h0) fun x9 => (mX12_takesData_93 h0 x9 (some h0) s3)) else (b1 (g_I s3 112 40 h0) fun x9 => (mX12_takesData_93 h0 x9 (some h0) s3)))))))) else (b1 (o_K s0 112 h0) fun u5 => (b1 (mX12_closes h0 (3 : Int32) s0) fun s3 => (mX12_takesData_110 s3)))))
set_option maxRecDepth 100000 in
set_option maxHeartbeats 4000000 in
theorem zX12_takesData_44 (E : eE) {h0 : Nat} {pi1 : Int32} {s0 s9 : eS} (h : mX12_takesData_44 h0 pi1 s0 = some s9) : EV E MX12_takesData 44 [(0, VR (some h0)), (1, VI pi1)] [] s0 none s9 := by
  unfold mX12_takesData_44 at h
  refine EV_iload_n dX12_takesData_44 rfl ?_
  refine EV_aload_n dX12_takesData_45 rfl ?_
  have hh := b1_some h; clear h; obtain ⟨x1, hx1, h⟩ := hh
  refine EV_getI (ci := 12) (k := 38) dX12_takesData_46 fl_X12_182 rfl hx1 ?_
  refine EV_ldc (x := (32768 : Int32)) dX12_takesData_49 tw_1155 ?_
  refine EV_irem dX12_takesData_51 (by decide) ?_
  refine EV_icmp_eq (tgt := 63) dX12_takesData_52 (by decide) (fun c2 => ?_) (fun c2 => ?_)
  · rw [if_pos c2] at h
    refine EV_aload_n dX12_takesData_63 rfl ?_
    have hh := b1_some h; clear h; obtain ⟨u10, hu10, h⟩ := hh
    have hh := b2_some h; clear h; obtain ⟨x4, s3, hs3, h⟩ := hh
    refine EV_callV (Y := YX12_acknowledges) (as := []) (st := []) (st2 := [VI x4]) (a := h0) (ci := 12) (r := rX12) (n := 0) dX12_takesData_64 (zX12_acknowledges E hs3) rfl cwX12_acknowledges rfl tw_1238 tw_1240 tw_52 rfl (e_if hu10).1.1 (e_if hu10).1.2 ⟨by decide, by decide⟩ (Nat.le_of_ble_eq_true rfl) rfl ?_
    refine EV_if_eq (tgt := 110) dX12_takesData_67 (by decide) (fun c5 => ?_) (fun c5 => ?_)
    · rw [if_pos c5] at h
      exact EV_pick [] rfl (zX12_takesData_110 E h)
    · rw [if_neg c5] at h
      refine EV_aload_n dX12_takesData_70 rfl ?_
      refine EV_aload_n dX12_takesData_71 rfl ?_
      have hh := b1_some h; clear h; obtain ⟨x6, hx6, h⟩ := hh
      refine EV_getI (ci := 12) (k := 38) dX12_takesData_72 fl_X12_182 rfl hx6 ?_
      refine EV_aload_n dX12_takesData_75 rfl ?_
      have hh := b1_some h; clear h; obtain ⟨x7, hx7, h⟩ := hh
      refine EV_getI (ci := 12) (k := 39) dX12_takesData_76 fl_X12_197 rfl hx7 ?_
      refine EV_icmp_ne (tgt := 89) dX12_takesData_79 (by decide) (fun c8 => ?_) (fun c8 => ?_)
      · rw [if_pos c8] at h
        refine EV_aload_n dX12_takesData_82 rfl ?_
        have hh := b1_some h; clear h; obtain ⟨x9, hx9, h⟩ := hh
        refine EV_getI (ci := 12) (k := 20) dX12_takesData_83 fl_X12_209 rfl hx9 ?_
        refine EV_goto (tgt := 93) dX12_takesData_86 (by decide) ?_
        exact EV_pick [0] rfl (zX12_takesData_93 E h)
      · rw [if_neg c8] at h
        refine EV_aload_n dX12_takesData_89 rfl ?_
        have hh := b1_some h; clear h; obtain ⟨x9, hx9, h⟩ := hh
        refine EV_getI (ci := 12) (k := 40) dX12_takesData_90 fl_X12_290 rfl hx9 ?_
        exact EV_pick [0] rfl (zX12_takesData_93 E h)
  · rw [if_neg c2] at h
    refine EV_aload_n dX12_takesData_55 rfl ?_
    refine EV_iconst (x := (3 : Int32)) dX12_takesData_56 (by decide) ?_
    have hh := b1_some h; clear h; obtain ⟨u5, hu5, h⟩ := hh
    have hh := b1_some h; clear h; obtain ⟨s3, hs3, h⟩ := hh
    refine EV_callV (Y := YX12_closes) (as := [VI (3 : Int32)]) (st := []) (st2 := []) (a := h0) (ci := 12) (r := rX12) (n := 1) dX12_takesData_57 (zX12_closes E hs3) rfl cwX12_closes rfl tw_1168 tw_1170 tw_40 rfl (e_if hu5).1.1 (e_if hu5).1.2 ⟨by decide, by decide⟩ (Nat.le_of_ble_eq_true rfl) rfl ?_
    refine EV_goto (tgt := 110) dX12_takesData_60 (by decide) ?_
    exact EV_pick [] rfl (zX12_takesData_110 E h)
def mX12_takesData (h0 : Nat) (s0 : eS) : Option eS :=
  (b1 (g_P s0 112 50 h0) fun r1 => (b1 r1 fun a2 => (b1 (a_I s0 0 a2 (2 : Int32)) fun x3 => (b1 (g_P s0 112 50 h0) fun r4 => (b1 r4 fun a5 => (b1 (a_I s0 0 a5 (3 : Int32)) fun x6 => (b1 (g_I s0 112 35 h0) fun x7 => (if x7 = (2 : Int32) then (mX12_takesData_44 h0 ((x3 / (2 : Int32)) + ((128 : Int32) * x6)) s0) else (b1 (g_I s0 112 35 h0) fun x9 => (if x9 = (3 : Int32) then (mX12_takesData_44 h0 ((x3 / (2 : Int32)) + ((128 : Int32) * x6)) s0) else (b1 (o_K s0 112 h0) fun u13 => (b1 (mX12_closes h0 (5 : Int32) s0) fun s11 => (mX12_takesData_110 s11)))))))))))))
set_option maxRecDepth 100000 in
set_option maxHeartbeats 4000000 in
theorem zX12_takesData (E : eE) {h0 : Nat} {s0 s9 : eS} (h : mX12_takesData h0 s0 = some s9) : EM E YX12_takesData [VR (some h0)] s0 none s9 := by
  refine EM_of (M := MX12_takesData) (own := RX12) (ini := false) rfl (by decide +kernel) rfl (fun z => nomatch z) (Nat.le_of_ble_eq_true rfl) ?_
  unfold mX12_takesData at h
  refine EV_aload_n dX12_takesData_0 rfl ?_
  have hh := b1_some h; clear h; obtain ⟨r1, hr1, h⟩ := hh
  refine EV_getP (ci := 12) (k := 50) dX12_takesData_1 fl_X12_99 rfl hr1 ?_
  refine EV_iconst (x := (2 : Int32)) dX12_takesData_4 (by decide) ?_
  have hh := b1_some h; clear h; obtain ⟨a2, ha2, h⟩ := hh
  subst ha2
  have hh := b1_some h; clear h; obtain ⟨x3, hx3, h⟩ := hh
  refine EV_aI (t := 0) (ty := .int) rfl (by decide) dX12_takesData_5 hx3 ?_
  refine EV_iconst (x := (2 : Int32)) dX12_takesData_6 (by decide) ?_
  refine EV_idiv dX12_takesData_7 (by decide) ?_
  refine EV_sipush (x := (128 : Int32)) dX12_takesData_8 (by decide) ?_
  refine EV_aload_n dX12_takesData_11 rfl ?_
  have hh := b1_some h; clear h; obtain ⟨r4, hr4, h⟩ := hh
  refine EV_getP (ci := 12) (k := 50) dX12_takesData_12 fl_X12_99 rfl hr4 ?_
  refine EV_iconst (x := (3 : Int32)) dX12_takesData_15 (by decide) ?_
  have hh := b1_some h; clear h; obtain ⟨a5, ha5, h⟩ := hh
  subst ha5
  have hh := b1_some h; clear h; obtain ⟨x6, hx6, h⟩ := hh
  refine EV_aI (t := 0) (ty := .int) rfl (by decide) dX12_takesData_16 hx6 ?_
  refine EV_imul dX12_takesData_17 ?_
  refine EV_iadd dX12_takesData_18 ?_
  refine EV_istore_n (lv2 := [(1, VI ((x3 / (2 : Int32)) + ((128 : Int32) * x6))), (0, VR (some h0))]) dX12_takesData_19 (by decide) rfl ?_
  refine EV_aload_n dX12_takesData_20 rfl ?_
  have hh := b1_some h; clear h; obtain ⟨x7, hx7, h⟩ := hh
  refine EV_getI (ci := 12) (k := 35) dX12_takesData_21 fl_X12_125 rfl hx7 ?_
  refine EV_iconst (x := (2 : Int32)) dX12_takesData_24 (by decide) ?_
  refine EV_icmp_eq (tgt := 44) dX12_takesData_25 (by decide) (fun c8 => ?_) (fun c8 => ?_)
  · rw [if_pos c8] at h
    exact EV_pick [1, 0] rfl (zX12_takesData_44 E h)
  · rw [if_neg c8] at h
    refine EV_aload_n dX12_takesData_28 rfl ?_
    have hh := b1_some h; clear h; obtain ⟨x9, hx9, h⟩ := hh
    refine EV_getI (ci := 12) (k := 35) dX12_takesData_29 fl_X12_125 rfl hx9 ?_
    refine EV_iconst (x := (3 : Int32)) dX12_takesData_32 (by decide) ?_
    refine EV_icmp_eq (tgt := 44) dX12_takesData_33 (by decide) (fun c10 => ?_) (fun c10 => ?_)
    · rw [if_pos c10] at h
      exact EV_pick [1, 0] rfl (zX12_takesData_44 E h)
    · rw [if_neg c10] at h
      refine EV_aload_n dX12_takesData_36 rfl ?_
      refine EV_iconst (x := (5 : Int32)) dX12_takesData_37 (by decide) ?_
      have hh := b1_some h; clear h; obtain ⟨u13, hu13, h⟩ := hh
      have hh := b1_some h; clear h; obtain ⟨s11, hs11, h⟩ := hh
      refine EV_callV (Y := YX12_closes) (as := [VI (5 : Int32)]) (st := []) (st2 := []) (a := h0) (ci := 12) (r := rX12) (n := 1) dX12_takesData_38 (zX12_closes E hs11) rfl cwX12_closes rfl tw_1168 tw_1170 tw_40 rfl (e_if hu13).1.1 (e_if hu13).1.2 ⟨by decide, by decide⟩ (Nat.le_of_ble_eq_true rfl) rfl ?_
      refine EV_goto (tgt := 110) dX12_takesData_41 (by decide) ?_
      exact EV_pick [] rfl (zX12_takesData_110 E h)
def mX12_takesOrder_142 (s0 : eS) : Option eS :=
  (some s0)
set_option maxRecDepth 100000 in
set_option maxHeartbeats 4000000 in
theorem zX12_takesOrder_142 (E : eE) {s0 s9 : eS} (h : mX12_takesOrder_142 s0 = some s9) : EV E MX12_takesOrder 142 [] [] s0 none s9 := by
  unfold mX12_takesOrder_142 at h
  cases h
  exact EV_ret ⟨dX12_takesOrder_142, rfl⟩ rfl
def mX12_takesOrder_33 (h0 : Nat) (pt0 : Int32) (pt1 : Option Nat) (s0 : eS) : Option eS :=
  (b1 pt1 fun a1 => (b1 (p_I s0 112 35 a1 pt0) fun s2 => (b1 (o_K s2 112 h0) fun u5 => (b2 (mX12_frames h0 (11 : Int32) (0 : Int32) (0 : Int32) (0 : Int32) (0 : Int32) s2) fun x4 s3 => (mX12_takesOrder_142 s3)))))
set_option maxRecDepth 100000 in
set_option maxHeartbeats 4000000 in
theorem zX12_takesOrder_33 (E : eE) {h0 : Nat} {pt0 : Int32} {pt1 : Option Nat} {s0 s9 : eS} (h : mX12_takesOrder_33 h0 pt0 pt1 s0 = some s9) : EV E MX12_takesOrder 33 [(0, VR (some h0))] [VI pt0, VR pt1] s0 none s9 := by
  unfold mX12_takesOrder_33 at h
  have hh := b1_some h; clear h; obtain ⟨a1, ha1, h⟩ := hh
  subst ha1
  have hh := b1_some h; clear h; obtain ⟨s2, hs2, h⟩ := hh
  refine EV_putI (ci := 12) (k := 35) dX12_takesOrder_33 fp_X12_125 rfl hs2 ?_
  refine EV_aload_n dX12_takesOrder_36 rfl ?_
  refine EV_bipush (x := (11 : Int32)) dX12_takesOrder_37 (by decide) ?_
  refine EV_iconst (x := (0 : Int32)) dX12_takesOrder_39 (by decide) ?_
  refine EV_iconst (x := (0 : Int32)) dX12_takesOrder_40 (by decide) ?_
  refine EV_iconst (x := (0 : Int32)) dX12_takesOrder_41 (by decide) ?_
  refine EV_iconst (x := (0 : Int32)) dX12_takesOrder_42 (by decide) ?_
  have hh := b1_some h; clear h; obtain ⟨u5, hu5, h⟩ := hh
  have hh := b2_some h; clear h; obtain ⟨x4, s3, hs3, h⟩ := hh
  refine EV_callV (Y := YX12_frames) (as := [VI (11 : Int32), VI (0 : Int32), VI (0 : Int32), VI (0 : Int32), VI (0 : Int32)]) (st := []) (st2 := [VI x4]) (a := h0) (ci := 12) (r := rX12) (n := 5) dX12_takesOrder_43 (zX12_frames E hs3) rfl cwX12_frames rfl tw_1164 tw_1166 tw_39 rfl (e_if hu5).1.1 (e_if hu5).1.2 ⟨by decide, by decide⟩ (Nat.le_of_ble_eq_true rfl) rfl ?_
  refine EV_istore_n (lv2 := [(2, VI x4), (0, VR (some h0))]) dX12_takesOrder_46 (by decide) rfl ?_
  refine EV_goto (tgt := 142) dX12_takesOrder_47 (by decide) ?_
  exact EV_pick [] rfl (zX12_takesOrder_142 E h)
def mX12_takesOrder_25 (h0 : Nat) (pt0 : Option Nat) (s0 : eS) : Option eS :=
  (mX12_takesOrder_33 h0 (2 : Int32) pt0 s0)
set_option maxRecDepth 100000 in
set_option maxHeartbeats 4000000 in
theorem zX12_takesOrder_25 (E : eE) {h0 : Nat} {pt0 : Option Nat} {s0 s9 : eS} (h : mX12_takesOrder_25 h0 pt0 s0 = some s9) : EV E MX12_takesOrder 25 [(0, VR (some h0))] [VR pt0] s0 none s9 := by
  unfold mX12_takesOrder_25 at h
  refine EV_iconst (x := (2 : Int32)) dX12_takesOrder_25 (by decide) ?_
  refine EV_goto (tgt := 33) dX12_takesOrder_26 (by decide) ?_
  exact EV_pick [0] rfl (zX12_takesOrder_33 E h)
def mX12_takesOrder (h0 : Nat) (pi1 : Int32) (s0 : eS) : Option eS :=
  (if pi1 = (7 : Int32) then (b1 (g_I s0 112 35 h0) fun x2 => (if x2 = (1 : Int32) then (mX12_takesOrder_25 h0 (some h0) s0) else (b1 (g_I s0 112 35 h0) fun x4 => (if x4 = (3 : Int32) then (mX12_takesOrder_25 h0 (some h0) s0) else (b1 (g_I s0 112 35 h0) fun x6 => (mX12_takesOrder_33 h0 x6 (some h0) s0)))))) else (if pi1 = (19 : Int32) then (b1 (g_I s0 112 35 h0) fun x3 => (if x3 = (2 : Int32) then (b1 (p_I s0 112 35 h0 (3 : Int32)) fun s5 => (b1 (g_I s5 112 38 h0) fun x6 => (b1 (g_I s5 112 39 h0) fun x7 => (if x6 ≤ x7 then (mX12_takesOrder_142 s5) else (b1 (o_K s5 112 h0) fun u11 => (b1 (mX12_tells h0 s5) fun s9 => (mX12_takesOrder_142 s9))))))) else (b1 (g_I s0 112 35 h0) fun x5 => (if x5 = (1 : Int32) then (b1 (o_K s0 112 h0) fun u9 => (b2 (mX12_frames h0 (35 : Int32) (0 : Int32) (0 : Int32) (0 : Int32) (0 : Int32) s0) fun x8 s7 => (mX12_takesOrder_142 s7))) else (mX12_takesOrder_142 s0))))) else (if pi1 = (67 : Int32) then (b1 (o_K s0 112 h0) fun u6 => (b2 (mX12_frames h0 (131 : Int32) (0 : Int32) (0 : Int32) (0 : Int32) (0 : Int32) s0) fun x5 s4 => (mX12_takesOrder_142 s4))) else (if pi1 = (131 : Int32) then (b1 (p_Z s0 112 42 h0 (0 : Int32)) fun s5 => (mX12_takesOrder_142 s5)) else (mX12_takesOrder_142 s0)))))
set_option maxRecDepth 100000 in
set_option maxHeartbeats 4000000 in
theorem zX12_takesOrder (E : eE) {h0 : Nat} {pi1 : Int32} {s0 s9 : eS} (h : mX12_takesOrder h0 pi1 s0 = some s9) : EM E YX12_takesOrder [VR (some h0), VI pi1] s0 none s9 := by
  refine EM_of (M := MX12_takesOrder) (own := RX12) (ini := false) rfl (by decide +kernel) rfl (fun z => nomatch z) (Nat.le_of_ble_eq_true rfl) ?_
  unfold mX12_takesOrder at h
  refine EV_iconst (x := (1 : Int32)) dX12_takesOrder_0 (by decide) ?_
  refine EV_istore_n (lv2 := [(2, VI (1 : Int32)), (0, VR (some h0)), (1, VI pi1)]) dX12_takesOrder_1 (by decide) rfl ?_
  refine EV_iload_n dX12_takesOrder_2 rfl ?_
  refine EV_bipush (x := (7 : Int32)) dX12_takesOrder_3 (by decide) ?_
  refine EV_icmp_ne (tgt := 50) dX12_takesOrder_5 (by decide) (fun c1 => ?_) (fun c1 => ?_)
  · rw [if_pos c1] at h
    refine EV_aload_n dX12_takesOrder_8 rfl ?_
    refine EV_aload_n dX12_takesOrder_9 rfl ?_
    have hh := b1_some h; clear h; obtain ⟨x2, hx2, h⟩ := hh
    refine EV_getI (ci := 12) (k := 35) dX12_takesOrder_10 fl_X12_125 rfl hx2 ?_
    refine EV_iconst (x := (1 : Int32)) dX12_takesOrder_13 (by decide) ?_
    refine EV_icmp_eq (tgt := 25) dX12_takesOrder_14 (by decide) (fun c3 => ?_) (fun c3 => ?_)
    · rw [if_pos c3] at h
      exact EV_pick [1] rfl (zX12_takesOrder_25 E h)
    · rw [if_neg c3] at h
      refine EV_aload_n dX12_takesOrder_17 rfl ?_
      have hh := b1_some h; clear h; obtain ⟨x4, hx4, h⟩ := hh
      refine EV_getI (ci := 12) (k := 35) dX12_takesOrder_18 fl_X12_125 rfl hx4 ?_
      refine EV_iconst (x := (3 : Int32)) dX12_takesOrder_21 (by decide) ?_
      refine EV_icmp_ne (tgt := 29) dX12_takesOrder_22 (by decide) (fun c5 => ?_) (fun c5 => ?_)
      · rw [if_pos c5] at h
        exact EV_pick [1] rfl (zX12_takesOrder_25 E h)
      · rw [if_neg c5] at h
        refine EV_aload_n dX12_takesOrder_29 rfl ?_
        have hh := b1_some h; clear h; obtain ⟨x6, hx6, h⟩ := hh
        refine EV_getI (ci := 12) (k := 35) dX12_takesOrder_30 fl_X12_125 rfl hx6 ?_
        exact EV_pick [1] rfl (zX12_takesOrder_33 E h)
  · rw [if_neg c1] at h
    refine EV_iload_n dX12_takesOrder_50 rfl ?_
    refine EV_bipush (x := (19 : Int32)) dX12_takesOrder_51 (by decide) ?_
    refine EV_icmp_ne (tgt := 109) dX12_takesOrder_53 (by decide) (fun c2 => ?_) (fun c2 => ?_)
    · rw [if_pos c2] at h
      refine EV_aload_n dX12_takesOrder_56 rfl ?_
      have hh := b1_some h; clear h; obtain ⟨x3, hx3, h⟩ := hh
      refine EV_getI (ci := 12) (k := 35) dX12_takesOrder_57 fl_X12_125 rfl hx3 ?_
      refine EV_iconst (x := (2 : Int32)) dX12_takesOrder_60 (by decide) ?_
      refine EV_icmp_ne (tgt := 87) dX12_takesOrder_61 (by decide) (fun c4 => ?_) (fun c4 => ?_)
      · rw [if_pos c4] at h
        refine EV_aload_n dX12_takesOrder_64 rfl ?_
        refine EV_iconst (x := (3 : Int32)) dX12_takesOrder_65 (by decide) ?_
        have hh := b1_some h; clear h; obtain ⟨s5, hs5, h⟩ := hh
        refine EV_putI (ci := 12) (k := 35) dX12_takesOrder_66 fp_X12_125 rfl hs5 ?_
        refine EV_aload_n dX12_takesOrder_69 rfl ?_
        have hh := b1_some h; clear h; obtain ⟨x6, hx6, h⟩ := hh
        refine EV_getI (ci := 12) (k := 38) dX12_takesOrder_70 fl_X12_182 rfl hx6 ?_
        refine EV_aload_n dX12_takesOrder_73 rfl ?_
        have hh := b1_some h; clear h; obtain ⟨x7, hx7, h⟩ := hh
        refine EV_getI (ci := 12) (k := 39) dX12_takesOrder_74 fl_X12_197 rfl hx7 ?_
        refine EV_icmp_le (tgt := 142) dX12_takesOrder_77 (by decide) (fun c8 => ?_) (fun c8 => ?_)
        · rw [if_pos c8] at h
          exact EV_pick [] rfl (zX12_takesOrder_142 E h)
        · rw [if_neg c8] at h
          refine EV_aload_n dX12_takesOrder_80 rfl ?_
          have hh := b1_some h; clear h; obtain ⟨u11, hu11, h⟩ := hh
          have hh := b1_some h; clear h; obtain ⟨s9, hs9, h⟩ := hh
          refine EV_callV (Y := YX12_tells) (as := []) (st := []) (st2 := []) (a := h0) (ci := 12) (r := rX12) (n := 0) dX12_takesOrder_81 (zX12_tells E hs9) rfl cwX12_tells rfl tw_1318 tw_1320 tw_68 rfl (e_if hu11).1.1 (e_if hu11).1.2 ⟨by decide, by decide⟩ (Nat.le_of_ble_eq_true rfl) rfl ?_
          refine EV_goto (tgt := 142) dX12_takesOrder_84 (by decide) ?_
          exact EV_pick [] rfl (zX12_takesOrder_142 E h)
      · rw [if_neg c4] at h
        refine EV_aload_n dX12_takesOrder_87 rfl ?_
        have hh := b1_some h; clear h; obtain ⟨x5, hx5, h⟩ := hh
        refine EV_getI (ci := 12) (k := 35) dX12_takesOrder_88 fl_X12_125 rfl hx5 ?_
        refine EV_iconst (x := (1 : Int32)) dX12_takesOrder_91 (by decide) ?_
        refine EV_icmp_ne (tgt := 142) dX12_takesOrder_92 (by decide) (fun c6 => ?_) (fun c6 => ?_)
        · rw [if_pos c6] at h
          refine EV_aload_n dX12_takesOrder_95 rfl ?_
          refine EV_bipush (x := (35 : Int32)) dX12_takesOrder_96 (by decide) ?_
          refine EV_iconst (x := (0 : Int32)) dX12_takesOrder_98 (by decide) ?_
          refine EV_iconst (x := (0 : Int32)) dX12_takesOrder_99 (by decide) ?_
          refine EV_iconst (x := (0 : Int32)) dX12_takesOrder_100 (by decide) ?_
          refine EV_iconst (x := (0 : Int32)) dX12_takesOrder_101 (by decide) ?_
          have hh := b1_some h; clear h; obtain ⟨u9, hu9, h⟩ := hh
          have hh := b2_some h; clear h; obtain ⟨x8, s7, hs7, h⟩ := hh
          refine EV_callV (Y := YX12_frames) (as := [VI (35 : Int32), VI (0 : Int32), VI (0 : Int32), VI (0 : Int32), VI (0 : Int32)]) (st := []) (st2 := [VI x8]) (a := h0) (ci := 12) (r := rX12) (n := 5) dX12_takesOrder_102 (zX12_frames E hs7) rfl cwX12_frames rfl tw_1164 tw_1166 tw_39 rfl (e_if hu9).1.1 (e_if hu9).1.2 ⟨by decide, by decide⟩ (Nat.le_of_ble_eq_true rfl) rfl ?_
          refine EV_istore_n (lv2 := [(2, VI x8), (0, VR (some h0)), (1, VI pi1)]) dX12_takesOrder_105 (by decide) rfl ?_
          refine EV_goto (tgt := 142) dX12_takesOrder_106 (by decide) ?_
          exact EV_pick [] rfl (zX12_takesOrder_142 E h)
        · rw [if_neg c6] at h
          exact EV_pick [] rfl (zX12_takesOrder_142 E h)
    · rw [if_neg c2] at h
      refine EV_iload_n dX12_takesOrder_109 rfl ?_
      refine EV_bipush (x := (67 : Int32)) dX12_takesOrder_110 (by decide) ?_
      refine EV_icmp_ne (tgt := 130) dX12_takesOrder_112 (by decide) (fun c3 => ?_) (fun c3 => ?_)
      · rw [if_pos c3] at h
        refine EV_aload_n dX12_takesOrder_115 rfl ?_
        refine EV_sipush (x := (131 : Int32)) dX12_takesOrder_116 (by decide) ?_
        refine EV_iconst (x := (0 : Int32)) dX12_takesOrder_119 (by decide) ?_
        refine EV_iconst (x := (0 : Int32)) dX12_takesOrder_120 (by decide) ?_
        refine EV_iconst (x := (0 : Int32)) dX12_takesOrder_121 (by decide) ?_
        refine EV_iconst (x := (0 : Int32)) dX12_takesOrder_122 (by decide) ?_
        have hh := b1_some h; clear h; obtain ⟨u6, hu6, h⟩ := hh
        have hh := b2_some h; clear h; obtain ⟨x5, s4, hs4, h⟩ := hh
        refine EV_callV (Y := YX12_frames) (as := [VI (131 : Int32), VI (0 : Int32), VI (0 : Int32), VI (0 : Int32), VI (0 : Int32)]) (st := []) (st2 := [VI x5]) (a := h0) (ci := 12) (r := rX12) (n := 5) dX12_takesOrder_123 (zX12_frames E hs4) rfl cwX12_frames rfl tw_1164 tw_1166 tw_39 rfl (e_if hu6).1.1 (e_if hu6).1.2 ⟨by decide, by decide⟩ (Nat.le_of_ble_eq_true rfl) rfl ?_
        refine EV_istore_n (lv2 := [(2, VI x5), (0, VR (some h0)), (1, VI pi1)]) dX12_takesOrder_126 (by decide) rfl ?_
        refine EV_goto (tgt := 142) dX12_takesOrder_127 (by decide) ?_
        exact EV_pick [] rfl (zX12_takesOrder_142 E h)
      · rw [if_neg c3] at h
        refine EV_iload_n dX12_takesOrder_130 rfl ?_
        refine EV_sipush (x := (131 : Int32)) dX12_takesOrder_131 (by decide) ?_
        refine EV_icmp_ne (tgt := 142) dX12_takesOrder_134 (by decide) (fun c4 => ?_) (fun c4 => ?_)
        · rw [if_pos c4] at h
          refine EV_aload_n dX12_takesOrder_137 rfl ?_
          refine EV_iconst (x := (0 : Int32)) dX12_takesOrder_138 (by decide) ?_
          have hh := b1_some h; clear h; obtain ⟨s5, hs5, h⟩ := hh
          refine EV_putZ (ci := 12) (k := 42) dX12_takesOrder_139 fp_X12_258 rfl hs5 ?_
          exact EV_pick [] rfl (zX12_takesOrder_142 E h)
        · rw [if_neg c4] at h
          exact EV_pick [] rfl (zX12_takesOrder_142 E h)
def mX12_takes_110 (s0 : eS) : Option eS :=
  (some s0)
set_option maxRecDepth 100000 in
set_option maxHeartbeats 4000000 in
theorem zX12_takes_110 (E : eE) {s0 s9 : eS} (h : mX12_takes_110 s0 = some s9) : EV E MX12_takes 110 [] [] s0 none s9 := by
  unfold mX12_takes_110 at h
  cases h
  exact EV_ret ⟨dX12_takes_110, rfl⟩ rfl
def mX12_takes_77 (h0 : Nat) (s0 : eS) : Option eS :=
  (b1 (o_K s0 112 h0) fun u14 => (b1 (mX12_sends h0 s0) fun s1 => (b1 (g_I s1 112 35 h0) fun x3 => (if x3 = 0 then (mX12_takes_110 s1) else (b1 (g_I s1 112 38 h0) fun x5 => (b1 (g_I s1 112 39 h0) fun x6 => (b1 (g_P s1 112 0 h0) fun r7 => (b1 r7 fun a8 => (b1 (a_I s1 0 a8 (2 : Int32)) fun x9 => (if (x5 - x6) < x9 then (mX12_takes_110 s1) else (b1 (o_K s1 112 h0) fun u13 => (b1 (mX12_tells h0 s1) fun s11 => (mX12_takes_110 s11)))))))))))))
set_option maxRecDepth 100000 in
set_option maxHeartbeats 4000000 in
theorem zX12_takes_77 (E : eE) {h0 : Nat} {s0 s9 : eS} (h : mX12_takes_77 h0 s0 = some s9) : EV E MX12_takes 77 [(0, VR (some h0))] [] s0 none s9 := by
  unfold mX12_takes_77 at h
  refine EV_aload_n dX12_takes_77 rfl ?_
  have hh := b1_some h; clear h; obtain ⟨u14, hu14, h⟩ := hh
  have hh := b1_some h; clear h; obtain ⟨s1, hs1, h⟩ := hh
  refine EV_callV (Y := YX12_sends) (as := []) (st := []) (st2 := []) (a := h0) (ci := 12) (r := rX12) (n := 0) dX12_takes_78 (zX12_sends E hs1) rfl cwX12_sends rfl tw_1147 tw_1149 tw_35 rfl (e_if hu14).1.1 (e_if hu14).1.2 ⟨by decide, by decide⟩ (Nat.le_of_ble_eq_true rfl) rfl ?_
  refine EV_aload_n dX12_takes_81 rfl ?_
  have hh := b1_some h; clear h; obtain ⟨x3, hx3, h⟩ := hh
  refine EV_getI (ci := 12) (k := 35) dX12_takes_82 fl_X12_125 rfl hx3 ?_
  refine EV_if_eq (tgt := 110) dX12_takes_85 (by decide) (fun c4 => ?_) (fun c4 => ?_)
  · rw [if_pos c4] at h
    exact EV_pick [] rfl (zX12_takes_110 E h)
  · rw [if_neg c4] at h
    refine EV_aload_n dX12_takes_88 rfl ?_
    have hh := b1_some h; clear h; obtain ⟨x5, hx5, h⟩ := hh
    refine EV_getI (ci := 12) (k := 38) dX12_takes_89 fl_X12_182 rfl hx5 ?_
    refine EV_aload_n dX12_takes_92 rfl ?_
    have hh := b1_some h; clear h; obtain ⟨x6, hx6, h⟩ := hh
    refine EV_getI (ci := 12) (k := 39) dX12_takes_93 fl_X12_197 rfl hx6 ?_
    refine EV_isub dX12_takes_96 ?_
    refine EV_aload_n dX12_takes_97 rfl ?_
    have hh := b1_some h; clear h; obtain ⟨r7, hr7, h⟩ := hh
    refine EV_getP (ci := 12) (k := 0) dX12_takes_98 fl_X12_7 rfl hr7 ?_
    refine EV_iconst (x := (2 : Int32)) dX12_takes_101 (by decide) ?_
    have hh := b1_some h; clear h; obtain ⟨a8, ha8, h⟩ := hh
    subst ha8
    have hh := b1_some h; clear h; obtain ⟨x9, hx9, h⟩ := hh
    refine EV_aI (t := 0) (ty := .int) rfl (by decide) dX12_takes_102 hx9 ?_
    refine EV_icmp_lt (tgt := 110) dX12_takes_103 (by decide) (fun c10 => ?_) (fun c10 => ?_)
    · rw [if_pos c10] at h
      exact EV_pick [] rfl (zX12_takes_110 E h)
    · rw [if_neg c10] at h
      refine EV_aload_n dX12_takes_106 rfl ?_
      have hh := b1_some h; clear h; obtain ⟨u13, hu13, h⟩ := hh
      have hh := b1_some h; clear h; obtain ⟨s11, hs11, h⟩ := hh
      refine EV_callV (Y := YX12_tells) (as := []) (st := []) (st2 := []) (a := h0) (ci := 12) (r := rX12) (n := 0) dX12_takes_107 (zX12_tells E hs11) rfl cwX12_tells rfl tw_1318 tw_1320 tw_68 rfl (e_if hu13).1.1 (e_if hu13).1.2 ⟨by decide, by decide⟩ (Nat.le_of_ble_eq_true rfl) rfl ?_
      exact EV_pick [] rfl (zX12_takes_110 E h)
def mX12_takes_46 (h0 : Nat) (s0 : eS) : Option eS :=
  (b1 (g_I s0 112 35 h0) fun x1 => (if x1 = (3 : Int32) then (b1 (g_I s0 112 28 h0) fun x3 => (if x3 = 0 then (b1 (p_I s0 112 35 h0 (1 : Int32)) fun s5 => (b1 (o_K s5 112 h0) fun u8 => (b2 (mX12_frames h0 (35 : Int32) (0 : Int32) (0 : Int32) (0 : Int32) (0 : Int32) s5) fun x7 s6 => (mX12_takes_77 h0 s6)))) else (mX12_takes_77 h0 s0))) else (mX12_takes_77 h0 s0)))
set_option maxRecDepth 100000 in
set_option maxHeartbeats 4000000 in
theorem zX12_takes_46 (E : eE) {h0 : Nat} {s0 s9 : eS} (h : mX12_takes_46 h0 s0 = some s9) : EV E MX12_takes 46 [(0, VR (some h0))] [] s0 none s9 := by
  unfold mX12_takes_46 at h
  refine EV_aload_n dX12_takes_46 rfl ?_
  have hh := b1_some h; clear h; obtain ⟨x1, hx1, h⟩ := hh
  refine EV_getI (ci := 12) (k := 35) dX12_takes_47 fl_X12_125 rfl hx1 ?_
  refine EV_iconst (x := (3 : Int32)) dX12_takes_50 (by decide) ?_
  refine EV_icmp_ne (tgt := 77) dX12_takes_51 (by decide) (fun c2 => ?_) (fun c2 => ?_)
  · rw [if_pos c2] at h
    refine EV_aload_n dX12_takes_54 rfl ?_
    have hh := b1_some h; clear h; obtain ⟨x3, hx3, h⟩ := hh
    refine EV_getI (ci := 12) (k := 28) dX12_takes_55 fl_X12_206 rfl hx3 ?_
    refine EV_if_ne (tgt := 77) dX12_takes_58 (by decide) (fun c4 => ?_) (fun c4 => ?_)
    · rw [if_pos c4] at h
      refine EV_aload_n dX12_takes_61 rfl ?_
      refine EV_iconst (x := (1 : Int32)) dX12_takes_62 (by decide) ?_
      have hh := b1_some h; clear h; obtain ⟨s5, hs5, h⟩ := hh
      refine EV_putI (ci := 12) (k := 35) dX12_takes_63 fp_X12_125 rfl hs5 ?_
      refine EV_aload_n dX12_takes_66 rfl ?_
      refine EV_bipush (x := (35 : Int32)) dX12_takes_67 (by decide) ?_
      refine EV_iconst (x := (0 : Int32)) dX12_takes_69 (by decide) ?_
      refine EV_iconst (x := (0 : Int32)) dX12_takes_70 (by decide) ?_
      refine EV_iconst (x := (0 : Int32)) dX12_takes_71 (by decide) ?_
      refine EV_iconst (x := (0 : Int32)) dX12_takes_72 (by decide) ?_
      have hh := b1_some h; clear h; obtain ⟨u8, hu8, h⟩ := hh
      have hh := b2_some h; clear h; obtain ⟨x7, s6, hs6, h⟩ := hh
      refine EV_callV (Y := YX12_frames) (as := [VI (35 : Int32), VI (0 : Int32), VI (0 : Int32), VI (0 : Int32), VI (0 : Int32)]) (st := []) (st2 := [VI x7]) (a := h0) (ci := 12) (r := rX12) (n := 5) dX12_takes_73 (zX12_frames E hs6) rfl cwX12_frames rfl tw_1164 tw_1166 tw_39 rfl (e_if hu8).1.1 (e_if hu8).1.2 ⟨by decide, by decide⟩ (Nat.le_of_ble_eq_true rfl) rfl ?_
      refine EV_istore_n (lv2 := [(2, VI x7), (0, VR (some h0))]) dX12_takes_76 (by decide) rfl ?_
      exact EV_pick [1] rfl (zX12_takes_77 E h)
    · rw [if_neg c4] at h
      exact EV_pick [0] rfl (zX12_takes_77 E h)
  · rw [if_neg c2] at h
    exact EV_pick [0] rfl (zX12_takes_77 E h)
def mX12_takes (h0 : Nat) (s0 : eS) : Option eS :=
  (b1 (g_I s0 112 20 h0) fun x1 => (b1 (p_I s0 112 41 h0 x1) fun s2 => (b1 (g_P s2 112 50 h0) fun r3 => (b1 r3 fun a4 => (b1 (a_I s2 0 a4 (2 : Int32)) fun x5 => (if (x5 &&& (1 : Int32)) = 0 then (b1 (o_K s2 112 h0) fun u9 => (b1 (mX12_takesData h0 s2) fun s7 => (mX12_takes_46 h0 s7))) else (if x5 = (1 : Int32) then (b1 (o_K s2 112 h0) fun u10 => (b2 (mX12_acknowledges h0 s2) fun x9 s8 => (mX12_takes_46 h0 s8))) else (b1 (o_K s2 112 h0) fun u10 => (b1 (mX12_takesOrder h0 x5 s2) fun s8 => (mX12_takes_46 h0 s8))))))))))
set_option maxRecDepth 100000 in
set_option maxHeartbeats 4000000 in
theorem zX12_takes (E : eE) {h0 : Nat} {s0 s9 : eS} (h : mX12_takes h0 s0 = some s9) : EM E YX12_takes [VR (some h0)] s0 none s9 := by
  refine EM_of (M := MX12_takes) (own := RX12) (ini := false) rfl (by decide +kernel) rfl (fun z => nomatch z) (Nat.le_of_ble_eq_true rfl) ?_
  unfold mX12_takes at h
  refine EV_aload_n dX12_takes_0 rfl ?_
  refine EV_aload_n dX12_takes_1 rfl ?_
  have hh := b1_some h; clear h; obtain ⟨x1, hx1, h⟩ := hh
  refine EV_getI (ci := 12) (k := 20) dX12_takes_2 fl_X12_209 rfl hx1 ?_
  have hh := b1_some h; clear h; obtain ⟨s2, hs2, h⟩ := hh
  refine EV_putI (ci := 12) (k := 41) dX12_takes_5 fp_X12_261 rfl hs2 ?_
  refine EV_aload_n dX12_takes_8 rfl ?_
  have hh := b1_some h; clear h; obtain ⟨r3, hr3, h⟩ := hh
  refine EV_getP (ci := 12) (k := 50) dX12_takes_9 fl_X12_99 rfl hr3 ?_
  refine EV_iconst (x := (2 : Int32)) dX12_takes_12 (by decide) ?_
  have hh := b1_some h; clear h; obtain ⟨a4, ha4, h⟩ := hh
  subst ha4
  have hh := b1_some h; clear h; obtain ⟨x5, hx5, h⟩ := hh
  refine EV_aI (t := 0) (ty := .int) rfl (by decide) dX12_takes_13 hx5 ?_
  refine EV_istore_n (lv2 := [(1, VI x5), (0, VR (some h0))]) dX12_takes_14 (by decide) rfl ?_
  refine EV_iload_n dX12_takes_15 rfl ?_
  refine EV_iconst (x := (1 : Int32)) dX12_takes_16 (by decide) ?_
  refine EV_iand dX12_takes_17 ?_
  refine EV_if_ne (tgt := 28) dX12_takes_18 (by decide) (fun c6 => ?_) (fun c6 => ?_)
  · rw [if_pos c6] at h
    refine EV_aload_n dX12_takes_21 rfl ?_
    have hh := b1_some h; clear h; obtain ⟨u9, hu9, h⟩ := hh
    have hh := b1_some h; clear h; obtain ⟨s7, hs7, h⟩ := hh
    refine EV_callV (Y := YX12_takesData) (as := []) (st := []) (st2 := []) (a := h0) (ci := 12) (r := rX12) (n := 0) dX12_takes_22 (zX12_takesData E hs7) rfl cwX12_takesData rfl tw_1234 tw_1236 tw_51 rfl (e_if hu9).1.1 (e_if hu9).1.2 ⟨by decide, by decide⟩ (Nat.le_of_ble_eq_true rfl) rfl ?_
    refine EV_goto (tgt := 46) dX12_takes_25 (by decide) ?_
    exact EV_pick [1] rfl (zX12_takes_46 E h)
  · rw [if_neg c6] at h
    refine EV_iload_n dX12_takes_28 rfl ?_
    refine EV_iconst (x := (1 : Int32)) dX12_takes_29 (by decide) ?_
    refine EV_icmp_ne (tgt := 41) dX12_takes_30 (by decide) (fun c7 => ?_) (fun c7 => ?_)
    · rw [if_pos c7] at h
      refine EV_aload_n dX12_takes_33 rfl ?_
      have hh := b1_some h; clear h; obtain ⟨u10, hu10, h⟩ := hh
      have hh := b2_some h; clear h; obtain ⟨x9, s8, hs8, h⟩ := hh
      refine EV_callV (Y := YX12_acknowledges) (as := []) (st := []) (st2 := [VI x9]) (a := h0) (ci := 12) (r := rX12) (n := 0) dX12_takes_34 (zX12_acknowledges E hs8) rfl cwX12_acknowledges rfl tw_1238 tw_1240 tw_52 rfl (e_if hu10).1.1 (e_if hu10).1.2 ⟨by decide, by decide⟩ (Nat.le_of_ble_eq_true rfl) rfl ?_
      refine EV_istore_n (lv2 := [(2, VI x9), (1, VI x5), (0, VR (some h0))]) dX12_takes_37 (by decide) rfl ?_
      refine EV_goto (tgt := 46) dX12_takes_38 (by decide) ?_
      exact EV_pick [2] rfl (zX12_takes_46 E h)
    · rw [if_neg c7] at h
      refine EV_aload_n dX12_takes_41 rfl ?_
      refine EV_iload_n dX12_takes_42 rfl ?_
      have hh := b1_some h; clear h; obtain ⟨u10, hu10, h⟩ := hh
      have hh := b1_some h; clear h; obtain ⟨s8, hs8, h⟩ := hh
      refine EV_callV (Y := YX12_takesOrder) (as := [VI x5]) (st := []) (st2 := []) (a := h0) (ci := 12) (r := rX12) (n := 1) dX12_takes_43 (zX12_takesOrder E hs8) rfl cwX12_takesOrder rfl tw_1314 tw_1316 tw_67 rfl (e_if hu10).1.1 (e_if hu10).1.2 ⟨by decide, by decide⟩ (Nat.le_of_ble_eq_true rfl) rfl ?_
      exact EV_pick [1] rfl (zX12_takes_46 E h)
def mX12_come_145 (pi4 : Int32) (s0 : eS) : Option (Int32 × eS) :=
  (some (pi4, s0))
set_option maxRecDepth 100000 in
set_option maxHeartbeats 4000000 in
theorem zX12_come_145 (E : eE) {pi4 : Int32} {s0 s9 : eS} {y : Int32} (h : mX12_come_145 pi4 s0 = some (y, s9)) : EV E MX12_come 145 [(4, VI pi4)] [] s0 (some (VI y)) s9 := by
  unfold mX12_come_145 at h
  refine EV_iload dX12_come_145 rfl ?_
  cases h
  exact EV_ret ⟨dX12_come_147, .int, rfl, rfl⟩ rfl
def mX12_come_139 (k32 : Nat → Int64 → Int32 → Int32 → eS → Option (Int32 × eS)) (h0 : Nat) (pl2 : Int64) (pi4 : Int32) (pi5 : Int32) (s0 : eS) : Option (Int32 × eS) :=
  (k32 h0 pl2 pi4 (pi5 + (-1 : Int32)) s0)
set_option maxRecDepth 100000 in
set_option maxHeartbeats 4000000 in
theorem zX12_come_139 (E : eE) {k32 : Nat → Int64 → Int32 → Int32 → eS → Option (Int32 × eS)} (hk32 : ∀ {h0 : Nat} {pl2 : Int64} {pi4 : Int32} {pi5 : Int32} {s0 s9 : eS} {y : Int32}, k32 h0 pl2 pi4 pi5 s0 = some (y, s9) → EV E MX12_come 32 [(0, VR (some h0)), (2, VL pl2), (4, VI pi4), (5, VI pi5)] [] s0 (some (VI y)) s9) {h0 : Nat} {pl2 : Int64} {pi4 : Int32} {pi5 : Int32} {s0 s9 : eS} {y : Int32} (h : mX12_come_139 k32 h0 pl2 pi4 pi5 s0 = some (y, s9)) : EV E MX12_come 139 [(0, VR (some h0)), (2, VL pl2), (4, VI pi4), (5, VI pi5)] [] s0 (some (VI y)) s9 := by
  unfold mX12_come_139 at h
  refine EV_iinc (y := (-1 : Int32)) (lv2 := [(5, VI (pi5 + (-1 : Int32))), (0, VR (some h0)), (2, VL pl2), (4, VI pi4)]) dX12_come_139 rfl (by decide) (by decide) rfl ?_
  refine EV_goto (tgt := 32) dX12_come_142 (by decide) ?_
  exact EV_pick [1, 2, 3, 0] rfl (hk32 h)
def mX12_come_131 (k32 : Nat → Int64 → Int32 → Int32 → eS → Option (Int32 × eS)) (h0 : Nat) (pl2 : Int64) (pi5 : Int32) (pt0 : Int32) (pt1 : Int32) (s0 : eS) : Option (Int32 × eS) :=
  (b1 (p_I s0 112 51 h0 (0 : Int32)) fun s1 => (mX12_come_139 k32 h0 pl2 (pt1 + pt0) pi5 s1))
set_option maxRecDepth 100000 in
set_option maxHeartbeats 4000000 in
theorem zX12_come_131 (E : eE) {k32 : Nat → Int64 → Int32 → Int32 → eS → Option (Int32 × eS)} (hk32 : ∀ {h0 : Nat} {pl2 : Int64} {pi4 : Int32} {pi5 : Int32} {s0 s9 : eS} {y : Int32}, k32 h0 pl2 pi4 pi5 s0 = some (y, s9) → EV E MX12_come 32 [(0, VR (some h0)), (2, VL pl2), (4, VI pi4), (5, VI pi5)] [] s0 (some (VI y)) s9) {h0 : Nat} {pl2 : Int64} {pi5 : Int32} {pt0 : Int32} {pt1 : Int32} {s0 s9 : eS} {y : Int32} (h : mX12_come_131 k32 h0 pl2 pi5 pt0 pt1 s0 = some (y, s9)) : EV E MX12_come 131 [(0, VR (some h0)), (2, VL pl2), (5, VI pi5)] [VI pt0, VI pt1] s0 (some (VI y)) s9 := by
  unfold mX12_come_131 at h
  refine EV_iadd dX12_come_131 ?_
  refine EV_istore (lv2 := [(4, VI (pt1 + pt0)), (0, VR (some h0)), (2, VL pl2), (5, VI pi5)]) dX12_come_132 (by decide) rfl ?_
  refine EV_aload_n dX12_come_134 rfl ?_
  refine EV_iconst (x := (0 : Int32)) dX12_come_135 (by decide) ?_
  have hh := b1_some h; clear h; obtain ⟨s1, hs1, h⟩ := hh
  refine EV_putI (ci := 12) (k := 51) dX12_come_136 fp_X12_255 rfl hs1 ?_
  exact EV_pick [1, 2, 0, 3] rfl (zX12_come_139 E hk32 h)
def mX12_come_32 : Nat → Nat → Int64 → Int32 → Int32 → eS → Option (Int32 × eS)
  | 0, _, _, _, _, _ => none
  | n + 1, h0, pl2, pi4, pi5, s0 =>
  (if pi5 < 0 then (mX12_come_145 pi4 s0) else (b1 (g_I s0 112 35 h0) fun x2 => (if x2 = 0 then (mX12_come_145 pi4 s0) else (b1 (g_P s0 112 50 h0) fun r4 => (b1 (g_I s0 112 51 h0) fun x5 => (b1 r4 fun a6 => (b1 (s_I s0 0 a6 x5 ((((pl2 >>> (((8 : Int32) * pi5).toInt64 &&& 63)) &&& (255 : Int64))).toInt32)) fun s7 => (b1 (g_I s7 112 51 h0) fun x8 => (b1 (p_I s7 112 51 h0 (x8 + (1 : Int32))) fun s9 => (b1 (o_K s9 112 h0) fun u25 => (b2 (mX12_canBe h0 s9) fun x11 s10 => (if x11 = 0 then (b1 (o_K s10 112 h0) fun u15 => (b1 (mX12_closes h0 (2 : Int32) s10) fun s13 => (mX12_come_139 (mX12_come_32 n) h0 pl2 pi4 pi5 s13))) else (b1 (g_I s10 112 51 h0) fun x13 => (if x13 ≤ (5 : Int32) then (mX12_come_139 (mX12_come_32 n) h0 pl2 pi4 pi5 s10) else (b1 (g_I s10 112 51 h0) fun x15 => (b1 (g_P s10 112 50 h0) fun r16 => (b1 r16 fun a17 => (b1 (a_I s10 0 a17 (1 : Int32)) fun x18 => (if x15 = ((2 : Int32) + x18) then (b1 (o_K s10 112 h0) fun u24 => (b1 (mX12_takes h0 s10) fun s20 => (b1 (g_I s20 112 35 h0) fun x22 => (if x22 = 0 then (mX12_come_131 (mX12_come_32 n) h0 pl2 pi5 (0 : Int32) pi4 s20) else (mX12_come_131 (mX12_come_32 n) h0 pl2 pi5 (1 : Int32) pi4 s20))))) else (mX12_come_139 (mX12_come_32 n) h0 pl2 pi4 pi5 s10))))))))))))))))))))
set_option maxRecDepth 100000 in
set_option maxHeartbeats 4000000 in
theorem zX12_come_32 (E : eE) : ∀ (n : Nat) {h0 : Nat} {pl2 : Int64} {pi4 : Int32} {pi5 : Int32} {s0 s9 : eS} {y : Int32}, mX12_come_32 n h0 pl2 pi4 pi5 s0 = some (y, s9) → EV E MX12_come 32 [(0, VR (some h0)), (2, VL pl2), (4, VI pi4), (5, VI pi5)] [] s0 (some (VI y)) s9 := by
  intro n
  induction n with
  | zero =>
    intro h0 pl2 pi4 pi5 s0 s9 y h
    unfold mX12_come_32 at h
    cases h
  | succ n ih =>
    intro h0 pl2 pi4 pi5 s0 s9 y h
    unfold mX12_come_32 at h
    refine EV_iload dX12_come_32 rfl ?_
    refine EV_if_lt (tgt := 145) dX12_come_34 (by decide) (fun c1 => ?_) (fun c1 => ?_)
    · rw [if_pos c1] at h
      exact EV_pick [2] rfl (zX12_come_145 E h)
    · rw [if_neg c1] at h
      refine EV_aload_n dX12_come_37 rfl ?_
      have hh := b1_some h; clear h; obtain ⟨x2, hx2, h⟩ := hh
      refine EV_getI (ci := 12) (k := 35) dX12_come_38 fl_X12_125 rfl hx2 ?_
      refine EV_if_eq (tgt := 145) dX12_come_41 (by decide) (fun c3 => ?_) (fun c3 => ?_)
      · rw [if_pos c3] at h
        exact EV_pick [2] rfl (zX12_come_145 E h)
      · rw [if_neg c3] at h
        refine EV_aload_n dX12_come_44 rfl ?_
        have hh := b1_some h; clear h; obtain ⟨r4, hr4, h⟩ := hh
        refine EV_getP (ci := 12) (k := 50) dX12_come_45 fl_X12_99 rfl hr4 ?_
        refine EV_aload_n dX12_come_48 rfl ?_
        have hh := b1_some h; clear h; obtain ⟨x5, hx5, h⟩ := hh
        refine EV_getI (ci := 12) (k := 51) dX12_come_49 fl_X12_255 rfl hx5 ?_
        refine EV_lload_n dX12_come_52 rfl ?_
        refine EV_bipush (x := (8 : Int32)) dX12_come_53 (by decide) ?_
        refine EV_iload dX12_come_55 rfl ?_
        refine EV_imul dX12_come_57 ?_
        refine EV_lshr dX12_come_58 ?_
        refine EV_ldc2 (x := (255 : Int64)) dX12_come_59 tw_1223 ?_
        refine EV_land dX12_come_62 ?_
        refine EV_l2i dX12_come_63 ?_
        have hh := b1_some h; clear h; obtain ⟨a6, ha6, h⟩ := hh
        subst ha6
        have hh := b1_some h; clear h; obtain ⟨s7, hs7, h⟩ := hh
        refine EV_sI (t := 0) rfl dX12_come_64 hs7 ?_
        refine EV_aload_n dX12_come_65 rfl ?_
        refine EV_dup dX12_come_66 rfl ?_
        have hh := b1_some h; clear h; obtain ⟨x8, hx8, h⟩ := hh
        refine EV_getI (ci := 12) (k := 51) dX12_come_67 fl_X12_255 rfl hx8 ?_
        refine EV_iconst (x := (1 : Int32)) dX12_come_70 (by decide) ?_
        refine EV_iadd dX12_come_71 ?_
        have hh := b1_some h; clear h; obtain ⟨s9, hs9, h⟩ := hh
        refine EV_putI (ci := 12) (k := 51) dX12_come_72 fp_X12_255 rfl hs9 ?_
        refine EV_aload_n dX12_come_75 rfl ?_
        have hh := b1_some h; clear h; obtain ⟨u25, hu25, h⟩ := hh
        have hh := b2_some h; clear h; obtain ⟨x11, s10, hs10, h⟩ := hh
        refine EV_callV (Y := YX12_canBe) (as := []) (st := []) (st2 := [VI x11]) (a := h0) (ci := 12) (r := rX12) (n := 0) dX12_come_76 (zX12_canBe E hs10) rfl cwX12_canBe rfl tw_1224 tw_1226 tw_49 rfl (e_if hu25).1.1 (e_if hu25).1.2 ⟨by decide, by decide⟩ (Nat.le_of_ble_eq_true rfl) rfl ?_
        refine EV_if_ne (tgt := 90) dX12_come_79 (by decide) (fun c12 => ?_) (fun c12 => ?_)
        · rw [if_pos c12] at h
          refine EV_aload_n dX12_come_82 rfl ?_
          refine EV_iconst (x := (2 : Int32)) dX12_come_83 (by decide) ?_
          have hh := b1_some h; clear h; obtain ⟨u15, hu15, h⟩ := hh
          have hh := b1_some h; clear h; obtain ⟨s13, hs13, h⟩ := hh
          refine EV_callV (Y := YX12_closes) (as := [VI (2 : Int32)]) (st := []) (st2 := []) (a := h0) (ci := 12) (r := rX12) (n := 1) dX12_come_84 (zX12_closes E hs13) rfl cwX12_closes rfl tw_1168 tw_1170 tw_40 rfl (e_if hu15).1.1 (e_if hu15).1.2 ⟨by decide, by decide⟩ (Nat.le_of_ble_eq_true rfl) rfl ?_
          refine EV_goto (tgt := 139) dX12_come_87 (by decide) ?_
          exact EV_pick [0, 1, 2, 3] rfl (zX12_come_139 E (@ih) h)
        · rw [if_neg c12] at h
          refine EV_aload_n dX12_come_90 rfl ?_
          have hh := b1_some h; clear h; obtain ⟨x13, hx13, h⟩ := hh
          refine EV_getI (ci := 12) (k := 51) dX12_come_91 fl_X12_255 rfl hx13 ?_
          refine EV_iconst (x := (5 : Int32)) dX12_come_94 (by decide) ?_
          refine EV_icmp_le (tgt := 139) dX12_come_95 (by decide) (fun c14 => ?_) (fun c14 => ?_)
          · rw [if_pos c14] at h
            exact EV_pick [0, 1, 2, 3] rfl (zX12_come_139 E (@ih) h)
          · rw [if_neg c14] at h
            refine EV_aload_n dX12_come_98 rfl ?_
            have hh := b1_some h; clear h; obtain ⟨x15, hx15, h⟩ := hh
            refine EV_getI (ci := 12) (k := 51) dX12_come_99 fl_X12_255 rfl hx15 ?_
            refine EV_iconst (x := (2 : Int32)) dX12_come_102 (by decide) ?_
            refine EV_aload_n dX12_come_103 rfl ?_
            have hh := b1_some h; clear h; obtain ⟨r16, hr16, h⟩ := hh
            refine EV_getP (ci := 12) (k := 50) dX12_come_104 fl_X12_99 rfl hr16 ?_
            refine EV_iconst (x := (1 : Int32)) dX12_come_107 (by decide) ?_
            have hh := b1_some h; clear h; obtain ⟨a17, ha17, h⟩ := hh
            subst ha17
            have hh := b1_some h; clear h; obtain ⟨x18, hx18, h⟩ := hh
            refine EV_aI (t := 0) (ty := .int) rfl (by decide) dX12_come_108 hx18 ?_
            refine EV_iadd dX12_come_109 ?_
            refine EV_icmp_ne (tgt := 139) dX12_come_110 (by decide) (fun c19 => ?_) (fun c19 => ?_)
            · rw [if_pos c19] at h
              refine EV_aload_n dX12_come_113 rfl ?_
              have hh := b1_some h; clear h; obtain ⟨u24, hu24, h⟩ := hh
              have hh := b1_some h; clear h; obtain ⟨s20, hs20, h⟩ := hh
              refine EV_callV (Y := YX12_takes) (as := []) (st := []) (st2 := []) (a := h0) (ci := 12) (r := rX12) (n := 0) dX12_come_114 (zX12_takes E hs20) rfl cwX12_takes rfl tw_1230 tw_1232 tw_50 rfl (e_if hu24).1.1 (e_if hu24).1.2 ⟨by decide, by decide⟩ (Nat.le_of_ble_eq_true rfl) rfl ?_
              refine EV_iload dX12_come_117 rfl ?_
              refine EV_aload_n dX12_come_119 rfl ?_
              have hh := b1_some h; clear h; obtain ⟨x22, hx22, h⟩ := hh
              refine EV_getI (ci := 12) (k := 35) dX12_come_120 fl_X12_125 rfl hx22 ?_
              refine EV_if_ne (tgt := 130) dX12_come_123 (by decide) (fun c23 => ?_) (fun c23 => ?_)
              · rw [if_pos c23] at h
                refine EV_iconst (x := (0 : Int32)) dX12_come_126 (by decide) ?_
                refine EV_goto (tgt := 131) dX12_come_127 (by decide) ?_
                exact EV_pick [0, 1, 3] rfl (zX12_come_131 E (@ih) h)
              · rw [if_neg c23] at h
                refine EV_iconst (x := (1 : Int32)) dX12_come_130 (by decide) ?_
                exact EV_pick [0, 1, 3] rfl (zX12_come_131 E (@ih) h)
            · rw [if_neg c19] at h
              exact EV_pick [0, 1, 2, 3] rfl (zX12_come_139 E (@ih) h)
def mX12_come (h0 : Nat) (pi1 : Int32) (pl2 : Int64) (s0 : eS) : Option (Int32 × eS) :=
  (b2 (mX12_in ((pi1).toInt64) (1 : Int64) (8 : Int64) s0) fun x2 s1 => (if x2 = 0 then (some ((-1 : Int32), s1)) else (b1 (g_I s1 112 35 h0) fun x4 => (if x4 = 0 then (some ((-2 : Int32), s1)) else (mX12_come_32 100000 h0 pl2 (0 : Int32) (pi1 - (1 : Int32)) s1)))))
set_option maxRecDepth 100000 in
set_option maxHeartbeats 4000000 in
theorem zX12_come (E : eE) {h0 : Nat} {pi1 : Int32} {pl2 : Int64} {s0 s9 : eS} {y : Int32} (h : mX12_come h0 pi1 pl2 s0 = some (y, s9)) : EM E YX12_come [VR (some h0), VI pi1, VL pl2] s0 (some (VI y)) s9 := by
  refine EM_of (M := MX12_come) (own := RX12) (ini := false) rfl (by decide +kernel) rfl (fun z => nomatch z) (Nat.le_of_ble_eq_true rfl) ?_
  unfold mX12_come at h
  refine EV_iload_n dX12_come_0 rfl ?_
  refine EV_i2l dX12_come_1 ?_
  refine EV_lconst (x := (1 : Int64)) dX12_come_2 (by decide) ?_
  refine EV_ldc2 (x := (8 : Int64)) dX12_come_3 tw_1222 ?_
  have hh := b2_some h; clear h; obtain ⟨x2, s1, hs1, h⟩ := hh
  refine EV_callS (Y := YX12_in) (as := [VL ((pi1).toInt64), VL (1 : Int64), VL (8 : Int64)]) (st := []) (st2 := [VI x2]) (n := 3) dX12_come_6 (zX12_in E hs1) rfl cwX12_in rfl tw_1104 tw_1105 ⟨by decide, by decide⟩ (Nat.le_of_ble_eq_true rfl) rfl ?_
  refine EV_if_ne (tgt := 14) dX12_come_9 (by decide) (fun c3 => ?_) (fun c3 => ?_)
  · rw [if_pos c3] at h
    refine EV_iconst (x := (-1 : Int32)) dX12_come_12 (by decide) ?_
    cases h
    exact EV_ret ⟨dX12_come_13, .int, rfl, rfl⟩ rfl
  · rw [if_neg c3] at h
    refine EV_aload_n dX12_come_14 rfl ?_
    have hh := b1_some h; clear h; obtain ⟨x4, hx4, h⟩ := hh
    refine EV_getI (ci := 12) (k := 35) dX12_come_15 fl_X12_125 rfl hx4 ?_
    refine EV_if_ne (tgt := 24) dX12_come_18 (by decide) (fun c5 => ?_) (fun c5 => ?_)
    · rw [if_pos c5] at h
      refine EV_bipush (x := (-2 : Int32)) dX12_come_21 (by decide) ?_
      cases h
      exact EV_ret ⟨dX12_come_23, .int, rfl, rfl⟩ rfl
    · rw [if_neg c5] at h
      refine EV_iconst (x := (0 : Int32)) dX12_come_24 (by decide) ?_
      refine EV_istore (lv2 := [(4, VI (0 : Int32)), (0, VR (some h0)), (1, VI pi1), (2, VL pl2)]) dX12_come_25 (by decide) rfl ?_
      refine EV_iload_n dX12_come_27 rfl ?_
      refine EV_iconst (x := (1 : Int32)) dX12_come_28 (by decide) ?_
      refine EV_isub dX12_come_29 ?_
      refine EV_istore (lv2 := [(5, VI (pi1 - (1 : Int32))), (4, VI (0 : Int32)), (0, VR (some h0)), (1, VI pi1), (2, VL pl2)]) dX12_come_30 (by decide) rfl ?_
      exact EV_pick [2, 4, 1, 0] rfl (zX12_come_32 E _ h)
def mX12_clockGoes_181 (s0 : eS) : Option eS :=
  (some s0)
set_option maxRecDepth 100000 in
set_option maxHeartbeats 4000000 in
theorem zX12_clockGoes_181 (E : eE) {s0 s9 : eS} (h : mX12_clockGoes_181 s0 = some s9) : EV E MX12_clockGoes 181 [] [] s0 none s9 := by
  unfold mX12_clockGoes_181 at h
  cases h
  exact EV_ret ⟨dX12_clockGoes_181, rfl⟩ rfl
def mX12_clockGoes (h0 : Nat) (s0 : eS) : Option eS :=
  (b1 (g_P s0 112 21 h0) fun r1 => (b1 r1 fun a2 => (b1 (a_I s0 0 a2 (0 : Int32)) fun x3 => (b1 (s_I s0 0 a2 (0 : Int32) (x3 + (100 : Int32))) fun s4 => (b1 (g_P s4 112 21 h0) fun r5 => (b1 r5 fun a6 => (b1 (a_I s4 0 a6 (0 : Int32)) fun x7 => (if (60000 : Int32) ≤ x7 then (b1 (g_P s4 112 21 h0) fun r9 => (b1 r9 fun a10 => (b1 (a_I s4 0 a10 (0 : Int32)) fun x11 => (b1 (s_I s4 0 a10 (0 : Int32) (x11 - (60000 : Int32))) fun s12 => (b1 (g_P s12 112 21 h0) fun r13 => (b1 r13 fun a14 => (b1 (a_I s12 0 a14 (1 : Int32)) fun x15 => (b1 (s_I s12 0 a14 (1 : Int32) (x15 + (1 : Int32))) fun s16 => (b1 (g_P s16 112 21 h0) fun r17 => (b1 r17 fun a18 => (b1 (a_I s16 0 a18 (1 : Int32)) fun x19 => (if (60 : Int32) ≤ x19 then (b1 (g_P s16 112 21 h0) fun r21 => (b1 r21 fun a22 => (b1 (s_I s16 0 a22 (1 : Int32) (0 : Int32)) fun s23 => (b1 (g_P s23 112 21 h0) fun r24 => (b1 r24 fun a25 => (b1 (a_I s23 0 a25 (2 : Int32)) fun x26 => (b1 (s_I s23 0 a25 (2 : Int32) (x26 + (1 : Int32))) fun s27 => (b1 (g_P s27 112 21 h0) fun r28 => (b1 r28 fun a29 => (b1 (a_I s27 0 a29 (2 : Int32)) fun x30 => (if (24 : Int32) ≤ x30 then (b1 (g_P s27 112 21 h0) fun r32 => (b1 r32 fun a33 => (b1 (s_I s27 0 a33 (2 : Int32) (0 : Int32)) fun s34 => (b1 (g_P s34 112 21 h0) fun r35 => (b1 r35 fun a36 => (b1 (a_I s34 0 a36 (3 : Int32)) fun x37 => (b1 (s_I s34 0 a36 (3 : Int32) (x37 + (1 : Int32))) fun s38 => (b1 (g_P s38 112 21 h0) fun r39 => (b1 r39 fun a40 => (b1 (a_I s38 0 a40 (3 : Int32)) fun x41 => (b1 (g_P s38 112 21 h0) fun r42 => (b1 r42 fun a43 => (b1 (a_I s38 0 a43 (4 : Int32)) fun x44 => (b1 (g_P s38 112 21 h0) fun r45 => (b1 r45 fun a46 => (b1 (a_I s38 0 a46 (5 : Int32)) fun x47 => (b2 (mX12_daysOf x44 x47 s38) fun x49 s48 => (if x49 < x41 then (b1 (g_P s48 112 21 h0) fun r51 => (b1 r51 fun a52 => (b1 (s_I s48 0 a52 (3 : Int32) (1 : Int32)) fun s53 => (b1 (g_P s53 112 21 h0) fun r54 => (b1 r54 fun a55 => (b1 (a_I s53 0 a55 (4 : Int32)) fun x56 => (b1 (s_I s53 0 a55 (4 : Int32) (x56 + (1 : Int32))) fun s57 => (b1 (g_P s57 112 21 h0) fun r58 => (b1 r58 fun a59 => (b1 (a_I s57 0 a59 (4 : Int32)) fun x60 => (if x60 ≤ (12 : Int32) then (mX12_clockGoes_181 s57) else (b1 (g_P s57 112 21 h0) fun r62 => (b1 r62 fun a63 => (b1 (s_I s57 0 a63 (4 : Int32) (1 : Int32)) fun s64 => (b1 (g_P s64 112 21 h0) fun r65 => (b1 (g_P s64 112 21 h0) fun r66 => (b1 r66 fun a67 => (b1 (a_I s64 0 a67 (5 : Int32)) fun x68 => (b1 r65 fun a69 => (b1 (s_I s64 0 a69 (5 : Int32) ((x68 + (1 : Int32)) - (x68 + (1 : Int32)) / (100 : Int32) * (100 : Int32))) fun s70 => (mX12_clockGoes_181 s70))))))))))))))))))))) else (some s48))))))))))))))))))) else (some s27)))))))))))) else (some s16))))))))))))) else (some s4)))))))))
set_option maxRecDepth 100000 in
set_option maxHeartbeats 4000000 in
theorem zX12_clockGoes (E : eE) {h0 : Nat} {s0 s9 : eS} (h : mX12_clockGoes h0 s0 = some s9) : EM E YX12_clockGoes [VR (some h0)] s0 none s9 := by
  refine EM_of (M := MX12_clockGoes) (own := RX12) (ini := false) rfl (by decide +kernel) rfl (fun z => nomatch z) (Nat.le_of_ble_eq_true rfl) ?_
  unfold mX12_clockGoes at h
  refine EV_aload_n dX12_clockGoes_0 rfl ?_
  have hh := b1_some h; clear h; obtain ⟨r1, hr1, h⟩ := hh
  refine EV_getP (ci := 12) (k := 21) dX12_clockGoes_1 fl_X12_57 rfl hr1 ?_
  refine EV_iconst (x := (0 : Int32)) dX12_clockGoes_4 (by decide) ?_
  refine EV_dup2 dX12_clockGoes_5 rfl rfl ?_
  have hh := b1_some h; clear h; obtain ⟨a2, ha2, h⟩ := hh
  subst ha2
  have hh := b1_some h; clear h; obtain ⟨x3, hx3, h⟩ := hh
  refine EV_aI (t := 0) (ty := .int) rfl (by decide) dX12_clockGoes_6 hx3 ?_
  refine EV_bipush (x := (100 : Int32)) dX12_clockGoes_7 (by decide) ?_
  refine EV_iadd dX12_clockGoes_9 ?_
  have hh := b1_some h; clear h; obtain ⟨s4, hs4, h⟩ := hh
  refine EV_sI (t := 0) rfl dX12_clockGoes_10 hs4 ?_
  refine EV_aload_n dX12_clockGoes_11 rfl ?_
  have hh := b1_some h; clear h; obtain ⟨r5, hr5, h⟩ := hh
  refine EV_getP (ci := 12) (k := 21) dX12_clockGoes_12 fl_X12_57 rfl hr5 ?_
  refine EV_iconst (x := (0 : Int32)) dX12_clockGoes_15 (by decide) ?_
  have hh := b1_some h; clear h; obtain ⟨a6, ha6, h⟩ := hh
  subst ha6
  have hh := b1_some h; clear h; obtain ⟨x7, hx7, h⟩ := hh
  refine EV_aI (t := 0) (ty := .int) rfl (by decide) dX12_clockGoes_16 hx7 ?_
  refine EV_ldcw (x := (60000 : Int32)) dX12_clockGoes_17 tw_1310 ?_
  refine EV_icmp_ge (tgt := 24) dX12_clockGoes_20 (by decide) (fun c8 => ?_) (fun c8 => ?_)
  · rw [if_pos c8] at h
    refine EV_aload_n dX12_clockGoes_24 rfl ?_
    have hh := b1_some h; clear h; obtain ⟨r9, hr9, h⟩ := hh
    refine EV_getP (ci := 12) (k := 21) dX12_clockGoes_25 fl_X12_57 rfl hr9 ?_
    refine EV_iconst (x := (0 : Int32)) dX12_clockGoes_28 (by decide) ?_
    refine EV_dup2 dX12_clockGoes_29 rfl rfl ?_
    have hh := b1_some h; clear h; obtain ⟨a10, ha10, h⟩ := hh
    subst ha10
    have hh := b1_some h; clear h; obtain ⟨x11, hx11, h⟩ := hh
    refine EV_aI (t := 0) (ty := .int) rfl (by decide) dX12_clockGoes_30 hx11 ?_
    refine EV_ldcw (x := (60000 : Int32)) dX12_clockGoes_31 tw_1310 ?_
    refine EV_isub dX12_clockGoes_34 ?_
    have hh := b1_some h; clear h; obtain ⟨s12, hs12, h⟩ := hh
    refine EV_sI (t := 0) rfl dX12_clockGoes_35 hs12 ?_
    refine EV_aload_n dX12_clockGoes_36 rfl ?_
    have hh := b1_some h; clear h; obtain ⟨r13, hr13, h⟩ := hh
    refine EV_getP (ci := 12) (k := 21) dX12_clockGoes_37 fl_X12_57 rfl hr13 ?_
    refine EV_iconst (x := (1 : Int32)) dX12_clockGoes_40 (by decide) ?_
    refine EV_dup2 dX12_clockGoes_41 rfl rfl ?_
    have hh := b1_some h; clear h; obtain ⟨a14, ha14, h⟩ := hh
    subst ha14
    have hh := b1_some h; clear h; obtain ⟨x15, hx15, h⟩ := hh
    refine EV_aI (t := 0) (ty := .int) rfl (by decide) dX12_clockGoes_42 hx15 ?_
    refine EV_iconst (x := (1 : Int32)) dX12_clockGoes_43 (by decide) ?_
    refine EV_iadd dX12_clockGoes_44 ?_
    have hh := b1_some h; clear h; obtain ⟨s16, hs16, h⟩ := hh
    refine EV_sI (t := 0) rfl dX12_clockGoes_45 hs16 ?_
    refine EV_aload_n dX12_clockGoes_46 rfl ?_
    have hh := b1_some h; clear h; obtain ⟨r17, hr17, h⟩ := hh
    refine EV_getP (ci := 12) (k := 21) dX12_clockGoes_47 fl_X12_57 rfl hr17 ?_
    refine EV_iconst (x := (1 : Int32)) dX12_clockGoes_50 (by decide) ?_
    have hh := b1_some h; clear h; obtain ⟨a18, ha18, h⟩ := hh
    subst ha18
    have hh := b1_some h; clear h; obtain ⟨x19, hx19, h⟩ := hh
    refine EV_aI (t := 0) (ty := .int) rfl (by decide) dX12_clockGoes_51 hx19 ?_
    refine EV_bipush (x := (60 : Int32)) dX12_clockGoes_52 (by decide) ?_
    refine EV_icmp_ge (tgt := 58) dX12_clockGoes_54 (by decide) (fun c20 => ?_) (fun c20 => ?_)
    · rw [if_pos c20] at h
      refine EV_aload_n dX12_clockGoes_58 rfl ?_
      have hh := b1_some h; clear h; obtain ⟨r21, hr21, h⟩ := hh
      refine EV_getP (ci := 12) (k := 21) dX12_clockGoes_59 fl_X12_57 rfl hr21 ?_
      refine EV_iconst (x := (1 : Int32)) dX12_clockGoes_62 (by decide) ?_
      refine EV_iconst (x := (0 : Int32)) dX12_clockGoes_63 (by decide) ?_
      have hh := b1_some h; clear h; obtain ⟨a22, ha22, h⟩ := hh
      subst ha22
      have hh := b1_some h; clear h; obtain ⟨s23, hs23, h⟩ := hh
      refine EV_sI (t := 0) rfl dX12_clockGoes_64 hs23 ?_
      refine EV_aload_n dX12_clockGoes_65 rfl ?_
      have hh := b1_some h; clear h; obtain ⟨r24, hr24, h⟩ := hh
      refine EV_getP (ci := 12) (k := 21) dX12_clockGoes_66 fl_X12_57 rfl hr24 ?_
      refine EV_iconst (x := (2 : Int32)) dX12_clockGoes_69 (by decide) ?_
      refine EV_dup2 dX12_clockGoes_70 rfl rfl ?_
      have hh := b1_some h; clear h; obtain ⟨a25, ha25, h⟩ := hh
      subst ha25
      have hh := b1_some h; clear h; obtain ⟨x26, hx26, h⟩ := hh
      refine EV_aI (t := 0) (ty := .int) rfl (by decide) dX12_clockGoes_71 hx26 ?_
      refine EV_iconst (x := (1 : Int32)) dX12_clockGoes_72 (by decide) ?_
      refine EV_iadd dX12_clockGoes_73 ?_
      have hh := b1_some h; clear h; obtain ⟨s27, hs27, h⟩ := hh
      refine EV_sI (t := 0) rfl dX12_clockGoes_74 hs27 ?_
      refine EV_aload_n dX12_clockGoes_75 rfl ?_
      have hh := b1_some h; clear h; obtain ⟨r28, hr28, h⟩ := hh
      refine EV_getP (ci := 12) (k := 21) dX12_clockGoes_76 fl_X12_57 rfl hr28 ?_
      refine EV_iconst (x := (2 : Int32)) dX12_clockGoes_79 (by decide) ?_
      have hh := b1_some h; clear h; obtain ⟨a29, ha29, h⟩ := hh
      subst ha29
      have hh := b1_some h; clear h; obtain ⟨x30, hx30, h⟩ := hh
      refine EV_aI (t := 0) (ty := .int) rfl (by decide) dX12_clockGoes_80 hx30 ?_
      refine EV_bipush (x := (24 : Int32)) dX12_clockGoes_81 (by decide) ?_
      refine EV_icmp_ge (tgt := 87) dX12_clockGoes_83 (by decide) (fun c31 => ?_) (fun c31 => ?_)
      · rw [if_pos c31] at h
        refine EV_aload_n dX12_clockGoes_87 rfl ?_
        have hh := b1_some h; clear h; obtain ⟨r32, hr32, h⟩ := hh
        refine EV_getP (ci := 12) (k := 21) dX12_clockGoes_88 fl_X12_57 rfl hr32 ?_
        refine EV_iconst (x := (2 : Int32)) dX12_clockGoes_91 (by decide) ?_
        refine EV_iconst (x := (0 : Int32)) dX12_clockGoes_92 (by decide) ?_
        have hh := b1_some h; clear h; obtain ⟨a33, ha33, h⟩ := hh
        subst ha33
        have hh := b1_some h; clear h; obtain ⟨s34, hs34, h⟩ := hh
        refine EV_sI (t := 0) rfl dX12_clockGoes_93 hs34 ?_
        refine EV_aload_n dX12_clockGoes_94 rfl ?_
        have hh := b1_some h; clear h; obtain ⟨r35, hr35, h⟩ := hh
        refine EV_getP (ci := 12) (k := 21) dX12_clockGoes_95 fl_X12_57 rfl hr35 ?_
        refine EV_iconst (x := (3 : Int32)) dX12_clockGoes_98 (by decide) ?_
        refine EV_dup2 dX12_clockGoes_99 rfl rfl ?_
        have hh := b1_some h; clear h; obtain ⟨a36, ha36, h⟩ := hh
        subst ha36
        have hh := b1_some h; clear h; obtain ⟨x37, hx37, h⟩ := hh
        refine EV_aI (t := 0) (ty := .int) rfl (by decide) dX12_clockGoes_100 hx37 ?_
        refine EV_iconst (x := (1 : Int32)) dX12_clockGoes_101 (by decide) ?_
        refine EV_iadd dX12_clockGoes_102 ?_
        have hh := b1_some h; clear h; obtain ⟨s38, hs38, h⟩ := hh
        refine EV_sI (t := 0) rfl dX12_clockGoes_103 hs38 ?_
        refine EV_aload_n dX12_clockGoes_104 rfl ?_
        have hh := b1_some h; clear h; obtain ⟨r39, hr39, h⟩ := hh
        refine EV_getP (ci := 12) (k := 21) dX12_clockGoes_105 fl_X12_57 rfl hr39 ?_
        refine EV_iconst (x := (3 : Int32)) dX12_clockGoes_108 (by decide) ?_
        have hh := b1_some h; clear h; obtain ⟨a40, ha40, h⟩ := hh
        subst ha40
        have hh := b1_some h; clear h; obtain ⟨x41, hx41, h⟩ := hh
        refine EV_aI (t := 0) (ty := .int) rfl (by decide) dX12_clockGoes_109 hx41 ?_
        refine EV_aload_n dX12_clockGoes_110 rfl ?_
        have hh := b1_some h; clear h; obtain ⟨r42, hr42, h⟩ := hh
        refine EV_getP (ci := 12) (k := 21) dX12_clockGoes_111 fl_X12_57 rfl hr42 ?_
        refine EV_iconst (x := (4 : Int32)) dX12_clockGoes_114 (by decide) ?_
        have hh := b1_some h; clear h; obtain ⟨a43, ha43, h⟩ := hh
        subst ha43
        have hh := b1_some h; clear h; obtain ⟨x44, hx44, h⟩ := hh
        refine EV_aI (t := 0) (ty := .int) rfl (by decide) dX12_clockGoes_115 hx44 ?_
        refine EV_aload_n dX12_clockGoes_116 rfl ?_
        have hh := b1_some h; clear h; obtain ⟨r45, hr45, h⟩ := hh
        refine EV_getP (ci := 12) (k := 21) dX12_clockGoes_117 fl_X12_57 rfl hr45 ?_
        refine EV_iconst (x := (5 : Int32)) dX12_clockGoes_120 (by decide) ?_
        have hh := b1_some h; clear h; obtain ⟨a46, ha46, h⟩ := hh
        subst ha46
        have hh := b1_some h; clear h; obtain ⟨x47, hx47, h⟩ := hh
        refine EV_aI (t := 0) (ty := .int) rfl (by decide) dX12_clockGoes_121 hx47 ?_
        have hh := b2_some h; clear h; obtain ⟨x49, s48, hs48, h⟩ := hh
        refine EV_callS (Y := YX12_daysOf) (as := [VI x44, VI x47]) (st := [VI x41]) (st2 := [VI x49, VI x41]) (n := 2) dX12_clockGoes_122 (zX12_daysOf E hs48) rfl cwX12_daysOf rfl tw_1311 tw_1312 ⟨by decide, by decide⟩ (Nat.le_of_ble_eq_true rfl) rfl ?_
        refine EV_icmp_gt (tgt := 129) dX12_clockGoes_125 (by decide) (fun c50 => ?_) (fun c50 => ?_)
        · rw [if_pos c50] at h
          refine EV_aload_n dX12_clockGoes_129 rfl ?_
          have hh := b1_some h; clear h; obtain ⟨r51, hr51, h⟩ := hh
          refine EV_getP (ci := 12) (k := 21) dX12_clockGoes_130 fl_X12_57 rfl hr51 ?_
          refine EV_iconst (x := (3 : Int32)) dX12_clockGoes_133 (by decide) ?_
          refine EV_iconst (x := (1 : Int32)) dX12_clockGoes_134 (by decide) ?_
          have hh := b1_some h; clear h; obtain ⟨a52, ha52, h⟩ := hh
          subst ha52
          have hh := b1_some h; clear h; obtain ⟨s53, hs53, h⟩ := hh
          refine EV_sI (t := 0) rfl dX12_clockGoes_135 hs53 ?_
          refine EV_aload_n dX12_clockGoes_136 rfl ?_
          have hh := b1_some h; clear h; obtain ⟨r54, hr54, h⟩ := hh
          refine EV_getP (ci := 12) (k := 21) dX12_clockGoes_137 fl_X12_57 rfl hr54 ?_
          refine EV_iconst (x := (4 : Int32)) dX12_clockGoes_140 (by decide) ?_
          refine EV_dup2 dX12_clockGoes_141 rfl rfl ?_
          have hh := b1_some h; clear h; obtain ⟨a55, ha55, h⟩ := hh
          subst ha55
          have hh := b1_some h; clear h; obtain ⟨x56, hx56, h⟩ := hh
          refine EV_aI (t := 0) (ty := .int) rfl (by decide) dX12_clockGoes_142 hx56 ?_
          refine EV_iconst (x := (1 : Int32)) dX12_clockGoes_143 (by decide) ?_
          refine EV_iadd dX12_clockGoes_144 ?_
          have hh := b1_some h; clear h; obtain ⟨s57, hs57, h⟩ := hh
          refine EV_sI (t := 0) rfl dX12_clockGoes_145 hs57 ?_
          refine EV_aload_n dX12_clockGoes_146 rfl ?_
          have hh := b1_some h; clear h; obtain ⟨r58, hr58, h⟩ := hh
          refine EV_getP (ci := 12) (k := 21) dX12_clockGoes_147 fl_X12_57 rfl hr58 ?_
          refine EV_iconst (x := (4 : Int32)) dX12_clockGoes_150 (by decide) ?_
          have hh := b1_some h; clear h; obtain ⟨a59, ha59, h⟩ := hh
          subst ha59
          have hh := b1_some h; clear h; obtain ⟨x60, hx60, h⟩ := hh
          refine EV_aI (t := 0) (ty := .int) rfl (by decide) dX12_clockGoes_151 hx60 ?_
          refine EV_bipush (x := (12 : Int32)) dX12_clockGoes_152 (by decide) ?_
          refine EV_icmp_le (tgt := 181) dX12_clockGoes_154 (by decide) (fun c61 => ?_) (fun c61 => ?_)
          · rw [if_pos c61] at h
            exact EV_pick [] rfl (zX12_clockGoes_181 E h)
          · rw [if_neg c61] at h
            refine EV_aload_n dX12_clockGoes_157 rfl ?_
            have hh := b1_some h; clear h; obtain ⟨r62, hr62, h⟩ := hh
            refine EV_getP (ci := 12) (k := 21) dX12_clockGoes_158 fl_X12_57 rfl hr62 ?_
            refine EV_iconst (x := (4 : Int32)) dX12_clockGoes_161 (by decide) ?_
            refine EV_iconst (x := (1 : Int32)) dX12_clockGoes_162 (by decide) ?_
            have hh := b1_some h; clear h; obtain ⟨a63, ha63, h⟩ := hh
            subst ha63
            have hh := b1_some h; clear h; obtain ⟨s64, hs64, h⟩ := hh
            refine EV_sI (t := 0) rfl dX12_clockGoes_163 hs64 ?_
            refine EV_aload_n dX12_clockGoes_164 rfl ?_
            have hh := b1_some h; clear h; obtain ⟨r65, hr65, h⟩ := hh
            refine EV_getP (ci := 12) (k := 21) dX12_clockGoes_165 fl_X12_57 rfl hr65 ?_
            refine EV_iconst (x := (5 : Int32)) dX12_clockGoes_168 (by decide) ?_
            refine EV_aload_n dX12_clockGoes_169 rfl ?_
            have hh := b1_some h; clear h; obtain ⟨r66, hr66, h⟩ := hh
            refine EV_getP (ci := 12) (k := 21) dX12_clockGoes_170 fl_X12_57 rfl hr66 ?_
            refine EV_iconst (x := (5 : Int32)) dX12_clockGoes_173 (by decide) ?_
            have hh := b1_some h; clear h; obtain ⟨a67, ha67, h⟩ := hh
            subst ha67
            have hh := b1_some h; clear h; obtain ⟨x68, hx68, h⟩ := hh
            refine EV_aI (t := 0) (ty := .int) rfl (by decide) dX12_clockGoes_174 hx68 ?_
            refine EV_iconst (x := (1 : Int32)) dX12_clockGoes_175 (by decide) ?_
            refine EV_iadd dX12_clockGoes_176 ?_
            refine EV_bipush (x := (100 : Int32)) dX12_clockGoes_177 (by decide) ?_
            refine EV_irem dX12_clockGoes_179 (by decide) ?_
            have hh := b1_some h; clear h; obtain ⟨a69, ha69, h⟩ := hh
            subst ha69
            have hh := b1_some h; clear h; obtain ⟨s70, hs70, h⟩ := hh
            refine EV_sI (t := 0) rfl dX12_clockGoes_180 hs70 ?_
            exact EV_pick [] rfl (zX12_clockGoes_181 E h)
        · rw [if_neg c50] at h
          cases h
          exact EV_ret ⟨dX12_clockGoes_128, rfl⟩ rfl
      · rw [if_neg c31] at h
        cases h
        exact EV_ret ⟨dX12_clockGoes_86, rfl⟩ rfl
    · rw [if_neg c20] at h
      cases h
      exact EV_ret ⟨dX12_clockGoes_57, rfl⟩ rfl
  · rw [if_neg c8] at h
    cases h
    exact EV_ret ⟨dX12_clockGoes_23, rfl⟩ rfl
def mX12_tickGoes_211 (h0 : Nat) (s0 : eS) : Option eS :=
  (b1 (o_K s0 112 h0) fun u3 => (b1 (mX12_sends h0 s0) fun s1 => (some s1)))
set_option maxRecDepth 100000 in
set_option maxHeartbeats 4000000 in
theorem zX12_tickGoes_211 (E : eE) {h0 : Nat} {s0 s9 : eS} (h : mX12_tickGoes_211 h0 s0 = some s9) : EV E MX12_tickGoes 211 [(0, VR (some h0))] [] s0 none s9 := by
  unfold mX12_tickGoes_211 at h
  refine EV_aload_n dX12_tickGoes_211 rfl ?_
  have hh := b1_some h; clear h; obtain ⟨u3, hu3, h⟩ := hh
  have hh := b1_some h; clear h; obtain ⟨s1, hs1, h⟩ := hh
  refine EV_callV (Y := YX12_sends) (as := []) (st := []) (st2 := []) (a := h0) (ci := 12) (r := rX12) (n := 0) dX12_tickGoes_212 (zX12_sends E hs1) rfl cwX12_sends rfl tw_1147 tw_1149 tw_35 rfl (e_if hu3).1.1 (e_if hu3).1.2 ⟨by decide, by decide⟩ (Nat.le_of_ble_eq_true rfl) rfl ?_
  cases h
  exact EV_ret ⟨dX12_tickGoes_215, rfl⟩ rfl
def mX12_tickGoes_179 (h0 : Nat) (s0 : eS) : Option eS :=
  (b1 (g_I s0 112 15 h0) fun x1 => (if x1 = (-1 : Int32) then (mX12_tickGoes_211 h0 s0) else (b1 (g_I s0 112 20 h0) fun x3 => (b1 (g_I s0 112 16 h0) fun x4 => (b1 (g_P s0 112 0 h0) fun r5 => (b1 r5 fun a6 => (b1 (a_I s0 0 a6 (6 : Int32)) fun x7 => (if (x3 - x4) < x7 then (mX12_tickGoes_211 h0 s0) else (b1 (p_I s0 112 15 h0 (-1 : Int32)) fun s9 => (mX12_tickGoes_211 h0 s9))))))))))
set_option maxRecDepth 100000 in
set_option maxHeartbeats 4000000 in
theorem zX12_tickGoes_179 (E : eE) {h0 : Nat} {s0 s9 : eS} (h : mX12_tickGoes_179 h0 s0 = some s9) : EV E MX12_tickGoes 179 [(0, VR (some h0))] [] s0 none s9 := by
  unfold mX12_tickGoes_179 at h
  refine EV_aload_n dX12_tickGoes_179 rfl ?_
  have hh := b1_some h; clear h; obtain ⟨x1, hx1, h⟩ := hh
  refine EV_getI (ci := 12) (k := 15) dX12_tickGoes_180 fl_X12_50 rfl hx1 ?_
  refine EV_iconst (x := (-1 : Int32)) dX12_tickGoes_183 (by decide) ?_
  refine EV_icmp_eq (tgt := 211) dX12_tickGoes_184 (by decide) (fun c2 => ?_) (fun c2 => ?_)
  · rw [if_pos c2] at h
    exact EV_pick [0] rfl (zX12_tickGoes_211 E h)
  · rw [if_neg c2] at h
    refine EV_aload_n dX12_tickGoes_187 rfl ?_
    have hh := b1_some h; clear h; obtain ⟨x3, hx3, h⟩ := hh
    refine EV_getI (ci := 12) (k := 20) dX12_tickGoes_188 fl_X12_209 rfl hx3 ?_
    refine EV_aload_n dX12_tickGoes_191 rfl ?_
    have hh := b1_some h; clear h; obtain ⟨x4, hx4, h⟩ := hh
    refine EV_getI (ci := 12) (k := 16) dX12_tickGoes_192 fl_X12_333 rfl hx4 ?_
    refine EV_isub dX12_tickGoes_195 ?_
    refine EV_aload_n dX12_tickGoes_196 rfl ?_
    have hh := b1_some h; clear h; obtain ⟨r5, hr5, h⟩ := hh
    refine EV_getP (ci := 12) (k := 0) dX12_tickGoes_197 fl_X12_7 rfl hr5 ?_
    refine EV_bipush (x := (6 : Int32)) dX12_tickGoes_200 (by decide) ?_
    have hh := b1_some h; clear h; obtain ⟨a6, ha6, h⟩ := hh
    subst ha6
    have hh := b1_some h; clear h; obtain ⟨x7, hx7, h⟩ := hh
    refine EV_aI (t := 0) (ty := .int) rfl (by decide) dX12_tickGoes_202 hx7 ?_
    refine EV_icmp_lt (tgt := 211) dX12_tickGoes_203 (by decide) (fun c8 => ?_) (fun c8 => ?_)
    · rw [if_pos c8] at h
      exact EV_pick [0] rfl (zX12_tickGoes_211 E h)
    · rw [if_neg c8] at h
      refine EV_aload_n dX12_tickGoes_206 rfl ?_
      refine EV_iconst (x := (-1 : Int32)) dX12_tickGoes_207 (by decide) ?_
      have hh := b1_some h; clear h; obtain ⟨s9, hs9, h⟩ := hh
      refine EV_putI (ci := 12) (k := 15) dX12_tickGoes_208 fp_X12_50 rfl hs9 ?_
      exact EV_pick [0] rfl (zX12_tickGoes_211 E h)
def mX12_tickGoes_113 (h0 : Nat) (s0 : eS) : Option eS :=
  (b1 (g_I s0 112 35 h0) fun x1 => (if x1 = 0 then (mX12_tickGoes_179 h0 s0) else (b1 (g_I s0 112 42 h0) fun x3 => (if x3 = 0 then (b1 (g_I s0 112 20 h0) fun x5 => (b1 (g_I s0 112 41 h0) fun x6 => (b1 (g_P s0 112 0 h0) fun r7 => (b1 r7 fun a8 => (b1 (a_I s0 0 a8 (5 : Int32)) fun x9 => (if (x5 - x6) < x9 then (mX12_tickGoes_179 h0 s0) else (b1 (o_K s0 112 h0) fun u19 => (b2 (mX12_frames h0 (67 : Int32) (0 : Int32) (0 : Int32) (0 : Int32) (0 : Int32) s0) fun x12 s11 => (if x12 = 0 then (mX12_tickGoes_179 h0 s11) else (b1 (p_Z s11 112 42 h0 (1 : Int32)) fun s14 => (b1 (g_I s14 112 20 h0) fun x15 => (b1 (p_I s14 112 43 h0 x15) fun s16 => (b1 (g_I s16 112 20 h0) fun x17 => (b1 (p_I s16 112 41 h0 x17) fun s18 => (mX12_tickGoes_179 h0 s18))))))))))))))) else (mX12_tickGoes_179 h0 s0)))))
set_option maxRecDepth 100000 in
set_option maxHeartbeats 4000000 in
theorem zX12_tickGoes_113 (E : eE) {h0 : Nat} {s0 s9 : eS} (h : mX12_tickGoes_113 h0 s0 = some s9) : EV E MX12_tickGoes 113 [(0, VR (some h0))] [] s0 none s9 := by
  unfold mX12_tickGoes_113 at h
  refine EV_aload_n dX12_tickGoes_113 rfl ?_
  have hh := b1_some h; clear h; obtain ⟨x1, hx1, h⟩ := hh
  refine EV_getI (ci := 12) (k := 35) dX12_tickGoes_114 fl_X12_125 rfl hx1 ?_
  refine EV_if_eq (tgt := 179) dX12_tickGoes_117 (by decide) (fun c2 => ?_) (fun c2 => ?_)
  · rw [if_pos c2] at h
    exact EV_pick [0] rfl (zX12_tickGoes_179 E h)
  · rw [if_neg c2] at h
    refine EV_aload_n dX12_tickGoes_120 rfl ?_
    have hh := b1_some h; clear h; obtain ⟨x3, hx3, h⟩ := hh
    refine EV_getI (ci := 12) (k := 42) dX12_tickGoes_121 fl_X12_258 rfl hx3 ?_
    refine EV_if_ne (tgt := 179) dX12_tickGoes_124 (by decide) (fun c4 => ?_) (fun c4 => ?_)
    · rw [if_pos c4] at h
      refine EV_aload_n dX12_tickGoes_127 rfl ?_
      have hh := b1_some h; clear h; obtain ⟨x5, hx5, h⟩ := hh
      refine EV_getI (ci := 12) (k := 20) dX12_tickGoes_128 fl_X12_209 rfl hx5 ?_
      refine EV_aload_n dX12_tickGoes_131 rfl ?_
      have hh := b1_some h; clear h; obtain ⟨x6, hx6, h⟩ := hh
      refine EV_getI (ci := 12) (k := 41) dX12_tickGoes_132 fl_X12_261 rfl hx6 ?_
      refine EV_isub dX12_tickGoes_135 ?_
      refine EV_aload_n dX12_tickGoes_136 rfl ?_
      have hh := b1_some h; clear h; obtain ⟨r7, hr7, h⟩ := hh
      refine EV_getP (ci := 12) (k := 0) dX12_tickGoes_137 fl_X12_7 rfl hr7 ?_
      refine EV_iconst (x := (5 : Int32)) dX12_tickGoes_140 (by decide) ?_
      have hh := b1_some h; clear h; obtain ⟨a8, ha8, h⟩ := hh
      subst ha8
      have hh := b1_some h; clear h; obtain ⟨x9, hx9, h⟩ := hh
      refine EV_aI (t := 0) (ty := .int) rfl (by decide) dX12_tickGoes_141 hx9 ?_
      refine EV_icmp_lt (tgt := 179) dX12_tickGoes_142 (by decide) (fun c10 => ?_) (fun c10 => ?_)
      · rw [if_pos c10] at h
        exact EV_pick [0] rfl (zX12_tickGoes_179 E h)
      · rw [if_neg c10] at h
        refine EV_aload_n dX12_tickGoes_145 rfl ?_
        refine EV_bipush (x := (67 : Int32)) dX12_tickGoes_146 (by decide) ?_
        refine EV_iconst (x := (0 : Int32)) dX12_tickGoes_148 (by decide) ?_
        refine EV_iconst (x := (0 : Int32)) dX12_tickGoes_149 (by decide) ?_
        refine EV_iconst (x := (0 : Int32)) dX12_tickGoes_150 (by decide) ?_
        refine EV_iconst (x := (0 : Int32)) dX12_tickGoes_151 (by decide) ?_
        have hh := b1_some h; clear h; obtain ⟨u19, hu19, h⟩ := hh
        have hh := b2_some h; clear h; obtain ⟨x12, s11, hs11, h⟩ := hh
        refine EV_callV (Y := YX12_frames) (as := [VI (67 : Int32), VI (0 : Int32), VI (0 : Int32), VI (0 : Int32), VI (0 : Int32)]) (st := []) (st2 := [VI x12]) (a := h0) (ci := 12) (r := rX12) (n := 5) dX12_tickGoes_152 (zX12_frames E hs11) rfl cwX12_frames rfl tw_1164 tw_1166 tw_39 rfl (e_if hu19).1.1 (e_if hu19).1.2 ⟨by decide, by decide⟩ (Nat.le_of_ble_eq_true rfl) rfl ?_
        refine EV_if_eq (tgt := 179) dX12_tickGoes_155 (by decide) (fun c13 => ?_) (fun c13 => ?_)
        · rw [if_pos c13] at h
          exact EV_pick [0] rfl (zX12_tickGoes_179 E h)
        · rw [if_neg c13] at h
          refine EV_aload_n dX12_tickGoes_158 rfl ?_
          refine EV_iconst (x := (1 : Int32)) dX12_tickGoes_159 (by decide) ?_
          have hh := b1_some h; clear h; obtain ⟨s14, hs14, h⟩ := hh
          refine EV_putZ (ci := 12) (k := 42) dX12_tickGoes_160 fp_X12_258 rfl hs14 ?_
          refine EV_aload_n dX12_tickGoes_163 rfl ?_
          refine EV_aload_n dX12_tickGoes_164 rfl ?_
          have hh := b1_some h; clear h; obtain ⟨x15, hx15, h⟩ := hh
          refine EV_getI (ci := 12) (k := 20) dX12_tickGoes_165 fl_X12_209 rfl hx15 ?_
          have hh := b1_some h; clear h; obtain ⟨s16, hs16, h⟩ := hh
          refine EV_putI (ci := 12) (k := 43) dX12_tickGoes_168 fp_X12_369 rfl hs16 ?_
          refine EV_aload_n dX12_tickGoes_171 rfl ?_
          refine EV_aload_n dX12_tickGoes_172 rfl ?_
          have hh := b1_some h; clear h; obtain ⟨x17, hx17, h⟩ := hh
          refine EV_getI (ci := 12) (k := 20) dX12_tickGoes_173 fl_X12_209 rfl hx17 ?_
          have hh := b1_some h; clear h; obtain ⟨s18, hs18, h⟩ := hh
          refine EV_putI (ci := 12) (k := 41) dX12_tickGoes_176 fp_X12_261 rfl hs18 ?_
          exact EV_pick [0] rfl (zX12_tickGoes_179 E h)
    · rw [if_neg c4] at h
      exact EV_pick [0] rfl (zX12_tickGoes_179 E h)
def mX12_tickGoes_80 (h0 : Nat) (s0 : eS) : Option eS :=
  (b1 (g_I s0 112 38 h0) fun x1 => (b1 (g_I s0 112 39 h0) fun x2 => (if x1 ≤ x2 then (mX12_tickGoes_113 h0 s0) else (b1 (g_I s0 112 20 h0) fun x4 => (b1 (g_I s0 112 40 h0) fun x5 => (b1 (g_P s0 112 0 h0) fun r6 => (b1 r6 fun a7 => (b1 (a_I s0 0 a7 (4 : Int32)) fun x8 => (if (x4 - x5) < x8 then (mX12_tickGoes_113 h0 s0) else (b1 (o_K s0 112 h0) fun u12 => (b1 (mX12_tells h0 s0) fun s10 => (mX12_tickGoes_113 h0 s10))))))))))))
set_option maxRecDepth 100000 in
set_option maxHeartbeats 4000000 in
theorem zX12_tickGoes_80 (E : eE) {h0 : Nat} {s0 s9 : eS} (h : mX12_tickGoes_80 h0 s0 = some s9) : EV E MX12_tickGoes 80 [(0, VR (some h0))] [] s0 none s9 := by
  unfold mX12_tickGoes_80 at h
  refine EV_aload_n dX12_tickGoes_80 rfl ?_
  have hh := b1_some h; clear h; obtain ⟨x1, hx1, h⟩ := hh
  refine EV_getI (ci := 12) (k := 38) dX12_tickGoes_81 fl_X12_182 rfl hx1 ?_
  refine EV_aload_n dX12_tickGoes_84 rfl ?_
  have hh := b1_some h; clear h; obtain ⟨x2, hx2, h⟩ := hh
  refine EV_getI (ci := 12) (k := 39) dX12_tickGoes_85 fl_X12_197 rfl hx2 ?_
  refine EV_icmp_le (tgt := 113) dX12_tickGoes_88 (by decide) (fun c3 => ?_) (fun c3 => ?_)
  · rw [if_pos c3] at h
    exact EV_pick [0] rfl (zX12_tickGoes_113 E h)
  · rw [if_neg c3] at h
    refine EV_aload_n dX12_tickGoes_91 rfl ?_
    have hh := b1_some h; clear h; obtain ⟨x4, hx4, h⟩ := hh
    refine EV_getI (ci := 12) (k := 20) dX12_tickGoes_92 fl_X12_209 rfl hx4 ?_
    refine EV_aload_n dX12_tickGoes_95 rfl ?_
    have hh := b1_some h; clear h; obtain ⟨x5, hx5, h⟩ := hh
    refine EV_getI (ci := 12) (k := 40) dX12_tickGoes_96 fl_X12_290 rfl hx5 ?_
    refine EV_isub dX12_tickGoes_99 ?_
    refine EV_aload_n dX12_tickGoes_100 rfl ?_
    have hh := b1_some h; clear h; obtain ⟨r6, hr6, h⟩ := hh
    refine EV_getP (ci := 12) (k := 0) dX12_tickGoes_101 fl_X12_7 rfl hr6 ?_
    refine EV_iconst (x := (4 : Int32)) dX12_tickGoes_104 (by decide) ?_
    have hh := b1_some h; clear h; obtain ⟨a7, ha7, h⟩ := hh
    subst ha7
    have hh := b1_some h; clear h; obtain ⟨x8, hx8, h⟩ := hh
    refine EV_aI (t := 0) (ty := .int) rfl (by decide) dX12_tickGoes_105 hx8 ?_
    refine EV_icmp_lt (tgt := 113) dX12_tickGoes_106 (by decide) (fun c9 => ?_) (fun c9 => ?_)
    · rw [if_pos c9] at h
      exact EV_pick [0] rfl (zX12_tickGoes_113 E h)
    · rw [if_neg c9] at h
      refine EV_aload_n dX12_tickGoes_109 rfl ?_
      have hh := b1_some h; clear h; obtain ⟨u12, hu12, h⟩ := hh
      have hh := b1_some h; clear h; obtain ⟨s10, hs10, h⟩ := hh
      refine EV_callV (Y := YX12_tells) (as := []) (st := []) (st2 := []) (a := h0) (ci := 12) (r := rX12) (n := 0) dX12_tickGoes_110 (zX12_tells E hs10) rfl cwX12_tells rfl tw_1318 tw_1320 tw_68 rfl (e_if hu12).1.1 (e_if hu12).1.2 ⟨by decide, by decide⟩ (Nat.le_of_ble_eq_true rfl) rfl ?_
      exact EV_pick [0] rfl (zX12_tickGoes_113 E h)
def mX12_tickGoes_74 (h0 : Nat) (s0 : eS) : Option eS :=
  (b1 (o_K s0 112 h0) fun u3 => (b1 (mX12_closes h0 (4 : Int32) s0) fun s1 => (some s1)))
set_option maxRecDepth 100000 in
set_option maxHeartbeats 4000000 in
theorem zX12_tickGoes_74 (E : eE) {h0 : Nat} {s0 s9 : eS} (h : mX12_tickGoes_74 h0 s0 = some s9) : EV E MX12_tickGoes 74 [(0, VR (some h0))] [] s0 none s9 := by
  unfold mX12_tickGoes_74 at h
  refine EV_aload_n dX12_tickGoes_74 rfl ?_
  refine EV_iconst (x := (4 : Int32)) dX12_tickGoes_75 (by decide) ?_
  have hh := b1_some h; clear h; obtain ⟨u3, hu3, h⟩ := hh
  have hh := b1_some h; clear h; obtain ⟨s1, hs1, h⟩ := hh
  refine EV_callV (Y := YX12_closes) (as := [VI (4 : Int32)]) (st := []) (st2 := []) (a := h0) (ci := 12) (r := rX12) (n := 1) dX12_tickGoes_76 (zX12_closes E hs1) rfl cwX12_closes rfl tw_1168 tw_1170 tw_40 rfl (e_if hu3).1.1 (e_if hu3).1.2 ⟨by decide, by decide⟩ (Nat.le_of_ble_eq_true rfl) rfl ?_
  cases h
  exact EV_ret ⟨dX12_tickGoes_79, rfl⟩ rfl
def mX12_tickGoes_49 (h0 : Nat) (s0 : eS) : Option eS :=
  (b1 (g_I s0 112 42 h0) fun x1 => (if x1 = 0 then (mX12_tickGoes_80 h0 s0) else (b1 (g_I s0 112 20 h0) fun x3 => (b1 (g_I s0 112 43 h0) fun x4 => (b1 (g_P s0 112 0 h0) fun r5 => (b1 r5 fun a6 => (b1 (a_I s0 0 a6 (3 : Int32)) fun x7 => (if (x3 - x4) < x7 then (mX12_tickGoes_80 h0 s0) else (mX12_tickGoes_74 h0 s0)))))))))
set_option maxRecDepth 100000 in
set_option maxHeartbeats 4000000 in
theorem zX12_tickGoes_49 (E : eE) {h0 : Nat} {s0 s9 : eS} (h : mX12_tickGoes_49 h0 s0 = some s9) : EV E MX12_tickGoes 49 [(0, VR (some h0))] [] s0 none s9 := by
  unfold mX12_tickGoes_49 at h
  refine EV_aload_n dX12_tickGoes_49 rfl ?_
  have hh := b1_some h; clear h; obtain ⟨x1, hx1, h⟩ := hh
  refine EV_getI (ci := 12) (k := 42) dX12_tickGoes_50 fl_X12_258 rfl hx1 ?_
  refine EV_if_eq (tgt := 80) dX12_tickGoes_53 (by decide) (fun c2 => ?_) (fun c2 => ?_)
  · rw [if_pos c2] at h
    exact EV_pick [0] rfl (zX12_tickGoes_80 E h)
  · rw [if_neg c2] at h
    refine EV_aload_n dX12_tickGoes_56 rfl ?_
    have hh := b1_some h; clear h; obtain ⟨x3, hx3, h⟩ := hh
    refine EV_getI (ci := 12) (k := 20) dX12_tickGoes_57 fl_X12_209 rfl hx3 ?_
    refine EV_aload_n dX12_tickGoes_60 rfl ?_
    have hh := b1_some h; clear h; obtain ⟨x4, hx4, h⟩ := hh
    refine EV_getI (ci := 12) (k := 43) dX12_tickGoes_61 fl_X12_369 rfl hx4 ?_
    refine EV_isub dX12_tickGoes_64 ?_
    refine EV_aload_n dX12_tickGoes_65 rfl ?_
    have hh := b1_some h; clear h; obtain ⟨r5, hr5, h⟩ := hh
    refine EV_getP (ci := 12) (k := 0) dX12_tickGoes_66 fl_X12_7 rfl hr5 ?_
    refine EV_iconst (x := (3 : Int32)) dX12_tickGoes_69 (by decide) ?_
    have hh := b1_some h; clear h; obtain ⟨a6, ha6, h⟩ := hh
    subst ha6
    have hh := b1_some h; clear h; obtain ⟨x7, hx7, h⟩ := hh
    refine EV_aI (t := 0) (ty := .int) rfl (by decide) dX12_tickGoes_70 hx7 ?_
    refine EV_icmp_lt (tgt := 80) dX12_tickGoes_71 (by decide) (fun c8 => ?_) (fun c8 => ?_)
    · rw [if_pos c8] at h
      exact EV_pick [0] rfl (zX12_tickGoes_80 E h)
    · rw [if_neg c8] at h
      exact EV_pick [0] rfl (zX12_tickGoes_74 E h)
def mX12_tickGoes (h0 : Nat) (s0 : eS) : Option eS :=
  (b1 (g_I s0 112 20 h0) fun x1 => (b1 (p_I s0 112 20 h0 (x1 + (1 : Int32))) fun s2 => (b1 (o_K s2 112 h0) fun u17 => (b1 (mX12_clockGoes h0 s2) fun s3 => (b1 (g_I s3 112 35 h0) fun x5 => (if x5 = 0 then (some s3) else (b1 (g_I s3 112 28 h0) fun x7 => (if x7 ≤ 0 then (mX12_tickGoes_49 h0 s3) else (b1 (g_I s3 112 20 h0) fun x9 => (b1 (g_P s3 112 29 h0) fun r10 => (b1 r10 fun a11 => (b1 (a_I s3 0 a11 (0 : Int32)) fun x12 => (b1 (g_P s3 112 0 h0) fun r13 => (b1 r13 fun a14 => (b1 (a_I s3 0 a14 (3 : Int32)) fun x15 => (if x15 ≤ (x9 - x12) then (mX12_tickGoes_74 h0 s3) else (mX12_tickGoes_49 h0 s3)))))))))))))))))
set_option maxRecDepth 100000 in
set_option maxHeartbeats 4000000 in
theorem zX12_tickGoes (E : eE) {h0 : Nat} {s0 s9 : eS} (h : mX12_tickGoes h0 s0 = some s9) : EM E YX12_tickGoes [VR (some h0)] s0 none s9 := by
  refine EM_of (M := MX12_tickGoes) (own := RX12) (ini := false) rfl (by decide +kernel) rfl (fun z => nomatch z) (Nat.le_of_ble_eq_true rfl) ?_
  unfold mX12_tickGoes at h
  refine EV_aload_n dX12_tickGoes_0 rfl ?_
  refine EV_dup dX12_tickGoes_1 rfl ?_
  have hh := b1_some h; clear h; obtain ⟨x1, hx1, h⟩ := hh
  refine EV_getI (ci := 12) (k := 20) dX12_tickGoes_2 fl_X12_209 rfl hx1 ?_
  refine EV_iconst (x := (1 : Int32)) dX12_tickGoes_5 (by decide) ?_
  refine EV_iadd dX12_tickGoes_6 ?_
  have hh := b1_some h; clear h; obtain ⟨s2, hs2, h⟩ := hh
  refine EV_putI (ci := 12) (k := 20) dX12_tickGoes_7 fp_X12_209 rfl hs2 ?_
  refine EV_aload_n dX12_tickGoes_10 rfl ?_
  have hh := b1_some h; clear h; obtain ⟨u17, hu17, h⟩ := hh
  have hh := b1_some h; clear h; obtain ⟨s3, hs3, h⟩ := hh
  refine EV_callV (Y := YX12_clockGoes) (as := []) (st := []) (st2 := []) (a := h0) (ci := 12) (r := rX12) (n := 0) dX12_tickGoes_11 (zX12_clockGoes E hs3) rfl cwX12_clockGoes rfl tw_1330 tw_1332 tw_70 rfl (e_if hu17).1.1 (e_if hu17).1.2 ⟨by decide, by decide⟩ (Nat.le_of_ble_eq_true rfl) rfl ?_
  refine EV_aload_n dX12_tickGoes_14 rfl ?_
  have hh := b1_some h; clear h; obtain ⟨x5, hx5, h⟩ := hh
  refine EV_getI (ci := 12) (k := 35) dX12_tickGoes_15 fl_X12_125 rfl hx5 ?_
  refine EV_if_ne (tgt := 22) dX12_tickGoes_18 (by decide) (fun c6 => ?_) (fun c6 => ?_)
  · rw [if_pos c6] at h
    cases h
    exact EV_ret ⟨dX12_tickGoes_21, rfl⟩ rfl
  · rw [if_neg c6] at h
    refine EV_aload_n dX12_tickGoes_22 rfl ?_
    have hh := b1_some h; clear h; obtain ⟨x7, hx7, h⟩ := hh
    refine EV_getI (ci := 12) (k := 28) dX12_tickGoes_23 fl_X12_206 rfl hx7 ?_
    refine EV_if_le (tgt := 49) dX12_tickGoes_26 (by decide) (fun c8 => ?_) (fun c8 => ?_)
    · rw [if_pos c8] at h
      exact EV_pick [0] rfl (zX12_tickGoes_49 E h)
    · rw [if_neg c8] at h
      refine EV_aload_n dX12_tickGoes_29 rfl ?_
      have hh := b1_some h; clear h; obtain ⟨x9, hx9, h⟩ := hh
      refine EV_getI (ci := 12) (k := 20) dX12_tickGoes_30 fl_X12_209 rfl hx9 ?_
      refine EV_aload_n dX12_tickGoes_33 rfl ?_
      have hh := b1_some h; clear h; obtain ⟨r10, hr10, h⟩ := hh
      refine EV_getP (ci := 12) (k := 29) dX12_tickGoes_34 fl_X12_72 rfl hr10 ?_
      refine EV_iconst (x := (0 : Int32)) dX12_tickGoes_37 (by decide) ?_
      have hh := b1_some h; clear h; obtain ⟨a11, ha11, h⟩ := hh
      subst ha11
      have hh := b1_some h; clear h; obtain ⟨x12, hx12, h⟩ := hh
      refine EV_aI (t := 0) (ty := .int) rfl (by decide) dX12_tickGoes_38 hx12 ?_
      refine EV_isub dX12_tickGoes_39 ?_
      refine EV_aload_n dX12_tickGoes_40 rfl ?_
      have hh := b1_some h; clear h; obtain ⟨r13, hr13, h⟩ := hh
      refine EV_getP (ci := 12) (k := 0) dX12_tickGoes_41 fl_X12_7 rfl hr13 ?_
      refine EV_iconst (x := (3 : Int32)) dX12_tickGoes_44 (by decide) ?_
      have hh := b1_some h; clear h; obtain ⟨a14, ha14, h⟩ := hh
      subst ha14
      have hh := b1_some h; clear h; obtain ⟨x15, hx15, h⟩ := hh
      refine EV_aI (t := 0) (ty := .int) rfl (by decide) dX12_tickGoes_45 hx15 ?_
      refine EV_icmp_ge (tgt := 74) dX12_tickGoes_46 (by decide) (fun c16 => ?_) (fun c16 => ?_)
      · rw [if_pos c16] at h
        exact EV_pick [0] rfl (zX12_tickGoes_74 E h)
      · rw [if_neg c16] at h
        exact EV_pick [0] rfl (zX12_tickGoes_49 E h)
def mX12_tick_16 : Nat → Nat → Int32 → Int32 → eS → Option (Int32 × eS)
  | 0, _, _, _, _ => none
  | n + 1, h0, pi1, pi2, s0 =>
  (if pi1 ≤ pi2 then (b1 (g_I s0 112 35 h0) fun x2 => (some (x2, s0))) else (b1 (o_K s0 112 h0) fun u4 => (b1 (mX12_tickGoes h0 s0) fun s2 => (mX12_tick_16 n h0 pi1 (pi2 + (1 : Int32)) s2))))
set_option maxRecDepth 100000 in
set_option maxHeartbeats 4000000 in
theorem zX12_tick_16 (E : eE) : ∀ (n : Nat) {h0 : Nat} {pi1 : Int32} {pi2 : Int32} {s0 s9 : eS} {y : Int32}, mX12_tick_16 n h0 pi1 pi2 s0 = some (y, s9) → EV E MX12_tick 16 [(0, VR (some h0)), (1, VI pi1), (2, VI pi2)] [] s0 (some (VI y)) s9 := by
  intro n
  induction n with
  | zero =>
    intro h0 pi1 pi2 s0 s9 y h
    unfold mX12_tick_16 at h
    cases h
  | succ n ih =>
    intro h0 pi1 pi2 s0 s9 y h
    unfold mX12_tick_16 at h
    refine EV_iload_n dX12_tick_16 rfl ?_
    refine EV_iload_n dX12_tick_17 rfl ?_
    refine EV_icmp_ge (tgt := 31) dX12_tick_18 (by decide) (fun c1 => ?_) (fun c1 => ?_)
    · rw [if_pos c1] at h
      refine EV_aload_n dX12_tick_31 rfl ?_
      have hh := b1_some h; clear h; obtain ⟨x2, hx2, h⟩ := hh
      refine EV_getI (ci := 12) (k := 35) dX12_tick_32 fl_X12_125 rfl hx2 ?_
      cases h
      exact EV_ret ⟨dX12_tick_35, .int, rfl, rfl⟩ rfl
    · rw [if_neg c1] at h
      refine EV_aload_n dX12_tick_21 rfl ?_
      have hh := b1_some h; clear h; obtain ⟨u4, hu4, h⟩ := hh
      have hh := b1_some h; clear h; obtain ⟨s2, hs2, h⟩ := hh
      refine EV_callV (Y := YX12_tickGoes) (as := []) (st := []) (st2 := []) (a := h0) (ci := 12) (r := rX12) (n := 0) dX12_tick_22 (zX12_tickGoes E hs2) rfl cwX12_tickGoes rfl tw_1326 tw_1328 tw_69 rfl (e_if hu4).1.1 (e_if hu4).1.2 ⟨by decide, by decide⟩ (Nat.le_of_ble_eq_true rfl) rfl ?_
      refine EV_iinc (y := (1 : Int32)) (lv2 := [(2, VI (pi2 + (1 : Int32))), (0, VR (some h0)), (1, VI pi1)]) dX12_tick_25 rfl (by decide) (by decide) rfl ?_
      refine EV_goto (tgt := 16) dX12_tick_28 (by decide) ?_
      exact EV_pick [1, 2, 0] rfl (ih h)
def mX12_tick (h0 : Nat) (pi1 : Int32) (s0 : eS) : Option (Int32 × eS) :=
  (b2 (mX12_in ((pi1).toInt64) (0 : Int64) (1000 : Int64) s0) fun x2 s1 => (if x2 = 0 then (some ((-1 : Int32), s1)) else (mX12_tick_16 100000 h0 pi1 (0 : Int32) s1)))
set_option maxRecDepth 100000 in
set_option maxHeartbeats 4000000 in
theorem zX12_tick (E : eE) {h0 : Nat} {pi1 : Int32} {s0 s9 : eS} {y : Int32} (h : mX12_tick h0 pi1 s0 = some (y, s9)) : EM E YX12_tick [VR (some h0), VI pi1] s0 (some (VI y)) s9 := by
  refine EM_of (M := MX12_tick) (own := RX12) (ini := false) rfl (by decide +kernel) rfl (fun z => nomatch z) (Nat.le_of_ble_eq_true rfl) ?_
  unfold mX12_tick at h
  refine EV_iload_n dX12_tick_0 rfl ?_
  refine EV_i2l dX12_tick_1 ?_
  refine EV_lconst (x := (0 : Int64)) dX12_tick_2 (by decide) ?_
  refine EV_ldc2 (x := (1000 : Int64)) dX12_tick_3 tw_1110 ?_
  have hh := b2_some h; clear h; obtain ⟨x2, s1, hs1, h⟩ := hh
  refine EV_callS (Y := YX12_in) (as := [VL ((pi1).toInt64), VL (0 : Int64), VL (1000 : Int64)]) (st := []) (st2 := [VI x2]) (n := 3) dX12_tick_6 (zX12_in E hs1) rfl cwX12_in rfl tw_1104 tw_1105 ⟨by decide, by decide⟩ (Nat.le_of_ble_eq_true rfl) rfl ?_
  refine EV_if_ne (tgt := 14) dX12_tick_9 (by decide) (fun c3 => ?_) (fun c3 => ?_)
  · rw [if_pos c3] at h
    refine EV_iconst (x := (-1 : Int32)) dX12_tick_12 (by decide) ?_
    cases h
    exact EV_ret ⟨dX12_tick_13, .int, rfl, rfl⟩ rfl
  · rw [if_neg c3] at h
    refine EV_iconst (x := (0 : Int32)) dX12_tick_14 (by decide) ?_
    refine EV_istore_n (lv2 := [(2, VI (0 : Int32)), (0, VR (some h0)), (1, VI pi1)]) dX12_tick_15 (by decide) rfl ?_
    exact EV_pick [1, 2, 0] rfl (zX12_tick_16 E _ h)
def mX12_out_26 (pt0 : Int32) (s0 : eS) : Option (Int32 × eS) :=
  (some (pt0, s0))
set_option maxRecDepth 100000 in
set_option maxHeartbeats 4000000 in
theorem zX12_out_26 (E : eE) {pt0 : Int32} {s0 s9 : eS} {y : Int32} (h : mX12_out_26 pt0 s0 = some (y, s9)) : EV E MX12_out 26 [] [VI pt0] s0 (some (VI y)) s9 := by
  unfold mX12_out_26 at h
  cases h
  exact EV_ret ⟨dX12_out_26, .int, rfl, rfl⟩ rfl
def mX12_out (h0 : Nat) (pi1 : Int32) (s0 : eS) : Option (Int32 × eS) :=
  (b1 (g_I s0 112 49 h0) fun x1 => (b2 (mX12_in ((pi1).toInt64) (0 : Int64) (((x1 - (1 : Int32))).toInt64) s0) fun x3 s2 => (if x3 = 0 then (mX12_out_26 (-1 : Int32) s2) else (b1 (g_P s2 112 48 h0) fun r5 => (b1 r5 fun a6 => (b1 (a_I s2 0 a6 pi1) fun x7 => (mX12_out_26 x7 s2)))))))
set_option maxRecDepth 100000 in
set_option maxHeartbeats 4000000 in
theorem zX12_out (E : eE) {h0 : Nat} {pi1 : Int32} {s0 s9 : eS} {y : Int32} (h : mX12_out h0 pi1 s0 = some (y, s9)) : EM E YX12_out [VR (some h0), VI pi1] s0 (some (VI y)) s9 := by
  refine EM_of (M := MX12_out) (own := RX12) (ini := false) rfl (by decide +kernel) rfl (fun z => nomatch z) (Nat.le_of_ble_eq_true rfl) ?_
  unfold mX12_out at h
  refine EV_iload_n dX12_out_0 rfl ?_
  refine EV_i2l dX12_out_1 ?_
  refine EV_lconst (x := (0 : Int64)) dX12_out_2 (by decide) ?_
  refine EV_aload_n dX12_out_3 rfl ?_
  have hh := b1_some h; clear h; obtain ⟨x1, hx1, h⟩ := hh
  refine EV_getI (ci := 12) (k := 49) dX12_out_4 fl_X12_172 rfl hx1 ?_
  refine EV_iconst (x := (1 : Int32)) dX12_out_7 (by decide) ?_
  refine EV_isub dX12_out_8 ?_
  refine EV_i2l dX12_out_9 ?_
  have hh := b2_some h; clear h; obtain ⟨x3, s2, hs2, h⟩ := hh
  refine EV_callS (Y := YX12_in) (as := [VL ((pi1).toInt64), VL (0 : Int64), VL (((x1 - (1 : Int32))).toInt64)]) (st := []) (st2 := [VI x3]) (n := 3) dX12_out_10 (zX12_in E hs2) rfl cwX12_in rfl tw_1104 tw_1105 ⟨by decide, by decide⟩ (Nat.le_of_ble_eq_true rfl) rfl ?_
  refine EV_if_eq (tgt := 25) dX12_out_13 (by decide) (fun c4 => ?_) (fun c4 => ?_)
  · rw [if_pos c4] at h
    refine EV_iconst (x := (-1 : Int32)) dX12_out_25 (by decide) ?_
    exact EV_pick [] rfl (zX12_out_26 E h)
  · rw [if_neg c4] at h
    refine EV_aload_n dX12_out_16 rfl ?_
    have hh := b1_some h; clear h; obtain ⟨r5, hr5, h⟩ := hh
    refine EV_getP (ci := 12) (k := 48) dX12_out_17 fl_X12_96 rfl hr5 ?_
    refine EV_iload_n dX12_out_20 rfl ?_
    have hh := b1_some h; clear h; obtain ⟨a6, ha6, h⟩ := hh
    subst ha6
    have hh := b1_some h; clear h; obtain ⟨x7, hx7, h⟩ := hh
    refine EV_aI (t := 0) (ty := .int) rfl (by decide) dX12_out_21 hx7 ?_
    refine EV_goto (tgt := 26) dX12_out_22 (by decide) ?_
    exact EV_pick [] rfl (zX12_out_26 E h)
def mX12_take_28 : Nat → Nat → Int32 → Int32 → eS → Option (Int32 × eS)
  | 0, _, _, _, _ => none
  | n + 1, h0, pi1, pi2, s0 =>
  (b1 (g_I s0 112 49 h0) fun x1 => (if x1 ≤ pi2 then (b1 (g_I s0 112 49 h0) fun x3 => (some (x3, s0))) else (b1 (g_P s0 112 48 h0) fun r3 => (b1 (g_P s0 112 48 h0) fun r4 => (b1 r4 fun a5 => (b1 (a_I s0 0 a5 (pi2 + pi1)) fun x6 => (b1 r3 fun a7 => (b1 (s_I s0 0 a7 pi2 x6) fun s8 => (mX12_take_28 n h0 pi1 (pi2 + (1 : Int32)) s8)))))))))
set_option maxRecDepth 100000 in
set_option maxHeartbeats 4000000 in
theorem zX12_take_28 (E : eE) : ∀ (n : Nat) {h0 : Nat} {pi1 : Int32} {pi2 : Int32} {s0 s9 : eS} {y : Int32}, mX12_take_28 n h0 pi1 pi2 s0 = some (y, s9) → EV E MX12_take 28 [(0, VR (some h0)), (1, VI pi1), (2, VI pi2)] [] s0 (some (VI y)) s9 := by
  intro n
  induction n with
  | zero =>
    intro h0 pi1 pi2 s0 s9 y h
    unfold mX12_take_28 at h
    cases h
  | succ n ih =>
    intro h0 pi1 pi2 s0 s9 y h
    unfold mX12_take_28 at h
    refine EV_iload_n dX12_take_28 rfl ?_
    refine EV_aload_n dX12_take_29 rfl ?_
    have hh := b1_some h; clear h; obtain ⟨x1, hx1, h⟩ := hh
    refine EV_getI (ci := 12) (k := 49) dX12_take_30 fl_X12_172 rfl hx1 ?_
    refine EV_icmp_ge (tgt := 56) dX12_take_33 (by decide) (fun c2 => ?_) (fun c2 => ?_)
    · rw [if_pos c2] at h
      refine EV_aload_n dX12_take_56 rfl ?_
      have hh := b1_some h; clear h; obtain ⟨x3, hx3, h⟩ := hh
      refine EV_getI (ci := 12) (k := 49) dX12_take_57 fl_X12_172 rfl hx3 ?_
      cases h
      exact EV_ret ⟨dX12_take_60, .int, rfl, rfl⟩ rfl
    · rw [if_neg c2] at h
      refine EV_aload_n dX12_take_36 rfl ?_
      have hh := b1_some h; clear h; obtain ⟨r3, hr3, h⟩ := hh
      refine EV_getP (ci := 12) (k := 48) dX12_take_37 fl_X12_96 rfl hr3 ?_
      refine EV_iload_n dX12_take_40 rfl ?_
      refine EV_aload_n dX12_take_41 rfl ?_
      have hh := b1_some h; clear h; obtain ⟨r4, hr4, h⟩ := hh
      refine EV_getP (ci := 12) (k := 48) dX12_take_42 fl_X12_96 rfl hr4 ?_
      refine EV_iload_n dX12_take_45 rfl ?_
      refine EV_iload_n dX12_take_46 rfl ?_
      refine EV_iadd dX12_take_47 ?_
      have hh := b1_some h; clear h; obtain ⟨a5, ha5, h⟩ := hh
      subst ha5
      have hh := b1_some h; clear h; obtain ⟨x6, hx6, h⟩ := hh
      refine EV_aI (t := 0) (ty := .int) rfl (by decide) dX12_take_48 hx6 ?_
      have hh := b1_some h; clear h; obtain ⟨a7, ha7, h⟩ := hh
      subst ha7
      have hh := b1_some h; clear h; obtain ⟨s8, hs8, h⟩ := hh
      refine EV_sI (t := 0) rfl dX12_take_49 hs8 ?_
      refine EV_iinc (y := (1 : Int32)) (lv2 := [(2, VI (pi2 + (1 : Int32))), (0, VR (some h0)), (1, VI pi1)]) dX12_take_50 rfl (by decide) (by decide) rfl ?_
      refine EV_goto (tgt := 28) dX12_take_53 (by decide) ?_
      exact EV_pick [1, 2, 0] rfl (ih h)
def mX12_take (h0 : Nat) (pi1 : Int32) (s0 : eS) : Option (Int32 × eS) :=
  (b1 (g_I s0 112 49 h0) fun x1 => (b2 (mX12_in ((pi1).toInt64) (0 : Int64) ((x1).toInt64) s0) fun x3 s2 => (if x3 = 0 then (some ((-1 : Int32), s2)) else (b1 (g_I s2 112 49 h0) fun x5 => (b1 (p_I s2 112 49 h0 (x5 - pi1)) fun s6 => (mX12_take_28 100000 h0 pi1 (0 : Int32) s6))))))
set_option maxRecDepth 100000 in
set_option maxHeartbeats 4000000 in
theorem zX12_take (E : eE) {h0 : Nat} {pi1 : Int32} {s0 s9 : eS} {y : Int32} (h : mX12_take h0 pi1 s0 = some (y, s9)) : EM E YX12_take [VR (some h0), VI pi1] s0 (some (VI y)) s9 := by
  refine EM_of (M := MX12_take) (own := RX12) (ini := false) rfl (by decide +kernel) rfl (fun z => nomatch z) (Nat.le_of_ble_eq_true rfl) ?_
  unfold mX12_take at h
  refine EV_iload_n dX12_take_0 rfl ?_
  refine EV_i2l dX12_take_1 ?_
  refine EV_lconst (x := (0 : Int64)) dX12_take_2 (by decide) ?_
  refine EV_aload_n dX12_take_3 rfl ?_
  have hh := b1_some h; clear h; obtain ⟨x1, hx1, h⟩ := hh
  refine EV_getI (ci := 12) (k := 49) dX12_take_4 fl_X12_172 rfl hx1 ?_
  refine EV_i2l dX12_take_7 ?_
  have hh := b2_some h; clear h; obtain ⟨x3, s2, hs2, h⟩ := hh
  refine EV_callS (Y := YX12_in) (as := [VL ((pi1).toInt64), VL (0 : Int64), VL ((x1).toInt64)]) (st := []) (st2 := [VI x3]) (n := 3) dX12_take_8 (zX12_in E hs2) rfl cwX12_in rfl tw_1104 tw_1105 ⟨by decide, by decide⟩ (Nat.le_of_ble_eq_true rfl) rfl ?_
  refine EV_if_ne (tgt := 16) dX12_take_11 (by decide) (fun c4 => ?_) (fun c4 => ?_)
  · rw [if_pos c4] at h
    refine EV_iconst (x := (-1 : Int32)) dX12_take_14 (by decide) ?_
    cases h
    exact EV_ret ⟨dX12_take_15, .int, rfl, rfl⟩ rfl
  · rw [if_neg c4] at h
    refine EV_aload_n dX12_take_16 rfl ?_
    refine EV_dup dX12_take_17 rfl ?_
    have hh := b1_some h; clear h; obtain ⟨x5, hx5, h⟩ := hh
    refine EV_getI (ci := 12) (k := 49) dX12_take_18 fl_X12_172 rfl hx5 ?_
    refine EV_iload_n dX12_take_21 rfl ?_
    refine EV_isub dX12_take_22 ?_
    have hh := b1_some h; clear h; obtain ⟨s6, hs6, h⟩ := hh
    refine EV_putI (ci := 12) (k := 49) dX12_take_23 fp_X12_172 rfl hs6 ?_
    refine EV_iconst (x := (0 : Int32)) dX12_take_26 (by decide) ?_
    refine EV_istore_n (lv2 := [(2, VI (0 : Int32)), (0, VR (some h0)), (1, VI pi1)]) dX12_take_27 (by decide) rfl ?_
    exact EV_pick [1, 2, 0] rfl (zX12_take_28 E _ h)
def mX12_told_87 (pt0 : Int32) (s0 : eS) : Option (Int32 × eS) :=
  (some (pt0, s0))
set_option maxRecDepth 100000 in
set_option maxHeartbeats 4000000 in
theorem zX12_told_87 (E : eE) {pt0 : Int32} {s0 s9 : eS} {y : Int32} (h : mX12_told_87 pt0 s0 = some (y, s9)) : EV E MX12_told 87 [] [VI pt0] s0 (some (VI y)) s9 := by
  unfold mX12_told_87 at h
  cases h
  exact EV_ret ⟨dX12_told_87, .int, rfl, rfl⟩ rfl
def mX12_told (h0 : Nat) (pi1 : Int32) (pi2 : Int32) (s0 : eS) : Option (Int32 × eS) :=
  (b1 (o_K s0 112 h0) fun u33 => (b2 (mX12_isPoint h0 pi1 s0) fun x2 s1 => (if x2 = 0 then (some ((0 : Int32), s1)) else (if pi2 = (0 : Int32) then (b1 (g_P s1 112 2 h0) fun r5 => (b1 r5 fun a6 => (b1 (a_I s1 0 a6 pi1) fun x7 => (some (x7, s1))))) else (if pi2 = (1 : Int32) then (b1 (g_P s1 112 3 h0) fun r9 => (b1 r9 fun a10 => (b1 (a_I s1 0 a10 pi1) fun x11 => (some (x11, s1))))) else (if pi2 = (2 : Int32) then (b1 (g_P s1 112 4 h0) fun r13 => (b1 r13 fun a14 => (b1 (a_I s1 0 a14 pi1) fun x15 => (some (x15, s1))))) else (if pi2 = (3 : Int32) then (b1 (g_P s1 112 5 h0) fun r17 => (b1 r17 fun a18 => (b1 (a_I s1 2 a18 pi1) fun x19 => (if x19 = 0 then (mX12_told_87 (0 : Int32) s1) else (mX12_told_87 (1 : Int32) s1))))) else (if pi2 = (4 : Int32) then (b1 (g_P s1 112 6 h0) fun r22 => (b1 r22 fun a23 => (b1 (a_I s1 0 a23 pi1) fun x24 => (some (x24, s1))))) else (if pi2 = (5 : Int32) then (b1 (g_P s1 112 7 h0) fun r26 => (b1 r26 fun a27 => (b1 (a_I s1 0 a27 pi1) fun x28 => (some (x28, s1))))) else (if pi2 = (6 : Int32) then (b1 (g_P s1 112 8 h0) fun r30 => (b1 r30 fun a31 => (b1 (a_I s1 0 a31 pi1) fun x32 => (some (x32, s1))))) else (some ((0 : Int32), s1))))))))))))
set_option maxRecDepth 100000 in
set_option maxHeartbeats 4000000 in
theorem zX12_told (E : eE) {h0 : Nat} {pi1 : Int32} {pi2 : Int32} {s0 s9 : eS} {y : Int32} (h : mX12_told h0 pi1 pi2 s0 = some (y, s9)) : EM E YX12_told [VR (some h0), VI pi1, VI pi2] s0 (some (VI y)) s9 := by
  refine EM_of (M := MX12_told) (own := RX12) (ini := false) rfl (by decide +kernel) rfl (fun z => nomatch z) (Nat.le_of_ble_eq_true rfl) ?_
  unfold mX12_told at h
  refine EV_aload_n dX12_told_0 rfl ?_
  refine EV_iload_n dX12_told_1 rfl ?_
  have hh := b1_some h; clear h; obtain ⟨u33, hu33, h⟩ := hh
  have hh := b2_some h; clear h; obtain ⟨x2, s1, hs1, h⟩ := hh
  refine EV_callV (Y := YX12_isPoint) (as := [VI pi1]) (st := []) (st2 := [VI x2]) (a := h0) (ci := 12) (r := rX12) (n := 1) dX12_told_2 (zX12_isPoint E hs1) rfl cwX12_isPoint rfl tw_1126 tw_1128 tw_33 rfl (e_if hu33).1.1 (e_if hu33).1.2 ⟨by decide, by decide⟩ (Nat.le_of_ble_eq_true rfl) rfl ?_
  refine EV_if_ne (tgt := 10) dX12_told_5 (by decide) (fun c3 => ?_) (fun c3 => ?_)
  · rw [if_pos c3] at h
    refine EV_iconst (x := (0 : Int32)) dX12_told_8 (by decide) ?_
    cases h
    exact EV_ret ⟨dX12_told_9, .int, rfl, rfl⟩ rfl
  · rw [if_neg c3] at h
    refine EV_iload_n dX12_told_10 rfl ?_
    by_cases c4 : pi2 = (0 : Int32)
    · rw [if_pos c4] at h
      refine EV_table (tgt := 52) dX12_told_11 (Or.inr ⟨by rw [c4]; decide, by rw [c4]; decide, 41, by rw [c4]; decide, by decide⟩) ?_
      refine EV_aload_n dX12_told_52 rfl ?_
      have hh := b1_some h; clear h; obtain ⟨r5, hr5, h⟩ := hh
      refine EV_getP (ci := 12) (k := 2) dX12_told_53 fl_X12_13 rfl hr5 ?_
      refine EV_iload_n dX12_told_56 rfl ?_
      have hh := b1_some h; clear h; obtain ⟨a6, ha6, h⟩ := hh
      subst ha6
      have hh := b1_some h; clear h; obtain ⟨x7, hx7, h⟩ := hh
      refine EV_aI (t := 0) (ty := .int) rfl (by decide) dX12_told_57 hx7 ?_
      cases h
      exact EV_ret ⟨dX12_told_58, .int, rfl, rfl⟩ rfl
    · rw [if_neg c4] at h
      by_cases c8 : pi2 = (1 : Int32)
      · rw [if_pos c8] at h
        refine EV_table (tgt := 59) dX12_told_11 (Or.inr ⟨by rw [c8]; decide, by rw [c8]; decide, 48, by rw [c8]; decide, by decide⟩) ?_
        refine EV_aload_n dX12_told_59 rfl ?_
        have hh := b1_some h; clear h; obtain ⟨r9, hr9, h⟩ := hh
        refine EV_getP (ci := 12) (k := 3) dX12_told_60 fl_X12_16 rfl hr9 ?_
        refine EV_iload_n dX12_told_63 rfl ?_
        have hh := b1_some h; clear h; obtain ⟨a10, ha10, h⟩ := hh
        subst ha10
        have hh := b1_some h; clear h; obtain ⟨x11, hx11, h⟩ := hh
        refine EV_aI (t := 0) (ty := .int) rfl (by decide) dX12_told_64 hx11 ?_
        cases h
        exact EV_ret ⟨dX12_told_65, .int, rfl, rfl⟩ rfl
      · rw [if_neg c8] at h
        by_cases c12 : pi2 = (2 : Int32)
        · rw [if_pos c12] at h
          refine EV_table (tgt := 66) dX12_told_11 (Or.inr ⟨by rw [c12]; decide, by rw [c12]; decide, 55, by rw [c12]; decide, by decide⟩) ?_
          refine EV_aload_n dX12_told_66 rfl ?_
          have hh := b1_some h; clear h; obtain ⟨r13, hr13, h⟩ := hh
          refine EV_getP (ci := 12) (k := 4) dX12_told_67 fl_X12_19 rfl hr13 ?_
          refine EV_iload_n dX12_told_70 rfl ?_
          have hh := b1_some h; clear h; obtain ⟨a14, ha14, h⟩ := hh
          subst ha14
          have hh := b1_some h; clear h; obtain ⟨x15, hx15, h⟩ := hh
          refine EV_aI (t := 0) (ty := .int) rfl (by decide) dX12_told_71 hx15 ?_
          cases h
          exact EV_ret ⟨dX12_told_72, .int, rfl, rfl⟩ rfl
        · rw [if_neg c12] at h
          by_cases c16 : pi2 = (3 : Int32)
          · rw [if_pos c16] at h
            refine EV_table (tgt := 73) dX12_told_11 (Or.inr ⟨by rw [c16]; decide, by rw [c16]; decide, 62, by rw [c16]; decide, by decide⟩) ?_
            refine EV_aload_n dX12_told_73 rfl ?_
            have hh := b1_some h; clear h; obtain ⟨r17, hr17, h⟩ := hh
            refine EV_getP (ci := 12) (k := 5) dX12_told_74 fl_X12_22 rfl hr17 ?_
            refine EV_iload_n dX12_told_77 rfl ?_
            have hh := b1_some h; clear h; obtain ⟨a18, ha18, h⟩ := hh
            subst ha18
            have hh := b1_some h; clear h; obtain ⟨x19, hx19, h⟩ := hh
            refine EV_aI (t := 2) (ty := .boolean) rfl (by decide) dX12_told_78 hx19 ?_
            refine EV_if_eq (tgt := 86) dX12_told_79 (by decide) (fun c20 => ?_) (fun c20 => ?_)
            · rw [if_pos c20] at h
              refine EV_iconst (x := (0 : Int32)) dX12_told_86 (by decide) ?_
              exact EV_pick [] rfl (zX12_told_87 E h)
            · rw [if_neg c20] at h
              refine EV_iconst (x := (1 : Int32)) dX12_told_82 (by decide) ?_
              refine EV_goto (tgt := 87) dX12_told_83 (by decide) ?_
              exact EV_pick [] rfl (zX12_told_87 E h)
          · rw [if_neg c16] at h
            by_cases c21 : pi2 = (4 : Int32)
            · rw [if_pos c21] at h
              refine EV_table (tgt := 88) dX12_told_11 (Or.inr ⟨by rw [c21]; decide, by rw [c21]; decide, 77, by rw [c21]; decide, by decide⟩) ?_
              refine EV_aload_n dX12_told_88 rfl ?_
              have hh := b1_some h; clear h; obtain ⟨r22, hr22, h⟩ := hh
              refine EV_getP (ci := 12) (k := 6) dX12_told_89 fl_X12_26 rfl hr22 ?_
              refine EV_iload_n dX12_told_92 rfl ?_
              have hh := b1_some h; clear h; obtain ⟨a23, ha23, h⟩ := hh
              subst ha23
              have hh := b1_some h; clear h; obtain ⟨x24, hx24, h⟩ := hh
              refine EV_aI (t := 0) (ty := .int) rfl (by decide) dX12_told_93 hx24 ?_
              cases h
              exact EV_ret ⟨dX12_told_94, .int, rfl, rfl⟩ rfl
            · rw [if_neg c21] at h
              by_cases c25 : pi2 = (5 : Int32)
              · rw [if_pos c25] at h
                refine EV_table (tgt := 95) dX12_told_11 (Or.inr ⟨by rw [c25]; decide, by rw [c25]; decide, 84, by rw [c25]; decide, by decide⟩) ?_
                refine EV_aload_n dX12_told_95 rfl ?_
                have hh := b1_some h; clear h; obtain ⟨r26, hr26, h⟩ := hh
                refine EV_getP (ci := 12) (k := 7) dX12_told_96 fl_X12_29 rfl hr26 ?_
                refine EV_iload_n dX12_told_99 rfl ?_
                have hh := b1_some h; clear h; obtain ⟨a27, ha27, h⟩ := hh
                subst ha27
                have hh := b1_some h; clear h; obtain ⟨x28, hx28, h⟩ := hh
                refine EV_aI (t := 0) (ty := .int) rfl (by decide) dX12_told_100 hx28 ?_
                cases h
                exact EV_ret ⟨dX12_told_101, .int, rfl, rfl⟩ rfl
              · rw [if_neg c25] at h
                by_cases c29 : pi2 = (6 : Int32)
                · rw [if_pos c29] at h
                  refine EV_table (tgt := 102) dX12_told_11 (Or.inr ⟨by rw [c29]; decide, by rw [c29]; decide, 91, by rw [c29]; decide, by decide⟩) ?_
                  refine EV_aload_n dX12_told_102 rfl ?_
                  have hh := b1_some h; clear h; obtain ⟨r30, hr30, h⟩ := hh
                  refine EV_getP (ci := 12) (k := 8) dX12_told_103 fl_X12_32 rfl hr30 ?_
                  refine EV_iload_n dX12_told_106 rfl ?_
                  have hh := b1_some h; clear h; obtain ⟨a31, ha31, h⟩ := hh
                  subst ha31
                  have hh := b1_some h; clear h; obtain ⟨x32, hx32, h⟩ := hh
                  refine EV_aI (t := 0) (ty := .int) rfl (by decide) dX12_told_107 hx32 ?_
                  cases h
                  exact EV_ret ⟨dX12_told_108, .int, rfl, rfl⟩ rfl
                · rw [if_neg c29] at h
                  have nc4 := lv_neT (a := 0) c4 (by decide)
                  have nc8 := lv_neT (a := 1) c8 (by decide)
                  have nc12 := lv_neT (a := 2) c12 (by decide)
                  have nc16 := lv_neT (a := 3) c16 (by decide)
                  have nc21 := lv_neT (a := 4) c21 (by decide)
                  have nc25 := lv_neT (a := 5) c25 (by decide)
                  have nc29 := lv_neT (a := 6) c29 (by decide)
                  refine EV_table (tgt := 109) dX12_told_11 (Or.inl ⟨by omega, by decide⟩) ?_
                  refine EV_iconst (x := (0 : Int32)) dX12_told_109 (by decide) ?_
                  cases h
                  exact EV_ret ⟨dX12_told_110, .int, rfl, rfl⟩ rfl
def mX12_ordered_28 (s0 : eS) : Option (Int32 × eS) :=
  (some ((-1 : Int32), s0))
set_option maxRecDepth 100000 in
set_option maxHeartbeats 4000000 in
theorem zX12_ordered_28 (E : eE) {s0 s9 : eS} {y : Int32} (h : mX12_ordered_28 s0 = some (y, s9)) : EV E MX12_ordered 28 [] [] s0 (some (VI y)) s9 := by
  unfold mX12_ordered_28 at h
  refine EV_iconst (x := (-1 : Int32)) dX12_ordered_28 (by decide) ?_
  cases h
  exact EV_ret ⟨dX12_ordered_29, .int, rfl, rfl⟩ rfl
def mX12_ordered_99 (pt0 : Int32) (s0 : eS) : Option (Int32 × eS) :=
  (some (pt0, s0))
set_option maxRecDepth 100000 in
set_option maxHeartbeats 4000000 in
theorem zX12_ordered_99 (E : eE) {pt0 : Int32} {s0 s9 : eS} {y : Int32} (h : mX12_ordered_99 pt0 s0 = some (y, s9)) : EV E MX12_ordered 99 [] [VI pt0] s0 (some (VI y)) s9 := by
  unfold mX12_ordered_99 at h
  cases h
  exact EV_ret ⟨dX12_ordered_99, .int, rfl, rfl⟩ rfl
def mX12_ordered_43 (h0 : Nat) (pi1 : Int32) (pi2 : Int32) (pt0 : Int32) (s0 : eS) : Option (Int32 × eS) :=
  (if pi2 = 0 then (if pt0 = 0 then (mX12_ordered_99 (0 : Int32) s0) else (mX12_ordered_99 (1 : Int32) s0)) else (if pi2 = (1 : Int32) then (if pt0 = 0 then (mX12_ordered_99 (0 : Int32) s0) else (b1 (g_P s0 112 0 h0) fun r4 => (b1 r4 fun a5 => (b1 (a_I s0 0 a5 (6 : Int32)) fun x6 => (b1 (g_I s0 112 20 h0) fun x7 => (b1 (g_I s0 112 16 h0) fun x8 => (mX12_ordered_99 (x6 - (x7 - x8)) s0))))))) else (b1 (g_P s0 112 14 h0) fun r3 => (b1 r3 fun a4 => (b1 (a_I s0 0 a4 pi1) fun x5 => (mX12_ordered_99 x5 s0))))))
set_option maxRecDepth 100000 in
set_option maxHeartbeats 4000000 in
theorem zX12_ordered_43 (E : eE) {h0 : Nat} {pi1 : Int32} {pi2 : Int32} {pt0 : Int32} {s0 s9 : eS} {y : Int32} (h : mX12_ordered_43 h0 pi1 pi2 pt0 s0 = some (y, s9)) : EV E MX12_ordered 43 [(0, VR (some h0)), (1, VI pi1), (2, VI pi2)] [VI pt0] s0 (some (VI y)) s9 := by
  unfold mX12_ordered_43 at h
  refine EV_istore_n (lv2 := [(3, VI pt0), (0, VR (some h0)), (1, VI pi1), (2, VI pi2)]) dX12_ordered_43 (by decide) rfl ?_
  refine EV_iload_n dX12_ordered_44 rfl ?_
  refine EV_if_ne (tgt := 60) dX12_ordered_45 (by decide) (fun c1 => ?_) (fun c1 => ?_)
  · rw [if_pos c1] at h
    refine EV_iload_n dX12_ordered_48 rfl ?_
    refine EV_if_eq (tgt := 56) dX12_ordered_49 (by decide) (fun c2 => ?_) (fun c2 => ?_)
    · rw [if_pos c2] at h
      refine EV_iconst (x := (0 : Int32)) dX12_ordered_56 (by decide) ?_
      refine EV_goto (tgt := 99) dX12_ordered_57 (by decide) ?_
      exact EV_pick [] rfl (zX12_ordered_99 E h)
    · rw [if_neg c2] at h
      refine EV_iconst (x := (1 : Int32)) dX12_ordered_52 (by decide) ?_
      refine EV_goto (tgt := 99) dX12_ordered_53 (by decide) ?_
      exact EV_pick [] rfl (zX12_ordered_99 E h)
  · rw [if_neg c1] at h
    refine EV_iload_n dX12_ordered_60 rfl ?_
    refine EV_iconst (x := (1 : Int32)) dX12_ordered_61 (by decide) ?_
    refine EV_icmp_ne (tgt := 93) dX12_ordered_62 (by decide) (fun c2 => ?_) (fun c2 => ?_)
    · rw [if_pos c2] at h
      refine EV_iload_n dX12_ordered_65 rfl ?_
      refine EV_if_eq (tgt := 89) dX12_ordered_66 (by decide) (fun c3 => ?_) (fun c3 => ?_)
      · rw [if_pos c3] at h
        refine EV_iconst (x := (0 : Int32)) dX12_ordered_89 (by decide) ?_
        refine EV_goto (tgt := 99) dX12_ordered_90 (by decide) ?_
        exact EV_pick [] rfl (zX12_ordered_99 E h)
      · rw [if_neg c3] at h
        refine EV_aload_n dX12_ordered_69 rfl ?_
        have hh := b1_some h; clear h; obtain ⟨r4, hr4, h⟩ := hh
        refine EV_getP (ci := 12) (k := 0) dX12_ordered_70 fl_X12_7 rfl hr4 ?_
        refine EV_bipush (x := (6 : Int32)) dX12_ordered_73 (by decide) ?_
        have hh := b1_some h; clear h; obtain ⟨a5, ha5, h⟩ := hh
        subst ha5
        have hh := b1_some h; clear h; obtain ⟨x6, hx6, h⟩ := hh
        refine EV_aI (t := 0) (ty := .int) rfl (by decide) dX12_ordered_75 hx6 ?_
        refine EV_aload_n dX12_ordered_76 rfl ?_
        have hh := b1_some h; clear h; obtain ⟨x7, hx7, h⟩ := hh
        refine EV_getI (ci := 12) (k := 20) dX12_ordered_77 fl_X12_209 rfl hx7 ?_
        refine EV_aload_n dX12_ordered_80 rfl ?_
        have hh := b1_some h; clear h; obtain ⟨x8, hx8, h⟩ := hh
        refine EV_getI (ci := 12) (k := 16) dX12_ordered_81 fl_X12_333 rfl hx8 ?_
        refine EV_isub dX12_ordered_84 ?_
        refine EV_isub dX12_ordered_85 ?_
        refine EV_goto (tgt := 99) dX12_ordered_86 (by decide) ?_
        exact EV_pick [] rfl (zX12_ordered_99 E h)
    · rw [if_neg c2] at h
      refine EV_aload_n dX12_ordered_93 rfl ?_
      have hh := b1_some h; clear h; obtain ⟨r3, hr3, h⟩ := hh
      refine EV_getP (ci := 12) (k := 14) dX12_ordered_94 fl_X12_47 rfl hr3 ?_
      refine EV_iload_n dX12_ordered_97 rfl ?_
      have hh := b1_some h; clear h; obtain ⟨a4, ha4, h⟩ := hh
      subst ha4
      have hh := b1_some h; clear h; obtain ⟨x5, hx5, h⟩ := hh
      refine EV_aI (t := 0) (ty := .int) rfl (by decide) dX12_ordered_98 hx5 ?_
      exact EV_pick [] rfl (zX12_ordered_99 E h)
def mX12_ordered (h0 : Nat) (pi1 : Int32) (pi2 : Int32) (s0 : eS) : Option (Int32 × eS) :=
  (b1 (g_I s0 112 9 h0) fun x1 => (b2 (mX12_in ((pi1).toInt64) (0 : Int64) (((x1 - (1 : Int32))).toInt64) s0) fun x3 s2 => (if x3 = 0 then (mX12_ordered_28 s2) else (b2 (mX12_in ((pi2).toInt64) (0 : Int64) (2 : Int64) s2) fun x6 s5 => (if x6 = 0 then (mX12_ordered_28 s5) else (b1 (g_I s5 112 15 h0) fun x8 => (if x8 = pi1 then (mX12_ordered_43 h0 pi1 pi2 (1 : Int32) s5) else (mX12_ordered_43 h0 pi1 pi2 (0 : Int32) s5))))))))
set_option maxRecDepth 100000 in
set_option maxHeartbeats 4000000 in
theorem zX12_ordered (E : eE) {h0 : Nat} {pi1 : Int32} {pi2 : Int32} {s0 s9 : eS} {y : Int32} (h : mX12_ordered h0 pi1 pi2 s0 = some (y, s9)) : EM E YX12_ordered [VR (some h0), VI pi1, VI pi2] s0 (some (VI y)) s9 := by
  refine EM_of (M := MX12_ordered) (own := RX12) (ini := false) rfl (by decide +kernel) rfl (fun z => nomatch z) (Nat.le_of_ble_eq_true rfl) ?_
  unfold mX12_ordered at h
  refine EV_iload_n dX12_ordered_0 rfl ?_
  refine EV_i2l dX12_ordered_1 ?_
  refine EV_lconst (x := (0 : Int64)) dX12_ordered_2 (by decide) ?_
  refine EV_aload_n dX12_ordered_3 rfl ?_
  have hh := b1_some h; clear h; obtain ⟨x1, hx1, h⟩ := hh
  refine EV_getI (ci := 12) (k := 9) dX12_ordered_4 fl_X12_130 rfl hx1 ?_
  refine EV_iconst (x := (1 : Int32)) dX12_ordered_7 (by decide) ?_
  refine EV_isub dX12_ordered_8 ?_
  refine EV_i2l dX12_ordered_9 ?_
  have hh := b2_some h; clear h; obtain ⟨x3, s2, hs2, h⟩ := hh
  refine EV_callS (Y := YX12_in) (as := [VL ((pi1).toInt64), VL (0 : Int64), VL (((x1 - (1 : Int32))).toInt64)]) (st := []) (st2 := [VI x3]) (n := 3) dX12_ordered_10 (zX12_in E hs2) rfl cwX12_in rfl tw_1104 tw_1105 ⟨by decide, by decide⟩ (Nat.le_of_ble_eq_true rfl) rfl ?_
  refine EV_if_eq (tgt := 28) dX12_ordered_13 (by decide) (fun c4 => ?_) (fun c4 => ?_)
  · rw [if_pos c4] at h
    exact EV_pick [] rfl (zX12_ordered_28 E h)
  · rw [if_neg c4] at h
    refine EV_iload_n dX12_ordered_16 rfl ?_
    refine EV_i2l dX12_ordered_17 ?_
    refine EV_lconst (x := (0 : Int64)) dX12_ordered_18 (by decide) ?_
    refine EV_ldc2 (x := (2 : Int64)) dX12_ordered_19 tw_1125 ?_
    have hh := b2_some h; clear h; obtain ⟨x6, s5, hs5, h⟩ := hh
    refine EV_callS (Y := YX12_in) (as := [VL ((pi2).toInt64), VL (0 : Int64), VL (2 : Int64)]) (st := []) (st2 := [VI x6]) (n := 3) dX12_ordered_22 (zX12_in E hs5) rfl cwX12_in rfl tw_1104 tw_1105 ⟨by decide, by decide⟩ (Nat.le_of_ble_eq_true rfl) rfl ?_
    refine EV_if_ne (tgt := 30) dX12_ordered_25 (by decide) (fun c7 => ?_) (fun c7 => ?_)
    · rw [if_pos c7] at h
      exact EV_pick [] rfl (zX12_ordered_28 E h)
    · rw [if_neg c7] at h
      refine EV_aload_n dX12_ordered_30 rfl ?_
      have hh := b1_some h; clear h; obtain ⟨x8, hx8, h⟩ := hh
      refine EV_getI (ci := 12) (k := 15) dX12_ordered_31 fl_X12_50 rfl hx8 ?_
      refine EV_iload_n dX12_ordered_34 rfl ?_
      refine EV_icmp_ne (tgt := 42) dX12_ordered_35 (by decide) (fun c9 => ?_) (fun c9 => ?_)
      · rw [if_pos c9] at h
        refine EV_iconst (x := (1 : Int32)) dX12_ordered_38 (by decide) ?_
        refine EV_goto (tgt := 43) dX12_ordered_39 (by decide) ?_
        exact EV_pick [0, 1, 2] rfl (zX12_ordered_43 E h)
      · rw [if_neg c9] at h
        refine EV_iconst (x := (0 : Int32)) dX12_ordered_42 (by decide) ?_
        exact EV_pick [0, 1, 2] rfl (zX12_ordered_43 E h)
def mX12_clock_43 (pt0 : Int32) (s0 : eS) : Option (Int32 × eS) :=
  (some (pt0, s0))
set_option maxRecDepth 100000 in
set_option maxHeartbeats 4000000 in
theorem zX12_clock_43 (E : eE) {pt0 : Int32} {s0 s9 : eS} {y : Int32} (h : mX12_clock_43 pt0 s0 = some (y, s9)) : EV E MX12_clock 43 [] [VI pt0] s0 (some (VI y)) s9 := by
  unfold mX12_clock_43 at h
  cases h
  exact EV_ret ⟨dX12_clock_43, .int, rfl, rfl⟩ rfl
def mX12_clock (h0 : Nat) (pi1 : Int32) (s0 : eS) : Option (Int32 × eS) :=
  (b2 (mX12_in ((pi1).toInt64) (0 : Int64) (5 : Int64) s0) fun x2 s1 => (if x2 = 0 then (if pi1 = (6 : Int32) then (b1 (g_I s1 112 22 h0) fun x5 => (if x5 = 0 then (mX12_clock_43 (0 : Int32) s1) else (mX12_clock_43 (1 : Int32) s1))) else (mX12_clock_43 (-1 : Int32) s1)) else (b1 (g_P s1 112 21 h0) fun r4 => (b1 r4 fun a5 => (b1 (a_I s1 0 a5 pi1) fun x6 => (mX12_clock_43 x6 s1))))))
set_option maxRecDepth 100000 in
set_option maxHeartbeats 4000000 in
theorem zX12_clock (E : eE) {h0 : Nat} {pi1 : Int32} {s0 s9 : eS} {y : Int32} (h : mX12_clock h0 pi1 s0 = some (y, s9)) : EM E YX12_clock [VR (some h0), VI pi1] s0 (some (VI y)) s9 := by
  refine EM_of (M := MX12_clock) (own := RX12) (ini := false) rfl (by decide +kernel) rfl (fun z => nomatch z) (Nat.le_of_ble_eq_true rfl) ?_
  unfold mX12_clock at h
  refine EV_iload_n dX12_clock_0 rfl ?_
  refine EV_i2l dX12_clock_1 ?_
  refine EV_lconst (x := (0 : Int64)) dX12_clock_2 (by decide) ?_
  refine EV_ldc2 (x := (5 : Int64)) dX12_clock_3 tw_1354 ?_
  have hh := b2_some h; clear h; obtain ⟨x2, s1, hs1, h⟩ := hh
  refine EV_callS (Y := YX12_in) (as := [VL ((pi1).toInt64), VL (0 : Int64), VL (5 : Int64)]) (st := []) (st2 := [VI x2]) (n := 3) dX12_clock_6 (zX12_in E hs1) rfl cwX12_in rfl tw_1104 tw_1105 ⟨by decide, by decide⟩ (Nat.le_of_ble_eq_true rfl) rfl ?_
  refine EV_if_eq (tgt := 21) dX12_clock_9 (by decide) (fun c3 => ?_) (fun c3 => ?_)
  · rw [if_pos c3] at h
    refine EV_iload_n dX12_clock_21 rfl ?_
    refine EV_bipush (x := (6 : Int32)) dX12_clock_22 (by decide) ?_
    refine EV_icmp_ne (tgt := 42) dX12_clock_24 (by decide) (fun c4 => ?_) (fun c4 => ?_)
    · rw [if_pos c4] at h
      refine EV_aload_n dX12_clock_27 rfl ?_
      have hh := b1_some h; clear h; obtain ⟨x5, hx5, h⟩ := hh
      refine EV_getI (ci := 12) (k := 22) dX12_clock_28 fl_X12_168 rfl hx5 ?_
      refine EV_if_eq (tgt := 38) dX12_clock_31 (by decide) (fun c6 => ?_) (fun c6 => ?_)
      · rw [if_pos c6] at h
        refine EV_iconst (x := (0 : Int32)) dX12_clock_38 (by decide) ?_
        refine EV_goto (tgt := 43) dX12_clock_39 (by decide) ?_
        exact EV_pick [] rfl (zX12_clock_43 E h)
      · rw [if_neg c6] at h
        refine EV_iconst (x := (1 : Int32)) dX12_clock_34 (by decide) ?_
        refine EV_goto (tgt := 43) dX12_clock_35 (by decide) ?_
        exact EV_pick [] rfl (zX12_clock_43 E h)
    · rw [if_neg c4] at h
      refine EV_iconst (x := (-1 : Int32)) dX12_clock_42 (by decide) ?_
      exact EV_pick [] rfl (zX12_clock_43 E h)
  · rw [if_neg c3] at h
    refine EV_aload_n dX12_clock_12 rfl ?_
    have hh := b1_some h; clear h; obtain ⟨r4, hr4, h⟩ := hh
    refine EV_getP (ci := 12) (k := 21) dX12_clock_13 fl_X12_57 rfl hr4 ?_
    refine EV_iload_n dX12_clock_16 rfl ?_
    have hh := b1_some h; clear h; obtain ⟨a5, ha5, h⟩ := hh
    subst ha5
    have hh := b1_some h; clear h; obtain ⟨x6, hx6, h⟩ := hh
    refine EV_aI (t := 0) (ty := .int) rfl (by decide) dX12_clock_17 hx6 ?_
    refine EV_goto (tgt := 43) dX12_clock_18 (by decide) ?_
    exact EV_pick [] rfl (zX12_clock_43 E h)
def mX12_count_134 (pt0 : Int32) (s0 : eS) : Option (Int32 × eS) :=
  (some (pt0, s0))
set_option maxRecDepth 100000 in
set_option maxHeartbeats 4000000 in
theorem zX12_count_134 (E : eE) {pt0 : Int32} {s0 s9 : eS} {y : Int32} (h : mX12_count_134 pt0 s0 = some (y, s9)) : EV E MX12_count 134 [] [VI pt0] s0 (some (VI y)) s9 := by
  unfold mX12_count_134 at h
  cases h
  exact EV_ret ⟨dX12_count_134, .int, rfl, rfl⟩ rfl
def mX12_count (h0 : Nat) (pi1 : Int32) (s0 : eS) : Option (Int32 × eS) :=
  (if pi1 = (0 : Int32) then (b1 (g_I s0 112 35 h0) fun x2 => (some (x2, s0))) else (if pi1 = (1 : Int32) then (b1 (g_I s0 112 36 h0) fun x4 => (some (x4, s0))) else (if pi1 = (2 : Int32) then (b1 (g_I s0 112 49 h0) fun x6 => (some (x6, s0))) else (if pi1 = (3 : Int32) then (b1 (g_I s0 112 37 h0) fun x8 => (some (x8, s0))) else (if pi1 = (4 : Int32) then (b1 (g_I s0 112 28 h0) fun x10 => (some (x10, s0))) else (if pi1 = (5 : Int32) then (b1 (g_I s0 112 38 h0) fun x12 => (some (x12, s0))) else (if pi1 = (6 : Int32) then (b1 (g_I s0 112 38 h0) fun x14 => (b1 (g_I s0 112 39 h0) fun x15 => (some ((x14 - x15), s0)))) else (if pi1 = (7 : Int32) then (b1 (g_I s0 112 45 h0) fun x17 => (some (x17, s0))) else (if pi1 = (8 : Int32) then (b1 (g_I s0 112 23 h0) fun x19 => (some (x19, s0))) else (if pi1 = (9 : Int32) then (b1 (g_I s0 112 42 h0) fun x21 => (if x21 = 0 then (mX12_count_134 (0 : Int32) s0) else (mX12_count_134 (1 : Int32) s0))) else (if pi1 = (10 : Int32) then (b1 (g_I s0 112 44 h0) fun x24 => (some (x24, s0))) else (if pi1 = (11 : Int32) then (b1 (g_I s0 112 19 h0) fun x26 => (some (x26, s0))) else (if pi1 = (12 : Int32) then (b1 (g_I s0 112 1 h0) fun x28 => (some (x28, s0))) else (if pi1 = (13 : Int32) then (b1 (g_I s0 112 9 h0) fun x30 => (some (x30, s0))) else (some ((-1 : Int32), s0))))))))))))))))
set_option maxRecDepth 100000 in
set_option maxHeartbeats 4000000 in
theorem zX12_count (E : eE) {h0 : Nat} {pi1 : Int32} {s0 s9 : eS} {y : Int32} (h : mX12_count h0 pi1 s0 = some (y, s9)) : EM E YX12_count [VR (some h0), VI pi1] s0 (some (VI y)) s9 := by
  refine EM_of (M := MX12_count) (own := RX12) (ini := false) rfl (by decide +kernel) rfl (fun z => nomatch z) (Nat.le_of_ble_eq_true rfl) ?_
  unfold mX12_count at h
  refine EV_iload_n dX12_count_0 rfl ?_
  by_cases c1 : pi1 = (0 : Int32)
  · rw [if_pos c1] at h
    refine EV_table (tgt := 72) dX12_count_1 (Or.inr ⟨by rw [c1]; decide, by rw [c1]; decide, 71, by rw [c1]; decide, by decide⟩) ?_
    refine EV_aload_n dX12_count_72 rfl ?_
    have hh := b1_some h; clear h; obtain ⟨x2, hx2, h⟩ := hh
    refine EV_getI (ci := 12) (k := 35) dX12_count_73 fl_X12_125 rfl hx2 ?_
    cases h
    exact EV_ret ⟨dX12_count_76, .int, rfl, rfl⟩ rfl
  · rw [if_neg c1] at h
    by_cases c3 : pi1 = (1 : Int32)
    · rw [if_pos c3] at h
      refine EV_table (tgt := 77) dX12_count_1 (Or.inr ⟨by rw [c3]; decide, by rw [c3]; decide, 76, by rw [c3]; decide, by decide⟩) ?_
      refine EV_aload_n dX12_count_77 rfl ?_
      have hh := b1_some h; clear h; obtain ⟨x4, hx4, h⟩ := hh
      refine EV_getI (ci := 12) (k := 36) dX12_count_78 fl_X12_252 rfl hx4 ?_
      cases h
      exact EV_ret ⟨dX12_count_81, .int, rfl, rfl⟩ rfl
    · rw [if_neg c3] at h
      by_cases c5 : pi1 = (2 : Int32)
      · rw [if_pos c5] at h
        refine EV_table (tgt := 82) dX12_count_1 (Or.inr ⟨by rw [c5]; decide, by rw [c5]; decide, 81, by rw [c5]; decide, by decide⟩) ?_
        refine EV_aload_n dX12_count_82 rfl ?_
        have hh := b1_some h; clear h; obtain ⟨x6, hx6, h⟩ := hh
        refine EV_getI (ci := 12) (k := 49) dX12_count_83 fl_X12_172 rfl hx6 ?_
        cases h
        exact EV_ret ⟨dX12_count_86, .int, rfl, rfl⟩ rfl
      · rw [if_neg c5] at h
        by_cases c7 : pi1 = (3 : Int32)
        · rw [if_pos c7] at h
          refine EV_table (tgt := 87) dX12_count_1 (Or.inr ⟨by rw [c7]; decide, by rw [c7]; decide, 86, by rw [c7]; decide, by decide⟩) ?_
          refine EV_aload_n dX12_count_87 rfl ?_
          have hh := b1_some h; clear h; obtain ⟨x8, hx8, h⟩ := hh
          refine EV_getI (ci := 12) (k := 37) dX12_count_88 fl_X12_200 rfl hx8 ?_
          cases h
          exact EV_ret ⟨dX12_count_91, .int, rfl, rfl⟩ rfl
        · rw [if_neg c7] at h
          by_cases c9 : pi1 = (4 : Int32)
          · rw [if_pos c9] at h
            refine EV_table (tgt := 92) dX12_count_1 (Or.inr ⟨by rw [c9]; decide, by rw [c9]; decide, 91, by rw [c9]; decide, by decide⟩) ?_
            refine EV_aload_n dX12_count_92 rfl ?_
            have hh := b1_some h; clear h; obtain ⟨x10, hx10, h⟩ := hh
            refine EV_getI (ci := 12) (k := 28) dX12_count_93 fl_X12_206 rfl hx10 ?_
            cases h
            exact EV_ret ⟨dX12_count_96, .int, rfl, rfl⟩ rfl
          · rw [if_neg c9] at h
            by_cases c11 : pi1 = (5 : Int32)
            · rw [if_pos c11] at h
              refine EV_table (tgt := 97) dX12_count_1 (Or.inr ⟨by rw [c11]; decide, by rw [c11]; decide, 96, by rw [c11]; decide, by decide⟩) ?_
              refine EV_aload_n dX12_count_97 rfl ?_
              have hh := b1_some h; clear h; obtain ⟨x12, hx12, h⟩ := hh
              refine EV_getI (ci := 12) (k := 38) dX12_count_98 fl_X12_182 rfl hx12 ?_
              cases h
              exact EV_ret ⟨dX12_count_101, .int, rfl, rfl⟩ rfl
            · rw [if_neg c11] at h
              by_cases c13 : pi1 = (6 : Int32)
              · rw [if_pos c13] at h
                refine EV_table (tgt := 102) dX12_count_1 (Or.inr ⟨by rw [c13]; decide, by rw [c13]; decide, 101, by rw [c13]; decide, by decide⟩) ?_
                refine EV_aload_n dX12_count_102 rfl ?_
                have hh := b1_some h; clear h; obtain ⟨x14, hx14, h⟩ := hh
                refine EV_getI (ci := 12) (k := 38) dX12_count_103 fl_X12_182 rfl hx14 ?_
                refine EV_aload_n dX12_count_106 rfl ?_
                have hh := b1_some h; clear h; obtain ⟨x15, hx15, h⟩ := hh
                refine EV_getI (ci := 12) (k := 39) dX12_count_107 fl_X12_197 rfl hx15 ?_
                refine EV_isub dX12_count_110 ?_
                cases h
                exact EV_ret ⟨dX12_count_111, .int, rfl, rfl⟩ rfl
              · rw [if_neg c13] at h
                by_cases c16 : pi1 = (7 : Int32)
                · rw [if_pos c16] at h
                  refine EV_table (tgt := 112) dX12_count_1 (Or.inr ⟨by rw [c16]; decide, by rw [c16]; decide, 111, by rw [c16]; decide, by decide⟩) ?_
                  refine EV_aload_n dX12_count_112 rfl ?_
                  have hh := b1_some h; clear h; obtain ⟨x17, hx17, h⟩ := hh
                  refine EV_getI (ci := 12) (k := 45) dX12_count_113 fl_X12_222 rfl hx17 ?_
                  cases h
                  exact EV_ret ⟨dX12_count_116, .int, rfl, rfl⟩ rfl
                · rw [if_neg c16] at h
                  by_cases c18 : pi1 = (8 : Int32)
                  · rw [if_pos c18] at h
                    refine EV_table (tgt := 117) dX12_count_1 (Or.inr ⟨by rw [c18]; decide, by rw [c18]; decide, 116, by rw [c18]; decide, by decide⟩) ?_
                    refine EV_aload_n dX12_count_117 rfl ?_
                    have hh := b1_some h; clear h; obtain ⟨x19, hx19, h⟩ := hh
                    refine EV_getI (ci := 12) (k := 23) dX12_count_118 fl_X12_158 rfl hx19 ?_
                    cases h
                    exact EV_ret ⟨dX12_count_121, .int, rfl, rfl⟩ rfl
                  · rw [if_neg c18] at h
                    by_cases c20 : pi1 = (9 : Int32)
                    · rw [if_pos c20] at h
                      refine EV_table (tgt := 122) dX12_count_1 (Or.inr ⟨by rw [c20]; decide, by rw [c20]; decide, 121, by rw [c20]; decide, by decide⟩) ?_
                      refine EV_aload_n dX12_count_122 rfl ?_
                      have hh := b1_some h; clear h; obtain ⟨x21, hx21, h⟩ := hh
                      refine EV_getI (ci := 12) (k := 42) dX12_count_123 fl_X12_258 rfl hx21 ?_
                      refine EV_if_eq (tgt := 133) dX12_count_126 (by decide) (fun c22 => ?_) (fun c22 => ?_)
                      · rw [if_pos c22] at h
                        refine EV_iconst (x := (0 : Int32)) dX12_count_133 (by decide) ?_
                        exact EV_pick [] rfl (zX12_count_134 E h)
                      · rw [if_neg c22] at h
                        refine EV_iconst (x := (1 : Int32)) dX12_count_129 (by decide) ?_
                        refine EV_goto (tgt := 134) dX12_count_130 (by decide) ?_
                        exact EV_pick [] rfl (zX12_count_134 E h)
                    · rw [if_neg c20] at h
                      by_cases c23 : pi1 = (10 : Int32)
                      · rw [if_pos c23] at h
                        refine EV_table (tgt := 135) dX12_count_1 (Or.inr ⟨by rw [c23]; decide, by rw [c23]; decide, 134, by rw [c23]; decide, by decide⟩) ?_
                        refine EV_aload_n dX12_count_135 rfl ?_
                        have hh := b1_some h; clear h; obtain ⟨x24, hx24, h⟩ := hh
                        refine EV_getI (ci := 12) (k := 44) dX12_count_136 fl_X12_302 rfl hx24 ?_
                        cases h
                        exact EV_ret ⟨dX12_count_139, .int, rfl, rfl⟩ rfl
                      · rw [if_neg c23] at h
                        by_cases c25 : pi1 = (11 : Int32)
                        · rw [if_pos c25] at h
                          refine EV_table (tgt := 140) dX12_count_1 (Or.inr ⟨by rw [c25]; decide, by rw [c25]; decide, 139, by rw [c25]; decide, by decide⟩) ?_
                          refine EV_aload_n dX12_count_140 rfl ?_
                          have hh := b1_some h; clear h; obtain ⟨x26, hx26, h⟩ := hh
                          refine EV_getI (ci := 12) (k := 19) dX12_count_141 fl_X12_219 rfl hx26 ?_
                          cases h
                          exact EV_ret ⟨dX12_count_144, .int, rfl, rfl⟩ rfl
                        · rw [if_neg c25] at h
                          by_cases c27 : pi1 = (12 : Int32)
                          · rw [if_pos c27] at h
                            refine EV_table (tgt := 145) dX12_count_1 (Or.inr ⟨by rw [c27]; decide, by rw [c27]; decide, 144, by rw [c27]; decide, by decide⟩) ?_
                            refine EV_aload_n dX12_count_145 rfl ?_
                            have hh := b1_some h; clear h; obtain ⟨x28, hx28, h⟩ := hh
                            refine EV_getI (ci := 12) (k := 1) dX12_count_146 fl_X12_108 rfl hx28 ?_
                            cases h
                            exact EV_ret ⟨dX12_count_149, .int, rfl, rfl⟩ rfl
                          · rw [if_neg c27] at h
                            by_cases c29 : pi1 = (13 : Int32)
                            · rw [if_pos c29] at h
                              refine EV_table (tgt := 150) dX12_count_1 (Or.inr ⟨by rw [c29]; decide, by rw [c29]; decide, 149, by rw [c29]; decide, by decide⟩) ?_
                              refine EV_aload_n dX12_count_150 rfl ?_
                              have hh := b1_some h; clear h; obtain ⟨x30, hx30, h⟩ := hh
                              refine EV_getI (ci := 12) (k := 9) dX12_count_151 fl_X12_130 rfl hx30 ?_
                              cases h
                              exact EV_ret ⟨dX12_count_154, .int, rfl, rfl⟩ rfl
                            · rw [if_neg c29] at h
                              have nc1 := lv_neT (a := 0) c1 (by decide)
                              have nc3 := lv_neT (a := 1) c3 (by decide)
                              have nc5 := lv_neT (a := 2) c5 (by decide)
                              have nc7 := lv_neT (a := 3) c7 (by decide)
                              have nc9 := lv_neT (a := 4) c9 (by decide)
                              have nc11 := lv_neT (a := 5) c11 (by decide)
                              have nc13 := lv_neT (a := 6) c13 (by decide)
                              have nc16 := lv_neT (a := 7) c16 (by decide)
                              have nc18 := lv_neT (a := 8) c18 (by decide)
                              have nc20 := lv_neT (a := 9) c20 (by decide)
                              have nc23 := lv_neT (a := 10) c23 (by decide)
                              have nc25 := lv_neT (a := 11) c25 (by decide)
                              have nc27 := lv_neT (a := 12) c27 (by decide)
                              have nc29 := lv_neT (a := 13) c29 (by decide)
                              refine EV_table (tgt := 155) dX12_count_1 (Or.inl ⟨by omega, by decide⟩) ?_
                              refine EV_iconst (x := (-1 : Int32)) dX12_count_155 (by decide) ?_
                              cases h
                              exact EV_ret ⟨dX12_count_156, .int, rfl, rfl⟩ rfl
