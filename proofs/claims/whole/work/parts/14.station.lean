def mX11_init (h0 : Nat) (s0 : eS) : Option eS :=
  (b2 (n_A s0 0 (7 : Int32)) fun q1 s2 => (b1 (s_I s2 0 q1 (0 : Int32) (1 : Int32)) fun s3 => (b1 (s_I s3 0 q1 (1 : Int32) (12 : Int32)) fun s4 => (b1 (s_I s4 0 q1 (2 : Int32) (8 : Int32)) fun s5 => (b1 (s_I s5 0 q1 (3 : Int32) (150 : Int32)) fun s6 => (b1 (s_I s6 0 q1 (4 : Int32) (100 : Int32)) fun s7 => (b1 (s_I s7 0 q1 (5 : Int32) (200 : Int32)) fun s8 => (b1 (s_I s8 0 q1 (6 : Int32) (300 : Int32)) fun s9 => (b1 (p_P s9 111 0 h0 (some q1)) fun s10 => (b2 (n_O s10 107 3) fun q11 s12 => (b1 (mX7_init q11 s12) fun s13 => (b1 (p_P s13 111 1 h0 (some q11)) fun s15 => (b2 (n_A s15 5 (12 : Int32)) fun q16 s17 => (b1 (p_P s17 111 2 h0 (some q16)) fun s18 => (b2 (n_O s18 109 4) fun q19 s20 => (b1 (mX9_init q19 s20) fun s21 => (b1 (p_P s21 111 4 h0 (some q19)) fun s23 => (b2 (n_O s23 101 7) fun q24 s25 => (b1 (mX1_init q24 s25) fun s26 => (b1 (p_P s26 111 5 h0 (some q24)) fun s28 => (b2 (n_O s28 103 7) fun q29 s30 => (b1 (mX3_init q29 s30) fun s31 => (b1 (p_P s31 111 6 h0 (some q29)) fun s33 => (b2 (n_O s33 100 5) fun q34 s35 => (b1 (mX0_init q34 s35) fun s36 => (b1 (p_P s36 111 7 h0 (some q34)) fun s38 => (b2 (n_O s38 108 7) fun q39 s40 => (b1 (mX8_init q39 s40) fun s41 => (b1 (p_P s41 111 8 h0 (some q39)) fun s43 => (b2 (n_O s43 110 5) fun q44 s45 => (b1 (mX10_init q44 s45) fun s46 => (b1 (p_P s46 111 9 h0 (some q44)) fun s48 => (b2 (n_O s48 105 3) fun q49 s50 => (b1 (mX5_init q49 s50) fun s51 => (b1 (p_P s51 111 10 h0 (some q49)) fun s53 => (b1 (p_I s53 111 11 h0 (0 : Int32)) fun s54 => (some s54)))))))))))))))))))))))))))))))))))))
set_option maxRecDepth 100000 in
set_option maxHeartbeats 4000000 in
theorem zX11_init (E : eE) {h0 : Nat} {s0 s9 : eS} (h : mX11_init h0 s0 = some s9) : EM E YX11_init [VR (some h0)] s0 none s9 := by
  refine EM_of (M := MX11_init) (own := RX11) (ini := true) rfl (by decide +kernel) rfl (fun _ => rfl) (Nat.le_of_ble_eq_true rfl) ?_
  unfold mX11_init at h
  refine EV_aload_n dX11_init_0 rfl ?_
  refine EV_objInit dX11_init_1 ⟨_, rfl⟩ tw_92 tw_93 tw_94 ⟨by decide, by decide⟩ (Nat.le_of_ble_eq_true rfl) ?_
  refine EV_aload_n dX11_init_4 rfl ?_
  refine EV_bipush (x := (7 : Int32)) dX11_init_5 (by decide) ?_
  have hh := b2_some h; clear h; obtain ⟨q1, s2, hs2, h⟩ := hh
  refine EV_nA (t := 0) (ty := .int) dX11_init_7 rfl rfl (by decide) tw_114 hs2 ?_
  refine EV_dup dX11_init_9 rfl ?_
  refine EV_iconst (x := (0 : Int32)) dX11_init_10 (by decide) ?_
  refine EV_iconst (x := (1 : Int32)) dX11_init_11 (by decide) ?_
  have hh := b1_some h; clear h; obtain ⟨s3, hs3, h⟩ := hh
  refine EV_sI (t := 0) rfl dX11_init_12 hs3 ?_
  refine EV_dup dX11_init_13 rfl ?_
  refine EV_iconst (x := (1 : Int32)) dX11_init_14 (by decide) ?_
  refine EV_bipush (x := (12 : Int32)) dX11_init_15 (by decide) ?_
  have hh := b1_some h; clear h; obtain ⟨s4, hs4, h⟩ := hh
  refine EV_sI (t := 0) rfl dX11_init_17 hs4 ?_
  refine EV_dup dX11_init_18 rfl ?_
  refine EV_iconst (x := (2 : Int32)) dX11_init_19 (by decide) ?_
  refine EV_bipush (x := (8 : Int32)) dX11_init_20 (by decide) ?_
  have hh := b1_some h; clear h; obtain ⟨s5, hs5, h⟩ := hh
  refine EV_sI (t := 0) rfl dX11_init_22 hs5 ?_
  refine EV_dup dX11_init_23 rfl ?_
  refine EV_iconst (x := (3 : Int32)) dX11_init_24 (by decide) ?_
  refine EV_sipush (x := (150 : Int32)) dX11_init_25 (by decide) ?_
  have hh := b1_some h; clear h; obtain ⟨s6, hs6, h⟩ := hh
  refine EV_sI (t := 0) rfl dX11_init_28 hs6 ?_
  refine EV_dup dX11_init_29 rfl ?_
  refine EV_iconst (x := (4 : Int32)) dX11_init_30 (by decide) ?_
  refine EV_bipush (x := (100 : Int32)) dX11_init_31 (by decide) ?_
  have hh := b1_some h; clear h; obtain ⟨s7, hs7, h⟩ := hh
  refine EV_sI (t := 0) rfl dX11_init_33 hs7 ?_
  refine EV_dup dX11_init_34 rfl ?_
  refine EV_iconst (x := (5 : Int32)) dX11_init_35 (by decide) ?_
  refine EV_sipush (x := (200 : Int32)) dX11_init_36 (by decide) ?_
  have hh := b1_some h; clear h; obtain ⟨s8, hs8, h⟩ := hh
  refine EV_sI (t := 0) rfl dX11_init_39 hs8 ?_
  refine EV_dup dX11_init_40 rfl ?_
  refine EV_bipush (x := (6 : Int32)) dX11_init_41 (by decide) ?_
  refine EV_sipush (x := (300 : Int32)) dX11_init_43 (by decide) ?_
  have hh := b1_some h; clear h; obtain ⟨s9, hs9, h⟩ := hh
  refine EV_sI (t := 0) rfl dX11_init_46 hs9 ?_
  have hh := b1_some h; clear h; obtain ⟨s10, hs10, h⟩ := hh
  refine EV_putP (ci := 11) (k := 0) dX11_init_47 fp_X11_7i rfl hs10 ?_
  refine EV_aload_n dX11_init_50 rfl ?_
  have hh := b2_some h; clear h; obtain ⟨q11, s12, hs12, h⟩ := hh
  refine EV_nO (ci := 7) (r := rX7) dX11_init_51 eX_7 rfl tw_95 tw_96 tw_73 eXf_7 hs12 ?_
  refine EV_dup dX11_init_54 rfl ?_
  have hh := b1_some h; clear h; obtain ⟨s13, hs13, h⟩ := hh
  refine EV_callIN (Y := YX7_init) (as := []) (st := [VR (some q11), VR (some h0)]) (a := q11) (n := 0) dX11_init_55 (zX7_init E hs13) rfl rfl cwX7_init rfl tw_97 tw_98 rfl ⟨by decide, by decide⟩ (Nat.le_of_ble_eq_true rfl) ?_
  have hh := b1_some h; clear h; obtain ⟨s15, hs15, h⟩ := hh
  refine EV_putP (ci := 11) (k := 1) dX11_init_58 fp_X11_16i rfl hs15 ?_
  refine EV_aload_n dX11_init_61 rfl ?_
  refine EV_bipush (x := (12 : Int32)) dX11_init_62 (by decide) ?_
  have hh := b2_some h; clear h; obtain ⟨q16, s17, hs17, h⟩ := hh
  refine EV_nR (t := 5) (C := "ControlledStation$Command") dX11_init_64 rfl tw_115 tw_116 hs17 ?_
  have hh := b1_some h; clear h; obtain ⟨s18, hs18, h⟩ := hh
  refine EV_putP (ci := 11) (k := 2) dX11_init_67 fp_X11_22i rfl hs18 ?_
  refine EV_aload_n dX11_init_70 rfl ?_
  have hh := b2_some h; clear h; obtain ⟨q19, s20, hs20, h⟩ := hh
  refine EV_nO (ci := 9) (r := rX9) dX11_init_71 eX_9 rfl tw_117 tw_118 tw_74 eXf_9 hs20 ?_
  refine EV_dup dX11_init_74 rfl ?_
  have hh := b1_some h; clear h; obtain ⟨s21, hs21, h⟩ := hh
  refine EV_callIN (Y := YX9_init) (as := []) (st := [VR (some q19), VR (some h0)]) (a := q19) (n := 0) dX11_init_75 (zX9_init E hs21) rfl rfl cwX9_init rfl tw_119 tw_120 rfl ⟨by decide, by decide⟩ (Nat.le_of_ble_eq_true rfl) ?_
  have hh := b1_some h; clear h; obtain ⟨s23, hs23, h⟩ := hh
  refine EV_putP (ci := 11) (k := 4) dX11_init_78 fp_X11_29i rfl hs23 ?_
  refine EV_aload_n dX11_init_81 rfl ?_
  have hh := b2_some h; clear h; obtain ⟨q24, s25, hs25, h⟩ := hh
  refine EV_nO (ci := 1) (r := rX1) dX11_init_82 eX_1 rfl tw_139 tw_140 tw_75 eXf_1 hs25 ?_
  refine EV_dup dX11_init_85 rfl ?_
  have hh := b1_some h; clear h; obtain ⟨s26, hs26, h⟩ := hh
  refine EV_callIN (Y := YX1_init) (as := []) (st := [VR (some q24), VR (some h0)]) (a := q24) (n := 0) dX11_init_86 (zX1_init E hs26) rfl rfl cwX1_init rfl tw_141 tw_142 rfl ⟨by decide, by decide⟩ (Nat.le_of_ble_eq_true rfl) ?_
  have hh := b1_some h; clear h; obtain ⟨s28, hs28, h⟩ := hh
  refine EV_putP (ci := 11) (k := 5) dX11_init_89 fp_X11_36i rfl hs28 ?_
  refine EV_aload_n dX11_init_92 rfl ?_
  have hh := b2_some h; clear h; obtain ⟨q29, s30, hs30, h⟩ := hh
  refine EV_nO (ci := 3) (r := rX3) dX11_init_93 eX_3 rfl tw_174 tw_175 tw_76 eXf_3 hs30 ?_
  refine EV_dup dX11_init_96 rfl ?_
  have hh := b1_some h; clear h; obtain ⟨s31, hs31, h⟩ := hh
  refine EV_callIN (Y := YX3_init) (as := []) (st := [VR (some q29), VR (some h0)]) (a := q29) (n := 0) dX11_init_97 (zX3_init E hs31) rfl rfl cwX3_init rfl tw_176 tw_177 rfl ⟨by decide, by decide⟩ (Nat.le_of_ble_eq_true rfl) ?_
  have hh := b1_some h; clear h; obtain ⟨s33, hs33, h⟩ := hh
  refine EV_putP (ci := 11) (k := 6) dX11_init_100 fp_X11_43i rfl hs33 ?_
  refine EV_aload_n dX11_init_103 rfl ?_
  have hh := b2_some h; clear h; obtain ⟨q34, s35, hs35, h⟩ := hh
  refine EV_nO (ci := 0) (r := rX0) dX11_init_104 eX_0 rfl tw_219 tw_220 tw_78 eXf_0 hs35 ?_
  refine EV_dup dX11_init_107 rfl ?_
  have hh := b1_some h; clear h; obtain ⟨s36, hs36, h⟩ := hh
  refine EV_callIN (Y := YX0_init) (as := []) (st := [VR (some q34), VR (some h0)]) (a := q34) (n := 0) dX11_init_108 (zX0_init E hs36) rfl rfl cwX0_init rfl tw_221 tw_222 rfl ⟨by decide, by decide⟩ (Nat.le_of_ble_eq_true rfl) ?_
  have hh := b1_some h; clear h; obtain ⟨s38, hs38, h⟩ := hh
  refine EV_putP (ci := 11) (k := 7) dX11_init_111 fp_X11_50i rfl hs38 ?_
  refine EV_aload_n dX11_init_114 rfl ?_
  have hh := b2_some h; clear h; obtain ⟨q39, s40, hs40, h⟩ := hh
  refine EV_nO (ci := 8) (r := rX8) dX11_init_115 eX_8 rfl tw_246 tw_247 tw_79 eXf_8 hs40 ?_
  refine EV_dup dX11_init_118 rfl ?_
  have hh := b1_some h; clear h; obtain ⟨s41, hs41, h⟩ := hh
  refine EV_callIN (Y := YX8_init) (as := []) (st := [VR (some q39), VR (some h0)]) (a := q39) (n := 0) dX11_init_119 (zX8_init E hs41) rfl rfl cwX8_init rfl tw_248 tw_249 rfl ⟨by decide, by decide⟩ (Nat.le_of_ble_eq_true rfl) ?_
  have hh := b1_some h; clear h; obtain ⟨s43, hs43, h⟩ := hh
  refine EV_putP (ci := 11) (k := 8) dX11_init_122 fp_X11_57i rfl hs43 ?_
  refine EV_aload_n dX11_init_125 rfl ?_
  have hh := b2_some h; clear h; obtain ⟨q44, s45, hs45, h⟩ := hh
  refine EV_nO (ci := 10) (r := rX10) dX11_init_126 eX_10 rfl tw_281 tw_282 tw_80 eXf_10 hs45 ?_
  refine EV_dup dX11_init_129 rfl ?_
  have hh := b1_some h; clear h; obtain ⟨s46, hs46, h⟩ := hh
  refine EV_callIN (Y := YX10_init) (as := []) (st := [VR (some q44), VR (some h0)]) (a := q44) (n := 0) dX11_init_130 (zX10_init E hs46) rfl rfl cwX10_init rfl tw_283 tw_284 rfl ⟨by decide, by decide⟩ (Nat.le_of_ble_eq_true rfl) ?_
  have hh := b1_some h; clear h; obtain ⟨s48, hs48, h⟩ := hh
  refine EV_putP (ci := 11) (k := 9) dX11_init_133 fp_X11_64i rfl hs48 ?_
  refine EV_aload_n dX11_init_136 rfl ?_
  have hh := b2_some h; clear h; obtain ⟨q49, s50, hs50, h⟩ := hh
  refine EV_nO (ci := 5) (r := rX5) dX11_init_137 eX_5 rfl tw_306 tw_307 tw_81 eXf_5 hs50 ?_
  refine EV_dup dX11_init_140 rfl ?_
  have hh := b1_some h; clear h; obtain ⟨s51, hs51, h⟩ := hh
  refine EV_callIN (Y := YX5_init) (as := []) (st := [VR (some q49), VR (some h0)]) (a := q49) (n := 0) dX11_init_141 (zX5_init E hs51) rfl rfl cwX5_init rfl tw_308 tw_309 rfl ⟨by decide, by decide⟩ (Nat.le_of_ble_eq_true rfl) ?_
  have hh := b1_some h; clear h; obtain ⟨s53, hs53, h⟩ := hh
  refine EV_putP (ci := 11) (k := 10) dX11_init_144 fp_X11_71i rfl hs53 ?_
  refine EV_aload_n dX11_init_147 rfl ?_
  refine EV_iconst (x := (0 : Int32)) dX11_init_148 (by decide) ?_
  have hh := b1_some h; clear h; obtain ⟨s54, hs54, h⟩ := hh
  refine EV_putI (ci := 11) (k := 11) dX11_init_149 fp_X11_75i rfl hs54 ?_
  cases h
  exact EV_ret ⟨dX11_init_152, rfl⟩ rfl
def mX11_set_28 (s0 : eS) : Option (Int32 × eS) :=
  (some ((-1 : Int32), s0))
set_option maxRecDepth 100000 in
set_option maxHeartbeats 4000000 in
theorem zX11_set_28 (E : eE) {s0 s9 : eS} {y : Int32} (h : mX11_set_28 s0 = some (y, s9)) : EV E MX11_set 28 [] [] s0 (some (VI y)) s9 := by
  unfold mX11_set_28 at h
  refine EV_iconst (x := (-1 : Int32)) dX11_set_28 (by decide) ?_
  cases h
  exact EV_ret ⟨dX11_set_29, .int, rfl, rfl⟩ rfl
def mX11_set (h0 : Nat) (pi1 : Int32) (pi2 : Int32) (s0 : eS) : Option (Int32 × eS) :=
  (if pi1 < 0 then (mX11_set_28 s0) else (if (7 : Int32) ≤ pi1 then (mX11_set_28 s0) else (b1 (t_I tb_0 pi1) fun x3 => (if pi2 < x3 then (mX11_set_28 s0) else (b1 (t_I tb_1 pi1) fun x5 => (if pi2 ≤ x5 then (b1 (g_I s0 111 11 h0) fun x7 => (if x7 = 0 then (b1 (g_P s0 111 0 h0) fun r9 => (b1 r9 fun a10 => (b1 (a_I s0 0 a10 pi1) fun x11 => (b1 (g_P s0 111 0 h0) fun r12 => (b1 r12 fun a13 => (b1 (s_I s0 0 a13 pi1 pi2) fun s14 => (some (x11, s14)))))))) else (some ((-2 : Int32), s0)))) else (mX11_set_28 s0)))))))
set_option maxRecDepth 100000 in
set_option maxHeartbeats 4000000 in
theorem zX11_set (E : eE) {h0 : Nat} {pi1 : Int32} {pi2 : Int32} {s0 s9 : eS} {y : Int32} (h : mX11_set h0 pi1 pi2 s0 = some (y, s9)) : EM E YX11_set [VR (some h0), VI pi1, VI pi2] s0 (some (VI y)) s9 := by
  refine EM_of (M := MX11_set) (own := RX11) (ini := false) rfl (by decide +kernel) rfl (fun z => nomatch z) (Nat.le_of_ble_eq_true rfl) ?_
  unfold mX11_set at h
  refine EV_iload_n dX11_set_0 rfl ?_
  refine EV_if_lt (tgt := 28) dX11_set_1 (by decide) (fun c1 => ?_) (fun c1 => ?_)
  · rw [if_pos c1] at h
    exact EV_pick [] rfl (zX11_set_28 E h)
  · rw [if_neg c1] at h
    refine EV_iload_n dX11_set_4 rfl ?_
    refine EV_bipush (x := (7 : Int32)) dX11_set_5 (by decide) ?_
    refine EV_icmp_ge (tgt := 28) dX11_set_7 (by decide) (fun c2 => ?_) (fun c2 => ?_)
    · rw [if_pos c2] at h
      exact EV_pick [] rfl (zX11_set_28 E h)
    · rw [if_neg c2] at h
      refine EV_iload_n dX11_set_10 rfl ?_
      refine EV_gets (j := 0) (r := st_0) dX11_set_11 rfl tw_385 ?_
      refine EV_iload_n dX11_set_14 rfl ?_
      have hh := b1_some h; clear h; obtain ⟨x3, hx3, h⟩ := hh
      refine EV_tabI (j := 0) (r := st_0) (l := tb_0) dX11_set_15 rfl rfl hx3 ?_
      refine EV_icmp_lt (tgt := 28) dX11_set_16 (by decide) (fun c4 => ?_) (fun c4 => ?_)
      · rw [if_pos c4] at h
        exact EV_pick [] rfl (zX11_set_28 E h)
      · rw [if_neg c4] at h
        refine EV_iload_n dX11_set_19 rfl ?_
        refine EV_gets (j := 1) (r := st_1) dX11_set_20 rfl tw_387 ?_
        refine EV_iload_n dX11_set_23 rfl ?_
        have hh := b1_some h; clear h; obtain ⟨x5, hx5, h⟩ := hh
        refine EV_tabI (j := 1) (r := st_1) (l := tb_1) dX11_set_24 rfl rfl hx5 ?_
        refine EV_icmp_le (tgt := 30) dX11_set_25 (by decide) (fun c6 => ?_) (fun c6 => ?_)
        · rw [if_pos c6] at h
          refine EV_aload_n dX11_set_30 rfl ?_
          have hh := b1_some h; clear h; obtain ⟨x7, hx7, h⟩ := hh
          refine EV_getI (ci := 11) (k := 11) dX11_set_31 fl_X11_75 rfl hx7 ?_
          refine EV_if_eq (tgt := 40) dX11_set_34 (by decide) (fun c8 => ?_) (fun c8 => ?_)
          · rw [if_pos c8] at h
            refine EV_aload_n dX11_set_40 rfl ?_
            have hh := b1_some h; clear h; obtain ⟨r9, hr9, h⟩ := hh
            refine EV_getP (ci := 11) (k := 0) dX11_set_41 fl_X11_7 rfl hr9 ?_
            refine EV_iload_n dX11_set_44 rfl ?_
            have hh := b1_some h; clear h; obtain ⟨a10, ha10, h⟩ := hh
            subst ha10
            have hh := b1_some h; clear h; obtain ⟨x11, hx11, h⟩ := hh
            refine EV_aI (t := 0) (ty := .int) rfl (by decide) dX11_set_45 hx11 ?_
            refine EV_istore_n (lv2 := [(3, VI x11), (0, VR (some h0)), (1, VI pi1), (2, VI pi2)]) dX11_set_46 (by decide) rfl ?_
            refine EV_aload_n dX11_set_47 rfl ?_
            have hh := b1_some h; clear h; obtain ⟨r12, hr12, h⟩ := hh
            refine EV_getP (ci := 11) (k := 0) dX11_set_48 fl_X11_7 rfl hr12 ?_
            refine EV_iload_n dX11_set_51 rfl ?_
            refine EV_iload_n dX11_set_52 rfl ?_
            have hh := b1_some h; clear h; obtain ⟨a13, ha13, h⟩ := hh
            subst ha13
            have hh := b1_some h; clear h; obtain ⟨s14, hs14, h⟩ := hh
            refine EV_sI (t := 0) rfl dX11_set_53 hs14 ?_
            refine EV_iload_n dX11_set_54 rfl ?_
            cases h
            exact EV_ret ⟨dX11_set_55, .int, rfl, rfl⟩ rfl
          · rw [if_neg c8] at h
            refine EV_bipush (x := (-2 : Int32)) dX11_set_37 (by decide) ?_
            cases h
            exact EV_ret ⟨dX11_set_39, .int, rfl, rfl⟩ rfl
        · rw [if_neg c6] at h
          exact EV_pick [] rfl (zX11_set_28 E h)
def mX11_commandWith_43 (s0 : eS) : Option (Option Nat × eS) :=
  (some (none, s0))
set_option maxRecDepth 100000 in
set_option maxHeartbeats 4000000 in
theorem zX11_commandWith_43 (E : eE) {s0 s9 : eS} {y : Option Nat} (h : mX11_commandWith_43 s0 = some (y, s9)) : EV E MX11_commandWith 43 [] [] s0 (some (VR y)) s9 := by
  unfold mX11_commandWith_43 at h
  refine EV_null dX11_commandWith_43 ?_
  cases h
  exact EV_ret ⟨dX11_commandWith_44, _, rfl⟩ rfl
def mX11_commandWith_37 (k2 : Nat → Int32 → Int32 → eS → Option (Option Nat × eS)) (h0 : Nat) (pi1 : Int32) (pi2 : Int32) (s0 : eS) : Option (Option Nat × eS) :=
  (k2 h0 pi1 (pi2 + (1 : Int32)) s0)
set_option maxRecDepth 100000 in
set_option maxHeartbeats 4000000 in
theorem zX11_commandWith_37 (E : eE) {k2 : Nat → Int32 → Int32 → eS → Option (Option Nat × eS)} (hk2 : ∀ {h0 : Nat} {pi1 : Int32} {pi2 : Int32} {s0 s9 : eS} {y : Option Nat}, k2 h0 pi1 pi2 s0 = some (y, s9) → EV E MX11_commandWith 2 [(0, VR (some h0)), (1, VI pi1), (2, VI pi2)] [] s0 (some (VR y)) s9) {h0 : Nat} {pi1 : Int32} {pi2 : Int32} {s0 s9 : eS} {y : Option Nat} (h : mX11_commandWith_37 k2 h0 pi1 pi2 s0 = some (y, s9)) : EV E MX11_commandWith 37 [(0, VR (some h0)), (1, VI pi1), (2, VI pi2)] [] s0 (some (VR y)) s9 := by
  unfold mX11_commandWith_37 at h
  refine EV_iinc (y := (1 : Int32)) (lv2 := [(2, VI (pi2 + (1 : Int32))), (0, VR (some h0)), (1, VI pi1)]) dX11_commandWith_37 rfl (by decide) (by decide) rfl ?_
  refine EV_goto (tgt := 2) dX11_commandWith_40 (by decide) ?_
  exact EV_pick [1, 2, 0] rfl (hk2 h)
def mX11_commandWith_2 : Nat → Nat → Int32 → Int32 → eS → Option (Option Nat × eS)
  | 0, _, _, _, _ => none
  | n + 1, h0, pi1, pi2, s0 =>
  (b1 (g_I s0 111 3 h0) fun x1 => (if x1 ≤ pi2 then (mX11_commandWith_43 s0) else (if (12 : Int32) ≤ pi2 then (mX11_commandWith_43 s0) else (b1 (g_P s0 111 2 h0) fun r4 => (b1 r4 fun a5 => (b1 (a_P s0 5 a5 pi2) fun r6 => (if r6 = none then (mX11_commandWith_37 (mX11_commandWith_2 n) h0 pi1 pi2 s0) else (b1 r6 fun a8 => (b1 (g_I s0 102 1 a8) fun x9 => (if x9 = pi1 then (some ((some a8), s0)) else (mX11_commandWith_37 (mX11_commandWith_2 n) h0 pi1 pi2 s0)))))))))))
set_option maxRecDepth 100000 in
set_option maxHeartbeats 4000000 in
theorem zX11_commandWith_2 (E : eE) : ∀ (n : Nat) {h0 : Nat} {pi1 : Int32} {pi2 : Int32} {s0 s9 : eS} {y : Option Nat}, mX11_commandWith_2 n h0 pi1 pi2 s0 = some (y, s9) → EV E MX11_commandWith 2 [(0, VR (some h0)), (1, VI pi1), (2, VI pi2)] [] s0 (some (VR y)) s9 := by
  intro n
  induction n with
  | zero =>
    intro h0 pi1 pi2 s0 s9 y h
    unfold mX11_commandWith_2 at h
    cases h
  | succ n ih =>
    intro h0 pi1 pi2 s0 s9 y h
    unfold mX11_commandWith_2 at h
    refine EV_iload_n dX11_commandWith_2 rfl ?_
    refine EV_aload_n dX11_commandWith_3 rfl ?_
    have hh := b1_some h; clear h; obtain ⟨x1, hx1, h⟩ := hh
    refine EV_getI (ci := 11) (k := 3) dX11_commandWith_4 fl_X11_111 rfl hx1 ?_
    refine EV_icmp_ge (tgt := 43) dX11_commandWith_7 (by decide) (fun c2 => ?_) (fun c2 => ?_)
    · rw [if_pos c2] at h
      exact EV_pick [] rfl (zX11_commandWith_43 E h)
    · rw [if_neg c2] at h
      refine EV_iload_n dX11_commandWith_10 rfl ?_
      refine EV_bipush (x := (12 : Int32)) dX11_commandWith_11 (by decide) ?_
      refine EV_icmp_ge (tgt := 43) dX11_commandWith_13 (by decide) (fun c3 => ?_) (fun c3 => ?_)
      · rw [if_pos c3] at h
        exact EV_pick [] rfl (zX11_commandWith_43 E h)
      · rw [if_neg c3] at h
        refine EV_aload_n dX11_commandWith_16 rfl ?_
        have hh := b1_some h; clear h; obtain ⟨r4, hr4, h⟩ := hh
        refine EV_getP (ci := 11) (k := 2) dX11_commandWith_17 fl_X11_22 rfl hr4 ?_
        refine EV_iload_n dX11_commandWith_20 rfl ?_
        have hh := b1_some h; clear h; obtain ⟨a5, ha5, h⟩ := hh
        subst ha5
        have hh := b1_some h; clear h; obtain ⟨r6, hr6, h⟩ := hh
        refine EV_aP (t := 5) rfl dX11_commandWith_21 hr6 ?_
        refine EV_astore_n (lv2 := [(3, VR r6), (0, VR (some h0)), (1, VI pi1), (2, VI pi2)]) dX11_commandWith_22 (by decide) rfl ?_
        refine EV_aload_n dX11_commandWith_23 rfl ?_
        refine EV_ifnull (tgt := 37) dX11_commandWith_24 (by decide) (fun c7 => ?_) (fun c7 => ?_)
        · rw [if_pos c7] at h
          exact EV_pick [1, 2, 3] rfl (zX11_commandWith_37 E (@ih) h)
        · rw [if_neg c7] at h
          refine EV_aload_n dX11_commandWith_27 rfl ?_
          have hh := b1_some h; clear h; obtain ⟨a8, ha8, h⟩ := hh
          subst ha8
          have hh := b1_some h; clear h; obtain ⟨x9, hx9, h⟩ := hh
          refine EV_getI (ci := 2) (k := 1) dX11_commandWith_28 fl_X11_272 rfl hx9 ?_
          refine EV_iload_n dX11_commandWith_31 rfl ?_
          refine EV_icmp_ne (tgt := 37) dX11_commandWith_32 (by decide) (fun c10 => ?_) (fun c10 => ?_)
          · rw [if_pos c10] at h
            refine EV_aload_n dX11_commandWith_35 rfl ?_
            cases h
            exact EV_ret ⟨dX11_commandWith_36, _, rfl⟩ rfl
          · rw [if_neg c10] at h
            exact EV_pick [1, 2, 3] rfl (zX11_commandWith_37 E (@ih) h)
def mX11_commandWith (h0 : Nat) (pi1 : Int32) (s0 : eS) : Option (Option Nat × eS) :=
  (mX11_commandWith_2 100000 h0 pi1 (0 : Int32) s0)
set_option maxRecDepth 100000 in
set_option maxHeartbeats 4000000 in
theorem zX11_commandWith (E : eE) {h0 : Nat} {pi1 : Int32} {s0 s9 : eS} {y : Option Nat} (h : mX11_commandWith h0 pi1 s0 = some (y, s9)) : EM E YX11_commandWith [VR (some h0), VI pi1] s0 (some (VR y)) s9 := by
  refine EM_of (M := MX11_commandWith) (own := RX11) (ini := false) rfl (by decide +kernel) rfl (fun z => nomatch z) (Nat.le_of_ble_eq_true rfl) ?_
  unfold mX11_commandWith at h
  refine EV_iconst (x := (0 : Int32)) dX11_commandWith_0 (by decide) ?_
  refine EV_istore_n (lv2 := [(2, VI (0 : Int32)), (0, VR (some h0)), (1, VI pi1)]) dX11_commandWith_1 (by decide) rfl ?_
  exact EV_pick [1, 2, 0] rfl (zX11_commandWith_2 E _ h)
def mX11_isFreeAddress_36 (pt0 : Int32) (s0 : eS) : Option (Int32 × eS) :=
  (b1 (o_Z pt0) fun u1 => some (pt0, s0))
set_option maxRecDepth 100000 in
set_option maxHeartbeats 4000000 in
theorem zX11_isFreeAddress_36 (E : eE) {pt0 : Int32} {s0 s9 : eS} {y : Int32} (h : mX11_isFreeAddress_36 pt0 s0 = some (y, s9)) : EV E MX11_isFreeAddress 36 [] [VI pt0] s0 (some (VI y)) s9 := by
  unfold mX11_isFreeAddress_36 at h
  have hh := b1_some h; clear h; obtain ⟨u1, hu1, h⟩ := hh
  cases h
  exact EV_ret ⟨dX11_isFreeAddress_36, .boolean, rfl, o_Z_n hu1⟩ rfl
def mX11_isFreeAddress_35 (s0 : eS) : Option (Int32 × eS) :=
  (mX11_isFreeAddress_36 (0 : Int32) s0)
set_option maxRecDepth 100000 in
set_option maxHeartbeats 4000000 in
theorem zX11_isFreeAddress_35 (E : eE) {s0 s9 : eS} {y : Int32} (h : mX11_isFreeAddress_35 s0 = some (y, s9)) : EV E MX11_isFreeAddress 35 [] [] s0 (some (VI y)) s9 := by
  unfold mX11_isFreeAddress_35 at h
  refine EV_iconst (x := (0 : Int32)) dX11_isFreeAddress_35 (by decide) ?_
  exact EV_pick [] rfl (zX11_isFreeAddress_36 E h)
def mX11_isFreeAddress (h0 : Nat) (pi1 : Int32) (s0 : eS) : Option (Int32 × eS) :=
  (if pi1 < (1 : Int32) then (mX11_isFreeAddress_35 s0) else (if (16777215 : Int32) < pi1 then (mX11_isFreeAddress_35 s0) else (b1 (g_P s0 111 1 h0) fun r3 => (b1 r3 fun a4 => (b1 (o_K s0 107 a4) fun u12 => (b2 (mX7_withAddress a4 pi1 s0) fun r6 s5 => (if r6 = none then (b1 (o_K s5 111 h0) fun u11 => (b2 (mX11_commandWith h0 pi1 s5) fun r9 s8 => (if r9 = none then (mX11_isFreeAddress_36 (1 : Int32) s8) else (mX11_isFreeAddress_35 s8)))) else (mX11_isFreeAddress_35 s5))))))))
set_option maxRecDepth 100000 in
set_option maxHeartbeats 4000000 in
theorem zX11_isFreeAddress (E : eE) {h0 : Nat} {pi1 : Int32} {s0 s9 : eS} {y : Int32} (h : mX11_isFreeAddress h0 pi1 s0 = some (y, s9)) : EM E YX11_isFreeAddress [VR (some h0), VI pi1] s0 (some (VI y)) s9 := by
  refine EM_of (M := MX11_isFreeAddress) (own := RX11) (ini := false) rfl (by decide +kernel) rfl (fun z => nomatch z) (Nat.le_of_ble_eq_true rfl) ?_
  unfold mX11_isFreeAddress at h
  refine EV_iload_n dX11_isFreeAddress_0 rfl ?_
  refine EV_iconst (x := (1 : Int32)) dX11_isFreeAddress_1 (by decide) ?_
  refine EV_icmp_lt (tgt := 35) dX11_isFreeAddress_2 (by decide) (fun c1 => ?_) (fun c1 => ?_)
  · rw [if_pos c1] at h
    exact EV_pick [] rfl (zX11_isFreeAddress_35 E h)
  · rw [if_neg c1] at h
    refine EV_iload_n dX11_isFreeAddress_5 rfl ?_
    refine EV_ldcw (x := (16777215 : Int32)) dX11_isFreeAddress_6 tw_397 ?_
    refine EV_icmp_gt (tgt := 35) dX11_isFreeAddress_9 (by decide) (fun c2 => ?_) (fun c2 => ?_)
    · rw [if_pos c2] at h
      exact EV_pick [] rfl (zX11_isFreeAddress_35 E h)
    · rw [if_neg c2] at h
      refine EV_aload_n dX11_isFreeAddress_12 rfl ?_
      have hh := b1_some h; clear h; obtain ⟨r3, hr3, h⟩ := hh
      refine EV_getP (ci := 11) (k := 1) dX11_isFreeAddress_13 fl_X11_16 rfl hr3 ?_
      refine EV_iload_n dX11_isFreeAddress_16 rfl ?_
      have hh := b1_some h; clear h; obtain ⟨a4, ha4, h⟩ := hh
      subst ha4
      have hh := b1_some h; clear h; obtain ⟨u12, hu12, h⟩ := hh
      have hh := b2_some h; clear h; obtain ⟨r6, s5, hs5, h⟩ := hh
      refine EV_callV (Y := YX7_withAddress) (as := [VI pi1]) (st := []) (st2 := [VR r6]) (a := a4) (ci := 7) (r := rX7) (n := 1) dX11_isFreeAddress_17 (zX7_withAddress E hs5) rfl cwX7_withAddress rfl tw_398 tw_399 tw_400 rfl (e_if hu12).1.1 (e_if hu12).1.2 ⟨by decide, by decide⟩ (Nat.le_of_ble_eq_true rfl) rfl ?_
      refine EV_ifnonnull (tgt := 35) dX11_isFreeAddress_20 (by decide) (fun c7 => ?_) (fun c7 => ?_)
      · rw [if_pos c7] at h
        refine EV_aload_n dX11_isFreeAddress_23 rfl ?_
        refine EV_iload_n dX11_isFreeAddress_24 rfl ?_
        have hh := b1_some h; clear h; obtain ⟨u11, hu11, h⟩ := hh
        have hh := b2_some h; clear h; obtain ⟨r9, s8, hs8, h⟩ := hh
        refine EV_callV (Y := YX11_commandWith) (as := [VI pi1]) (st := []) (st2 := [VR r9]) (a := h0) (ci := 11) (r := rX11) (n := 1) dX11_isFreeAddress_25 (zX11_commandWith E hs8) rfl cwX11_commandWith rfl tw_402 tw_404 tw_1 rfl (e_if hu11).1.1 (e_if hu11).1.2 ⟨by decide, by decide⟩ (Nat.le_of_ble_eq_true rfl) rfl ?_
        refine EV_ifnonnull (tgt := 35) dX11_isFreeAddress_28 (by decide) (fun c10 => ?_) (fun c10 => ?_)
        · rw [if_pos c10] at h
          refine EV_iconst (x := (1 : Int32)) dX11_isFreeAddress_31 (by decide) ?_
          refine EV_goto (tgt := 36) dX11_isFreeAddress_32 (by decide) ?_
          exact EV_pick [] rfl (zX11_isFreeAddress_36 E h)
        · rw [if_neg c10] at h
          exact EV_pick [] rfl (zX11_isFreeAddress_35 E h)
      · rw [if_neg c7] at h
        exact EV_pick [] rfl (zX11_isFreeAddress_35 E h)
def mX11_point_28 (s0 : eS) : Option (Int32 × eS) :=
  (some ((-1 : Int32), s0))
set_option maxRecDepth 100000 in
set_option maxHeartbeats 4000000 in
theorem zX11_point_28 (E : eE) {s0 s9 : eS} {y : Int32} (h : mX11_point_28 s0 = some (y, s9)) : EV E MX11_point 28 [] [] s0 (some (VI y)) s9 := by
  unfold mX11_point_28 at h
  refine EV_iconst (x := (-1 : Int32)) dX11_point_28 (by decide) ?_
  cases h
  exact EV_ret ⟨dX11_point_29, .int, rfl, rfl⟩ rfl
def mX11_point (h0 : Nat) (pi1 : Int32) (pi2 : Int32) (pi3 : Int32) (pi4 : Int32) (s0 : eS) : Option (Int32 × eS) :=
  (if pi1 < 0 then (mX11_point_28 s0) else (if (7 : Int32) ≤ pi1 then (mX11_point_28 s0) else (if pi3 < 0 then (mX11_point_28 s0) else (if (16 : Int32) < pi3 then (mX11_point_28 s0) else (b1 (o_K s0 111 h0) fun u24 => (b2 (mX11_isFreeAddress h0 pi2 s0) fun x6 s5 => (if x6 = 0 then (mX11_point_28 s5) else (b1 (g_P s5 111 1 h0) fun r8 => (b1 r8 fun a9 => (b1 (g_I s5 107 2 a9) fun x10 => (if x10 < (24 : Int32) then (b1 (g_P s5 111 1 h0) fun r12 => (b2 (n_O s5 106 7) fun q13 s14 => (b1 (mX6_init q13 pi1 pi2 pi3 pi4 s14) fun s15 => (b1 r12 fun a17 => (b1 (o_K s15 107 a17) fun u23 => (b1 (mX7_add a17 (some q13) s15) fun s18 => (b1 (g_P s18 111 1 h0) fun r20 => (b1 r20 fun a21 => (b1 (g_I s18 107 2 a21) fun x22 => (some ((x22 - (1 : Int32)), s18))))))))))) else (some ((-3 : Int32), s5)))))))))))))
set_option maxRecDepth 100000 in
set_option maxHeartbeats 4000000 in
theorem zX11_point (E : eE) {h0 : Nat} {pi1 : Int32} {pi2 : Int32} {pi3 : Int32} {pi4 : Int32} {s0 s9 : eS} {y : Int32} (h : mX11_point h0 pi1 pi2 pi3 pi4 s0 = some (y, s9)) : EM E YX11_point [VR (some h0), VI pi1, VI pi2, VI pi3, VI pi4] s0 (some (VI y)) s9 := by
  refine EM_of (M := MX11_point) (own := RX11) (ini := false) rfl (by decide +kernel) rfl (fun z => nomatch z) (Nat.le_of_ble_eq_true rfl) ?_
  unfold mX11_point at h
  refine EV_iload_n dX11_point_0 rfl ?_
  refine EV_if_lt (tgt := 28) dX11_point_1 (by decide) (fun c1 => ?_) (fun c1 => ?_)
  · rw [if_pos c1] at h
    exact EV_pick [] rfl (zX11_point_28 E h)
  · rw [if_neg c1] at h
    refine EV_iload_n dX11_point_4 rfl ?_
    refine EV_bipush (x := (7 : Int32)) dX11_point_5 (by decide) ?_
    refine EV_icmp_ge (tgt := 28) dX11_point_7 (by decide) (fun c2 => ?_) (fun c2 => ?_)
    · rw [if_pos c2] at h
      exact EV_pick [] rfl (zX11_point_28 E h)
    · rw [if_neg c2] at h
      refine EV_iload_n dX11_point_10 rfl ?_
      refine EV_if_lt (tgt := 28) dX11_point_11 (by decide) (fun c3 => ?_) (fun c3 => ?_)
      · rw [if_pos c3] at h
        exact EV_pick [] rfl (zX11_point_28 E h)
      · rw [if_neg c3] at h
        refine EV_iload_n dX11_point_14 rfl ?_
        refine EV_bipush (x := (16 : Int32)) dX11_point_15 (by decide) ?_
        refine EV_icmp_gt (tgt := 28) dX11_point_17 (by decide) (fun c4 => ?_) (fun c4 => ?_)
        · rw [if_pos c4] at h
          exact EV_pick [] rfl (zX11_point_28 E h)
        · rw [if_neg c4] at h
          refine EV_aload_n dX11_point_20 rfl ?_
          refine EV_iload_n dX11_point_21 rfl ?_
          have hh := b1_some h; clear h; obtain ⟨u24, hu24, h⟩ := hh
          have hh := b2_some h; clear h; obtain ⟨x6, s5, hs5, h⟩ := hh
          refine EV_callV (Y := YX11_isFreeAddress) (as := [VI pi2]) (st := []) (st2 := [VI x6]) (a := h0) (ci := 11) (r := rX11) (n := 1) dX11_point_22 (zX11_isFreeAddress E hs5) rfl cwX11_isFreeAddress rfl tw_393 tw_395 tw_0 rfl (e_if hu24).1.1 (e_if hu24).1.2 ⟨by decide, by decide⟩ (Nat.le_of_ble_eq_true rfl) rfl ?_
          refine EV_if_ne (tgt := 30) dX11_point_25 (by decide) (fun c7 => ?_) (fun c7 => ?_)
          · rw [if_pos c7] at h
            exact EV_pick [] rfl (zX11_point_28 E h)
          · rw [if_neg c7] at h
            refine EV_aload_n dX11_point_30 rfl ?_
            have hh := b1_some h; clear h; obtain ⟨r8, hr8, h⟩ := hh
            refine EV_getP (ci := 11) (k := 1) dX11_point_31 fl_X11_16 rfl hr8 ?_
            have hh := b1_some h; clear h; obtain ⟨a9, ha9, h⟩ := hh
            subst ha9
            have hh := b1_some h; clear h; obtain ⟨x10, hx10, h⟩ := hh
            refine EV_getI (ci := 7) (k := 2) dX11_point_34 fl_X11_89 rfl hx10 ?_
            refine EV_bipush (x := (24 : Int32)) dX11_point_37 (by decide) ?_
            refine EV_icmp_lt (tgt := 45) dX11_point_39 (by decide) (fun c11 => ?_) (fun c11 => ?_)
            · rw [if_pos c11] at h
              refine EV_aload_n dX11_point_45 rfl ?_
              have hh := b1_some h; clear h; obtain ⟨r12, hr12, h⟩ := hh
              refine EV_getP (ci := 11) (k := 1) dX11_point_46 fl_X11_16 rfl hr12 ?_
              have hh := b2_some h; clear h; obtain ⟨q13, s14, hs14, h⟩ := hh
              refine EV_nO (ci := 6) (r := rX6) dX11_point_49 eX_6 rfl tw_406 tw_407 tw_83 eXf_6 hs14 ?_
              refine EV_dup dX11_point_52 rfl ?_
              refine EV_iload_n dX11_point_53 rfl ?_
              refine EV_iload_n dX11_point_54 rfl ?_
              refine EV_iload_n dX11_point_55 rfl ?_
              refine EV_iload dX11_point_56 rfl ?_
              have hh := b1_some h; clear h; obtain ⟨s15, hs15, h⟩ := hh
              refine EV_callI (Y := YX6_init) (as := [VI pi1, VI pi2, VI pi3, VI pi4]) (st := [VR (some q13), VR r12]) (a := q13) (n := 4) dX11_point_58 (zX6_init E hs15) rfl rfl cwX6_init rfl tw_408 tw_409 rfl ⟨by decide, by decide⟩ (Nat.le_of_ble_eq_true rfl) ?_
              have hh := b1_some h; clear h; obtain ⟨a17, ha17, h⟩ := hh
              subst ha17
              have hh := b1_some h; clear h; obtain ⟨u23, hu23, h⟩ := hh
              have hh := b1_some h; clear h; obtain ⟨s18, hs18, h⟩ := hh
              refine EV_callV (Y := YX7_add) (as := [VR (some q13)]) (st := []) (st2 := []) (a := a17) (ci := 7) (r := rX7) (n := 1) dX11_point_61 (zX7_add E hs18) rfl cwX7_add rfl tw_445 tw_446 tw_447 rfl (e_if hu23).1.1 (e_if hu23).1.2 ⟨by decide, by decide⟩ (Nat.le_of_ble_eq_true rfl) rfl ?_
              refine EV_aload_n dX11_point_64 rfl ?_
              have hh := b1_some h; clear h; obtain ⟨r20, hr20, h⟩ := hh
              refine EV_getP (ci := 11) (k := 1) dX11_point_65 fl_X11_16 rfl hr20 ?_
              have hh := b1_some h; clear h; obtain ⟨a21, ha21, h⟩ := hh
              subst ha21
              have hh := b1_some h; clear h; obtain ⟨x22, hx22, h⟩ := hh
              refine EV_getI (ci := 7) (k := 2) dX11_point_68 fl_X11_89 rfl hx22 ?_
              refine EV_iconst (x := (1 : Int32)) dX11_point_71 (by decide) ?_
              refine EV_isub dX11_point_72 ?_
              cases h
              exact EV_ret ⟨dX11_point_73, .int, rfl, rfl⟩ rfl
            · rw [if_neg c11] at h
              refine EV_bipush (x := (-3 : Int32)) dX11_point_42 (by decide) ?_
              cases h
              exact EV_ret ⟨dX11_point_44, .int, rfl, rfl⟩ rfl
def mX11_command_17 (s0 : eS) : Option (Int32 × eS) :=
  (some ((-1 : Int32), s0))
set_option maxRecDepth 100000 in
set_option maxHeartbeats 4000000 in
theorem zX11_command_17 (E : eE) {s0 s9 : eS} {y : Int32} (h : mX11_command_17 s0 = some (y, s9)) : EV E MX11_command 17 [] [] s0 (some (VI y)) s9 := by
  unfold mX11_command_17 at h
  refine EV_iconst (x := (-1 : Int32)) dX11_command_17 (by decide) ?_
  cases h
  exact EV_ret ⟨dX11_command_18, .int, rfl, rfl⟩ rfl
def mX11_command_54 (h0 : Nat) (pi1 : Int32) (pi2 : Int32) (pi4 : Int32) (pr5 : Option Nat) (s0 : eS) : Option (Int32 × eS) :=
  (b1 (g_I s0 111 3 h0) fun x1 => (if x1 < (12 : Int32) then (b1 (g_P s0 111 2 h0) fun r3 => (b1 (g_I s0 111 3 h0) fun x4 => (b2 (n_O s0 102 5) fun q5 s6 => (b1 (mX2_init q5 pi1 pi2 pr5 pi4 s6) fun s7 => (b1 r3 fun a9 => (b1 (s_P s7 5 102 a9 x4 q5) fun s10 => (b1 (g_I s10 111 3 h0) fun x11 => (b1 (p_I s10 111 3 h0 (x11 + (1 : Int32))) fun s12 => (b1 (g_I s12 111 3 h0) fun x13 => (some ((x13 - (1 : Int32)), s12))))))))))) else (some ((-3 : Int32), s0))))
set_option maxRecDepth 100000 in
set_option maxHeartbeats 4000000 in
theorem zX11_command_54 (E : eE) {h0 : Nat} {pi1 : Int32} {pi2 : Int32} {pi4 : Int32} {pr5 : Option Nat} {s0 s9 : eS} {y : Int32} (h : mX11_command_54 h0 pi1 pi2 pi4 pr5 s0 = some (y, s9)) : EV E MX11_command 54 [(0, VR (some h0)), (1, VI pi1), (2, VI pi2), (4, VI pi4), (5, VR pr5)] [] s0 (some (VI y)) s9 := by
  unfold mX11_command_54 at h
  refine EV_aload_n dX11_command_54 rfl ?_
  have hh := b1_some h; clear h; obtain ⟨x1, hx1, h⟩ := hh
  refine EV_getI (ci := 11) (k := 3) dX11_command_55 fl_X11_111 rfl hx1 ?_
  refine EV_bipush (x := (12 : Int32)) dX11_command_58 (by decide) ?_
  refine EV_icmp_lt (tgt := 66) dX11_command_60 (by decide) (fun c2 => ?_) (fun c2 => ?_)
  · rw [if_pos c2] at h
    refine EV_aload_n dX11_command_66 rfl ?_
    have hh := b1_some h; clear h; obtain ⟨r3, hr3, h⟩ := hh
    refine EV_getP (ci := 11) (k := 2) dX11_command_67 fl_X11_22 rfl hr3 ?_
    refine EV_aload_n dX11_command_70 rfl ?_
    have hh := b1_some h; clear h; obtain ⟨x4, hx4, h⟩ := hh
    refine EV_getI (ci := 11) (k := 3) dX11_command_71 fl_X11_111 rfl hx4 ?_
    have hh := b2_some h; clear h; obtain ⟨q5, s6, hs6, h⟩ := hh
    refine EV_nO (ci := 2) (r := rX2) dX11_command_74 eX_2 rfl tw_115 tw_459 tw_84 eXf_2 hs6 ?_
    refine EV_dup dX11_command_77 rfl ?_
    refine EV_iload_n dX11_command_78 rfl ?_
    refine EV_iload_n dX11_command_79 rfl ?_
    refine EV_aload dX11_command_80 rfl ?_
    refine EV_iload dX11_command_82 rfl ?_
    have hh := b1_some h; clear h; obtain ⟨s7, hs7, h⟩ := hh
    refine EV_callI (Y := YX2_init) (as := [VI pi1, VI pi2, VR pr5, VI pi4]) (st := [VR (some q5), VI x4, VR r3]) (a := q5) (n := 4) dX11_command_84 (zX2_init E hs7) rfl rfl cwX2_init rfl tw_460 tw_461 rfl ⟨by decide, by decide⟩ (Nat.le_of_ble_eq_true rfl) ?_
    have hh := b1_some h; clear h; obtain ⟨a9, ha9, h⟩ := hh
    subst ha9
    have hh := b1_some h; clear h; obtain ⟨s10, hs10, h⟩ := hh
    refine EV_sP (t := 5) (ci := 2) (r := rX2) rfl rfl dX11_command_87 hs10 ?_
    refine EV_aload_n dX11_command_88 rfl ?_
    refine EV_dup dX11_command_89 rfl ?_
    have hh := b1_some h; clear h; obtain ⟨x11, hx11, h⟩ := hh
    refine EV_getI (ci := 11) (k := 3) dX11_command_90 fl_X11_111 rfl hx11 ?_
    refine EV_iconst (x := (1 : Int32)) dX11_command_93 (by decide) ?_
    refine EV_iadd dX11_command_94 ?_
    have hh := b1_some h; clear h; obtain ⟨s12, hs12, h⟩ := hh
    refine EV_putI (ci := 11) (k := 3) dX11_command_95 fp_X11_111 rfl hs12 ?_
    refine EV_aload_n dX11_command_98 rfl ?_
    have hh := b1_some h; clear h; obtain ⟨x13, hx13, h⟩ := hh
    refine EV_getI (ci := 11) (k := 3) dX11_command_99 fl_X11_111 rfl hx13 ?_
    refine EV_iconst (x := (1 : Int32)) dX11_command_102 (by decide) ?_
    refine EV_isub dX11_command_103 ?_
    cases h
    exact EV_ret ⟨dX11_command_104, .int, rfl, rfl⟩ rfl
  · rw [if_neg c2] at h
    refine EV_bipush (x := (-3 : Int32)) dX11_command_63 (by decide) ?_
    cases h
    exact EV_ret ⟨dX11_command_65, .int, rfl, rfl⟩ rfl
def mX11_command_52 (s0 : eS) : Option (Int32 × eS) :=
  (some ((-1 : Int32), s0))
set_option maxRecDepth 100000 in
set_option maxHeartbeats 4000000 in
theorem zX11_command_52 (E : eE) {s0 s9 : eS} {y : Int32} (h : mX11_command_52 s0 = some (y, s9)) : EV E MX11_command 52 [] [] s0 (some (VI y)) s9 := by
  unfold mX11_command_52 at h
  refine EV_iconst (x := (-1 : Int32)) dX11_command_52 (by decide) ?_
  cases h
  exact EV_ret ⟨dX11_command_53, .int, rfl, rfl⟩ rfl
def mX11_command (h0 : Nat) (pi1 : Int32) (pi2 : Int32) (pi3 : Int32) (pi4 : Int32) (s0 : eS) : Option (Int32 × eS) :=
  (if pi1 < 0 then (mX11_command_17 s0) else (if (3 : Int32) ≤ pi1 then (mX11_command_17 s0) else (b1 (o_K s0 111 h0) fun u17 => (b2 (mX11_isFreeAddress h0 pi2 s0) fun x4 s3 => (if x4 = 0 then (mX11_command_17 s3) else (b1 (g_P s3 111 1 h0) fun r6 => (b1 r6 fun a7 => (b1 (o_K s3 107 a7) fun u16 => (b2 (mX7_at a7 pi3 s3) fun r9 s8 => (if pi3 = (-1 : Int32) then (mX11_command_54 h0 pi1 pi2 pi4 r9 s8) else (if r9 = none then (mX11_command_52 s8) else (b1 r9 fun a12 => (b1 (g_I s8 106 0 a12) fun x13 => (b1 (t_I tb_2 pi1) fun x14 => (if x13 = x14 then (mX11_command_54 h0 pi1 pi2 pi4 (some a12) s8) else (mX11_command_52 s8))))))))))))))))
set_option maxRecDepth 100000 in
set_option maxHeartbeats 4000000 in
theorem zX11_command (E : eE) {h0 : Nat} {pi1 : Int32} {pi2 : Int32} {pi3 : Int32} {pi4 : Int32} {s0 s9 : eS} {y : Int32} (h : mX11_command h0 pi1 pi2 pi3 pi4 s0 = some (y, s9)) : EM E YX11_command [VR (some h0), VI pi1, VI pi2, VI pi3, VI pi4] s0 (some (VI y)) s9 := by
  refine EM_of (M := MX11_command) (own := RX11) (ini := false) rfl (by decide +kernel) rfl (fun z => nomatch z) (Nat.le_of_ble_eq_true rfl) ?_
  unfold mX11_command at h
  refine EV_iload_n dX11_command_0 rfl ?_
  refine EV_if_lt (tgt := 17) dX11_command_1 (by decide) (fun c1 => ?_) (fun c1 => ?_)
  · rw [if_pos c1] at h
    exact EV_pick [] rfl (zX11_command_17 E h)
  · rw [if_neg c1] at h
    refine EV_iload_n dX11_command_4 rfl ?_
    refine EV_iconst (x := (3 : Int32)) dX11_command_5 (by decide) ?_
    refine EV_icmp_ge (tgt := 17) dX11_command_6 (by decide) (fun c2 => ?_) (fun c2 => ?_)
    · rw [if_pos c2] at h
      exact EV_pick [] rfl (zX11_command_17 E h)
    · rw [if_neg c2] at h
      refine EV_aload_n dX11_command_9 rfl ?_
      refine EV_iload_n dX11_command_10 rfl ?_
      have hh := b1_some h; clear h; obtain ⟨u17, hu17, h⟩ := hh
      have hh := b2_some h; clear h; obtain ⟨x4, s3, hs3, h⟩ := hh
      refine EV_callV (Y := YX11_isFreeAddress) (as := [VI pi2]) (st := []) (st2 := [VI x4]) (a := h0) (ci := 11) (r := rX11) (n := 1) dX11_command_11 (zX11_isFreeAddress E hs3) rfl cwX11_isFreeAddress rfl tw_393 tw_395 tw_0 rfl (e_if hu17).1.1 (e_if hu17).1.2 ⟨by decide, by decide⟩ (Nat.le_of_ble_eq_true rfl) rfl ?_
      refine EV_if_ne (tgt := 19) dX11_command_14 (by decide) (fun c5 => ?_) (fun c5 => ?_)
      · rw [if_pos c5] at h
        exact EV_pick [] rfl (zX11_command_17 E h)
      · rw [if_neg c5] at h
        refine EV_aload_n dX11_command_19 rfl ?_
        have hh := b1_some h; clear h; obtain ⟨r6, hr6, h⟩ := hh
        refine EV_getP (ci := 11) (k := 1) dX11_command_20 fl_X11_16 rfl hr6 ?_
        refine EV_iload_n dX11_command_23 rfl ?_
        have hh := b1_some h; clear h; obtain ⟨a7, ha7, h⟩ := hh
        subst ha7
        have hh := b1_some h; clear h; obtain ⟨u16, hu16, h⟩ := hh
        have hh := b2_some h; clear h; obtain ⟨r9, s8, hs8, h⟩ := hh
        refine EV_callV (Y := YX7_at) (as := [VI pi3]) (st := []) (st2 := [VR r9]) (a := a7) (ci := 7) (r := rX7) (n := 1) dX11_command_24 (zX7_at E hs8) rfl cwX7_at rfl tw_453 tw_454 tw_455 rfl (e_if hu16).1.1 (e_if hu16).1.2 ⟨by decide, by decide⟩ (Nat.le_of_ble_eq_true rfl) rfl ?_
        refine EV_astore (lv2 := [(5, VR r9), (0, VR (some h0)), (1, VI pi1), (2, VI pi2), (3, VI pi3), (4, VI pi4)]) dX11_command_27 (by decide) rfl ?_
        refine EV_iload_n dX11_command_29 rfl ?_
        refine EV_iconst (x := (-1 : Int32)) dX11_command_30 (by decide) ?_
        refine EV_icmp_eq (tgt := 54) dX11_command_31 (by decide) (fun c10 => ?_) (fun c10 => ?_)
        · rw [if_pos c10] at h
          exact EV_pick [1, 2, 3, 5, 0] rfl (zX11_command_54 E h)
        · rw [if_neg c10] at h
          refine EV_aload dX11_command_34 rfl ?_
          refine EV_ifnull (tgt := 52) dX11_command_36 (by decide) (fun c11 => ?_) (fun c11 => ?_)
          · rw [if_pos c11] at h
            exact EV_pick [] rfl (zX11_command_52 E h)
          · rw [if_neg c11] at h
            refine EV_aload dX11_command_39 rfl ?_
            have hh := b1_some h; clear h; obtain ⟨a12, ha12, h⟩ := hh
            subst ha12
            have hh := b1_some h; clear h; obtain ⟨x13, hx13, h⟩ := hh
            refine EV_getI (ci := 6) (k := 0) dX11_command_41 fl_X11_105 rfl hx13 ?_
            refine EV_gets (j := 2) (r := st_2) dX11_command_44 rfl tw_457 ?_
            refine EV_iload_n dX11_command_47 rfl ?_
            have hh := b1_some h; clear h; obtain ⟨x14, hx14, h⟩ := hh
            refine EV_tabI (j := 2) (r := st_2) (l := tb_2) dX11_command_48 rfl rfl hx14 ?_
            refine EV_icmp_eq (tgt := 54) dX11_command_49 (by decide) (fun c15 => ?_) (fun c15 => ?_)
            · rw [if_pos c15] at h
              exact EV_pick [1, 2, 3, 5, 0] rfl (zX11_command_54 E h)
            · rw [if_neg c15] at h
              exact EV_pick [] rfl (zX11_command_52 E h)
def mX11_shut (h0 : Nat) (pi1 : Int32) (s0 : eS) : Option eS :=
  (b1 (p_I s0 111 11 h0 (0 : Int32)) fun s1 => (b1 (p_I s1 111 12 h0 pi1) fun s2 => (b1 (g_P s2 111 7 h0) fun r3 => (b1 r3 fun a4 => (b1 (o_K s2 100 a4) fun u28 => (b1 (mX0_clear a4 s2) fun s5 => (b1 (g_P s5 111 4 h0) fun r7 => (b1 r7 fun a8 => (b1 (o_K s5 109 a8) fun u27 => (b1 (mX9_end a8 s5) fun s9 => (b1 (g_P s9 111 6 h0) fun r11 => (b1 r11 fun a12 => (b1 (o_K s9 103 a12) fun u26 => (b1 (mX3_waitAgain a12 s9) fun s13 => (b1 (g_P s13 111 9 h0) fun r15 => (b1 r15 fun a16 => (b1 (o_K s13 110 a16) fun u25 => (b1 (mX10_forget a16 s13) fun s17 => (b1 (g_P s17 111 8 h0) fun r19 => (b1 r19 fun a20 => (b1 (o_K s17 108 a20) fun u24 => (b1 (mX8_forget a20 s17) fun s21 => (b1 (p_Z s21 111 16 h0 (0 : Int32)) fun s23 => (some s23))))))))))))))))))))))))
set_option maxRecDepth 100000 in
set_option maxHeartbeats 4000000 in
theorem zX11_shut (E : eE) {h0 : Nat} {pi1 : Int32} {s0 s9 : eS} (h : mX11_shut h0 pi1 s0 = some s9) : EM E YX11_shut [VR (some h0), VI pi1] s0 none s9 := by
  refine EM_of (M := MX11_shut) (own := RX11) (ini := false) rfl (by decide +kernel) rfl (fun z => nomatch z) (Nat.le_of_ble_eq_true rfl) ?_
  unfold mX11_shut at h
  refine EV_aload_n dX11_shut_0 rfl ?_
  refine EV_iconst (x := (0 : Int32)) dX11_shut_1 (by decide) ?_
  have hh := b1_some h; clear h; obtain ⟨s1, hs1, h⟩ := hh
  refine EV_putI (ci := 11) (k := 11) dX11_shut_2 fp_X11_75 rfl hs1 ?_
  refine EV_aload_n dX11_shut_5 rfl ?_
  refine EV_iload_n dX11_shut_6 rfl ?_
  have hh := b1_some h; clear h; obtain ⟨s2, hs2, h⟩ := hh
  refine EV_putI (ci := 11) (k := 12) dX11_shut_7 fp_X11_242 rfl hs2 ?_
  refine EV_aload_n dX11_shut_10 rfl ?_
  have hh := b1_some h; clear h; obtain ⟨r3, hr3, h⟩ := hh
  refine EV_getP (ci := 11) (k := 7) dX11_shut_11 fl_X11_50 rfl hr3 ?_
  have hh := b1_some h; clear h; obtain ⟨a4, ha4, h⟩ := hh
  subst ha4
  have hh := b1_some h; clear h; obtain ⟨u28, hu28, h⟩ := hh
  have hh := b1_some h; clear h; obtain ⟨s5, hs5, h⟩ := hh
  refine EV_callV (Y := YX0_clear) (as := []) (st := []) (st2 := []) (a := a4) (ci := 0) (r := rX0) (n := 0) dX11_shut_14 (zX0_clear E hs5) rfl cwX0_clear rfl tw_544 tw_545 tw_546 rfl (e_if hu28).1.1 (e_if hu28).1.2 ⟨by decide, by decide⟩ (Nat.le_of_ble_eq_true rfl) rfl ?_
  refine EV_aload_n dX11_shut_17 rfl ?_
  have hh := b1_some h; clear h; obtain ⟨r7, hr7, h⟩ := hh
  refine EV_getP (ci := 11) (k := 4) dX11_shut_18 fl_X11_29 rfl hr7 ?_
  have hh := b1_some h; clear h; obtain ⟨a8, ha8, h⟩ := hh
  subst ha8
  have hh := b1_some h; clear h; obtain ⟨u27, hu27, h⟩ := hh
  have hh := b1_some h; clear h; obtain ⟨s9, hs9, h⟩ := hh
  refine EV_callV (Y := YX9_end) (as := []) (st := []) (st2 := []) (a := a8) (ci := 9) (r := rX9) (n := 0) dX11_shut_21 (zX9_end E hs9) rfl cwX9_end rfl tw_548 tw_549 tw_550 rfl (e_if hu27).1.1 (e_if hu27).1.2 ⟨by decide, by decide⟩ (Nat.le_of_ble_eq_true rfl) rfl ?_
  refine EV_aload_n dX11_shut_24 rfl ?_
  have hh := b1_some h; clear h; obtain ⟨r11, hr11, h⟩ := hh
  refine EV_getP (ci := 11) (k := 6) dX11_shut_25 fl_X11_43 rfl hr11 ?_
  have hh := b1_some h; clear h; obtain ⟨a12, ha12, h⟩ := hh
  subst ha12
  have hh := b1_some h; clear h; obtain ⟨u26, hu26, h⟩ := hh
  have hh := b1_some h; clear h; obtain ⟨s13, hs13, h⟩ := hh
  refine EV_callV (Y := YX3_waitAgain) (as := []) (st := []) (st2 := []) (a := a12) (ci := 3) (r := rX3) (n := 0) dX11_shut_28 (zX3_waitAgain E hs13) rfl cwX3_waitAgain rfl tw_552 tw_553 tw_554 rfl (e_if hu26).1.1 (e_if hu26).1.2 ⟨by decide, by decide⟩ (Nat.le_of_ble_eq_true rfl) rfl ?_
  refine EV_aload_n dX11_shut_31 rfl ?_
  have hh := b1_some h; clear h; obtain ⟨r15, hr15, h⟩ := hh
  refine EV_getP (ci := 11) (k := 9) dX11_shut_32 fl_X11_64 rfl hr15 ?_
  have hh := b1_some h; clear h; obtain ⟨a16, ha16, h⟩ := hh
  subst ha16
  have hh := b1_some h; clear h; obtain ⟨u25, hu25, h⟩ := hh
  have hh := b1_some h; clear h; obtain ⟨s17, hs17, h⟩ := hh
  refine EV_callV (Y := YX10_forget) (as := []) (st := []) (st2 := []) (a := a16) (ci := 10) (r := rX10) (n := 0) dX11_shut_35 (zX10_forget E hs17) rfl cwX10_forget rfl tw_556 tw_557 tw_558 rfl (e_if hu25).1.1 (e_if hu25).1.2 ⟨by decide, by decide⟩ (Nat.le_of_ble_eq_true rfl) rfl ?_
  refine EV_aload_n dX11_shut_38 rfl ?_
  have hh := b1_some h; clear h; obtain ⟨r19, hr19, h⟩ := hh
  refine EV_getP (ci := 11) (k := 8) dX11_shut_39 fl_X11_57 rfl hr19 ?_
  have hh := b1_some h; clear h; obtain ⟨a20, ha20, h⟩ := hh
  subst ha20
  have hh := b1_some h; clear h; obtain ⟨u24, hu24, h⟩ := hh
  have hh := b1_some h; clear h; obtain ⟨s21, hs21, h⟩ := hh
  refine EV_callV (Y := YX8_forget) (as := []) (st := []) (st2 := []) (a := a20) (ci := 8) (r := rX8) (n := 0) dX11_shut_42 (zX8_forget E hs21) rfl cwX8_forget rfl tw_560 tw_561 tw_562 rfl (e_if hu24).1.1 (e_if hu24).1.2 ⟨by decide, by decide⟩ (Nat.le_of_ble_eq_true rfl) rfl ?_
  refine EV_aload_n dX11_shut_45 rfl ?_
  refine EV_iconst (x := (0 : Int32)) dX11_shut_46 (by decide) ?_
  have hh := b1_some h; clear h; obtain ⟨s23, hs23, h⟩ := hh
  refine EV_putZ (ci := 11) (k := 16) dX11_shut_47 fp_X11_258 rfl hs23 ?_
  cases h
  exact EV_ret ⟨dX11_shut_50, rfl⟩ rfl
def mX11_sendFrame_90 : Nat → Nat → Option Nat → Int32 → Int32 → eS → Option (Int32 × eS)
  | 0, _, _, _, _, _ => none
  | n + 1, h0, pr2, pi3, pi4, s0 =>
  (if pi3 ≤ pi4 then (b1 (o_Z (1 : Int32)) fun u2 => some ((1 : Int32), s0)) else (b1 (g_P s0 111 10 h0) fun r2 => (b1 pr2 fun a3 => (b1 (o_K s0 104 a3) fun u10 => (b2 (mX4_at a3 pi4 s0) fun x5 s4 => (b1 r2 fun a6 => (b1 (o_K s4 105 a6) fun u9 => (b1 (mX5_add a6 x5 s4) fun s7 => (mX11_sendFrame_90 n h0 (some a3) pi3 (pi4 + (1 : Int32)) s7)))))))))
set_option maxRecDepth 100000 in
set_option maxHeartbeats 4000000 in
theorem zX11_sendFrame_90 (E : eE) : ∀ (n : Nat) {h0 : Nat} {pr2 : Option Nat} {pi3 : Int32} {pi4 : Int32} {s0 s9 : eS} {y : Int32}, mX11_sendFrame_90 n h0 pr2 pi3 pi4 s0 = some (y, s9) → EV E MX11_sendFrame 90 [(0, VR (some h0)), (2, VR pr2), (3, VI pi3), (4, VI pi4)] [] s0 (some (VI y)) s9 := by
  intro n
  induction n with
  | zero =>
    intro h0 pr2 pi3 pi4 s0 s9 y h
    unfold mX11_sendFrame_90 at h
    cases h
  | succ n ih =>
    intro h0 pr2 pi3 pi4 s0 s9 y h
    unfold mX11_sendFrame_90 at h
    refine EV_iload dX11_sendFrame_90 rfl ?_
    refine EV_iload_n dX11_sendFrame_92 rfl ?_
    refine EV_icmp_ge (tgt := 115) dX11_sendFrame_93 (by decide) (fun c1 => ?_) (fun c1 => ?_)
    · rw [if_pos c1] at h
      refine EV_iconst (x := (1 : Int32)) dX11_sendFrame_115 (by decide) ?_
      have hh := b1_some h; clear h; obtain ⟨u2, hu2, h⟩ := hh
      cases h
      exact EV_ret ⟨dX11_sendFrame_116, .boolean, rfl, o_Z_n hu2⟩ rfl
    · rw [if_neg c1] at h
      refine EV_aload_n dX11_sendFrame_96 rfl ?_
      have hh := b1_some h; clear h; obtain ⟨r2, hr2, h⟩ := hh
      refine EV_getP (ci := 11) (k := 10) dX11_sendFrame_97 fl_X11_71 rfl hr2 ?_
      refine EV_aload_n dX11_sendFrame_100 rfl ?_
      refine EV_iload dX11_sendFrame_101 rfl ?_
      have hh := b1_some h; clear h; obtain ⟨a3, ha3, h⟩ := hh
      subst ha3
      have hh := b1_some h; clear h; obtain ⟨u10, hu10, h⟩ := hh
      have hh := b2_some h; clear h; obtain ⟨x5, s4, hs4, h⟩ := hh
      refine EV_callV (Y := YX4_at) (as := [VI pi4]) (st := [VR r2]) (st2 := [VI x5, VR r2]) (a := a3) (ci := 4) (r := rX4) (n := 1) dX11_sendFrame_103 (zX4_at E hs4) rfl cwX4_at rfl tw_568 tw_569 tw_570 rfl (e_if hu10).1.1 (e_if hu10).1.2 ⟨by decide, by decide⟩ (Nat.le_of_ble_eq_true rfl) rfl ?_
      have hh := b1_some h; clear h; obtain ⟨a6, ha6, h⟩ := hh
      subst ha6
      have hh := b1_some h; clear h; obtain ⟨u9, hu9, h⟩ := hh
      have hh := b1_some h; clear h; obtain ⟨s7, hs7, h⟩ := hh
      refine EV_callV (Y := YX5_add) (as := [VI x5]) (st := []) (st2 := []) (a := a6) (ci := 5) (r := rX5) (n := 1) dX11_sendFrame_106 (zX5_add E hs7) rfl cwX5_add rfl tw_564 tw_565 tw_566 rfl (e_if hu9).1.1 (e_if hu9).1.2 ⟨by decide, by decide⟩ (Nat.le_of_ble_eq_true rfl) rfl ?_
      refine EV_iinc (y := (1 : Int32)) (lv2 := [(4, VI (pi4 + (1 : Int32))), (0, VR (some h0)), (2, VR (some a3)), (3, VI pi3)]) dX11_sendFrame_109 rfl (by decide) (by decide) rfl ?_
      refine EV_goto (tgt := 90) dX11_sendFrame_112 (by decide) ?_
      exact EV_pick [1, 2, 3, 0] rfl (ih h)
def mX11_sendFrame_61 : Nat → Nat → Int32 → Option Nat → Int32 → Int32 → eS → Option (Int32 × eS)
  | 0, _, _, _, _, _, _ => none
  | n + 1, h0, pi1, pr2, pi3, pi4, s0 =>
  (if (4 : Int32) ≤ pi4 then (mX11_sendFrame_90 100000 h0 pr2 pi3 (0 : Int32) s0) else (b1 (g_P s0 111 10 h0) fun r2 => (b1 r2 fun a3 => (b1 (o_K s0 105 a3) fun u6 => (b1 (mX5_add a3 (pi1 >>> (((8 : Int32) * pi4) &&& 31)) s0) fun s4 => (mX11_sendFrame_61 n h0 pi1 pr2 pi3 (pi4 + (1 : Int32)) s4))))))
set_option maxRecDepth 100000 in
set_option maxHeartbeats 4000000 in
theorem zX11_sendFrame_61 (E : eE) : ∀ (n : Nat) {h0 : Nat} {pi1 : Int32} {pr2 : Option Nat} {pi3 : Int32} {pi4 : Int32} {s0 s9 : eS} {y : Int32}, mX11_sendFrame_61 n h0 pi1 pr2 pi3 pi4 s0 = some (y, s9) → EV E MX11_sendFrame 61 [(0, VR (some h0)), (1, VI pi1), (2, VR pr2), (3, VI pi3), (4, VI pi4)] [] s0 (some (VI y)) s9 := by
  intro n
  induction n with
  | zero =>
    intro h0 pi1 pr2 pi3 pi4 s0 s9 y h
    unfold mX11_sendFrame_61 at h
    cases h
  | succ n ih =>
    intro h0 pi1 pr2 pi3 pi4 s0 s9 y h
    unfold mX11_sendFrame_61 at h
    refine EV_iload dX11_sendFrame_61 rfl ?_
    refine EV_iconst (x := (4 : Int32)) dX11_sendFrame_63 (by decide) ?_
    refine EV_icmp_ge (tgt := 87) dX11_sendFrame_64 (by decide) (fun c1 => ?_) (fun c1 => ?_)
    · rw [if_pos c1] at h
      refine EV_iconst (x := (0 : Int32)) dX11_sendFrame_87 (by decide) ?_
      refine EV_istore (lv2 := [(4, VI (0 : Int32)), (0, VR (some h0)), (1, VI pi1), (2, VR pr2), (3, VI pi3)]) dX11_sendFrame_88 (by decide) rfl ?_
      exact EV_pick [1, 3, 4, 0] rfl (zX11_sendFrame_90 E _ h)
    · rw [if_neg c1] at h
      refine EV_aload_n dX11_sendFrame_67 rfl ?_
      have hh := b1_some h; clear h; obtain ⟨r2, hr2, h⟩ := hh
      refine EV_getP (ci := 11) (k := 10) dX11_sendFrame_68 fl_X11_71 rfl hr2 ?_
      refine EV_iload_n dX11_sendFrame_71 rfl ?_
      refine EV_bipush (x := (8 : Int32)) dX11_sendFrame_72 (by decide) ?_
      refine EV_iload dX11_sendFrame_74 rfl ?_
      refine EV_imul dX11_sendFrame_76 ?_
      refine EV_ishr dX11_sendFrame_77 ?_
      have hh := b1_some h; clear h; obtain ⟨a3, ha3, h⟩ := hh
      subst ha3
      have hh := b1_some h; clear h; obtain ⟨u6, hu6, h⟩ := hh
      have hh := b1_some h; clear h; obtain ⟨s4, hs4, h⟩ := hh
      refine EV_callV (Y := YX5_add) (as := [VI (pi1 >>> (((8 : Int32) * pi4) &&& 31))]) (st := []) (st2 := []) (a := a3) (ci := 5) (r := rX5) (n := 1) dX11_sendFrame_78 (zX5_add E hs4) rfl cwX5_add rfl tw_564 tw_565 tw_566 rfl (e_if hu6).1.1 (e_if hu6).1.2 ⟨by decide, by decide⟩ (Nat.le_of_ble_eq_true rfl) rfl ?_
      refine EV_iinc (y := (1 : Int32)) (lv2 := [(4, VI (pi4 + (1 : Int32))), (0, VR (some h0)), (1, VI pi1), (2, VR pr2), (3, VI pi3)]) dX11_sendFrame_81 rfl (by decide) (by decide) rfl ?_
      refine EV_goto (tgt := 61) dX11_sendFrame_84 (by decide) ?_
      exact EV_pick [1, 2, 3, 4, 0] rfl (ih h)
def mX11_sendFrame_12 (h0 : Nat) (pi1 : Int32) (pr2 : Option Nat) (pt0 : Int32) (s0 : eS) : Option (Int32 × eS) :=
  (b1 (g_P s0 111 10 h0) fun r1 => (b1 r1 fun a2 => (b1 (g_I s0 105 2 a2) fun x3 => (if ((x3 + (6 : Int32)) + pt0) ≤ (4096 : Int32) then (b1 (g_P s0 111 10 h0) fun r5 => (b1 r5 fun a6 => (b1 (o_K s0 105 a6) fun u14 => (b1 (mX5_add a6 (104 : Int32) s0) fun s7 => (b1 (g_P s7 111 10 h0) fun r9 => (b1 r9 fun a10 => (b1 (o_K s7 105 a10) fun u13 => (b1 (mX5_add a10 ((4 : Int32) + pt0) s7) fun s11 => (mX11_sendFrame_61 100000 h0 pi1 pr2 pt0 (0 : Int32) s11))))))))) else (b1 (o_K s0 111 h0) fun u8 => (b1 (mX11_shut h0 (6 : Int32) s0) fun s5 => (b1 (o_Z (0 : Int32)) fun u7 => some ((0 : Int32), s5))))))))
set_option maxRecDepth 100000 in
set_option maxHeartbeats 4000000 in
theorem zX11_sendFrame_12 (E : eE) {h0 : Nat} {pi1 : Int32} {pr2 : Option Nat} {pt0 : Int32} {s0 s9 : eS} {y : Int32} (h : mX11_sendFrame_12 h0 pi1 pr2 pt0 s0 = some (y, s9)) : EV E MX11_sendFrame 12 [(0, VR (some h0)), (1, VI pi1), (2, VR pr2)] [VI pt0] s0 (some (VI y)) s9 := by
  unfold mX11_sendFrame_12 at h
  refine EV_istore_n (lv2 := [(3, VI pt0), (0, VR (some h0)), (1, VI pi1), (2, VR pr2)]) dX11_sendFrame_12 (by decide) rfl ?_
  refine EV_aload_n dX11_sendFrame_13 rfl ?_
  have hh := b1_some h; clear h; obtain ⟨r1, hr1, h⟩ := hh
  refine EV_getP (ci := 11) (k := 10) dX11_sendFrame_14 fl_X11_71 rfl hr1 ?_
  have hh := b1_some h; clear h; obtain ⟨a2, ha2, h⟩ := hh
  subst ha2
  have hh := b1_some h; clear h; obtain ⟨x3, hx3, h⟩ := hh
  refine EV_getI (ci := 5) (k := 2) dX11_sendFrame_17 fl_X11_190 rfl hx3 ?_
  refine EV_bipush (x := (6 : Int32)) dX11_sendFrame_20 (by decide) ?_
  refine EV_iadd dX11_sendFrame_22 ?_
  refine EV_iload_n dX11_sendFrame_23 rfl ?_
  refine EV_iadd dX11_sendFrame_24 ?_
  refine EV_sipush (x := (4096 : Int32)) dX11_sendFrame_25 (by decide) ?_
  refine EV_icmp_le (tgt := 39) dX11_sendFrame_28 (by decide) (fun c4 => ?_) (fun c4 => ?_)
  · rw [if_pos c4] at h
    refine EV_aload_n dX11_sendFrame_39 rfl ?_
    have hh := b1_some h; clear h; obtain ⟨r5, hr5, h⟩ := hh
    refine EV_getP (ci := 11) (k := 10) dX11_sendFrame_40 fl_X11_71 rfl hr5 ?_
    refine EV_bipush (x := (104 : Int32)) dX11_sendFrame_43 (by decide) ?_
    have hh := b1_some h; clear h; obtain ⟨a6, ha6, h⟩ := hh
    subst ha6
    have hh := b1_some h; clear h; obtain ⟨u14, hu14, h⟩ := hh
    have hh := b1_some h; clear h; obtain ⟨s7, hs7, h⟩ := hh
    refine EV_callV (Y := YX5_add) (as := [VI (104 : Int32)]) (st := []) (st2 := []) (a := a6) (ci := 5) (r := rX5) (n := 1) dX11_sendFrame_45 (zX5_add E hs7) rfl cwX5_add rfl tw_564 tw_565 tw_566 rfl (e_if hu14).1.1 (e_if hu14).1.2 ⟨by decide, by decide⟩ (Nat.le_of_ble_eq_true rfl) rfl ?_
    refine EV_aload_n dX11_sendFrame_48 rfl ?_
    have hh := b1_some h; clear h; obtain ⟨r9, hr9, h⟩ := hh
    refine EV_getP (ci := 11) (k := 10) dX11_sendFrame_49 fl_X11_71 rfl hr9 ?_
    refine EV_iconst (x := (4 : Int32)) dX11_sendFrame_52 (by decide) ?_
    refine EV_iload_n dX11_sendFrame_53 rfl ?_
    refine EV_iadd dX11_sendFrame_54 ?_
    have hh := b1_some h; clear h; obtain ⟨a10, ha10, h⟩ := hh
    subst ha10
    have hh := b1_some h; clear h; obtain ⟨u13, hu13, h⟩ := hh
    have hh := b1_some h; clear h; obtain ⟨s11, hs11, h⟩ := hh
    refine EV_callV (Y := YX5_add) (as := [VI ((4 : Int32) + pt0)]) (st := []) (st2 := []) (a := a10) (ci := 5) (r := rX5) (n := 1) dX11_sendFrame_55 (zX5_add E hs11) rfl cwX5_add rfl tw_564 tw_565 tw_566 rfl (e_if hu13).1.1 (e_if hu13).1.2 ⟨by decide, by decide⟩ (Nat.le_of_ble_eq_true rfl) rfl ?_
    refine EV_iconst (x := (0 : Int32)) dX11_sendFrame_58 (by decide) ?_
    refine EV_istore (lv2 := [(4, VI (0 : Int32)), (3, VI pt0), (0, VR (some h0)), (1, VI pi1), (2, VR pr2)]) dX11_sendFrame_59 (by decide) rfl ?_
    exact EV_pick [2, 3, 4, 1, 0] rfl (zX11_sendFrame_61 E _ h)
  · rw [if_neg c4] at h
    refine EV_aload_n dX11_sendFrame_31 rfl ?_
    refine EV_bipush (x := (6 : Int32)) dX11_sendFrame_32 (by decide) ?_
    have hh := b1_some h; clear h; obtain ⟨u8, hu8, h⟩ := hh
    have hh := b1_some h; clear h; obtain ⟨s5, hs5, h⟩ := hh
    refine EV_callV (Y := YX11_shut) (as := [VI (6 : Int32)]) (st := []) (st2 := []) (a := h0) (ci := 11) (r := rX11) (n := 1) dX11_sendFrame_34 (zX11_shut E hs5) rfl cwX11_shut rfl tw_540 tw_542 tw_5 rfl (e_if hu8).1.1 (e_if hu8).1.2 ⟨by decide, by decide⟩ (Nat.le_of_ble_eq_true rfl) rfl ?_
    refine EV_iconst (x := (0 : Int32)) dX11_sendFrame_37 (by decide) ?_
    have hh := b1_some h; clear h; obtain ⟨u7, hu7, h⟩ := hh
    cases h
    exact EV_ret ⟨dX11_sendFrame_38, .boolean, rfl, o_Z_n hu7⟩ rfl
def mX11_sendFrame (h0 : Nat) (pi1 : Int32) (pr2 : Option Nat) (s0 : eS) : Option (Int32 × eS) :=
  (if pr2 = none then (mX11_sendFrame_12 h0 pi1 pr2 (0 : Int32) s0) else (b1 pr2 fun a2 => (b1 (g_I s0 104 1 a2) fun x3 => (mX11_sendFrame_12 h0 pi1 (some a2) x3 s0))))
set_option maxRecDepth 100000 in
set_option maxHeartbeats 4000000 in
theorem zX11_sendFrame (E : eE) {h0 : Nat} {pi1 : Int32} {pr2 : Option Nat} {s0 s9 : eS} {y : Int32} (h : mX11_sendFrame h0 pi1 pr2 s0 = some (y, s9)) : EM E YX11_sendFrame [VR (some h0), VI pi1, VR pr2] s0 (some (VI y)) s9 := by
  refine EM_of (M := MX11_sendFrame) (own := RX11) (ini := false) rfl (by decide +kernel) rfl (fun z => nomatch z) (Nat.le_of_ble_eq_true rfl) ?_
  unfold mX11_sendFrame at h
  refine EV_aload_n dX11_sendFrame_0 rfl ?_
  refine EV_ifnonnull (tgt := 8) dX11_sendFrame_1 (by decide) (fun c1 => ?_) (fun c1 => ?_)
  · rw [if_pos c1] at h
    refine EV_iconst (x := (0 : Int32)) dX11_sendFrame_4 (by decide) ?_
    refine EV_goto (tgt := 12) dX11_sendFrame_5 (by decide) ?_
    exact EV_pick [0, 1, 2] rfl (zX11_sendFrame_12 E h)
  · rw [if_neg c1] at h
    refine EV_aload_n dX11_sendFrame_8 rfl ?_
    have hh := b1_some h; clear h; obtain ⟨a2, ha2, h⟩ := hh
    subst ha2
    have hh := b1_some h; clear h; obtain ⟨x3, hx3, h⟩ := hh
    refine EV_getI (ci := 4) (k := 1) dX11_sendFrame_9 fl_X11_313 rfl hx3 ?_
    exact EV_pick [0, 1, 2] rfl (zX11_sendFrame_12 E h)
def mX11_sendData (h0 : Nat) (pr1 : Option Nat) (pi2 : Int32) (s0 : eS) : Option (Int32 × eS) :=
  (b1 (g_P s0 111 9 h0) fun r1 => (b1 r1 fun a2 => (b1 (g_I s0 110 4 a2) fun x3 => (b1 (g_P s0 111 8 h0) fun r4 => (b1 r4 fun a5 => (b1 (o_K s0 108 a5) fun u22 => (b2 (mX8_ackToTell a5 s0) fun x7 s6 => (b1 (o_K s6 111 h0) fun u21 => (b2 (mX11_sendFrame h0 (((x3 &&& (32767 : Int32)) <<< ((1 : Int32) &&& 31)) ||| (x7 <<< ((17 : Int32) &&& 31))) pr1 s6) fun x9 s8 => (if x9 = 0 then (b1 (o_Z (0 : Int32)) fun u11 => some ((0 : Int32), s8)) else (b1 (g_P s8 111 8 h0) fun r11 => (b1 r11 fun a12 => (b1 (p_I s8 108 3 a12 (0 : Int32)) fun s13 => (b1 (g_P s13 111 9 h0) fun r14 => (b1 (g_I s13 111 13 h0) fun x15 => (b1 r14 fun a16 => (b1 (o_K s13 110 a16) fun u20 => (b1 (mX10_add a16 x15 pi2 s13) fun s17 => (b1 (o_Z (1 : Int32)) fun u19 => some ((1 : Int32), s17))))))))))))))))))))
set_option maxRecDepth 100000 in
set_option maxHeartbeats 4000000 in
theorem zX11_sendData (E : eE) {h0 : Nat} {pr1 : Option Nat} {pi2 : Int32} {s0 s9 : eS} {y : Int32} (h : mX11_sendData h0 pr1 pi2 s0 = some (y, s9)) : EM E YX11_sendData [VR (some h0), VR pr1, VI pi2] s0 (some (VI y)) s9 := by
  refine EM_of (M := MX11_sendData) (own := RX11) (ini := false) rfl (by decide +kernel) rfl (fun z => nomatch z) (Nat.le_of_ble_eq_true rfl) ?_
  unfold mX11_sendData at h
  refine EV_aload_n dX11_sendData_0 rfl ?_
  have hh := b1_some h; clear h; obtain ⟨r1, hr1, h⟩ := hh
  refine EV_getP (ci := 11) (k := 9) dX11_sendData_1 fl_X11_64 rfl hr1 ?_
  have hh := b1_some h; clear h; obtain ⟨a2, ha2, h⟩ := hh
  subst ha2
  have hh := b1_some h; clear h; obtain ⟨x3, hx3, h⟩ := hh
  refine EV_getI (ci := 10) (k := 4) dX11_sendData_4 fl_X11_245 rfl hx3 ?_
  refine EV_sipush (x := (32767 : Int32)) dX11_sendData_7 (by decide) ?_
  refine EV_iand dX11_sendData_10 ?_
  refine EV_iconst (x := (1 : Int32)) dX11_sendData_11 (by decide) ?_
  refine EV_ishl dX11_sendData_12 ?_
  refine EV_istore_n (lv2 := [(3, VI ((x3 &&& (32767 : Int32)) <<< ((1 : Int32) &&& 31))), (0, VR (some h0)), (1, VR pr1), (2, VI pi2)]) dX11_sendData_13 (by decide) rfl ?_
  refine EV_aload_n dX11_sendData_14 rfl ?_
  refine EV_iload_n dX11_sendData_15 rfl ?_
  refine EV_aload_n dX11_sendData_16 rfl ?_
  have hh := b1_some h; clear h; obtain ⟨r4, hr4, h⟩ := hh
  refine EV_getP (ci := 11) (k := 8) dX11_sendData_17 fl_X11_57 rfl hr4 ?_
  have hh := b1_some h; clear h; obtain ⟨a5, ha5, h⟩ := hh
  subst ha5
  have hh := b1_some h; clear h; obtain ⟨u22, hu22, h⟩ := hh
  have hh := b2_some h; clear h; obtain ⟨x7, s6, hs6, h⟩ := hh
  refine EV_callV (Y := YX8_ackToTell) (as := []) (st := [VI ((x3 &&& (32767 : Int32)) <<< ((1 : Int32) &&& 31)), VR (some h0)]) (st2 := [VI x7, VI ((x3 &&& (32767 : Int32)) <<< ((1 : Int32) &&& 31)), VR (some h0)]) (a := a5) (ci := 8) (r := rX8) (n := 0) dX11_sendData_20 (zX8_ackToTell E hs6) rfl cwX8_ackToTell rfl tw_532 tw_533 tw_534 rfl (e_if hu22).1.1 (e_if hu22).1.2 ⟨by decide, by decide⟩ (Nat.le_of_ble_eq_true rfl) rfl ?_
  refine EV_bipush (x := (17 : Int32)) dX11_sendData_23 (by decide) ?_
  refine EV_ishl dX11_sendData_25 ?_
  refine EV_ior dX11_sendData_26 ?_
  refine EV_aload_n dX11_sendData_27 rfl ?_
  have hh := b1_some h; clear h; obtain ⟨u21, hu21, h⟩ := hh
  have hh := b2_some h; clear h; obtain ⟨x9, s8, hs8, h⟩ := hh
  refine EV_callV (Y := YX11_sendFrame) (as := [VI (((x3 &&& (32767 : Int32)) <<< ((1 : Int32) &&& 31)) ||| (x7 <<< ((17 : Int32) &&& 31))), VR pr1]) (st := []) (st2 := [VI x9]) (a := h0) (ci := 11) (r := rX11) (n := 2) dX11_sendData_28 (zX11_sendFrame E hs8) rfl cwX11_sendFrame rfl tw_536 tw_538 tw_4 rfl (e_if hu21).1.1 (e_if hu21).1.2 ⟨by decide, by decide⟩ (Nat.le_of_ble_eq_true rfl) rfl ?_
  refine EV_if_ne (tgt := 36) dX11_sendData_31 (by decide) (fun c10 => ?_) (fun c10 => ?_)
  · rw [if_pos c10] at h
    refine EV_iconst (x := (0 : Int32)) dX11_sendData_34 (by decide) ?_
    have hh := b1_some h; clear h; obtain ⟨u11, hu11, h⟩ := hh
    cases h
    exact EV_ret ⟨dX11_sendData_35, .boolean, rfl, o_Z_n hu11⟩ rfl
  · rw [if_neg c10] at h
    refine EV_aload_n dX11_sendData_36 rfl ?_
    have hh := b1_some h; clear h; obtain ⟨r11, hr11, h⟩ := hh
    refine EV_getP (ci := 11) (k := 8) dX11_sendData_37 fl_X11_57 rfl hr11 ?_
    refine EV_iconst (x := (0 : Int32)) dX11_sendData_40 (by decide) ?_
    have hh := b1_some h; clear h; obtain ⟨a12, ha12, h⟩ := hh
    subst ha12
    have hh := b1_some h; clear h; obtain ⟨s13, hs13, h⟩ := hh
    refine EV_putI (ci := 8) (k := 3) dX11_sendData_41 fp_X11_254 rfl hs13 ?_
    refine EV_aload_n dX11_sendData_44 rfl ?_
    have hh := b1_some h; clear h; obtain ⟨r14, hr14, h⟩ := hh
    refine EV_getP (ci := 11) (k := 9) dX11_sendData_45 fl_X11_64 rfl hr14 ?_
    refine EV_aload_n dX11_sendData_48 rfl ?_
    have hh := b1_some h; clear h; obtain ⟨x15, hx15, h⟩ := hh
    refine EV_getI (ci := 11) (k := 13) dX11_sendData_49 fl_X11_155 rfl hx15 ?_
    refine EV_iload_n dX11_sendData_52 rfl ?_
    have hh := b1_some h; clear h; obtain ⟨a16, ha16, h⟩ := hh
    subst ha16
    have hh := b1_some h; clear h; obtain ⟨u20, hu20, h⟩ := hh
    have hh := b1_some h; clear h; obtain ⟨s17, hs17, h⟩ := hh
    refine EV_callV (Y := YX10_add) (as := [VI x15, VI pi2]) (st := []) (st2 := []) (a := a16) (ci := 10) (r := rX10) (n := 2) dX11_sendData_53 (zX10_add E hs17) rfl cwX10_add rfl tw_572 tw_573 tw_574 rfl (e_if hu20).1.1 (e_if hu20).1.2 ⟨by decide, by decide⟩ (Nat.le_of_ble_eq_true rfl) rfl ?_
    refine EV_iconst (x := (1 : Int32)) dX11_sendData_56 (by decide) ?_
    have hh := b1_some h; clear h; obtain ⟨u19, hu19, h⟩ := hh
    cases h
    exact EV_ret ⟨dX11_sendData_57, .boolean, rfl, o_Z_n hu19⟩ rfl
def mX11_sendWaiting_116 (s0 : eS) : Option eS :=
  (some s0)
set_option maxRecDepth 100000 in
set_option maxHeartbeats 4000000 in
theorem zX11_sendWaiting_116 (E : eE) {s0 s9 : eS} (h : mX11_sendWaiting_116 s0 = some s9) : EV E MX11_sendWaiting 116 [] [] s0 none s9 := by
  unfold mX11_sendWaiting_116 at h
  cases h
  exact EV_ret ⟨dX11_sendWaiting_116, rfl⟩ rfl
def mX11_sendWaiting_110 (k2 : Nat → Int32 → eS → Option eS) (h0 : Nat) (pi1 : Int32) (s0 : eS) : Option eS :=
  (k2 h0 (pi1 + (1 : Int32)) s0)
set_option maxRecDepth 100000 in
set_option maxHeartbeats 4000000 in
theorem zX11_sendWaiting_110 (E : eE) {k2 : Nat → Int32 → eS → Option eS} (hk2 : ∀ {h0 : Nat} {pi1 : Int32} {s0 s9 : eS}, k2 h0 pi1 s0 = some s9 → EV E MX11_sendWaiting 2 [(0, VR (some h0)), (1, VI pi1)] [] s0 none s9) {h0 : Nat} {pi1 : Int32} {s0 s9 : eS} (h : mX11_sendWaiting_110 k2 h0 pi1 s0 = some s9) : EV E MX11_sendWaiting 110 [(0, VR (some h0)), (1, VI pi1)] [] s0 none s9 := by
  unfold mX11_sendWaiting_110 at h
  refine EV_iinc (y := (1 : Int32)) (lv2 := [(1, VI (pi1 + (1 : Int32))), (0, VR (some h0))]) dX11_sendWaiting_110 rfl (by decide) (by decide) rfl ?_
  refine EV_goto (tgt := 2) dX11_sendWaiting_113 (by decide) ?_
  exact EV_pick [1, 0] rfl (hk2 h)
def mX11_sendWaiting_2 : Nat → Nat → Int32 → eS → Option eS
  | 0, _, _, _ => none
  | n + 1, h0, pi1, s0 =>
  (if (12 : Int32) ≤ pi1 then (mX11_sendWaiting_116 s0) else (b1 (g_I s0 111 11 h0) fun x2 => (if x2 = (2 : Int32) then (b1 (g_P s0 111 9 h0) fun r4 => (b1 r4 fun a5 => (b1 (g_I s0 110 3 a5) fun x6 => (b1 (g_P s0 111 0 h0) fun r7 => (b1 r7 fun a8 => (b1 (a_I s0 0 a8 (1 : Int32)) fun x9 => (if x6 < x9 then (b1 (g_P s0 111 7 h0) fun r11 => (b1 r11 fun a12 => (b1 (g_I s0 100 3 a12) fun x13 => (if x13 ≤ 0 then (b1 (g_P s0 111 6 h0) fun r15 => (b1 r15 fun a16 => (b1 (o_K s0 103 a16) fun u37 => (b2 (mX3_waiting a16 s0) fun x18 s17 => (if x18 ≤ 0 then (some s17) else (b1 (g_P s17 111 6 h0) fun r20 => (b1 (g_P s17 111 0 h0) fun r21 => (b1 r21 fun a22 => (b1 (a_I s17 0 a22 (0 : Int32)) fun x23 => (b1 r20 fun a24 => (b1 (o_K s17 103 a24) fun u36 => (b2 (mX3_next a24 x23 s17) fun r26 s25 => (b1 (o_K s25 111 h0) fun u35 => (b2 (mX11_sendData h0 r26 (1 : Int32) s25) fun x28 s27 => (if x28 = 0 then (mX11_sendWaiting_110 (mX11_sendWaiting_2 n) h0 pi1 s27) else (b1 (g_P s27 111 6 h0) fun r30 => (b1 r30 fun a31 => (b1 (o_K s27 103 a31) fun u34 => (b1 (mX3_nextWasSent a31 s27) fun s32 => (mX11_sendWaiting_110 (mX11_sendWaiting_2 n) h0 pi1 s32)))))))))))))))))))) else (b1 (g_P s0 111 7 h0) fun r15 => (b1 r15 fun a16 => (b1 (o_K s0 100 a16) fun u28 => (b2 (mX0_first a16 s0) fun r18 s17 => (b1 (o_K s17 111 h0) fun u27 => (b2 (mX11_sendData h0 r18 (0 : Int32) s17) fun x20 s19 => (if x20 = 0 then (mX11_sendWaiting_110 (mX11_sendWaiting_2 n) h0 pi1 s19) else (b1 (g_P s19 111 7 h0) fun r22 => (b1 r22 fun a23 => (b1 (o_K s19 100 a23) fun u26 => (b1 (mX0_dropFirst a23 s19) fun s24 => (mX11_sendWaiting_110 (mX11_sendWaiting_2 n) h0 pi1 s24)))))))))))))))) else (some s0)))))))) else (mX11_sendWaiting_116 s0))))
set_option maxRecDepth 100000 in
set_option maxHeartbeats 4000000 in
theorem zX11_sendWaiting_2 (E : eE) : ∀ (n : Nat) {h0 : Nat} {pi1 : Int32} {s0 s9 : eS}, mX11_sendWaiting_2 n h0 pi1 s0 = some s9 → EV E MX11_sendWaiting 2 [(0, VR (some h0)), (1, VI pi1)] [] s0 none s9 := by
  intro n
  induction n with
  | zero =>
    intro h0 pi1 s0 s9 h
    unfold mX11_sendWaiting_2 at h
    cases h
  | succ n ih =>
    intro h0 pi1 s0 s9 h
    unfold mX11_sendWaiting_2 at h
    refine EV_iload_n dX11_sendWaiting_2 rfl ?_
    refine EV_bipush (x := (12 : Int32)) dX11_sendWaiting_3 (by decide) ?_
    refine EV_icmp_ge (tgt := 116) dX11_sendWaiting_5 (by decide) (fun c1 => ?_) (fun c1 => ?_)
    · rw [if_pos c1] at h
      exact EV_pick [] rfl (zX11_sendWaiting_116 E h)
    · rw [if_neg c1] at h
      refine EV_aload_n dX11_sendWaiting_8 rfl ?_
      have hh := b1_some h; clear h; obtain ⟨x2, hx2, h⟩ := hh
      refine EV_getI (ci := 11) (k := 11) dX11_sendWaiting_9 fl_X11_75 rfl hx2 ?_
      refine EV_iconst (x := (2 : Int32)) dX11_sendWaiting_12 (by decide) ?_
      refine EV_icmp_ne (tgt := 116) dX11_sendWaiting_13 (by decide) (fun c3 => ?_) (fun c3 => ?_)
      · rw [if_pos c3] at h
        refine EV_aload_n dX11_sendWaiting_16 rfl ?_
        have hh := b1_some h; clear h; obtain ⟨r4, hr4, h⟩ := hh
        refine EV_getP (ci := 11) (k := 9) dX11_sendWaiting_17 fl_X11_64 rfl hr4 ?_
        have hh := b1_some h; clear h; obtain ⟨a5, ha5, h⟩ := hh
        subst ha5
        have hh := b1_some h; clear h; obtain ⟨x6, hx6, h⟩ := hh
        refine EV_getI (ci := 10) (k := 3) dX11_sendWaiting_20 fl_X11_248 rfl hx6 ?_
        refine EV_aload_n dX11_sendWaiting_23 rfl ?_
        have hh := b1_some h; clear h; obtain ⟨r7, hr7, h⟩ := hh
        refine EV_getP (ci := 11) (k := 0) dX11_sendWaiting_24 fl_X11_7 rfl hr7 ?_
        refine EV_iconst (x := (1 : Int32)) dX11_sendWaiting_27 (by decide) ?_
        have hh := b1_some h; clear h; obtain ⟨a8, ha8, h⟩ := hh
        subst ha8
        have hh := b1_some h; clear h; obtain ⟨x9, hx9, h⟩ := hh
        refine EV_aI (t := 0) (ty := .int) rfl (by decide) dX11_sendWaiting_28 hx9 ?_
        refine EV_icmp_lt (tgt := 33) dX11_sendWaiting_29 (by decide) (fun c10 => ?_) (fun c10 => ?_)
        · rw [if_pos c10] at h
          refine EV_aload_n dX11_sendWaiting_33 rfl ?_
          have hh := b1_some h; clear h; obtain ⟨r11, hr11, h⟩ := hh
          refine EV_getP (ci := 11) (k := 7) dX11_sendWaiting_34 fl_X11_50 rfl hr11 ?_
          have hh := b1_some h; clear h; obtain ⟨a12, ha12, h⟩ := hh
          subst ha12
          have hh := b1_some h; clear h; obtain ⟨x13, hx13, h⟩ := hh
          refine EV_getI (ci := 0) (k := 3) dX11_sendWaiting_37 fl_X11_257 rfl hx13 ?_
          refine EV_if_le (tgt := 68) dX11_sendWaiting_40 (by decide) (fun c14 => ?_) (fun c14 => ?_)
          · rw [if_pos c14] at h
            refine EV_aload_n dX11_sendWaiting_68 rfl ?_
            have hh := b1_some h; clear h; obtain ⟨r15, hr15, h⟩ := hh
            refine EV_getP (ci := 11) (k := 6) dX11_sendWaiting_69 fl_X11_43 rfl hr15 ?_
            have hh := b1_some h; clear h; obtain ⟨a16, ha16, h⟩ := hh
            subst ha16
            have hh := b1_some h; clear h; obtain ⟨u37, hu37, h⟩ := hh
            have hh := b2_some h; clear h; obtain ⟨x18, s17, hs17, h⟩ := hh
            refine EV_callV (Y := YX3_waiting) (as := []) (st := []) (st2 := [VI x18]) (a := a16) (ci := 3) (r := rX3) (n := 0) dX11_sendWaiting_72 (zX3_waiting E hs17) rfl cwX3_waiting rfl tw_500 tw_501 tw_502 rfl (e_if hu37).1.1 (e_if hu37).1.2 ⟨by decide, by decide⟩ (Nat.le_of_ble_eq_true rfl) rfl ?_
            refine EV_if_le (tgt := 109) dX11_sendWaiting_75 (by decide) (fun c19 => ?_) (fun c19 => ?_)
            · rw [if_pos c19] at h
              cases h
              exact EV_ret ⟨dX11_sendWaiting_109, rfl⟩ rfl
            · rw [if_neg c19] at h
              refine EV_aload_n dX11_sendWaiting_78 rfl ?_
              refine EV_aload_n dX11_sendWaiting_79 rfl ?_
              have hh := b1_some h; clear h; obtain ⟨r20, hr20, h⟩ := hh
              refine EV_getP (ci := 11) (k := 6) dX11_sendWaiting_80 fl_X11_43 rfl hr20 ?_
              refine EV_aload_n dX11_sendWaiting_83 rfl ?_
              have hh := b1_some h; clear h; obtain ⟨r21, hr21, h⟩ := hh
              refine EV_getP (ci := 11) (k := 0) dX11_sendWaiting_84 fl_X11_7 rfl hr21 ?_
              refine EV_iconst (x := (0 : Int32)) dX11_sendWaiting_87 (by decide) ?_
              have hh := b1_some h; clear h; obtain ⟨a22, ha22, h⟩ := hh
              subst ha22
              have hh := b1_some h; clear h; obtain ⟨x23, hx23, h⟩ := hh
              refine EV_aI (t := 0) (ty := .int) rfl (by decide) dX11_sendWaiting_88 hx23 ?_
              have hh := b1_some h; clear h; obtain ⟨a24, ha24, h⟩ := hh
              subst ha24
              have hh := b1_some h; clear h; obtain ⟨u36, hu36, h⟩ := hh
              have hh := b2_some h; clear h; obtain ⟨r26, s25, hs25, h⟩ := hh
              refine EV_callV (Y := YX3_next) (as := [VI x23]) (st := [VR (some h0)]) (st2 := [VR r26, VR (some h0)]) (a := a24) (ci := 3) (r := rX3) (n := 1) dX11_sendWaiting_89 (zX3_next E hs25) rfl cwX3_next rfl tw_580 tw_581 tw_582 rfl (e_if hu36).1.1 (e_if hu36).1.2 ⟨by decide, by decide⟩ (Nat.le_of_ble_eq_true rfl) rfl ?_
              refine EV_iconst (x := (1 : Int32)) dX11_sendWaiting_92 (by decide) ?_
              have hh := b1_some h; clear h; obtain ⟨u35, hu35, h⟩ := hh
              have hh := b2_some h; clear h; obtain ⟨x28, s27, hs27, h⟩ := hh
              refine EV_callV (Y := YX11_sendData) (as := [VR r26, VI (1 : Int32)]) (st := []) (st2 := [VI x28]) (a := h0) (ci := 11) (r := rX11) (n := 2) dX11_sendWaiting_93 (zX11_sendData E hs27) rfl cwX11_sendData rfl tw_528 tw_530 tw_3 rfl (e_if hu35).1.1 (e_if hu35).1.2 ⟨by decide, by decide⟩ (Nat.le_of_ble_eq_true rfl) rfl ?_
              refine EV_if_eq (tgt := 110) dX11_sendWaiting_96 (by decide) (fun c29 => ?_) (fun c29 => ?_)
              · rw [if_pos c29] at h
                exact EV_pick [0, 1] rfl (zX11_sendWaiting_110 E (@ih) h)
              · rw [if_neg c29] at h
                refine EV_aload_n dX11_sendWaiting_99 rfl ?_
                have hh := b1_some h; clear h; obtain ⟨r30, hr30, h⟩ := hh
                refine EV_getP (ci := 11) (k := 6) dX11_sendWaiting_100 fl_X11_43 rfl hr30 ?_
                have hh := b1_some h; clear h; obtain ⟨a31, ha31, h⟩ := hh
                subst ha31
                have hh := b1_some h; clear h; obtain ⟨u34, hu34, h⟩ := hh
                have hh := b1_some h; clear h; obtain ⟨s32, hs32, h⟩ := hh
                refine EV_callV (Y := YX3_nextWasSent) (as := []) (st := []) (st2 := []) (a := a31) (ci := 3) (r := rX3) (n := 0) dX11_sendWaiting_103 (zX3_nextWasSent E hs32) rfl cwX3_nextWasSent rfl tw_603 tw_604 tw_605 rfl (e_if hu34).1.1 (e_if hu34).1.2 ⟨by decide, by decide⟩ (Nat.le_of_ble_eq_true rfl) rfl ?_
                refine EV_goto (tgt := 110) dX11_sendWaiting_106 (by decide) ?_
                exact EV_pick [0, 1] rfl (zX11_sendWaiting_110 E (@ih) h)
          · rw [if_neg c14] at h
            refine EV_aload_n dX11_sendWaiting_43 rfl ?_
            refine EV_aload_n dX11_sendWaiting_44 rfl ?_
            have hh := b1_some h; clear h; obtain ⟨r15, hr15, h⟩ := hh
            refine EV_getP (ci := 11) (k := 7) dX11_sendWaiting_45 fl_X11_50 rfl hr15 ?_
            have hh := b1_some h; clear h; obtain ⟨a16, ha16, h⟩ := hh
            subst ha16
            have hh := b1_some h; clear h; obtain ⟨u28, hu28, h⟩ := hh
            have hh := b2_some h; clear h; obtain ⟨r18, s17, hs17, h⟩ := hh
            refine EV_callV (Y := YX0_first) (as := []) (st := [VR (some h0)]) (st2 := [VR r18, VR (some h0)]) (a := a16) (ci := 0) (r := rX0) (n := 0) dX11_sendWaiting_48 (zX0_first E hs17) rfl cwX0_first rfl tw_524 tw_525 tw_526 rfl (e_if hu28).1.1 (e_if hu28).1.2 ⟨by decide, by decide⟩ (Nat.le_of_ble_eq_true rfl) rfl ?_
            refine EV_iconst (x := (0 : Int32)) dX11_sendWaiting_51 (by decide) ?_
            have hh := b1_some h; clear h; obtain ⟨u27, hu27, h⟩ := hh
            have hh := b2_some h; clear h; obtain ⟨x20, s19, hs19, h⟩ := hh
            refine EV_callV (Y := YX11_sendData) (as := [VR r18, VI (0 : Int32)]) (st := []) (st2 := [VI x20]) (a := h0) (ci := 11) (r := rX11) (n := 2) dX11_sendWaiting_52 (zX11_sendData E hs19) rfl cwX11_sendData rfl tw_528 tw_530 tw_3 rfl (e_if hu27).1.1 (e_if hu27).1.2 ⟨by decide, by decide⟩ (Nat.le_of_ble_eq_true rfl) rfl ?_
            refine EV_if_eq (tgt := 110) dX11_sendWaiting_55 (by decide) (fun c21 => ?_) (fun c21 => ?_)
            · rw [if_pos c21] at h
              exact EV_pick [0, 1] rfl (zX11_sendWaiting_110 E (@ih) h)
            · rw [if_neg c21] at h
              refine EV_aload_n dX11_sendWaiting_58 rfl ?_
              have hh := b1_some h; clear h; obtain ⟨r22, hr22, h⟩ := hh
              refine EV_getP (ci := 11) (k := 7) dX11_sendWaiting_59 fl_X11_50 rfl hr22 ?_
              have hh := b1_some h; clear h; obtain ⟨a23, ha23, h⟩ := hh
              subst ha23
              have hh := b1_some h; clear h; obtain ⟨u26, hu26, h⟩ := hh
              have hh := b1_some h; clear h; obtain ⟨s24, hs24, h⟩ := hh
              refine EV_callV (Y := YX0_dropFirst) (as := []) (st := []) (st2 := []) (a := a23) (ci := 0) (r := rX0) (n := 0) dX11_sendWaiting_62 (zX0_dropFirst E hs24) rfl cwX0_dropFirst rfl tw_576 tw_577 tw_578 rfl (e_if hu26).1.1 (e_if hu26).1.2 ⟨by decide, by decide⟩ (Nat.le_of_ble_eq_true rfl) rfl ?_
              refine EV_goto (tgt := 110) dX11_sendWaiting_65 (by decide) ?_
              exact EV_pick [0, 1] rfl (zX11_sendWaiting_110 E (@ih) h)
        · rw [if_neg c10] at h
          cases h
          exact EV_ret ⟨dX11_sendWaiting_32, rfl⟩ rfl
      · rw [if_neg c3] at h
        exact EV_pick [] rfl (zX11_sendWaiting_116 E h)
def mX11_sendWaiting (h0 : Nat) (s0 : eS) : Option eS :=
  (mX11_sendWaiting_2 100000 h0 (0 : Int32) s0)
set_option maxRecDepth 100000 in
set_option maxHeartbeats 4000000 in
theorem zX11_sendWaiting (E : eE) {h0 : Nat} {s0 s9 : eS} (h : mX11_sendWaiting h0 s0 = some s9) : EM E YX11_sendWaiting [VR (some h0)] s0 none s9 := by
  refine EM_of (M := MX11_sendWaiting) (own := RX11) (ini := false) rfl (by decide +kernel) rfl (fun z => nomatch z) (Nat.le_of_ble_eq_true rfl) ?_
  unfold mX11_sendWaiting at h
  refine EV_iconst (x := (0 : Int32)) dX11_sendWaiting_0 (by decide) ?_
  refine EV_istore_n (lv2 := [(1, VI (0 : Int32)), (0, VR (some h0))]) dX11_sendWaiting_1 (by decide) rfl ?_
  exact EV_pick [1, 0] rfl (zX11_sendWaiting_2 E _ h)
def mX11_change_25 (s0 : eS) : Option (Int32 × eS) :=
  (some ((-1 : Int32), s0))
set_option maxRecDepth 100000 in
set_option maxHeartbeats 4000000 in
theorem zX11_change_25 (E : eE) {s0 s9 : eS} {y : Int32} (h : mX11_change_25 s0 = some (y, s9)) : EV E MX11_change 25 [] [] s0 (some (VI y)) s9 := by
  unfold mX11_change_25 at h
  refine EV_iconst (x := (-1 : Int32)) dX11_change_25 (by decide) ?_
  cases h
  exact EV_ret ⟨dX11_change_26, .int, rfl, rfl⟩ rfl
def mX11_change_127 (h0 : Nat) (s0 : eS) : Option (Int32 × eS) :=
  (b1 (o_K s0 111 h0) fun u3 => (b1 (mX11_sendWaiting h0 s0) fun s1 => (some ((1 : Int32), s1))))
set_option maxRecDepth 100000 in
set_option maxHeartbeats 4000000 in
theorem zX11_change_127 (E : eE) {h0 : Nat} {s0 s9 : eS} {y : Int32} (h : mX11_change_127 h0 s0 = some (y, s9)) : EV E MX11_change 127 [(0, VR (some h0))] [] s0 (some (VI y)) s9 := by
  unfold mX11_change_127 at h
  refine EV_aload_n dX11_change_127 rfl ?_
  have hh := b1_some h; clear h; obtain ⟨u3, hu3, h⟩ := hh
  have hh := b1_some h; clear h; obtain ⟨s1, hs1, h⟩ := hh
  refine EV_callV (Y := YX11_sendWaiting) (as := []) (st := []) (st2 := []) (a := h0) (ci := 11) (r := rX11) (n := 0) dX11_change_128 (zX11_sendWaiting E hs1) rfl cwX11_sendWaiting rfl tw_520 tw_522 tw_2 rfl (e_if hu3).1.1 (e_if hu3).1.2 ⟨by decide, by decide⟩ (Nat.le_of_ble_eq_true rfl) rfl ?_
  refine EV_iconst (x := (1 : Int32)) dX11_change_131 (by decide) ?_
  cases h
  exact EV_ret ⟨dX11_change_132, .int, rfl, rfl⟩ rfl
def mX11_change_84 (h0 : Nat) (pi2 : Int32) (pi3 : Int32) (pr4 : Option Nat) (pi5 : Int32) (s0 : eS) : Option (Int32 × eS) :=
  (b1 pr4 fun a1 => (b1 (p_I s0 106 4 a1 pi2) fun s2 => (b1 (p_I s2 106 5 a1 pi3) fun s3 => (if pi5 = 0 then (mX11_change_127 h0 s3) else (b1 (g_P s3 111 6 h0) fun r5 => (b1 (g_I s3 111 18 h0) fun x6 => (b1 (o_K s3 106 a1) fun u18 => (b2 (mX6_object a1 pi2 x6 s3) fun x8 s7 => (b1 (g_P s7 111 5 h0) fun r9 => (b1 r9 fun a10 => (b1 (o_K s7 101 a10) fun u17 => (b2 (mX1_time a10 s7) fun x12 s11 => (b1 r5 fun a13 => (b1 (o_K s11 103 a13) fun u16 => (b1 (mX3_add a13 (some a1) x8 x12 s11) fun s14 => (mX11_change_127 h0 s14))))))))))))))))
set_option maxRecDepth 100000 in
set_option maxHeartbeats 4000000 in
theorem zX11_change_84 (E : eE) {h0 : Nat} {pi2 : Int32} {pi3 : Int32} {pr4 : Option Nat} {pi5 : Int32} {s0 s9 : eS} {y : Int32} (h : mX11_change_84 h0 pi2 pi3 pr4 pi5 s0 = some (y, s9)) : EV E MX11_change 84 [(0, VR (some h0)), (2, VI pi2), (3, VI pi3), (4, VR pr4), (5, VI pi5)] [] s0 (some (VI y)) s9 := by
  unfold mX11_change_84 at h
  refine EV_aload dX11_change_84 rfl ?_
  refine EV_iload_n dX11_change_86 rfl ?_
  have hh := b1_some h; clear h; obtain ⟨a1, ha1, h⟩ := hh
  subst ha1
  have hh := b1_some h; clear h; obtain ⟨s2, hs2, h⟩ := hh
  refine EV_putI (ci := 6) (k := 4) dX11_change_87 fp_X11_121 rfl hs2 ?_
  refine EV_aload dX11_change_90 rfl ?_
  refine EV_iload_n dX11_change_92 rfl ?_
  have hh := b1_some h; clear h; obtain ⟨s3, hs3, h⟩ := hh
  refine EV_putI (ci := 6) (k := 5) dX11_change_93 fp_X11_124 rfl hs3 ?_
  refine EV_iload dX11_change_96 rfl ?_
  refine EV_if_eq (tgt := 127) dX11_change_98 (by decide) (fun c4 => ?_) (fun c4 => ?_)
  · rw [if_pos c4] at h
    exact EV_pick [0] rfl (zX11_change_127 E h)
  · rw [if_neg c4] at h
    refine EV_aload_n dX11_change_101 rfl ?_
    have hh := b1_some h; clear h; obtain ⟨r5, hr5, h⟩ := hh
    refine EV_getP (ci := 11) (k := 6) dX11_change_102 fl_X11_43 rfl hr5 ?_
    refine EV_aload dX11_change_105 rfl ?_
    refine EV_aload dX11_change_107 rfl ?_
    refine EV_iload_n dX11_change_109 rfl ?_
    refine EV_aload_n dX11_change_110 rfl ?_
    have hh := b1_some h; clear h; obtain ⟨x6, hx6, h⟩ := hh
    refine EV_getI (ci := 11) (k := 18) dX11_change_111 fl_X11_131 rfl hx6 ?_
    have hh := b1_some h; clear h; obtain ⟨u18, hu18, h⟩ := hh
    have hh := b2_some h; clear h; obtain ⟨x8, s7, hs7, h⟩ := hh
    refine EV_callV (Y := YX6_object) (as := [VI pi2, VI x6]) (st := [VR (some a1), VR r5]) (st2 := [VL x8, VR (some a1), VR r5]) (a := a1) (ci := 6) (r := rX6) (n := 2) dX11_change_114 (zX6_object E hs7) rfl cwX6_object rfl tw_504 tw_505 tw_506 rfl (e_if hu18).1.1 (e_if hu18).1.2 ⟨by decide, by decide⟩ (Nat.le_of_ble_eq_true rfl) rfl ?_
    refine EV_aload_n dX11_change_117 rfl ?_
    have hh := b1_some h; clear h; obtain ⟨r9, hr9, h⟩ := hh
    refine EV_getP (ci := 11) (k := 5) dX11_change_118 fl_X11_36 rfl hr9 ?_
    have hh := b1_some h; clear h; obtain ⟨a10, ha10, h⟩ := hh
    subst ha10
    have hh := b1_some h; clear h; obtain ⟨u17, hu17, h⟩ := hh
    have hh := b2_some h; clear h; obtain ⟨x12, s11, hs11, h⟩ := hh
    refine EV_callV (Y := YX1_time) (as := []) (st := [VL x8, VR (some a1), VR r5]) (st2 := [VL x12, VL x8, VR (some a1), VR r5]) (a := a10) (ci := 1) (r := rX1) (n := 0) dX11_change_121 (zX1_time E hs11) rfl cwX1_time rfl tw_512 tw_513 tw_514 rfl (e_if hu17).1.1 (e_if hu17).1.2 ⟨by decide, by decide⟩ (Nat.le_of_ble_eq_true rfl) rfl ?_
    have hh := b1_some h; clear h; obtain ⟨a13, ha13, h⟩ := hh
    subst ha13
    have hh := b1_some h; clear h; obtain ⟨u16, hu16, h⟩ := hh
    have hh := b1_some h; clear h; obtain ⟨s14, hs14, h⟩ := hh
    refine EV_callV (Y := YX3_add) (as := [VR (some a1), VL x8, VL x12]) (st := []) (st2 := []) (a := a13) (ci := 3) (r := rX3) (n := 3) dX11_change_124 (zX3_add E hs14) rfl cwX3_add rfl tw_516 tw_517 tw_518 rfl (e_if hu16).1.1 (e_if hu16).1.2 ⟨by decide, by decide⟩ (Nat.le_of_ble_eq_true rfl) rfl ?_
    exact EV_pick [0] rfl (zX11_change_127 E h)
def mX11_change_62 (h0 : Nat) (pi2 : Int32) (pi3 : Int32) (pr4 : Option Nat) (pt0 : Int32) (s0 : eS) : Option (Int32 × eS) :=
  (if pt0 = 0 then (mX11_change_84 h0 pi2 pi3 pr4 pt0 s0) else (b1 (g_P s0 111 6 h0) fun r2 => (b1 r2 fun a3 => (b1 (o_K s0 103 a3) fun u7 => (b2 (mX3_waiting a3 s0) fun x5 s4 => (if x5 < (40 : Int32) then (mX11_change_84 h0 pi2 pi3 pr4 pt0 s4) else (some ((-3 : Int32), s4))))))))
set_option maxRecDepth 100000 in
set_option maxHeartbeats 4000000 in
theorem zX11_change_62 (E : eE) {h0 : Nat} {pi2 : Int32} {pi3 : Int32} {pr4 : Option Nat} {pt0 : Int32} {s0 s9 : eS} {y : Int32} (h : mX11_change_62 h0 pi2 pi3 pr4 pt0 s0 = some (y, s9)) : EV E MX11_change 62 [(0, VR (some h0)), (2, VI pi2), (3, VI pi3), (4, VR pr4)] [VI pt0] s0 (some (VI y)) s9 := by
  unfold mX11_change_62 at h
  refine EV_istore (lv2 := [(5, VI pt0), (0, VR (some h0)), (2, VI pi2), (3, VI pi3), (4, VR pr4)]) dX11_change_62 (by decide) rfl ?_
  refine EV_iload dX11_change_64 rfl ?_
  refine EV_if_eq (tgt := 84) dX11_change_66 (by decide) (fun c1 => ?_) (fun c1 => ?_)
  · rw [if_pos c1] at h
    exact EV_pick [1, 2, 3, 4, 0] rfl (zX11_change_84 E h)
  · rw [if_neg c1] at h
    refine EV_aload_n dX11_change_69 rfl ?_
    have hh := b1_some h; clear h; obtain ⟨r2, hr2, h⟩ := hh
    refine EV_getP (ci := 11) (k := 6) dX11_change_70 fl_X11_43 rfl hr2 ?_
    have hh := b1_some h; clear h; obtain ⟨a3, ha3, h⟩ := hh
    subst ha3
    have hh := b1_some h; clear h; obtain ⟨u7, hu7, h⟩ := hh
    have hh := b2_some h; clear h; obtain ⟨x5, s4, hs4, h⟩ := hh
    refine EV_callV (Y := YX3_waiting) (as := []) (st := []) (st2 := [VI x5]) (a := a3) (ci := 3) (r := rX3) (n := 0) dX11_change_73 (zX3_waiting E hs4) rfl cwX3_waiting rfl tw_500 tw_501 tw_502 rfl (e_if hu7).1.1 (e_if hu7).1.2 ⟨by decide, by decide⟩ (Nat.le_of_ble_eq_true rfl) rfl ?_
    refine EV_bipush (x := (40 : Int32)) dX11_change_76 (by decide) ?_
    refine EV_icmp_lt (tgt := 84) dX11_change_78 (by decide) (fun c6 => ?_) (fun c6 => ?_)
    · rw [if_pos c6] at h
      exact EV_pick [1, 2, 3, 4, 0] rfl (zX11_change_84 E h)
    · rw [if_neg c6] at h
      refine EV_bipush (x := (-3 : Int32)) dX11_change_81 (by decide) ?_
      cases h
      exact EV_ret ⟨dX11_change_83, .int, rfl, rfl⟩ rfl
def mX11_change_47 (h0 : Nat) (pi2 : Int32) (pi3 : Int32) (pr4 : Option Nat) (s0 : eS) : Option (Int32 × eS) :=
  (b1 pr4 fun a1 => (b1 (g_I s0 106 0 a1) fun x2 => (if x2 = (6 : Int32) then (mX11_change_62 h0 pi2 pi3 (some a1) (0 : Int32) s0) else (mX11_change_62 h0 pi2 pi3 (some a1) (1 : Int32) s0))))
set_option maxRecDepth 100000 in
set_option maxHeartbeats 4000000 in
theorem zX11_change_47 (E : eE) {h0 : Nat} {pi2 : Int32} {pi3 : Int32} {pr4 : Option Nat} {s0 s9 : eS} {y : Int32} (h : mX11_change_47 h0 pi2 pi3 pr4 s0 = some (y, s9)) : EV E MX11_change 47 [(0, VR (some h0)), (2, VI pi2), (3, VI pi3), (4, VR pr4)] [] s0 (some (VI y)) s9 := by
  unfold mX11_change_47 at h
  refine EV_aload dX11_change_47 rfl ?_
  have hh := b1_some h; clear h; obtain ⟨a1, ha1, h⟩ := hh
  subst ha1
  have hh := b1_some h; clear h; obtain ⟨x2, hx2, h⟩ := hh
  refine EV_getI (ci := 6) (k := 0) dX11_change_49 fl_X11_105 rfl hx2 ?_
  refine EV_bipush (x := (6 : Int32)) dX11_change_52 (by decide) ?_
  refine EV_icmp_eq (tgt := 61) dX11_change_54 (by decide) (fun c3 => ?_) (fun c3 => ?_)
  · rw [if_pos c3] at h
    refine EV_iconst (x := (0 : Int32)) dX11_change_61 (by decide) ?_
    exact EV_pick [0, 1, 2, 3] rfl (zX11_change_62 E h)
  · rw [if_neg c3] at h
    refine EV_iconst (x := (1 : Int32)) dX11_change_57 (by decide) ?_
    refine EV_goto (tgt := 62) dX11_change_58 (by decide) ?_
    exact EV_pick [0, 1, 2, 3] rfl (zX11_change_62 E h)
def mX11_change (h0 : Nat) (pi1 : Int32) (pi2 : Int32) (pi3 : Int32) (s0 : eS) : Option (Int32 × eS) :=
  (b1 (g_P s0 111 1 h0) fun r1 => (b1 r1 fun a2 => (b1 (o_K s0 107 a2) fun u15 => (b2 (mX7_at a2 pi1 s0) fun r4 s3 => (if r4 = none then (mX11_change_25 s3) else (b1 r4 fun a6 => (b1 (o_K s3 106 a6) fun u14 => (b2 (mX6_fits a6 pi2 pi3 s3) fun x8 s7 => (if x8 = 0 then (mX11_change_25 s7) else (b1 (g_I s7 106 4 a6) fun x10 => (if x10 = pi2 then (b1 (g_I s7 106 5 a6) fun x12 => (if x12 = pi3 then (some ((0 : Int32), s7)) else (mX11_change_47 h0 pi2 pi3 (some a6) s7))) else (mX11_change_47 h0 pi2 pi3 (some a6) s7))))))))))))
set_option maxRecDepth 100000 in
set_option maxHeartbeats 4000000 in
theorem zX11_change (E : eE) {h0 : Nat} {pi1 : Int32} {pi2 : Int32} {pi3 : Int32} {s0 s9 : eS} {y : Int32} (h : mX11_change h0 pi1 pi2 pi3 s0 = some (y, s9)) : EM E YX11_change [VR (some h0), VI pi1, VI pi2, VI pi3] s0 (some (VI y)) s9 := by
  refine EM_of (M := MX11_change) (own := RX11) (ini := false) rfl (by decide +kernel) rfl (fun z => nomatch z) (Nat.le_of_ble_eq_true rfl) ?_
  unfold mX11_change at h
  refine EV_aload_n dX11_change_0 rfl ?_
  have hh := b1_some h; clear h; obtain ⟨r1, hr1, h⟩ := hh
  refine EV_getP (ci := 11) (k := 1) dX11_change_1 fl_X11_16 rfl hr1 ?_
  refine EV_iload_n dX11_change_4 rfl ?_
  have hh := b1_some h; clear h; obtain ⟨a2, ha2, h⟩ := hh
  subst ha2
  have hh := b1_some h; clear h; obtain ⟨u15, hu15, h⟩ := hh
  have hh := b2_some h; clear h; obtain ⟨r4, s3, hs3, h⟩ := hh
  refine EV_callV (Y := YX7_at) (as := [VI pi1]) (st := []) (st2 := [VR r4]) (a := a2) (ci := 7) (r := rX7) (n := 1) dX11_change_5 (zX7_at E hs3) rfl cwX7_at rfl tw_453 tw_454 tw_455 rfl (e_if hu15).1.1 (e_if hu15).1.2 ⟨by decide, by decide⟩ (Nat.le_of_ble_eq_true rfl) rfl ?_
  refine EV_astore (lv2 := [(4, VR r4), (0, VR (some h0)), (1, VI pi1), (2, VI pi2), (3, VI pi3)]) dX11_change_8 (by decide) rfl ?_
  refine EV_aload dX11_change_10 rfl ?_
  refine EV_ifnull (tgt := 25) dX11_change_12 (by decide) (fun c5 => ?_) (fun c5 => ?_)
  · rw [if_pos c5] at h
    exact EV_pick [] rfl (zX11_change_25 E h)
  · rw [if_neg c5] at h
    refine EV_aload dX11_change_15 rfl ?_
    refine EV_iload_n dX11_change_17 rfl ?_
    refine EV_iload_n dX11_change_18 rfl ?_
    have hh := b1_some h; clear h; obtain ⟨a6, ha6, h⟩ := hh
    subst ha6
    have hh := b1_some h; clear h; obtain ⟨u14, hu14, h⟩ := hh
    have hh := b2_some h; clear h; obtain ⟨x8, s7, hs7, h⟩ := hh
    refine EV_callV (Y := YX6_fits) (as := [VI pi2, VI pi3]) (st := []) (st2 := [VI x8]) (a := a6) (ci := 6) (r := rX6) (n := 2) dX11_change_19 (zX6_fits E hs7) rfl cwX6_fits rfl tw_488 tw_489 tw_490 rfl (e_if hu14).1.1 (e_if hu14).1.2 ⟨by decide, by decide⟩ (Nat.le_of_ble_eq_true rfl) rfl ?_
    refine EV_if_ne (tgt := 27) dX11_change_22 (by decide) (fun c9 => ?_) (fun c9 => ?_)
    · rw [if_pos c9] at h
      exact EV_pick [] rfl (zX11_change_25 E h)
    · rw [if_neg c9] at h
      refine EV_aload dX11_change_27 rfl ?_
      have hh := b1_some h; clear h; obtain ⟨x10, hx10, h⟩ := hh
      refine EV_getI (ci := 6) (k := 4) dX11_change_29 fl_X11_121 rfl hx10 ?_
      refine EV_iload_n dX11_change_32 rfl ?_
      refine EV_icmp_ne (tgt := 47) dX11_change_33 (by decide) (fun c11 => ?_) (fun c11 => ?_)
      · rw [if_pos c11] at h
        refine EV_aload dX11_change_36 rfl ?_
        have hh := b1_some h; clear h; obtain ⟨x12, hx12, h⟩ := hh
        refine EV_getI (ci := 6) (k := 5) dX11_change_38 fl_X11_124 rfl hx12 ?_
        refine EV_iload_n dX11_change_41 rfl ?_
        refine EV_icmp_ne (tgt := 47) dX11_change_42 (by decide) (fun c13 => ?_) (fun c13 => ?_)
        · rw [if_pos c13] at h
          refine EV_iconst (x := (0 : Int32)) dX11_change_45 (by decide) ?_
          cases h
          exact EV_ret ⟨dX11_change_46, .int, rfl, rfl⟩ rfl
        · rw [if_neg c13] at h
          exact EV_pick [1, 3, 4, 0] rfl (zX11_change_47 E h)
      · rw [if_neg c11] at h
        exact EV_pick [1, 3, 4, 0] rfl (zX11_change_47 E h)
def mX11_open (h0 : Nat) (s0 : eS) : Option (Int32 × eS) :=
  (b1 (g_I s0 111 11 h0) fun x1 => (if x1 = 0 then (b1 (p_I s0 111 11 h0 (1 : Int32)) fun s3 => (b1 (g_P s3 111 10 h0) fun r4 => (b1 r4 fun a5 => (b1 (o_K s3 105 a5) fun u20 => (b1 (mX5_clear a5 s3) fun s6 => (b1 (g_P s6 111 9 h0) fun r8 => (b1 r8 fun a9 => (b1 (o_K s6 110 a9) fun u19 => (b1 (mX10_restart a9 s6) fun s10 => (b1 (g_P s10 111 8 h0) fun r12 => (b1 r12 fun a13 => (b1 (o_K s10 108 a13) fun u18 => (b1 (mX8_restart a13 s10) fun s14 => (b1 (g_I s14 111 13 h0) fun x16 => (b1 (p_I s14 111 14 h0 x16) fun s17 => (some ((1 : Int32), s17))))))))))))))))) else (some ((-2 : Int32), s0))))
set_option maxRecDepth 100000 in
set_option maxHeartbeats 4000000 in
theorem zX11_open (E : eE) {h0 : Nat} {s0 s9 : eS} {y : Int32} (h : mX11_open h0 s0 = some (y, s9)) : EM E YX11_open [VR (some h0)] s0 (some (VI y)) s9 := by
  refine EM_of (M := MX11_open) (own := RX11) (ini := false) rfl (by decide +kernel) rfl (fun z => nomatch z) (Nat.le_of_ble_eq_true rfl) ?_
  unfold mX11_open at h
  refine EV_aload_n dX11_open_0 rfl ?_
  have hh := b1_some h; clear h; obtain ⟨x1, hx1, h⟩ := hh
  refine EV_getI (ci := 11) (k := 11) dX11_open_1 fl_X11_75 rfl hx1 ?_
  refine EV_if_eq (tgt := 10) dX11_open_4 (by decide) (fun c2 => ?_) (fun c2 => ?_)
  · rw [if_pos c2] at h
    refine EV_aload_n dX11_open_10 rfl ?_
    refine EV_iconst (x := (1 : Int32)) dX11_open_11 (by decide) ?_
    have hh := b1_some h; clear h; obtain ⟨s3, hs3, h⟩ := hh
    refine EV_putI (ci := 11) (k := 11) dX11_open_12 fp_X11_75 rfl hs3 ?_
    refine EV_aload_n dX11_open_15 rfl ?_
    have hh := b1_some h; clear h; obtain ⟨r4, hr4, h⟩ := hh
    refine EV_getP (ci := 11) (k := 10) dX11_open_16 fl_X11_71 rfl hr4 ?_
    have hh := b1_some h; clear h; obtain ⟨a5, ha5, h⟩ := hh
    subst ha5
    have hh := b1_some h; clear h; obtain ⟨u20, hu20, h⟩ := hh
    have hh := b1_some h; clear h; obtain ⟨s6, hs6, h⟩ := hh
    refine EV_callV (Y := YX5_clear) (as := []) (st := []) (st2 := []) (a := a5) (ci := 5) (r := rX5) (n := 0) dX11_open_19 (zX5_clear E hs6) rfl cwX5_clear rfl tw_611 tw_612 tw_613 rfl (e_if hu20).1.1 (e_if hu20).1.2 ⟨by decide, by decide⟩ (Nat.le_of_ble_eq_true rfl) rfl ?_
    refine EV_aload_n dX11_open_22 rfl ?_
    have hh := b1_some h; clear h; obtain ⟨r8, hr8, h⟩ := hh
    refine EV_getP (ci := 11) (k := 9) dX11_open_23 fl_X11_64 rfl hr8 ?_
    have hh := b1_some h; clear h; obtain ⟨a9, ha9, h⟩ := hh
    subst ha9
    have hh := b1_some h; clear h; obtain ⟨u19, hu19, h⟩ := hh
    have hh := b1_some h; clear h; obtain ⟨s10, hs10, h⟩ := hh
    refine EV_callV (Y := YX10_restart) (as := []) (st := []) (st2 := []) (a := a9) (ci := 10) (r := rX10) (n := 0) dX11_open_26 (zX10_restart E hs10) rfl cwX10_restart rfl tw_615 tw_616 tw_617 rfl (e_if hu19).1.1 (e_if hu19).1.2 ⟨by decide, by decide⟩ (Nat.le_of_ble_eq_true rfl) rfl ?_
    refine EV_aload_n dX11_open_29 rfl ?_
    have hh := b1_some h; clear h; obtain ⟨r12, hr12, h⟩ := hh
    refine EV_getP (ci := 11) (k := 8) dX11_open_30 fl_X11_57 rfl hr12 ?_
    have hh := b1_some h; clear h; obtain ⟨a13, ha13, h⟩ := hh
    subst ha13
    have hh := b1_some h; clear h; obtain ⟨u18, hu18, h⟩ := hh
    have hh := b1_some h; clear h; obtain ⟨s14, hs14, h⟩ := hh
    refine EV_callV (Y := YX8_restart) (as := []) (st := []) (st2 := []) (a := a13) (ci := 8) (r := rX8) (n := 0) dX11_open_33 (zX8_restart E hs14) rfl cwX8_restart rfl tw_620 tw_621 tw_622 rfl (e_if hu18).1.1 (e_if hu18).1.2 ⟨by decide, by decide⟩ (Nat.le_of_ble_eq_true rfl) rfl ?_
    refine EV_aload_n dX11_open_36 rfl ?_
    refine EV_aload_n dX11_open_37 rfl ?_
    have hh := b1_some h; clear h; obtain ⟨x16, hx16, h⟩ := hh
    refine EV_getI (ci := 11) (k := 13) dX11_open_38 fl_X11_155 rfl hx16 ?_
    have hh := b1_some h; clear h; obtain ⟨s17, hs17, h⟩ := hh
    refine EV_putI (ci := 11) (k := 14) dX11_open_41 fp_X11_158 rfl hs17 ?_
    refine EV_iconst (x := (1 : Int32)) dX11_open_44 (by decide) ?_
    cases h
    exact EV_ret ⟨dX11_open_45, .int, rfl, rfl⟩ rfl
  · rw [if_neg c2] at h
    refine EV_bipush (x := (-2 : Int32)) dX11_open_7 (by decide) ?_
    cases h
    exact EV_ret ⟨dX11_open_9, .int, rfl, rfl⟩ rfl
def mX11_close (h0 : Nat) (s0 : eS) : Option (Int32 × eS) :=
  (b1 (g_I s0 111 11 h0) fun x1 => (if x1 = 0 then (some ((-2 : Int32), s0)) else (b1 (o_K s0 111 h0) fun u5 => (b1 (mX11_shut h0 (1 : Int32) s0) fun s3 => (some ((1 : Int32), s3))))))
set_option maxRecDepth 100000 in
set_option maxHeartbeats 4000000 in
theorem zX11_close (E : eE) {h0 : Nat} {s0 s9 : eS} {y : Int32} (h : mX11_close h0 s0 = some (y, s9)) : EM E YX11_close [VR (some h0)] s0 (some (VI y)) s9 := by
  refine EM_of (M := MX11_close) (own := RX11) (ini := false) rfl (by decide +kernel) rfl (fun z => nomatch z) (Nat.le_of_ble_eq_true rfl) ?_
  unfold mX11_close at h
  refine EV_aload_n dX11_close_0 rfl ?_
  have hh := b1_some h; clear h; obtain ⟨x1, hx1, h⟩ := hh
  refine EV_getI (ci := 11) (k := 11) dX11_close_1 fl_X11_75 rfl hx1 ?_
  refine EV_if_ne (tgt := 10) dX11_close_4 (by decide) (fun c2 => ?_) (fun c2 => ?_)
  · rw [if_pos c2] at h
    refine EV_bipush (x := (-2 : Int32)) dX11_close_7 (by decide) ?_
    cases h
    exact EV_ret ⟨dX11_close_9, .int, rfl, rfl⟩ rfl
  · rw [if_neg c2] at h
    refine EV_aload_n dX11_close_10 rfl ?_
    refine EV_iconst (x := (1 : Int32)) dX11_close_11 (by decide) ?_
    have hh := b1_some h; clear h; obtain ⟨u5, hu5, h⟩ := hh
    have hh := b1_some h; clear h; obtain ⟨s3, hs3, h⟩ := hh
    refine EV_callV (Y := YX11_shut) (as := [VI (1 : Int32)]) (st := []) (st2 := []) (a := h0) (ci := 11) (r := rX11) (n := 1) dX11_close_12 (zX11_shut E hs3) rfl cwX11_shut rfl tw_540 tw_542 tw_5 rfl (e_if hu5).1.1 (e_if hu5).1.2 ⟨by decide, by decide⟩ (Nat.le_of_ble_eq_true rfl) rfl ?_
    refine EV_iconst (x := (1 : Int32)) dX11_close_15 (by decide) ?_
    cases h
    exact EV_ret ⟨dX11_close_16, .int, rfl, rfl⟩ rfl
def mX11_acknowledge_46 (k24 : Nat → Int32 → Int32 → eS → Option (Int32 × eS)) (h0 : Nat) (pi2 : Int32) (pi3 : Int32) (s0 : eS) : Option (Int32 × eS) :=
  (k24 h0 pi2 (pi3 + (1 : Int32)) s0)
set_option maxRecDepth 100000 in
set_option maxHeartbeats 4000000 in
theorem zX11_acknowledge_46 (E : eE) {k24 : Nat → Int32 → Int32 → eS → Option (Int32 × eS)} (hk24 : ∀ {h0 : Nat} {pi2 : Int32} {pi3 : Int32} {s0 s9 : eS} {y : Int32}, k24 h0 pi2 pi3 s0 = some (y, s9) → EV E MX11_acknowledge 24 [(0, VR (some h0)), (2, VI pi2), (3, VI pi3)] [] s0 (some (VI y)) s9) {h0 : Nat} {pi2 : Int32} {pi3 : Int32} {s0 s9 : eS} {y : Int32} (h : mX11_acknowledge_46 k24 h0 pi2 pi3 s0 = some (y, s9)) : EV E MX11_acknowledge 46 [(0, VR (some h0)), (2, VI pi2), (3, VI pi3)] [] s0 (some (VI y)) s9 := by
  unfold mX11_acknowledge_46 at h
  refine EV_iinc (y := (1 : Int32)) (lv2 := [(3, VI (pi3 + (1 : Int32))), (0, VR (some h0)), (2, VI pi2)]) dX11_acknowledge_46 rfl (by decide) (by decide) rfl ?_
  refine EV_goto (tgt := 24) dX11_acknowledge_49 (by decide) ?_
  exact EV_pick [1, 2, 0] rfl (hk24 h)
def mX11_acknowledge_24 : Nat → Nat → Int32 → Int32 → eS → Option (Int32 × eS)
  | 0, _, _, _, _ => none
  | n + 1, h0, pi2, pi3, s0 =>
  (if pi2 ≤ pi3 then (b1 (o_Z (1 : Int32)) fun u2 => some ((1 : Int32), s0)) else (b1 (g_P s0 111 9 h0) fun r2 => (b1 r2 fun a3 => (b1 (o_K s0 110 a3) fun u12 => (b2 (mX10_dropEldest a3 s0) fun x5 s4 => (if x5 = 0 then (mX11_acknowledge_46 (mX11_acknowledge_24 n) h0 pi2 pi3 s4) else (b1 (g_P s4 111 6 h0) fun r7 => (b1 r7 fun a8 => (b1 (o_K s4 103 a8) fun u11 => (b1 (mX3_dropEldest a8 s4) fun s9 => (mX11_acknowledge_46 (mX11_acknowledge_24 n) h0 pi2 pi3 s9)))))))))))
set_option maxRecDepth 100000 in
set_option maxHeartbeats 4000000 in
theorem zX11_acknowledge_24 (E : eE) : ∀ (n : Nat) {h0 : Nat} {pi2 : Int32} {pi3 : Int32} {s0 s9 : eS} {y : Int32}, mX11_acknowledge_24 n h0 pi2 pi3 s0 = some (y, s9) → EV E MX11_acknowledge 24 [(0, VR (some h0)), (2, VI pi2), (3, VI pi3)] [] s0 (some (VI y)) s9 := by
  intro n
  induction n with
  | zero =>
    intro h0 pi2 pi3 s0 s9 y h
    unfold mX11_acknowledge_24 at h
    cases h
  | succ n ih =>
    intro h0 pi2 pi3 s0 s9 y h
    unfold mX11_acknowledge_24 at h
    refine EV_iload_n dX11_acknowledge_24 rfl ?_
    refine EV_iload_n dX11_acknowledge_25 rfl ?_
    refine EV_icmp_ge (tgt := 52) dX11_acknowledge_26 (by decide) (fun c1 => ?_) (fun c1 => ?_)
    · rw [if_pos c1] at h
      refine EV_iconst (x := (1 : Int32)) dX11_acknowledge_52 (by decide) ?_
      have hh := b1_some h; clear h; obtain ⟨u2, hu2, h⟩ := hh
      cases h
      exact EV_ret ⟨dX11_acknowledge_53, .boolean, rfl, o_Z_n hu2⟩ rfl
    · rw [if_neg c1] at h
      refine EV_aload_n dX11_acknowledge_29 rfl ?_
      have hh := b1_some h; clear h; obtain ⟨r2, hr2, h⟩ := hh
      refine EV_getP (ci := 11) (k := 9) dX11_acknowledge_30 fl_X11_64 rfl hr2 ?_
      have hh := b1_some h; clear h; obtain ⟨a3, ha3, h⟩ := hh
      subst ha3
      have hh := b1_some h; clear h; obtain ⟨u12, hu12, h⟩ := hh
      have hh := b2_some h; clear h; obtain ⟨x5, s4, hs4, h⟩ := hh
      refine EV_callV (Y := YX10_dropEldest) (as := []) (st := []) (st2 := [VI x5]) (a := a3) (ci := 10) (r := rX10) (n := 0) dX11_acknowledge_33 (zX10_dropEldest E hs4) rfl cwX10_dropEldest rfl tw_667 tw_668 tw_669 rfl (e_if hu12).1.1 (e_if hu12).1.2 ⟨by decide, by decide⟩ (Nat.le_of_ble_eq_true rfl) rfl ?_
      refine EV_if_eq (tgt := 46) dX11_acknowledge_36 (by decide) (fun c6 => ?_) (fun c6 => ?_)
      · rw [if_pos c6] at h
        exact EV_pick [0, 1, 2] rfl (zX11_acknowledge_46 E (@ih) h)
      · rw [if_neg c6] at h
        refine EV_aload_n dX11_acknowledge_39 rfl ?_
        have hh := b1_some h; clear h; obtain ⟨r7, hr7, h⟩ := hh
        refine EV_getP (ci := 11) (k := 6) dX11_acknowledge_40 fl_X11_43 rfl hr7 ?_
        have hh := b1_some h; clear h; obtain ⟨a8, ha8, h⟩ := hh
        subst ha8
        have hh := b1_some h; clear h; obtain ⟨u11, hu11, h⟩ := hh
        have hh := b1_some h; clear h; obtain ⟨s9, hs9, h⟩ := hh
        refine EV_callV (Y := YX3_dropEldest) (as := []) (st := []) (st2 := []) (a := a8) (ci := 3) (r := rX3) (n := 0) dX11_acknowledge_43 (zX3_dropEldest E hs9) rfl cwX3_dropEldest rfl tw_671 tw_672 tw_673 rfl (e_if hu11).1.1 (e_if hu11).1.2 ⟨by decide, by decide⟩ (Nat.le_of_ble_eq_true rfl) rfl ?_
        exact EV_pick [0, 1, 2] rfl (zX11_acknowledge_46 E (@ih) h)
def mX11_acknowledge (h0 : Nat) (pi1 : Int32) (s0 : eS) : Option (Int32 × eS) :=
  (b1 (g_P s0 111 9 h0) fun r1 => (b1 r1 fun a2 => (b1 (o_K s0 110 a2) fun u10 => (b2 (mX10_newlyAcknowledged a2 pi1 s0) fun x4 s3 => (b1 (g_P s3 111 9 h0) fun r5 => (b1 r5 fun a6 => (b1 (g_I s3 110 3 a6) fun x7 => (if x4 ≤ x7 then (mX11_acknowledge_24 100000 h0 x4 (0 : Int32) s3) else (b1 (o_Z (0 : Int32)) fun u9 => some ((0 : Int32), s3))))))))))
set_option maxRecDepth 100000 in
set_option maxHeartbeats 4000000 in
theorem zX11_acknowledge (E : eE) {h0 : Nat} {pi1 : Int32} {s0 s9 : eS} {y : Int32} (h : mX11_acknowledge h0 pi1 s0 = some (y, s9)) : EM E YX11_acknowledge [VR (some h0), VI pi1] s0 (some (VI y)) s9 := by
  refine EM_of (M := MX11_acknowledge) (own := RX11) (ini := false) rfl (by decide +kernel) rfl (fun z => nomatch z) (Nat.le_of_ble_eq_true rfl) ?_
  unfold mX11_acknowledge at h
  refine EV_aload_n dX11_acknowledge_0 rfl ?_
  have hh := b1_some h; clear h; obtain ⟨r1, hr1, h⟩ := hh
  refine EV_getP (ci := 11) (k := 9) dX11_acknowledge_1 fl_X11_64 rfl hr1 ?_
  refine EV_iload_n dX11_acknowledge_4 rfl ?_
  have hh := b1_some h; clear h; obtain ⟨a2, ha2, h⟩ := hh
  subst ha2
  have hh := b1_some h; clear h; obtain ⟨u10, hu10, h⟩ := hh
  have hh := b2_some h; clear h; obtain ⟨x4, s3, hs3, h⟩ := hh
  refine EV_callV (Y := YX10_newlyAcknowledged) (as := [VI pi1]) (st := []) (st2 := [VI x4]) (a := a2) (ci := 10) (r := rX10) (n := 1) dX11_acknowledge_5 (zX10_newlyAcknowledged E hs3) rfl cwX10_newlyAcknowledged rfl tw_663 tw_664 tw_665 rfl (e_if hu10).1.1 (e_if hu10).1.2 ⟨by decide, by decide⟩ (Nat.le_of_ble_eq_true rfl) rfl ?_
  refine EV_istore_n (lv2 := [(2, VI x4), (0, VR (some h0)), (1, VI pi1)]) dX11_acknowledge_8 (by decide) rfl ?_
  refine EV_iload_n dX11_acknowledge_9 rfl ?_
  refine EV_aload_n dX11_acknowledge_10 rfl ?_
  have hh := b1_some h; clear h; obtain ⟨r5, hr5, h⟩ := hh
  refine EV_getP (ci := 11) (k := 9) dX11_acknowledge_11 fl_X11_64 rfl hr5 ?_
  have hh := b1_some h; clear h; obtain ⟨a6, ha6, h⟩ := hh
  subst ha6
  have hh := b1_some h; clear h; obtain ⟨x7, hx7, h⟩ := hh
  refine EV_getI (ci := 10) (k := 3) dX11_acknowledge_14 fl_X11_248 rfl hx7 ?_
  refine EV_icmp_le (tgt := 22) dX11_acknowledge_17 (by decide) (fun c8 => ?_) (fun c8 => ?_)
  · rw [if_pos c8] at h
    refine EV_iconst (x := (0 : Int32)) dX11_acknowledge_22 (by decide) ?_
    refine EV_istore_n (lv2 := [(3, VI (0 : Int32)), (2, VI x4), (0, VR (some h0)), (1, VI pi1)]) dX11_acknowledge_23 (by decide) rfl ?_
    exact EV_pick [2, 1, 0] rfl (zX11_acknowledge_24 E _ h)
  · rw [if_neg c8] at h
    refine EV_iconst (x := (0 : Int32)) dX11_acknowledge_20 (by decide) ?_
    have hh := b1_some h; clear h; obtain ⟨u9, hu9, h⟩ := hh
    cases h
    exact EV_ret ⟨dX11_acknowledge_21, .boolean, rfl, o_Z_n hu9⟩ rfl
def mX11_acceptData_54 (h0 : Nat) (s0 : eS) : Option (Int32 × eS) :=
  (b1 (o_K s0 111 h0) fun u4 => (b1 (mX11_shut h0 (3 : Int32) s0) fun s1 => (b1 (o_Z (0 : Int32)) fun u3 => some ((0 : Int32), s1))))
set_option maxRecDepth 100000 in
set_option maxHeartbeats 4000000 in
theorem zX11_acceptData_54 (E : eE) {h0 : Nat} {s0 s9 : eS} {y : Int32} (h : mX11_acceptData_54 h0 s0 = some (y, s9)) : EV E MX11_acceptData 54 [(0, VR (some h0))] [] s0 (some (VI y)) s9 := by
  unfold mX11_acceptData_54 at h
  refine EV_aload_n dX11_acceptData_54 rfl ?_
  refine EV_iconst (x := (3 : Int32)) dX11_acceptData_55 (by decide) ?_
  have hh := b1_some h; clear h; obtain ⟨u4, hu4, h⟩ := hh
  have hh := b1_some h; clear h; obtain ⟨s1, hs1, h⟩ := hh
  refine EV_callV (Y := YX11_shut) (as := [VI (3 : Int32)]) (st := []) (st2 := []) (a := h0) (ci := 11) (r := rX11) (n := 1) dX11_acceptData_56 (zX11_shut E hs1) rfl cwX11_shut rfl tw_540 tw_542 tw_5 rfl (e_if hu4).1.1 (e_if hu4).1.2 ⟨by decide, by decide⟩ (Nat.le_of_ble_eq_true rfl) rfl ?_
  refine EV_iconst (x := (0 : Int32)) dX11_acceptData_59 (by decide) ?_
  have hh := b1_some h; clear h; obtain ⟨u3, hu3, h⟩ := hh
  cases h
  exact EV_ret ⟨dX11_acceptData_60, .boolean, rfl, o_Z_n hu3⟩ rfl
def mX11_acceptData_23 (h0 : Nat) (s0 : eS) : Option (Int32 × eS) :=
  (b1 (g_P s0 111 8 h0) fun r1 => (b1 r1 fun a2 => (b1 (o_K s0 108 a2) fun u27 => (b2 (mX8_number a2 s0) fun x4 s3 => (b1 (g_P s3 111 8 h0) fun r5 => (b1 r5 fun a6 => (b1 (o_K s3 108 a6) fun u26 => (b2 (mX8_ackToTell a6 s3) fun x8 s7 => (if x4 = x8 then (b1 (g_P s7 111 8 h0) fun r10 => (b1 r10 fun a11 => (b1 (o_K s7 108 a11) fun u25 => (b2 (mX8_ack a11 s7) fun x13 s12 => (b1 (o_K s12 111 h0) fun u24 => (b2 (mX11_acknowledge h0 x13 s12) fun x15 s14 => (if x15 = 0 then (mX11_acceptData_54 h0 s14) else (b1 (g_P s14 111 8 h0) fun r17 => (b1 (g_I s14 111 13 h0) fun x18 => (b1 r17 fun a19 => (b1 (o_K s14 108 a19) fun u23 => (b1 (mX8_countData a19 x18 s14) fun s20 => (b1 (o_Z (1 : Int32)) fun u22 => some ((1 : Int32), s20)))))))))))))) else (mX11_acceptData_54 h0 s7))))))))))
set_option maxRecDepth 100000 in
set_option maxHeartbeats 4000000 in
theorem zX11_acceptData_23 (E : eE) {h0 : Nat} {s0 s9 : eS} {y : Int32} (h : mX11_acceptData_23 h0 s0 = some (y, s9)) : EV E MX11_acceptData 23 [(0, VR (some h0))] [] s0 (some (VI y)) s9 := by
  unfold mX11_acceptData_23 at h
  refine EV_aload_n dX11_acceptData_23 rfl ?_
  have hh := b1_some h; clear h; obtain ⟨r1, hr1, h⟩ := hh
  refine EV_getP (ci := 11) (k := 8) dX11_acceptData_24 fl_X11_57 rfl hr1 ?_
  have hh := b1_some h; clear h; obtain ⟨a2, ha2, h⟩ := hh
  subst ha2
  have hh := b1_some h; clear h; obtain ⟨u27, hu27, h⟩ := hh
  have hh := b2_some h; clear h; obtain ⟨x4, s3, hs3, h⟩ := hh
  refine EV_callV (Y := YX8_number) (as := []) (st := []) (st2 := [VI x4]) (a := a2) (ci := 8) (r := rX8) (n := 0) dX11_acceptData_27 (zX8_number E hs3) rfl cwX8_number rfl tw_651 tw_652 tw_653 rfl (e_if hu27).1.1 (e_if hu27).1.2 ⟨by decide, by decide⟩ (Nat.le_of_ble_eq_true rfl) rfl ?_
  refine EV_aload_n dX11_acceptData_30 rfl ?_
  have hh := b1_some h; clear h; obtain ⟨r5, hr5, h⟩ := hh
  refine EV_getP (ci := 11) (k := 8) dX11_acceptData_31 fl_X11_57 rfl hr5 ?_
  have hh := b1_some h; clear h; obtain ⟨a6, ha6, h⟩ := hh
  subst ha6
  have hh := b1_some h; clear h; obtain ⟨u26, hu26, h⟩ := hh
  have hh := b2_some h; clear h; obtain ⟨x8, s7, hs7, h⟩ := hh
  refine EV_callV (Y := YX8_ackToTell) (as := []) (st := [VI x4]) (st2 := [VI x8, VI x4]) (a := a6) (ci := 8) (r := rX8) (n := 0) dX11_acceptData_34 (zX8_ackToTell E hs7) rfl cwX8_ackToTell rfl tw_532 tw_533 tw_534 rfl (e_if hu26).1.1 (e_if hu26).1.2 ⟨by decide, by decide⟩ (Nat.le_of_ble_eq_true rfl) rfl ?_
  refine EV_icmp_ne (tgt := 54) dX11_acceptData_37 (by decide) (fun c9 => ?_) (fun c9 => ?_)
  · rw [if_pos c9] at h
    refine EV_aload_n dX11_acceptData_40 rfl ?_
    refine EV_aload_n dX11_acceptData_41 rfl ?_
    have hh := b1_some h; clear h; obtain ⟨r10, hr10, h⟩ := hh
    refine EV_getP (ci := 11) (k := 8) dX11_acceptData_42 fl_X11_57 rfl hr10 ?_
    have hh := b1_some h; clear h; obtain ⟨a11, ha11, h⟩ := hh
    subst ha11
    have hh := b1_some h; clear h; obtain ⟨u25, hu25, h⟩ := hh
    have hh := b2_some h; clear h; obtain ⟨x13, s12, hs12, h⟩ := hh
    refine EV_callV (Y := YX8_ack) (as := []) (st := [VR (some h0)]) (st2 := [VI x13, VR (some h0)]) (a := a11) (ci := 8) (r := rX8) (n := 0) dX11_acceptData_45 (zX8_ack E hs12) rfl cwX8_ack rfl tw_655 tw_656 tw_657 rfl (e_if hu25).1.1 (e_if hu25).1.2 ⟨by decide, by decide⟩ (Nat.le_of_ble_eq_true rfl) rfl ?_
    have hh := b1_some h; clear h; obtain ⟨u24, hu24, h⟩ := hh
    have hh := b2_some h; clear h; obtain ⟨x15, s14, hs14, h⟩ := hh
    refine EV_callV (Y := YX11_acknowledge) (as := [VI x13]) (st := []) (st2 := [VI x15]) (a := h0) (ci := 11) (r := rX11) (n := 1) dX11_acceptData_48 (zX11_acknowledge E hs14) rfl cwX11_acknowledge rfl tw_659 tw_661 tw_9 rfl (e_if hu24).1.1 (e_if hu24).1.2 ⟨by decide, by decide⟩ (Nat.le_of_ble_eq_true rfl) rfl ?_
    refine EV_if_ne (tgt := 61) dX11_acceptData_51 (by decide) (fun c16 => ?_) (fun c16 => ?_)
    · rw [if_pos c16] at h
      exact EV_pick [0] rfl (zX11_acceptData_54 E h)
    · rw [if_neg c16] at h
      refine EV_aload_n dX11_acceptData_61 rfl ?_
      have hh := b1_some h; clear h; obtain ⟨r17, hr17, h⟩ := hh
      refine EV_getP (ci := 11) (k := 8) dX11_acceptData_62 fl_X11_57 rfl hr17 ?_
      refine EV_aload_n dX11_acceptData_65 rfl ?_
      have hh := b1_some h; clear h; obtain ⟨x18, hx18, h⟩ := hh
      refine EV_getI (ci := 11) (k := 13) dX11_acceptData_66 fl_X11_155 rfl hx18 ?_
      have hh := b1_some h; clear h; obtain ⟨a19, ha19, h⟩ := hh
      subst ha19
      have hh := b1_some h; clear h; obtain ⟨u23, hu23, h⟩ := hh
      have hh := b1_some h; clear h; obtain ⟨s20, hs20, h⟩ := hh
      refine EV_callV (Y := YX8_countData) (as := [VI x18]) (st := []) (st2 := []) (a := a19) (ci := 8) (r := rX8) (n := 1) dX11_acceptData_69 (zX8_countData E hs20) rfl cwX8_countData rfl tw_675 tw_676 tw_677 rfl (e_if hu23).1.1 (e_if hu23).1.2 ⟨by decide, by decide⟩ (Nat.le_of_ble_eq_true rfl) rfl ?_
      refine EV_iconst (x := (1 : Int32)) dX11_acceptData_72 (by decide) ?_
      have hh := b1_some h; clear h; obtain ⟨u22, hu22, h⟩ := hh
      cases h
      exact EV_ret ⟨dX11_acceptData_73, .boolean, rfl, o_Z_n hu22⟩ rfl
  · rw [if_neg c9] at h
    exact EV_pick [0] rfl (zX11_acceptData_54 E h)
def mX11_acceptData (h0 : Nat) (s0 : eS) : Option (Int32 × eS) :=
  (b1 (g_I s0 111 11 h0) fun x1 => (if x1 = (2 : Int32) then (mX11_acceptData_23 h0 s0) else (b1 (g_I s0 111 11 h0) fun x3 => (if x3 = (3 : Int32) then (mX11_acceptData_23 h0 s0) else (b1 (o_K s0 111 h0) fun u8 => (b1 (mX11_shut h0 (5 : Int32) s0) fun s5 => (b1 (o_Z (0 : Int32)) fun u7 => some ((0 : Int32), s5))))))))
set_option maxRecDepth 100000 in
set_option maxHeartbeats 4000000 in
theorem zX11_acceptData (E : eE) {h0 : Nat} {s0 s9 : eS} {y : Int32} (h : mX11_acceptData h0 s0 = some (y, s9)) : EM E YX11_acceptData [VR (some h0)] s0 (some (VI y)) s9 := by
  refine EM_of (M := MX11_acceptData) (own := RX11) (ini := false) rfl (by decide +kernel) rfl (fun z => nomatch z) (Nat.le_of_ble_eq_true rfl) ?_
  unfold mX11_acceptData at h
  refine EV_aload_n dX11_acceptData_0 rfl ?_
  have hh := b1_some h; clear h; obtain ⟨x1, hx1, h⟩ := hh
  refine EV_getI (ci := 11) (k := 11) dX11_acceptData_1 fl_X11_75 rfl hx1 ?_
  refine EV_iconst (x := (2 : Int32)) dX11_acceptData_4 (by decide) ?_
  refine EV_icmp_eq (tgt := 23) dX11_acceptData_5 (by decide) (fun c2 => ?_) (fun c2 => ?_)
  · rw [if_pos c2] at h
    exact EV_pick [0] rfl (zX11_acceptData_23 E h)
  · rw [if_neg c2] at h
    refine EV_aload_n dX11_acceptData_8 rfl ?_
    have hh := b1_some h; clear h; obtain ⟨x3, hx3, h⟩ := hh
    refine EV_getI (ci := 11) (k := 11) dX11_acceptData_9 fl_X11_75 rfl hx3 ?_
    refine EV_iconst (x := (3 : Int32)) dX11_acceptData_12 (by decide) ?_
    refine EV_icmp_eq (tgt := 23) dX11_acceptData_13 (by decide) (fun c4 => ?_) (fun c4 => ?_)
    · rw [if_pos c4] at h
      exact EV_pick [0] rfl (zX11_acceptData_23 E h)
    · rw [if_neg c4] at h
      refine EV_aload_n dX11_acceptData_16 rfl ?_
      refine EV_iconst (x := (5 : Int32)) dX11_acceptData_17 (by decide) ?_
      have hh := b1_some h; clear h; obtain ⟨u8, hu8, h⟩ := hh
      have hh := b1_some h; clear h; obtain ⟨s5, hs5, h⟩ := hh
      refine EV_callV (Y := YX11_shut) (as := [VI (5 : Int32)]) (st := []) (st2 := []) (a := h0) (ci := 11) (r := rX11) (n := 1) dX11_acceptData_18 (zX11_shut E hs5) rfl cwX11_shut rfl tw_540 tw_542 tw_5 rfl (e_if hu8).1.1 (e_if hu8).1.2 ⟨by decide, by decide⟩ (Nat.le_of_ble_eq_true rfl) rfl ?_
      refine EV_iconst (x := (0 : Int32)) dX11_acceptData_21 (by decide) ?_
      have hh := b1_some h; clear h; obtain ⟨u7, hu7, h⟩ := hh
      cases h
      exact EV_ret ⟨dX11_acceptData_22, .boolean, rfl, o_Z_n hu7⟩ rfl
def mX11_sendAck_28 (s0 : eS) : Option eS :=
  (some s0)
set_option maxRecDepth 100000 in
set_option maxHeartbeats 4000000 in
theorem zX11_sendAck_28 (E : eE) {s0 s9 : eS} (h : mX11_sendAck_28 s0 = some s9) : EV E MX11_sendAck 28 [] [] s0 none s9 := by
  unfold mX11_sendAck_28 at h
  cases h
  exact EV_ret ⟨dX11_sendAck_28, rfl⟩ rfl
def mX11_sendAck (h0 : Nat) (s0 : eS) : Option eS :=
  (b1 (g_P s0 111 8 h0) fun r1 => (b1 r1 fun a2 => (b1 (o_K s0 108 a2) fun u12 => (b2 (mX8_ackToTell a2 s0) fun x4 s3 => (b1 (o_K s3 111 h0) fun u11 => (b2 (mX11_sendFrame h0 ((1 : Int32) ||| (x4 <<< ((17 : Int32) &&& 31))) none s3) fun x6 s5 => (if x6 = 0 then (mX11_sendAck_28 s5) else (b1 (g_P s5 111 8 h0) fun r8 => (b1 r8 fun a9 => (b1 (p_I s5 108 3 a9 (0 : Int32)) fun s10 => (mX11_sendAck_28 s10)))))))))))
set_option maxRecDepth 100000 in
set_option maxHeartbeats 4000000 in
theorem zX11_sendAck (E : eE) {h0 : Nat} {s0 s9 : eS} (h : mX11_sendAck h0 s0 = some s9) : EM E YX11_sendAck [VR (some h0)] s0 none s9 := by
  refine EM_of (M := MX11_sendAck) (own := RX11) (ini := false) rfl (by decide +kernel) rfl (fun z => nomatch z) (Nat.le_of_ble_eq_true rfl) ?_
  unfold mX11_sendAck at h
  refine EV_aload_n dX11_sendAck_0 rfl ?_
  refine EV_iconst (x := (1 : Int32)) dX11_sendAck_1 (by decide) ?_
  refine EV_aload_n dX11_sendAck_2 rfl ?_
  have hh := b1_some h; clear h; obtain ⟨r1, hr1, h⟩ := hh
  refine EV_getP (ci := 11) (k := 8) dX11_sendAck_3 fl_X11_57 rfl hr1 ?_
  have hh := b1_some h; clear h; obtain ⟨a2, ha2, h⟩ := hh
  subst ha2
  have hh := b1_some h; clear h; obtain ⟨u12, hu12, h⟩ := hh
  have hh := b2_some h; clear h; obtain ⟨x4, s3, hs3, h⟩ := hh
  refine EV_callV (Y := YX8_ackToTell) (as := []) (st := [VI (1 : Int32), VR (some h0)]) (st2 := [VI x4, VI (1 : Int32), VR (some h0)]) (a := a2) (ci := 8) (r := rX8) (n := 0) dX11_sendAck_6 (zX8_ackToTell E hs3) rfl cwX8_ackToTell rfl tw_532 tw_533 tw_534 rfl (e_if hu12).1.1 (e_if hu12).1.2 ⟨by decide, by decide⟩ (Nat.le_of_ble_eq_true rfl) rfl ?_
  refine EV_bipush (x := (17 : Int32)) dX11_sendAck_9 (by decide) ?_
  refine EV_ishl dX11_sendAck_11 ?_
  refine EV_ior dX11_sendAck_12 ?_
  refine EV_null dX11_sendAck_13 ?_
  have hh := b1_some h; clear h; obtain ⟨u11, hu11, h⟩ := hh
  have hh := b2_some h; clear h; obtain ⟨x6, s5, hs5, h⟩ := hh
  refine EV_callV (Y := YX11_sendFrame) (as := [VI ((1 : Int32) ||| (x4 <<< ((17 : Int32) &&& 31))), VR none]) (st := []) (st2 := [VI x6]) (a := h0) (ci := 11) (r := rX11) (n := 2) dX11_sendAck_14 (zX11_sendFrame E hs5) rfl cwX11_sendFrame rfl tw_536 tw_538 tw_4 rfl (e_if hu11).1.1 (e_if hu11).1.2 ⟨by decide, by decide⟩ (Nat.le_of_ble_eq_true rfl) rfl ?_
  refine EV_if_eq (tgt := 28) dX11_sendAck_17 (by decide) (fun c7 => ?_) (fun c7 => ?_)
  · rw [if_pos c7] at h
    exact EV_pick [] rfl (zX11_sendAck_28 E h)
  · rw [if_neg c7] at h
    refine EV_aload_n dX11_sendAck_20 rfl ?_
    have hh := b1_some h; clear h; obtain ⟨r8, hr8, h⟩ := hh
    refine EV_getP (ci := 11) (k := 8) dX11_sendAck_21 fl_X11_57 rfl hr8 ?_
    refine EV_iconst (x := (0 : Int32)) dX11_sendAck_24 (by decide) ?_
    have hh := b1_some h; clear h; obtain ⟨a9, ha9, h⟩ := hh
    subst ha9
    have hh := b1_some h; clear h; obtain ⟨s10, hs10, h⟩ := hh
    refine EV_putI (ci := 8) (k := 3) dX11_sendAck_25 fp_X11_254 rfl hs10 ?_
    exact EV_pick [] rfl (zX11_sendAck_28 E h)
def mX11_stopCame_46 (s0 : eS) : Option eS :=
  (some s0)
set_option maxRecDepth 100000 in
set_option maxHeartbeats 4000000 in
theorem zX11_stopCame_46 (E : eE) {s0 s9 : eS} (h : mX11_stopCame_46 s0 = some s9) : EV E MX11_stopCame 46 [] [] s0 none s9 := by
  unfold mX11_stopCame_46 at h
  cases h
  exact EV_ret ⟨dX11_stopCame_46, rfl⟩ rfl
def mX11_stopCame (h0 : Nat) (s0 : eS) : Option eS :=
  (b1 (g_I s0 111 11 h0) fun x1 => (if x1 = (2 : Int32) then (b1 (p_I s0 111 11 h0 (3 : Int32)) fun s3 => (b1 (g_P s3 111 8 h0) fun r4 => (b1 r4 fun a5 => (b1 (g_I s3 108 3 a5) fun x6 => (if x6 ≤ 0 then (mX11_stopCame_46 s3) else (b1 (o_K s3 111 h0) fun u10 => (b1 (mX11_sendAck h0 s3) fun s8 => (mX11_stopCame_46 s8)))))))) else (b1 (g_I s0 111 11 h0) fun x3 => (if x3 = (1 : Int32) then (b1 (o_K s0 111 h0) fun u7 => (b2 (mX11_sendFrame h0 (35 : Int32) none s0) fun x6 s5 => (mX11_stopCame_46 s5))) else (mX11_stopCame_46 s0)))))
set_option maxRecDepth 100000 in
set_option maxHeartbeats 4000000 in
theorem zX11_stopCame (E : eE) {h0 : Nat} {s0 s9 : eS} (h : mX11_stopCame h0 s0 = some s9) : EM E YX11_stopCame [VR (some h0)] s0 none s9 := by
  refine EM_of (M := MX11_stopCame) (own := RX11) (ini := false) rfl (by decide +kernel) rfl (fun z => nomatch z) (Nat.le_of_ble_eq_true rfl) ?_
  unfold mX11_stopCame at h
  refine EV_aload_n dX11_stopCame_0 rfl ?_
  have hh := b1_some h; clear h; obtain ⟨x1, hx1, h⟩ := hh
  refine EV_getI (ci := 11) (k := 11) dX11_stopCame_1 fl_X11_75 rfl hx1 ?_
  refine EV_iconst (x := (2 : Int32)) dX11_stopCame_4 (by decide) ?_
  refine EV_icmp_ne (tgt := 30) dX11_stopCame_5 (by decide) (fun c2 => ?_) (fun c2 => ?_)
  · rw [if_pos c2] at h
    refine EV_aload_n dX11_stopCame_8 rfl ?_
    refine EV_iconst (x := (3 : Int32)) dX11_stopCame_9 (by decide) ?_
    have hh := b1_some h; clear h; obtain ⟨s3, hs3, h⟩ := hh
    refine EV_putI (ci := 11) (k := 11) dX11_stopCame_10 fp_X11_75 rfl hs3 ?_
    refine EV_aload_n dX11_stopCame_13 rfl ?_
    have hh := b1_some h; clear h; obtain ⟨r4, hr4, h⟩ := hh
    refine EV_getP (ci := 11) (k := 8) dX11_stopCame_14 fl_X11_57 rfl hr4 ?_
    have hh := b1_some h; clear h; obtain ⟨a5, ha5, h⟩ := hh
    subst ha5
    have hh := b1_some h; clear h; obtain ⟨x6, hx6, h⟩ := hh
    refine EV_getI (ci := 8) (k := 3) dX11_stopCame_17 fl_X11_254 rfl hx6 ?_
    refine EV_if_le (tgt := 46) dX11_stopCame_20 (by decide) (fun c7 => ?_) (fun c7 => ?_)
    · rw [if_pos c7] at h
      exact EV_pick [] rfl (zX11_stopCame_46 E h)
    · rw [if_neg c7] at h
      refine EV_aload_n dX11_stopCame_23 rfl ?_
      have hh := b1_some h; clear h; obtain ⟨u10, hu10, h⟩ := hh
      have hh := b1_some h; clear h; obtain ⟨s8, hs8, h⟩ := hh
      refine EV_callV (Y := YX11_sendAck) (as := []) (st := []) (st2 := []) (a := h0) (ci := 11) (r := rX11) (n := 0) dX11_stopCame_24 (zX11_sendAck E hs8) rfl cwX11_sendAck rfl tw_687 tw_689 tw_12 rfl (e_if hu10).1.1 (e_if hu10).1.2 ⟨by decide, by decide⟩ (Nat.le_of_ble_eq_true rfl) rfl ?_
      refine EV_goto (tgt := 46) dX11_stopCame_27 (by decide) ?_
      exact EV_pick [] rfl (zX11_stopCame_46 E h)
  · rw [if_neg c2] at h
    refine EV_aload_n dX11_stopCame_30 rfl ?_
    have hh := b1_some h; clear h; obtain ⟨x3, hx3, h⟩ := hh
    refine EV_getI (ci := 11) (k := 11) dX11_stopCame_31 fl_X11_75 rfl hx3 ?_
    refine EV_iconst (x := (1 : Int32)) dX11_stopCame_34 (by decide) ?_
    refine EV_icmp_ne (tgt := 46) dX11_stopCame_35 (by decide) (fun c4 => ?_) (fun c4 => ?_)
    · rw [if_pos c4] at h
      refine EV_aload_n dX11_stopCame_38 rfl ?_
      refine EV_bipush (x := (35 : Int32)) dX11_stopCame_39 (by decide) ?_
      refine EV_null dX11_stopCame_41 ?_
      have hh := b1_some h; clear h; obtain ⟨u7, hu7, h⟩ := hh
      have hh := b2_some h; clear h; obtain ⟨x6, s5, hs5, h⟩ := hh
      refine EV_callV (Y := YX11_sendFrame) (as := [VI (35 : Int32), VR none]) (st := []) (st2 := [VI x6]) (a := h0) (ci := 11) (r := rX11) (n := 2) dX11_stopCame_42 (zX11_sendFrame E hs5) rfl cwX11_sendFrame rfl tw_536 tw_538 tw_4 rfl (e_if hu7).1.1 (e_if hu7).1.2 ⟨by decide, by decide⟩ (Nat.le_of_ble_eq_true rfl) rfl ?_
      refine EV_pop dX11_stopCame_45 rfl ?_
      exact EV_pick [] rfl (zX11_stopCame_46 E h)
    · rw [if_neg c4] at h
      exact EV_pick [] rfl (zX11_stopCame_46 E h)
def mX11_controlCame_87 (s0 : eS) : Option eS :=
  (some s0)
set_option maxRecDepth 100000 in
set_option maxHeartbeats 4000000 in
theorem zX11_controlCame_87 (E : eE) {s0 s9 : eS} (h : mX11_controlCame_87 s0 = some s9) : EV E MX11_controlCame 87 [] [] s0 none s9 := by
  unfold mX11_controlCame_87 at h
  cases h
  exact EV_ret ⟨dX11_controlCame_87, rfl⟩ rfl
def mX11_controlCame (h0 : Nat) (pi1 : Int32) (s0 : eS) : Option eS :=
  (if pi1 = (7 : Int32) then (b1 (p_I s0 111 11 h0 (2 : Int32)) fun s2 => (b1 (o_K s2 111 h0) fun u5 => (b2 (mX11_sendFrame h0 (11 : Int32) none s2) fun x4 s3 => (mX11_controlCame_87 s3)))) else (if pi1 = (19 : Int32) then (b1 (o_K s0 111 h0) fun u9 => (b1 (mX11_stopCame h0 s0) fun s7 => (mX11_controlCame_87 s7))) else (if pi1 = (67 : Int32) then (b1 (o_K s0 111 h0) fun u13 => (b2 (mX11_sendFrame h0 (131 : Int32) none s0) fun x12 s11 => (mX11_controlCame_87 s11))) else (if pi1 = (131 : Int32) then (b1 (p_Z s0 111 16 h0 (0 : Int32)) fun s15 => (mX11_controlCame_87 s15)) else (mX11_controlCame_87 s0)))))
set_option maxRecDepth 100000 in
set_option maxHeartbeats 4000000 in
theorem zX11_controlCame (E : eE) {h0 : Nat} {pi1 : Int32} {s0 s9 : eS} (h : mX11_controlCame h0 pi1 s0 = some s9) : EM E YX11_controlCame [VR (some h0), VI pi1] s0 none s9 := by
  refine EM_of (M := MX11_controlCame) (own := RX11) (ini := false) rfl (by decide +kernel) rfl (fun z => nomatch z) (Nat.le_of_ble_eq_true rfl) ?_
  unfold mX11_controlCame at h
  refine EV_iload_n dX11_controlCame_0 rfl ?_
  by_cases c1 : pi1 = (7 : Int32)
  · rw [if_pos c1] at h
    refine EV_lookup (tgt := 44) (off := 43) dX11_controlCame_1 (by decide) (by rw [c1]; decide) (by decide) ?_
    refine EV_aload_n dX11_controlCame_44 rfl ?_
    refine EV_iconst (x := (2 : Int32)) dX11_controlCame_45 (by decide) ?_
    have hh := b1_some h; clear h; obtain ⟨s2, hs2, h⟩ := hh
    refine EV_putI (ci := 11) (k := 11) dX11_controlCame_46 fp_X11_75 rfl hs2 ?_
    refine EV_aload_n dX11_controlCame_49 rfl ?_
    refine EV_bipush (x := (11 : Int32)) dX11_controlCame_50 (by decide) ?_
    refine EV_null dX11_controlCame_52 ?_
    have hh := b1_some h; clear h; obtain ⟨u5, hu5, h⟩ := hh
    have hh := b2_some h; clear h; obtain ⟨x4, s3, hs3, h⟩ := hh
    refine EV_callV (Y := YX11_sendFrame) (as := [VI (11 : Int32), VR none]) (st := []) (st2 := [VI x4]) (a := h0) (ci := 11) (r := rX11) (n := 2) dX11_controlCame_53 (zX11_sendFrame E hs3) rfl cwX11_sendFrame rfl tw_536 tw_538 tw_4 rfl (e_if hu5).1.1 (e_if hu5).1.2 ⟨by decide, by decide⟩ (Nat.le_of_ble_eq_true rfl) rfl ?_
    refine EV_pop dX11_controlCame_56 rfl ?_
    refine EV_goto (tgt := 87) dX11_controlCame_57 (by decide) ?_
    exact EV_pick [] rfl (zX11_controlCame_87 E h)
  · rw [if_neg c1] at h
    by_cases c6 : pi1 = (19 : Int32)
    · rw [if_pos c6] at h
      refine EV_lookup (tgt := 60) (off := 59) dX11_controlCame_1 (by decide) (by rw [c6]; decide) (by decide) ?_
      refine EV_aload_n dX11_controlCame_60 rfl ?_
      have hh := b1_some h; clear h; obtain ⟨u9, hu9, h⟩ := hh
      have hh := b1_some h; clear h; obtain ⟨s7, hs7, h⟩ := hh
      refine EV_callV (Y := YX11_stopCame) (as := []) (st := []) (st2 := []) (a := h0) (ci := 11) (r := rX11) (n := 0) dX11_controlCame_61 (zX11_stopCame E hs7) rfl cwX11_stopCame rfl tw_683 tw_685 tw_11 rfl (e_if hu9).1.1 (e_if hu9).1.2 ⟨by decide, by decide⟩ (Nat.le_of_ble_eq_true rfl) rfl ?_
      refine EV_goto (tgt := 87) dX11_controlCame_64 (by decide) ?_
      exact EV_pick [] rfl (zX11_controlCame_87 E h)
    · rw [if_neg c6] at h
      by_cases c10 : pi1 = (67 : Int32)
      · rw [if_pos c10] at h
        refine EV_lookup (tgt := 67) (off := 66) dX11_controlCame_1 (by decide) (by rw [c10]; decide) (by decide) ?_
        refine EV_aload_n dX11_controlCame_67 rfl ?_
        refine EV_sipush (x := (131 : Int32)) dX11_controlCame_68 (by decide) ?_
        refine EV_null dX11_controlCame_71 ?_
        have hh := b1_some h; clear h; obtain ⟨u13, hu13, h⟩ := hh
        have hh := b2_some h; clear h; obtain ⟨x12, s11, hs11, h⟩ := hh
        refine EV_callV (Y := YX11_sendFrame) (as := [VI (131 : Int32), VR none]) (st := []) (st2 := [VI x12]) (a := h0) (ci := 11) (r := rX11) (n := 2) dX11_controlCame_72 (zX11_sendFrame E hs11) rfl cwX11_sendFrame rfl tw_536 tw_538 tw_4 rfl (e_if hu13).1.1 (e_if hu13).1.2 ⟨by decide, by decide⟩ (Nat.le_of_ble_eq_true rfl) rfl ?_
        refine EV_pop dX11_controlCame_75 rfl ?_
        refine EV_goto (tgt := 87) dX11_controlCame_76 (by decide) ?_
        exact EV_pick [] rfl (zX11_controlCame_87 E h)
      · rw [if_neg c10] at h
        by_cases c14 : pi1 = (131 : Int32)
        · rw [if_pos c14] at h
          refine EV_lookup (tgt := 79) (off := 78) dX11_controlCame_1 (by decide) (by rw [c14]; decide) (by decide) ?_
          refine EV_aload_n dX11_controlCame_79 rfl ?_
          refine EV_iconst (x := (0 : Int32)) dX11_controlCame_80 (by decide) ?_
          have hh := b1_some h; clear h; obtain ⟨s15, hs15, h⟩ := hh
          refine EV_putZ (ci := 11) (k := 16) dX11_controlCame_81 fp_X11_258 rfl hs15 ?_
          refine EV_goto (tgt := 87) dX11_controlCame_84 (by decide) ?_
          exact EV_pick [] rfl (zX11_controlCame_87 E h)
        · rw [if_neg c14] at h
          refine EV_lookup (tgt := 87) (off := 86) dX11_controlCame_1 (by decide) (by show Op.lookupswitch.offset [(7, 43), (19, 59), (67, 66), (131, 78)] 86 _ = _; rw [lv_osw c1 (by decide), lv_osw c6 (by decide), lv_osw c10 (by decide), lv_osw c14 (by decide)]; rfl) (by decide) ?_
          exact EV_pick [] rfl (zX11_controlCame_87 E h)
def mX11_acceptFrame_63 (s0 : eS) : Option (Int32 × eS) :=
  (b1 (o_Z (0 : Int32)) fun u1 => some ((0 : Int32), s0))
set_option maxRecDepth 100000 in
set_option maxHeartbeats 4000000 in
theorem zX11_acceptFrame_63 (E : eE) {s0 s9 : eS} {y : Int32} (h : mX11_acceptFrame_63 s0 = some (y, s9)) : EV E MX11_acceptFrame 63 [] [] s0 (some (VI y)) s9 := by
  unfold mX11_acceptFrame_63 at h
  refine EV_iconst (x := (0 : Int32)) dX11_acceptFrame_63 (by decide) ?_
  have hh := b1_some h; clear h; obtain ⟨u1, hu1, h⟩ := hh
  cases h
  exact EV_ret ⟨dX11_acceptFrame_64, .boolean, rfl, o_Z_n hu1⟩ rfl
def mX11_acceptFrame (h0 : Nat) (s0 : eS) : Option (Int32 × eS) :=
  (b1 (g_I s0 111 13 h0) fun x1 => (b1 (p_I s0 111 14 h0 x1) fun s2 => (b1 (g_P s2 111 8 h0) fun r3 => (b1 r3 fun a4 => (b1 (g_I s2 108 1 a4) fun x5 => (if ((x5 &&& (255 : Int32)) &&& (1 : Int32)) = 0 then (b1 (o_K s2 111 h0) fun u10 => (b2 (mX11_acceptData h0 s2) fun x8 s7 => (b1 (o_Z x8) fun u9 => some (x8, s7)))) else (if (x5 &&& (255 : Int32)) = (1 : Int32) then (b1 (g_P s2 111 8 h0) fun r8 => (b1 r8 fun a9 => (b1 (o_K s2 108 a9) fun u19 => (b2 (mX8_ack a9 s2) fun x11 s10 => (b1 (o_K s10 111 h0) fun u18 => (b2 (mX11_acknowledge h0 x11 s10) fun x13 s12 => (if x13 = 0 then (b1 (o_K s12 111 h0) fun u17 => (b1 (mX11_shut h0 (3 : Int32) s12) fun s15 => (mX11_acceptFrame_63 s15))) else (mX11_acceptFrame_63 s12)))))))) else (b1 (o_K s2 111 h0) fun u10 => (b1 (mX11_controlCame h0 (x5 &&& (255 : Int32)) s2) fun s8 => (mX11_acceptFrame_63 s8))))))))))
set_option maxRecDepth 100000 in
set_option maxHeartbeats 4000000 in
theorem zX11_acceptFrame (E : eE) {h0 : Nat} {s0 s9 : eS} {y : Int32} (h : mX11_acceptFrame h0 s0 = some (y, s9)) : EM E YX11_acceptFrame [VR (some h0)] s0 (some (VI y)) s9 := by
  refine EM_of (M := MX11_acceptFrame) (own := RX11) (ini := false) rfl (by decide +kernel) rfl (fun z => nomatch z) (Nat.le_of_ble_eq_true rfl) ?_
  unfold mX11_acceptFrame at h
  refine EV_aload_n dX11_acceptFrame_0 rfl ?_
  refine EV_aload_n dX11_acceptFrame_1 rfl ?_
  have hh := b1_some h; clear h; obtain ⟨x1, hx1, h⟩ := hh
  refine EV_getI (ci := 11) (k := 13) dX11_acceptFrame_2 fl_X11_155 rfl hx1 ?_
  have hh := b1_some h; clear h; obtain ⟨s2, hs2, h⟩ := hh
  refine EV_putI (ci := 11) (k := 14) dX11_acceptFrame_5 fp_X11_158 rfl hs2 ?_
  refine EV_aload_n dX11_acceptFrame_8 rfl ?_
  have hh := b1_some h; clear h; obtain ⟨r3, hr3, h⟩ := hh
  refine EV_getP (ci := 11) (k := 8) dX11_acceptFrame_9 fl_X11_57 rfl hr3 ?_
  have hh := b1_some h; clear h; obtain ⟨a4, ha4, h⟩ := hh
  subst ha4
  have hh := b1_some h; clear h; obtain ⟨x5, hx5, h⟩ := hh
  refine EV_getI (ci := 8) (k := 1) dX11_acceptFrame_12 fl_X11_336 rfl hx5 ?_
  refine EV_sipush (x := (255 : Int32)) dX11_acceptFrame_15 (by decide) ?_
  refine EV_iand dX11_acceptFrame_18 ?_
  refine EV_istore_n (lv2 := [(1, VI (x5 &&& (255 : Int32))), (0, VR (some h0))]) dX11_acceptFrame_19 (by decide) rfl ?_
  refine EV_iload_n dX11_acceptFrame_20 rfl ?_
  refine EV_iconst (x := (1 : Int32)) dX11_acceptFrame_21 (by decide) ?_
  refine EV_iand dX11_acceptFrame_22 ?_
  refine EV_if_ne (tgt := 31) dX11_acceptFrame_23 (by decide) (fun c6 => ?_) (fun c6 => ?_)
  · rw [if_pos c6] at h
    refine EV_aload_n dX11_acceptFrame_26 rfl ?_
    have hh := b1_some h; clear h; obtain ⟨u10, hu10, h⟩ := hh
    have hh := b2_some h; clear h; obtain ⟨x8, s7, hs7, h⟩ := hh
    refine EV_callV (Y := YX11_acceptData) (as := []) (st := []) (st2 := [VI x8]) (a := h0) (ci := 11) (r := rX11) (n := 0) dX11_acceptFrame_27 (zX11_acceptData E hs7) rfl cwX11_acceptData rfl tw_647 tw_649 tw_8 rfl (e_if hu10).1.1 (e_if hu10).1.2 ⟨by decide, by decide⟩ (Nat.le_of_ble_eq_true rfl) rfl ?_
    have hh := b1_some h; clear h; obtain ⟨u9, hu9, h⟩ := hh
    cases h
    exact EV_ret ⟨dX11_acceptFrame_30, .boolean, rfl, o_Z_n hu9⟩ rfl
  · rw [if_neg c6] at h
    refine EV_iload_n dX11_acceptFrame_31 rfl ?_
    refine EV_iconst (x := (1 : Int32)) dX11_acceptFrame_32 (by decide) ?_
    refine EV_icmp_eq (tgt := 44) dX11_acceptFrame_33 (by decide) (fun c7 => ?_) (fun c7 => ?_)
    · rw [if_pos c7] at h
      refine EV_aload_n dX11_acceptFrame_44 rfl ?_
      refine EV_aload_n dX11_acceptFrame_45 rfl ?_
      have hh := b1_some h; clear h; obtain ⟨r8, hr8, h⟩ := hh
      refine EV_getP (ci := 11) (k := 8) dX11_acceptFrame_46 fl_X11_57 rfl hr8 ?_
      have hh := b1_some h; clear h; obtain ⟨a9, ha9, h⟩ := hh
      subst ha9
      have hh := b1_some h; clear h; obtain ⟨u19, hu19, h⟩ := hh
      have hh := b2_some h; clear h; obtain ⟨x11, s10, hs10, h⟩ := hh
      refine EV_callV (Y := YX8_ack) (as := []) (st := [VR (some h0)]) (st2 := [VI x11, VR (some h0)]) (a := a9) (ci := 8) (r := rX8) (n := 0) dX11_acceptFrame_49 (zX8_ack E hs10) rfl cwX8_ack rfl tw_655 tw_656 tw_657 rfl (e_if hu19).1.1 (e_if hu19).1.2 ⟨by decide, by decide⟩ (Nat.le_of_ble_eq_true rfl) rfl ?_
      have hh := b1_some h; clear h; obtain ⟨u18, hu18, h⟩ := hh
      have hh := b2_some h; clear h; obtain ⟨x13, s12, hs12, h⟩ := hh
      refine EV_callV (Y := YX11_acknowledge) (as := [VI x11]) (st := []) (st2 := [VI x13]) (a := h0) (ci := 11) (r := rX11) (n := 1) dX11_acceptFrame_52 (zX11_acknowledge E hs12) rfl cwX11_acknowledge rfl tw_659 tw_661 tw_9 rfl (e_if hu18).1.1 (e_if hu18).1.2 ⟨by decide, by decide⟩ (Nat.le_of_ble_eq_true rfl) rfl ?_
      refine EV_if_ne (tgt := 63) dX11_acceptFrame_55 (by decide) (fun c14 => ?_) (fun c14 => ?_)
      · rw [if_pos c14] at h
        refine EV_aload_n dX11_acceptFrame_58 rfl ?_
        refine EV_iconst (x := (3 : Int32)) dX11_acceptFrame_59 (by decide) ?_
        have hh := b1_some h; clear h; obtain ⟨u17, hu17, h⟩ := hh
        have hh := b1_some h; clear h; obtain ⟨s15, hs15, h⟩ := hh
        refine EV_callV (Y := YX11_shut) (as := [VI (3 : Int32)]) (st := []) (st2 := []) (a := h0) (ci := 11) (r := rX11) (n := 1) dX11_acceptFrame_60 (zX11_shut E hs15) rfl cwX11_shut rfl tw_540 tw_542 tw_5 rfl (e_if hu17).1.1 (e_if hu17).1.2 ⟨by decide, by decide⟩ (Nat.le_of_ble_eq_true rfl) rfl ?_
        exact EV_pick [] rfl (zX11_acceptFrame_63 E h)
      · rw [if_neg c14] at h
        exact EV_pick [] rfl (zX11_acceptFrame_63 E h)
    · rw [if_neg c7] at h
      refine EV_aload_n dX11_acceptFrame_36 rfl ?_
      refine EV_iload_n dX11_acceptFrame_37 rfl ?_
      have hh := b1_some h; clear h; obtain ⟨u10, hu10, h⟩ := hh
      have hh := b1_some h; clear h; obtain ⟨s8, hs8, h⟩ := hh
      refine EV_callV (Y := YX11_controlCame) (as := [VI (x5 &&& (255 : Int32))]) (st := []) (st2 := []) (a := h0) (ci := 11) (r := rX11) (n := 1) dX11_acceptFrame_38 (zX11_controlCame E hs8) rfl cwX11_controlCame rfl tw_679 tw_681 tw_10 rfl (e_if hu10).1.1 (e_if hu10).1.2 ⟨by decide, by decide⟩ (Nat.le_of_ble_eq_true rfl) rfl ?_
      refine EV_goto (tgt := 63) dX11_acceptFrame_41 (by decide) ?_
      exact EV_pick [] rfl (zX11_acceptFrame_63 E h)
def mX11_restLength_79 (s0 : eS) : Option (Int32 × eS) :=
  (some ((10 : Int32), s0))
set_option maxRecDepth 100000 in
set_option maxHeartbeats 4000000 in
theorem zX11_restLength_79 (E : eE) {s0 s9 : eS} {y : Int32} (h : mX11_restLength_79 s0 = some (y, s9)) : EV E MX11_restLength 79 [] [] s0 (some (VI y)) s9 := by
  unfold mX11_restLength_79 at h
  refine EV_bipush (x := (10 : Int32)) dX11_restLength_79 (by decide) ?_
  cases h
  exact EV_ret ⟨dX11_restLength_81, .int, rfl, rfl⟩ rfl
def mX11_restLength (pi0 : Int32) (s0 : eS) : Option (Int32 × eS) :=
  (if pi0 = (45 : Int32) then (mX11_restLength_79 s0) else (if pi0 = (46 : Int32) then (mX11_restLength_79 s0) else (if pi0 = (49 : Int32) then (some ((12 : Int32), s0)) else (if pi0 = (100 : Int32) then (mX11_restLength_79 s0) else (if pi0 = (101 : Int32) then (mX11_restLength_79 s0) else (if pi0 = (102 : Int32) then (some ((9 : Int32), s0)) else (if pi0 = (103 : Int32) then (some ((16 : Int32), s0)) else (if pi0 = (104 : Int32) then (some ((11 : Int32), s0)) else (some ((0 : Int32), s0))))))))))
set_option maxRecDepth 100000 in
set_option maxHeartbeats 4000000 in
theorem zX11_restLength (E : eE) {pi0 : Int32} {s0 s9 : eS} {y : Int32} (h : mX11_restLength pi0 s0 = some (y, s9)) : EM E YX11_restLength [VI pi0] s0 (some (VI y)) s9 := by
  refine EM_of (M := MX11_restLength) (own := RX11) (ini := false) rfl (by decide +kernel) rfl (fun z => nomatch z) (Nat.le_of_ble_eq_true rfl) ?_
  unfold mX11_restLength at h
  refine EV_iload_n dX11_restLength_0 rfl ?_
  by_cases c1 : pi0 = (45 : Int32)
  · rw [if_pos c1] at h
    refine EV_lookup (tgt := 79) (off := 78) dX11_restLength_1 (by decide) (by rw [c1]; decide) (by decide) ?_
    exact EV_pick [] rfl (zX11_restLength_79 E h)
  · rw [if_neg c1] at h
    by_cases c2 : pi0 = (46 : Int32)
    · rw [if_pos c2] at h
      refine EV_lookup (tgt := 79) (off := 78) dX11_restLength_1 (by decide) (by rw [c2]; decide) (by decide) ?_
      exact EV_pick [] rfl (zX11_restLength_79 E h)
    · rw [if_neg c2] at h
      by_cases c3 : pi0 = (49 : Int32)
      · rw [if_pos c3] at h
        refine EV_lookup (tgt := 85) (off := 84) dX11_restLength_1 (by decide) (by rw [c3]; decide) (by decide) ?_
        refine EV_bipush (x := (12 : Int32)) dX11_restLength_85 (by decide) ?_
        cases h
        exact EV_ret ⟨dX11_restLength_87, .int, rfl, rfl⟩ rfl
      · rw [if_neg c3] at h
        by_cases c4 : pi0 = (100 : Int32)
        · rw [if_pos c4] at h
          refine EV_lookup (tgt := 79) (off := 78) dX11_restLength_1 (by decide) (by rw [c4]; decide) (by decide) ?_
          exact EV_pick [] rfl (zX11_restLength_79 E h)
        · rw [if_neg c4] at h
          by_cases c5 : pi0 = (101 : Int32)
          · rw [if_pos c5] at h
            refine EV_lookup (tgt := 79) (off := 78) dX11_restLength_1 (by decide) (by rw [c5]; decide) (by decide) ?_
            exact EV_pick [] rfl (zX11_restLength_79 E h)
          · rw [if_neg c5] at h
            by_cases c6 : pi0 = (102 : Int32)
            · rw [if_pos c6] at h
              refine EV_lookup (tgt := 76) (off := 75) dX11_restLength_1 (by decide) (by rw [c6]; decide) (by decide) ?_
              refine EV_bipush (x := (9 : Int32)) dX11_restLength_76 (by decide) ?_
              cases h
              exact EV_ret ⟨dX11_restLength_78, .int, rfl, rfl⟩ rfl
            · rw [if_neg c6] at h
              by_cases c7 : pi0 = (103 : Int32)
              · rw [if_pos c7] at h
                refine EV_lookup (tgt := 88) (off := 87) dX11_restLength_1 (by decide) (by rw [c7]; decide) (by decide) ?_
                refine EV_bipush (x := (16 : Int32)) dX11_restLength_88 (by decide) ?_
                cases h
                exact EV_ret ⟨dX11_restLength_90, .int, rfl, rfl⟩ rfl
              · rw [if_neg c7] at h
                by_cases c8 : pi0 = (104 : Int32)
                · rw [if_pos c8] at h
                  refine EV_lookup (tgt := 82) (off := 81) dX11_restLength_1 (by decide) (by rw [c8]; decide) (by decide) ?_
                  refine EV_bipush (x := (11 : Int32)) dX11_restLength_82 (by decide) ?_
                  cases h
                  exact EV_ret ⟨dX11_restLength_84, .int, rfl, rfl⟩ rfl
                · rw [if_neg c8] at h
                  refine EV_lookup (tgt := 91) (off := 90) dX11_restLength_1 (by decide) (by show Op.lookupswitch.offset [(45, 78), (46, 78), (49, 84), (100, 78), (101, 78), (102, 75), (103, 87), (104, 81)] 90 _ = _; rw [lv_osw c1 (by decide), lv_osw c2 (by decide), lv_osw c3 (by decide), lv_osw c4 (by decide), lv_osw c5 (by decide), lv_osw c6 (by decide), lv_osw c7 (by decide), lv_osw c8 (by decide)]; rfl) (by decide) ?_
                  refine EV_iconst (x := (0 : Int32)) dX11_restLength_91 (by decide) ?_
                  cases h
                  exact EV_ret ⟨dX11_restLength_92, .int, rfl, rfl⟩ rfl
def mX11_isCauseOf_16 (pt0 : Int32) (s0 : eS) : Option (Int32 × eS) :=
  (b1 (o_Z pt0) fun u1 => some (pt0, s0))
set_option maxRecDepth 100000 in
set_option maxHeartbeats 4000000 in
theorem zX11_isCauseOf_16 (E : eE) {pt0 : Int32} {s0 s9 : eS} {y : Int32} (h : mX11_isCauseOf_16 pt0 s0 = some (y, s9)) : EV E MX11_isCauseOf 16 [] [VI pt0] s0 (some (VI y)) s9 := by
  unfold mX11_isCauseOf_16 at h
  have hh := b1_some h; clear h; obtain ⟨u1, hu1, h⟩ := hh
  cases h
  exact EV_ret ⟨dX11_isCauseOf_16, .boolean, rfl, o_Z_n hu1⟩ rfl
def mX11_isCauseOf_40 (pt0 : Int32) (s0 : eS) : Option (Int32 × eS) :=
  (b1 (o_Z pt0) fun u1 => some (pt0, s0))
set_option maxRecDepth 100000 in
set_option maxHeartbeats 4000000 in
theorem zX11_isCauseOf_40 (E : eE) {pt0 : Int32} {s0 s9 : eS} {y : Int32} (h : mX11_isCauseOf_40 pt0 s0 = some (y, s9)) : EV E MX11_isCauseOf 40 [] [VI pt0] s0 (some (VI y)) s9 := by
  unfold mX11_isCauseOf_40 at h
  have hh := b1_some h; clear h; obtain ⟨u1, hu1, h⟩ := hh
  cases h
  exact EV_ret ⟨dX11_isCauseOf_40, .boolean, rfl, o_Z_n hu1⟩ rfl
def mX11_isCauseOf_35 (s0 : eS) : Option (Int32 × eS) :=
  (mX11_isCauseOf_40 (1 : Int32) s0)
set_option maxRecDepth 100000 in
set_option maxHeartbeats 4000000 in
theorem zX11_isCauseOf_35 (E : eE) {s0 s9 : eS} {y : Int32} (h : mX11_isCauseOf_35 s0 = some (y, s9)) : EV E MX11_isCauseOf 35 [] [] s0 (some (VI y)) s9 := by
  unfold mX11_isCauseOf_35 at h
  refine EV_iconst (x := (1 : Int32)) dX11_isCauseOf_35 (by decide) ?_
  refine EV_goto (tgt := 40) dX11_isCauseOf_36 (by decide) ?_
  exact EV_pick [] rfl (zX11_isCauseOf_40 E h)
def mX11_isCauseOf_39 (s0 : eS) : Option (Int32 × eS) :=
  (mX11_isCauseOf_40 (0 : Int32) s0)
set_option maxRecDepth 100000 in
set_option maxHeartbeats 4000000 in
theorem zX11_isCauseOf_39 (E : eE) {s0 s9 : eS} {y : Int32} (h : mX11_isCauseOf_39 s0 = some (y, s9)) : EV E MX11_isCauseOf 39 [] [] s0 (some (VI y)) s9 := by
  unfold mX11_isCauseOf_39 at h
  refine EV_iconst (x := (0 : Int32)) dX11_isCauseOf_39 (by decide) ?_
  exact EV_pick [] rfl (zX11_isCauseOf_40 E h)
def mX11_isCauseOf (pi0 : Int32) (pi1 : Int32) (s0 : eS) : Option (Int32 × eS) :=
  (if pi0 = (102 : Int32) then (if pi1 = (5 : Int32) then (mX11_isCauseOf_16 (1 : Int32) s0) else (mX11_isCauseOf_16 (0 : Int32) s0)) else (if pi1 = (6 : Int32) then (mX11_isCauseOf_35 s0) else (if pi1 = (8 : Int32) then (if (100 : Int32) < pi0 then (mX11_isCauseOf_39 s0) else (mX11_isCauseOf_35 s0)) else (mX11_isCauseOf_39 s0))))
set_option maxRecDepth 100000 in
set_option maxHeartbeats 4000000 in
theorem zX11_isCauseOf (E : eE) {pi0 : Int32} {pi1 : Int32} {s0 s9 : eS} {y : Int32} (h : mX11_isCauseOf pi0 pi1 s0 = some (y, s9)) : EM E YX11_isCauseOf [VI pi0, VI pi1] s0 (some (VI y)) s9 := by
  refine EM_of (M := MX11_isCauseOf) (own := RX11) (ini := false) rfl (by decide +kernel) rfl (fun z => nomatch z) (Nat.le_of_ble_eq_true rfl) ?_
  unfold mX11_isCauseOf at h
  refine EV_iload_n dX11_isCauseOf_0 rfl ?_
  refine EV_bipush (x := (102 : Int32)) dX11_isCauseOf_1 (by decide) ?_
  refine EV_icmp_ne (tgt := 17) dX11_isCauseOf_3 (by decide) (fun c1 => ?_) (fun c1 => ?_)
  · rw [if_pos c1] at h
    refine EV_iload_n dX11_isCauseOf_6 rfl ?_
    refine EV_iconst (x := (5 : Int32)) dX11_isCauseOf_7 (by decide) ?_
    refine EV_icmp_ne (tgt := 15) dX11_isCauseOf_8 (by decide) (fun c2 => ?_) (fun c2 => ?_)
    · rw [if_pos c2] at h
      refine EV_iconst (x := (1 : Int32)) dX11_isCauseOf_11 (by decide) ?_
      refine EV_goto (tgt := 16) dX11_isCauseOf_12 (by decide) ?_
      exact EV_pick [] rfl (zX11_isCauseOf_16 E h)
    · rw [if_neg c2] at h
      refine EV_iconst (x := (0 : Int32)) dX11_isCauseOf_15 (by decide) ?_
      exact EV_pick [] rfl (zX11_isCauseOf_16 E h)
  · rw [if_neg c1] at h
    refine EV_iload_n dX11_isCauseOf_17 rfl ?_
    refine EV_bipush (x := (6 : Int32)) dX11_isCauseOf_18 (by decide) ?_
    refine EV_icmp_eq (tgt := 35) dX11_isCauseOf_20 (by decide) (fun c2 => ?_) (fun c2 => ?_)
    · rw [if_pos c2] at h
      exact EV_pick [] rfl (zX11_isCauseOf_35 E h)
    · rw [if_neg c2] at h
      refine EV_iload_n dX11_isCauseOf_23 rfl ?_
      refine EV_bipush (x := (8 : Int32)) dX11_isCauseOf_24 (by decide) ?_
      refine EV_icmp_ne (tgt := 39) dX11_isCauseOf_26 (by decide) (fun c3 => ?_) (fun c3 => ?_)
      · rw [if_pos c3] at h
        refine EV_iload_n dX11_isCauseOf_29 rfl ?_
        refine EV_bipush (x := (100 : Int32)) dX11_isCauseOf_30 (by decide) ?_
        refine EV_icmp_gt (tgt := 39) dX11_isCauseOf_32 (by decide) (fun c4 => ?_) (fun c4 => ?_)
        · rw [if_pos c4] at h
          exact EV_pick [] rfl (zX11_isCauseOf_39 E h)
        · rw [if_neg c4] at h
          exact EV_pick [] rfl (zX11_isCauseOf_35 E h)
      · rw [if_neg c3] at h
        exact EV_pick [] rfl (zX11_isCauseOf_39 E h)
def mX11_isAddressOf_22 (pt0 : Int32) (s0 : eS) : Option (Int32 × eS) :=
  (b1 (o_Z pt0) fun u1 => some (pt0, s0))
set_option maxRecDepth 100000 in
set_option maxHeartbeats 4000000 in
theorem zX11_isAddressOf_22 (E : eE) {pt0 : Int32} {s0 s9 : eS} {y : Int32} (h : mX11_isAddressOf_22 pt0 s0 = some (y, s9)) : EV E MX11_isAddressOf 22 [] [VI pt0] s0 (some (VI y)) s9 := by
  unfold mX11_isAddressOf_22 at h
  have hh := b1_some h; clear h; obtain ⟨u1, hu1, h⟩ := hh
  cases h
  exact EV_ret ⟨dX11_isAddressOf_22, .boolean, rfl, o_Z_n hu1⟩ rfl
def mX11_isAddressOf_66 (pt0 : Int32) (s0 : eS) : Option (Int32 × eS) :=
  (b1 (o_Z pt0) fun u1 => some (pt0, s0))
set_option maxRecDepth 100000 in
set_option maxHeartbeats 4000000 in
theorem zX11_isAddressOf_66 (E : eE) {pt0 : Int32} {s0 s9 : eS} {y : Int32} (h : mX11_isAddressOf_66 pt0 s0 = some (y, s9)) : EV E MX11_isAddressOf 66 [] [VI pt0] s0 (some (VI y)) s9 := by
  unfold mX11_isAddressOf_66 at h
  have hh := b1_some h; clear h; obtain ⟨u1, hu1, h⟩ := hh
  cases h
  exact EV_ret ⟨dX11_isAddressOf_66, .boolean, rfl, o_Z_n hu1⟩ rfl
def mX11_isAddressOf_65 (s0 : eS) : Option (Int32 × eS) :=
  (mX11_isAddressOf_66 (0 : Int32) s0)
set_option maxRecDepth 100000 in
set_option maxHeartbeats 4000000 in
theorem zX11_isAddressOf_65 (E : eE) {s0 s9 : eS} {y : Int32} (h : mX11_isAddressOf_65 s0 = some (y, s9)) : EV E MX11_isAddressOf 65 [] [] s0 (some (VI y)) s9 := by
  unfold mX11_isAddressOf_65 at h
  refine EV_iconst (x := (0 : Int32)) dX11_isAddressOf_65 (by decide) ?_
  exact EV_pick [] rfl (zX11_isAddressOf_66 E h)
def mX11_isAddressOf_38 (pt0 : Int32) (s0 : eS) : Option (Int32 × eS) :=
  (b1 (o_Z pt0) fun u1 => some (pt0, s0))
set_option maxRecDepth 100000 in
set_option maxHeartbeats 4000000 in
theorem zX11_isAddressOf_38 (E : eE) {pt0 : Int32} {s0 s9 : eS} {y : Int32} (h : mX11_isAddressOf_38 pt0 s0 = some (y, s9)) : EV E MX11_isAddressOf 38 [] [VI pt0] s0 (some (VI y)) s9 := by
  unfold mX11_isAddressOf_38 at h
  have hh := b1_some h; clear h; obtain ⟨u1, hu1, h⟩ := hh
  cases h
  exact EV_ret ⟨dX11_isAddressOf_38, .boolean, rfl, o_Z_n hu1⟩ rfl
def mX11_isAddressOf (h0 : Nat) (pi1 : Int32) (pi2 : Int32) (s0 : eS) : Option (Int32 × eS) :=
  (if pi1 = (102 : Int32) then (b1 (g_P s0 111 1 h0) fun r2 => (b1 r2 fun a3 => (b1 (o_K s0 107 a3) fun u7 => (b2 (mX7_withAddress a3 pi2 s0) fun r5 s4 => (if r5 = none then (mX11_isAddressOf_22 (0 : Int32) s4) else (mX11_isAddressOf_22 (1 : Int32) s4)))))) else (if pi1 < (100 : Int32) then (b1 (o_K s0 111 h0) fun u10 => (b2 (mX11_commandWith h0 pi2 s0) fun r4 s3 => (if r4 = none then (mX11_isAddressOf_65 s3) else (b1 r4 fun a6 => (b1 (g_I s3 102 0 a6) fun x7 => (b1 (t_I tb_10 x7) fun x8 => (if x8 = pi1 then (mX11_isAddressOf_66 (1 : Int32) s3) else (mX11_isAddressOf_65 s3)))))))) else (if pi2 = 0 then (mX11_isAddressOf_38 (1 : Int32) s0) else (mX11_isAddressOf_38 (0 : Int32) s0))))
set_option maxRecDepth 100000 in
set_option maxHeartbeats 4000000 in
theorem zX11_isAddressOf (E : eE) {h0 : Nat} {pi1 : Int32} {pi2 : Int32} {s0 s9 : eS} {y : Int32} (h : mX11_isAddressOf h0 pi1 pi2 s0 = some (y, s9)) : EM E YX11_isAddressOf [VR (some h0), VI pi1, VI pi2] s0 (some (VI y)) s9 := by
  refine EM_of (M := MX11_isAddressOf) (own := RX11) (ini := false) rfl (by decide +kernel) rfl (fun z => nomatch z) (Nat.le_of_ble_eq_true rfl) ?_
  unfold mX11_isAddressOf at h
  refine EV_iload_n dX11_isAddressOf_0 rfl ?_
  refine EV_bipush (x := (102 : Int32)) dX11_isAddressOf_1 (by decide) ?_
  refine EV_icmp_ne (tgt := 23) dX11_isAddressOf_3 (by decide) (fun c1 => ?_) (fun c1 => ?_)
  · rw [if_pos c1] at h
    refine EV_aload_n dX11_isAddressOf_6 rfl ?_
    have hh := b1_some h; clear h; obtain ⟨r2, hr2, h⟩ := hh
    refine EV_getP (ci := 11) (k := 1) dX11_isAddressOf_7 fl_X11_16 rfl hr2 ?_
    refine EV_iload_n dX11_isAddressOf_10 rfl ?_
    have hh := b1_some h; clear h; obtain ⟨a3, ha3, h⟩ := hh
    subst ha3
    have hh := b1_some h; clear h; obtain ⟨u7, hu7, h⟩ := hh
    have hh := b2_some h; clear h; obtain ⟨r5, s4, hs4, h⟩ := hh
    refine EV_callV (Y := YX7_withAddress) (as := [VI pi2]) (st := []) (st2 := [VR r5]) (a := a3) (ci := 7) (r := rX7) (n := 1) dX11_isAddressOf_11 (zX7_withAddress E hs4) rfl cwX7_withAddress rfl tw_398 tw_399 tw_400 rfl (e_if hu7).1.1 (e_if hu7).1.2 ⟨by decide, by decide⟩ (Nat.le_of_ble_eq_true rfl) rfl ?_
    refine EV_ifnull (tgt := 21) dX11_isAddressOf_14 (by decide) (fun c6 => ?_) (fun c6 => ?_)
    · rw [if_pos c6] at h
      refine EV_iconst (x := (0 : Int32)) dX11_isAddressOf_21 (by decide) ?_
      exact EV_pick [] rfl (zX11_isAddressOf_22 E h)
    · rw [if_neg c6] at h
      refine EV_iconst (x := (1 : Int32)) dX11_isAddressOf_17 (by decide) ?_
      refine EV_goto (tgt := 22) dX11_isAddressOf_18 (by decide) ?_
      exact EV_pick [] rfl (zX11_isAddressOf_22 E h)
  · rw [if_neg c1] at h
    refine EV_iload_n dX11_isAddressOf_23 rfl ?_
    refine EV_bipush (x := (100 : Int32)) dX11_isAddressOf_24 (by decide) ?_
    refine EV_icmp_lt (tgt := 39) dX11_isAddressOf_26 (by decide) (fun c2 => ?_) (fun c2 => ?_)
    · rw [if_pos c2] at h
      refine EV_aload_n dX11_isAddressOf_39 rfl ?_
      refine EV_iload_n dX11_isAddressOf_40 rfl ?_
      have hh := b1_some h; clear h; obtain ⟨u10, hu10, h⟩ := hh
      have hh := b2_some h; clear h; obtain ⟨r4, s3, hs3, h⟩ := hh
      refine EV_callV (Y := YX11_commandWith) (as := [VI pi2]) (st := []) (st2 := [VR r4]) (a := h0) (ci := 11) (r := rX11) (n := 1) dX11_isAddressOf_41 (zX11_commandWith E hs3) rfl cwX11_commandWith rfl tw_402 tw_404 tw_1 rfl (e_if hu10).1.1 (e_if hu10).1.2 ⟨by decide, by decide⟩ (Nat.le_of_ble_eq_true rfl) rfl ?_
      refine EV_astore_n (lv2 := [(3, VR r4), (0, VR (some h0)), (1, VI pi1), (2, VI pi2)]) dX11_isAddressOf_44 (by decide) rfl ?_
      refine EV_aload_n dX11_isAddressOf_45 rfl ?_
      refine EV_ifnull (tgt := 65) dX11_isAddressOf_46 (by decide) (fun c5 => ?_) (fun c5 => ?_)
      · rw [if_pos c5] at h
        exact EV_pick [] rfl (zX11_isAddressOf_65 E h)
      · rw [if_neg c5] at h
        refine EV_gets (j := 10) (r := st_10) dX11_isAddressOf_49 rfl tw_720 ?_
        refine EV_aload_n dX11_isAddressOf_52 rfl ?_
        have hh := b1_some h; clear h; obtain ⟨a6, ha6, h⟩ := hh
        subst ha6
        have hh := b1_some h; clear h; obtain ⟨x7, hx7, h⟩ := hh
        refine EV_getI (ci := 2) (k := 0) dX11_isAddressOf_53 fl_X11_415 rfl hx7 ?_
        have hh := b1_some h; clear h; obtain ⟨x8, hx8, h⟩ := hh
        refine EV_tabI (j := 10) (r := st_10) (l := tb_10) dX11_isAddressOf_56 rfl rfl hx8 ?_
        refine EV_iload_n dX11_isAddressOf_57 rfl ?_
        refine EV_icmp_ne (tgt := 65) dX11_isAddressOf_58 (by decide) (fun c9 => ?_) (fun c9 => ?_)
        · rw [if_pos c9] at h
          refine EV_iconst (x := (1 : Int32)) dX11_isAddressOf_61 (by decide) ?_
          refine EV_goto (tgt := 66) dX11_isAddressOf_62 (by decide) ?_
          exact EV_pick [] rfl (zX11_isAddressOf_66 E h)
        · rw [if_neg c9] at h
          exact EV_pick [] rfl (zX11_isAddressOf_65 E h)
    · rw [if_neg c2] at h
      refine EV_iload_n dX11_isAddressOf_29 rfl ?_
      refine EV_if_ne (tgt := 37) dX11_isAddressOf_30 (by decide) (fun c3 => ?_) (fun c3 => ?_)
      · rw [if_pos c3] at h
        refine EV_iconst (x := (1 : Int32)) dX11_isAddressOf_33 (by decide) ?_
        refine EV_goto (tgt := 38) dX11_isAddressOf_34 (by decide) ?_
        exact EV_pick [] rfl (zX11_isAddressOf_38 E h)
      · rw [if_neg c3] at h
        refine EV_iconst (x := (0 : Int32)) dX11_isAddressOf_37 (by decide) ?_
        exact EV_pick [] rfl (zX11_isAddressOf_38 E h)
def mX11_faultOf_111 (pt0 : Int32) (s0 : eS) : Option (Int32 × eS) :=
  (some (pt0, s0))
set_option maxRecDepth 100000 in
set_option maxHeartbeats 4000000 in
theorem zX11_faultOf_111 (E : eE) {pt0 : Int32} {s0 s9 : eS} {y : Int32} (h : mX11_faultOf_111 pt0 s0 = some (y, s9)) : EV E MX11_faultOf 111 [] [VI pt0] s0 (some (VI y)) s9 := by
  unfold mX11_faultOf_111 at h
  cases h
  exact EV_ret ⟨dX11_faultOf_111, .int, rfl, rfl⟩ rfl
def mX11_faultOf_91 (s0 : eS) : Option (Int32 × eS) :=
  (some ((-1 : Int32), s0))
set_option maxRecDepth 100000 in
set_option maxHeartbeats 4000000 in
theorem zX11_faultOf_91 (E : eE) {s0 s9 : eS} {y : Int32} (h : mX11_faultOf_91 s0 = some (y, s9)) : EV E MX11_faultOf 91 [] [] s0 (some (VI y)) s9 := by
  unfold mX11_faultOf_91 at h
  refine EV_iconst (x := (-1 : Int32)) dX11_faultOf_91 (by decide) ?_
  cases h
  exact EV_ret ⟨dX11_faultOf_92, .int, rfl, rfl⟩ rfl
def mX11_faultOf_71 (h0 : Nat) (pr1 : Option Nat) (pi2 : Int32) (s0 : eS) : Option (Int32 × eS) :=
  (b1 pr1 fun a1 => (b1 (g_I s0 104 1 a1) fun x2 => (b2 (mX11_restLength pi2 s0) fun x4 s3 => (if x2 = x4 then (b1 (o_K s3 104 a1) fun u16 => (b2 (mX4_at a1 (1 : Int32) s3) fun x7 s6 => (if x7 = (1 : Int32) then (b1 (o_K s6 104 a1) fun u15 => (b2 (mX4_address a1 s6) fun x10 s9 => (b1 (o_K s9 111 h0) fun u14 => (b2 (mX11_isAddressOf h0 pi2 x10 s9) fun x12 s11 => (if x12 = 0 then (mX11_faultOf_111 (47 : Int32) s11) else (mX11_faultOf_111 (0 : Int32) s11)))))) else (mX11_faultOf_91 s6)))) else (mX11_faultOf_91 s3)))))
set_option maxRecDepth 100000 in
set_option maxHeartbeats 4000000 in
theorem zX11_faultOf_71 (E : eE) {h0 : Nat} {pr1 : Option Nat} {pi2 : Int32} {s0 s9 : eS} {y : Int32} (h : mX11_faultOf_71 h0 pr1 pi2 s0 = some (y, s9)) : EV E MX11_faultOf 71 [(0, VR (some h0)), (1, VR pr1), (2, VI pi2)] [] s0 (some (VI y)) s9 := by
  unfold mX11_faultOf_71 at h
  refine EV_aload_n dX11_faultOf_71 rfl ?_
  have hh := b1_some h; clear h; obtain ⟨a1, ha1, h⟩ := hh
  subst ha1
  have hh := b1_some h; clear h; obtain ⟨x2, hx2, h⟩ := hh
  refine EV_getI (ci := 4) (k := 1) dX11_faultOf_72 fl_X11_313 rfl hx2 ?_
  refine EV_iload_n dX11_faultOf_75 rfl ?_
  have hh := b2_some h; clear h; obtain ⟨x4, s3, hs3, h⟩ := hh
  refine EV_callS (Y := YX11_restLength) (as := [VI pi2]) (st := [VI x2]) (st2 := [VI x4, VI x2]) (n := 1) dX11_faultOf_76 (zX11_restLength E hs3) rfl cwX11_restLength rfl tw_699 tw_700 ⟨by decide, by decide⟩ (Nat.le_of_ble_eq_true rfl) rfl ?_
  refine EV_icmp_ne (tgt := 91) dX11_faultOf_79 (by decide) (fun c5 => ?_) (fun c5 => ?_)
  · rw [if_pos c5] at h
    refine EV_aload_n dX11_faultOf_82 rfl ?_
    refine EV_iconst (x := (1 : Int32)) dX11_faultOf_83 (by decide) ?_
    have hh := b1_some h; clear h; obtain ⟨u16, hu16, h⟩ := hh
    have hh := b2_some h; clear h; obtain ⟨x7, s6, hs6, h⟩ := hh
    refine EV_callV (Y := YX4_at) (as := [VI (1 : Int32)]) (st := []) (st2 := [VI x7]) (a := a1) (ci := 4) (r := rX4) (n := 1) dX11_faultOf_84 (zX4_at E hs6) rfl cwX4_at rfl tw_568 tw_569 tw_570 rfl (e_if hu16).1.1 (e_if hu16).1.2 ⟨by decide, by decide⟩ (Nat.le_of_ble_eq_true rfl) rfl ?_
    refine EV_iconst (x := (1 : Int32)) dX11_faultOf_87 (by decide) ?_
    refine EV_icmp_eq (tgt := 93) dX11_faultOf_88 (by decide) (fun c8 => ?_) (fun c8 => ?_)
    · rw [if_pos c8] at h
      refine EV_aload_n dX11_faultOf_93 rfl ?_
      refine EV_iload_n dX11_faultOf_94 rfl ?_
      refine EV_aload_n dX11_faultOf_95 rfl ?_
      have hh := b1_some h; clear h; obtain ⟨u15, hu15, h⟩ := hh
      have hh := b2_some h; clear h; obtain ⟨x10, s9, hs9, h⟩ := hh
      refine EV_callV (Y := YX4_address) (as := []) (st := [VI pi2, VR (some h0)]) (st2 := [VI x10, VI pi2, VR (some h0)]) (a := a1) (ci := 4) (r := rX4) (n := 0) dX11_faultOf_96 (zX4_address E hs9) rfl cwX4_address rfl tw_711 tw_712 tw_713 rfl (e_if hu15).1.1 (e_if hu15).1.2 ⟨by decide, by decide⟩ (Nat.le_of_ble_eq_true rfl) rfl ?_
      have hh := b1_some h; clear h; obtain ⟨u14, hu14, h⟩ := hh
      have hh := b2_some h; clear h; obtain ⟨x12, s11, hs11, h⟩ := hh
      refine EV_callV (Y := YX11_isAddressOf) (as := [VI pi2, VI x10]) (st := []) (st2 := [VI x12]) (a := h0) (ci := 11) (r := rX11) (n := 2) dX11_faultOf_99 (zX11_isAddressOf E hs11) rfl cwX11_isAddressOf rfl tw_716 tw_718 tw_15 rfl (e_if hu14).1.1 (e_if hu14).1.2 ⟨by decide, by decide⟩ (Nat.le_of_ble_eq_true rfl) rfl ?_
      refine EV_if_eq (tgt := 109) dX11_faultOf_102 (by decide) (fun c13 => ?_) (fun c13 => ?_)
      · rw [if_pos c13] at h
        refine EV_bipush (x := (47 : Int32)) dX11_faultOf_109 (by decide) ?_
        exact EV_pick [] rfl (zX11_faultOf_111 E h)
      · rw [if_neg c13] at h
        refine EV_iconst (x := (0 : Int32)) dX11_faultOf_105 (by decide) ?_
        refine EV_goto (tgt := 111) dX11_faultOf_106 (by decide) ?_
        exact EV_pick [] rfl (zX11_faultOf_111 E h)
    · rw [if_neg c8] at h
      exact EV_pick [] rfl (zX11_faultOf_91 E h)
  · rw [if_neg c5] at h
    exact EV_pick [] rfl (zX11_faultOf_91 E h)
def mX11_faultOf_68 (s0 : eS) : Option (Int32 × eS) :=
  (some ((46 : Int32), s0))
set_option maxRecDepth 100000 in
set_option maxHeartbeats 4000000 in
theorem zX11_faultOf_68 (E : eE) {s0 s9 : eS} {y : Int32} (h : mX11_faultOf_68 s0 = some (y, s9)) : EV E MX11_faultOf 68 [] [] s0 (some (VI y)) s9 := by
  unfold mX11_faultOf_68 at h
  refine EV_bipush (x := (46 : Int32)) dX11_faultOf_68 (by decide) ?_
  cases h
  exact EV_ret ⟨dX11_faultOf_70, .int, rfl, rfl⟩ rfl
def mX11_faultOf (h0 : Nat) (pr1 : Option Nat) (pi2 : Int32) (pi3 : Int32) (s0 : eS) : Option (Int32 × eS) :=
  (b1 pr1 fun a1 => (b1 (g_I s0 104 1 a1) fun x2 => (if (9 : Int32) ≤ x2 then (b2 (mX11_restLength pi2 s0) fun x5 s4 => (if x5 = 0 then (some ((44 : Int32), s4)) else (b2 (mX11_isCauseOf pi2 pi3 s4) fun x8 s7 => (if x8 = 0 then (some ((45 : Int32), s7)) else (b1 (o_K s7 104 a1) fun u18 => (b2 (mX4_number a1 (4 : Int32) (2 : Int32) s7) fun x11 s10 => (b1 (g_P s10 111 0 h0) fun r12 => (b1 r12 fun a13 => (b1 (a_I s10 0 a13 (0 : Int32)) fun x14 => (if (lg_cmp x11 ((x14).toInt64)) = 0 then (mX11_faultOf_71 h0 (some a1) pi2 s10) else (if pi2 < (100 : Int32) then (mX11_faultOf_68 s10) else (if (lg_cmp x11 (65535 : Int64)) = 0 then (mX11_faultOf_71 h0 (some a1) pi2 s10) else (mX11_faultOf_68 s10))))))))))))) else (some ((-1 : Int32), s0)))))
set_option maxRecDepth 100000 in
set_option maxHeartbeats 4000000 in
theorem zX11_faultOf (E : eE) {h0 : Nat} {pr1 : Option Nat} {pi2 : Int32} {pi3 : Int32} {s0 s9 : eS} {y : Int32} (h : mX11_faultOf h0 pr1 pi2 pi3 s0 = some (y, s9)) : EM E YX11_faultOf [VR (some h0), VR pr1, VI pi2, VI pi3] s0 (some (VI y)) s9 := by
  refine EM_of (M := MX11_faultOf) (own := RX11) (ini := false) rfl (by decide +kernel) rfl (fun z => nomatch z) (Nat.le_of_ble_eq_true rfl) ?_
  unfold mX11_faultOf at h
  refine EV_aload_n dX11_faultOf_0 rfl ?_
  have hh := b1_some h; clear h; obtain ⟨a1, ha1, h⟩ := hh
  subst ha1
  have hh := b1_some h; clear h; obtain ⟨x2, hx2, h⟩ := hh
  refine EV_getI (ci := 4) (k := 1) dX11_faultOf_1 fl_X11_313 rfl hx2 ?_
  refine EV_bipush (x := (9 : Int32)) dX11_faultOf_4 (by decide) ?_
  refine EV_icmp_ge (tgt := 11) dX11_faultOf_6 (by decide) (fun c3 => ?_) (fun c3 => ?_)
  · rw [if_pos c3] at h
    refine EV_iload_n dX11_faultOf_11 rfl ?_
    have hh := b2_some h; clear h; obtain ⟨x5, s4, hs4, h⟩ := hh
    refine EV_callS (Y := YX11_restLength) (as := [VI pi2]) (st := []) (st2 := [VI x5]) (n := 1) dX11_faultOf_12 (zX11_restLength E hs4) rfl cwX11_restLength rfl tw_699 tw_700 ⟨by decide, by decide⟩ (Nat.le_of_ble_eq_true rfl) rfl ?_
    refine EV_if_ne (tgt := 21) dX11_faultOf_15 (by decide) (fun c6 => ?_) (fun c6 => ?_)
    · rw [if_pos c6] at h
      refine EV_bipush (x := (44 : Int32)) dX11_faultOf_18 (by decide) ?_
      cases h
      exact EV_ret ⟨dX11_faultOf_20, .int, rfl, rfl⟩ rfl
    · rw [if_neg c6] at h
      refine EV_iload_n dX11_faultOf_21 rfl ?_
      refine EV_iload_n dX11_faultOf_22 rfl ?_
      have hh := b2_some h; clear h; obtain ⟨x8, s7, hs7, h⟩ := hh
      refine EV_callS (Y := YX11_isCauseOf) (as := [VI pi2, VI pi3]) (st := []) (st2 := [VI x8]) (n := 2) dX11_faultOf_23 (zX11_isCauseOf E hs7) rfl cwX11_isCauseOf rfl tw_702 tw_703 ⟨by decide, by decide⟩ (Nat.le_of_ble_eq_true rfl) rfl ?_
      refine EV_if_ne (tgt := 32) dX11_faultOf_26 (by decide) (fun c9 => ?_) (fun c9 => ?_)
      · rw [if_pos c9] at h
        refine EV_bipush (x := (45 : Int32)) dX11_faultOf_29 (by decide) ?_
        cases h
        exact EV_ret ⟨dX11_faultOf_31, .int, rfl, rfl⟩ rfl
      · rw [if_neg c9] at h
        refine EV_aload_n dX11_faultOf_32 rfl ?_
        refine EV_iconst (x := (4 : Int32)) dX11_faultOf_33 (by decide) ?_
        refine EV_iconst (x := (2 : Int32)) dX11_faultOf_34 (by decide) ?_
        have hh := b1_some h; clear h; obtain ⟨u18, hu18, h⟩ := hh
        have hh := b2_some h; clear h; obtain ⟨x11, s10, hs10, h⟩ := hh
        refine EV_callV (Y := YX4_number) (as := [VI (4 : Int32), VI (2 : Int32)]) (st := []) (st2 := [VL x11]) (a := a1) (ci := 4) (r := rX4) (n := 2) dX11_faultOf_35 (zX4_number E hs10) rfl cwX4_number rfl tw_705 tw_706 tw_707 rfl (e_if hu18).1.1 (e_if hu18).1.2 ⟨by decide, by decide⟩ (Nat.le_of_ble_eq_true rfl) rfl ?_
        refine EV_lstore (lv2 := [(4, VL x11), (0, VR (some h0)), (1, VR (some a1)), (2, VI pi2), (3, VI pi3)]) dX11_faultOf_38 (by decide) rfl ?_
        refine EV_lload dX11_faultOf_40 rfl ?_
        refine EV_aload_n dX11_faultOf_42 rfl ?_
        have hh := b1_some h; clear h; obtain ⟨r12, hr12, h⟩ := hh
        refine EV_getP (ci := 11) (k := 0) dX11_faultOf_43 fl_X11_7 rfl hr12 ?_
        refine EV_iconst (x := (0 : Int32)) dX11_faultOf_46 (by decide) ?_
        have hh := b1_some h; clear h; obtain ⟨a13, ha13, h⟩ := hh
        subst ha13
        have hh := b1_some h; clear h; obtain ⟨x14, hx14, h⟩ := hh
        refine EV_aI (t := 0) (ty := .int) rfl (by decide) dX11_faultOf_47 hx14 ?_
        refine EV_i2l dX11_faultOf_48 ?_
        refine EV_lcmp dX11_faultOf_49 ?_
        refine EV_if_eq (tgt := 71) dX11_faultOf_50 (by decide) (fun c15 => ?_) (fun c15 => ?_)
        · rw [if_pos c15] at h
          exact EV_pick [1, 2, 3] rfl (zX11_faultOf_71 E h)
        · rw [if_neg c15] at h
          refine EV_iload_n dX11_faultOf_53 rfl ?_
          refine EV_bipush (x := (100 : Int32)) dX11_faultOf_54 (by decide) ?_
          refine EV_icmp_lt (tgt := 68) dX11_faultOf_56 (by decide) (fun c16 => ?_) (fun c16 => ?_)
          · rw [if_pos c16] at h
            exact EV_pick [] rfl (zX11_faultOf_68 E h)
          · rw [if_neg c16] at h
            refine EV_lload dX11_faultOf_59 rfl ?_
            refine EV_ldc2 (x := (65535 : Int64)) dX11_faultOf_61 tw_710 ?_
            refine EV_lcmp dX11_faultOf_64 ?_
            refine EV_if_eq (tgt := 71) dX11_faultOf_65 (by decide) (fun c17 => ?_) (fun c17 => ?_)
            · rw [if_pos c17] at h
              exact EV_pick [1, 2, 3] rfl (zX11_faultOf_71 E h)
            · rw [if_neg c17] at h
              exact EV_pick [] rfl (zX11_faultOf_68 E h)
  · rw [if_neg c3] at h
    refine EV_iconst (x := (-1 : Int32)) dX11_faultOf_9 (by decide) ?_
    cases h
    exact EV_ret ⟨dX11_faultOf_10, .int, rfl, rfl⟩ rfl
def mX11_answerSame_56 (pt0 : Int32) (s0 : eS) : Option (Int32 × eS) :=
  (b1 (o_Z pt0) fun u1 => some (pt0, s0))
set_option maxRecDepth 100000 in
set_option maxHeartbeats 4000000 in
theorem zX11_answerSame_56 (E : eE) {pt0 : Int32} {s0 s9 : eS} {y : Int32} (h : mX11_answerSame_56 pt0 s0 = some (y, s9)) : EV E MX11_answerSame 56 [] [VI pt0] s0 (some (VI y)) s9 := by
  unfold mX11_answerSame_56 at h
  have hh := b1_some h; clear h; obtain ⟨u1, hu1, h⟩ := hh
  cases h
  exact EV_ret ⟨dX11_answerSame_56, .boolean, rfl, o_Z_n hu1⟩ rfl
def mX11_answerSame (h0 : Nat) (pi1 : Int32) (s0 : eS) : Option (Int32 × eS) :=
  (b1 (g_P s0 111 7 h0) fun r1 => (b1 r1 fun a2 => (b1 (o_K s0 100 a2) fun u26 => (b2 (mX0_next a2 s0) fun r4 s3 => (b1 (g_P s3 111 8 h0) fun r5 => (b1 r5 fun a6 => (b1 (g_P s3 108 0 a6) fun r7 => (b1 r4 fun a8 => (b1 (o_K s3 104 a8) fun u25 => (b1 (mX4_copy a8 r7 s3) fun s9 => (b1 (g_P s9 111 8 h0) fun r11 => (b1 r11 fun a12 => (b1 (g_P s9 108 0 a12) fun r13 => (b1 r13 fun a14 => (b1 (o_K s9 104 a14) fun u24 => (b2 (mX4_at a14 (2 : Int32) s9) fun x16 s15 => (b1 (o_K s15 104 a8) fun u23 => (b1 (mX4_replace a8 (2 : Int32) (pi1 ||| (x16 &&& (128 : Int32))) s15) fun s17 => (b1 (g_P s17 111 7 h0) fun r19 => (b1 r19 fun a20 => (b1 (g_I s17 100 4 a20) fun x21 => (if x21 = 0 then (mX11_answerSame_56 (1 : Int32) s17) else (mX11_answerSame_56 (0 : Int32) s17)))))))))))))))))))))))
set_option maxRecDepth 100000 in
set_option maxHeartbeats 4000000 in
theorem zX11_answerSame (E : eE) {h0 : Nat} {pi1 : Int32} {s0 s9 : eS} {y : Int32} (h : mX11_answerSame h0 pi1 s0 = some (y, s9)) : EM E YX11_answerSame [VR (some h0), VI pi1] s0 (some (VI y)) s9 := by
  refine EM_of (M := MX11_answerSame) (own := RX11) (ini := false) rfl (by decide +kernel) rfl (fun z => nomatch z) (Nat.le_of_ble_eq_true rfl) ?_
  unfold mX11_answerSame at h
  refine EV_aload_n dX11_answerSame_0 rfl ?_
  have hh := b1_some h; clear h; obtain ⟨r1, hr1, h⟩ := hh
  refine EV_getP (ci := 11) (k := 7) dX11_answerSame_1 fl_X11_50 rfl hr1 ?_
  have hh := b1_some h; clear h; obtain ⟨a2, ha2, h⟩ := hh
  subst ha2
  have hh := b1_some h; clear h; obtain ⟨u26, hu26, h⟩ := hh
  have hh := b2_some h; clear h; obtain ⟨r4, s3, hs3, h⟩ := hh
  refine EV_callV (Y := YX0_next) (as := []) (st := []) (st2 := [VR r4]) (a := a2) (ci := 0) (r := rX0) (n := 0) dX11_answerSame_4 (zX0_next E hs3) rfl cwX0_next rfl tw_726 tw_727 tw_728 rfl (e_if hu26).1.1 (e_if hu26).1.2 ⟨by decide, by decide⟩ (Nat.le_of_ble_eq_true rfl) rfl ?_
  refine EV_astore_n (lv2 := [(2, VR r4), (0, VR (some h0)), (1, VI pi1)]) dX11_answerSame_7 (by decide) rfl ?_
  refine EV_aload_n dX11_answerSame_8 rfl ?_
  refine EV_aload_n dX11_answerSame_9 rfl ?_
  have hh := b1_some h; clear h; obtain ⟨r5, hr5, h⟩ := hh
  refine EV_getP (ci := 11) (k := 8) dX11_answerSame_10 fl_X11_57 rfl hr5 ?_
  have hh := b1_some h; clear h; obtain ⟨a6, ha6, h⟩ := hh
  subst ha6
  have hh := b1_some h; clear h; obtain ⟨r7, hr7, h⟩ := hh
  refine EV_getP (ci := 8) (k := 0) dX11_answerSame_13 fl_X11_173 rfl hr7 ?_
  have hh := b1_some h; clear h; obtain ⟨a8, ha8, h⟩ := hh
  subst ha8
  have hh := b1_some h; clear h; obtain ⟨u25, hu25, h⟩ := hh
  have hh := b1_some h; clear h; obtain ⟨s9, hs9, h⟩ := hh
  refine EV_callV (Y := YX4_copy) (as := [VR r7]) (st := []) (st2 := []) (a := a8) (ci := 4) (r := rX4) (n := 1) dX11_answerSame_16 (zX4_copy E hs9) rfl cwX4_copy rfl tw_731 tw_732 tw_733 rfl (e_if hu25).1.1 (e_if hu25).1.2 ⟨by decide, by decide⟩ (Nat.le_of_ble_eq_true rfl) rfl ?_
  refine EV_aload_n dX11_answerSame_19 rfl ?_
  refine EV_iconst (x := (2 : Int32)) dX11_answerSame_20 (by decide) ?_
  refine EV_iload_n dX11_answerSame_21 rfl ?_
  refine EV_aload_n dX11_answerSame_22 rfl ?_
  have hh := b1_some h; clear h; obtain ⟨r11, hr11, h⟩ := hh
  refine EV_getP (ci := 11) (k := 8) dX11_answerSame_23 fl_X11_57 rfl hr11 ?_
  have hh := b1_some h; clear h; obtain ⟨a12, ha12, h⟩ := hh
  subst ha12
  have hh := b1_some h; clear h; obtain ⟨r13, hr13, h⟩ := hh
  refine EV_getP (ci := 8) (k := 0) dX11_answerSame_26 fl_X11_173 rfl hr13 ?_
  refine EV_iconst (x := (2 : Int32)) dX11_answerSame_29 (by decide) ?_
  have hh := b1_some h; clear h; obtain ⟨a14, ha14, h⟩ := hh
  subst ha14
  have hh := b1_some h; clear h; obtain ⟨u24, hu24, h⟩ := hh
  have hh := b2_some h; clear h; obtain ⟨x16, s15, hs15, h⟩ := hh
  refine EV_callV (Y := YX4_at) (as := [VI (2 : Int32)]) (st := [VI pi1, VI (2 : Int32), VR (some a8)]) (st2 := [VI x16, VI pi1, VI (2 : Int32), VR (some a8)]) (a := a14) (ci := 4) (r := rX4) (n := 1) dX11_answerSame_30 (zX4_at E hs15) rfl cwX4_at rfl tw_568 tw_569 tw_570 rfl (e_if hu24).1.1 (e_if hu24).1.2 ⟨by decide, by decide⟩ (Nat.le_of_ble_eq_true rfl) rfl ?_
  refine EV_sipush (x := (128 : Int32)) dX11_answerSame_33 (by decide) ?_
  refine EV_iand dX11_answerSame_36 ?_
  refine EV_ior dX11_answerSame_37 ?_
  have hh := b1_some h; clear h; obtain ⟨u23, hu23, h⟩ := hh
  have hh := b1_some h; clear h; obtain ⟨s17, hs17, h⟩ := hh
  refine EV_callV (Y := YX4_replace) (as := [VI (2 : Int32), VI (pi1 ||| (x16 &&& (128 : Int32)))]) (st := []) (st2 := []) (a := a8) (ci := 4) (r := rX4) (n := 2) dX11_answerSame_38 (zX4_replace E hs17) rfl cwX4_replace rfl tw_744 tw_745 tw_746 rfl (e_if hu23).1.1 (e_if hu23).1.2 ⟨by decide, by decide⟩ (Nat.le_of_ble_eq_true rfl) rfl ?_
  refine EV_aload_n dX11_answerSame_41 rfl ?_
  have hh := b1_some h; clear h; obtain ⟨r19, hr19, h⟩ := hh
  refine EV_getP (ci := 11) (k := 7) dX11_answerSame_42 fl_X11_50 rfl hr19 ?_
  have hh := b1_some h; clear h; obtain ⟨a20, ha20, h⟩ := hh
  subst ha20
  have hh := b1_some h; clear h; obtain ⟨x21, hx21, h⟩ := hh
  refine EV_getI (ci := 0) (k := 4) dX11_answerSame_45 fl_X11_398 rfl hx21 ?_
  refine EV_if_ne (tgt := 55) dX11_answerSame_48 (by decide) (fun c22 => ?_) (fun c22 => ?_)
  · rw [if_pos c22] at h
    refine EV_iconst (x := (1 : Int32)) dX11_answerSame_51 (by decide) ?_
    refine EV_goto (tgt := 56) dX11_answerSame_52 (by decide) ?_
    exact EV_pick [] rfl (zX11_answerSame_56 E h)
  · rw [if_neg c22] at h
    refine EV_iconst (x := (0 : Int32)) dX11_answerSame_55 (by decide) ?_
    exact EV_pick [] rfl (zX11_answerSame_56 E h)
def mX11_answerObject (h0 : Nat) (pr1 : Option Nat) (pi2 : Int32) (s0 : eS) : Option eS :=
  (b1 (g_P s0 111 7 h0) fun r1 => (b1 r1 fun a2 => (b1 (o_K s0 100 a2) fun u33 => (b2 (mX0_next a2 s0) fun r4 s3 => (b1 pr1 fun a5 => (b1 (g_I s3 106 0 a5) fun x6 => (b1 (t_I tb_9 x6) fun x7 => (b1 (g_P s3 111 8 h0) fun r8 => (b1 r8 fun a9 => (b1 (o_K s3 108 a9) fun u32 => (b2 (mX8_originator a9 s3) fun x11 s10 => (b1 (g_P s10 111 0 h0) fun r12 => (b1 r12 fun a13 => (b1 (a_I s10 0 a13 (0 : Int32)) fun x14 => (b2 (mX11_objectHead x7 pi2 x11 x14 s10) fun x16 s15 => (b1 r4 fun a17 => (b1 (o_K s15 104 a17) fun u31 => (b1 (mX4_add a17 x16 (6 : Int32) s15) fun s18 => (b1 (g_I s18 106 4 a5) fun x20 => (b1 (g_I s18 111 18 h0) fun x21 => (b1 (o_K s18 106 a5) fun u30 => (b2 (mX6_object a5 x20 x21 s18) fun x23 s22 => (b1 (o_K s22 106 a5) fun u29 => (b2 (mX6_objectBytes a5 s22) fun x25 s24 => (b1 (o_K s24 104 a17) fun u28 => (b1 (mX4_add a17 x23 x25 s24) fun s26 => (some s26)))))))))))))))))))))))))))
set_option maxRecDepth 100000 in
set_option maxHeartbeats 4000000 in
theorem zX11_answerObject (E : eE) {h0 : Nat} {pr1 : Option Nat} {pi2 : Int32} {s0 s9 : eS} (h : mX11_answerObject h0 pr1 pi2 s0 = some s9) : EM E YX11_answerObject [VR (some h0), VR pr1, VI pi2] s0 none s9 := by
  refine EM_of (M := MX11_answerObject) (own := RX11) (ini := false) rfl (by decide +kernel) rfl (fun z => nomatch z) (Nat.le_of_ble_eq_true rfl) ?_
  unfold mX11_answerObject at h
  refine EV_aload_n dX11_answerObject_0 rfl ?_
  have hh := b1_some h; clear h; obtain ⟨r1, hr1, h⟩ := hh
  refine EV_getP (ci := 11) (k := 7) dX11_answerObject_1 fl_X11_50 rfl hr1 ?_
  have hh := b1_some h; clear h; obtain ⟨a2, ha2, h⟩ := hh
  subst ha2
  have hh := b1_some h; clear h; obtain ⟨u33, hu33, h⟩ := hh
  have hh := b2_some h; clear h; obtain ⟨r4, s3, hs3, h⟩ := hh
  refine EV_callV (Y := YX0_next) (as := []) (st := []) (st2 := [VR r4]) (a := a2) (ci := 0) (r := rX0) (n := 0) dX11_answerObject_4 (zX0_next E hs3) rfl cwX0_next rfl tw_726 tw_727 tw_728 rfl (e_if hu33).1.1 (e_if hu33).1.2 ⟨by decide, by decide⟩ (Nat.le_of_ble_eq_true rfl) rfl ?_
  refine EV_astore_n (lv2 := [(3, VR r4), (0, VR (some h0)), (1, VR pr1), (2, VI pi2)]) dX11_answerObject_7 (by decide) rfl ?_
  refine EV_aload_n dX11_answerObject_8 rfl ?_
  refine EV_gets (j := 9) (r := st_9) dX11_answerObject_9 rfl tw_761 ?_
  refine EV_aload_n dX11_answerObject_12 rfl ?_
  have hh := b1_some h; clear h; obtain ⟨a5, ha5, h⟩ := hh
  subst ha5
  have hh := b1_some h; clear h; obtain ⟨x6, hx6, h⟩ := hh
  refine EV_getI (ci := 6) (k := 0) dX11_answerObject_13 fl_X11_105 rfl hx6 ?_
  have hh := b1_some h; clear h; obtain ⟨x7, hx7, h⟩ := hh
  refine EV_tabI (j := 9) (r := st_9) (l := tb_9) dX11_answerObject_16 rfl rfl hx7 ?_
  refine EV_iload_n dX11_answerObject_17 rfl ?_
  refine EV_aload_n dX11_answerObject_18 rfl ?_
  have hh := b1_some h; clear h; obtain ⟨r8, hr8, h⟩ := hh
  refine EV_getP (ci := 11) (k := 8) dX11_answerObject_19 fl_X11_57 rfl hr8 ?_
  have hh := b1_some h; clear h; obtain ⟨a9, ha9, h⟩ := hh
  subst ha9
  have hh := b1_some h; clear h; obtain ⟨u32, hu32, h⟩ := hh
  have hh := b2_some h; clear h; obtain ⟨x11, s10, hs10, h⟩ := hh
  refine EV_callV (Y := YX8_originator) (as := []) (st := [VI pi2, VI x7, VR r4]) (st2 := [VI x11, VI pi2, VI x7, VR r4]) (a := a9) (ci := 8) (r := rX8) (n := 0) dX11_answerObject_22 (zX8_originator E hs10) rfl cwX8_originator rfl tw_762 tw_763 tw_764 rfl (e_if hu32).1.1 (e_if hu32).1.2 ⟨by decide, by decide⟩ (Nat.le_of_ble_eq_true rfl) rfl ?_
  refine EV_aload_n dX11_answerObject_25 rfl ?_
  have hh := b1_some h; clear h; obtain ⟨r12, hr12, h⟩ := hh
  refine EV_getP (ci := 11) (k := 0) dX11_answerObject_26 fl_X11_7 rfl hr12 ?_
  refine EV_iconst (x := (0 : Int32)) dX11_answerObject_29 (by decide) ?_
  have hh := b1_some h; clear h; obtain ⟨a13, ha13, h⟩ := hh
  subst ha13
  have hh := b1_some h; clear h; obtain ⟨x14, hx14, h⟩ := hh
  refine EV_aI (t := 0) (ty := .int) rfl (by decide) dX11_answerObject_30 hx14 ?_
  have hh := b2_some h; clear h; obtain ⟨x16, s15, hs15, h⟩ := hh
  refine EV_callS (Y := YX11_objectHead) (as := [VI x7, VI pi2, VI x11, VI x14]) (st := [VR r4]) (st2 := [VL x16, VR r4]) (n := 4) dX11_answerObject_31 (zX11_objectHead E hs15) rfl cwX11_objectHead rfl tw_766 tw_593 ⟨by decide, by decide⟩ (Nat.le_of_ble_eq_true rfl) rfl ?_
  refine EV_bipush (x := (6 : Int32)) dX11_answerObject_34 (by decide) ?_
  have hh := b1_some h; clear h; obtain ⟨a17, ha17, h⟩ := hh
  subst ha17
  have hh := b1_some h; clear h; obtain ⟨u31, hu31, h⟩ := hh
  have hh := b1_some h; clear h; obtain ⟨s18, hs18, h⟩ := hh
  refine EV_callV (Y := YX4_add) (as := [VL x16, VI (6 : Int32)]) (st := []) (st2 := []) (a := a17) (ci := 4) (r := rX4) (n := 2) dX11_answerObject_36 (zX4_add E hs18) rfl cwX4_add rfl tw_767 tw_596 tw_597 rfl (e_if hu31).1.1 (e_if hu31).1.2 ⟨by decide, by decide⟩ (Nat.le_of_ble_eq_true rfl) rfl ?_
  refine EV_aload_n dX11_answerObject_39 rfl ?_
  refine EV_aload_n dX11_answerObject_40 rfl ?_
  refine EV_aload_n dX11_answerObject_41 rfl ?_
  have hh := b1_some h; clear h; obtain ⟨x20, hx20, h⟩ := hh
  refine EV_getI (ci := 6) (k := 4) dX11_answerObject_42 fl_X11_121 rfl hx20 ?_
  refine EV_aload_n dX11_answerObject_45 rfl ?_
  have hh := b1_some h; clear h; obtain ⟨x21, hx21, h⟩ := hh
  refine EV_getI (ci := 11) (k := 18) dX11_answerObject_46 fl_X11_131 rfl hx21 ?_
  have hh := b1_some h; clear h; obtain ⟨u30, hu30, h⟩ := hh
  have hh := b2_some h; clear h; obtain ⟨x23, s22, hs22, h⟩ := hh
  refine EV_callV (Y := YX6_object) (as := [VI x20, VI x21]) (st := [VR (some a17)]) (st2 := [VL x23, VR (some a17)]) (a := a5) (ci := 6) (r := rX6) (n := 2) dX11_answerObject_49 (zX6_object E hs22) rfl cwX6_object rfl tw_504 tw_505 tw_506 rfl (e_if hu30).1.1 (e_if hu30).1.2 ⟨by decide, by decide⟩ (Nat.le_of_ble_eq_true rfl) rfl ?_
  refine EV_aload_n dX11_answerObject_52 rfl ?_
  have hh := b1_some h; clear h; obtain ⟨u29, hu29, h⟩ := hh
  have hh := b2_some h; clear h; obtain ⟨x25, s24, hs24, h⟩ := hh
  refine EV_callV (Y := YX6_objectBytes) (as := []) (st := [VL x23, VR (some a17)]) (st2 := [VI x25, VL x23, VR (some a17)]) (a := a5) (ci := 6) (r := rX6) (n := 0) dX11_answerObject_53 (zX6_objectBytes E hs24) rfl cwX6_objectBytes rfl tw_768 tw_600 tw_601 rfl (e_if hu29).1.1 (e_if hu29).1.2 ⟨by decide, by decide⟩ (Nat.le_of_ble_eq_true rfl) rfl ?_
  have hh := b1_some h; clear h; obtain ⟨u28, hu28, h⟩ := hh
  have hh := b1_some h; clear h; obtain ⟨s26, hs26, h⟩ := hh
  refine EV_callV (Y := YX4_add) (as := [VL x23, VI x25]) (st := []) (st2 := []) (a := a17) (ci := 4) (r := rX4) (n := 2) dX11_answerObject_56 (zX4_add E hs26) rfl cwX4_add rfl tw_767 tw_596 tw_597 rfl (e_if hu28).1.1 (e_if hu28).1.2 ⟨by decide, by decide⟩ (Nat.le_of_ble_eq_true rfl) rfl ?_
  cases h
  exact EV_ret ⟨dX11_answerObject_59, rfl⟩ rfl
def mX11_readCame_20 (s0 : eS) : Option eS :=
  (some s0)
set_option maxRecDepth 100000 in
set_option maxHeartbeats 4000000 in
theorem zX11_readCame_20 (E : eE) {s0 s9 : eS} (h : mX11_readCame_20 s0 = some s9) : EV E MX11_readCame 20 [] [] s0 none s9 := by
  unfold mX11_readCame_20 at h
  cases h
  exact EV_ret ⟨dX11_readCame_20, rfl⟩ rfl
def mX11_readCame (h0 : Nat) (pr1 : Option Nat) (s0 : eS) : Option eS :=
  (if pr1 = none then (mX11_readCame_20 s0) else (b1 (g_P s0 111 8 h0) fun r2 => (b1 r2 fun a3 => (b1 (o_K s0 108 a3) fun u10 => (b2 (mX8_isTrial a3 s0) fun x5 s4 => (if x5 = 0 then (b1 (o_K s4 111 h0) fun u9 => (b1 (mX11_answerObject h0 pr1 (5 : Int32) s4) fun s7 => (mX11_readCame_20 s7))) else (mX11_readCame_20 s4)))))))
set_option maxRecDepth 100000 in
set_option maxHeartbeats 4000000 in
theorem zX11_readCame (E : eE) {h0 : Nat} {pr1 : Option Nat} {s0 s9 : eS} (h : mX11_readCame h0 pr1 s0 = some s9) : EM E YX11_readCame [VR (some h0), VR pr1] s0 none s9 := by
  refine EM_of (M := MX11_readCame) (own := RX11) (ini := false) rfl (by decide +kernel) rfl (fun z => nomatch z) (Nat.le_of_ble_eq_true rfl) ?_
  unfold mX11_readCame at h
  refine EV_aload_n dX11_readCame_0 rfl ?_
  refine EV_ifnull (tgt := 20) dX11_readCame_1 (by decide) (fun c1 => ?_) (fun c1 => ?_)
  · rw [if_pos c1] at h
    exact EV_pick [] rfl (zX11_readCame_20 E h)
  · rw [if_neg c1] at h
    refine EV_aload_n dX11_readCame_4 rfl ?_
    have hh := b1_some h; clear h; obtain ⟨r2, hr2, h⟩ := hh
    refine EV_getP (ci := 11) (k := 8) dX11_readCame_5 fl_X11_57 rfl hr2 ?_
    have hh := b1_some h; clear h; obtain ⟨a3, ha3, h⟩ := hh
    subst ha3
    have hh := b1_some h; clear h; obtain ⟨u10, hu10, h⟩ := hh
    have hh := b2_some h; clear h; obtain ⟨x5, s4, hs4, h⟩ := hh
    refine EV_callV (Y := YX8_isTrial) (as := []) (st := []) (st2 := [VI x5]) (a := a3) (ci := 8) (r := rX8) (n := 0) dX11_readCame_8 (zX8_isTrial E hs4) rfl cwX8_isTrial rfl tw_752 tw_753 tw_754 rfl (e_if hu10).1.1 (e_if hu10).1.2 ⟨by decide, by decide⟩ (Nat.le_of_ble_eq_true rfl) rfl ?_
    refine EV_if_ne (tgt := 20) dX11_readCame_11 (by decide) (fun c6 => ?_) (fun c6 => ?_)
    · rw [if_pos c6] at h
      refine EV_aload_n dX11_readCame_14 rfl ?_
      refine EV_aload_n dX11_readCame_15 rfl ?_
      refine EV_iconst (x := (5 : Int32)) dX11_readCame_16 (by decide) ?_
      have hh := b1_some h; clear h; obtain ⟨u9, hu9, h⟩ := hh
      have hh := b1_some h; clear h; obtain ⟨s7, hs7, h⟩ := hh
      refine EV_callV (Y := YX11_answerObject) (as := [VR pr1, VI (5 : Int32)]) (st := []) (st2 := []) (a := h0) (ci := 11) (r := rX11) (n := 2) dX11_readCame_17 (zX11_answerObject E hs7) rfl cwX11_answerObject rfl tw_757 tw_759 tw_18 rfl (e_if hu9).1.1 (e_if hu9).1.2 ⟨by decide, by decide⟩ (Nat.le_of_ble_eq_true rfl) rfl ?_
      exact EV_pick [] rfl (zX11_readCame_20 E h)
    · rw [if_neg c6] at h
      exact EV_pick [] rfl (zX11_readCame_20 E h)
def mX11_answerPoints_164 (k10 : Nat → Int32 → Option Nat → Int32 → Int32 → Int32 → eS → Option eS) (h0 : Nat) (pi1 : Int32) (pr2 : Option Nat) (pi3 : Int32) (pi4 : Int32) (pi5 : Int32) (s0 : eS) : Option eS :=
  (k10 h0 pi1 pr2 pi3 pi4 (pi5 + (1 : Int32)) s0)
set_option maxRecDepth 100000 in
set_option maxHeartbeats 4000000 in
theorem zX11_answerPoints_164 (E : eE) {k10 : Nat → Int32 → Option Nat → Int32 → Int32 → Int32 → eS → Option eS} (hk10 : ∀ {h0 : Nat} {pi1 : Int32} {pr2 : Option Nat} {pi3 : Int32} {pi4 : Int32} {pi5 : Int32} {s0 s9 : eS}, k10 h0 pi1 pr2 pi3 pi4 pi5 s0 = some s9 → EV E MX11_answerPoints 10 [(0, VR (some h0)), (1, VI pi1), (2, VR pr2), (3, VI pi3), (4, VI pi4), (5, VI pi5)] [] s0 none s9) {h0 : Nat} {pi1 : Int32} {pr2 : Option Nat} {pi3 : Int32} {pi4 : Int32} {pi5 : Int32} {s0 s9 : eS} (h : mX11_answerPoints_164 k10 h0 pi1 pr2 pi3 pi4 pi5 s0 = some s9) : EV E MX11_answerPoints 164 [(0, VR (some h0)), (1, VI pi1), (2, VR pr2), (3, VI pi3), (4, VI pi4), (5, VI pi5)] [] s0 none s9 := by
  unfold mX11_answerPoints_164 at h
  refine EV_iinc (y := (1 : Int32)) (lv2 := [(5, VI (pi5 + (1 : Int32))), (0, VR (some h0)), (1, VI pi1), (2, VR pr2), (3, VI pi3), (4, VI pi4)]) dX11_answerPoints_164 rfl (by decide) (by decide) rfl ?_
  refine EV_goto (tgt := 10) dX11_answerPoints_167 (by decide) ?_
  exact EV_pick [1, 2, 3, 4, 5, 0] rfl (hk10 h)
def mX11_answerPoints_132 (k10 : Nat → Int32 → Option Nat → Int32 → Int32 → Int32 → eS → Option eS) (h0 : Nat) (pi1 : Int32) (pr2 : Option Nat) (pi3 : Int32) (pi4 : Int32) (pi5 : Int32) (pr6 : Option Nat) (pt0 : Int32) (s0 : eS) : Option eS :=
  (b1 (g_I s0 111 18 h0) fun x1 => (b1 pr6 fun a2 => (b1 (o_K s0 106 a2) fun u15 => (b2 (mX6_object a2 pt0 x1 s0) fun x4 s3 => (b1 (o_K s3 106 a2) fun u14 => (b2 (mX6_objectBytes a2 s3) fun x6 s5 => (b1 pr2 fun a7 => (b1 (o_K s5 104 a7) fun u13 => (b1 (mX4_add a7 x4 x6 s5) fun s8 => (b1 (o_K s8 104 a7) fun u12 => (b1 (mX4_replace a7 (1 : Int32) (pi4 + (1 : Int32)) s8) fun s10 => (mX11_answerPoints_164 k10 h0 pi1 (some a7) pi3 (pi4 + (1 : Int32)) pi5 s10))))))))))))
set_option maxRecDepth 100000 in
set_option maxHeartbeats 4000000 in
theorem zX11_answerPoints_132 (E : eE) {k10 : Nat → Int32 → Option Nat → Int32 → Int32 → Int32 → eS → Option eS} (hk10 : ∀ {h0 : Nat} {pi1 : Int32} {pr2 : Option Nat} {pi3 : Int32} {pi4 : Int32} {pi5 : Int32} {s0 s9 : eS}, k10 h0 pi1 pr2 pi3 pi4 pi5 s0 = some s9 → EV E MX11_answerPoints 10 [(0, VR (some h0)), (1, VI pi1), (2, VR pr2), (3, VI pi3), (4, VI pi4), (5, VI pi5)] [] s0 none s9) {h0 : Nat} {pi1 : Int32} {pr2 : Option Nat} {pi3 : Int32} {pi4 : Int32} {pi5 : Int32} {pr6 : Option Nat} {pt0 : Int32} {s0 s9 : eS} (h : mX11_answerPoints_132 k10 h0 pi1 pr2 pi3 pi4 pi5 pr6 pt0 s0 = some s9) : EV E MX11_answerPoints 132 [(0, VR (some h0)), (1, VI pi1), (2, VR pr2), (3, VI pi3), (4, VI pi4), (5, VI pi5), (6, VR pr6)] [VI pt0] s0 none s9 := by
  unfold mX11_answerPoints_132 at h
  refine EV_istore (lv2 := [(7, VI pt0), (0, VR (some h0)), (1, VI pi1), (2, VR pr2), (3, VI pi3), (4, VI pi4), (5, VI pi5), (6, VR pr6)]) dX11_answerPoints_132 (by decide) rfl ?_
  refine EV_aload_n dX11_answerPoints_134 rfl ?_
  refine EV_aload dX11_answerPoints_135 rfl ?_
  refine EV_iload dX11_answerPoints_137 rfl ?_
  refine EV_aload_n dX11_answerPoints_139 rfl ?_
  have hh := b1_some h; clear h; obtain ⟨x1, hx1, h⟩ := hh
  refine EV_getI (ci := 11) (k := 18) dX11_answerPoints_140 fl_X11_131 rfl hx1 ?_
  have hh := b1_some h; clear h; obtain ⟨a2, ha2, h⟩ := hh
  subst ha2
  have hh := b1_some h; clear h; obtain ⟨u15, hu15, h⟩ := hh
  have hh := b2_some h; clear h; obtain ⟨x4, s3, hs3, h⟩ := hh
  refine EV_callV (Y := YX6_object) (as := [VI pt0, VI x1]) (st := [VR pr2]) (st2 := [VL x4, VR pr2]) (a := a2) (ci := 6) (r := rX6) (n := 2) dX11_answerPoints_143 (zX6_object E hs3) rfl cwX6_object rfl tw_504 tw_505 tw_506 rfl (e_if hu15).1.1 (e_if hu15).1.2 ⟨by decide, by decide⟩ (Nat.le_of_ble_eq_true rfl) rfl ?_
  refine EV_aload dX11_answerPoints_146 rfl ?_
  have hh := b1_some h; clear h; obtain ⟨u14, hu14, h⟩ := hh
  have hh := b2_some h; clear h; obtain ⟨x6, s5, hs5, h⟩ := hh
  refine EV_callV (Y := YX6_objectBytes) (as := []) (st := [VL x4, VR pr2]) (st2 := [VI x6, VL x4, VR pr2]) (a := a2) (ci := 6) (r := rX6) (n := 0) dX11_answerPoints_148 (zX6_objectBytes E hs5) rfl cwX6_objectBytes rfl tw_768 tw_600 tw_601 rfl (e_if hu14).1.1 (e_if hu14).1.2 ⟨by decide, by decide⟩ (Nat.le_of_ble_eq_true rfl) rfl ?_
  have hh := b1_some h; clear h; obtain ⟨a7, ha7, h⟩ := hh
  subst ha7
  have hh := b1_some h; clear h; obtain ⟨u13, hu13, h⟩ := hh
  have hh := b1_some h; clear h; obtain ⟨s8, hs8, h⟩ := hh
  refine EV_callV (Y := YX4_add) (as := [VL x4, VI x6]) (st := []) (st2 := []) (a := a7) (ci := 4) (r := rX4) (n := 2) dX11_answerPoints_151 (zX4_add E hs8) rfl cwX4_add rfl tw_767 tw_596 tw_597 rfl (e_if hu13).1.1 (e_if hu13).1.2 ⟨by decide, by decide⟩ (Nat.le_of_ble_eq_true rfl) rfl ?_
  refine EV_iinc (y := (1 : Int32)) (lv2 := [(4, VI (pi4 + (1 : Int32))), (7, VI pt0), (0, VR (some h0)), (1, VI pi1), (2, VR (some a7)), (3, VI pi3), (5, VI pi5), (6, VR (some a2))]) dX11_answerPoints_154 rfl (by decide) (by decide) rfl ?_
  refine EV_aload_n dX11_answerPoints_157 rfl ?_
  refine EV_iconst (x := (1 : Int32)) dX11_answerPoints_158 (by decide) ?_
  refine EV_iload dX11_answerPoints_159 rfl ?_
  have hh := b1_some h; clear h; obtain ⟨u12, hu12, h⟩ := hh
  have hh := b1_some h; clear h; obtain ⟨s10, hs10, h⟩ := hh
  refine EV_callV (Y := YX4_replace) (as := [VI (1 : Int32), VI (pi4 + (1 : Int32))]) (st := []) (st2 := []) (a := a7) (ci := 4) (r := rX4) (n := 2) dX11_answerPoints_161 (zX4_replace E hs10) rfl cwX4_replace rfl tw_744 tw_745 tw_746 rfl (e_if hu12).1.1 (e_if hu12).1.2 ⟨by decide, by decide⟩ (Nat.le_of_ble_eq_true rfl) rfl ?_
  exact EV_pick [2, 3, 4, 5, 0, 6] rfl (zX11_answerPoints_164 E hk10 h)
def mX11_answerPoints_113 (k10 : Nat → Int32 → Option Nat → Int32 → Int32 → Int32 → eS → Option eS) (h0 : Nat) (pi1 : Int32) (pr2 : Option Nat) (pi3 : Int32) (pi4 : Int32) (pi5 : Int32) (pr6 : Option Nat) (s0 : eS) : Option eS :=
  (if pi3 = (6 : Int32) then (b1 pr6 fun a2 => (b1 (g_I s0 106 6 a2) fun x3 => (mX11_answerPoints_132 k10 h0 pi1 pr2 pi3 pi4 pi5 (some a2) x3 s0))) else (b1 pr6 fun a2 => (b1 (g_I s0 106 4 a2) fun x3 => (mX11_answerPoints_132 k10 h0 pi1 pr2 pi3 pi4 pi5 (some a2) x3 s0))))
set_option maxRecDepth 100000 in
set_option maxHeartbeats 4000000 in
theorem zX11_answerPoints_113 (E : eE) {k10 : Nat → Int32 → Option Nat → Int32 → Int32 → Int32 → eS → Option eS} (hk10 : ∀ {h0 : Nat} {pi1 : Int32} {pr2 : Option Nat} {pi3 : Int32} {pi4 : Int32} {pi5 : Int32} {s0 s9 : eS}, k10 h0 pi1 pr2 pi3 pi4 pi5 s0 = some s9 → EV E MX11_answerPoints 10 [(0, VR (some h0)), (1, VI pi1), (2, VR pr2), (3, VI pi3), (4, VI pi4), (5, VI pi5)] [] s0 none s9) {h0 : Nat} {pi1 : Int32} {pr2 : Option Nat} {pi3 : Int32} {pi4 : Int32} {pi5 : Int32} {pr6 : Option Nat} {s0 s9 : eS} (h : mX11_answerPoints_113 k10 h0 pi1 pr2 pi3 pi4 pi5 pr6 s0 = some s9) : EV E MX11_answerPoints 113 [(0, VR (some h0)), (1, VI pi1), (2, VR pr2), (3, VI pi3), (4, VI pi4), (5, VI pi5), (6, VR pr6)] [] s0 none s9 := by
  unfold mX11_answerPoints_113 at h
  refine EV_iload_n dX11_answerPoints_113 rfl ?_
  refine EV_bipush (x := (6 : Int32)) dX11_answerPoints_114 (by decide) ?_
  refine EV_icmp_ne (tgt := 127) dX11_answerPoints_116 (by decide) (fun c1 => ?_) (fun c1 => ?_)
  · rw [if_pos c1] at h
    refine EV_aload dX11_answerPoints_119 rfl ?_
    have hh := b1_some h; clear h; obtain ⟨a2, ha2, h⟩ := hh
    subst ha2
    have hh := b1_some h; clear h; obtain ⟨x3, hx3, h⟩ := hh
    refine EV_getI (ci := 6) (k := 6) dX11_answerPoints_121 fl_X11_208 rfl hx3 ?_
    refine EV_goto (tgt := 132) dX11_answerPoints_124 (by decide) ?_
    exact EV_pick [0, 1, 2, 3, 4, 5, 6] rfl (zX11_answerPoints_132 E hk10 h)
  · rw [if_neg c1] at h
    refine EV_aload dX11_answerPoints_127 rfl ?_
    have hh := b1_some h; clear h; obtain ⟨a2, ha2, h⟩ := hh
    subst ha2
    have hh := b1_some h; clear h; obtain ⟨x3, hx3, h⟩ := hh
    refine EV_getI (ci := 6) (k := 4) dX11_answerPoints_129 fl_X11_121 rfl hx3 ?_
    exact EV_pick [0, 1, 2, 3, 4, 5, 6] rfl (zX11_answerPoints_132 E hk10 h)
def mX11_answerPoints_70 (k10 : Nat → Int32 → Option Nat → Int32 → Int32 → Int32 → eS → Option eS) (h0 : Nat) (pi1 : Int32) (pi5 : Int32) (pr6 : Option Nat) (s0 : eS) : Option eS :=
  (b1 (g_P s0 111 7 h0) fun r1 => (b1 r1 fun a2 => (b1 (o_K s0 100 a2) fun u18 => (b2 (mX0_next a2 s0) fun r4 s3 => (b1 pr6 fun a5 => (b1 (g_I s3 106 0 a5) fun x6 => (b1 (t_I tb_9 x6) fun x7 => (b1 (g_P s3 111 0 h0) fun r8 => (b1 r8 fun a9 => (b1 (a_I s3 0 a9 (0 : Int32)) fun x10 => (b2 (mX11_objectHead x7 pi1 (0 : Int32) x10 s3) fun x12 s11 => (b1 r4 fun a13 => (b1 (o_K s11 104 a13) fun u17 => (b1 (mX4_add a13 x12 (6 : Int32) s11) fun s14 => (b1 (g_I s14 106 0 a5) fun x16 => (mX11_answerPoints_113 k10 h0 pi1 (some a13) x16 (0 : Int32) pi5 (some a5) s14))))))))))))))))
set_option maxRecDepth 100000 in
set_option maxHeartbeats 4000000 in
theorem zX11_answerPoints_70 (E : eE) {k10 : Nat → Int32 → Option Nat → Int32 → Int32 → Int32 → eS → Option eS} (hk10 : ∀ {h0 : Nat} {pi1 : Int32} {pr2 : Option Nat} {pi3 : Int32} {pi4 : Int32} {pi5 : Int32} {s0 s9 : eS}, k10 h0 pi1 pr2 pi3 pi4 pi5 s0 = some s9 → EV E MX11_answerPoints 10 [(0, VR (some h0)), (1, VI pi1), (2, VR pr2), (3, VI pi3), (4, VI pi4), (5, VI pi5)] [] s0 none s9) {h0 : Nat} {pi1 : Int32} {pi5 : Int32} {pr6 : Option Nat} {s0 s9 : eS} (h : mX11_answerPoints_70 k10 h0 pi1 pi5 pr6 s0 = some s9) : EV E MX11_answerPoints 70 [(0, VR (some h0)), (1, VI pi1), (5, VI pi5), (6, VR pr6)] [] s0 none s9 := by
  unfold mX11_answerPoints_70 at h
  refine EV_aload_n dX11_answerPoints_70 rfl ?_
  have hh := b1_some h; clear h; obtain ⟨r1, hr1, h⟩ := hh
  refine EV_getP (ci := 11) (k := 7) dX11_answerPoints_71 fl_X11_50 rfl hr1 ?_
  have hh := b1_some h; clear h; obtain ⟨a2, ha2, h⟩ := hh
  subst ha2
  have hh := b1_some h; clear h; obtain ⟨u18, hu18, h⟩ := hh
  have hh := b2_some h; clear h; obtain ⟨r4, s3, hs3, h⟩ := hh
  refine EV_callV (Y := YX0_next) (as := []) (st := []) (st2 := [VR r4]) (a := a2) (ci := 0) (r := rX0) (n := 0) dX11_answerPoints_74 (zX0_next E hs3) rfl cwX0_next rfl tw_726 tw_727 tw_728 rfl (e_if hu18).1.1 (e_if hu18).1.2 ⟨by decide, by decide⟩ (Nat.le_of_ble_eq_true rfl) rfl ?_
  refine EV_astore_n (lv2 := [(2, VR r4), (0, VR (some h0)), (1, VI pi1), (5, VI pi5), (6, VR pr6)]) dX11_answerPoints_77 (by decide) rfl ?_
  refine EV_aload_n dX11_answerPoints_78 rfl ?_
  refine EV_gets (j := 9) (r := st_9) dX11_answerPoints_79 rfl tw_761 ?_
  refine EV_aload dX11_answerPoints_82 rfl ?_
  have hh := b1_some h; clear h; obtain ⟨a5, ha5, h⟩ := hh
  subst ha5
  have hh := b1_some h; clear h; obtain ⟨x6, hx6, h⟩ := hh
  refine EV_getI (ci := 6) (k := 0) dX11_answerPoints_84 fl_X11_105 rfl hx6 ?_
  have hh := b1_some h; clear h; obtain ⟨x7, hx7, h⟩ := hh
  refine EV_tabI (j := 9) (r := st_9) (l := tb_9) dX11_answerPoints_87 rfl rfl hx7 ?_
  refine EV_iload_n dX11_answerPoints_88 rfl ?_
  refine EV_iconst (x := (0 : Int32)) dX11_answerPoints_89 (by decide) ?_
  refine EV_aload_n dX11_answerPoints_90 rfl ?_
  have hh := b1_some h; clear h; obtain ⟨r8, hr8, h⟩ := hh
  refine EV_getP (ci := 11) (k := 0) dX11_answerPoints_91 fl_X11_7 rfl hr8 ?_
  refine EV_iconst (x := (0 : Int32)) dX11_answerPoints_94 (by decide) ?_
  have hh := b1_some h; clear h; obtain ⟨a9, ha9, h⟩ := hh
  subst ha9
  have hh := b1_some h; clear h; obtain ⟨x10, hx10, h⟩ := hh
  refine EV_aI (t := 0) (ty := .int) rfl (by decide) dX11_answerPoints_95 hx10 ?_
  have hh := b2_some h; clear h; obtain ⟨x12, s11, hs11, h⟩ := hh
  refine EV_callS (Y := YX11_objectHead) (as := [VI x7, VI pi1, VI (0 : Int32), VI x10]) (st := [VR r4]) (st2 := [VL x12, VR r4]) (n := 4) dX11_answerPoints_96 (zX11_objectHead E hs11) rfl cwX11_objectHead rfl tw_766 tw_593 ⟨by decide, by decide⟩ (Nat.le_of_ble_eq_true rfl) rfl ?_
  refine EV_bipush (x := (6 : Int32)) dX11_answerPoints_99 (by decide) ?_
  have hh := b1_some h; clear h; obtain ⟨a13, ha13, h⟩ := hh
  subst ha13
  have hh := b1_some h; clear h; obtain ⟨u17, hu17, h⟩ := hh
  have hh := b1_some h; clear h; obtain ⟨s14, hs14, h⟩ := hh
  refine EV_callV (Y := YX4_add) (as := [VL x12, VI (6 : Int32)]) (st := []) (st2 := []) (a := a13) (ci := 4) (r := rX4) (n := 2) dX11_answerPoints_101 (zX4_add E hs14) rfl cwX4_add rfl tw_767 tw_596 tw_597 rfl (e_if hu17).1.1 (e_if hu17).1.2 ⟨by decide, by decide⟩ (Nat.le_of_ble_eq_true rfl) rfl ?_
  refine EV_aload dX11_answerPoints_104 rfl ?_
  have hh := b1_some h; clear h; obtain ⟨x16, hx16, h⟩ := hh
  refine EV_getI (ci := 6) (k := 0) dX11_answerPoints_106 fl_X11_105 rfl hx16 ?_
  refine EV_istore_n (lv2 := [(3, VI x16), (2, VR (some a13)), (0, VR (some h0)), (1, VI pi1), (5, VI pi5), (6, VR (some a5))]) dX11_answerPoints_109 (by decide) rfl ?_
  refine EV_iconst (x := (0 : Int32)) dX11_answerPoints_110 (by decide) ?_
  refine EV_istore (lv2 := [(4, VI (0 : Int32)), (3, VI x16), (2, VR (some a13)), (0, VR (some h0)), (1, VI pi1), (5, VI pi5), (6, VR (some a5))]) dX11_answerPoints_111 (by decide) rfl ?_
  exact EV_pick [3, 4, 2, 1, 0, 5, 6] rfl (zX11_answerPoints_113 E hk10 h)
def mX11_answerPoints_10 : Nat → Nat → Int32 → Option Nat → Int32 → Int32 → Int32 → eS → Option eS
  | 0, _, _, _, _, _, _, _ => none
  | n + 1, h0, pi1, pr2, pi3, pi4, pi5, s0 =>
  (b1 (g_P s0 111 1 h0) fun r1 => (b1 r1 fun a2 => (b1 (g_I s0 107 2 a2) fun x3 => (if x3 ≤ pi5 then (some s0) else (b1 (g_P s0 111 1 h0) fun r5 => (b1 r5 fun a6 => (b1 (o_K s0 107 a6) fun u19 => (b2 (mX7_atPlace a6 pi5 s0) fun r8 s7 => (if r8 = none then (mX11_answerPoints_164 (mX11_answerPoints_10 n) h0 pi1 pr2 pi3 pi4 pi5 s7) else (b1 r8 fun a10 => (b1 (o_K s7 106 a10) fun u18 => (b2 (mX6_isAskedBy a10 pi1 s7) fun x12 s11 => (if x12 = 0 then (mX11_answerPoints_164 (mX11_answerPoints_10 n) h0 pi1 pr2 pi3 pi4 pi5 s11) else (if pr2 = none then (mX11_answerPoints_70 (mX11_answerPoints_10 n) h0 pi1 pi5 (some a10) s11) else (b1 (g_I s11 106 0 a10) fun x15 => (if x15 = pi3 then (if pi4 < (6 : Int32) then (mX11_answerPoints_113 (mX11_answerPoints_10 n) h0 pi1 pr2 pi3 pi4 pi5 (some a10) s11) else (mX11_answerPoints_70 (mX11_answerPoints_10 n) h0 pi1 pi5 (some a10) s11)) else (mX11_answerPoints_70 (mX11_answerPoints_10 n) h0 pi1 pi5 (some a10) s11)))))))))))))))))
set_option maxRecDepth 100000 in
set_option maxHeartbeats 4000000 in
theorem zX11_answerPoints_10 (E : eE) : ∀ (n : Nat) {h0 : Nat} {pi1 : Int32} {pr2 : Option Nat} {pi3 : Int32} {pi4 : Int32} {pi5 : Int32} {s0 s9 : eS}, mX11_answerPoints_10 n h0 pi1 pr2 pi3 pi4 pi5 s0 = some s9 → EV E MX11_answerPoints 10 [(0, VR (some h0)), (1, VI pi1), (2, VR pr2), (3, VI pi3), (4, VI pi4), (5, VI pi5)] [] s0 none s9 := by
  intro n
  induction n with
  | zero =>
    intro h0 pi1 pr2 pi3 pi4 pi5 s0 s9 h
    unfold mX11_answerPoints_10 at h
    cases h
  | succ n ih =>
    intro h0 pi1 pr2 pi3 pi4 pi5 s0 s9 h
    unfold mX11_answerPoints_10 at h
    refine EV_iload dX11_answerPoints_10 rfl ?_
    refine EV_aload_n dX11_answerPoints_12 rfl ?_
    have hh := b1_some h; clear h; obtain ⟨r1, hr1, h⟩ := hh
    refine EV_getP (ci := 11) (k := 1) dX11_answerPoints_13 fl_X11_16 rfl hr1 ?_
    have hh := b1_some h; clear h; obtain ⟨a2, ha2, h⟩ := hh
    subst ha2
    have hh := b1_some h; clear h; obtain ⟨x3, hx3, h⟩ := hh
    refine EV_getI (ci := 7) (k := 2) dX11_answerPoints_16 fl_X11_89 rfl hx3 ?_
    refine EV_icmp_ge (tgt := 170) dX11_answerPoints_19 (by decide) (fun c4 => ?_) (fun c4 => ?_)
    · rw [if_pos c4] at h
      cases h
      exact EV_ret ⟨dX11_answerPoints_170, rfl⟩ rfl
    · rw [if_neg c4] at h
      refine EV_aload_n dX11_answerPoints_22 rfl ?_
      have hh := b1_some h; clear h; obtain ⟨r5, hr5, h⟩ := hh
      refine EV_getP (ci := 11) (k := 1) dX11_answerPoints_23 fl_X11_16 rfl hr5 ?_
      refine EV_iload dX11_answerPoints_26 rfl ?_
      have hh := b1_some h; clear h; obtain ⟨a6, ha6, h⟩ := hh
      subst ha6
      have hh := b1_some h; clear h; obtain ⟨u19, hu19, h⟩ := hh
      have hh := b2_some h; clear h; obtain ⟨r8, s7, hs7, h⟩ := hh
      refine EV_callV (Y := YX7_atPlace) (as := [VI pi5]) (st := []) (st2 := [VR r8]) (a := a6) (ci := 7) (r := rX7) (n := 1) dX11_answerPoints_28 (zX7_atPlace E hs7) rfl cwX7_atPlace rfl tw_777 tw_778 tw_779 rfl (e_if hu19).1.1 (e_if hu19).1.2 ⟨by decide, by decide⟩ (Nat.le_of_ble_eq_true rfl) rfl ?_
      refine EV_astore (lv2 := [(6, VR r8), (0, VR (some h0)), (1, VI pi1), (2, VR pr2), (3, VI pi3), (4, VI pi4), (5, VI pi5)]) dX11_answerPoints_31 (by decide) rfl ?_
      refine EV_aload dX11_answerPoints_33 rfl ?_
      refine EV_ifnull (tgt := 164) dX11_answerPoints_35 (by decide) (fun c9 => ?_) (fun c9 => ?_)
      · rw [if_pos c9] at h
        exact EV_pick [1, 2, 3, 4, 5, 6] rfl (zX11_answerPoints_164 E (@ih) h)
      · rw [if_neg c9] at h
        refine EV_aload dX11_answerPoints_38 rfl ?_
        refine EV_iload_n dX11_answerPoints_40 rfl ?_
        have hh := b1_some h; clear h; obtain ⟨a10, ha10, h⟩ := hh
        subst ha10
        have hh := b1_some h; clear h; obtain ⟨u18, hu18, h⟩ := hh
        have hh := b2_some h; clear h; obtain ⟨x12, s11, hs11, h⟩ := hh
        refine EV_callV (Y := YX6_isAskedBy) (as := [VI pi1]) (st := []) (st2 := [VI x12]) (a := a10) (ci := 6) (r := rX6) (n := 1) dX11_answerPoints_41 (zX6_isAskedBy E hs11) rfl cwX6_isAskedBy rfl tw_781 tw_782 tw_783 rfl (e_if hu18).1.1 (e_if hu18).1.2 ⟨by decide, by decide⟩ (Nat.le_of_ble_eq_true rfl) rfl ?_
        refine EV_if_ne (tgt := 50) dX11_answerPoints_44 (by decide) (fun c13 => ?_) (fun c13 => ?_)
        · rw [if_pos c13] at h
          refine EV_goto (tgt := 164) dX11_answerPoints_47 (by decide) ?_
          exact EV_pick [1, 2, 3, 4, 5, 6] rfl (zX11_answerPoints_164 E (@ih) h)
        · rw [if_neg c13] at h
          refine EV_aload_n dX11_answerPoints_50 rfl ?_
          refine EV_ifnull (tgt := 70) dX11_answerPoints_51 (by decide) (fun c14 => ?_) (fun c14 => ?_)
          · rw [if_pos c14] at h
            exact EV_pick [1, 2, 6, 0] rfl (zX11_answerPoints_70 E (@ih) h)
          · rw [if_neg c14] at h
            refine EV_aload dX11_answerPoints_54 rfl ?_
            have hh := b1_some h; clear h; obtain ⟨x15, hx15, h⟩ := hh
            refine EV_getI (ci := 6) (k := 0) dX11_answerPoints_56 fl_X11_105 rfl hx15 ?_
            refine EV_iload_n dX11_answerPoints_59 rfl ?_
            refine EV_icmp_ne (tgt := 70) dX11_answerPoints_60 (by decide) (fun c16 => ?_) (fun c16 => ?_)
            · rw [if_pos c16] at h
              refine EV_iload dX11_answerPoints_63 rfl ?_
              refine EV_bipush (x := (6 : Int32)) dX11_answerPoints_65 (by decide) ?_
              refine EV_icmp_lt (tgt := 113) dX11_answerPoints_67 (by decide) (fun c17 => ?_) (fun c17 => ?_)
              · rw [if_pos c17] at h
                exact EV_pick [1, 2, 3, 4, 5, 6, 0] rfl (zX11_answerPoints_113 E (@ih) h)
              · rw [if_neg c17] at h
                exact EV_pick [1, 2, 6, 0] rfl (zX11_answerPoints_70 E (@ih) h)
            · rw [if_neg c16] at h
              exact EV_pick [1, 2, 6, 0] rfl (zX11_answerPoints_70 E (@ih) h)
def mX11_answerPoints (h0 : Nat) (pi1 : Int32) (s0 : eS) : Option eS :=
  (mX11_answerPoints_10 100000 h0 pi1 none (-1 : Int32) (0 : Int32) (0 : Int32) s0)
set_option maxRecDepth 100000 in
set_option maxHeartbeats 4000000 in
theorem zX11_answerPoints (E : eE) {h0 : Nat} {pi1 : Int32} {s0 s9 : eS} (h : mX11_answerPoints h0 pi1 s0 = some s9) : EM E YX11_answerPoints [VR (some h0), VI pi1] s0 none s9 := by
  refine EM_of (M := MX11_answerPoints) (own := RX11) (ini := false) rfl (by decide +kernel) rfl (fun z => nomatch z) (Nat.le_of_ble_eq_true rfl) ?_
  unfold mX11_answerPoints at h
  refine EV_null dX11_answerPoints_0 ?_
  refine EV_astore_n (lv2 := [(2, VR none), (0, VR (some h0)), (1, VI pi1)]) dX11_answerPoints_1 (by decide) rfl ?_
  refine EV_iconst (x := (-1 : Int32)) dX11_answerPoints_2 (by decide) ?_
  refine EV_istore_n (lv2 := [(3, VI (-1 : Int32)), (2, VR none), (0, VR (some h0)), (1, VI pi1)]) dX11_answerPoints_3 (by decide) rfl ?_
  refine EV_iconst (x := (0 : Int32)) dX11_answerPoints_4 (by decide) ?_
  refine EV_istore (lv2 := [(4, VI (0 : Int32)), (3, VI (-1 : Int32)), (2, VR none), (0, VR (some h0)), (1, VI pi1)]) dX11_answerPoints_5 (by decide) rfl ?_
  refine EV_iconst (x := (0 : Int32)) dX11_answerPoints_7 (by decide) ?_
  refine EV_istore (lv2 := [(5, VI (0 : Int32)), (4, VI (0 : Int32)), (3, VI (-1 : Int32)), (2, VR none), (0, VR (some h0)), (1, VI pi1)]) dX11_answerPoints_8 (by decide) rfl ?_
  exact EV_pick [4, 5, 3, 2, 1, 0] rfl (zX11_answerPoints_10 E _ h)
def mX11_interrogationCame_67 (s0 : eS) : Option eS :=
  (some s0)
set_option maxRecDepth 100000 in
set_option maxHeartbeats 4000000 in
theorem zX11_interrogationCame_67 (E : eE) {s0 s9 : eS} (h : mX11_interrogationCame_67 s0 = some s9) : EV E MX11_interrogationCame 67 [] [] s0 none s9 := by
  unfold mX11_interrogationCame_67 at h
  cases h
  exact EV_ret ⟨dX11_interrogationCame_67, rfl⟩ rfl
def mX11_interrogationCame_28 (h0 : Nat) (s0 : eS) : Option eS :=
  (b1 (o_K s0 111 h0) fun u3 => (b2 (mX11_answerSame h0 (71 : Int32) s0) fun x2 s1 => (mX11_interrogationCame_67 s1)))
set_option maxRecDepth 100000 in
set_option maxHeartbeats 4000000 in
theorem zX11_interrogationCame_28 (E : eE) {h0 : Nat} {s0 s9 : eS} (h : mX11_interrogationCame_28 h0 s0 = some s9) : EV E MX11_interrogationCame 28 [(0, VR (some h0))] [] s0 none s9 := by
  unfold mX11_interrogationCame_28 at h
  refine EV_aload_n dX11_interrogationCame_28 rfl ?_
  refine EV_bipush (x := (71 : Int32)) dX11_interrogationCame_29 (by decide) ?_
  have hh := b1_some h; clear h; obtain ⟨u3, hu3, h⟩ := hh
  have hh := b2_some h; clear h; obtain ⟨x2, s1, hs1, h⟩ := hh
  refine EV_callV (Y := YX11_answerSame) (as := [VI (71 : Int32)]) (st := []) (st2 := [VI x2]) (a := h0) (ci := 11) (r := rX11) (n := 1) dX11_interrogationCame_31 (zX11_answerSame E hs1) rfl cwX11_answerSame rfl tw_722 tw_724 tw_16 rfl (e_if hu3).1.1 (e_if hu3).1.2 ⟨by decide, by decide⟩ (Nat.le_of_ble_eq_true rfl) rfl ?_
  refine EV_pop dX11_interrogationCame_34 rfl ?_
  refine EV_goto (tgt := 67) dX11_interrogationCame_35 (by decide) ?_
  exact EV_pick [] rfl (zX11_interrogationCame_67 E h)
def mX11_interrogationCame_60 (h0 : Nat) (s0 : eS) : Option eS :=
  (b1 (o_K s0 111 h0) fun u3 => (b2 (mX11_answerSame h0 (10 : Int32) s0) fun x2 s1 => (mX11_interrogationCame_67 s1)))
set_option maxRecDepth 100000 in
set_option maxHeartbeats 4000000 in
theorem zX11_interrogationCame_60 (E : eE) {h0 : Nat} {s0 s9 : eS} (h : mX11_interrogationCame_60 h0 s0 = some s9) : EV E MX11_interrogationCame 60 [(0, VR (some h0))] [] s0 none s9 := by
  unfold mX11_interrogationCame_60 at h
  refine EV_aload_n dX11_interrogationCame_60 rfl ?_
  refine EV_bipush (x := (10 : Int32)) dX11_interrogationCame_61 (by decide) ?_
  have hh := b1_some h; clear h; obtain ⟨u3, hu3, h⟩ := hh
  have hh := b2_some h; clear h; obtain ⟨x2, s1, hs1, h⟩ := hh
  refine EV_callV (Y := YX11_answerSame) (as := [VI (10 : Int32)]) (st := []) (st2 := [VI x2]) (a := h0) (ci := 11) (r := rX11) (n := 1) dX11_interrogationCame_63 (zX11_answerSame E hs1) rfl cwX11_answerSame rfl tw_722 tw_724 tw_16 rfl (e_if hu3).1.1 (e_if hu3).1.2 ⟨by decide, by decide⟩ (Nat.le_of_ble_eq_true rfl) rfl ?_
  refine EV_pop dX11_interrogationCame_66 rfl ?_
  exact EV_pick [] rfl (zX11_interrogationCame_67 E h)
def mX11_interrogationCame (h0 : Nat) (pi1 : Int32) (pi2 : Int32) (s0 : eS) : Option eS :=
  (if pi1 = (8 : Int32) then (b1 (o_K s0 111 h0) fun u4 => (b2 (mX11_answerSame h0 (73 : Int32) s0) fun x3 s2 => (mX11_interrogationCame_67 s2))) else (if pi2 < (20 : Int32) then (mX11_interrogationCame_28 h0 s0) else (if pi2 ≤ (36 : Int32) then (b1 (o_K s0 111 h0) fun u15 => (b2 (mX11_answerSame h0 (7 : Int32) s0) fun x5 s4 => (b1 (g_P s4 111 8 h0) fun r6 => (b1 r6 fun a7 => (b1 (o_K s4 108 a7) fun u14 => (b2 (mX8_isTrial a7 s4) fun x9 s8 => (if x9 = 0 then (b1 (o_K s8 111 h0) fun u13 => (b1 (mX11_answerPoints h0 pi2 s8) fun s11 => (mX11_interrogationCame_60 h0 s11))) else (mX11_interrogationCame_60 h0 s8)))))))) else (mX11_interrogationCame_28 h0 s0))))
set_option maxRecDepth 100000 in
set_option maxHeartbeats 4000000 in
theorem zX11_interrogationCame (E : eE) {h0 : Nat} {pi1 : Int32} {pi2 : Int32} {s0 s9 : eS} (h : mX11_interrogationCame h0 pi1 pi2 s0 = some s9) : EM E YX11_interrogationCame [VR (some h0), VI pi1, VI pi2] s0 none s9 := by
  refine EM_of (M := MX11_interrogationCame) (own := RX11) (ini := false) rfl (by decide +kernel) rfl (fun z => nomatch z) (Nat.le_of_ble_eq_true rfl) ?_
  unfold mX11_interrogationCame at h
  refine EV_iload_n dX11_interrogationCame_0 rfl ?_
  refine EV_bipush (x := (8 : Int32)) dX11_interrogationCame_1 (by decide) ?_
  refine EV_icmp_ne (tgt := 16) dX11_interrogationCame_3 (by decide) (fun c1 => ?_) (fun c1 => ?_)
  · rw [if_pos c1] at h
    refine EV_aload_n dX11_interrogationCame_6 rfl ?_
    refine EV_bipush (x := (73 : Int32)) dX11_interrogationCame_7 (by decide) ?_
    have hh := b1_some h; clear h; obtain ⟨u4, hu4, h⟩ := hh
    have hh := b2_some h; clear h; obtain ⟨x3, s2, hs2, h⟩ := hh
    refine EV_callV (Y := YX11_answerSame) (as := [VI (73 : Int32)]) (st := []) (st2 := [VI x3]) (a := h0) (ci := 11) (r := rX11) (n := 1) dX11_interrogationCame_9 (zX11_answerSame E hs2) rfl cwX11_answerSame rfl tw_722 tw_724 tw_16 rfl (e_if hu4).1.1 (e_if hu4).1.2 ⟨by decide, by decide⟩ (Nat.le_of_ble_eq_true rfl) rfl ?_
    refine EV_pop dX11_interrogationCame_12 rfl ?_
    refine EV_goto (tgt := 67) dX11_interrogationCame_13 (by decide) ?_
    exact EV_pick [] rfl (zX11_interrogationCame_67 E h)
  · rw [if_neg c1] at h
    refine EV_iload_n dX11_interrogationCame_16 rfl ?_
    refine EV_bipush (x := (20 : Int32)) dX11_interrogationCame_17 (by decide) ?_
    refine EV_icmp_lt (tgt := 28) dX11_interrogationCame_19 (by decide) (fun c2 => ?_) (fun c2 => ?_)
    · rw [if_pos c2] at h
      exact EV_pick [0] rfl (zX11_interrogationCame_28 E h)
    · rw [if_neg c2] at h
      refine EV_iload_n dX11_interrogationCame_22 rfl ?_
      refine EV_bipush (x := (36 : Int32)) dX11_interrogationCame_23 (by decide) ?_
      refine EV_icmp_le (tgt := 38) dX11_interrogationCame_25 (by decide) (fun c3 => ?_) (fun c3 => ?_)
      · rw [if_pos c3] at h
        refine EV_aload_n dX11_interrogationCame_38 rfl ?_
        refine EV_bipush (x := (7 : Int32)) dX11_interrogationCame_39 (by decide) ?_
        have hh := b1_some h; clear h; obtain ⟨u15, hu15, h⟩ := hh
        have hh := b2_some h; clear h; obtain ⟨x5, s4, hs4, h⟩ := hh
        refine EV_callV (Y := YX11_answerSame) (as := [VI (7 : Int32)]) (st := []) (st2 := [VI x5]) (a := h0) (ci := 11) (r := rX11) (n := 1) dX11_interrogationCame_41 (zX11_answerSame E hs4) rfl cwX11_answerSame rfl tw_722 tw_724 tw_16 rfl (e_if hu15).1.1 (e_if hu15).1.2 ⟨by decide, by decide⟩ (Nat.le_of_ble_eq_true rfl) rfl ?_
        refine EV_pop dX11_interrogationCame_44 rfl ?_
        refine EV_aload_n dX11_interrogationCame_45 rfl ?_
        have hh := b1_some h; clear h; obtain ⟨r6, hr6, h⟩ := hh
        refine EV_getP (ci := 11) (k := 8) dX11_interrogationCame_46 fl_X11_57 rfl hr6 ?_
        have hh := b1_some h; clear h; obtain ⟨a7, ha7, h⟩ := hh
        subst ha7
        have hh := b1_some h; clear h; obtain ⟨u14, hu14, h⟩ := hh
        have hh := b2_some h; clear h; obtain ⟨x9, s8, hs8, h⟩ := hh
        refine EV_callV (Y := YX8_isTrial) (as := []) (st := []) (st2 := [VI x9]) (a := a7) (ci := 8) (r := rX8) (n := 0) dX11_interrogationCame_49 (zX8_isTrial E hs8) rfl cwX8_isTrial rfl tw_752 tw_753 tw_754 rfl (e_if hu14).1.1 (e_if hu14).1.2 ⟨by decide, by decide⟩ (Nat.le_of_ble_eq_true rfl) rfl ?_
        refine EV_if_ne (tgt := 60) dX11_interrogationCame_52 (by decide) (fun c10 => ?_) (fun c10 => ?_)
        · rw [if_pos c10] at h
          refine EV_aload_n dX11_interrogationCame_55 rfl ?_
          refine EV_iload_n dX11_interrogationCame_56 rfl ?_
          have hh := b1_some h; clear h; obtain ⟨u13, hu13, h⟩ := hh
          have hh := b1_some h; clear h; obtain ⟨s11, hs11, h⟩ := hh
          refine EV_callV (Y := YX11_answerPoints) (as := [VI pi2]) (st := []) (st2 := []) (a := h0) (ci := 11) (r := rX11) (n := 1) dX11_interrogationCame_57 (zX11_answerPoints E hs11) rfl cwX11_answerPoints rfl tw_773 tw_775 tw_20 rfl (e_if hu13).1.1 (e_if hu13).1.2 ⟨by decide, by decide⟩ (Nat.le_of_ble_eq_true rfl) rfl ?_
          exact EV_pick [0] rfl (zX11_interrogationCame_60 E h)
        · rw [if_neg c10] at h
          exact EV_pick [0] rfl (zX11_interrogationCame_60 E h)
      · rw [if_neg c3] at h
        exact EV_pick [0] rfl (zX11_interrogationCame_28 E h)
def mX11_orderCounters_45 (s0 : eS) : Option eS :=
  (some s0)
set_option maxRecDepth 100000 in
set_option maxHeartbeats 4000000 in
theorem zX11_orderCounters_45 (E : eE) {s0 s9 : eS} (h : mX11_orderCounters_45 s0 = some s9) : EV E MX11_orderCounters 45 [] [] s0 none s9 := by
  unfold mX11_orderCounters_45 at h
  cases h
  exact EV_ret ⟨dX11_orderCounters_45, rfl⟩ rfl
def mX11_orderCounters_33 (h0 : Nat) (pi1 : Int32) (s0 : eS) : Option eS :=
  (if pi1 = (1 : Int32) then (mX11_orderCounters_45 s0) else (b1 (g_P s0 111 1 h0) fun r2 => (b1 r2 fun a3 => (b1 (o_K s0 107 a3) fun u6 => (b1 (mX7_resetCounters a3 s0) fun s4 => (mX11_orderCounters_45 s4))))))
set_option maxRecDepth 100000 in
set_option maxHeartbeats 4000000 in
theorem zX11_orderCounters_33 (E : eE) {h0 : Nat} {pi1 : Int32} {s0 s9 : eS} (h : mX11_orderCounters_33 h0 pi1 s0 = some s9) : EV E MX11_orderCounters 33 [(0, VR (some h0)), (1, VI pi1)] [] s0 none s9 := by
  unfold mX11_orderCounters_33 at h
  refine EV_iload_n dX11_orderCounters_33 rfl ?_
  refine EV_iconst (x := (1 : Int32)) dX11_orderCounters_34 (by decide) ?_
  refine EV_icmp_eq (tgt := 45) dX11_orderCounters_35 (by decide) (fun c1 => ?_) (fun c1 => ?_)
  · rw [if_pos c1] at h
    exact EV_pick [] rfl (zX11_orderCounters_45 E h)
  · rw [if_neg c1] at h
    refine EV_aload_n dX11_orderCounters_38 rfl ?_
    have hh := b1_some h; clear h; obtain ⟨r2, hr2, h⟩ := hh
    refine EV_getP (ci := 11) (k := 1) dX11_orderCounters_39 fl_X11_16 rfl hr2 ?_
    have hh := b1_some h; clear h; obtain ⟨a3, ha3, h⟩ := hh
    subst ha3
    have hh := b1_some h; clear h; obtain ⟨u6, hu6, h⟩ := hh
    have hh := b1_some h; clear h; obtain ⟨s4, hs4, h⟩ := hh
    refine EV_callV (Y := YX7_resetCounters) (as := []) (st := []) (st2 := []) (a := a3) (ci := 7) (r := rX7) (n := 0) dX11_orderCounters_42 (zX7_resetCounters E hs4) rfl cwX7_resetCounters rfl tw_797 tw_798 tw_799 rfl (e_if hu6).1.1 (e_if hu6).1.2 ⟨by decide, by decide⟩ (Nat.le_of_ble_eq_true rfl) rfl ?_
    exact EV_pick [] rfl (zX11_orderCounters_45 E h)
def mX11_orderCounters (h0 : Nat) (pi1 : Int32) (s0 : eS) : Option eS :=
  (if pi1 = 0 then (b1 (o_K s0 111 h0) fun u4 => (b1 (mX11_answerPoints h0 (37 : Int32) s0) fun s2 => (some s2))) else (if pi1 = (3 : Int32) then (mX11_orderCounters_33 h0 pi1 s0) else (b1 (g_P s0 111 1 h0) fun r3 => (b1 r3 fun a4 => (b1 (o_K s0 107 a4) fun u9 => (b1 (mX7_freezeCounters a4 s0) fun s5 => (b1 (g_I s5 111 18 h0) fun x7 => (b1 (p_I s5 111 18 h0 (x7 + (1 : Int32))) fun s8 => (mX11_orderCounters_33 h0 pi1 s8)))))))))
set_option maxRecDepth 100000 in
set_option maxHeartbeats 4000000 in
theorem zX11_orderCounters (E : eE) {h0 : Nat} {pi1 : Int32} {s0 s9 : eS} (h : mX11_orderCounters h0 pi1 s0 = some s9) : EM E YX11_orderCounters [VR (some h0), VI pi1] s0 none s9 := by
  refine EM_of (M := MX11_orderCounters) (own := RX11) (ini := false) rfl (by decide +kernel) rfl (fun z => nomatch z) (Nat.le_of_ble_eq_true rfl) ?_
  unfold mX11_orderCounters at h
  refine EV_iload_n dX11_orderCounters_0 rfl ?_
  refine EV_if_ne (tgt := 11) dX11_orderCounters_1 (by decide) (fun c1 => ?_) (fun c1 => ?_)
  · rw [if_pos c1] at h
    refine EV_aload_n dX11_orderCounters_4 rfl ?_
    refine EV_bipush (x := (37 : Int32)) dX11_orderCounters_5 (by decide) ?_
    have hh := b1_some h; clear h; obtain ⟨u4, hu4, h⟩ := hh
    have hh := b1_some h; clear h; obtain ⟨s2, hs2, h⟩ := hh
    refine EV_callV (Y := YX11_answerPoints) (as := [VI (37 : Int32)]) (st := []) (st2 := []) (a := h0) (ci := 11) (r := rX11) (n := 1) dX11_orderCounters_7 (zX11_answerPoints E hs2) rfl cwX11_answerPoints rfl tw_773 tw_775 tw_20 rfl (e_if hu4).1.1 (e_if hu4).1.2 ⟨by decide, by decide⟩ (Nat.le_of_ble_eq_true rfl) rfl ?_
    cases h
    exact EV_ret ⟨dX11_orderCounters_10, rfl⟩ rfl
  · rw [if_neg c1] at h
    refine EV_iload_n dX11_orderCounters_11 rfl ?_
    refine EV_iconst (x := (3 : Int32)) dX11_orderCounters_12 (by decide) ?_
    refine EV_icmp_eq (tgt := 33) dX11_orderCounters_13 (by decide) (fun c2 => ?_) (fun c2 => ?_)
    · rw [if_pos c2] at h
      exact EV_pick [0, 1] rfl (zX11_orderCounters_33 E h)
    · rw [if_neg c2] at h
      refine EV_aload_n dX11_orderCounters_16 rfl ?_
      have hh := b1_some h; clear h; obtain ⟨r3, hr3, h⟩ := hh
      refine EV_getP (ci := 11) (k := 1) dX11_orderCounters_17 fl_X11_16 rfl hr3 ?_
      have hh := b1_some h; clear h; obtain ⟨a4, ha4, h⟩ := hh
      subst ha4
      have hh := b1_some h; clear h; obtain ⟨u9, hu9, h⟩ := hh
      have hh := b1_some h; clear h; obtain ⟨s5, hs5, h⟩ := hh
      refine EV_callV (Y := YX7_freezeCounters) (as := []) (st := []) (st2 := []) (a := a4) (ci := 7) (r := rX7) (n := 0) dX11_orderCounters_20 (zX7_freezeCounters E hs5) rfl cwX7_freezeCounters rfl tw_793 tw_794 tw_795 rfl (e_if hu9).1.1 (e_if hu9).1.2 ⟨by decide, by decide⟩ (Nat.le_of_ble_eq_true rfl) rfl ?_
      refine EV_aload_n dX11_orderCounters_23 rfl ?_
      refine EV_dup dX11_orderCounters_24 rfl ?_
      have hh := b1_some h; clear h; obtain ⟨x7, hx7, h⟩ := hh
      refine EV_getI (ci := 11) (k := 18) dX11_orderCounters_25 fl_X11_131 rfl hx7 ?_
      refine EV_iconst (x := (1 : Int32)) dX11_orderCounters_28 (by decide) ?_
      refine EV_iadd dX11_orderCounters_29 ?_
      have hh := b1_some h; clear h; obtain ⟨s8, hs8, h⟩ := hh
      refine EV_putI (ci := 11) (k := 18) dX11_orderCounters_30 fp_X11_131 rfl hs8 ?_
      exact EV_pick [0, 1] rfl (zX11_orderCounters_33 E h)
def mX11_countersOrderCame_52 (s0 : eS) : Option eS :=
  (some s0)
set_option maxRecDepth 100000 in
set_option maxHeartbeats 4000000 in
theorem zX11_countersOrderCame_52 (E : eE) {s0 s9 : eS} (h : mX11_countersOrderCame_52 s0 = some s9) : EV E MX11_countersOrderCame 52 [] [] s0 none s9 := by
  unfold mX11_countersOrderCame_52 at h
  cases h
  exact EV_ret ⟨dX11_countersOrderCame_52, rfl⟩ rfl
def mX11_countersOrderCame_45 (h0 : Nat) (s0 : eS) : Option eS :=
  (b1 (o_K s0 111 h0) fun u3 => (b2 (mX11_answerSame h0 (10 : Int32) s0) fun x2 s1 => (mX11_countersOrderCame_52 s1)))
set_option maxRecDepth 100000 in
set_option maxHeartbeats 4000000 in
theorem zX11_countersOrderCame_45 (E : eE) {h0 : Nat} {s0 s9 : eS} (h : mX11_countersOrderCame_45 h0 s0 = some s9) : EV E MX11_countersOrderCame 45 [(0, VR (some h0))] [] s0 none s9 := by
  unfold mX11_countersOrderCame_45 at h
  refine EV_aload_n dX11_countersOrderCame_45 rfl ?_
  refine EV_bipush (x := (10 : Int32)) dX11_countersOrderCame_46 (by decide) ?_
  have hh := b1_some h; clear h; obtain ⟨u3, hu3, h⟩ := hh
  have hh := b2_some h; clear h; obtain ⟨x2, s1, hs1, h⟩ := hh
  refine EV_callV (Y := YX11_answerSame) (as := [VI (10 : Int32)]) (st := []) (st2 := [VI x2]) (a := h0) (ci := 11) (r := rX11) (n := 1) dX11_countersOrderCame_48 (zX11_answerSame E hs1) rfl cwX11_answerSame rfl tw_722 tw_724 tw_16 rfl (e_if hu3).1.1 (e_if hu3).1.2 ⟨by decide, by decide⟩ (Nat.le_of_ble_eq_true rfl) rfl ?_
  refine EV_pop dX11_countersOrderCame_51 rfl ?_
  exact EV_pick [] rfl (zX11_countersOrderCame_52 E h)
def mX11_countersOrderCame (h0 : Nat) (pi1 : Int32) (s0 : eS) : Option eS :=
  (if (pi1 &&& (63 : Int32)) = (5 : Int32) then (b1 (o_K s0 111 h0) fun u14 => (b2 (mX11_answerSame h0 (7 : Int32) s0) fun x3 s2 => (if x3 = 0 then (mX11_countersOrderCame_52 s2) else (b1 (g_P s2 111 8 h0) fun r5 => (b1 r5 fun a6 => (b1 (o_K s2 108 a6) fun u13 => (b2 (mX8_isTrial a6 s2) fun x8 s7 => (if x8 = 0 then (b1 (o_K s7 111 h0) fun u12 => (b1 (mX11_orderCounters h0 (pi1 >>> ((6 : Int32) &&& 31)) s7) fun s10 => (mX11_countersOrderCame_45 h0 s10))) else (mX11_countersOrderCame_45 h0 s7))))))))) else (b1 (o_K s0 111 h0) fun u4 => (b2 (mX11_answerSame h0 (71 : Int32) s0) fun x3 s2 => (mX11_countersOrderCame_52 s2))))
set_option maxRecDepth 100000 in
set_option maxHeartbeats 4000000 in
theorem zX11_countersOrderCame (E : eE) {h0 : Nat} {pi1 : Int32} {s0 s9 : eS} (h : mX11_countersOrderCame h0 pi1 s0 = some s9) : EM E YX11_countersOrderCame [VR (some h0), VI pi1] s0 none s9 := by
  refine EM_of (M := MX11_countersOrderCame) (own := RX11) (ini := false) rfl (by decide +kernel) rfl (fun z => nomatch z) (Nat.le_of_ble_eq_true rfl) ?_
  unfold mX11_countersOrderCame at h
  refine EV_iload_n dX11_countersOrderCame_0 rfl ?_
  refine EV_bipush (x := (63 : Int32)) dX11_countersOrderCame_1 (by decide) ?_
  refine EV_iand dX11_countersOrderCame_3 ?_
  refine EV_iconst (x := (5 : Int32)) dX11_countersOrderCame_4 (by decide) ?_
  refine EV_icmp_eq (tgt := 18) dX11_countersOrderCame_5 (by decide) (fun c1 => ?_) (fun c1 => ?_)
  · rw [if_pos c1] at h
    refine EV_aload_n dX11_countersOrderCame_18 rfl ?_
    refine EV_bipush (x := (7 : Int32)) dX11_countersOrderCame_19 (by decide) ?_
    have hh := b1_some h; clear h; obtain ⟨u14, hu14, h⟩ := hh
    have hh := b2_some h; clear h; obtain ⟨x3, s2, hs2, h⟩ := hh
    refine EV_callV (Y := YX11_answerSame) (as := [VI (7 : Int32)]) (st := []) (st2 := [VI x3]) (a := h0) (ci := 11) (r := rX11) (n := 1) dX11_countersOrderCame_21 (zX11_answerSame E hs2) rfl cwX11_answerSame rfl tw_722 tw_724 tw_16 rfl (e_if hu14).1.1 (e_if hu14).1.2 ⟨by decide, by decide⟩ (Nat.le_of_ble_eq_true rfl) rfl ?_
    refine EV_if_eq (tgt := 52) dX11_countersOrderCame_24 (by decide) (fun c4 => ?_) (fun c4 => ?_)
    · rw [if_pos c4] at h
      exact EV_pick [] rfl (zX11_countersOrderCame_52 E h)
    · rw [if_neg c4] at h
      refine EV_aload_n dX11_countersOrderCame_27 rfl ?_
      have hh := b1_some h; clear h; obtain ⟨r5, hr5, h⟩ := hh
      refine EV_getP (ci := 11) (k := 8) dX11_countersOrderCame_28 fl_X11_57 rfl hr5 ?_
      have hh := b1_some h; clear h; obtain ⟨a6, ha6, h⟩ := hh
      subst ha6
      have hh := b1_some h; clear h; obtain ⟨u13, hu13, h⟩ := hh
      have hh := b2_some h; clear h; obtain ⟨x8, s7, hs7, h⟩ := hh
      refine EV_callV (Y := YX8_isTrial) (as := []) (st := []) (st2 := [VI x8]) (a := a6) (ci := 8) (r := rX8) (n := 0) dX11_countersOrderCame_31 (zX8_isTrial E hs7) rfl cwX8_isTrial rfl tw_752 tw_753 tw_754 rfl (e_if hu13).1.1 (e_if hu13).1.2 ⟨by decide, by decide⟩ (Nat.le_of_ble_eq_true rfl) rfl ?_
      refine EV_if_ne (tgt := 45) dX11_countersOrderCame_34 (by decide) (fun c9 => ?_) (fun c9 => ?_)
      · rw [if_pos c9] at h
        refine EV_aload_n dX11_countersOrderCame_37 rfl ?_
        refine EV_iload_n dX11_countersOrderCame_38 rfl ?_
        refine EV_bipush (x := (6 : Int32)) dX11_countersOrderCame_39 (by decide) ?_
        refine EV_ishr dX11_countersOrderCame_41 ?_
        have hh := b1_some h; clear h; obtain ⟨u12, hu12, h⟩ := hh
        have hh := b1_some h; clear h; obtain ⟨s10, hs10, h⟩ := hh
        refine EV_callV (Y := YX11_orderCounters) (as := [VI (pi1 >>> ((6 : Int32) &&& 31))]) (st := []) (st2 := []) (a := h0) (ci := 11) (r := rX11) (n := 1) dX11_countersOrderCame_42 (zX11_orderCounters E hs10) rfl cwX11_orderCounters rfl tw_789 tw_791 tw_22 rfl (e_if hu12).1.1 (e_if hu12).1.2 ⟨by decide, by decide⟩ (Nat.le_of_ble_eq_true rfl) rfl ?_
        exact EV_pick [0] rfl (zX11_countersOrderCame_45 E h)
      · rw [if_neg c9] at h
        exact EV_pick [0] rfl (zX11_countersOrderCame_45 E h)
  · rw [if_neg c1] at h
    refine EV_aload_n dX11_countersOrderCame_8 rfl ?_
    refine EV_bipush (x := (71 : Int32)) dX11_countersOrderCame_9 (by decide) ?_
    have hh := b1_some h; clear h; obtain ⟨u4, hu4, h⟩ := hh
    have hh := b2_some h; clear h; obtain ⟨x3, s2, hs2, h⟩ := hh
    refine EV_callV (Y := YX11_answerSame) (as := [VI (71 : Int32)]) (st := []) (st2 := [VI x3]) (a := h0) (ci := 11) (r := rX11) (n := 1) dX11_countersOrderCame_11 (zX11_answerSame E hs2) rfl cwX11_answerSame rfl tw_722 tw_724 tw_16 rfl (e_if hu4).1.1 (e_if hu4).1.2 ⟨by decide, by decide⟩ (Nat.le_of_ble_eq_true rfl) rfl ?_
    refine EV_pop dX11_countersOrderCame_14 rfl ?_
    refine EV_goto (tgt := 52) dX11_countersOrderCame_15 (by decide) ?_
    exact EV_pick [] rfl (zX11_countersOrderCame_52 E h)
def mX11_clockOrderCame_44 (s0 : eS) : Option eS :=
  (some s0)
set_option maxRecDepth 100000 in
set_option maxHeartbeats 4000000 in
theorem zX11_clockOrderCame_44 (E : eE) {s0 s9 : eS} (h : mX11_clockOrderCame_44 s0 = some s9) : EV E MX11_clockOrderCame 44 [] [] s0 none s9 := by
  unfold mX11_clockOrderCame_44 at h
  cases h
  exact EV_ret ⟨dX11_clockOrderCame_44, rfl⟩ rfl
def mX11_clockOrderCame (h0 : Nat) (pl1 : Int64) (s0 : eS) : Option eS :=
  (b2 (mX1_isTime pl1 s0) fun x2 s1 => (if x2 = 0 then (b1 (o_K s1 111 h0) fun u6 => (b2 (mX11_answerSame h0 (71 : Int32) s1) fun x5 s4 => (mX11_clockOrderCame_44 s4))) else (b1 (o_K s1 111 h0) fun u18 => (b2 (mX11_answerSame h0 (7 : Int32) s1) fun x5 s4 => (if x5 = 0 then (mX11_clockOrderCame_44 s4) else (b1 (g_P s4 111 8 h0) fun r7 => (b1 r7 fun a8 => (b1 (o_K s4 108 a8) fun u17 => (b2 (mX8_isTrial a8 s4) fun x10 s9 => (if x10 = 0 then (b1 (g_P s9 111 5 h0) fun r12 => (b1 r12 fun a13 => (b1 (o_K s9 101 a13) fun u16 => (b1 (mX1_become a13 pl1 s9) fun s14 => (mX11_clockOrderCame_44 s14))))) else (mX11_clockOrderCame_44 s9)))))))))))
set_option maxRecDepth 100000 in
set_option maxHeartbeats 4000000 in
theorem zX11_clockOrderCame (E : eE) {h0 : Nat} {pl1 : Int64} {s0 s9 : eS} (h : mX11_clockOrderCame h0 pl1 s0 = some s9) : EM E YX11_clockOrderCame [VR (some h0), VL pl1] s0 none s9 := by
  refine EM_of (M := MX11_clockOrderCame) (own := RX11) (ini := false) rfl (by decide +kernel) rfl (fun z => nomatch z) (Nat.le_of_ble_eq_true rfl) ?_
  unfold mX11_clockOrderCame at h
  refine EV_lload_n dX11_clockOrderCame_0 rfl ?_
  have hh := b2_some h; clear h; obtain ⟨x2, s1, hs1, h⟩ := hh
  refine EV_callS (Y := YX1_isTime) (as := [VL pl1]) (st := []) (st2 := [VI x2]) (n := 1) dX11_clockOrderCame_1 (zX1_isTime E hs1) rfl cwX1_isTime rfl tw_805 tw_806 ⟨by decide, by decide⟩ (Nat.le_of_ble_eq_true rfl) rfl ?_
  refine EV_if_ne (tgt := 17) dX11_clockOrderCame_4 (by decide) (fun c3 => ?_) (fun c3 => ?_)
  · rw [if_pos c3] at h
    refine EV_aload_n dX11_clockOrderCame_7 rfl ?_
    refine EV_bipush (x := (71 : Int32)) dX11_clockOrderCame_8 (by decide) ?_
    have hh := b1_some h; clear h; obtain ⟨u6, hu6, h⟩ := hh
    have hh := b2_some h; clear h; obtain ⟨x5, s4, hs4, h⟩ := hh
    refine EV_callV (Y := YX11_answerSame) (as := [VI (71 : Int32)]) (st := []) (st2 := [VI x5]) (a := h0) (ci := 11) (r := rX11) (n := 1) dX11_clockOrderCame_10 (zX11_answerSame E hs4) rfl cwX11_answerSame rfl tw_722 tw_724 tw_16 rfl (e_if hu6).1.1 (e_if hu6).1.2 ⟨by decide, by decide⟩ (Nat.le_of_ble_eq_true rfl) rfl ?_
    refine EV_pop dX11_clockOrderCame_13 rfl ?_
    refine EV_goto (tgt := 44) dX11_clockOrderCame_14 (by decide) ?_
    exact EV_pick [] rfl (zX11_clockOrderCame_44 E h)
  · rw [if_neg c3] at h
    refine EV_aload_n dX11_clockOrderCame_17 rfl ?_
    refine EV_bipush (x := (7 : Int32)) dX11_clockOrderCame_18 (by decide) ?_
    have hh := b1_some h; clear h; obtain ⟨u18, hu18, h⟩ := hh
    have hh := b2_some h; clear h; obtain ⟨x5, s4, hs4, h⟩ := hh
    refine EV_callV (Y := YX11_answerSame) (as := [VI (7 : Int32)]) (st := []) (st2 := [VI x5]) (a := h0) (ci := 11) (r := rX11) (n := 1) dX11_clockOrderCame_20 (zX11_answerSame E hs4) rfl cwX11_answerSame rfl tw_722 tw_724 tw_16 rfl (e_if hu18).1.1 (e_if hu18).1.2 ⟨by decide, by decide⟩ (Nat.le_of_ble_eq_true rfl) rfl ?_
    refine EV_if_eq (tgt := 44) dX11_clockOrderCame_23 (by decide) (fun c6 => ?_) (fun c6 => ?_)
    · rw [if_pos c6] at h
      exact EV_pick [] rfl (zX11_clockOrderCame_44 E h)
    · rw [if_neg c6] at h
      refine EV_aload_n dX11_clockOrderCame_26 rfl ?_
      have hh := b1_some h; clear h; obtain ⟨r7, hr7, h⟩ := hh
      refine EV_getP (ci := 11) (k := 8) dX11_clockOrderCame_27 fl_X11_57 rfl hr7 ?_
      have hh := b1_some h; clear h; obtain ⟨a8, ha8, h⟩ := hh
      subst ha8
      have hh := b1_some h; clear h; obtain ⟨u17, hu17, h⟩ := hh
      have hh := b2_some h; clear h; obtain ⟨x10, s9, hs9, h⟩ := hh
      refine EV_callV (Y := YX8_isTrial) (as := []) (st := []) (st2 := [VI x10]) (a := a8) (ci := 8) (r := rX8) (n := 0) dX11_clockOrderCame_30 (zX8_isTrial E hs9) rfl cwX8_isTrial rfl tw_752 tw_753 tw_754 rfl (e_if hu17).1.1 (e_if hu17).1.2 ⟨by decide, by decide⟩ (Nat.le_of_ble_eq_true rfl) rfl ?_
      refine EV_if_ne (tgt := 44) dX11_clockOrderCame_33 (by decide) (fun c11 => ?_) (fun c11 => ?_)
      · rw [if_pos c11] at h
        refine EV_aload_n dX11_clockOrderCame_36 rfl ?_
        have hh := b1_some h; clear h; obtain ⟨r12, hr12, h⟩ := hh
        refine EV_getP (ci := 11) (k := 5) dX11_clockOrderCame_37 fl_X11_36 rfl hr12 ?_
        refine EV_lload_n dX11_clockOrderCame_40 rfl ?_
        have hh := b1_some h; clear h; obtain ⟨a13, ha13, h⟩ := hh
        subst ha13
        have hh := b1_some h; clear h; obtain ⟨u16, hu16, h⟩ := hh
        have hh := b1_some h; clear h; obtain ⟨s14, hs14, h⟩ := hh
        refine EV_callV (Y := YX1_become) (as := [VL pl1]) (st := []) (st2 := []) (a := a13) (ci := 1) (r := rX1) (n := 1) dX11_clockOrderCame_41 (zX1_become E hs14) rfl cwX1_become rfl tw_818 tw_819 tw_820 rfl (e_if hu16).1.1 (e_if hu16).1.2 ⟨by decide, by decide⟩ (Nat.le_of_ble_eq_true rfl) rfl ?_
        exact EV_pick [] rfl (zX11_clockOrderCame_44 E h)
      · rw [if_neg c11] at h
        exact EV_pick [] rfl (zX11_clockOrderCame_44 E h)
def mX11_selectCame_17 (h0 : Nat) (s0 : eS) : Option eS :=
  (b1 (o_K s0 111 h0) fun u3 => (b2 (mX11_answerSame h0 (71 : Int32) s0) fun x2 s1 => (some s1)))
set_option maxRecDepth 100000 in
set_option maxHeartbeats 4000000 in
theorem zX11_selectCame_17 (E : eE) {h0 : Nat} {s0 s9 : eS} (h : mX11_selectCame_17 h0 s0 = some s9) : EV E MX11_selectCame 17 [(0, VR (some h0))] [] s0 none s9 := by
  unfold mX11_selectCame_17 at h
  refine EV_aload_n dX11_selectCame_17 rfl ?_
  refine EV_bipush (x := (71 : Int32)) dX11_selectCame_18 (by decide) ?_
  have hh := b1_some h; clear h; obtain ⟨u3, hu3, h⟩ := hh
  have hh := b2_some h; clear h; obtain ⟨x2, s1, hs1, h⟩ := hh
  refine EV_callV (Y := YX11_answerSame) (as := [VI (71 : Int32)]) (st := []) (st2 := [VI x2]) (a := h0) (ci := 11) (r := rX11) (n := 1) dX11_selectCame_20 (zX11_answerSame E hs1) rfl cwX11_answerSame rfl tw_722 tw_724 tw_16 rfl (e_if hu3).1.1 (e_if hu3).1.2 ⟨by decide, by decide⟩ (Nat.le_of_ble_eq_true rfl) rfl ?_
  refine EV_pop dX11_selectCame_23 rfl ?_
  cases h
  exact EV_ret ⟨dX11_selectCame_24, rfl⟩ rfl
def mX11_selectCame_61 (s0 : eS) : Option eS :=
  (some s0)
set_option maxRecDepth 100000 in
set_option maxHeartbeats 4000000 in
theorem zX11_selectCame_61 (E : eE) {s0 s9 : eS} (h : mX11_selectCame_61 s0 = some s9) : EV E MX11_selectCame 61 [] [] s0 none s9 := by
  unfold mX11_selectCame_61 at h
  cases h
  exact EV_ret ⟨dX11_selectCame_61, rfl⟩ rfl
def mX11_selectCame (h0 : Nat) (pr1 : Option Nat) (pi2 : Int32) (pi3 : Int32) (s0 : eS) : Option eS :=
  (b1 pr1 fun a1 => (b1 (g_I s0 102 3 a1) fun x2 => (if x2 = 0 then (mX11_selectCame_17 h0 s0) else (b1 (g_P s0 111 4 h0) fun r4 => (b1 r4 fun a5 => (b1 (o_K s0 109 a5) fun u27 => (b2 (mX9_isOfSome a5 s0) fun x7 s6 => (if x7 = 0 then (b1 (o_K s6 111 h0) fun u26 => (b2 (mX11_answerSame h0 (7 : Int32) s6) fun x10 s9 => (if x10 = 0 then (mX11_selectCame_61 s9) else (if pi3 = 0 then (b1 (g_P s9 111 4 h0) fun r13 => (b1 (g_P s9 111 8 h0) fun r14 => (b1 r14 fun a15 => (b1 (o_K s9 108 a15) fun u25 => (b2 (mX8_originator a15 s9) fun x17 s16 => (b1 (g_P s16 111 0 h0) fun r18 => (b1 r18 fun a19 => (b1 (a_I s16 0 a19 (6 : Int32)) fun x20 => (b1 r13 fun a21 => (b1 (o_K s16 109 a21) fun u24 => (b1 (mX9_begin a21 (some a1) pi2 x17 x20 s16) fun s22 => (mX11_selectCame_61 s22)))))))))))) else (mX11_selectCame_61 s9))))) else (mX11_selectCame_17 h0 s6)))))))))
set_option maxRecDepth 100000 in
set_option maxHeartbeats 4000000 in
theorem zX11_selectCame (E : eE) {h0 : Nat} {pr1 : Option Nat} {pi2 : Int32} {pi3 : Int32} {s0 s9 : eS} (h : mX11_selectCame h0 pr1 pi2 pi3 s0 = some s9) : EM E YX11_selectCame [VR (some h0), VR pr1, VI pi2, VI pi3] s0 none s9 := by
  refine EM_of (M := MX11_selectCame) (own := RX11) (ini := false) rfl (by decide +kernel) rfl (fun z => nomatch z) (Nat.le_of_ble_eq_true rfl) ?_
  unfold mX11_selectCame at h
  refine EV_aload_n dX11_selectCame_0 rfl ?_
  have hh := b1_some h; clear h; obtain ⟨a1, ha1, h⟩ := hh
  subst ha1
  have hh := b1_some h; clear h; obtain ⟨x2, hx2, h⟩ := hh
  refine EV_getI (ci := 2) (k := 3) dX11_selectCame_1 fl_X11_429 rfl hx2 ?_
  refine EV_if_eq (tgt := 17) dX11_selectCame_4 (by decide) (fun c3 => ?_) (fun c3 => ?_)
  · rw [if_pos c3] at h
    exact EV_pick [0] rfl (zX11_selectCame_17 E h)
  · rw [if_neg c3] at h
    refine EV_aload_n dX11_selectCame_7 rfl ?_
    have hh := b1_some h; clear h; obtain ⟨r4, hr4, h⟩ := hh
    refine EV_getP (ci := 11) (k := 4) dX11_selectCame_8 fl_X11_29 rfl hr4 ?_
    have hh := b1_some h; clear h; obtain ⟨a5, ha5, h⟩ := hh
    subst ha5
    have hh := b1_some h; clear h; obtain ⟨u27, hu27, h⟩ := hh
    have hh := b2_some h; clear h; obtain ⟨x7, s6, hs6, h⟩ := hh
    refine EV_callV (Y := YX9_isOfSome) (as := []) (st := []) (st2 := [VI x7]) (a := a5) (ci := 9) (r := rX9) (n := 0) dX11_selectCame_11 (zX9_isOfSome E hs6) rfl cwX9_isOfSome rfl tw_842 tw_843 tw_844 rfl (e_if hu27).1.1 (e_if hu27).1.2 ⟨by decide, by decide⟩ (Nat.le_of_ble_eq_true rfl) rfl ?_
    refine EV_if_eq (tgt := 25) dX11_selectCame_14 (by decide) (fun c8 => ?_) (fun c8 => ?_)
    · rw [if_pos c8] at h
      refine EV_aload_n dX11_selectCame_25 rfl ?_
      refine EV_bipush (x := (7 : Int32)) dX11_selectCame_26 (by decide) ?_
      have hh := b1_some h; clear h; obtain ⟨u26, hu26, h⟩ := hh
      have hh := b2_some h; clear h; obtain ⟨x10, s9, hs9, h⟩ := hh
      refine EV_callV (Y := YX11_answerSame) (as := [VI (7 : Int32)]) (st := []) (st2 := [VI x10]) (a := h0) (ci := 11) (r := rX11) (n := 1) dX11_selectCame_28 (zX11_answerSame E hs9) rfl cwX11_answerSame rfl tw_722 tw_724 tw_16 rfl (e_if hu26).1.1 (e_if hu26).1.2 ⟨by decide, by decide⟩ (Nat.le_of_ble_eq_true rfl) rfl ?_
      refine EV_if_eq (tgt := 61) dX11_selectCame_31 (by decide) (fun c11 => ?_) (fun c11 => ?_)
      · rw [if_pos c11] at h
        exact EV_pick [] rfl (zX11_selectCame_61 E h)
      · rw [if_neg c11] at h
        refine EV_iload_n dX11_selectCame_34 rfl ?_
        refine EV_if_ne (tgt := 61) dX11_selectCame_35 (by decide) (fun c12 => ?_) (fun c12 => ?_)
        · rw [if_pos c12] at h
          refine EV_aload_n dX11_selectCame_38 rfl ?_
          have hh := b1_some h; clear h; obtain ⟨r13, hr13, h⟩ := hh
          refine EV_getP (ci := 11) (k := 4) dX11_selectCame_39 fl_X11_29 rfl hr13 ?_
          refine EV_aload_n dX11_selectCame_42 rfl ?_
          refine EV_iload_n dX11_selectCame_43 rfl ?_
          refine EV_aload_n dX11_selectCame_44 rfl ?_
          have hh := b1_some h; clear h; obtain ⟨r14, hr14, h⟩ := hh
          refine EV_getP (ci := 11) (k := 8) dX11_selectCame_45 fl_X11_57 rfl hr14 ?_
          have hh := b1_some h; clear h; obtain ⟨a15, ha15, h⟩ := hh
          subst ha15
          have hh := b1_some h; clear h; obtain ⟨u25, hu25, h⟩ := hh
          have hh := b2_some h; clear h; obtain ⟨x17, s16, hs16, h⟩ := hh
          refine EV_callV (Y := YX8_originator) (as := []) (st := [VI pi2, VR (some a1), VR r13]) (st2 := [VI x17, VI pi2, VR (some a1), VR r13]) (a := a15) (ci := 8) (r := rX8) (n := 0) dX11_selectCame_48 (zX8_originator E hs16) rfl cwX8_originator rfl tw_762 tw_763 tw_764 rfl (e_if hu25).1.1 (e_if hu25).1.2 ⟨by decide, by decide⟩ (Nat.le_of_ble_eq_true rfl) rfl ?_
          refine EV_aload_n dX11_selectCame_51 rfl ?_
          have hh := b1_some h; clear h; obtain ⟨r18, hr18, h⟩ := hh
          refine EV_getP (ci := 11) (k := 0) dX11_selectCame_52 fl_X11_7 rfl hr18 ?_
          refine EV_bipush (x := (6 : Int32)) dX11_selectCame_55 (by decide) ?_
          have hh := b1_some h; clear h; obtain ⟨a19, ha19, h⟩ := hh
          subst ha19
          have hh := b1_some h; clear h; obtain ⟨x20, hx20, h⟩ := hh
          refine EV_aI (t := 0) (ty := .int) rfl (by decide) dX11_selectCame_57 hx20 ?_
          have hh := b1_some h; clear h; obtain ⟨a21, ha21, h⟩ := hh
          subst ha21
          have hh := b1_some h; clear h; obtain ⟨u24, hu24, h⟩ := hh
          have hh := b1_some h; clear h; obtain ⟨s22, hs22, h⟩ := hh
          refine EV_callV (Y := YX9_begin) (as := [VR (some a1), VI pi2, VI x17, VI x20]) (st := []) (st2 := []) (a := a21) (ci := 9) (r := rX9) (n := 4) dX11_selectCame_58 (zX9_begin E hs22) rfl cwX9_begin rfl tw_846 tw_847 tw_848 rfl (e_if hu24).1.1 (e_if hu24).1.2 ⟨by decide, by decide⟩ (Nat.le_of_ble_eq_true rfl) rfl ?_
          exact EV_pick [] rfl (zX11_selectCame_61 E h)
        · rw [if_neg c12] at h
          exact EV_pick [] rfl (zX11_selectCame_61 E h)
    · rw [if_neg c8] at h
      exact EV_pick [0] rfl (zX11_selectCame_17 E h)
def mX11_endSelection_59 (pi4 : Int32) (s0 : eS) : Option (Int32 × eS) :=
  (b1 (o_Z pi4) fun u1 => some (pi4, s0))
set_option maxRecDepth 100000 in
set_option maxHeartbeats 4000000 in
theorem zX11_endSelection_59 (E : eE) {pi4 : Int32} {s0 s9 : eS} {y : Int32} (h : mX11_endSelection_59 pi4 s0 = some (y, s9)) : EV E MX11_endSelection 59 [(4, VI pi4)] [] s0 (some (VI y)) s9 := by
  unfold mX11_endSelection_59 at h
  refine EV_iload dX11_endSelection_59 rfl ?_
  have hh := b1_some h; clear h; obtain ⟨u1, hu1, h⟩ := hh
  cases h
  exact EV_ret ⟨dX11_endSelection_61, .boolean, rfl, o_Z_n hu1⟩ rfl
def mX11_endSelection_46 (h0 : Nat) (pi3 : Int32) (pt0 : Int32) (s0 : eS) : Option (Int32 × eS) :=
  (if pi3 = 0 then (b1 (g_P s0 111 4 h0) fun r2 => (b1 r2 fun a3 => (b1 (o_K s0 109 a3) fun u6 => (b1 (mX9_end a3 s0) fun s4 => (mX11_endSelection_59 pt0 s4))))) else (mX11_endSelection_59 pt0 s0))
set_option maxRecDepth 100000 in
set_option maxHeartbeats 4000000 in
theorem zX11_endSelection_46 (E : eE) {h0 : Nat} {pi3 : Int32} {pt0 : Int32} {s0 s9 : eS} {y : Int32} (h : mX11_endSelection_46 h0 pi3 pt0 s0 = some (y, s9)) : EV E MX11_endSelection 46 [(0, VR (some h0)), (3, VI pi3)] [VI pt0] s0 (some (VI y)) s9 := by
  unfold mX11_endSelection_46 at h
  refine EV_istore (lv2 := [(4, VI pt0), (0, VR (some h0)), (3, VI pi3)]) dX11_endSelection_46 (by decide) rfl ?_
  refine EV_iload_n dX11_endSelection_48 rfl ?_
  refine EV_if_ne (tgt := 59) dX11_endSelection_49 (by decide) (fun c1 => ?_) (fun c1 => ?_)
  · rw [if_pos c1] at h
    refine EV_aload_n dX11_endSelection_52 rfl ?_
    have hh := b1_some h; clear h; obtain ⟨r2, hr2, h⟩ := hh
    refine EV_getP (ci := 11) (k := 4) dX11_endSelection_53 fl_X11_29 rfl hr2 ?_
    have hh := b1_some h; clear h; obtain ⟨a3, ha3, h⟩ := hh
    subst ha3
    have hh := b1_some h; clear h; obtain ⟨u6, hu6, h⟩ := hh
    have hh := b1_some h; clear h; obtain ⟨s4, hs4, h⟩ := hh
    refine EV_callV (Y := YX9_end) (as := []) (st := []) (st2 := []) (a := a3) (ci := 9) (r := rX9) (n := 0) dX11_endSelection_56 (zX9_end E hs4) rfl cwX9_end rfl tw_548 tw_549 tw_550 rfl (e_if hu6).1.1 (e_if hu6).1.2 ⟨by decide, by decide⟩ (Nat.le_of_ble_eq_true rfl) rfl ?_
    exact EV_pick [0] rfl (zX11_endSelection_59 E h)
  · rw [if_neg c1] at h
    exact EV_pick [0] rfl (zX11_endSelection_59 E h)
def mX11_endSelection_45 (h0 : Nat) (pi3 : Int32) (s0 : eS) : Option (Int32 × eS) :=
  (mX11_endSelection_46 h0 pi3 (0 : Int32) s0)
set_option maxRecDepth 100000 in
set_option maxHeartbeats 4000000 in
theorem zX11_endSelection_45 (E : eE) {h0 : Nat} {pi3 : Int32} {s0 s9 : eS} {y : Int32} (h : mX11_endSelection_45 h0 pi3 s0 = some (y, s9)) : EV E MX11_endSelection 45 [(0, VR (some h0)), (3, VI pi3)] [] s0 (some (VI y)) s9 := by
  unfold mX11_endSelection_45 at h
  refine EV_iconst (x := (0 : Int32)) dX11_endSelection_45 (by decide) ?_
  exact EV_pick [0, 1] rfl (zX11_endSelection_46 E h)
def mX11_endSelection (h0 : Nat) (pr1 : Option Nat) (pi2 : Int32) (pi3 : Int32) (s0 : eS) : Option (Int32 × eS) :=
  (b1 (g_P s0 111 4 h0) fun r1 => (b1 r1 fun a2 => (b1 (o_K s0 109 a2) fun u19 => (b2 (mX9_isOf a2 pr1 s0) fun x4 s3 => (if x4 = 0 then (b1 (o_Z (0 : Int32)) fun u6 => some ((0 : Int32), s3)) else (b1 (g_P s3 111 4 h0) fun r6 => (b1 r6 fun a7 => (b1 (g_I s3 109 1 a7) fun x8 => (if x8 = pi2 then (b1 (g_P s3 111 4 h0) fun r10 => (b1 r10 fun a11 => (b1 (g_I s3 109 2 a11) fun x12 => (b1 (g_P s3 111 8 h0) fun r13 => (b1 r13 fun a14 => (b1 (o_K s3 108 a14) fun u18 => (b2 (mX8_originator a14 s3) fun x16 s15 => (if x12 = x16 then (mX11_endSelection_46 h0 pi3 (1 : Int32) s15) else (mX11_endSelection_45 h0 pi3 s15))))))))) else (mX11_endSelection_45 h0 pi3 s3))))))))))
set_option maxRecDepth 100000 in
set_option maxHeartbeats 4000000 in
theorem zX11_endSelection (E : eE) {h0 : Nat} {pr1 : Option Nat} {pi2 : Int32} {pi3 : Int32} {s0 s9 : eS} {y : Int32} (h : mX11_endSelection h0 pr1 pi2 pi3 s0 = some (y, s9)) : EM E YX11_endSelection [VR (some h0), VR pr1, VI pi2, VI pi3] s0 (some (VI y)) s9 := by
  refine EM_of (M := MX11_endSelection) (own := RX11) (ini := false) rfl (by decide +kernel) rfl (fun z => nomatch z) (Nat.le_of_ble_eq_true rfl) ?_
  unfold mX11_endSelection at h
  refine EV_aload_n dX11_endSelection_0 rfl ?_
  have hh := b1_some h; clear h; obtain ⟨r1, hr1, h⟩ := hh
  refine EV_getP (ci := 11) (k := 4) dX11_endSelection_1 fl_X11_29 rfl hr1 ?_
  refine EV_aload_n dX11_endSelection_4 rfl ?_
  have hh := b1_some h; clear h; obtain ⟨a2, ha2, h⟩ := hh
  subst ha2
  have hh := b1_some h; clear h; obtain ⟨u19, hu19, h⟩ := hh
  have hh := b2_some h; clear h; obtain ⟨x4, s3, hs3, h⟩ := hh
  refine EV_callV (Y := YX9_isOf) (as := [VR pr1]) (st := []) (st2 := [VI x4]) (a := a2) (ci := 9) (r := rX9) (n := 1) dX11_endSelection_5 (zX9_isOf E hs3) rfl cwX9_isOf rfl tw_828 tw_829 tw_830 rfl (e_if hu19).1.1 (e_if hu19).1.2 ⟨by decide, by decide⟩ (Nat.le_of_ble_eq_true rfl) rfl ?_
  refine EV_if_ne (tgt := 13) dX11_endSelection_8 (by decide) (fun c5 => ?_) (fun c5 => ?_)
  · rw [if_pos c5] at h
    refine EV_iconst (x := (0 : Int32)) dX11_endSelection_11 (by decide) ?_
    have hh := b1_some h; clear h; obtain ⟨u6, hu6, h⟩ := hh
    cases h
    exact EV_ret ⟨dX11_endSelection_12, .boolean, rfl, o_Z_n hu6⟩ rfl
  · rw [if_neg c5] at h
    refine EV_aload_n dX11_endSelection_13 rfl ?_
    have hh := b1_some h; clear h; obtain ⟨r6, hr6, h⟩ := hh
    refine EV_getP (ci := 11) (k := 4) dX11_endSelection_14 fl_X11_29 rfl hr6 ?_
    have hh := b1_some h; clear h; obtain ⟨a7, ha7, h⟩ := hh
    subst ha7
    have hh := b1_some h; clear h; obtain ⟨x8, hx8, h⟩ := hh
    refine EV_getI (ci := 9) (k := 1) dX11_endSelection_17 fl_X11_449 rfl hx8 ?_
    refine EV_iload_n dX11_endSelection_20 rfl ?_
    refine EV_icmp_ne (tgt := 45) dX11_endSelection_21 (by decide) (fun c9 => ?_) (fun c9 => ?_)
    · rw [if_pos c9] at h
      refine EV_aload_n dX11_endSelection_24 rfl ?_
      have hh := b1_some h; clear h; obtain ⟨r10, hr10, h⟩ := hh
      refine EV_getP (ci := 11) (k := 4) dX11_endSelection_25 fl_X11_29 rfl hr10 ?_
      have hh := b1_some h; clear h; obtain ⟨a11, ha11, h⟩ := hh
      subst ha11
      have hh := b1_some h; clear h; obtain ⟨x12, hx12, h⟩ := hh
      refine EV_getI (ci := 9) (k := 2) dX11_endSelection_28 fl_X11_452 rfl hx12 ?_
      refine EV_aload_n dX11_endSelection_31 rfl ?_
      have hh := b1_some h; clear h; obtain ⟨r13, hr13, h⟩ := hh
      refine EV_getP (ci := 11) (k := 8) dX11_endSelection_32 fl_X11_57 rfl hr13 ?_
      have hh := b1_some h; clear h; obtain ⟨a14, ha14, h⟩ := hh
      subst ha14
      have hh := b1_some h; clear h; obtain ⟨u18, hu18, h⟩ := hh
      have hh := b2_some h; clear h; obtain ⟨x16, s15, hs15, h⟩ := hh
      refine EV_callV (Y := YX8_originator) (as := []) (st := [VI x12]) (st2 := [VI x16, VI x12]) (a := a14) (ci := 8) (r := rX8) (n := 0) dX11_endSelection_35 (zX8_originator E hs15) rfl cwX8_originator rfl tw_762 tw_763 tw_764 rfl (e_if hu18).1.1 (e_if hu18).1.2 ⟨by decide, by decide⟩ (Nat.le_of_ble_eq_true rfl) rfl ?_
      refine EV_icmp_ne (tgt := 45) dX11_endSelection_38 (by decide) (fun c17 => ?_) (fun c17 => ?_)
      · rw [if_pos c17] at h
        refine EV_iconst (x := (1 : Int32)) dX11_endSelection_41 (by decide) ?_
        refine EV_goto (tgt := 46) dX11_endSelection_42 (by decide) ?_
        exact EV_pick [0, 3] rfl (zX11_endSelection_46 E h)
      · rw [if_neg c17] at h
        exact EV_pick [0, 3] rfl (zX11_endSelection_45 E h)
    · rw [if_neg c9] at h
      exact EV_pick [0, 3] rfl (zX11_endSelection_45 E h)
def mX11_carryOut_53 (h0 : Nat) (s0 : eS) : Option eS :=
  (b1 (o_K s0 111 h0) fun u3 => (b2 (mX11_answerSame h0 (10 : Int32) s0) fun x2 s1 => (some s1)))
set_option maxRecDepth 100000 in
set_option maxHeartbeats 4000000 in
theorem zX11_carryOut_53 (E : eE) {h0 : Nat} {s0 s9 : eS} (h : mX11_carryOut_53 h0 s0 = some s9) : EV E MX11_carryOut 53 [(0, VR (some h0))] [] s0 none s9 := by
  unfold mX11_carryOut_53 at h
  refine EV_aload_n dX11_carryOut_53 rfl ?_
  refine EV_bipush (x := (10 : Int32)) dX11_carryOut_54 (by decide) ?_
  have hh := b1_some h; clear h; obtain ⟨u3, hu3, h⟩ := hh
  have hh := b2_some h; clear h; obtain ⟨x2, s1, hs1, h⟩ := hh
  refine EV_callV (Y := YX11_answerSame) (as := [VI (10 : Int32)]) (st := []) (st2 := [VI x2]) (a := h0) (ci := 11) (r := rX11) (n := 1) dX11_carryOut_56 (zX11_answerSame E hs1) rfl cwX11_answerSame rfl tw_722 tw_724 tw_16 rfl (e_if hu3).1.1 (e_if hu3).1.2 ⟨by decide, by decide⟩ (Nat.le_of_ble_eq_true rfl) rfl ?_
  refine EV_pop dX11_carryOut_59 rfl ?_
  cases h
  exact EV_ret ⟨dX11_carryOut_60, rfl⟩ rfl
def mX11_carryOut (h0 : Nat) (pr1 : Option Nat) (pi2 : Int32) (pi3 : Int32) (s0 : eS) : Option eS :=
  (b1 (o_K s0 111 h0) fun u18 => (b2 (mX11_answerSame h0 (7 : Int32) s0) fun x2 s1 => (if x2 = 0 then (some s1) else (if pi3 = 0 then (b1 pr1 fun a5 => (b1 (g_I s1 102 4 a5) fun x6 => (b1 (p_I s1 102 4 a5 (x6 + (1 : Int32))) fun s7 => (b1 (g_P s7 102 2 a5) fun r8 => (if r8 = none then (mX11_carryOut_53 h0 s7) else (b1 (o_K s7 102 a5) fun u17 => (b2 (mX2_valueOf a5 pi2 s7) fun x11 s10 => (b1 r8 fun a12 => (b1 (p_I s10 106 4 a12 x11) fun s13 => (b1 (o_K s13 111 h0) fun u16 => (b1 (mX11_answerObject h0 (some a12) (11 : Int32) s13) fun s14 => (mX11_carryOut_53 h0 s14)))))))))))) else (mX11_carryOut_53 h0 s1)))))
set_option maxRecDepth 100000 in
set_option maxHeartbeats 4000000 in
theorem zX11_carryOut (E : eE) {h0 : Nat} {pr1 : Option Nat} {pi2 : Int32} {pi3 : Int32} {s0 s9 : eS} (h : mX11_carryOut h0 pr1 pi2 pi3 s0 = some s9) : EM E YX11_carryOut [VR (some h0), VR pr1, VI pi2, VI pi3] s0 none s9 := by
  refine EM_of (M := MX11_carryOut) (own := RX11) (ini := false) rfl (by decide +kernel) rfl (fun z => nomatch z) (Nat.le_of_ble_eq_true rfl) ?_
  unfold mX11_carryOut at h
  refine EV_aload_n dX11_carryOut_0 rfl ?_
  refine EV_bipush (x := (7 : Int32)) dX11_carryOut_1 (by decide) ?_
  have hh := b1_some h; clear h; obtain ⟨u18, hu18, h⟩ := hh
  have hh := b2_some h; clear h; obtain ⟨x2, s1, hs1, h⟩ := hh
  refine EV_callV (Y := YX11_answerSame) (as := [VI (7 : Int32)]) (st := []) (st2 := [VI x2]) (a := h0) (ci := 11) (r := rX11) (n := 1) dX11_carryOut_3 (zX11_answerSame E hs1) rfl cwX11_answerSame rfl tw_722 tw_724 tw_16 rfl (e_if hu18).1.1 (e_if hu18).1.2 ⟨by decide, by decide⟩ (Nat.le_of_ble_eq_true rfl) rfl ?_
  refine EV_if_ne (tgt := 10) dX11_carryOut_6 (by decide) (fun c3 => ?_) (fun c3 => ?_)
  · rw [if_pos c3] at h
    cases h
    exact EV_ret ⟨dX11_carryOut_9, rfl⟩ rfl
  · rw [if_neg c3] at h
    refine EV_iload_n dX11_carryOut_10 rfl ?_
    refine EV_if_ne (tgt := 53) dX11_carryOut_11 (by decide) (fun c4 => ?_) (fun c4 => ?_)
    · rw [if_pos c4] at h
      refine EV_aload_n dX11_carryOut_14 rfl ?_
      refine EV_dup dX11_carryOut_15 rfl ?_
      have hh := b1_some h; clear h; obtain ⟨a5, ha5, h⟩ := hh
      subst ha5
      have hh := b1_some h; clear h; obtain ⟨x6, hx6, h⟩ := hh
      refine EV_getI (ci := 2) (k := 4) dX11_carryOut_16 fl_X11_218 rfl hx6 ?_
      refine EV_iconst (x := (1 : Int32)) dX11_carryOut_19 (by decide) ?_
      refine EV_iadd dX11_carryOut_20 ?_
      have hh := b1_some h; clear h; obtain ⟨s7, hs7, h⟩ := hh
      refine EV_putI (ci := 2) (k := 4) dX11_carryOut_21 fp_X11_218 rfl hs7 ?_
      refine EV_aload_n dX11_carryOut_24 rfl ?_
      have hh := b1_some h; clear h; obtain ⟨r8, hr8, h⟩ := hh
      refine EV_getP (ci := 2) (k := 2) dX11_carryOut_25 fl_X11_454 rfl hr8 ?_
      refine EV_astore (lv2 := [(4, VR r8), (0, VR (some h0)), (1, VR (some a5)), (2, VI pi2), (3, VI pi3)]) dX11_carryOut_28 (by decide) rfl ?_
      refine EV_aload dX11_carryOut_30 rfl ?_
      refine EV_ifnull (tgt := 53) dX11_carryOut_32 (by decide) (fun c9 => ?_) (fun c9 => ?_)
      · rw [if_pos c9] at h
        exact EV_pick [1] rfl (zX11_carryOut_53 E h)
      · rw [if_neg c9] at h
        refine EV_aload dX11_carryOut_35 rfl ?_
        refine EV_aload_n dX11_carryOut_37 rfl ?_
        refine EV_iload_n dX11_carryOut_38 rfl ?_
        have hh := b1_some h; clear h; obtain ⟨u17, hu17, h⟩ := hh
        have hh := b2_some h; clear h; obtain ⟨x11, s10, hs10, h⟩ := hh
        refine EV_callV (Y := YX2_valueOf) (as := [VI pi2]) (st := [VR r8]) (st2 := [VI x11, VR r8]) (a := a5) (ci := 2) (r := rX2) (n := 1) dX11_carryOut_39 (zX2_valueOf E hs10) rfl cwX2_valueOf rfl tw_858 tw_859 tw_860 rfl (e_if hu17).1.1 (e_if hu17).1.2 ⟨by decide, by decide⟩ (Nat.le_of_ble_eq_true rfl) rfl ?_
        have hh := b1_some h; clear h; obtain ⟨a12, ha12, h⟩ := hh
        subst ha12
        have hh := b1_some h; clear h; obtain ⟨s13, hs13, h⟩ := hh
        refine EV_putI (ci := 6) (k := 4) dX11_carryOut_42 fp_X11_121 rfl hs13 ?_
        refine EV_aload_n dX11_carryOut_45 rfl ?_
        refine EV_aload dX11_carryOut_46 rfl ?_
        refine EV_bipush (x := (11 : Int32)) dX11_carryOut_48 (by decide) ?_
        have hh := b1_some h; clear h; obtain ⟨u16, hu16, h⟩ := hh
        have hh := b1_some h; clear h; obtain ⟨s14, hs14, h⟩ := hh
        refine EV_callV (Y := YX11_answerObject) (as := [VR (some a12), VI (11 : Int32)]) (st := []) (st2 := []) (a := h0) (ci := 11) (r := rX11) (n := 2) dX11_carryOut_50 (zX11_answerObject E hs14) rfl cwX11_answerObject rfl tw_757 tw_759 tw_18 rfl (e_if hu16).1.1 (e_if hu16).1.2 ⟨by decide, by decide⟩ (Nat.le_of_ble_eq_true rfl) rfl ?_
        exact EV_pick [1] rfl (zX11_carryOut_53 E h)
    · rw [if_neg c4] at h
      exact EV_pick [0] rfl (zX11_carryOut_53 E h)
def mX11_commandCame_58 (pt0 : Int32) (pt1 : Option Nat) (s0 : eS) : Option eS :=
  (b1 pt1 fun a1 => (b1 (o_K s0 111 a1) fun u4 => (b2 (mX11_answerSame a1 pt0 s0) fun x3 s2 => (some s2))))
set_option maxRecDepth 100000 in
set_option maxHeartbeats 4000000 in
theorem zX11_commandCame_58 (E : eE) {pt0 : Int32} {pt1 : Option Nat} {s0 s9 : eS} (h : mX11_commandCame_58 pt0 pt1 s0 = some s9) : EV E MX11_commandCame 58 [] [VI pt0, VR pt1] s0 none s9 := by
  unfold mX11_commandCame_58 at h
  have hh := b1_some h; clear h; obtain ⟨a1, ha1, h⟩ := hh
  subst ha1
  have hh := b1_some h; clear h; obtain ⟨u4, hu4, h⟩ := hh
  have hh := b2_some h; clear h; obtain ⟨x3, s2, hs2, h⟩ := hh
  refine EV_callV (Y := YX11_answerSame) (as := [VI pt0]) (st := []) (st2 := [VI x3]) (a := a1) (ci := 11) (r := rX11) (n := 1) dX11_commandCame_58 (zX11_answerSame E hs2) rfl cwX11_answerSame rfl tw_722 tw_724 tw_16 rfl (e_if hu4).1.1 (e_if hu4).1.2 ⟨by decide, by decide⟩ (Nat.le_of_ble_eq_true rfl) rfl ?_
  refine EV_pop dX11_commandCame_61 rfl ?_
  cases h
  exact EV_ret ⟨dX11_commandCame_62, rfl⟩ rfl
def mX11_commandCame_45 (h0 : Nat) (pi4 : Int32) (s0 : eS) : Option eS :=
  (if pi4 = 0 then (mX11_commandCame_58 (73 : Int32) (some h0) s0) else (mX11_commandCame_58 (9 : Int32) (some h0) s0))
set_option maxRecDepth 100000 in
set_option maxHeartbeats 4000000 in
theorem zX11_commandCame_45 (E : eE) {h0 : Nat} {pi4 : Int32} {s0 s9 : eS} (h : mX11_commandCame_45 h0 pi4 s0 = some s9) : EV E MX11_commandCame 45 [(0, VR (some h0)), (4, VI pi4)] [] s0 none s9 := by
  unfold mX11_commandCame_45 at h
  refine EV_aload_n dX11_commandCame_45 rfl ?_
  refine EV_iload dX11_commandCame_46 rfl ?_
  refine EV_if_eq (tgt := 56) dX11_commandCame_48 (by decide) (fun c1 => ?_) (fun c1 => ?_)
  · rw [if_pos c1] at h
    refine EV_bipush (x := (73 : Int32)) dX11_commandCame_56 (by decide) ?_
    exact EV_pick [] rfl (zX11_commandCame_58 E h)
  · rw [if_neg c1] at h
    refine EV_bipush (x := (9 : Int32)) dX11_commandCame_51 (by decide) ?_
    refine EV_goto (tgt := 58) dX11_commandCame_53 (by decide) ?_
    exact EV_pick [] rfl (zX11_commandCame_58 E h)
def mX11_commandCame_182 (s0 : eS) : Option eS :=
  (some s0)
set_option maxRecDepth 100000 in
set_option maxHeartbeats 4000000 in
theorem zX11_commandCame_182 (E : eE) {s0 s9 : eS} (h : mX11_commandCame_182 s0 = some s9) : EV E MX11_commandCame 182 [] [] s0 none s9 := by
  unfold mX11_commandCame_182 at h
  cases h
  exact EV_ret ⟨dX11_commandCame_182, rfl⟩ rfl
def mX11_commandCame_174 (h0 : Nat) (pr1 : Option Nat) (pi3 : Int32) (pi5 : Int32) (s0 : eS) : Option eS :=
  (b1 (o_K s0 111 h0) fun u3 => (b1 (mX11_carryOut h0 pr1 pi5 pi3 s0) fun s1 => (mX11_commandCame_182 s1)))
set_option maxRecDepth 100000 in
set_option maxHeartbeats 4000000 in
theorem zX11_commandCame_174 (E : eE) {h0 : Nat} {pr1 : Option Nat} {pi3 : Int32} {pi5 : Int32} {s0 s9 : eS} (h : mX11_commandCame_174 h0 pr1 pi3 pi5 s0 = some s9) : EV E MX11_commandCame 174 [(0, VR (some h0)), (1, VR pr1), (3, VI pi3), (5, VI pi5)] [] s0 none s9 := by
  unfold mX11_commandCame_174 at h
  refine EV_aload_n dX11_commandCame_174 rfl ?_
  refine EV_aload_n dX11_commandCame_175 rfl ?_
  refine EV_iload dX11_commandCame_176 rfl ?_
  refine EV_iload_n dX11_commandCame_178 rfl ?_
  have hh := b1_some h; clear h; obtain ⟨u3, hu3, h⟩ := hh
  have hh := b1_some h; clear h; obtain ⟨s1, hs1, h⟩ := hh
  refine EV_callV (Y := YX11_carryOut) (as := [VR pr1, VI pi5, VI pi3]) (st := []) (st2 := []) (a := h0) (ci := 11) (r := rX11) (n := 3) dX11_commandCame_179 (zX11_carryOut E hs1) rfl cwX11_carryOut rfl tw_854 tw_856 tw_27 rfl (e_if hu3).1.1 (e_if hu3).1.2 ⟨by decide, by decide⟩ (Nat.le_of_ble_eq_true rfl) rfl ?_
  exact EV_pick [] rfl (zX11_commandCame_182 E h)
def mX11_commandCame (h0 : Nat) (pr1 : Option Nat) (pi2 : Int32) (s0 : eS) : Option eS :=
  (if pr1 = none then (some s0) else (b1 (g_P s0 111 8 h0) fun r2 => (b1 r2 fun a3 => (b1 (o_K s0 108 a3) fun u31 => (b2 (mX8_isTrial a3 s0) fun x5 s4 => (if pi2 = (8 : Int32) then (b1 (g_P s4 111 4 h0) fun r7 => (b1 r7 fun a8 => (b1 (o_K s4 109 a8) fun u18 => (b2 (mX9_isOf a8 pr1 s4) fun x10 s9 => (if x10 = 0 then (mX11_commandCame_45 h0 x10 s9) else (if x5 = 0 then (b1 (g_P s9 111 4 h0) fun r13 => (b1 r13 fun a14 => (b1 (o_K s9 109 a14) fun u17 => (b1 (mX9_end a14 s9) fun s15 => (mX11_commandCame_45 h0 x10 s15))))) else (mX11_commandCame_45 h0 x10 s9))))))) else (b1 pr1 fun a7 => (b1 (g_I s4 102 0 a7) fun x8 => (b1 (t_I tb_12 x8) fun x9 => (b1 (g_P s4 111 8 h0) fun r10 => (b1 r10 fun a11 => (b1 (g_P s4 108 0 a11) fun r12 => (b1 r12 fun a13 => (b1 (o_K s4 104 a13) fun u30 => (b2 (mX4_number a13 (9 : Int32) x9 s4) fun x15 s14 => (b1 (o_K s14 102 a7) fun u29 => (b2 (mX2_isOrder a7 ((x15).toInt32) s14) fun x17 s16 => (if x17 = 0 then (b1 (o_K s16 111 h0) fun u21 => (b2 (mX11_answerSame h0 (71 : Int32) s16) fun x20 s19 => (mX11_commandCame_182 s19))) else (if (((x15).toInt32) &&& ((128 : Int32) <<< (((8 : Int32) * (x9 - (1 : Int32))) &&& 31))) = 0 then (b1 (g_I s16 102 3 a7) fun x20 => (if x20 = 0 then (mX11_commandCame_174 h0 (some a7) x5 ((x15).toInt32) s16) else (b1 (o_K s16 111 h0) fun u28 => (b2 (mX11_endSelection h0 (some a7) ((x15).toInt32) x5 s16) fun x23 s22 => (if x23 = 0 then (b1 (o_K s22 111 h0) fun u27 => (b2 (mX11_answerSame h0 (71 : Int32) s22) fun x26 s25 => (mX11_commandCame_182 s25))) else (mX11_commandCame_174 h0 (some a7) x5 ((x15).toInt32) s22)))))) else (b1 (o_K s16 111 h0) fun u22 => (b1 (mX11_selectCame h0 (some a7) (((x15).toInt32) &&& (((128 : Int32) <<< (((8 : Int32) * (x9 - (1 : Int32))) &&& 31)) ^^^ (-1 : Int32))) x5 s16) fun s20 => (mX11_commandCame_182 s20))))))))))))))))))))))
set_option maxRecDepth 100000 in
set_option maxHeartbeats 4000000 in
theorem zX11_commandCame (E : eE) {h0 : Nat} {pr1 : Option Nat} {pi2 : Int32} {s0 s9 : eS} (h : mX11_commandCame h0 pr1 pi2 s0 = some s9) : EM E YX11_commandCame [VR (some h0), VR pr1, VI pi2] s0 none s9 := by
  refine EM_of (M := MX11_commandCame) (own := RX11) (ini := false) rfl (by decide +kernel) rfl (fun z => nomatch z) (Nat.le_of_ble_eq_true rfl) ?_
  unfold mX11_commandCame at h
  refine EV_aload_n dX11_commandCame_0 rfl ?_
  refine EV_ifnonnull (tgt := 5) dX11_commandCame_1 (by decide) (fun c1 => ?_) (fun c1 => ?_)
  · rw [if_pos c1] at h
    cases h
    exact EV_ret ⟨dX11_commandCame_4, rfl⟩ rfl
  · rw [if_neg c1] at h
    refine EV_aload_n dX11_commandCame_5 rfl ?_
    have hh := b1_some h; clear h; obtain ⟨r2, hr2, h⟩ := hh
    refine EV_getP (ci := 11) (k := 8) dX11_commandCame_6 fl_X11_57 rfl hr2 ?_
    have hh := b1_some h; clear h; obtain ⟨a3, ha3, h⟩ := hh
    subst ha3
    have hh := b1_some h; clear h; obtain ⟨u31, hu31, h⟩ := hh
    have hh := b2_some h; clear h; obtain ⟨x5, s4, hs4, h⟩ := hh
    refine EV_callV (Y := YX8_isTrial) (as := []) (st := []) (st2 := [VI x5]) (a := a3) (ci := 8) (r := rX8) (n := 0) dX11_commandCame_9 (zX8_isTrial E hs4) rfl cwX8_isTrial rfl tw_752 tw_753 tw_754 rfl (e_if hu31).1.1 (e_if hu31).1.2 ⟨by decide, by decide⟩ (Nat.le_of_ble_eq_true rfl) rfl ?_
    refine EV_istore_n (lv2 := [(3, VI x5), (0, VR (some h0)), (1, VR pr1), (2, VI pi2)]) dX11_commandCame_12 (by decide) rfl ?_
    refine EV_iload_n dX11_commandCame_13 rfl ?_
    refine EV_bipush (x := (8 : Int32)) dX11_commandCame_14 (by decide) ?_
    refine EV_icmp_ne (tgt := 63) dX11_commandCame_16 (by decide) (fun c6 => ?_) (fun c6 => ?_)
    · rw [if_pos c6] at h
      refine EV_aload_n dX11_commandCame_19 rfl ?_
      have hh := b1_some h; clear h; obtain ⟨r7, hr7, h⟩ := hh
      refine EV_getP (ci := 11) (k := 4) dX11_commandCame_20 fl_X11_29 rfl hr7 ?_
      refine EV_aload_n dX11_commandCame_23 rfl ?_
      have hh := b1_some h; clear h; obtain ⟨a8, ha8, h⟩ := hh
      subst ha8
      have hh := b1_some h; clear h; obtain ⟨u18, hu18, h⟩ := hh
      have hh := b2_some h; clear h; obtain ⟨x10, s9, hs9, h⟩ := hh
      refine EV_callV (Y := YX9_isOf) (as := [VR pr1]) (st := []) (st2 := [VI x10]) (a := a8) (ci := 9) (r := rX9) (n := 1) dX11_commandCame_24 (zX9_isOf E hs9) rfl cwX9_isOf rfl tw_828 tw_829 tw_830 rfl (e_if hu18).1.1 (e_if hu18).1.2 ⟨by decide, by decide⟩ (Nat.le_of_ble_eq_true rfl) rfl ?_
      refine EV_istore (lv2 := [(4, VI x10), (3, VI x5), (0, VR (some h0)), (1, VR pr1), (2, VI pi2)]) dX11_commandCame_27 (by decide) rfl ?_
      refine EV_iload dX11_commandCame_29 rfl ?_
      refine EV_if_eq (tgt := 45) dX11_commandCame_31 (by decide) (fun c11 => ?_) (fun c11 => ?_)
      · rw [if_pos c11] at h
        exact EV_pick [2, 0] rfl (zX11_commandCame_45 E h)
      · rw [if_neg c11] at h
        refine EV_iload_n dX11_commandCame_34 rfl ?_
        refine EV_if_ne (tgt := 45) dX11_commandCame_35 (by decide) (fun c12 => ?_) (fun c12 => ?_)
        · rw [if_pos c12] at h
          refine EV_aload_n dX11_commandCame_38 rfl ?_
          have hh := b1_some h; clear h; obtain ⟨r13, hr13, h⟩ := hh
          refine EV_getP (ci := 11) (k := 4) dX11_commandCame_39 fl_X11_29 rfl hr13 ?_
          have hh := b1_some h; clear h; obtain ⟨a14, ha14, h⟩ := hh
          subst ha14
          have hh := b1_some h; clear h; obtain ⟨u17, hu17, h⟩ := hh
          have hh := b1_some h; clear h; obtain ⟨s15, hs15, h⟩ := hh
          refine EV_callV (Y := YX9_end) (as := []) (st := []) (st2 := []) (a := a14) (ci := 9) (r := rX9) (n := 0) dX11_commandCame_42 (zX9_end E hs15) rfl cwX9_end rfl tw_548 tw_549 tw_550 rfl (e_if hu17).1.1 (e_if hu17).1.2 ⟨by decide, by decide⟩ (Nat.le_of_ble_eq_true rfl) rfl ?_
          exact EV_pick [2, 0] rfl (zX11_commandCame_45 E h)
        · rw [if_neg c12] at h
          exact EV_pick [2, 0] rfl (zX11_commandCame_45 E h)
    · rw [if_neg c6] at h
      refine EV_gets (j := 12) (r := st_12) dX11_commandCame_63 rfl tw_832 ?_
      refine EV_aload_n dX11_commandCame_66 rfl ?_
      have hh := b1_some h; clear h; obtain ⟨a7, ha7, h⟩ := hh
      subst ha7
      have hh := b1_some h; clear h; obtain ⟨x8, hx8, h⟩ := hh
      refine EV_getI (ci := 2) (k := 0) dX11_commandCame_67 fl_X11_415 rfl hx8 ?_
      have hh := b1_some h; clear h; obtain ⟨x9, hx9, h⟩ := hh
      refine EV_tabI (j := 12) (r := st_12) (l := tb_12) dX11_commandCame_70 rfl rfl hx9 ?_
      refine EV_istore (lv2 := [(4, VI x9), (3, VI x5), (0, VR (some h0)), (1, VR (some a7)), (2, VI pi2)]) dX11_commandCame_71 (by decide) rfl ?_
      refine EV_aload_n dX11_commandCame_73 rfl ?_
      have hh := b1_some h; clear h; obtain ⟨r10, hr10, h⟩ := hh
      refine EV_getP (ci := 11) (k := 8) dX11_commandCame_74 fl_X11_57 rfl hr10 ?_
      have hh := b1_some h; clear h; obtain ⟨a11, ha11, h⟩ := hh
      subst ha11
      have hh := b1_some h; clear h; obtain ⟨r12, hr12, h⟩ := hh
      refine EV_getP (ci := 8) (k := 0) dX11_commandCame_77 fl_X11_173 rfl hr12 ?_
      refine EV_bipush (x := (9 : Int32)) dX11_commandCame_80 (by decide) ?_
      refine EV_iload dX11_commandCame_82 rfl ?_
      have hh := b1_some h; clear h; obtain ⟨a13, ha13, h⟩ := hh
      subst ha13
      have hh := b1_some h; clear h; obtain ⟨u30, hu30, h⟩ := hh
      have hh := b2_some h; clear h; obtain ⟨x15, s14, hs14, h⟩ := hh
      refine EV_callV (Y := YX4_number) (as := [VI (9 : Int32), VI x9]) (st := []) (st2 := [VL x15]) (a := a13) (ci := 4) (r := rX4) (n := 2) dX11_commandCame_84 (zX4_number E hs14) rfl cwX4_number rfl tw_705 tw_706 tw_707 rfl (e_if hu30).1.1 (e_if hu30).1.2 ⟨by decide, by decide⟩ (Nat.le_of_ble_eq_true rfl) rfl ?_
      refine EV_l2i dX11_commandCame_87 ?_
      refine EV_istore (lv2 := [(5, VI ((x15).toInt32)), (4, VI x9), (3, VI x5), (0, VR (some h0)), (1, VR (some a7)), (2, VI pi2)]) dX11_commandCame_88 (by decide) rfl ?_
      refine EV_sipush (x := (128 : Int32)) dX11_commandCame_90 (by decide) ?_
      refine EV_bipush (x := (8 : Int32)) dX11_commandCame_93 (by decide) ?_
      refine EV_iload dX11_commandCame_95 rfl ?_
      refine EV_iconst (x := (1 : Int32)) dX11_commandCame_97 (by decide) ?_
      refine EV_isub dX11_commandCame_98 ?_
      refine EV_imul dX11_commandCame_99 ?_
      refine EV_ishl dX11_commandCame_100 ?_
      refine EV_istore (lv2 := [(6, VI ((128 : Int32) <<< (((8 : Int32) * (x9 - (1 : Int32))) &&& 31))), (5, VI ((x15).toInt32)), (4, VI x9), (3, VI x5), (0, VR (some h0)), (1, VR (some a7)), (2, VI pi2)]) dX11_commandCame_101 (by decide) rfl ?_
      refine EV_aload_n dX11_commandCame_103 rfl ?_
      refine EV_iload dX11_commandCame_104 rfl ?_
      have hh := b1_some h; clear h; obtain ⟨u29, hu29, h⟩ := hh
      have hh := b2_some h; clear h; obtain ⟨x17, s16, hs16, h⟩ := hh
      refine EV_callV (Y := YX2_isOrder) (as := [VI ((x15).toInt32)]) (st := []) (st2 := [VI x17]) (a := a7) (ci := 2) (r := rX2) (n := 1) dX11_commandCame_106 (zX2_isOrder E hs16) rfl cwX2_isOrder rfl tw_834 tw_835 tw_836 rfl (e_if hu29).1.1 (e_if hu29).1.2 ⟨by decide, by decide⟩ (Nat.le_of_ble_eq_true rfl) rfl ?_
      refine EV_if_ne (tgt := 122) dX11_commandCame_109 (by decide) (fun c18 => ?_) (fun c18 => ?_)
      · rw [if_pos c18] at h
        refine EV_aload_n dX11_commandCame_112 rfl ?_
        refine EV_bipush (x := (71 : Int32)) dX11_commandCame_113 (by decide) ?_
        have hh := b1_some h; clear h; obtain ⟨u21, hu21, h⟩ := hh
        have hh := b2_some h; clear h; obtain ⟨x20, s19, hs19, h⟩ := hh
        refine EV_callV (Y := YX11_answerSame) (as := [VI (71 : Int32)]) (st := []) (st2 := [VI x20]) (a := h0) (ci := 11) (r := rX11) (n := 1) dX11_commandCame_115 (zX11_answerSame E hs19) rfl cwX11_answerSame rfl tw_722 tw_724 tw_16 rfl (e_if hu21).1.1 (e_if hu21).1.2 ⟨by decide, by decide⟩ (Nat.le_of_ble_eq_true rfl) rfl ?_
        refine EV_pop dX11_commandCame_118 rfl ?_
        refine EV_goto (tgt := 182) dX11_commandCame_119 (by decide) ?_
        exact EV_pick [] rfl (zX11_commandCame_182 E h)
      · rw [if_neg c18] at h
        refine EV_iload dX11_commandCame_122 rfl ?_
        refine EV_iload dX11_commandCame_124 rfl ?_
        refine EV_iand dX11_commandCame_126 ?_
        refine EV_if_eq (tgt := 146) dX11_commandCame_127 (by decide) (fun c19 => ?_) (fun c19 => ?_)
        · rw [if_pos c19] at h
          refine EV_aload_n dX11_commandCame_146 rfl ?_
          have hh := b1_some h; clear h; obtain ⟨x20, hx20, h⟩ := hh
          refine EV_getI (ci := 2) (k := 3) dX11_commandCame_147 fl_X11_429 rfl hx20 ?_
          refine EV_if_eq (tgt := 174) dX11_commandCame_150 (by decide) (fun c21 => ?_) (fun c21 => ?_)
          · rw [if_pos c21] at h
            exact EV_pick [4, 5, 3, 1] rfl (zX11_commandCame_174 E h)
          · rw [if_neg c21] at h
            refine EV_aload_n dX11_commandCame_153 rfl ?_
            refine EV_aload_n dX11_commandCame_154 rfl ?_
            refine EV_iload dX11_commandCame_155 rfl ?_
            refine EV_iload_n dX11_commandCame_157 rfl ?_
            have hh := b1_some h; clear h; obtain ⟨u28, hu28, h⟩ := hh
            have hh := b2_some h; clear h; obtain ⟨x23, s22, hs22, h⟩ := hh
            refine EV_callV (Y := YX11_endSelection) (as := [VR (some a7), VI ((x15).toInt32), VI x5]) (st := []) (st2 := [VI x23]) (a := h0) (ci := 11) (r := rX11) (n := 3) dX11_commandCame_158 (zX11_endSelection E hs22) rfl cwX11_endSelection rfl tw_850 tw_852 tw_26 rfl (e_if hu28).1.1 (e_if hu28).1.2 ⟨by decide, by decide⟩ (Nat.le_of_ble_eq_true rfl) rfl ?_
            refine EV_if_ne (tgt := 174) dX11_commandCame_161 (by decide) (fun c24 => ?_) (fun c24 => ?_)
            · rw [if_pos c24] at h
              refine EV_aload_n dX11_commandCame_164 rfl ?_
              refine EV_bipush (x := (71 : Int32)) dX11_commandCame_165 (by decide) ?_
              have hh := b1_some h; clear h; obtain ⟨u27, hu27, h⟩ := hh
              have hh := b2_some h; clear h; obtain ⟨x26, s25, hs25, h⟩ := hh
              refine EV_callV (Y := YX11_answerSame) (as := [VI (71 : Int32)]) (st := []) (st2 := [VI x26]) (a := h0) (ci := 11) (r := rX11) (n := 1) dX11_commandCame_167 (zX11_answerSame E hs25) rfl cwX11_answerSame rfl tw_722 tw_724 tw_16 rfl (e_if hu27).1.1 (e_if hu27).1.2 ⟨by decide, by decide⟩ (Nat.le_of_ble_eq_true rfl) rfl ?_
              refine EV_pop dX11_commandCame_170 rfl ?_
              refine EV_goto (tgt := 182) dX11_commandCame_171 (by decide) ?_
              exact EV_pick [] rfl (zX11_commandCame_182 E h)
            · rw [if_neg c24] at h
              exact EV_pick [4, 5, 3, 1] rfl (zX11_commandCame_174 E h)
        · rw [if_neg c19] at h
          refine EV_aload_n dX11_commandCame_130 rfl ?_
          refine EV_aload_n dX11_commandCame_131 rfl ?_
          refine EV_iload dX11_commandCame_132 rfl ?_
          refine EV_iload dX11_commandCame_134 rfl ?_
          refine EV_iconst (x := (-1 : Int32)) dX11_commandCame_136 (by decide) ?_
          refine EV_ixor dX11_commandCame_137 ?_
          refine EV_iand dX11_commandCame_138 ?_
          refine EV_iload_n dX11_commandCame_139 rfl ?_
          have hh := b1_some h; clear h; obtain ⟨u22, hu22, h⟩ := hh
          have hh := b1_some h; clear h; obtain ⟨s20, hs20, h⟩ := hh
          refine EV_callV (Y := YX11_selectCame) (as := [VR (some a7), VI (((x15).toInt32) &&& (((128 : Int32) <<< (((8 : Int32) * (x9 - (1 : Int32))) &&& 31)) ^^^ (-1 : Int32))), VI x5]) (st := []) (st2 := []) (a := h0) (ci := 11) (r := rX11) (n := 3) dX11_commandCame_140 (zX11_selectCame E hs20) rfl cwX11_selectCame rfl tw_838 tw_840 tw_25 rfl (e_if hu22).1.1 (e_if hu22).1.2 ⟨by decide, by decide⟩ (Nat.le_of_ble_eq_true rfl) rfl ?_
          refine EV_goto (tgt := 182) dX11_commandCame_143 (by decide) ?_
          exact EV_pick [] rfl (zX11_commandCame_182 E h)
def mX11_takeRest_209 (s0 : eS) : Option eS :=
  (some s0)
set_option maxRecDepth 100000 in
set_option maxHeartbeats 4000000 in
theorem zX11_takeRest_209 (E : eE) {s0 s9 : eS} (h : mX11_takeRest_209 s0 = some s9) : EV E MX11_takeRest 209 [] [] s0 none s9 := by
  unfold mX11_takeRest_209 at h
  cases h
  exact EV_ret ⟨dX11_takeRest_209, rfl⟩ rfl
def mX11_takeRest_193 (h0 : Nat) (s0 : eS) : Option eS :=
  (b1 (g_P s0 111 7 h0) fun r1 => (b1 r1 fun a2 => (b1 (g_I s0 100 4 a2) fun x3 => (if x3 = 0 then (mX11_takeRest_209 s0) else (b1 (o_K s0 111 h0) fun u7 => (b1 (mX11_shut h0 (7 : Int32) s0) fun s5 => (mX11_takeRest_209 s5)))))))
set_option maxRecDepth 100000 in
set_option maxHeartbeats 4000000 in
theorem zX11_takeRest_193 (E : eE) {h0 : Nat} {s0 s9 : eS} (h : mX11_takeRest_193 h0 s0 = some s9) : EV E MX11_takeRest 193 [(0, VR (some h0))] [] s0 none s9 := by
  unfold mX11_takeRest_193 at h
  refine EV_aload_n dX11_takeRest_193 rfl ?_
  have hh := b1_some h; clear h; obtain ⟨r1, hr1, h⟩ := hh
  refine EV_getP (ci := 11) (k := 7) dX11_takeRest_194 fl_X11_50 rfl hr1 ?_
  have hh := b1_some h; clear h; obtain ⟨a2, ha2, h⟩ := hh
  subst ha2
  have hh := b1_some h; clear h; obtain ⟨x3, hx3, h⟩ := hh
  refine EV_getI (ci := 0) (k := 4) dX11_takeRest_197 fl_X11_398 rfl hx3 ?_
  refine EV_if_eq (tgt := 209) dX11_takeRest_200 (by decide) (fun c4 => ?_) (fun c4 => ?_)
  · rw [if_pos c4] at h
    exact EV_pick [] rfl (zX11_takeRest_209 E h)
  · rw [if_neg c4] at h
    refine EV_aload_n dX11_takeRest_203 rfl ?_
    refine EV_bipush (x := (7 : Int32)) dX11_takeRest_204 (by decide) ?_
    have hh := b1_some h; clear h; obtain ⟨u7, hu7, h⟩ := hh
    have hh := b1_some h; clear h; obtain ⟨s5, hs5, h⟩ := hh
    refine EV_callV (Y := YX11_shut) (as := [VI (7 : Int32)]) (st := []) (st2 := []) (a := h0) (ci := 11) (r := rX11) (n := 1) dX11_takeRest_206 (zX11_shut E hs5) rfl cwX11_shut rfl tw_540 tw_542 tw_5 rfl (e_if hu7).1.1 (e_if hu7).1.2 ⟨by decide, by decide⟩ (Nat.le_of_ble_eq_true rfl) rfl ?_
    exact EV_pick [] rfl (zX11_takeRest_209 E h)
def mX11_takeRest_173 (h0 : Nat) (pt0 : Int32) (pt1 : Option Nat) (s0 : eS) : Option eS :=
  (b1 pt1 fun a1 => (b1 (o_K s0 111 a1) fun u4 => (b2 (mX11_answerSame a1 pt0 s0) fun x3 s2 => (mX11_takeRest_193 h0 s2))))
set_option maxRecDepth 100000 in
set_option maxHeartbeats 4000000 in
theorem zX11_takeRest_173 (E : eE) {h0 : Nat} {pt0 : Int32} {pt1 : Option Nat} {s0 s9 : eS} (h : mX11_takeRest_173 h0 pt0 pt1 s0 = some s9) : EV E MX11_takeRest 173 [(0, VR (some h0))] [VI pt0, VR pt1] s0 none s9 := by
  unfold mX11_takeRest_173 at h
  have hh := b1_some h; clear h; obtain ⟨a1, ha1, h⟩ := hh
  subst ha1
  have hh := b1_some h; clear h; obtain ⟨u4, hu4, h⟩ := hh
  have hh := b2_some h; clear h; obtain ⟨x3, s2, hs2, h⟩ := hh
  refine EV_callV (Y := YX11_answerSame) (as := [VI pt0]) (st := []) (st2 := [VI x3]) (a := a1) (ci := 11) (r := rX11) (n := 1) dX11_takeRest_173 (zX11_answerSame E hs2) rfl cwX11_answerSame rfl tw_722 tw_724 tw_16 rfl (e_if hu4).1.1 (e_if hu4).1.2 ⟨by decide, by decide⟩ (Nat.le_of_ble_eq_true rfl) rfl ?_
  refine EV_pop dX11_takeRest_176 rfl ?_
  refine EV_goto (tgt := 193) dX11_takeRest_177 (by decide) ?_
  exact EV_pick [0] rfl (zX11_takeRest_193 E h)
def mX11_takeRest (h0 : Nat) (pr1 : Option Nat) (s0 : eS) : Option eS :=
  (b1 pr1 fun a1 => (b1 (o_K s0 104 a1) fun u26 => (b2 (mX4_at a1 (0 : Int32) s0) fun x3 s2 => (b1 (o_K s2 104 a1) fun u25 => (b2 (mX4_at a1 (2 : Int32) s2) fun x5 s4 => (b1 (o_K s4 111 h0) fun u24 => (b2 (mX11_faultOf h0 (some a1) x3 (x5 &&& (63 : Int32)) s4) fun x7 s6 => (if x7 = (-1 : Int32) then (b1 (g_I s6 111 17 h0) fun x9 => (b1 (p_I s6 111 17 h0 (x9 + (1 : Int32))) fun s10 => (mX11_takeRest_193 h0 s10))) else (if x7 = 0 then (if x3 = (102 : Int32) then (b1 (g_P s6 111 1 h0) fun r11 => (b1 (o_K s6 104 a1) fun u21 => (b2 (mX4_address a1 s6) fun x13 s12 => (b1 r11 fun a14 => (b1 (o_K s12 107 a14) fun u20 => (b2 (mX7_withAddress a14 x13 s12) fun r16 s15 => (b1 (o_K s15 111 h0) fun u19 => (b1 (mX11_readCame h0 r16 s15) fun s17 => (mX11_takeRest_193 h0 s17))))))))) else (if x3 = (100 : Int32) then (b1 (o_K s6 104 a1) fun u17 => (b2 (mX4_at a1 (9 : Int32) s6) fun x13 s12 => (b1 (o_K s12 111 h0) fun u16 => (b1 (mX11_interrogationCame h0 (x5 &&& (63 : Int32)) x13 s12) fun s14 => (mX11_takeRest_193 h0 s14))))) else (if x3 = (101 : Int32) then (b1 (o_K s6 104 a1) fun u18 => (b2 (mX4_at a1 (9 : Int32) s6) fun x14 s13 => (b1 (o_K s13 111 h0) fun u17 => (b1 (mX11_countersOrderCame h0 x14 s13) fun s15 => (mX11_takeRest_193 h0 s15))))) else (if x3 = (103 : Int32) then (b1 (o_K s6 104 a1) fun u19 => (b2 (mX4_number a1 (9 : Int32) (7 : Int32) s6) fun x15 s14 => (b1 (o_K s14 111 h0) fun u18 => (b1 (mX11_clockOrderCame h0 x15 s14) fun s16 => (mX11_takeRest_193 h0 s16))))) else (if x3 = (104 : Int32) then (b1 (o_K s6 104 a1) fun u18 => (b2 (mX4_number a1 (9 : Int32) (2 : Int32) s6) fun x16 s15 => (if (lg_cmp x16 (21930 : Int64)) = 0 then (mX11_takeRest_173 h0 (7 : Int32) (some h0) s15) else (mX11_takeRest_173 h0 (71 : Int32) (some h0) s15)))) else (b1 (o_K s6 104 a1) fun u23 => (b2 (mX4_address a1 s6) fun x16 s15 => (b1 (o_K s15 111 h0) fun u22 => (b2 (mX11_commandWith h0 x16 s15) fun r18 s17 => (b1 (o_K s17 111 h0) fun u21 => (b1 (mX11_commandCame h0 r18 (x5 &&& (63 : Int32)) s17) fun s19 => (mX11_takeRest_193 h0 s19)))))))))))) else (b1 (o_K s6 111 h0) fun u12 => (b2 (mX11_answerSame h0 (x7 ||| (64 : Int32)) s6) fun x11 s10 => (mX11_takeRest_193 h0 s10))))))))))))
set_option maxRecDepth 100000 in
set_option maxHeartbeats 4000000 in
theorem zX11_takeRest (E : eE) {h0 : Nat} {pr1 : Option Nat} {s0 s9 : eS} (h : mX11_takeRest h0 pr1 s0 = some s9) : EM E YX11_takeRest [VR (some h0), VR pr1] s0 none s9 := by
  refine EM_of (M := MX11_takeRest) (own := RX11) (ini := false) rfl (by decide +kernel) rfl (fun z => nomatch z) (Nat.le_of_ble_eq_true rfl) ?_
  unfold mX11_takeRest at h
  refine EV_aload_n dX11_takeRest_0 rfl ?_
  refine EV_iconst (x := (0 : Int32)) dX11_takeRest_1 (by decide) ?_
  have hh := b1_some h; clear h; obtain ⟨a1, ha1, h⟩ := hh
  subst ha1
  have hh := b1_some h; clear h; obtain ⟨u26, hu26, h⟩ := hh
  have hh := b2_some h; clear h; obtain ⟨x3, s2, hs2, h⟩ := hh
  refine EV_callV (Y := YX4_at) (as := [VI (0 : Int32)]) (st := []) (st2 := [VI x3]) (a := a1) (ci := 4) (r := rX4) (n := 1) dX11_takeRest_2 (zX4_at E hs2) rfl cwX4_at rfl tw_568 tw_569 tw_570 rfl (e_if hu26).1.1 (e_if hu26).1.2 ⟨by decide, by decide⟩ (Nat.le_of_ble_eq_true rfl) rfl ?_
  refine EV_istore_n (lv2 := [(2, VI x3), (0, VR (some h0)), (1, VR (some a1))]) dX11_takeRest_5 (by decide) rfl ?_
  refine EV_aload_n dX11_takeRest_6 rfl ?_
  refine EV_iconst (x := (2 : Int32)) dX11_takeRest_7 (by decide) ?_
  have hh := b1_some h; clear h; obtain ⟨u25, hu25, h⟩ := hh
  have hh := b2_some h; clear h; obtain ⟨x5, s4, hs4, h⟩ := hh
  refine EV_callV (Y := YX4_at) (as := [VI (2 : Int32)]) (st := []) (st2 := [VI x5]) (a := a1) (ci := 4) (r := rX4) (n := 1) dX11_takeRest_8 (zX4_at E hs4) rfl cwX4_at rfl tw_568 tw_569 tw_570 rfl (e_if hu25).1.1 (e_if hu25).1.2 ⟨by decide, by decide⟩ (Nat.le_of_ble_eq_true rfl) rfl ?_
  refine EV_bipush (x := (63 : Int32)) dX11_takeRest_11 (by decide) ?_
  refine EV_iand dX11_takeRest_13 ?_
  refine EV_istore_n (lv2 := [(3, VI (x5 &&& (63 : Int32))), (2, VI x3), (0, VR (some h0)), (1, VR (some a1))]) dX11_takeRest_14 (by decide) rfl ?_
  refine EV_aload_n dX11_takeRest_15 rfl ?_
  refine EV_aload_n dX11_takeRest_16 rfl ?_
  refine EV_iload_n dX11_takeRest_17 rfl ?_
  refine EV_iload_n dX11_takeRest_18 rfl ?_
  have hh := b1_some h; clear h; obtain ⟨u24, hu24, h⟩ := hh
  have hh := b2_some h; clear h; obtain ⟨x7, s6, hs6, h⟩ := hh
  refine EV_callV (Y := YX11_faultOf) (as := [VR (some a1), VI x3, VI (x5 &&& (63 : Int32))]) (st := []) (st2 := [VI x7]) (a := h0) (ci := 11) (r := rX11) (n := 3) dX11_takeRest_19 (zX11_faultOf E hs6) rfl cwX11_faultOf rfl tw_695 tw_697 tw_14 rfl (e_if hu24).1.1 (e_if hu24).1.2 ⟨by decide, by decide⟩ (Nat.le_of_ble_eq_true rfl) rfl ?_
  refine EV_istore (lv2 := [(4, VI x7), (3, VI (x5 &&& (63 : Int32))), (2, VI x3), (0, VR (some h0)), (1, VR (some a1))]) dX11_takeRest_22 (by decide) rfl ?_
  refine EV_iload dX11_takeRest_24 rfl ?_
  refine EV_iconst (x := (-1 : Int32)) dX11_takeRest_26 (by decide) ?_
  refine EV_icmp_ne (tgt := 43) dX11_takeRest_27 (by decide) (fun c8 => ?_) (fun c8 => ?_)
  · rw [if_pos c8] at h
    refine EV_aload_n dX11_takeRest_30 rfl ?_
    refine EV_dup dX11_takeRest_31 rfl ?_
    have hh := b1_some h; clear h; obtain ⟨x9, hx9, h⟩ := hh
    refine EV_getI (ci := 11) (k := 17) dX11_takeRest_32 fl_X11_261 rfl hx9 ?_
    refine EV_iconst (x := (1 : Int32)) dX11_takeRest_35 (by decide) ?_
    refine EV_iadd dX11_takeRest_36 ?_
    have hh := b1_some h; clear h; obtain ⟨s10, hs10, h⟩ := hh
    refine EV_putI (ci := 11) (k := 17) dX11_takeRest_37 fp_X11_261 rfl hs10 ?_
    refine EV_goto (tgt := 193) dX11_takeRest_40 (by decide) ?_
    exact EV_pick [3] rfl (zX11_takeRest_193 E h)
  · rw [if_neg c8] at h
    refine EV_iload dX11_takeRest_43 rfl ?_
    refine EV_if_eq (tgt := 61) dX11_takeRest_45 (by decide) (fun c9 => ?_) (fun c9 => ?_)
    · rw [if_pos c9] at h
      refine EV_iload_n dX11_takeRest_61 rfl ?_
      refine EV_bipush (x := (102 : Int32)) dX11_takeRest_62 (by decide) ?_
      refine EV_icmp_ne (tgt := 85) dX11_takeRest_64 (by decide) (fun c10 => ?_) (fun c10 => ?_)
      · rw [if_pos c10] at h
        refine EV_aload_n dX11_takeRest_67 rfl ?_
        refine EV_aload_n dX11_takeRest_68 rfl ?_
        have hh := b1_some h; clear h; obtain ⟨r11, hr11, h⟩ := hh
        refine EV_getP (ci := 11) (k := 1) dX11_takeRest_69 fl_X11_16 rfl hr11 ?_
        refine EV_aload_n dX11_takeRest_72 rfl ?_
        have hh := b1_some h; clear h; obtain ⟨u21, hu21, h⟩ := hh
        have hh := b2_some h; clear h; obtain ⟨x13, s12, hs12, h⟩ := hh
        refine EV_callV (Y := YX4_address) (as := []) (st := [VR r11, VR (some h0)]) (st2 := [VI x13, VR r11, VR (some h0)]) (a := a1) (ci := 4) (r := rX4) (n := 0) dX11_takeRest_73 (zX4_address E hs12) rfl cwX4_address rfl tw_711 tw_712 tw_713 rfl (e_if hu21).1.1 (e_if hu21).1.2 ⟨by decide, by decide⟩ (Nat.le_of_ble_eq_true rfl) rfl ?_
        have hh := b1_some h; clear h; obtain ⟨a14, ha14, h⟩ := hh
        subst ha14
        have hh := b1_some h; clear h; obtain ⟨u20, hu20, h⟩ := hh
        have hh := b2_some h; clear h; obtain ⟨r16, s15, hs15, h⟩ := hh
        refine EV_callV (Y := YX7_withAddress) (as := [VI x13]) (st := [VR (some h0)]) (st2 := [VR r16, VR (some h0)]) (a := a14) (ci := 7) (r := rX7) (n := 1) dX11_takeRest_76 (zX7_withAddress E hs15) rfl cwX7_withAddress rfl tw_398 tw_399 tw_400 rfl (e_if hu20).1.1 (e_if hu20).1.2 ⟨by decide, by decide⟩ (Nat.le_of_ble_eq_true rfl) rfl ?_
        have hh := b1_some h; clear h; obtain ⟨u19, hu19, h⟩ := hh
        have hh := b1_some h; clear h; obtain ⟨s17, hs17, h⟩ := hh
        refine EV_callV (Y := YX11_readCame) (as := [VR r16]) (st := []) (st2 := []) (a := h0) (ci := 11) (r := rX11) (n := 1) dX11_takeRest_79 (zX11_readCame E hs17) rfl cwX11_readCame rfl tw_748 tw_750 tw_17 rfl (e_if hu19).1.1 (e_if hu19).1.2 ⟨by decide, by decide⟩ (Nat.le_of_ble_eq_true rfl) rfl ?_
        refine EV_goto (tgt := 193) dX11_takeRest_82 (by decide) ?_
        exact EV_pick [3] rfl (zX11_takeRest_193 E h)
      · rw [if_neg c10] at h
        refine EV_iload_n dX11_takeRest_85 rfl ?_
        refine EV_bipush (x := (100 : Int32)) dX11_takeRest_86 (by decide) ?_
        refine EV_icmp_ne (tgt := 105) dX11_takeRest_88 (by decide) (fun c11 => ?_) (fun c11 => ?_)
        · rw [if_pos c11] at h
          refine EV_aload_n dX11_takeRest_91 rfl ?_
          refine EV_iload_n dX11_takeRest_92 rfl ?_
          refine EV_aload_n dX11_takeRest_93 rfl ?_
          refine EV_bipush (x := (9 : Int32)) dX11_takeRest_94 (by decide) ?_
          have hh := b1_some h; clear h; obtain ⟨u17, hu17, h⟩ := hh
          have hh := b2_some h; clear h; obtain ⟨x13, s12, hs12, h⟩ := hh
          refine EV_callV (Y := YX4_at) (as := [VI (9 : Int32)]) (st := [VI (x5 &&& (63 : Int32)), VR (some h0)]) (st2 := [VI x13, VI (x5 &&& (63 : Int32)), VR (some h0)]) (a := a1) (ci := 4) (r := rX4) (n := 1) dX11_takeRest_96 (zX4_at E hs12) rfl cwX4_at rfl tw_568 tw_569 tw_570 rfl (e_if hu17).1.1 (e_if hu17).1.2 ⟨by decide, by decide⟩ (Nat.le_of_ble_eq_true rfl) rfl ?_
          have hh := b1_some h; clear h; obtain ⟨u16, hu16, h⟩ := hh
          have hh := b1_some h; clear h; obtain ⟨s14, hs14, h⟩ := hh
          refine EV_callV (Y := YX11_interrogationCame) (as := [VI (x5 &&& (63 : Int32)), VI x13]) (st := []) (st2 := []) (a := h0) (ci := 11) (r := rX11) (n := 2) dX11_takeRest_99 (zX11_interrogationCame E hs14) rfl cwX11_interrogationCame rfl tw_769 tw_771 tw_19 rfl (e_if hu16).1.1 (e_if hu16).1.2 ⟨by decide, by decide⟩ (Nat.le_of_ble_eq_true rfl) rfl ?_
          refine EV_goto (tgt := 193) dX11_takeRest_102 (by decide) ?_
          exact EV_pick [3] rfl (zX11_takeRest_193 E h)
        · rw [if_neg c11] at h
          refine EV_iload_n dX11_takeRest_105 rfl ?_
          refine EV_bipush (x := (101 : Int32)) dX11_takeRest_106 (by decide) ?_
          refine EV_icmp_ne (tgt := 124) dX11_takeRest_108 (by decide) (fun c12 => ?_) (fun c12 => ?_)
          · rw [if_pos c12] at h
            refine EV_aload_n dX11_takeRest_111 rfl ?_
            refine EV_aload_n dX11_takeRest_112 rfl ?_
            refine EV_bipush (x := (9 : Int32)) dX11_takeRest_113 (by decide) ?_
            have hh := b1_some h; clear h; obtain ⟨u18, hu18, h⟩ := hh
            have hh := b2_some h; clear h; obtain ⟨x14, s13, hs13, h⟩ := hh
            refine EV_callV (Y := YX4_at) (as := [VI (9 : Int32)]) (st := [VR (some h0)]) (st2 := [VI x14, VR (some h0)]) (a := a1) (ci := 4) (r := rX4) (n := 1) dX11_takeRest_115 (zX4_at E hs13) rfl cwX4_at rfl tw_568 tw_569 tw_570 rfl (e_if hu18).1.1 (e_if hu18).1.2 ⟨by decide, by decide⟩ (Nat.le_of_ble_eq_true rfl) rfl ?_
            have hh := b1_some h; clear h; obtain ⟨u17, hu17, h⟩ := hh
            have hh := b1_some h; clear h; obtain ⟨s15, hs15, h⟩ := hh
            refine EV_callV (Y := YX11_countersOrderCame) (as := [VI x14]) (st := []) (st2 := []) (a := h0) (ci := 11) (r := rX11) (n := 1) dX11_takeRest_118 (zX11_countersOrderCame E hs15) rfl cwX11_countersOrderCame rfl tw_785 tw_787 tw_21 rfl (e_if hu17).1.1 (e_if hu17).1.2 ⟨by decide, by decide⟩ (Nat.le_of_ble_eq_true rfl) rfl ?_
            refine EV_goto (tgt := 193) dX11_takeRest_121 (by decide) ?_
            exact EV_pick [3] rfl (zX11_takeRest_193 E h)
          · rw [if_neg c12] at h
            refine EV_iload_n dX11_takeRest_124 rfl ?_
            refine EV_bipush (x := (103 : Int32)) dX11_takeRest_125 (by decide) ?_
            refine EV_icmp_ne (tgt := 145) dX11_takeRest_127 (by decide) (fun c13 => ?_) (fun c13 => ?_)
            · rw [if_pos c13] at h
              refine EV_aload_n dX11_takeRest_130 rfl ?_
              refine EV_aload_n dX11_takeRest_131 rfl ?_
              refine EV_bipush (x := (9 : Int32)) dX11_takeRest_132 (by decide) ?_
              refine EV_bipush (x := (7 : Int32)) dX11_takeRest_134 (by decide) ?_
              have hh := b1_some h; clear h; obtain ⟨u19, hu19, h⟩ := hh
              have hh := b2_some h; clear h; obtain ⟨x15, s14, hs14, h⟩ := hh
              refine EV_callV (Y := YX4_number) (as := [VI (9 : Int32), VI (7 : Int32)]) (st := [VR (some h0)]) (st2 := [VL x15, VR (some h0)]) (a := a1) (ci := 4) (r := rX4) (n := 2) dX11_takeRest_136 (zX4_number E hs14) rfl cwX4_number rfl tw_705 tw_706 tw_707 rfl (e_if hu19).1.1 (e_if hu19).1.2 ⟨by decide, by decide⟩ (Nat.le_of_ble_eq_true rfl) rfl ?_
              have hh := b1_some h; clear h; obtain ⟨u18, hu18, h⟩ := hh
              have hh := b1_some h; clear h; obtain ⟨s16, hs16, h⟩ := hh
              refine EV_callV (Y := YX11_clockOrderCame) (as := [VL x15]) (st := []) (st2 := []) (a := h0) (ci := 11) (r := rX11) (n := 1) dX11_takeRest_139 (zX11_clockOrderCame E hs16) rfl cwX11_clockOrderCame rfl tw_801 tw_803 tw_23 rfl (e_if hu18).1.1 (e_if hu18).1.2 ⟨by decide, by decide⟩ (Nat.le_of_ble_eq_true rfl) rfl ?_
              refine EV_goto (tgt := 193) dX11_takeRest_142 (by decide) ?_
              exact EV_pick [3] rfl (zX11_takeRest_193 E h)
            · rw [if_neg c13] at h
              refine EV_iload_n dX11_takeRest_145 rfl ?_
              refine EV_bipush (x := (104 : Int32)) dX11_takeRest_146 (by decide) ?_
              refine EV_icmp_ne (tgt := 180) dX11_takeRest_148 (by decide) (fun c14 => ?_) (fun c14 => ?_)
              · rw [if_pos c14] at h
                refine EV_aload_n dX11_takeRest_151 rfl ?_
                refine EV_aload_n dX11_takeRest_152 rfl ?_
                refine EV_bipush (x := (9 : Int32)) dX11_takeRest_153 (by decide) ?_
                refine EV_iconst (x := (2 : Int32)) dX11_takeRest_155 (by decide) ?_
                have hh := b1_some h; clear h; obtain ⟨u18, hu18, h⟩ := hh
                have hh := b2_some h; clear h; obtain ⟨x16, s15, hs15, h⟩ := hh
                refine EV_callV (Y := YX4_number) (as := [VI (9 : Int32), VI (2 : Int32)]) (st := [VR (some h0)]) (st2 := [VL x16, VR (some h0)]) (a := a1) (ci := 4) (r := rX4) (n := 2) dX11_takeRest_156 (zX4_number E hs15) rfl cwX4_number rfl tw_705 tw_706 tw_707 rfl (e_if hu18).1.1 (e_if hu18).1.2 ⟨by decide, by decide⟩ (Nat.le_of_ble_eq_true rfl) rfl ?_
                refine EV_ldc2 (x := (21930 : Int64)) dX11_takeRest_159 tw_823 ?_
                refine EV_lcmp dX11_takeRest_162 ?_
                refine EV_if_ne (tgt := 171) dX11_takeRest_163 (by decide) (fun c17 => ?_) (fun c17 => ?_)
                · rw [if_pos c17] at h
                  refine EV_bipush (x := (7 : Int32)) dX11_takeRest_166 (by decide) ?_
                  refine EV_goto (tgt := 173) dX11_takeRest_168 (by decide) ?_
                  exact EV_pick [3] rfl (zX11_takeRest_173 E h)
                · rw [if_neg c17] at h
                  refine EV_bipush (x := (71 : Int32)) dX11_takeRest_171 (by decide) ?_
                  exact EV_pick [3] rfl (zX11_takeRest_173 E h)
              · rw [if_neg c14] at h
                refine EV_aload_n dX11_takeRest_180 rfl ?_
                refine EV_aload_n dX11_takeRest_181 rfl ?_
                refine EV_aload_n dX11_takeRest_182 rfl ?_
                have hh := b1_some h; clear h; obtain ⟨u23, hu23, h⟩ := hh
                have hh := b2_some h; clear h; obtain ⟨x16, s15, hs15, h⟩ := hh
                refine EV_callV (Y := YX4_address) (as := []) (st := [VR (some h0), VR (some h0)]) (st2 := [VI x16, VR (some h0), VR (some h0)]) (a := a1) (ci := 4) (r := rX4) (n := 0) dX11_takeRest_183 (zX4_address E hs15) rfl cwX4_address rfl tw_711 tw_712 tw_713 rfl (e_if hu23).1.1 (e_if hu23).1.2 ⟨by decide, by decide⟩ (Nat.le_of_ble_eq_true rfl) rfl ?_
                have hh := b1_some h; clear h; obtain ⟨u22, hu22, h⟩ := hh
                have hh := b2_some h; clear h; obtain ⟨r18, s17, hs17, h⟩ := hh
                refine EV_callV (Y := YX11_commandWith) (as := [VI x16]) (st := [VR (some h0)]) (st2 := [VR r18, VR (some h0)]) (a := h0) (ci := 11) (r := rX11) (n := 1) dX11_takeRest_186 (zX11_commandWith E hs17) rfl cwX11_commandWith rfl tw_402 tw_404 tw_1 rfl (e_if hu22).1.1 (e_if hu22).1.2 ⟨by decide, by decide⟩ (Nat.le_of_ble_eq_true rfl) rfl ?_
                refine EV_iload_n dX11_takeRest_189 rfl ?_
                have hh := b1_some h; clear h; obtain ⟨u21, hu21, h⟩ := hh
                have hh := b1_some h; clear h; obtain ⟨s19, hs19, h⟩ := hh
                refine EV_callV (Y := YX11_commandCame) (as := [VR r18, VI (x5 &&& (63 : Int32))]) (st := []) (st2 := []) (a := h0) (ci := 11) (r := rX11) (n := 2) dX11_takeRest_190 (zX11_commandCame E hs19) rfl cwX11_commandCame rfl tw_824 tw_826 tw_24 rfl (e_if hu21).1.1 (e_if hu21).1.2 ⟨by decide, by decide⟩ (Nat.le_of_ble_eq_true rfl) rfl ?_
                exact EV_pick [3] rfl (zX11_takeRest_193 E h)
    · rw [if_neg c9] at h
      refine EV_aload_n dX11_takeRest_48 rfl ?_
      refine EV_iload dX11_takeRest_49 rfl ?_
      refine EV_bipush (x := (64 : Int32)) dX11_takeRest_51 (by decide) ?_
      refine EV_ior dX11_takeRest_53 ?_
      have hh := b1_some h; clear h; obtain ⟨u12, hu12, h⟩ := hh
      have hh := b2_some h; clear h; obtain ⟨x11, s10, hs10, h⟩ := hh
      refine EV_callV (Y := YX11_answerSame) (as := [VI (x7 ||| (64 : Int32))]) (st := []) (st2 := [VI x11]) (a := h0) (ci := 11) (r := rX11) (n := 1) dX11_takeRest_54 (zX11_answerSame E hs10) rfl cwX11_answerSame rfl tw_722 tw_724 tw_16 rfl (e_if hu12).1.1 (e_if hu12).1.2 ⟨by decide, by decide⟩ (Nat.le_of_ble_eq_true rfl) rfl ?_
      refine EV_pop dX11_takeRest_57 rfl ?_
      refine EV_goto (tgt := 193) dX11_takeRest_58 (by decide) ?_
      exact EV_pick [3] rfl (zX11_takeRest_193 E h)
def mX11_behindFrame_62 (s0 : eS) : Option eS :=
  (some s0)
set_option maxRecDepth 100000 in
set_option maxHeartbeats 4000000 in
theorem zX11_behindFrame_62 (E : eE) {s0 s9 : eS} (h : mX11_behindFrame_62 s0 = some s9) : EV E MX11_behindFrame 62 [] [] s0 none s9 := by
  unfold mX11_behindFrame_62 at h
  cases h
  exact EV_ret ⟨dX11_behindFrame_62, rfl⟩ rfl
def mX11_behindFrame_31 (h0 : Nat) (s0 : eS) : Option eS :=
  (b1 (o_K s0 111 h0) fun u15 => (b1 (mX11_sendWaiting h0 s0) fun s1 => (b1 (g_I s1 111 11 h0) fun x3 => (if x3 = 0 then (mX11_behindFrame_62 s1) else (b1 (g_P s1 111 8 h0) fun r5 => (b1 r5 fun a6 => (b1 (g_I s1 108 3 a6) fun x7 => (b1 (g_P s1 111 0 h0) fun r8 => (b1 r8 fun a9 => (b1 (a_I s1 0 a9 (2 : Int32)) fun x10 => (if x7 < x10 then (mX11_behindFrame_62 s1) else (b1 (o_K s1 111 h0) fun u14 => (b1 (mX11_sendAck h0 s1) fun s12 => (mX11_behindFrame_62 s12))))))))))))))
set_option maxRecDepth 100000 in
set_option maxHeartbeats 4000000 in
theorem zX11_behindFrame_31 (E : eE) {h0 : Nat} {s0 s9 : eS} (h : mX11_behindFrame_31 h0 s0 = some s9) : EV E MX11_behindFrame 31 [(0, VR (some h0))] [] s0 none s9 := by
  unfold mX11_behindFrame_31 at h
  refine EV_aload_n dX11_behindFrame_31 rfl ?_
  have hh := b1_some h; clear h; obtain ⟨u15, hu15, h⟩ := hh
  have hh := b1_some h; clear h; obtain ⟨s1, hs1, h⟩ := hh
  refine EV_callV (Y := YX11_sendWaiting) (as := []) (st := []) (st2 := []) (a := h0) (ci := 11) (r := rX11) (n := 0) dX11_behindFrame_32 (zX11_sendWaiting E hs1) rfl cwX11_sendWaiting rfl tw_520 tw_522 tw_2 rfl (e_if hu15).1.1 (e_if hu15).1.2 ⟨by decide, by decide⟩ (Nat.le_of_ble_eq_true rfl) rfl ?_
  refine EV_aload_n dX11_behindFrame_35 rfl ?_
  have hh := b1_some h; clear h; obtain ⟨x3, hx3, h⟩ := hh
  refine EV_getI (ci := 11) (k := 11) dX11_behindFrame_36 fl_X11_75 rfl hx3 ?_
  refine EV_if_eq (tgt := 62) dX11_behindFrame_39 (by decide) (fun c4 => ?_) (fun c4 => ?_)
  · rw [if_pos c4] at h
    exact EV_pick [] rfl (zX11_behindFrame_62 E h)
  · rw [if_neg c4] at h
    refine EV_aload_n dX11_behindFrame_42 rfl ?_
    have hh := b1_some h; clear h; obtain ⟨r5, hr5, h⟩ := hh
    refine EV_getP (ci := 11) (k := 8) dX11_behindFrame_43 fl_X11_57 rfl hr5 ?_
    have hh := b1_some h; clear h; obtain ⟨a6, ha6, h⟩ := hh
    subst ha6
    have hh := b1_some h; clear h; obtain ⟨x7, hx7, h⟩ := hh
    refine EV_getI (ci := 8) (k := 3) dX11_behindFrame_46 fl_X11_254 rfl hx7 ?_
    refine EV_aload_n dX11_behindFrame_49 rfl ?_
    have hh := b1_some h; clear h; obtain ⟨r8, hr8, h⟩ := hh
    refine EV_getP (ci := 11) (k := 0) dX11_behindFrame_50 fl_X11_7 rfl hr8 ?_
    refine EV_iconst (x := (2 : Int32)) dX11_behindFrame_53 (by decide) ?_
    have hh := b1_some h; clear h; obtain ⟨a9, ha9, h⟩ := hh
    subst ha9
    have hh := b1_some h; clear h; obtain ⟨x10, hx10, h⟩ := hh
    refine EV_aI (t := 0) (ty := .int) rfl (by decide) dX11_behindFrame_54 hx10 ?_
    refine EV_icmp_lt (tgt := 62) dX11_behindFrame_55 (by decide) (fun c11 => ?_) (fun c11 => ?_)
    · rw [if_pos c11] at h
      exact EV_pick [] rfl (zX11_behindFrame_62 E h)
    · rw [if_neg c11] at h
      refine EV_aload_n dX11_behindFrame_58 rfl ?_
      have hh := b1_some h; clear h; obtain ⟨u14, hu14, h⟩ := hh
      have hh := b1_some h; clear h; obtain ⟨s12, hs12, h⟩ := hh
      refine EV_callV (Y := YX11_sendAck) (as := []) (st := []) (st2 := []) (a := h0) (ci := 11) (r := rX11) (n := 0) dX11_behindFrame_59 (zX11_sendAck E hs12) rfl cwX11_sendAck rfl tw_687 tw_689 tw_12 rfl (e_if hu14).1.1 (e_if hu14).1.2 ⟨by decide, by decide⟩ (Nat.le_of_ble_eq_true rfl) rfl ?_
      exact EV_pick [] rfl (zX11_behindFrame_62 E h)
def mX11_behindFrame (h0 : Nat) (s0 : eS) : Option eS :=
  (b1 (g_I s0 111 11 h0) fun x1 => (if x1 = (3 : Int32) then (b1 (g_P s0 111 9 h0) fun r3 => (b1 r3 fun a4 => (b1 (g_I s0 110 3 a4) fun x5 => (if x5 = 0 then (b1 (p_I s0 111 11 h0 (1 : Int32)) fun s7 => (b1 (o_K s7 111 h0) fun u10 => (b2 (mX11_sendFrame h0 (35 : Int32) none s7) fun x9 s8 => (mX11_behindFrame_31 h0 s8)))) else (mX11_behindFrame_31 h0 s0))))) else (mX11_behindFrame_31 h0 s0)))
set_option maxRecDepth 100000 in
set_option maxHeartbeats 4000000 in
theorem zX11_behindFrame (E : eE) {h0 : Nat} {s0 s9 : eS} (h : mX11_behindFrame h0 s0 = some s9) : EM E YX11_behindFrame [VR (some h0)] s0 none s9 := by
  refine EM_of (M := MX11_behindFrame) (own := RX11) (ini := false) rfl (by decide +kernel) rfl (fun z => nomatch z) (Nat.le_of_ble_eq_true rfl) ?_
  unfold mX11_behindFrame at h
  refine EV_aload_n dX11_behindFrame_0 rfl ?_
  have hh := b1_some h; clear h; obtain ⟨x1, hx1, h⟩ := hh
  refine EV_getI (ci := 11) (k := 11) dX11_behindFrame_1 fl_X11_75 rfl hx1 ?_
  refine EV_iconst (x := (3 : Int32)) dX11_behindFrame_4 (by decide) ?_
  refine EV_icmp_ne (tgt := 31) dX11_behindFrame_5 (by decide) (fun c2 => ?_) (fun c2 => ?_)
  · rw [if_pos c2] at h
    refine EV_aload_n dX11_behindFrame_8 rfl ?_
    have hh := b1_some h; clear h; obtain ⟨r3, hr3, h⟩ := hh
    refine EV_getP (ci := 11) (k := 9) dX11_behindFrame_9 fl_X11_64 rfl hr3 ?_
    have hh := b1_some h; clear h; obtain ⟨a4, ha4, h⟩ := hh
    subst ha4
    have hh := b1_some h; clear h; obtain ⟨x5, hx5, h⟩ := hh
    refine EV_getI (ci := 10) (k := 3) dX11_behindFrame_12 fl_X11_248 rfl hx5 ?_
    refine EV_if_ne (tgt := 31) dX11_behindFrame_15 (by decide) (fun c6 => ?_) (fun c6 => ?_)
    · rw [if_pos c6] at h
      refine EV_aload_n dX11_behindFrame_18 rfl ?_
      refine EV_iconst (x := (1 : Int32)) dX11_behindFrame_19 (by decide) ?_
      have hh := b1_some h; clear h; obtain ⟨s7, hs7, h⟩ := hh
      refine EV_putI (ci := 11) (k := 11) dX11_behindFrame_20 fp_X11_75 rfl hs7 ?_
      refine EV_aload_n dX11_behindFrame_23 rfl ?_
      refine EV_bipush (x := (35 : Int32)) dX11_behindFrame_24 (by decide) ?_
      refine EV_null dX11_behindFrame_26 ?_
      have hh := b1_some h; clear h; obtain ⟨u10, hu10, h⟩ := hh
      have hh := b2_some h; clear h; obtain ⟨x9, s8, hs8, h⟩ := hh
      refine EV_callV (Y := YX11_sendFrame) (as := [VI (35 : Int32), VR none]) (st := []) (st2 := [VI x9]) (a := h0) (ci := 11) (r := rX11) (n := 2) dX11_behindFrame_27 (zX11_sendFrame E hs8) rfl cwX11_sendFrame rfl tw_536 tw_538 tw_4 rfl (e_if hu10).1.1 (e_if hu10).1.2 ⟨by decide, by decide⟩ (Nat.le_of_ble_eq_true rfl) rfl ?_
      refine EV_pop dX11_behindFrame_30 rfl ?_
      exact EV_pick [0] rfl (zX11_behindFrame_31 E h)
    · rw [if_neg c6] at h
      exact EV_pick [0] rfl (zX11_behindFrame_31 E h)
  · rw [if_neg c2] at h
    exact EV_pick [0] rfl (zX11_behindFrame_31 E h)
def mX11_come_11 (s0 : eS) : Option (Int32 × eS) :=
  (some ((-1 : Int32), s0))
set_option maxRecDepth 100000 in
set_option maxHeartbeats 4000000 in
theorem zX11_come_11 (E : eE) {s0 s9 : eS} {y : Int32} (h : mX11_come_11 s0 = some (y, s9)) : EV E MX11_come 11 [] [] s0 (some (VI y)) s9 := by
  unfold mX11_come_11 at h
  refine EV_iconst (x := (-1 : Int32)) dX11_come_11 (by decide) ?_
  cases h
  exact EV_ret ⟨dX11_come_12, .int, rfl, rfl⟩ rfl
def mX11_come_129 (pi4 : Int32) (s0 : eS) : Option (Int32 × eS) :=
  (some (pi4, s0))
set_option maxRecDepth 100000 in
set_option maxHeartbeats 4000000 in
theorem zX11_come_129 (E : eE) {pi4 : Int32} {s0 s9 : eS} {y : Int32} (h : mX11_come_129 pi4 s0 = some (y, s9)) : EV E MX11_come 129 [(4, VI pi4)] [] s0 (some (VI y)) s9 := by
  unfold mX11_come_129 at h
  refine EV_iload dX11_come_129 rfl ?_
  cases h
  exact EV_ret ⟨dX11_come_131, .int, rfl, rfl⟩ rfl
def mX11_come_123 (k31 : Nat → Int64 → Int32 → Int32 → eS → Option (Int32 × eS)) (h0 : Nat) (pl2 : Int64) (pi4 : Int32) (pi5 : Int32) (s0 : eS) : Option (Int32 × eS) :=
  (k31 h0 pl2 pi4 (pi5 + (-1 : Int32)) s0)
set_option maxRecDepth 100000 in
set_option maxHeartbeats 4000000 in
theorem zX11_come_123 (E : eE) {k31 : Nat → Int64 → Int32 → Int32 → eS → Option (Int32 × eS)} (hk31 : ∀ {h0 : Nat} {pl2 : Int64} {pi4 : Int32} {pi5 : Int32} {s0 s9 : eS} {y : Int32}, k31 h0 pl2 pi4 pi5 s0 = some (y, s9) → EV E MX11_come 31 [(0, VR (some h0)), (2, VL pl2), (4, VI pi4), (5, VI pi5)] [] s0 (some (VI y)) s9) {h0 : Nat} {pl2 : Int64} {pi4 : Int32} {pi5 : Int32} {s0 s9 : eS} {y : Int32} (h : mX11_come_123 k31 h0 pl2 pi4 pi5 s0 = some (y, s9)) : EV E MX11_come 123 [(0, VR (some h0)), (2, VL pl2), (4, VI pi4), (5, VI pi5)] [] s0 (some (VI y)) s9 := by
  unfold mX11_come_123 at h
  refine EV_iinc (y := (-1 : Int32)) (lv2 := [(5, VI (pi5 + (-1 : Int32))), (0, VR (some h0)), (2, VL pl2), (4, VI pi4)]) dX11_come_123 rfl (by decide) (by decide) rfl ?_
  refine EV_goto (tgt := 31) dX11_come_126 (by decide) ?_
  exact EV_pick [1, 2, 3, 0] rfl (hk31 h)
def mX11_come_120 (k31 : Nat → Int64 → Int32 → Int32 → eS → Option (Int32 × eS)) (h0 : Nat) (pl2 : Int64) (pi5 : Int32) (pt0 : Int32) (pt1 : Int32) (s0 : eS) : Option (Int32 × eS) :=
  (mX11_come_123 k31 h0 pl2 (pt1 + pt0) pi5 s0)
set_option maxRecDepth 100000 in
set_option maxHeartbeats 4000000 in
theorem zX11_come_120 (E : eE) {k31 : Nat → Int64 → Int32 → Int32 → eS → Option (Int32 × eS)} (hk31 : ∀ {h0 : Nat} {pl2 : Int64} {pi4 : Int32} {pi5 : Int32} {s0 s9 : eS} {y : Int32}, k31 h0 pl2 pi4 pi5 s0 = some (y, s9) → EV E MX11_come 31 [(0, VR (some h0)), (2, VL pl2), (4, VI pi4), (5, VI pi5)] [] s0 (some (VI y)) s9) {h0 : Nat} {pl2 : Int64} {pi5 : Int32} {pt0 : Int32} {pt1 : Int32} {s0 s9 : eS} {y : Int32} (h : mX11_come_120 k31 h0 pl2 pi5 pt0 pt1 s0 = some (y, s9)) : EV E MX11_come 120 [(0, VR (some h0)), (2, VL pl2), (5, VI pi5)] [VI pt0, VI pt1] s0 (some (VI y)) s9 := by
  unfold mX11_come_120 at h
  refine EV_iadd dX11_come_120 ?_
  refine EV_istore (lv2 := [(4, VI (pt1 + pt0)), (0, VR (some h0)), (2, VL pl2), (5, VI pi5)]) dX11_come_121 (by decide) rfl ?_
  exact EV_pick [1, 2, 0, 3] rfl (zX11_come_123 E hk31 h)
def mX11_come_102 (k31 : Nat → Int64 → Int32 → Int32 → eS → Option (Int32 × eS)) (h0 : Nat) (pl2 : Int64) (pi4 : Int32) (pi5 : Int32) (s0 : eS) : Option (Int32 × eS) :=
  (b1 (o_K s0 111 h0) fun u5 => (b1 (mX11_behindFrame h0 s0) fun s1 => (b1 (g_I s1 111 11 h0) fun x3 => (if x3 = 0 then (mX11_come_120 k31 h0 pl2 pi5 (0 : Int32) pi4 s1) else (mX11_come_120 k31 h0 pl2 pi5 (1 : Int32) pi4 s1)))))
set_option maxRecDepth 100000 in
set_option maxHeartbeats 4000000 in
theorem zX11_come_102 (E : eE) {k31 : Nat → Int64 → Int32 → Int32 → eS → Option (Int32 × eS)} (hk31 : ∀ {h0 : Nat} {pl2 : Int64} {pi4 : Int32} {pi5 : Int32} {s0 s9 : eS} {y : Int32}, k31 h0 pl2 pi4 pi5 s0 = some (y, s9) → EV E MX11_come 31 [(0, VR (some h0)), (2, VL pl2), (4, VI pi4), (5, VI pi5)] [] s0 (some (VI y)) s9) {h0 : Nat} {pl2 : Int64} {pi4 : Int32} {pi5 : Int32} {s0 s9 : eS} {y : Int32} (h : mX11_come_102 k31 h0 pl2 pi4 pi5 s0 = some (y, s9)) : EV E MX11_come 102 [(0, VR (some h0)), (2, VL pl2), (4, VI pi4), (5, VI pi5)] [] s0 (some (VI y)) s9 := by
  unfold mX11_come_102 at h
  refine EV_aload_n dX11_come_102 rfl ?_
  have hh := b1_some h; clear h; obtain ⟨u5, hu5, h⟩ := hh
  have hh := b1_some h; clear h; obtain ⟨s1, hs1, h⟩ := hh
  refine EV_callV (Y := YX11_behindFrame) (as := []) (st := []) (st2 := []) (a := h0) (ci := 11) (r := rX11) (n := 0) dX11_come_103 (zX11_behindFrame E hs1) rfl cwX11_behindFrame rfl tw_862 tw_864 tw_28 rfl (e_if hu5).1.1 (e_if hu5).1.2 ⟨by decide, by decide⟩ (Nat.le_of_ble_eq_true rfl) rfl ?_
  refine EV_iload dX11_come_106 rfl ?_
  refine EV_aload_n dX11_come_108 rfl ?_
  have hh := b1_some h; clear h; obtain ⟨x3, hx3, h⟩ := hh
  refine EV_getI (ci := 11) (k := 11) dX11_come_109 fl_X11_75 rfl hx3 ?_
  refine EV_if_ne (tgt := 119) dX11_come_112 (by decide) (fun c4 => ?_) (fun c4 => ?_)
  · rw [if_pos c4] at h
    refine EV_iconst (x := (0 : Int32)) dX11_come_115 (by decide) ?_
    refine EV_goto (tgt := 120) dX11_come_116 (by decide) ?_
    exact EV_pick [0, 1, 3] rfl (zX11_come_120 E hk31 h)
  · rw [if_neg c4] at h
    refine EV_iconst (x := (1 : Int32)) dX11_come_119 (by decide) ?_
    exact EV_pick [0, 1, 3] rfl (zX11_come_120 E hk31 h)
def mX11_come_31 : Nat → Nat → Int64 → Int32 → Int32 → eS → Option (Int32 × eS)
  | 0, _, _, _, _, _ => none
  | n + 1, h0, pl2, pi4, pi5, s0 =>
  (if pi5 < 0 then (mX11_come_129 pi4 s0) else (b1 (g_I s0 111 11 h0) fun x2 => (if x2 = 0 then (mX11_come_129 pi4 s0) else (b1 (g_P s0 111 8 h0) fun r4 => (b1 r4 fun a5 => (b1 (o_K s0 108 a5) fun u20 => (b2 (mX8_accept a5 ((((pl2 >>> (((8 : Int32) * pi5).toInt64 &&& 63))).toInt32) &&& (255 : Int32)) s0) fun x7 s6 => (if x7 = (1 : Int32) then (b1 (o_K s6 111 h0) fun u11 => (b1 (mX11_shut h0 (2 : Int32) s6) fun s9 => (mX11_come_123 (mX11_come_31 n) h0 pl2 pi4 pi5 s9))) else (if x7 = (2 : Int32) then (b1 (o_K s6 111 h0) fun u19 => (b2 (mX11_acceptFrame h0 s6) fun x11 s10 => (if x11 = 0 then (mX11_come_102 (mX11_come_31 n) h0 pl2 pi4 pi5 s10) else (b1 (g_P s10 111 8 h0) fun r13 => (b1 r13 fun a14 => (b1 (g_P s10 108 0 a14) fun r15 => (b1 (o_K s10 111 h0) fun u18 => (b1 (mX11_takeRest h0 r15 s10) fun s16 => (mX11_come_102 (mX11_come_31 n) h0 pl2 pi4 pi5 s16))))))))) else (mX11_come_123 (mX11_come_31 n) h0 pl2 pi4 pi5 s6))))))))))
set_option maxRecDepth 100000 in
set_option maxHeartbeats 4000000 in
theorem zX11_come_31 (E : eE) : ∀ (n : Nat) {h0 : Nat} {pl2 : Int64} {pi4 : Int32} {pi5 : Int32} {s0 s9 : eS} {y : Int32}, mX11_come_31 n h0 pl2 pi4 pi5 s0 = some (y, s9) → EV E MX11_come 31 [(0, VR (some h0)), (2, VL pl2), (4, VI pi4), (5, VI pi5)] [] s0 (some (VI y)) s9 := by
  intro n
  induction n with
  | zero =>
    intro h0 pl2 pi4 pi5 s0 s9 y h
    unfold mX11_come_31 at h
    cases h
  | succ n ih =>
    intro h0 pl2 pi4 pi5 s0 s9 y h
    unfold mX11_come_31 at h
    refine EV_iload dX11_come_31 rfl ?_
    refine EV_if_lt (tgt := 129) dX11_come_33 (by decide) (fun c1 => ?_) (fun c1 => ?_)
    · rw [if_pos c1] at h
      exact EV_pick [2] rfl (zX11_come_129 E h)
    · rw [if_neg c1] at h
      refine EV_aload_n dX11_come_36 rfl ?_
      have hh := b1_some h; clear h; obtain ⟨x2, hx2, h⟩ := hh
      refine EV_getI (ci := 11) (k := 11) dX11_come_37 fl_X11_75 rfl hx2 ?_
      refine EV_if_eq (tgt := 129) dX11_come_40 (by decide) (fun c3 => ?_) (fun c3 => ?_)
      · rw [if_pos c3] at h
        exact EV_pick [2] rfl (zX11_come_129 E h)
      · rw [if_neg c3] at h
        refine EV_aload_n dX11_come_43 rfl ?_
        have hh := b1_some h; clear h; obtain ⟨r4, hr4, h⟩ := hh
        refine EV_getP (ci := 11) (k := 8) dX11_come_44 fl_X11_57 rfl hr4 ?_
        refine EV_lload_n dX11_come_47 rfl ?_
        refine EV_bipush (x := (8 : Int32)) dX11_come_48 (by decide) ?_
        refine EV_iload dX11_come_50 rfl ?_
        refine EV_imul dX11_come_52 ?_
        refine EV_lshr dX11_come_53 ?_
        refine EV_l2i dX11_come_54 ?_
        refine EV_sipush (x := (255 : Int32)) dX11_come_55 (by decide) ?_
        refine EV_iand dX11_come_58 ?_
        have hh := b1_some h; clear h; obtain ⟨a5, ha5, h⟩ := hh
        subst ha5
        have hh := b1_some h; clear h; obtain ⟨u20, hu20, h⟩ := hh
        have hh := b2_some h; clear h; obtain ⟨x7, s6, hs6, h⟩ := hh
        refine EV_callV (Y := YX8_accept) (as := [VI ((((pl2 >>> (((8 : Int32) * pi5).toInt64 &&& 63))).toInt32) &&& (255 : Int32))]) (st := []) (st2 := [VI x7]) (a := a5) (ci := 8) (r := rX8) (n := 1) dX11_come_59 (zX8_accept E hs6) rfl cwX8_accept rfl tw_633 tw_634 tw_635 rfl (e_if hu20).1.1 (e_if hu20).1.2 ⟨by decide, by decide⟩ (Nat.le_of_ble_eq_true rfl) rfl ?_
        refine EV_istore (lv2 := [(6, VI x7), (0, VR (some h0)), (2, VL pl2), (4, VI pi4), (5, VI pi5)]) dX11_come_62 (by decide) rfl ?_
        refine EV_iload dX11_come_64 rfl ?_
        refine EV_iconst (x := (1 : Int32)) dX11_come_66 (by decide) ?_
        refine EV_icmp_ne (tgt := 78) dX11_come_67 (by decide) (fun c8 => ?_) (fun c8 => ?_)
        · rw [if_pos c8] at h
          refine EV_aload_n dX11_come_70 rfl ?_
          refine EV_iconst (x := (2 : Int32)) dX11_come_71 (by decide) ?_
          have hh := b1_some h; clear h; obtain ⟨u11, hu11, h⟩ := hh
          have hh := b1_some h; clear h; obtain ⟨s9, hs9, h⟩ := hh
          refine EV_callV (Y := YX11_shut) (as := [VI (2 : Int32)]) (st := []) (st2 := []) (a := h0) (ci := 11) (r := rX11) (n := 1) dX11_come_72 (zX11_shut E hs9) rfl cwX11_shut rfl tw_540 tw_542 tw_5 rfl (e_if hu11).1.1 (e_if hu11).1.2 ⟨by decide, by decide⟩ (Nat.le_of_ble_eq_true rfl) rfl ?_
          refine EV_goto (tgt := 123) dX11_come_75 (by decide) ?_
          exact EV_pick [1, 2, 3, 4] rfl (zX11_come_123 E (@ih) h)
        · rw [if_neg c8] at h
          refine EV_iload dX11_come_78 rfl ?_
          refine EV_iconst (x := (2 : Int32)) dX11_come_80 (by decide) ?_
          refine EV_icmp_ne (tgt := 123) dX11_come_81 (by decide) (fun c9 => ?_) (fun c9 => ?_)
          · rw [if_pos c9] at h
            refine EV_aload_n dX11_come_84 rfl ?_
            have hh := b1_some h; clear h; obtain ⟨u19, hu19, h⟩ := hh
            have hh := b2_some h; clear h; obtain ⟨x11, s10, hs10, h⟩ := hh
            refine EV_callV (Y := YX11_acceptFrame) (as := []) (st := []) (st2 := [VI x11]) (a := h0) (ci := 11) (r := rX11) (n := 0) dX11_come_85 (zX11_acceptFrame E hs10) rfl cwX11_acceptFrame rfl tw_643 tw_645 tw_7 rfl (e_if hu19).1.1 (e_if hu19).1.2 ⟨by decide, by decide⟩ (Nat.le_of_ble_eq_true rfl) rfl ?_
            refine EV_if_eq (tgt := 102) dX11_come_88 (by decide) (fun c12 => ?_) (fun c12 => ?_)
            · rw [if_pos c12] at h
              exact EV_pick [1, 2, 3, 4] rfl (zX11_come_102 E (@ih) h)
            · rw [if_neg c12] at h
              refine EV_aload_n dX11_come_91 rfl ?_
              refine EV_aload_n dX11_come_92 rfl ?_
              have hh := b1_some h; clear h; obtain ⟨r13, hr13, h⟩ := hh
              refine EV_getP (ci := 11) (k := 8) dX11_come_93 fl_X11_57 rfl hr13 ?_
              have hh := b1_some h; clear h; obtain ⟨a14, ha14, h⟩ := hh
              subst ha14
              have hh := b1_some h; clear h; obtain ⟨r15, hr15, h⟩ := hh
              refine EV_getP (ci := 8) (k := 0) dX11_come_96 fl_X11_173 rfl hr15 ?_
              have hh := b1_some h; clear h; obtain ⟨u18, hu18, h⟩ := hh
              have hh := b1_some h; clear h; obtain ⟨s16, hs16, h⟩ := hh
              refine EV_callV (Y := YX11_takeRest) (as := [VR r15]) (st := []) (st2 := []) (a := h0) (ci := 11) (r := rX11) (n := 1) dX11_come_99 (zX11_takeRest E hs16) rfl cwX11_takeRest rfl tw_691 tw_693 tw_13 rfl (e_if hu18).1.1 (e_if hu18).1.2 ⟨by decide, by decide⟩ (Nat.le_of_ble_eq_true rfl) rfl ?_
              exact EV_pick [1, 2, 3, 4] rfl (zX11_come_102 E (@ih) h)
          · rw [if_neg c9] at h
            exact EV_pick [1, 2, 3, 4] rfl (zX11_come_123 E (@ih) h)
def mX11_come (h0 : Nat) (pi1 : Int32) (pl2 : Int64) (s0 : eS) : Option (Int32 × eS) :=
  (if pi1 < (1 : Int32) then (mX11_come_11 s0) else (if pi1 ≤ (8 : Int32) then (b1 (g_I s0 111 11 h0) fun x3 => (if x3 = 0 then (some ((-2 : Int32), s0)) else (mX11_come_31 100000 h0 pl2 (0 : Int32) (pi1 - (1 : Int32)) s0))) else (mX11_come_11 s0)))
set_option maxRecDepth 100000 in
set_option maxHeartbeats 4000000 in
theorem zX11_come (E : eE) {h0 : Nat} {pi1 : Int32} {pl2 : Int64} {s0 s9 : eS} {y : Int32} (h : mX11_come h0 pi1 pl2 s0 = some (y, s9)) : EM E YX11_come [VR (some h0), VI pi1, VL pl2] s0 (some (VI y)) s9 := by
  refine EM_of (M := MX11_come) (own := RX11) (ini := false) rfl (by decide +kernel) rfl (fun z => nomatch z) (Nat.le_of_ble_eq_true rfl) ?_
  unfold mX11_come at h
  refine EV_iload_n dX11_come_0 rfl ?_
  refine EV_iconst (x := (1 : Int32)) dX11_come_1 (by decide) ?_
  refine EV_icmp_lt (tgt := 11) dX11_come_2 (by decide) (fun c1 => ?_) (fun c1 => ?_)
  · rw [if_pos c1] at h
    exact EV_pick [] rfl (zX11_come_11 E h)
  · rw [if_neg c1] at h
    refine EV_iload_n dX11_come_5 rfl ?_
    refine EV_bipush (x := (8 : Int32)) dX11_come_6 (by decide) ?_
    refine EV_icmp_le (tgt := 13) dX11_come_8 (by decide) (fun c2 => ?_) (fun c2 => ?_)
    · rw [if_pos c2] at h
      refine EV_aload_n dX11_come_13 rfl ?_
      have hh := b1_some h; clear h; obtain ⟨x3, hx3, h⟩ := hh
      refine EV_getI (ci := 11) (k := 11) dX11_come_14 fl_X11_75 rfl hx3 ?_
      refine EV_if_ne (tgt := 23) dX11_come_17 (by decide) (fun c4 => ?_) (fun c4 => ?_)
      · rw [if_pos c4] at h
        refine EV_bipush (x := (-2 : Int32)) dX11_come_20 (by decide) ?_
        cases h
        exact EV_ret ⟨dX11_come_22, .int, rfl, rfl⟩ rfl
      · rw [if_neg c4] at h
        refine EV_iconst (x := (0 : Int32)) dX11_come_23 (by decide) ?_
        refine EV_istore (lv2 := [(4, VI (0 : Int32)), (0, VR (some h0)), (1, VI pi1), (2, VL pl2)]) dX11_come_24 (by decide) rfl ?_
        refine EV_iload_n dX11_come_26 rfl ?_
        refine EV_iconst (x := (1 : Int32)) dX11_come_27 (by decide) ?_
        refine EV_isub dX11_come_28 ?_
        refine EV_istore (lv2 := [(5, VI (pi1 - (1 : Int32))), (4, VI (0 : Int32)), (0, VR (some h0)), (1, VI pi1), (2, VL pl2)]) dX11_come_29 (by decide) rfl ?_
        exact EV_pick [2, 4, 1, 0] rfl (zX11_come_31 E _ h)
    · rw [if_neg c2] at h
      exact EV_pick [] rfl (zX11_come_11 E h)
def mX11_isOver_15 (pt0 : Int32) (s0 : eS) : Option (Int32 × eS) :=
  (b1 (o_Z pt0) fun u1 => some (pt0, s0))
set_option maxRecDepth 100000 in
set_option maxHeartbeats 4000000 in
theorem zX11_isOver_15 (E : eE) {pt0 : Int32} {s0 s9 : eS} {y : Int32} (h : mX11_isOver_15 pt0 s0 = some (y, s9)) : EV E MX11_isOver 15 [] [VI pt0] s0 (some (VI y)) s9 := by
  unfold mX11_isOver_15 at h
  have hh := b1_some h; clear h; obtain ⟨u1, hu1, h⟩ := hh
  cases h
  exact EV_ret ⟨dX11_isOver_15, .boolean, rfl, o_Z_n hu1⟩ rfl
def mX11_isOver (h0 : Nat) (pi1 : Int32) (pi2 : Int32) (s0 : eS) : Option (Int32 × eS) :=
  (b1 (g_I s0 111 13 h0) fun x1 => (if (x1 - pi1) < pi2 then (mX11_isOver_15 (0 : Int32) s0) else (mX11_isOver_15 (1 : Int32) s0)))
set_option maxRecDepth 100000 in
set_option maxHeartbeats 4000000 in
theorem zX11_isOver (E : eE) {h0 : Nat} {pi1 : Int32} {pi2 : Int32} {s0 s9 : eS} {y : Int32} (h : mX11_isOver h0 pi1 pi2 s0 = some (y, s9)) : EM E YX11_isOver [VR (some h0), VI pi1, VI pi2] s0 (some (VI y)) s9 := by
  refine EM_of (M := MX11_isOver) (own := RX11) (ini := false) rfl (by decide +kernel) rfl (fun z => nomatch z) (Nat.le_of_ble_eq_true rfl) ?_
  unfold mX11_isOver at h
  refine EV_aload_n dX11_isOver_0 rfl ?_
  have hh := b1_some h; clear h; obtain ⟨x1, hx1, h⟩ := hh
  refine EV_getI (ci := 11) (k := 13) dX11_isOver_1 fl_X11_155 rfl hx1 ?_
  refine EV_iload_n dX11_isOver_4 rfl ?_
  refine EV_isub dX11_isOver_5 ?_
  refine EV_iload_n dX11_isOver_6 rfl ?_
  refine EV_icmp_lt (tgt := 14) dX11_isOver_7 (by decide) (fun c2 => ?_) (fun c2 => ?_)
  · rw [if_pos c2] at h
    refine EV_iconst (x := (0 : Int32)) dX11_isOver_14 (by decide) ?_
    exact EV_pick [] rfl (zX11_isOver_15 E h)
  · rw [if_neg c2] at h
    refine EV_iconst (x := (1 : Int32)) dX11_isOver_10 (by decide) ?_
    refine EV_goto (tgt := 15) dX11_isOver_11 (by decide) ?_
    exact EV_pick [] rfl (zX11_isOver_15 E h)
def mX11_sendTest_31 (s0 : eS) : Option eS :=
  (some s0)
set_option maxRecDepth 100000 in
set_option maxHeartbeats 4000000 in
theorem zX11_sendTest_31 (E : eE) {s0 s9 : eS} (h : mX11_sendTest_31 s0 = some s9) : EV E MX11_sendTest 31 [] [] s0 none s9 := by
  unfold mX11_sendTest_31 at h
  cases h
  exact EV_ret ⟨dX11_sendTest_31, rfl⟩ rfl
def mX11_sendTest (h0 : Nat) (s0 : eS) : Option eS :=
  (b1 (o_K s0 111 h0) fun u9 => (b2 (mX11_sendFrame h0 (67 : Int32) none s0) fun x2 s1 => (if x2 = 0 then (mX11_sendTest_31 s1) else (b1 (p_Z s1 111 16 h0 (1 : Int32)) fun s4 => (b1 (g_I s4 111 13 h0) fun x5 => (b1 (p_I s4 111 15 h0 x5) fun s6 => (b1 (g_I s6 111 13 h0) fun x7 => (b1 (p_I s6 111 14 h0 x7) fun s8 => (mX11_sendTest_31 s8)))))))))
set_option maxRecDepth 100000 in
set_option maxHeartbeats 4000000 in
theorem zX11_sendTest (E : eE) {h0 : Nat} {s0 s9 : eS} (h : mX11_sendTest h0 s0 = some s9) : EM E YX11_sendTest [VR (some h0)] s0 none s9 := by
  refine EM_of (M := MX11_sendTest) (own := RX11) (ini := false) rfl (by decide +kernel) rfl (fun z => nomatch z) (Nat.le_of_ble_eq_true rfl) ?_
  unfold mX11_sendTest at h
  refine EV_aload_n dX11_sendTest_0 rfl ?_
  refine EV_bipush (x := (67 : Int32)) dX11_sendTest_1 (by decide) ?_
  refine EV_null dX11_sendTest_3 ?_
  have hh := b1_some h; clear h; obtain ⟨u9, hu9, h⟩ := hh
  have hh := b2_some h; clear h; obtain ⟨x2, s1, hs1, h⟩ := hh
  refine EV_callV (Y := YX11_sendFrame) (as := [VI (67 : Int32), VR none]) (st := []) (st2 := [VI x2]) (a := h0) (ci := 11) (r := rX11) (n := 2) dX11_sendTest_4 (zX11_sendFrame E hs1) rfl cwX11_sendFrame rfl tw_536 tw_538 tw_4 rfl (e_if hu9).1.1 (e_if hu9).1.2 ⟨by decide, by decide⟩ (Nat.le_of_ble_eq_true rfl) rfl ?_
  refine EV_if_eq (tgt := 31) dX11_sendTest_7 (by decide) (fun c3 => ?_) (fun c3 => ?_)
  · rw [if_pos c3] at h
    exact EV_pick [] rfl (zX11_sendTest_31 E h)
  · rw [if_neg c3] at h
    refine EV_aload_n dX11_sendTest_10 rfl ?_
    refine EV_iconst (x := (1 : Int32)) dX11_sendTest_11 (by decide) ?_
    have hh := b1_some h; clear h; obtain ⟨s4, hs4, h⟩ := hh
    refine EV_putZ (ci := 11) (k := 16) dX11_sendTest_12 fp_X11_258 rfl hs4 ?_
    refine EV_aload_n dX11_sendTest_15 rfl ?_
    refine EV_aload_n dX11_sendTest_16 rfl ?_
    have hh := b1_some h; clear h; obtain ⟨x5, hx5, h⟩ := hh
    refine EV_getI (ci := 11) (k := 13) dX11_sendTest_17 fl_X11_155 rfl hx5 ?_
    have hh := b1_some h; clear h; obtain ⟨s6, hs6, h⟩ := hh
    refine EV_putI (ci := 11) (k := 15) dX11_sendTest_20 fp_X11_290 rfl hs6 ?_
    refine EV_aload_n dX11_sendTest_23 rfl ?_
    refine EV_aload_n dX11_sendTest_24 rfl ?_
    have hh := b1_some h; clear h; obtain ⟨x7, hx7, h⟩ := hh
    refine EV_getI (ci := 11) (k := 13) dX11_sendTest_25 fl_X11_155 rfl hx7 ?_
    have hh := b1_some h; clear h; obtain ⟨s8, hs8, h⟩ := hh
    refine EV_putI (ci := 11) (k := 14) dX11_sendTest_28 fp_X11_158 rfl hs8 ?_
    exact EV_pick [] rfl (zX11_sendTest_31 E h)
def mX11_runTimers_149 (h0 : Nat) (s0 : eS) : Option eS :=
  (b1 (g_P s0 111 4 h0) fun r1 => (b1 r1 fun a2 => (b1 (o_K s0 109 a2) fun u5 => (b1 (mX9_goOn a2 s0) fun s3 => (some s3)))))
set_option maxRecDepth 100000 in
set_option maxHeartbeats 4000000 in
theorem zX11_runTimers_149 (E : eE) {h0 : Nat} {s0 s9 : eS} (h : mX11_runTimers_149 h0 s0 = some s9) : EV E MX11_runTimers 149 [(0, VR (some h0))] [] s0 none s9 := by
  unfold mX11_runTimers_149 at h
  refine EV_aload_n dX11_runTimers_149 rfl ?_
  have hh := b1_some h; clear h; obtain ⟨r1, hr1, h⟩ := hh
  refine EV_getP (ci := 11) (k := 4) dX11_runTimers_150 fl_X11_29 rfl hr1 ?_
  have hh := b1_some h; clear h; obtain ⟨a2, ha2, h⟩ := hh
  subst ha2
  have hh := b1_some h; clear h; obtain ⟨u5, hu5, h⟩ := hh
  have hh := b1_some h; clear h; obtain ⟨s3, hs3, h⟩ := hh
  refine EV_callV (Y := YX9_goOn) (as := []) (st := []) (st2 := []) (a := a2) (ci := 9) (r := rX9) (n := 0) dX11_runTimers_153 (zX9_goOn E hs3) rfl cwX9_goOn rfl tw_891 tw_892 tw_893 rfl (e_if hu5).1.1 (e_if hu5).1.2 ⟨by decide, by decide⟩ (Nat.le_of_ble_eq_true rfl) rfl ?_
  cases h
  exact EV_ret ⟨dX11_runTimers_156, rfl⟩ rfl
def mX11_runTimers_114 (h0 : Nat) (s0 : eS) : Option eS :=
  (b1 (g_I s0 111 11 h0) fun x1 => (if x1 = 0 then (mX11_runTimers_149 h0 s0) else (b1 (g_I s0 111 16 h0) fun x3 => (if x3 = 0 then (b1 (g_I s0 111 14 h0) fun x5 => (b1 (g_P s0 111 0 h0) fun r6 => (b1 r6 fun a7 => (b1 (a_I s0 0 a7 (5 : Int32)) fun x8 => (b1 (o_K s0 111 h0) fun u15 => (b2 (mX11_isOver h0 x5 x8 s0) fun x10 s9 => (if x10 = 0 then (mX11_runTimers_149 h0 s9) else (b1 (o_K s9 111 h0) fun u14 => (b1 (mX11_sendTest h0 s9) fun s12 => (mX11_runTimers_149 h0 s12)))))))))) else (mX11_runTimers_149 h0 s0)))))
set_option maxRecDepth 100000 in
set_option maxHeartbeats 4000000 in
theorem zX11_runTimers_114 (E : eE) {h0 : Nat} {s0 s9 : eS} (h : mX11_runTimers_114 h0 s0 = some s9) : EV E MX11_runTimers 114 [(0, VR (some h0))] [] s0 none s9 := by
  unfold mX11_runTimers_114 at h
  refine EV_aload_n dX11_runTimers_114 rfl ?_
  have hh := b1_some h; clear h; obtain ⟨x1, hx1, h⟩ := hh
  refine EV_getI (ci := 11) (k := 11) dX11_runTimers_115 fl_X11_75 rfl hx1 ?_
  refine EV_if_eq (tgt := 149) dX11_runTimers_118 (by decide) (fun c2 => ?_) (fun c2 => ?_)
  · rw [if_pos c2] at h
    exact EV_pick [0] rfl (zX11_runTimers_149 E h)
  · rw [if_neg c2] at h
    refine EV_aload_n dX11_runTimers_121 rfl ?_
    have hh := b1_some h; clear h; obtain ⟨x3, hx3, h⟩ := hh
    refine EV_getI (ci := 11) (k := 16) dX11_runTimers_122 fl_X11_258 rfl hx3 ?_
    refine EV_if_ne (tgt := 149) dX11_runTimers_125 (by decide) (fun c4 => ?_) (fun c4 => ?_)
    · rw [if_pos c4] at h
      refine EV_aload_n dX11_runTimers_128 rfl ?_
      refine EV_aload_n dX11_runTimers_129 rfl ?_
      have hh := b1_some h; clear h; obtain ⟨x5, hx5, h⟩ := hh
      refine EV_getI (ci := 11) (k := 14) dX11_runTimers_130 fl_X11_158 rfl hx5 ?_
      refine EV_aload_n dX11_runTimers_133 rfl ?_
      have hh := b1_some h; clear h; obtain ⟨r6, hr6, h⟩ := hh
      refine EV_getP (ci := 11) (k := 0) dX11_runTimers_134 fl_X11_7 rfl hr6 ?_
      refine EV_iconst (x := (5 : Int32)) dX11_runTimers_137 (by decide) ?_
      have hh := b1_some h; clear h; obtain ⟨a7, ha7, h⟩ := hh
      subst ha7
      have hh := b1_some h; clear h; obtain ⟨x8, hx8, h⟩ := hh
      refine EV_aI (t := 0) (ty := .int) rfl (by decide) dX11_runTimers_138 hx8 ?_
      have hh := b1_some h; clear h; obtain ⟨u15, hu15, h⟩ := hh
      have hh := b2_some h; clear h; obtain ⟨x10, s9, hs9, h⟩ := hh
      refine EV_callV (Y := YX11_isOver) (as := [VI x5, VI x8]) (st := []) (st2 := [VI x10]) (a := h0) (ci := 11) (r := rX11) (n := 2) dX11_runTimers_139 (zX11_isOver E hs9) rfl cwX11_isOver rfl tw_883 tw_885 tw_30 rfl (e_if hu15).1.1 (e_if hu15).1.2 ⟨by decide, by decide⟩ (Nat.le_of_ble_eq_true rfl) rfl ?_
      refine EV_if_eq (tgt := 149) dX11_runTimers_142 (by decide) (fun c11 => ?_) (fun c11 => ?_)
      · rw [if_pos c11] at h
        exact EV_pick [0] rfl (zX11_runTimers_149 E h)
      · rw [if_neg c11] at h
        refine EV_aload_n dX11_runTimers_145 rfl ?_
        have hh := b1_some h; clear h; obtain ⟨u14, hu14, h⟩ := hh
        have hh := b1_some h; clear h; obtain ⟨s12, hs12, h⟩ := hh
        refine EV_callV (Y := YX11_sendTest) (as := []) (st := []) (st2 := []) (a := h0) (ci := 11) (r := rX11) (n := 0) dX11_runTimers_146 (zX11_sendTest E hs12) rfl cwX11_sendTest rfl tw_887 tw_889 tw_31 rfl (e_if hu14).1.1 (e_if hu14).1.2 ⟨by decide, by decide⟩ (Nat.le_of_ble_eq_true rfl) rfl ?_
        exact EV_pick [0] rfl (zX11_runTimers_149 E h)
    · rw [if_neg c4] at h
      exact EV_pick [0] rfl (zX11_runTimers_149 E h)
def mX11_runTimers_74 (h0 : Nat) (s0 : eS) : Option eS :=
  (b1 (o_K s0 111 h0) fun u3 => (b1 (mX11_shut h0 (4 : Int32) s0) fun s1 => (some s1)))
set_option maxRecDepth 100000 in
set_option maxHeartbeats 4000000 in
theorem zX11_runTimers_74 (E : eE) {h0 : Nat} {s0 s9 : eS} (h : mX11_runTimers_74 h0 s0 = some s9) : EV E MX11_runTimers 74 [(0, VR (some h0))] [] s0 none s9 := by
  unfold mX11_runTimers_74 at h
  refine EV_aload_n dX11_runTimers_74 rfl ?_
  refine EV_iconst (x := (4 : Int32)) dX11_runTimers_75 (by decide) ?_
  have hh := b1_some h; clear h; obtain ⟨u3, hu3, h⟩ := hh
  have hh := b1_some h; clear h; obtain ⟨s1, hs1, h⟩ := hh
  refine EV_callV (Y := YX11_shut) (as := [VI (4 : Int32)]) (st := []) (st2 := []) (a := h0) (ci := 11) (r := rX11) (n := 1) dX11_runTimers_76 (zX11_shut E hs1) rfl cwX11_shut rfl tw_540 tw_542 tw_5 rfl (e_if hu3).1.1 (e_if hu3).1.2 ⟨by decide, by decide⟩ (Nat.le_of_ble_eq_true rfl) rfl ?_
  cases h
  exact EV_ret ⟨dX11_runTimers_79, rfl⟩ rfl
def mX11_runTimers_65 (h0 : Nat) (pi1 : Int32) (pt0 : Int32) (s0 : eS) : Option eS :=
  (if pi1 = 0 then (if pt0 = 0 then (b1 (g_P s0 111 8 h0) fun r3 => (b1 r3 fun a4 => (b1 (g_I s0 108 3 a4) fun x5 => (if x5 ≤ 0 then (mX11_runTimers_114 h0 s0) else (b1 (g_P s0 111 8 h0) fun r7 => (b1 r7 fun a8 => (b1 (g_I s0 108 4 a8) fun x9 => (b1 (g_P s0 111 0 h0) fun r10 => (b1 r10 fun a11 => (b1 (a_I s0 0 a11 (4 : Int32)) fun x12 => (b1 (o_K s0 111 h0) fun u19 => (b2 (mX11_isOver h0 x9 x12 s0) fun x14 s13 => (if x14 = 0 then (mX11_runTimers_114 h0 s13) else (b1 (o_K s13 111 h0) fun u18 => (b1 (mX11_sendAck h0 s13) fun s16 => (mX11_runTimers_114 h0 s16)))))))))))))))) else (mX11_runTimers_74 h0 s0)) else (mX11_runTimers_74 h0 s0))
set_option maxRecDepth 100000 in
set_option maxHeartbeats 4000000 in
theorem zX11_runTimers_65 (E : eE) {h0 : Nat} {pi1 : Int32} {pt0 : Int32} {s0 s9 : eS} (h : mX11_runTimers_65 h0 pi1 pt0 s0 = some s9) : EV E MX11_runTimers 65 [(0, VR (some h0)), (1, VI pi1)] [VI pt0] s0 none s9 := by
  unfold mX11_runTimers_65 at h
  refine EV_istore_n (lv2 := [(2, VI pt0), (0, VR (some h0)), (1, VI pi1)]) dX11_runTimers_65 (by decide) rfl ?_
  refine EV_iload_n dX11_runTimers_66 rfl ?_
  refine EV_if_ne (tgt := 74) dX11_runTimers_67 (by decide) (fun c1 => ?_) (fun c1 => ?_)
  · rw [if_pos c1] at h
    refine EV_iload_n dX11_runTimers_70 rfl ?_
    refine EV_if_eq (tgt := 80) dX11_runTimers_71 (by decide) (fun c2 => ?_) (fun c2 => ?_)
    · rw [if_pos c2] at h
      refine EV_aload_n dX11_runTimers_80 rfl ?_
      have hh := b1_some h; clear h; obtain ⟨r3, hr3, h⟩ := hh
      refine EV_getP (ci := 11) (k := 8) dX11_runTimers_81 fl_X11_57 rfl hr3 ?_
      have hh := b1_some h; clear h; obtain ⟨a4, ha4, h⟩ := hh
      subst ha4
      have hh := b1_some h; clear h; obtain ⟨x5, hx5, h⟩ := hh
      refine EV_getI (ci := 8) (k := 3) dX11_runTimers_84 fl_X11_254 rfl hx5 ?_
      refine EV_if_le (tgt := 114) dX11_runTimers_87 (by decide) (fun c6 => ?_) (fun c6 => ?_)
      · rw [if_pos c6] at h
        exact EV_pick [1] rfl (zX11_runTimers_114 E h)
      · rw [if_neg c6] at h
        refine EV_aload_n dX11_runTimers_90 rfl ?_
        refine EV_aload_n dX11_runTimers_91 rfl ?_
        have hh := b1_some h; clear h; obtain ⟨r7, hr7, h⟩ := hh
        refine EV_getP (ci := 11) (k := 8) dX11_runTimers_92 fl_X11_57 rfl hr7 ?_
        have hh := b1_some h; clear h; obtain ⟨a8, ha8, h⟩ := hh
        subst ha8
        have hh := b1_some h; clear h; obtain ⟨x9, hx9, h⟩ := hh
        refine EV_getI (ci := 8) (k := 4) dX11_runTimers_95 fl_X11_293 rfl hx9 ?_
        refine EV_aload_n dX11_runTimers_98 rfl ?_
        have hh := b1_some h; clear h; obtain ⟨r10, hr10, h⟩ := hh
        refine EV_getP (ci := 11) (k := 0) dX11_runTimers_99 fl_X11_7 rfl hr10 ?_
        refine EV_iconst (x := (4 : Int32)) dX11_runTimers_102 (by decide) ?_
        have hh := b1_some h; clear h; obtain ⟨a11, ha11, h⟩ := hh
        subst ha11
        have hh := b1_some h; clear h; obtain ⟨x12, hx12, h⟩ := hh
        refine EV_aI (t := 0) (ty := .int) rfl (by decide) dX11_runTimers_103 hx12 ?_
        have hh := b1_some h; clear h; obtain ⟨u19, hu19, h⟩ := hh
        have hh := b2_some h; clear h; obtain ⟨x14, s13, hs13, h⟩ := hh
        refine EV_callV (Y := YX11_isOver) (as := [VI x9, VI x12]) (st := []) (st2 := [VI x14]) (a := h0) (ci := 11) (r := rX11) (n := 2) dX11_runTimers_104 (zX11_isOver E hs13) rfl cwX11_isOver rfl tw_883 tw_885 tw_30 rfl (e_if hu19).1.1 (e_if hu19).1.2 ⟨by decide, by decide⟩ (Nat.le_of_ble_eq_true rfl) rfl ?_
        refine EV_if_eq (tgt := 114) dX11_runTimers_107 (by decide) (fun c15 => ?_) (fun c15 => ?_)
        · rw [if_pos c15] at h
          exact EV_pick [1] rfl (zX11_runTimers_114 E h)
        · rw [if_neg c15] at h
          refine EV_aload_n dX11_runTimers_110 rfl ?_
          have hh := b1_some h; clear h; obtain ⟨u18, hu18, h⟩ := hh
          have hh := b1_some h; clear h; obtain ⟨s16, hs16, h⟩ := hh
          refine EV_callV (Y := YX11_sendAck) (as := []) (st := []) (st2 := []) (a := h0) (ci := 11) (r := rX11) (n := 0) dX11_runTimers_111 (zX11_sendAck E hs16) rfl cwX11_sendAck rfl tw_687 tw_689 tw_12 rfl (e_if hu18).1.1 (e_if hu18).1.2 ⟨by decide, by decide⟩ (Nat.le_of_ble_eq_true rfl) rfl ?_
          exact EV_pick [1] rfl (zX11_runTimers_114 E h)
    · rw [if_neg c2] at h
      exact EV_pick [1] rfl (zX11_runTimers_74 E h)
  · rw [if_neg c1] at h
    exact EV_pick [1] rfl (zX11_runTimers_74 E h)
def mX11_runTimers_64 (h0 : Nat) (pi1 : Int32) (s0 : eS) : Option eS :=
  (mX11_runTimers_65 h0 pi1 (0 : Int32) s0)
set_option maxRecDepth 100000 in
set_option maxHeartbeats 4000000 in
theorem zX11_runTimers_64 (E : eE) {h0 : Nat} {pi1 : Int32} {s0 s9 : eS} (h : mX11_runTimers_64 h0 pi1 s0 = some s9) : EV E MX11_runTimers 64 [(0, VR (some h0)), (1, VI pi1)] [] s0 none s9 := by
  unfold mX11_runTimers_64 at h
  refine EV_iconst (x := (0 : Int32)) dX11_runTimers_64 (by decide) ?_
  exact EV_pick [0, 1] rfl (zX11_runTimers_65 E h)
def mX11_runTimers_35 (h0 : Nat) (pt0 : Int32) (s0 : eS) : Option eS :=
  (b1 (g_I s0 111 16 h0) fun x1 => (if x1 = 0 then (mX11_runTimers_64 h0 pt0 s0) else (b1 (g_I s0 111 15 h0) fun x3 => (b1 (g_P s0 111 0 h0) fun r4 => (b1 r4 fun a5 => (b1 (a_I s0 0 a5 (3 : Int32)) fun x6 => (b1 (o_K s0 111 h0) fun u10 => (b2 (mX11_isOver h0 x3 x6 s0) fun x8 s7 => (if x8 = 0 then (mX11_runTimers_64 h0 pt0 s7) else (mX11_runTimers_65 h0 pt0 (1 : Int32) s7))))))))))
set_option maxRecDepth 100000 in
set_option maxHeartbeats 4000000 in
theorem zX11_runTimers_35 (E : eE) {h0 : Nat} {pt0 : Int32} {s0 s9 : eS} (h : mX11_runTimers_35 h0 pt0 s0 = some s9) : EV E MX11_runTimers 35 [(0, VR (some h0))] [VI pt0] s0 none s9 := by
  unfold mX11_runTimers_35 at h
  refine EV_istore_n (lv2 := [(1, VI pt0), (0, VR (some h0))]) dX11_runTimers_35 (by decide) rfl ?_
  refine EV_aload_n dX11_runTimers_36 rfl ?_
  have hh := b1_some h; clear h; obtain ⟨x1, hx1, h⟩ := hh
  refine EV_getI (ci := 11) (k := 16) dX11_runTimers_37 fl_X11_258 rfl hx1 ?_
  refine EV_if_eq (tgt := 64) dX11_runTimers_40 (by decide) (fun c2 => ?_) (fun c2 => ?_)
  · rw [if_pos c2] at h
    exact EV_pick [1, 0] rfl (zX11_runTimers_64 E h)
  · rw [if_neg c2] at h
    refine EV_aload_n dX11_runTimers_43 rfl ?_
    refine EV_aload_n dX11_runTimers_44 rfl ?_
    have hh := b1_some h; clear h; obtain ⟨x3, hx3, h⟩ := hh
    refine EV_getI (ci := 11) (k := 15) dX11_runTimers_45 fl_X11_290 rfl hx3 ?_
    refine EV_aload_n dX11_runTimers_48 rfl ?_
    have hh := b1_some h; clear h; obtain ⟨r4, hr4, h⟩ := hh
    refine EV_getP (ci := 11) (k := 0) dX11_runTimers_49 fl_X11_7 rfl hr4 ?_
    refine EV_iconst (x := (3 : Int32)) dX11_runTimers_52 (by decide) ?_
    have hh := b1_some h; clear h; obtain ⟨a5, ha5, h⟩ := hh
    subst ha5
    have hh := b1_some h; clear h; obtain ⟨x6, hx6, h⟩ := hh
    refine EV_aI (t := 0) (ty := .int) rfl (by decide) dX11_runTimers_53 hx6 ?_
    have hh := b1_some h; clear h; obtain ⟨u10, hu10, h⟩ := hh
    have hh := b2_some h; clear h; obtain ⟨x8, s7, hs7, h⟩ := hh
    refine EV_callV (Y := YX11_isOver) (as := [VI x3, VI x6]) (st := []) (st2 := [VI x8]) (a := h0) (ci := 11) (r := rX11) (n := 2) dX11_runTimers_54 (zX11_isOver E hs7) rfl cwX11_isOver rfl tw_883 tw_885 tw_30 rfl (e_if hu10).1.1 (e_if hu10).1.2 ⟨by decide, by decide⟩ (Nat.le_of_ble_eq_true rfl) rfl ?_
    refine EV_if_eq (tgt := 64) dX11_runTimers_57 (by decide) (fun c9 => ?_) (fun c9 => ?_)
    · rw [if_pos c9] at h
      exact EV_pick [1, 0] rfl (zX11_runTimers_64 E h)
    · rw [if_neg c9] at h
      refine EV_iconst (x := (1 : Int32)) dX11_runTimers_60 (by decide) ?_
      refine EV_goto (tgt := 65) dX11_runTimers_61 (by decide) ?_
      exact EV_pick [1, 0] rfl (zX11_runTimers_65 E h)
def mX11_runTimers_34 (h0 : Nat) (s0 : eS) : Option eS :=
  (mX11_runTimers_35 h0 (0 : Int32) s0)
set_option maxRecDepth 100000 in
set_option maxHeartbeats 4000000 in
theorem zX11_runTimers_34 (E : eE) {h0 : Nat} {s0 s9 : eS} (h : mX11_runTimers_34 h0 s0 = some s9) : EV E MX11_runTimers 34 [(0, VR (some h0))] [] s0 none s9 := by
  unfold mX11_runTimers_34 at h
  refine EV_iconst (x := (0 : Int32)) dX11_runTimers_34 (by decide) ?_
  exact EV_pick [0] rfl (zX11_runTimers_35 E h)
def mX11_runTimers (h0 : Nat) (s0 : eS) : Option eS :=
  (b1 (g_P s0 111 9 h0) fun r1 => (b1 r1 fun a2 => (b1 (g_I s0 110 3 a2) fun x3 => (if x3 ≤ 0 then (mX11_runTimers_34 h0 s0) else (b1 (g_P s0 111 9 h0) fun r5 => (b1 r5 fun a6 => (b1 (o_K s0 110 a6) fun u16 => (b2 (mX10_eldestAt a6 s0) fun x8 s7 => (b1 (g_P s7 111 0 h0) fun r9 => (b1 r9 fun a10 => (b1 (a_I s7 0 a10 (3 : Int32)) fun x11 => (b1 (o_K s7 111 h0) fun u15 => (b2 (mX11_isOver h0 x8 x11 s7) fun x13 s12 => (if x13 = 0 then (mX11_runTimers_34 h0 s12) else (mX11_runTimers_35 h0 (1 : Int32) s12)))))))))))))))
set_option maxRecDepth 100000 in
set_option maxHeartbeats 4000000 in
theorem zX11_runTimers (E : eE) {h0 : Nat} {s0 s9 : eS} (h : mX11_runTimers h0 s0 = some s9) : EM E YX11_runTimers [VR (some h0)] s0 none s9 := by
  refine EM_of (M := MX11_runTimers) (own := RX11) (ini := false) rfl (by decide +kernel) rfl (fun z => nomatch z) (Nat.le_of_ble_eq_true rfl) ?_
  unfold mX11_runTimers at h
  refine EV_aload_n dX11_runTimers_0 rfl ?_
  have hh := b1_some h; clear h; obtain ⟨r1, hr1, h⟩ := hh
  refine EV_getP (ci := 11) (k := 9) dX11_runTimers_1 fl_X11_64 rfl hr1 ?_
  have hh := b1_some h; clear h; obtain ⟨a2, ha2, h⟩ := hh
  subst ha2
  have hh := b1_some h; clear h; obtain ⟨x3, hx3, h⟩ := hh
  refine EV_getI (ci := 10) (k := 3) dX11_runTimers_4 fl_X11_248 rfl hx3 ?_
  refine EV_if_le (tgt := 34) dX11_runTimers_7 (by decide) (fun c4 => ?_) (fun c4 => ?_)
  · rw [if_pos c4] at h
    exact EV_pick [0] rfl (zX11_runTimers_34 E h)
  · rw [if_neg c4] at h
    refine EV_aload_n dX11_runTimers_10 rfl ?_
    refine EV_aload_n dX11_runTimers_11 rfl ?_
    have hh := b1_some h; clear h; obtain ⟨r5, hr5, h⟩ := hh
    refine EV_getP (ci := 11) (k := 9) dX11_runTimers_12 fl_X11_64 rfl hr5 ?_
    have hh := b1_some h; clear h; obtain ⟨a6, ha6, h⟩ := hh
    subst ha6
    have hh := b1_some h; clear h; obtain ⟨u16, hu16, h⟩ := hh
    have hh := b2_some h; clear h; obtain ⟨x8, s7, hs7, h⟩ := hh
    refine EV_callV (Y := YX10_eldestAt) (as := []) (st := [VR (some h0)]) (st2 := [VI x8, VR (some h0)]) (a := a6) (ci := 10) (r := rX10) (n := 0) dX11_runTimers_15 (zX10_eldestAt E hs7) rfl cwX10_eldestAt rfl tw_879 tw_880 tw_881 rfl (e_if hu16).1.1 (e_if hu16).1.2 ⟨by decide, by decide⟩ (Nat.le_of_ble_eq_true rfl) rfl ?_
    refine EV_aload_n dX11_runTimers_18 rfl ?_
    have hh := b1_some h; clear h; obtain ⟨r9, hr9, h⟩ := hh
    refine EV_getP (ci := 11) (k := 0) dX11_runTimers_19 fl_X11_7 rfl hr9 ?_
    refine EV_iconst (x := (3 : Int32)) dX11_runTimers_22 (by decide) ?_
    have hh := b1_some h; clear h; obtain ⟨a10, ha10, h⟩ := hh
    subst ha10
    have hh := b1_some h; clear h; obtain ⟨x11, hx11, h⟩ := hh
    refine EV_aI (t := 0) (ty := .int) rfl (by decide) dX11_runTimers_23 hx11 ?_
    have hh := b1_some h; clear h; obtain ⟨u15, hu15, h⟩ := hh
    have hh := b2_some h; clear h; obtain ⟨x13, s12, hs12, h⟩ := hh
    refine EV_callV (Y := YX11_isOver) (as := [VI x8, VI x11]) (st := []) (st2 := [VI x13]) (a := h0) (ci := 11) (r := rX11) (n := 2) dX11_runTimers_24 (zX11_isOver E hs12) rfl cwX11_isOver rfl tw_883 tw_885 tw_30 rfl (e_if hu15).1.1 (e_if hu15).1.2 ⟨by decide, by decide⟩ (Nat.le_of_ble_eq_true rfl) rfl ?_
    refine EV_if_eq (tgt := 34) dX11_runTimers_27 (by decide) (fun c14 => ?_) (fun c14 => ?_)
    · rw [if_pos c14] at h
      exact EV_pick [0] rfl (zX11_runTimers_34 E h)
    · rw [if_neg c14] at h
      refine EV_iconst (x := (1 : Int32)) dX11_runTimers_30 (by decide) ?_
      refine EV_goto (tgt := 35) dX11_runTimers_31 (by decide) ?_
      exact EV_pick [0] rfl (zX11_runTimers_35 E h)
def mX11_tick_11 (s0 : eS) : Option (Int32 × eS) :=
  (some ((-1 : Int32), s0))
set_option maxRecDepth 100000 in
set_option maxHeartbeats 4000000 in
theorem zX11_tick_11 (E : eE) {s0 s9 : eS} {y : Int32} (h : mX11_tick_11 s0 = some (y, s9)) : EV E MX11_tick 11 [] [] s0 (some (VI y)) s9 := by
  unfold mX11_tick_11 at h
  refine EV_iconst (x := (-1 : Int32)) dX11_tick_11 (by decide) ?_
  cases h
  exact EV_ret ⟨dX11_tick_12, .int, rfl, rfl⟩ rfl
def mX11_tick_52 (k15 : Nat → Int32 → Int32 → eS → Option (Int32 × eS)) (h0 : Nat) (pi1 : Int32) (pi2 : Int32) (s0 : eS) : Option (Int32 × eS) :=
  (k15 h0 pi1 (pi2 + (1 : Int32)) s0)
set_option maxRecDepth 100000 in
set_option maxHeartbeats 4000000 in
theorem zX11_tick_52 (E : eE) {k15 : Nat → Int32 → Int32 → eS → Option (Int32 × eS)} (hk15 : ∀ {h0 : Nat} {pi1 : Int32} {pi2 : Int32} {s0 s9 : eS} {y : Int32}, k15 h0 pi1 pi2 s0 = some (y, s9) → EV E MX11_tick 15 [(0, VR (some h0)), (1, VI pi1), (2, VI pi2)] [] s0 (some (VI y)) s9) {h0 : Nat} {pi1 : Int32} {pi2 : Int32} {s0 s9 : eS} {y : Int32} (h : mX11_tick_52 k15 h0 pi1 pi2 s0 = some (y, s9)) : EV E MX11_tick 52 [(0, VR (some h0)), (1, VI pi1), (2, VI pi2)] [] s0 (some (VI y)) s9 := by
  unfold mX11_tick_52 at h
  refine EV_iinc (y := (1 : Int32)) (lv2 := [(2, VI (pi2 + (1 : Int32))), (0, VR (some h0)), (1, VI pi1)]) dX11_tick_52 rfl (by decide) (by decide) rfl ?_
  refine EV_goto (tgt := 15) dX11_tick_55 (by decide) ?_
  exact EV_pick [1, 2, 0] rfl (hk15 h)
def mX11_tick_15 : Nat → Nat → Int32 → Int32 → eS → Option (Int32 × eS)
  | 0, _, _, _, _ => none
  | n + 1, h0, pi1, pi2, s0 =>
  (if pi1 ≤ pi2 then (b1 (g_I s0 111 11 h0) fun x2 => (some (x2, s0))) else (b1 (g_P s0 111 5 h0) fun r2 => (b1 r2 fun a3 => (b1 (o_K s0 101 a3) fun u16 => (b1 (mX1_goOn a3 s0) fun s4 => (b1 (g_I s4 111 13 h0) fun x6 => (b1 (p_I s4 111 13 h0 (x6 + (1 : Int32))) fun s7 => (b1 (g_I s7 111 11 h0) fun x8 => (if x8 = 0 then (mX11_tick_52 (mX11_tick_15 n) h0 pi1 pi2 s7) else (b1 (o_K s7 111 h0) fun u15 => (b1 (mX11_runTimers h0 s7) fun s10 => (b1 (o_K s10 111 h0) fun u14 => (b1 (mX11_sendWaiting h0 s10) fun s12 => (mX11_tick_52 (mX11_tick_15 n) h0 pi1 pi2 s12))))))))))))))
set_option maxRecDepth 100000 in
set_option maxHeartbeats 4000000 in
theorem zX11_tick_15 (E : eE) : ∀ (n : Nat) {h0 : Nat} {pi1 : Int32} {pi2 : Int32} {s0 s9 : eS} {y : Int32}, mX11_tick_15 n h0 pi1 pi2 s0 = some (y, s9) → EV E MX11_tick 15 [(0, VR (some h0)), (1, VI pi1), (2, VI pi2)] [] s0 (some (VI y)) s9 := by
  intro n
  induction n with
  | zero =>
    intro h0 pi1 pi2 s0 s9 y h
    unfold mX11_tick_15 at h
    cases h
  | succ n ih =>
    intro h0 pi1 pi2 s0 s9 y h
    unfold mX11_tick_15 at h
    refine EV_iload_n dX11_tick_15 rfl ?_
    refine EV_iload_n dX11_tick_16 rfl ?_
    refine EV_icmp_ge (tgt := 58) dX11_tick_17 (by decide) (fun c1 => ?_) (fun c1 => ?_)
    · rw [if_pos c1] at h
      refine EV_aload_n dX11_tick_58 rfl ?_
      have hh := b1_some h; clear h; obtain ⟨x2, hx2, h⟩ := hh
      refine EV_getI (ci := 11) (k := 11) dX11_tick_59 fl_X11_75 rfl hx2 ?_
      cases h
      exact EV_ret ⟨dX11_tick_62, .int, rfl, rfl⟩ rfl
    · rw [if_neg c1] at h
      refine EV_aload_n dX11_tick_20 rfl ?_
      have hh := b1_some h; clear h; obtain ⟨r2, hr2, h⟩ := hh
      refine EV_getP (ci := 11) (k := 5) dX11_tick_21 fl_X11_36 rfl hr2 ?_
      have hh := b1_some h; clear h; obtain ⟨a3, ha3, h⟩ := hh
      subst ha3
      have hh := b1_some h; clear h; obtain ⟨u16, hu16, h⟩ := hh
      have hh := b1_some h; clear h; obtain ⟨s4, hs4, h⟩ := hh
      refine EV_callV (Y := YX1_goOn) (as := []) (st := []) (st2 := []) (a := a3) (ci := 1) (r := rX1) (n := 0) dX11_tick_24 (zX1_goOn E hs4) rfl cwX1_goOn rfl tw_870 tw_871 tw_872 rfl (e_if hu16).1.1 (e_if hu16).1.2 ⟨by decide, by decide⟩ (Nat.le_of_ble_eq_true rfl) rfl ?_
      refine EV_aload_n dX11_tick_27 rfl ?_
      refine EV_dup dX11_tick_28 rfl ?_
      have hh := b1_some h; clear h; obtain ⟨x6, hx6, h⟩ := hh
      refine EV_getI (ci := 11) (k := 13) dX11_tick_29 fl_X11_155 rfl hx6 ?_
      refine EV_iconst (x := (1 : Int32)) dX11_tick_32 (by decide) ?_
      refine EV_iadd dX11_tick_33 ?_
      have hh := b1_some h; clear h; obtain ⟨s7, hs7, h⟩ := hh
      refine EV_putI (ci := 11) (k := 13) dX11_tick_34 fp_X11_155 rfl hs7 ?_
      refine EV_aload_n dX11_tick_37 rfl ?_
      have hh := b1_some h; clear h; obtain ⟨x8, hx8, h⟩ := hh
      refine EV_getI (ci := 11) (k := 11) dX11_tick_38 fl_X11_75 rfl hx8 ?_
      refine EV_if_eq (tgt := 52) dX11_tick_41 (by decide) (fun c9 => ?_) (fun c9 => ?_)
      · rw [if_pos c9] at h
        exact EV_pick [0, 1, 2] rfl (zX11_tick_52 E (@ih) h)
      · rw [if_neg c9] at h
        refine EV_aload_n dX11_tick_44 rfl ?_
        have hh := b1_some h; clear h; obtain ⟨u15, hu15, h⟩ := hh
        have hh := b1_some h; clear h; obtain ⟨s10, hs10, h⟩ := hh
        refine EV_callV (Y := YX11_runTimers) (as := []) (st := []) (st2 := []) (a := h0) (ci := 11) (r := rX11) (n := 0) dX11_tick_45 (zX11_runTimers E hs10) rfl cwX11_runTimers rfl tw_875 tw_877 tw_29 rfl (e_if hu15).1.1 (e_if hu15).1.2 ⟨by decide, by decide⟩ (Nat.le_of_ble_eq_true rfl) rfl ?_
        refine EV_aload_n dX11_tick_48 rfl ?_
        have hh := b1_some h; clear h; obtain ⟨u14, hu14, h⟩ := hh
        have hh := b1_some h; clear h; obtain ⟨s12, hs12, h⟩ := hh
        refine EV_callV (Y := YX11_sendWaiting) (as := []) (st := []) (st2 := []) (a := h0) (ci := 11) (r := rX11) (n := 0) dX11_tick_49 (zX11_sendWaiting E hs12) rfl cwX11_sendWaiting rfl tw_520 tw_522 tw_2 rfl (e_if hu14).1.1 (e_if hu14).1.2 ⟨by decide, by decide⟩ (Nat.le_of_ble_eq_true rfl) rfl ?_
        exact EV_pick [0, 1, 2] rfl (zX11_tick_52 E (@ih) h)
def mX11_tick (h0 : Nat) (pi1 : Int32) (s0 : eS) : Option (Int32 × eS) :=
  (if pi1 < 0 then (mX11_tick_11 s0) else (if pi1 ≤ (1000 : Int32) then (mX11_tick_15 100000 h0 pi1 (0 : Int32) s0) else (mX11_tick_11 s0)))
set_option maxRecDepth 100000 in
set_option maxHeartbeats 4000000 in
theorem zX11_tick (E : eE) {h0 : Nat} {pi1 : Int32} {s0 s9 : eS} {y : Int32} (h : mX11_tick h0 pi1 s0 = some (y, s9)) : EM E YX11_tick [VR (some h0), VI pi1] s0 (some (VI y)) s9 := by
  refine EM_of (M := MX11_tick) (own := RX11) (ini := false) rfl (by decide +kernel) rfl (fun z => nomatch z) (Nat.le_of_ble_eq_true rfl) ?_
  unfold mX11_tick at h
  refine EV_iload_n dX11_tick_0 rfl ?_
  refine EV_if_lt (tgt := 11) dX11_tick_1 (by decide) (fun c1 => ?_) (fun c1 => ?_)
  · rw [if_pos c1] at h
    exact EV_pick [] rfl (zX11_tick_11 E h)
  · rw [if_neg c1] at h
    refine EV_iload_n dX11_tick_4 rfl ?_
    refine EV_sipush (x := (1000 : Int32)) dX11_tick_5 (by decide) ?_
    refine EV_icmp_le (tgt := 13) dX11_tick_8 (by decide) (fun c2 => ?_) (fun c2 => ?_)
    · rw [if_pos c2] at h
      refine EV_iconst (x := (0 : Int32)) dX11_tick_13 (by decide) ?_
      refine EV_istore_n (lv2 := [(2, VI (0 : Int32)), (0, VR (some h0)), (1, VI pi1)]) dX11_tick_14 (by decide) rfl ?_
      exact EV_pick [1, 2, 0] rfl (zX11_tick_15 E _ h)
    · rw [if_neg c2] at h
      exact EV_pick [] rfl (zX11_tick_11 E h)
def mX11_out_15 (s0 : eS) : Option (Int32 × eS) :=
  (some ((-1 : Int32), s0))
set_option maxRecDepth 100000 in
set_option maxHeartbeats 4000000 in
theorem zX11_out_15 (E : eE) {s0 s9 : eS} {y : Int32} (h : mX11_out_15 s0 = some (y, s9)) : EV E MX11_out 15 [] [] s0 (some (VI y)) s9 := by
  unfold mX11_out_15 at h
  refine EV_iconst (x := (-1 : Int32)) dX11_out_15 (by decide) ?_
  cases h
  exact EV_ret ⟨dX11_out_16, .int, rfl, rfl⟩ rfl
def mX11_out (h0 : Nat) (pi1 : Int32) (s0 : eS) : Option (Int32 × eS) :=
  (if pi1 < 0 then (mX11_out_15 s0) else (b1 (g_P s0 111 10 h0) fun r2 => (b1 r2 fun a3 => (b1 (g_I s0 105 2 a3) fun x4 => (if pi1 < x4 then (b1 (g_P s0 111 10 h0) fun r6 => (b1 r6 fun a7 => (b1 (o_K s0 105 a7) fun u10 => (b2 (mX5_at a7 pi1 s0) fun x9 s8 => (some (x9, s8)))))) else (mX11_out_15 s0))))))
set_option maxRecDepth 100000 in
set_option maxHeartbeats 4000000 in
theorem zX11_out (E : eE) {h0 : Nat} {pi1 : Int32} {s0 s9 : eS} {y : Int32} (h : mX11_out h0 pi1 s0 = some (y, s9)) : EM E YX11_out [VR (some h0), VI pi1] s0 (some (VI y)) s9 := by
  refine EM_of (M := MX11_out) (own := RX11) (ini := false) rfl (by decide +kernel) rfl (fun z => nomatch z) (Nat.le_of_ble_eq_true rfl) ?_
  unfold mX11_out at h
  refine EV_iload_n dX11_out_0 rfl ?_
  refine EV_if_lt (tgt := 15) dX11_out_1 (by decide) (fun c1 => ?_) (fun c1 => ?_)
  · rw [if_pos c1] at h
    exact EV_pick [] rfl (zX11_out_15 E h)
  · rw [if_neg c1] at h
    refine EV_iload_n dX11_out_4 rfl ?_
    refine EV_aload_n dX11_out_5 rfl ?_
    have hh := b1_some h; clear h; obtain ⟨r2, hr2, h⟩ := hh
    refine EV_getP (ci := 11) (k := 10) dX11_out_6 fl_X11_71 rfl hr2 ?_
    have hh := b1_some h; clear h; obtain ⟨a3, ha3, h⟩ := hh
    subst ha3
    have hh := b1_some h; clear h; obtain ⟨x4, hx4, h⟩ := hh
    refine EV_getI (ci := 5) (k := 2) dX11_out_9 fl_X11_190 rfl hx4 ?_
    refine EV_icmp_lt (tgt := 17) dX11_out_12 (by decide) (fun c5 => ?_) (fun c5 => ?_)
    · rw [if_pos c5] at h
      refine EV_aload_n dX11_out_17 rfl ?_
      have hh := b1_some h; clear h; obtain ⟨r6, hr6, h⟩ := hh
      refine EV_getP (ci := 11) (k := 10) dX11_out_18 fl_X11_71 rfl hr6 ?_
      refine EV_iload_n dX11_out_21 rfl ?_
      have hh := b1_some h; clear h; obtain ⟨a7, ha7, h⟩ := hh
      subst ha7
      have hh := b1_some h; clear h; obtain ⟨u10, hu10, h⟩ := hh
      have hh := b2_some h; clear h; obtain ⟨x9, s8, hs8, h⟩ := hh
      refine EV_callV (Y := YX5_at) (as := [VI pi1]) (st := []) (st2 := [VI x9]) (a := a7) (ci := 5) (r := rX5) (n := 1) dX11_out_22 (zX5_at E hs8) rfl cwX5_at rfl tw_899 tw_900 tw_901 rfl (e_if hu10).1.1 (e_if hu10).1.2 ⟨by decide, by decide⟩ (Nat.le_of_ble_eq_true rfl) rfl ?_
      cases h
      exact EV_ret ⟨dX11_out_25, .int, rfl, rfl⟩ rfl
    · rw [if_neg c5] at h
      exact EV_pick [] rfl (zX11_out_15 E h)
def mX11_take_15 (s0 : eS) : Option (Int32 × eS) :=
  (some ((-1 : Int32), s0))
set_option maxRecDepth 100000 in
set_option maxHeartbeats 4000000 in
theorem zX11_take_15 (E : eE) {s0 s9 : eS} {y : Int32} (h : mX11_take_15 s0 = some (y, s9)) : EV E MX11_take 15 [] [] s0 (some (VI y)) s9 := by
  unfold mX11_take_15 at h
  refine EV_iconst (x := (-1 : Int32)) dX11_take_15 (by decide) ?_
  cases h
  exact EV_ret ⟨dX11_take_16, .int, rfl, rfl⟩ rfl
def mX11_take (h0 : Nat) (pi1 : Int32) (s0 : eS) : Option (Int32 × eS) :=
  (if pi1 < 0 then (mX11_take_15 s0) else (b1 (g_P s0 111 10 h0) fun r2 => (b1 r2 fun a3 => (b1 (g_I s0 105 2 a3) fun x4 => (if pi1 ≤ x4 then (b1 (g_P s0 111 10 h0) fun r6 => (b1 r6 fun a7 => (b1 (o_K s0 105 a7) fun u13 => (b1 (mX5_dropFirst a7 pi1 s0) fun s8 => (b1 (g_P s8 111 10 h0) fun r10 => (b1 r10 fun a11 => (b1 (g_I s8 105 2 a11) fun x12 => (some (x12, s8))))))))) else (mX11_take_15 s0))))))
set_option maxRecDepth 100000 in
set_option maxHeartbeats 4000000 in
theorem zX11_take (E : eE) {h0 : Nat} {pi1 : Int32} {s0 s9 : eS} {y : Int32} (h : mX11_take h0 pi1 s0 = some (y, s9)) : EM E YX11_take [VR (some h0), VI pi1] s0 (some (VI y)) s9 := by
  refine EM_of (M := MX11_take) (own := RX11) (ini := false) rfl (by decide +kernel) rfl (fun z => nomatch z) (Nat.le_of_ble_eq_true rfl) ?_
  unfold mX11_take at h
  refine EV_iload_n dX11_take_0 rfl ?_
  refine EV_if_lt (tgt := 15) dX11_take_1 (by decide) (fun c1 => ?_) (fun c1 => ?_)
  · rw [if_pos c1] at h
    exact EV_pick [] rfl (zX11_take_15 E h)
  · rw [if_neg c1] at h
    refine EV_iload_n dX11_take_4 rfl ?_
    refine EV_aload_n dX11_take_5 rfl ?_
    have hh := b1_some h; clear h; obtain ⟨r2, hr2, h⟩ := hh
    refine EV_getP (ci := 11) (k := 10) dX11_take_6 fl_X11_71 rfl hr2 ?_
    have hh := b1_some h; clear h; obtain ⟨a3, ha3, h⟩ := hh
    subst ha3
    have hh := b1_some h; clear h; obtain ⟨x4, hx4, h⟩ := hh
    refine EV_getI (ci := 5) (k := 2) dX11_take_9 fl_X11_190 rfl hx4 ?_
    refine EV_icmp_le (tgt := 17) dX11_take_12 (by decide) (fun c5 => ?_) (fun c5 => ?_)
    · rw [if_pos c5] at h
      refine EV_aload_n dX11_take_17 rfl ?_
      have hh := b1_some h; clear h; obtain ⟨r6, hr6, h⟩ := hh
      refine EV_getP (ci := 11) (k := 10) dX11_take_18 fl_X11_71 rfl hr6 ?_
      refine EV_iload_n dX11_take_21 rfl ?_
      have hh := b1_some h; clear h; obtain ⟨a7, ha7, h⟩ := hh
      subst ha7
      have hh := b1_some h; clear h; obtain ⟨u13, hu13, h⟩ := hh
      have hh := b1_some h; clear h; obtain ⟨s8, hs8, h⟩ := hh
      refine EV_callV (Y := YX5_dropFirst) (as := [VI pi1]) (st := []) (st2 := []) (a := a7) (ci := 5) (r := rX5) (n := 1) dX11_take_22 (zX5_dropFirst E hs8) rfl cwX5_dropFirst rfl tw_907 tw_908 tw_909 rfl (e_if hu13).1.1 (e_if hu13).1.2 ⟨by decide, by decide⟩ (Nat.le_of_ble_eq_true rfl) rfl ?_
      refine EV_aload_n dX11_take_25 rfl ?_
      have hh := b1_some h; clear h; obtain ⟨r10, hr10, h⟩ := hh
      refine EV_getP (ci := 11) (k := 10) dX11_take_26 fl_X11_71 rfl hr10 ?_
      have hh := b1_some h; clear h; obtain ⟨a11, ha11, h⟩ := hh
      subst ha11
      have hh := b1_some h; clear h; obtain ⟨x12, hx12, h⟩ := hh
      refine EV_getI (ci := 5) (k := 2) dX11_take_29 fl_X11_190 rfl hx12 ?_
      cases h
      exact EV_ret ⟨dX11_take_32, .int, rfl, rfl⟩ rfl
    · rw [if_neg c5] at h
      exact EV_pick [] rfl (zX11_take_15 E h)
def mX11_told_87 (pt0 : Int32) (s0 : eS) : Option (Int32 × eS) :=
  (some (pt0, s0))
set_option maxRecDepth 100000 in
set_option maxHeartbeats 4000000 in
theorem zX11_told_87 (E : eE) {pt0 : Int32} {s0 s9 : eS} {y : Int32} (h : mX11_told_87 pt0 s0 = some (y, s9)) : EV E MX11_told 87 [] [VI pt0] s0 (some (VI y)) s9 := by
  unfold mX11_told_87 at h
  cases h
  exact EV_ret ⟨dX11_told_87, .int, rfl, rfl⟩ rfl
def mX11_told (h0 : Nat) (pi1 : Int32) (pi2 : Int32) (s0 : eS) : Option (Int32 × eS) :=
  (b1 (g_P s0 111 1 h0) fun r1 => (b1 r1 fun a2 => (b1 (o_K s0 107 a2) fun u28 => (b2 (mX7_at a2 pi1 s0) fun r4 s3 => (if r4 = none then (some ((0 : Int32), s3)) else (if pi2 = (0 : Int32) then (b1 r4 fun a7 => (b1 (g_I s3 106 0 a7) fun x8 => (some (x8, s3)))) else (if pi2 = (1 : Int32) then (b1 r4 fun a10 => (b1 (g_I s3 106 1 a10) fun x11 => (some (x11, s3)))) else (if pi2 = (2 : Int32) then (b1 r4 fun a13 => (b1 (g_I s3 106 2 a13) fun x14 => (some (x14, s3)))) else (if pi2 = (3 : Int32) then (b1 r4 fun a16 => (b1 (g_I s3 106 3 a16) fun x17 => (if x17 = 0 then (mX11_told_87 (0 : Int32) s3) else (mX11_told_87 (1 : Int32) s3)))) else (if pi2 = (4 : Int32) then (b1 r4 fun a20 => (b1 (g_I s3 106 4 a20) fun x21 => (some (x21, s3)))) else (if pi2 = (5 : Int32) then (b1 r4 fun a23 => (b1 (g_I s3 106 5 a23) fun x24 => (some (x24, s3)))) else (if pi2 = (6 : Int32) then (b1 r4 fun a26 => (b1 (g_I s3 106 6 a26) fun x27 => (some (x27, s3)))) else (some ((0 : Int32), s3))))))))))))))
set_option maxRecDepth 100000 in
set_option maxHeartbeats 4000000 in
theorem zX11_told (E : eE) {h0 : Nat} {pi1 : Int32} {pi2 : Int32} {s0 s9 : eS} {y : Int32} (h : mX11_told h0 pi1 pi2 s0 = some (y, s9)) : EM E YX11_told [VR (some h0), VI pi1, VI pi2] s0 (some (VI y)) s9 := by
  refine EM_of (M := MX11_told) (own := RX11) (ini := false) rfl (by decide +kernel) rfl (fun z => nomatch z) (Nat.le_of_ble_eq_true rfl) ?_
  unfold mX11_told at h
  refine EV_aload_n dX11_told_0 rfl ?_
  have hh := b1_some h; clear h; obtain ⟨r1, hr1, h⟩ := hh
  refine EV_getP (ci := 11) (k := 1) dX11_told_1 fl_X11_16 rfl hr1 ?_
  refine EV_iload_n dX11_told_4 rfl ?_
  have hh := b1_some h; clear h; obtain ⟨a2, ha2, h⟩ := hh
  subst ha2
  have hh := b1_some h; clear h; obtain ⟨u28, hu28, h⟩ := hh
  have hh := b2_some h; clear h; obtain ⟨r4, s3, hs3, h⟩ := hh
  refine EV_callV (Y := YX7_at) (as := [VI pi1]) (st := []) (st2 := [VR r4]) (a := a2) (ci := 7) (r := rX7) (n := 1) dX11_told_5 (zX7_at E hs3) rfl cwX7_at rfl tw_453 tw_454 tw_455 rfl (e_if hu28).1.1 (e_if hu28).1.2 ⟨by decide, by decide⟩ (Nat.le_of_ble_eq_true rfl) rfl ?_
  refine EV_astore_n (lv2 := [(3, VR r4), (0, VR (some h0)), (1, VI pi1), (2, VI pi2)]) dX11_told_8 (by decide) rfl ?_
  refine EV_aload_n dX11_told_9 rfl ?_
  refine EV_ifnonnull (tgt := 15) dX11_told_10 (by decide) (fun c5 => ?_) (fun c5 => ?_)
  · rw [if_pos c5] at h
    refine EV_iconst (x := (0 : Int32)) dX11_told_13 (by decide) ?_
    cases h
    exact EV_ret ⟨dX11_told_14, .int, rfl, rfl⟩ rfl
  · rw [if_neg c5] at h
    refine EV_iload_n dX11_told_15 rfl ?_
    by_cases c6 : pi2 = (0 : Int32)
    · rw [if_pos c6] at h
      refine EV_table (tgt := 60) dX11_told_16 (Or.inr ⟨by rw [c6]; decide, by rw [c6]; decide, 44, by rw [c6]; decide, by decide⟩) ?_
      refine EV_aload_n dX11_told_60 rfl ?_
      have hh := b1_some h; clear h; obtain ⟨a7, ha7, h⟩ := hh
      subst ha7
      have hh := b1_some h; clear h; obtain ⟨x8, hx8, h⟩ := hh
      refine EV_getI (ci := 6) (k := 0) dX11_told_61 fl_X11_105 rfl hx8 ?_
      cases h
      exact EV_ret ⟨dX11_told_64, .int, rfl, rfl⟩ rfl
    · rw [if_neg c6] at h
      by_cases c9 : pi2 = (1 : Int32)
      · rw [if_pos c9] at h
        refine EV_table (tgt := 65) dX11_told_16 (Or.inr ⟨by rw [c9]; decide, by rw [c9]; decide, 49, by rw [c9]; decide, by decide⟩) ?_
        refine EV_aload_n dX11_told_65 rfl ?_
        have hh := b1_some h; clear h; obtain ⟨a10, ha10, h⟩ := hh
        subst ha10
        have hh := b1_some h; clear h; obtain ⟨x11, hx11, h⟩ := hh
        refine EV_getI (ci := 6) (k := 1) dX11_told_66 fl_X11_198 rfl hx11 ?_
        cases h
        exact EV_ret ⟨dX11_told_69, .int, rfl, rfl⟩ rfl
      · rw [if_neg c9] at h
        by_cases c12 : pi2 = (2 : Int32)
        · rw [if_pos c12] at h
          refine EV_table (tgt := 70) dX11_told_16 (Or.inr ⟨by rw [c12]; decide, by rw [c12]; decide, 54, by rw [c12]; decide, by decide⟩) ?_
          refine EV_aload_n dX11_told_70 rfl ?_
          have hh := b1_some h; clear h; obtain ⟨a13, ha13, h⟩ := hh
          subst ha13
          have hh := b1_some h; clear h; obtain ⟨x14, hx14, h⟩ := hh
          refine EV_getI (ci := 6) (k := 2) dX11_told_71 fl_X11_201 rfl hx14 ?_
          cases h
          exact EV_ret ⟨dX11_told_74, .int, rfl, rfl⟩ rfl
        · rw [if_neg c12] at h
          by_cases c15 : pi2 = (3 : Int32)
          · rw [if_pos c15] at h
            refine EV_table (tgt := 75) dX11_told_16 (Or.inr ⟨by rw [c15]; decide, by rw [c15]; decide, 59, by rw [c15]; decide, by decide⟩) ?_
            refine EV_aload_n dX11_told_75 rfl ?_
            have hh := b1_some h; clear h; obtain ⟨a16, ha16, h⟩ := hh
            subst ha16
            have hh := b1_some h; clear h; obtain ⟨x17, hx17, h⟩ := hh
            refine EV_getI (ci := 6) (k := 3) dX11_told_76 fl_X11_204 rfl hx17 ?_
            refine EV_if_eq (tgt := 86) dX11_told_79 (by decide) (fun c18 => ?_) (fun c18 => ?_)
            · rw [if_pos c18] at h
              refine EV_iconst (x := (0 : Int32)) dX11_told_86 (by decide) ?_
              exact EV_pick [] rfl (zX11_told_87 E h)
            · rw [if_neg c18] at h
              refine EV_iconst (x := (1 : Int32)) dX11_told_82 (by decide) ?_
              refine EV_goto (tgt := 87) dX11_told_83 (by decide) ?_
              exact EV_pick [] rfl (zX11_told_87 E h)
          · rw [if_neg c15] at h
            by_cases c19 : pi2 = (4 : Int32)
            · rw [if_pos c19] at h
              refine EV_table (tgt := 88) dX11_told_16 (Or.inr ⟨by rw [c19]; decide, by rw [c19]; decide, 72, by rw [c19]; decide, by decide⟩) ?_
              refine EV_aload_n dX11_told_88 rfl ?_
              have hh := b1_some h; clear h; obtain ⟨a20, ha20, h⟩ := hh
              subst ha20
              have hh := b1_some h; clear h; obtain ⟨x21, hx21, h⟩ := hh
              refine EV_getI (ci := 6) (k := 4) dX11_told_89 fl_X11_121 rfl hx21 ?_
              cases h
              exact EV_ret ⟨dX11_told_92, .int, rfl, rfl⟩ rfl
            · rw [if_neg c19] at h
              by_cases c22 : pi2 = (5 : Int32)
              · rw [if_pos c22] at h
                refine EV_table (tgt := 93) dX11_told_16 (Or.inr ⟨by rw [c22]; decide, by rw [c22]; decide, 77, by rw [c22]; decide, by decide⟩) ?_
                refine EV_aload_n dX11_told_93 rfl ?_
                have hh := b1_some h; clear h; obtain ⟨a23, ha23, h⟩ := hh
                subst ha23
                have hh := b1_some h; clear h; obtain ⟨x24, hx24, h⟩ := hh
                refine EV_getI (ci := 6) (k := 5) dX11_told_94 fl_X11_124 rfl hx24 ?_
                cases h
                exact EV_ret ⟨dX11_told_97, .int, rfl, rfl⟩ rfl
              · rw [if_neg c22] at h
                by_cases c25 : pi2 = (6 : Int32)
                · rw [if_pos c25] at h
                  refine EV_table (tgt := 98) dX11_told_16 (Or.inr ⟨by rw [c25]; decide, by rw [c25]; decide, 82, by rw [c25]; decide, by decide⟩) ?_
                  refine EV_aload_n dX11_told_98 rfl ?_
                  have hh := b1_some h; clear h; obtain ⟨a26, ha26, h⟩ := hh
                  subst ha26
                  have hh := b1_some h; clear h; obtain ⟨x27, hx27, h⟩ := hh
                  refine EV_getI (ci := 6) (k := 6) dX11_told_99 fl_X11_208 rfl hx27 ?_
                  cases h
                  exact EV_ret ⟨dX11_told_102, .int, rfl, rfl⟩ rfl
                · rw [if_neg c25] at h
                  have nc6 := lv_neT (a := 0) c6 (by decide)
                  have nc9 := lv_neT (a := 1) c9 (by decide)
                  have nc12 := lv_neT (a := 2) c12 (by decide)
                  have nc15 := lv_neT (a := 3) c15 (by decide)
                  have nc19 := lv_neT (a := 4) c19 (by decide)
                  have nc22 := lv_neT (a := 5) c22 (by decide)
                  have nc25 := lv_neT (a := 6) c25 (by decide)
                  refine EV_table (tgt := 103) dX11_told_16 (Or.inl ⟨by omega, by decide⟩) ?_
                  refine EV_iconst (x := (0 : Int32)) dX11_told_103 (by decide) ?_
                  cases h
                  exact EV_ret ⟨dX11_told_104, .int, rfl, rfl⟩ rfl
def mX11_ordered_18 (s0 : eS) : Option (Int32 × eS) :=
  (some ((-1 : Int32), s0))
set_option maxRecDepth 100000 in
set_option maxHeartbeats 4000000 in
theorem zX11_ordered_18 (E : eE) {s0 s9 : eS} {y : Int32} (h : mX11_ordered_18 s0 = some (y, s9)) : EV E MX11_ordered 18 [] [] s0 (some (VI y)) s9 := by
  unfold mX11_ordered_18 at h
  refine EV_iconst (x := (-1 : Int32)) dX11_ordered_18 (by decide) ?_
  cases h
  exact EV_ret ⟨dX11_ordered_19, .int, rfl, rfl⟩ rfl
def mX11_ordered_82 (pt0 : Int32) (s0 : eS) : Option (Int32 × eS) :=
  (some (pt0, s0))
set_option maxRecDepth 100000 in
set_option maxHeartbeats 4000000 in
theorem zX11_ordered_82 (E : eE) {pt0 : Int32} {s0 s9 : eS} {y : Int32} (h : mX11_ordered_82 pt0 s0 = some (y, s9)) : EV E MX11_ordered 82 [] [VI pt0] s0 (some (VI y)) s9 := by
  unfold mX11_ordered_82 at h
  cases h
  exact EV_ret ⟨dX11_ordered_82, .int, rfl, rfl⟩ rfl
def mX11_ordered_99 (pt0 : Int32) (s0 : eS) : Option (Int32 × eS) :=
  (some (pt0, s0))
set_option maxRecDepth 100000 in
set_option maxHeartbeats 4000000 in
theorem zX11_ordered_99 (E : eE) {pt0 : Int32} {s0 s9 : eS} {y : Int32} (h : mX11_ordered_99 pt0 s0 = some (y, s9)) : EV E MX11_ordered 99 [] [VI pt0] s0 (some (VI y)) s9 := by
  unfold mX11_ordered_99 at h
  cases h
  exact EV_ret ⟨dX11_ordered_99, .int, rfl, rfl⟩ rfl
def mX11_ordered (h0 : Nat) (pi1 : Int32) (pi2 : Int32) (s0 : eS) : Option (Int32 × eS) :=
  (if pi1 < 0 then (mX11_ordered_18 s0) else (b1 (g_I s0 111 3 h0) fun x2 => (if x2 ≤ pi1 then (mX11_ordered_18 s0) else (if pi1 < (12 : Int32) then (b1 (g_P s0 111 2 h0) fun r5 => (b1 r5 fun a6 => (b1 (a_P s0 5 a6 pi1) fun r7 => (if r7 = none then (some ((-1 : Int32), s0)) else (b1 (g_P s0 111 4 h0) fun r9 => (b1 r9 fun a10 => (b1 (o_K s0 109 a10) fun u23 => (b2 (mX9_isOf a10 r7 s0) fun x12 s11 => (if pi2 = (0 : Int32) then (if x12 = 0 then (mX11_ordered_82 (0 : Int32) s11) else (mX11_ordered_82 (1 : Int32) s11)) else (if pi2 = (1 : Int32) then (if x12 = 0 then (mX11_ordered_99 (0 : Int32) s11) else (b1 (g_P s11 111 4 h0) fun r17 => (b1 r17 fun a18 => (b1 (g_I s11 109 3 a18) fun x19 => (mX11_ordered_99 x19 s11))))) else (if pi2 = (2 : Int32) then (b1 r7 fun a21 => (b1 (g_I s11 102 4 a21) fun x22 => (some (x22, s11)))) else (some ((-1 : Int32), s11))))))))))))) else (mX11_ordered_18 s0)))))
set_option maxRecDepth 100000 in
set_option maxHeartbeats 4000000 in
theorem zX11_ordered (E : eE) {h0 : Nat} {pi1 : Int32} {pi2 : Int32} {s0 s9 : eS} {y : Int32} (h : mX11_ordered h0 pi1 pi2 s0 = some (y, s9)) : EM E YX11_ordered [VR (some h0), VI pi1, VI pi2] s0 (some (VI y)) s9 := by
  refine EM_of (M := MX11_ordered) (own := RX11) (ini := false) rfl (by decide +kernel) rfl (fun z => nomatch z) (Nat.le_of_ble_eq_true rfl) ?_
  unfold mX11_ordered at h
  refine EV_iload_n dX11_ordered_0 rfl ?_
  refine EV_if_lt (tgt := 18) dX11_ordered_1 (by decide) (fun c1 => ?_) (fun c1 => ?_)
  · rw [if_pos c1] at h
    exact EV_pick [] rfl (zX11_ordered_18 E h)
  · rw [if_neg c1] at h
    refine EV_iload_n dX11_ordered_4 rfl ?_
    refine EV_aload_n dX11_ordered_5 rfl ?_
    have hh := b1_some h; clear h; obtain ⟨x2, hx2, h⟩ := hh
    refine EV_getI (ci := 11) (k := 3) dX11_ordered_6 fl_X11_111 rfl hx2 ?_
    refine EV_icmp_ge (tgt := 18) dX11_ordered_9 (by decide) (fun c3 => ?_) (fun c3 => ?_)
    · rw [if_pos c3] at h
      exact EV_pick [] rfl (zX11_ordered_18 E h)
    · rw [if_neg c3] at h
      refine EV_iload_n dX11_ordered_12 rfl ?_
      refine EV_bipush (x := (12 : Int32)) dX11_ordered_13 (by decide) ?_
      refine EV_icmp_lt (tgt := 20) dX11_ordered_15 (by decide) (fun c4 => ?_) (fun c4 => ?_)
      · rw [if_pos c4] at h
        refine EV_aload_n dX11_ordered_20 rfl ?_
        have hh := b1_some h; clear h; obtain ⟨r5, hr5, h⟩ := hh
        refine EV_getP (ci := 11) (k := 2) dX11_ordered_21 fl_X11_22 rfl hr5 ?_
        refine EV_iload_n dX11_ordered_24 rfl ?_
        have hh := b1_some h; clear h; obtain ⟨a6, ha6, h⟩ := hh
        subst ha6
        have hh := b1_some h; clear h; obtain ⟨r7, hr7, h⟩ := hh
        refine EV_aP (t := 5) rfl dX11_ordered_25 hr7 ?_
        refine EV_astore_n (lv2 := [(3, VR r7), (0, VR (some h0)), (1, VI pi1), (2, VI pi2)]) dX11_ordered_26 (by decide) rfl ?_
        refine EV_aload_n dX11_ordered_27 rfl ?_
        refine EV_ifnonnull (tgt := 33) dX11_ordered_28 (by decide) (fun c8 => ?_) (fun c8 => ?_)
        · rw [if_pos c8] at h
          refine EV_iconst (x := (-1 : Int32)) dX11_ordered_31 (by decide) ?_
          cases h
          exact EV_ret ⟨dX11_ordered_32, .int, rfl, rfl⟩ rfl
        · rw [if_neg c8] at h
          refine EV_aload_n dX11_ordered_33 rfl ?_
          have hh := b1_some h; clear h; obtain ⟨r9, hr9, h⟩ := hh
          refine EV_getP (ci := 11) (k := 4) dX11_ordered_34 fl_X11_29 rfl hr9 ?_
          refine EV_aload_n dX11_ordered_37 rfl ?_
          have hh := b1_some h; clear h; obtain ⟨a10, ha10, h⟩ := hh
          subst ha10
          have hh := b1_some h; clear h; obtain ⟨u23, hu23, h⟩ := hh
          have hh := b2_some h; clear h; obtain ⟨x12, s11, hs11, h⟩ := hh
          refine EV_callV (Y := YX9_isOf) (as := [VR r7]) (st := []) (st2 := [VI x12]) (a := a10) (ci := 9) (r := rX9) (n := 1) dX11_ordered_38 (zX9_isOf E hs11) rfl cwX9_isOf rfl tw_828 tw_829 tw_830 rfl (e_if hu23).1.1 (e_if hu23).1.2 ⟨by decide, by decide⟩ (Nat.le_of_ble_eq_true rfl) rfl ?_
          refine EV_istore (lv2 := [(4, VI x12), (3, VR r7), (0, VR (some h0)), (1, VI pi1), (2, VI pi2)]) dX11_ordered_41 (by decide) rfl ?_
          refine EV_iload_n dX11_ordered_43 rfl ?_
          by_cases c13 : pi2 = (0 : Int32)
          · rw [if_pos c13] at h
            refine EV_table (tgt := 72) dX11_ordered_44 (Or.inr ⟨by rw [c13]; decide, by rw [c13]; decide, 28, by rw [c13]; decide, by decide⟩) ?_
            refine EV_iload dX11_ordered_72 rfl ?_
            refine EV_if_eq (tgt := 81) dX11_ordered_74 (by decide) (fun c14 => ?_) (fun c14 => ?_)
            · rw [if_pos c14] at h
              refine EV_iconst (x := (0 : Int32)) dX11_ordered_81 (by decide) ?_
              exact EV_pick [] rfl (zX11_ordered_82 E h)
            · rw [if_neg c14] at h
              refine EV_iconst (x := (1 : Int32)) dX11_ordered_77 (by decide) ?_
              refine EV_goto (tgt := 82) dX11_ordered_78 (by decide) ?_
              exact EV_pick [] rfl (zX11_ordered_82 E h)
          · rw [if_neg c13] at h
            by_cases c15 : pi2 = (1 : Int32)
            · rw [if_pos c15] at h
              refine EV_table (tgt := 83) dX11_ordered_44 (Or.inr ⟨by rw [c15]; decide, by rw [c15]; decide, 39, by rw [c15]; decide, by decide⟩) ?_
              refine EV_iload dX11_ordered_83 rfl ?_
              refine EV_if_eq (tgt := 98) dX11_ordered_85 (by decide) (fun c16 => ?_) (fun c16 => ?_)
              · rw [if_pos c16] at h
                refine EV_iconst (x := (0 : Int32)) dX11_ordered_98 (by decide) ?_
                exact EV_pick [] rfl (zX11_ordered_99 E h)
              · rw [if_neg c16] at h
                refine EV_aload_n dX11_ordered_88 rfl ?_
                have hh := b1_some h; clear h; obtain ⟨r17, hr17, h⟩ := hh
                refine EV_getP (ci := 11) (k := 4) dX11_ordered_89 fl_X11_29 rfl hr17 ?_
                have hh := b1_some h; clear h; obtain ⟨a18, ha18, h⟩ := hh
                subst ha18
                have hh := b1_some h; clear h; obtain ⟨x19, hx19, h⟩ := hh
                refine EV_getI (ci := 9) (k := 3) dX11_ordered_92 fl_X11_215 rfl hx19 ?_
                refine EV_goto (tgt := 99) dX11_ordered_95 (by decide) ?_
                exact EV_pick [] rfl (zX11_ordered_99 E h)
            · rw [if_neg c15] at h
              by_cases c20 : pi2 = (2 : Int32)
              · rw [if_pos c20] at h
                refine EV_table (tgt := 100) dX11_ordered_44 (Or.inr ⟨by rw [c20]; decide, by rw [c20]; decide, 56, by rw [c20]; decide, by decide⟩) ?_
                refine EV_aload_n dX11_ordered_100 rfl ?_
                have hh := b1_some h; clear h; obtain ⟨a21, ha21, h⟩ := hh
                subst ha21
                have hh := b1_some h; clear h; obtain ⟨x22, hx22, h⟩ := hh
                refine EV_getI (ci := 2) (k := 4) dX11_ordered_101 fl_X11_218 rfl hx22 ?_
                cases h
                exact EV_ret ⟨dX11_ordered_104, .int, rfl, rfl⟩ rfl
              · rw [if_neg c20] at h
                have nc13 := lv_neT (a := 0) c13 (by decide)
                have nc15 := lv_neT (a := 1) c15 (by decide)
                have nc20 := lv_neT (a := 2) c20 (by decide)
                refine EV_table (tgt := 105) dX11_ordered_44 (Or.inl ⟨by omega, by decide⟩) ?_
                refine EV_iconst (x := (-1 : Int32)) dX11_ordered_105 (by decide) ?_
                cases h
                exact EV_ret ⟨dX11_ordered_106, .int, rfl, rfl⟩ rfl
      · rw [if_neg c4] at h
        exact EV_pick [] rfl (zX11_ordered_18 E h)
def mX11_clock_107 (pt0 : Int32) (s0 : eS) : Option (Int32 × eS) :=
  (some (pt0, s0))
set_option maxRecDepth 100000 in
set_option maxHeartbeats 4000000 in
theorem zX11_clock_107 (E : eE) {pt0 : Int32} {s0 s9 : eS} {y : Int32} (h : mX11_clock_107 pt0 s0 = some (y, s9)) : EV E MX11_clock 107 [] [VI pt0] s0 (some (VI y)) s9 := by
  unfold mX11_clock_107 at h
  cases h
  exact EV_ret ⟨dX11_clock_107, .int, rfl, rfl⟩ rfl
def mX11_clock (h0 : Nat) (pi1 : Int32) (s0 : eS) : Option (Int32 × eS) :=
  (if pi1 = (0 : Int32) then (b1 (g_P s0 111 5 h0) fun r2 => (b1 r2 fun a3 => (b1 (g_I s0 101 0 a3) fun x4 => (some (x4, s0))))) else (if pi1 = (1 : Int32) then (b1 (g_P s0 111 5 h0) fun r6 => (b1 r6 fun a7 => (b1 (g_I s0 101 1 a7) fun x8 => (some (x8, s0))))) else (if pi1 = (2 : Int32) then (b1 (g_P s0 111 5 h0) fun r10 => (b1 r10 fun a11 => (b1 (g_I s0 101 2 a11) fun x12 => (some (x12, s0))))) else (if pi1 = (3 : Int32) then (b1 (g_P s0 111 5 h0) fun r14 => (b1 r14 fun a15 => (b1 (g_I s0 101 3 a15) fun x16 => (some (x16, s0))))) else (if pi1 = (4 : Int32) then (b1 (g_P s0 111 5 h0) fun r18 => (b1 r18 fun a19 => (b1 (g_I s0 101 4 a19) fun x20 => (some (x20, s0))))) else (if pi1 = (5 : Int32) then (b1 (g_P s0 111 5 h0) fun r22 => (b1 r22 fun a23 => (b1 (g_I s0 101 5 a23) fun x24 => (some (x24, s0))))) else (if pi1 = (6 : Int32) then (b1 (g_P s0 111 5 h0) fun r26 => (b1 r26 fun a27 => (b1 (g_I s0 101 6 a27) fun x28 => (if x28 = 0 then (mX11_clock_107 (0 : Int32) s0) else (mX11_clock_107 (1 : Int32) s0))))) else (some ((-1 : Int32), s0)))))))))
set_option maxRecDepth 100000 in
set_option maxHeartbeats 4000000 in
theorem zX11_clock (E : eE) {h0 : Nat} {pi1 : Int32} {s0 s9 : eS} {y : Int32} (h : mX11_clock h0 pi1 s0 = some (y, s9)) : EM E YX11_clock [VR (some h0), VI pi1] s0 (some (VI y)) s9 := by
  refine EM_of (M := MX11_clock) (own := RX11) (ini := false) rfl (by decide +kernel) rfl (fun z => nomatch z) (Nat.le_of_ble_eq_true rfl) ?_
  unfold mX11_clock at h
  refine EV_iload_n dX11_clock_0 rfl ?_
  by_cases c1 : pi1 = (0 : Int32)
  · rw [if_pos c1] at h
    refine EV_table (tgt := 44) dX11_clock_1 (Or.inr ⟨by rw [c1]; decide, by rw [c1]; decide, 43, by rw [c1]; decide, by decide⟩) ?_
    refine EV_aload_n dX11_clock_44 rfl ?_
    have hh := b1_some h; clear h; obtain ⟨r2, hr2, h⟩ := hh
    refine EV_getP (ci := 11) (k := 5) dX11_clock_45 fl_X11_36 rfl hr2 ?_
    have hh := b1_some h; clear h; obtain ⟨a3, ha3, h⟩ := hh
    subst ha3
    have hh := b1_some h; clear h; obtain ⟨x4, hx4, h⟩ := hh
    refine EV_getI (ci := 1) (k := 0) dX11_clock_48 fl_X11_221 rfl hx4 ?_
    cases h
    exact EV_ret ⟨dX11_clock_51, .int, rfl, rfl⟩ rfl
  · rw [if_neg c1] at h
    by_cases c5 : pi1 = (1 : Int32)
    · rw [if_pos c5] at h
      refine EV_table (tgt := 52) dX11_clock_1 (Or.inr ⟨by rw [c5]; decide, by rw [c5]; decide, 51, by rw [c5]; decide, by decide⟩) ?_
      refine EV_aload_n dX11_clock_52 rfl ?_
      have hh := b1_some h; clear h; obtain ⟨r6, hr6, h⟩ := hh
      refine EV_getP (ci := 11) (k := 5) dX11_clock_53 fl_X11_36 rfl hr6 ?_
      have hh := b1_some h; clear h; obtain ⟨a7, ha7, h⟩ := hh
      subst ha7
      have hh := b1_some h; clear h; obtain ⟨x8, hx8, h⟩ := hh
      refine EV_getI (ci := 1) (k := 1) dX11_clock_56 fl_X11_224 rfl hx8 ?_
      cases h
      exact EV_ret ⟨dX11_clock_59, .int, rfl, rfl⟩ rfl
    · rw [if_neg c5] at h
      by_cases c9 : pi1 = (2 : Int32)
      · rw [if_pos c9] at h
        refine EV_table (tgt := 60) dX11_clock_1 (Or.inr ⟨by rw [c9]; decide, by rw [c9]; decide, 59, by rw [c9]; decide, by decide⟩) ?_
        refine EV_aload_n dX11_clock_60 rfl ?_
        have hh := b1_some h; clear h; obtain ⟨r10, hr10, h⟩ := hh
        refine EV_getP (ci := 11) (k := 5) dX11_clock_61 fl_X11_36 rfl hr10 ?_
        have hh := b1_some h; clear h; obtain ⟨a11, ha11, h⟩ := hh
        subst ha11
        have hh := b1_some h; clear h; obtain ⟨x12, hx12, h⟩ := hh
        refine EV_getI (ci := 1) (k := 2) dX11_clock_64 fl_X11_227 rfl hx12 ?_
        cases h
        exact EV_ret ⟨dX11_clock_67, .int, rfl, rfl⟩ rfl
      · rw [if_neg c9] at h
        by_cases c13 : pi1 = (3 : Int32)
        · rw [if_pos c13] at h
          refine EV_table (tgt := 68) dX11_clock_1 (Or.inr ⟨by rw [c13]; decide, by rw [c13]; decide, 67, by rw [c13]; decide, by decide⟩) ?_
          refine EV_aload_n dX11_clock_68 rfl ?_
          have hh := b1_some h; clear h; obtain ⟨r14, hr14, h⟩ := hh
          refine EV_getP (ci := 11) (k := 5) dX11_clock_69 fl_X11_36 rfl hr14 ?_
          have hh := b1_some h; clear h; obtain ⟨a15, ha15, h⟩ := hh
          subst ha15
          have hh := b1_some h; clear h; obtain ⟨x16, hx16, h⟩ := hh
          refine EV_getI (ci := 1) (k := 3) dX11_clock_72 fl_X11_230 rfl hx16 ?_
          cases h
          exact EV_ret ⟨dX11_clock_75, .int, rfl, rfl⟩ rfl
        · rw [if_neg c13] at h
          by_cases c17 : pi1 = (4 : Int32)
          · rw [if_pos c17] at h
            refine EV_table (tgt := 76) dX11_clock_1 (Or.inr ⟨by rw [c17]; decide, by rw [c17]; decide, 75, by rw [c17]; decide, by decide⟩) ?_
            refine EV_aload_n dX11_clock_76 rfl ?_
            have hh := b1_some h; clear h; obtain ⟨r18, hr18, h⟩ := hh
            refine EV_getP (ci := 11) (k := 5) dX11_clock_77 fl_X11_36 rfl hr18 ?_
            have hh := b1_some h; clear h; obtain ⟨a19, ha19, h⟩ := hh
            subst ha19
            have hh := b1_some h; clear h; obtain ⟨x20, hx20, h⟩ := hh
            refine EV_getI (ci := 1) (k := 4) dX11_clock_80 fl_X11_233 rfl hx20 ?_
            cases h
            exact EV_ret ⟨dX11_clock_83, .int, rfl, rfl⟩ rfl
          · rw [if_neg c17] at h
            by_cases c21 : pi1 = (5 : Int32)
            · rw [if_pos c21] at h
              refine EV_table (tgt := 84) dX11_clock_1 (Or.inr ⟨by rw [c21]; decide, by rw [c21]; decide, 83, by rw [c21]; decide, by decide⟩) ?_
              refine EV_aload_n dX11_clock_84 rfl ?_
              have hh := b1_some h; clear h; obtain ⟨r22, hr22, h⟩ := hh
              refine EV_getP (ci := 11) (k := 5) dX11_clock_85 fl_X11_36 rfl hr22 ?_
              have hh := b1_some h; clear h; obtain ⟨a23, ha23, h⟩ := hh
              subst ha23
              have hh := b1_some h; clear h; obtain ⟨x24, hx24, h⟩ := hh
              refine EV_getI (ci := 1) (k := 5) dX11_clock_88 fl_X11_236 rfl hx24 ?_
              cases h
              exact EV_ret ⟨dX11_clock_91, .int, rfl, rfl⟩ rfl
            · rw [if_neg c21] at h
              by_cases c25 : pi1 = (6 : Int32)
              · rw [if_pos c25] at h
                refine EV_table (tgt := 92) dX11_clock_1 (Or.inr ⟨by rw [c25]; decide, by rw [c25]; decide, 91, by rw [c25]; decide, by decide⟩) ?_
                refine EV_aload_n dX11_clock_92 rfl ?_
                have hh := b1_some h; clear h; obtain ⟨r26, hr26, h⟩ := hh
                refine EV_getP (ci := 11) (k := 5) dX11_clock_93 fl_X11_36 rfl hr26 ?_
                have hh := b1_some h; clear h; obtain ⟨a27, ha27, h⟩ := hh
                subst ha27
                have hh := b1_some h; clear h; obtain ⟨x28, hx28, h⟩ := hh
                refine EV_getI (ci := 1) (k := 6) dX11_clock_96 fl_X11_239 rfl hx28 ?_
                refine EV_if_eq (tgt := 106) dX11_clock_99 (by decide) (fun c29 => ?_) (fun c29 => ?_)
                · rw [if_pos c29] at h
                  refine EV_iconst (x := (0 : Int32)) dX11_clock_106 (by decide) ?_
                  exact EV_pick [] rfl (zX11_clock_107 E h)
                · rw [if_neg c29] at h
                  refine EV_iconst (x := (1 : Int32)) dX11_clock_102 (by decide) ?_
                  refine EV_goto (tgt := 107) dX11_clock_103 (by decide) ?_
                  exact EV_pick [] rfl (zX11_clock_107 E h)
              · rw [if_neg c25] at h
                have nc1 := lv_neT (a := 0) c1 (by decide)
                have nc5 := lv_neT (a := 1) c5 (by decide)
                have nc9 := lv_neT (a := 2) c9 (by decide)
                have nc13 := lv_neT (a := 3) c13 (by decide)
                have nc17 := lv_neT (a := 4) c17 (by decide)
                have nc21 := lv_neT (a := 5) c21 (by decide)
                have nc25 := lv_neT (a := 6) c25 (by decide)
                refine EV_table (tgt := 108) dX11_clock_1 (Or.inl ⟨by omega, by decide⟩) ?_
                refine EV_iconst (x := (-1 : Int32)) dX11_clock_108 (by decide) ?_
                cases h
                exact EV_ret ⟨dX11_clock_109, .int, rfl, rfl⟩ rfl
def mX11_count_150 (pt0 : Int32) (s0 : eS) : Option (Int32 × eS) :=
  (some (pt0, s0))
set_option maxRecDepth 100000 in
set_option maxHeartbeats 4000000 in
theorem zX11_count_150 (E : eE) {pt0 : Int32} {s0 s9 : eS} {y : Int32} (h : mX11_count_150 pt0 s0 = some (y, s9)) : EV E MX11_count 150 [] [VI pt0] s0 (some (VI y)) s9 := by
  unfold mX11_count_150 at h
  cases h
  exact EV_ret ⟨dX11_count_150, .int, rfl, rfl⟩ rfl
def mX11_count (h0 : Nat) (pi1 : Int32) (s0 : eS) : Option (Int32 × eS) :=
  (if pi1 = (0 : Int32) then (b1 (g_I s0 111 11 h0) fun x2 => (some (x2, s0))) else (if pi1 = (1 : Int32) then (b1 (g_I s0 111 12 h0) fun x4 => (some (x4, s0))) else (if pi1 = (2 : Int32) then (b1 (g_P s0 111 10 h0) fun r6 => (b1 r6 fun a7 => (b1 (g_I s0 105 2 a7) fun x8 => (some (x8, s0))))) else (if pi1 = (3 : Int32) then (b1 (g_P s0 111 9 h0) fun r10 => (b1 r10 fun a11 => (b1 (g_I s0 110 4 a11) fun x12 => (some (x12, s0))))) else (if pi1 = (4 : Int32) then (b1 (g_P s0 111 9 h0) fun r14 => (b1 r14 fun a15 => (b1 (g_I s0 110 3 a15) fun x16 => (some (x16, s0))))) else (if pi1 = (5 : Int32) then (b1 (g_P s0 111 8 h0) fun r18 => (b1 r18 fun a19 => (b1 (g_I s0 108 2 a19) fun x20 => (some (x20, s0))))) else (if pi1 = (6 : Int32) then (b1 (g_P s0 111 8 h0) fun r22 => (b1 r22 fun a23 => (b1 (g_I s0 108 3 a23) fun x24 => (some (x24, s0))))) else (if pi1 = (7 : Int32) then (b1 (g_P s0 111 7 h0) fun r26 => (b1 r26 fun a27 => (b1 (g_I s0 100 3 a27) fun x28 => (some (x28, s0))))) else (if pi1 = (8 : Int32) then (b1 (g_P s0 111 6 h0) fun r30 => (b1 r30 fun a31 => (b1 (o_K s0 103 a31) fun u34 => (b2 (mX3_waiting a31 s0) fun x33 s32 => (some (x33, s32)))))) else (if pi1 = (9 : Int32) then (b1 (g_I s0 111 16 h0) fun x36 => (if x36 = 0 then (mX11_count_150 (0 : Int32) s0) else (mX11_count_150 (1 : Int32) s0))) else (if pi1 = (10 : Int32) then (b1 (g_I s0 111 17 h0) fun x39 => (some (x39, s0))) else (if pi1 = (11 : Int32) then (b1 (g_I s0 111 18 h0) fun x41 => (some (x41, s0))) else (if pi1 = (12 : Int32) then (b1 (g_P s0 111 1 h0) fun r43 => (b1 r43 fun a44 => (b1 (g_I s0 107 2 a44) fun x45 => (some (x45, s0))))) else (if pi1 = (13 : Int32) then (b1 (g_I s0 111 3 h0) fun x47 => (some (x47, s0))) else (some ((-1 : Int32), s0))))))))))))))))
set_option maxRecDepth 100000 in
set_option maxHeartbeats 4000000 in
theorem zX11_count (E : eE) {h0 : Nat} {pi1 : Int32} {s0 s9 : eS} {y : Int32} (h : mX11_count h0 pi1 s0 = some (y, s9)) : EM E YX11_count [VR (some h0), VI pi1] s0 (some (VI y)) s9 := by
  refine EM_of (M := MX11_count) (own := RX11) (ini := false) rfl (by decide +kernel) rfl (fun z => nomatch z) (Nat.le_of_ble_eq_true rfl) ?_
  unfold mX11_count at h
  refine EV_iload_n dX11_count_0 rfl ?_
  by_cases c1 : pi1 = (0 : Int32)
  · rw [if_pos c1] at h
    refine EV_table (tgt := 72) dX11_count_1 (Or.inr ⟨by rw [c1]; decide, by rw [c1]; decide, 71, by rw [c1]; decide, by decide⟩) ?_
    refine EV_aload_n dX11_count_72 rfl ?_
    have hh := b1_some h; clear h; obtain ⟨x2, hx2, h⟩ := hh
    refine EV_getI (ci := 11) (k := 11) dX11_count_73 fl_X11_75 rfl hx2 ?_
    cases h
    exact EV_ret ⟨dX11_count_76, .int, rfl, rfl⟩ rfl
  · rw [if_neg c1] at h
    by_cases c3 : pi1 = (1 : Int32)
    · rw [if_pos c3] at h
      refine EV_table (tgt := 77) dX11_count_1 (Or.inr ⟨by rw [c3]; decide, by rw [c3]; decide, 76, by rw [c3]; decide, by decide⟩) ?_
      refine EV_aload_n dX11_count_77 rfl ?_
      have hh := b1_some h; clear h; obtain ⟨x4, hx4, h⟩ := hh
      refine EV_getI (ci := 11) (k := 12) dX11_count_78 fl_X11_242 rfl hx4 ?_
      cases h
      exact EV_ret ⟨dX11_count_81, .int, rfl, rfl⟩ rfl
    · rw [if_neg c3] at h
      by_cases c5 : pi1 = (2 : Int32)
      · rw [if_pos c5] at h
        refine EV_table (tgt := 82) dX11_count_1 (Or.inr ⟨by rw [c5]; decide, by rw [c5]; decide, 81, by rw [c5]; decide, by decide⟩) ?_
        refine EV_aload_n dX11_count_82 rfl ?_
        have hh := b1_some h; clear h; obtain ⟨r6, hr6, h⟩ := hh
        refine EV_getP (ci := 11) (k := 10) dX11_count_83 fl_X11_71 rfl hr6 ?_
        have hh := b1_some h; clear h; obtain ⟨a7, ha7, h⟩ := hh
        subst ha7
        have hh := b1_some h; clear h; obtain ⟨x8, hx8, h⟩ := hh
        refine EV_getI (ci := 5) (k := 2) dX11_count_86 fl_X11_190 rfl hx8 ?_
        cases h
        exact EV_ret ⟨dX11_count_89, .int, rfl, rfl⟩ rfl
      · rw [if_neg c5] at h
        by_cases c9 : pi1 = (3 : Int32)
        · rw [if_pos c9] at h
          refine EV_table (tgt := 90) dX11_count_1 (Or.inr ⟨by rw [c9]; decide, by rw [c9]; decide, 89, by rw [c9]; decide, by decide⟩) ?_
          refine EV_aload_n dX11_count_90 rfl ?_
          have hh := b1_some h; clear h; obtain ⟨r10, hr10, h⟩ := hh
          refine EV_getP (ci := 11) (k := 9) dX11_count_91 fl_X11_64 rfl hr10 ?_
          have hh := b1_some h; clear h; obtain ⟨a11, ha11, h⟩ := hh
          subst ha11
          have hh := b1_some h; clear h; obtain ⟨x12, hx12, h⟩ := hh
          refine EV_getI (ci := 10) (k := 4) dX11_count_94 fl_X11_245 rfl hx12 ?_
          cases h
          exact EV_ret ⟨dX11_count_97, .int, rfl, rfl⟩ rfl
        · rw [if_neg c9] at h
          by_cases c13 : pi1 = (4 : Int32)
          · rw [if_pos c13] at h
            refine EV_table (tgt := 98) dX11_count_1 (Or.inr ⟨by rw [c13]; decide, by rw [c13]; decide, 97, by rw [c13]; decide, by decide⟩) ?_
            refine EV_aload_n dX11_count_98 rfl ?_
            have hh := b1_some h; clear h; obtain ⟨r14, hr14, h⟩ := hh
            refine EV_getP (ci := 11) (k := 9) dX11_count_99 fl_X11_64 rfl hr14 ?_
            have hh := b1_some h; clear h; obtain ⟨a15, ha15, h⟩ := hh
            subst ha15
            have hh := b1_some h; clear h; obtain ⟨x16, hx16, h⟩ := hh
            refine EV_getI (ci := 10) (k := 3) dX11_count_102 fl_X11_248 rfl hx16 ?_
            cases h
            exact EV_ret ⟨dX11_count_105, .int, rfl, rfl⟩ rfl
          · rw [if_neg c13] at h
            by_cases c17 : pi1 = (5 : Int32)
            · rw [if_pos c17] at h
              refine EV_table (tgt := 106) dX11_count_1 (Or.inr ⟨by rw [c17]; decide, by rw [c17]; decide, 105, by rw [c17]; decide, by decide⟩) ?_
              refine EV_aload_n dX11_count_106 rfl ?_
              have hh := b1_some h; clear h; obtain ⟨r18, hr18, h⟩ := hh
              refine EV_getP (ci := 11) (k := 8) dX11_count_107 fl_X11_57 rfl hr18 ?_
              have hh := b1_some h; clear h; obtain ⟨a19, ha19, h⟩ := hh
              subst ha19
              have hh := b1_some h; clear h; obtain ⟨x20, hx20, h⟩ := hh
              refine EV_getI (ci := 8) (k := 2) dX11_count_110 fl_X11_251 rfl hx20 ?_
              cases h
              exact EV_ret ⟨dX11_count_113, .int, rfl, rfl⟩ rfl
            · rw [if_neg c17] at h
              by_cases c21 : pi1 = (6 : Int32)
              · rw [if_pos c21] at h
                refine EV_table (tgt := 114) dX11_count_1 (Or.inr ⟨by rw [c21]; decide, by rw [c21]; decide, 113, by rw [c21]; decide, by decide⟩) ?_
                refine EV_aload_n dX11_count_114 rfl ?_
                have hh := b1_some h; clear h; obtain ⟨r22, hr22, h⟩ := hh
                refine EV_getP (ci := 11) (k := 8) dX11_count_115 fl_X11_57 rfl hr22 ?_
                have hh := b1_some h; clear h; obtain ⟨a23, ha23, h⟩ := hh
                subst ha23
                have hh := b1_some h; clear h; obtain ⟨x24, hx24, h⟩ := hh
                refine EV_getI (ci := 8) (k := 3) dX11_count_118 fl_X11_254 rfl hx24 ?_
                cases h
                exact EV_ret ⟨dX11_count_121, .int, rfl, rfl⟩ rfl
              · rw [if_neg c21] at h
                by_cases c25 : pi1 = (7 : Int32)
                · rw [if_pos c25] at h
                  refine EV_table (tgt := 122) dX11_count_1 (Or.inr ⟨by rw [c25]; decide, by rw [c25]; decide, 121, by rw [c25]; decide, by decide⟩) ?_
                  refine EV_aload_n dX11_count_122 rfl ?_
                  have hh := b1_some h; clear h; obtain ⟨r26, hr26, h⟩ := hh
                  refine EV_getP (ci := 11) (k := 7) dX11_count_123 fl_X11_50 rfl hr26 ?_
                  have hh := b1_some h; clear h; obtain ⟨a27, ha27, h⟩ := hh
                  subst ha27
                  have hh := b1_some h; clear h; obtain ⟨x28, hx28, h⟩ := hh
                  refine EV_getI (ci := 0) (k := 3) dX11_count_126 fl_X11_257 rfl hx28 ?_
                  cases h
                  exact EV_ret ⟨dX11_count_129, .int, rfl, rfl⟩ rfl
                · rw [if_neg c25] at h
                  by_cases c29 : pi1 = (8 : Int32)
                  · rw [if_pos c29] at h
                    refine EV_table (tgt := 130) dX11_count_1 (Or.inr ⟨by rw [c29]; decide, by rw [c29]; decide, 129, by rw [c29]; decide, by decide⟩) ?_
                    refine EV_aload_n dX11_count_130 rfl ?_
                    have hh := b1_some h; clear h; obtain ⟨r30, hr30, h⟩ := hh
                    refine EV_getP (ci := 11) (k := 6) dX11_count_131 fl_X11_43 rfl hr30 ?_
                    have hh := b1_some h; clear h; obtain ⟨a31, ha31, h⟩ := hh
                    subst ha31
                    have hh := b1_some h; clear h; obtain ⟨u34, hu34, h⟩ := hh
                    have hh := b2_some h; clear h; obtain ⟨x33, s32, hs32, h⟩ := hh
                    refine EV_callV (Y := YX3_waiting) (as := []) (st := []) (st2 := [VI x33]) (a := a31) (ci := 3) (r := rX3) (n := 0) dX11_count_134 (zX3_waiting E hs32) rfl cwX3_waiting rfl tw_500 tw_501 tw_502 rfl (e_if hu34).1.1 (e_if hu34).1.2 ⟨by decide, by decide⟩ (Nat.le_of_ble_eq_true rfl) rfl ?_
                    cases h
                    exact EV_ret ⟨dX11_count_137, .int, rfl, rfl⟩ rfl
                  · rw [if_neg c29] at h
                    by_cases c35 : pi1 = (9 : Int32)
                    · rw [if_pos c35] at h
                      refine EV_table (tgt := 138) dX11_count_1 (Or.inr ⟨by rw [c35]; decide, by rw [c35]; decide, 137, by rw [c35]; decide, by decide⟩) ?_
                      refine EV_aload_n dX11_count_138 rfl ?_
                      have hh := b1_some h; clear h; obtain ⟨x36, hx36, h⟩ := hh
                      refine EV_getI (ci := 11) (k := 16) dX11_count_139 fl_X11_258 rfl hx36 ?_
                      refine EV_if_eq (tgt := 149) dX11_count_142 (by decide) (fun c37 => ?_) (fun c37 => ?_)
                      · rw [if_pos c37] at h
                        refine EV_iconst (x := (0 : Int32)) dX11_count_149 (by decide) ?_
                        exact EV_pick [] rfl (zX11_count_150 E h)
                      · rw [if_neg c37] at h
                        refine EV_iconst (x := (1 : Int32)) dX11_count_145 (by decide) ?_
                        refine EV_goto (tgt := 150) dX11_count_146 (by decide) ?_
                        exact EV_pick [] rfl (zX11_count_150 E h)
                    · rw [if_neg c35] at h
                      by_cases c38 : pi1 = (10 : Int32)
                      · rw [if_pos c38] at h
                        refine EV_table (tgt := 151) dX11_count_1 (Or.inr ⟨by rw [c38]; decide, by rw [c38]; decide, 150, by rw [c38]; decide, by decide⟩) ?_
                        refine EV_aload_n dX11_count_151 rfl ?_
                        have hh := b1_some h; clear h; obtain ⟨x39, hx39, h⟩ := hh
                        refine EV_getI (ci := 11) (k := 17) dX11_count_152 fl_X11_261 rfl hx39 ?_
                        cases h
                        exact EV_ret ⟨dX11_count_155, .int, rfl, rfl⟩ rfl
                      · rw [if_neg c38] at h
                        by_cases c40 : pi1 = (11 : Int32)
                        · rw [if_pos c40] at h
                          refine EV_table (tgt := 156) dX11_count_1 (Or.inr ⟨by rw [c40]; decide, by rw [c40]; decide, 155, by rw [c40]; decide, by decide⟩) ?_
                          refine EV_aload_n dX11_count_156 rfl ?_
                          have hh := b1_some h; clear h; obtain ⟨x41, hx41, h⟩ := hh
                          refine EV_getI (ci := 11) (k := 18) dX11_count_157 fl_X11_131 rfl hx41 ?_
                          cases h
                          exact EV_ret ⟨dX11_count_160, .int, rfl, rfl⟩ rfl
                        · rw [if_neg c40] at h
                          by_cases c42 : pi1 = (12 : Int32)
                          · rw [if_pos c42] at h
                            refine EV_table (tgt := 161) dX11_count_1 (Or.inr ⟨by rw [c42]; decide, by rw [c42]; decide, 160, by rw [c42]; decide, by decide⟩) ?_
                            refine EV_aload_n dX11_count_161 rfl ?_
                            have hh := b1_some h; clear h; obtain ⟨r43, hr43, h⟩ := hh
                            refine EV_getP (ci := 11) (k := 1) dX11_count_162 fl_X11_16 rfl hr43 ?_
                            have hh := b1_some h; clear h; obtain ⟨a44, ha44, h⟩ := hh
                            subst ha44
                            have hh := b1_some h; clear h; obtain ⟨x45, hx45, h⟩ := hh
                            refine EV_getI (ci := 7) (k := 2) dX11_count_165 fl_X11_89 rfl hx45 ?_
                            cases h
                            exact EV_ret ⟨dX11_count_168, .int, rfl, rfl⟩ rfl
                          · rw [if_neg c42] at h
                            by_cases c46 : pi1 = (13 : Int32)
                            · rw [if_pos c46] at h
                              refine EV_table (tgt := 169) dX11_count_1 (Or.inr ⟨by rw [c46]; decide, by rw [c46]; decide, 168, by rw [c46]; decide, by decide⟩) ?_
                              refine EV_aload_n dX11_count_169 rfl ?_
                              have hh := b1_some h; clear h; obtain ⟨x47, hx47, h⟩ := hh
                              refine EV_getI (ci := 11) (k := 3) dX11_count_170 fl_X11_111 rfl hx47 ?_
                              cases h
                              exact EV_ret ⟨dX11_count_173, .int, rfl, rfl⟩ rfl
                            · rw [if_neg c46] at h
                              have nc1 := lv_neT (a := 0) c1 (by decide)
                              have nc3 := lv_neT (a := 1) c3 (by decide)
                              have nc5 := lv_neT (a := 2) c5 (by decide)
                              have nc9 := lv_neT (a := 3) c9 (by decide)
                              have nc13 := lv_neT (a := 4) c13 (by decide)
                              have nc17 := lv_neT (a := 5) c17 (by decide)
                              have nc21 := lv_neT (a := 6) c21 (by decide)
                              have nc25 := lv_neT (a := 7) c25 (by decide)
                              have nc29 := lv_neT (a := 8) c29 (by decide)
                              have nc35 := lv_neT (a := 9) c35 (by decide)
                              have nc38 := lv_neT (a := 10) c38 (by decide)
                              have nc40 := lv_neT (a := 11) c40 (by decide)
                              have nc42 := lv_neT (a := 12) c42 (by decide)
                              have nc46 := lv_neT (a := 13) c46 (by decide)
                              refine EV_table (tgt := 174) dX11_count_1 (Or.inl ⟨by omega, by decide⟩) ?_
                              refine EV_iconst (x := (-1 : Int32)) dX11_count_174 (by decide) ?_
                              cases h
                              exact EV_ret ⟨dX11_count_175, .int, rfl, rfl⟩ rfl
