def mX11_objectHead (pi0 : Int32) (pi1 : Int32) (pi2 : Int32) (pi3 : Int32) (s0 : eS) : Option (Int64 × eS) :=
  (some (((((((pi0 ||| (256 : Int32)) ||| (pi1 <<< ((16 : Int32) &&& 31)))).toInt64) ||| (((pi2).toInt64) <<< ((24 : Int32).toInt64 &&& 63))) ||| (((pi3).toInt64) <<< ((32 : Int32).toInt64 &&& 63))), s0))
set_option maxRecDepth 100000 in
set_option maxHeartbeats 4000000 in
theorem zX11_objectHead (E : eE) {pi0 : Int32} {pi1 : Int32} {pi2 : Int32} {pi3 : Int32} {s0 s9 : eS} {y : Int64} (h : mX11_objectHead pi0 pi1 pi2 pi3 s0 = some (y, s9)) : EM E YX11_objectHead [VI pi0, VI pi1, VI pi2, VI pi3] s0 (some (VL y)) s9 := by
  refine EM_of (M := MX11_objectHead) (own := RX11) (ini := false) rfl (by decide +kernel) rfl (fun z => nomatch z) (Nat.le_of_ble_eq_true rfl) ?_
  unfold mX11_objectHead at h
  refine EV_iload_n dX11_objectHead_0 rfl ?_
  refine EV_sipush (x := (256 : Int32)) dX11_objectHead_1 (by decide) ?_
  refine EV_ior dX11_objectHead_4 ?_
  refine EV_iload_n dX11_objectHead_5 rfl ?_
  refine EV_bipush (x := (16 : Int32)) dX11_objectHead_6 (by decide) ?_
  refine EV_ishl dX11_objectHead_8 ?_
  refine EV_ior dX11_objectHead_9 ?_
  refine EV_i2l dX11_objectHead_10 ?_
  refine EV_iload_n dX11_objectHead_11 rfl ?_
  refine EV_i2l dX11_objectHead_12 ?_
  refine EV_bipush (x := (24 : Int32)) dX11_objectHead_13 (by decide) ?_
  refine EV_lshl dX11_objectHead_15 ?_
  refine EV_lor dX11_objectHead_16 ?_
  refine EV_iload_n dX11_objectHead_17 rfl ?_
  refine EV_i2l dX11_objectHead_18 ?_
  refine EV_bipush (x := (32 : Int32)) dX11_objectHead_19 (by decide) ?_
  refine EV_lshl dX11_objectHead_21 ?_
  refine EV_lor dX11_objectHead_22 ?_
  cases h
  exact EV_ret ⟨dX11_objectHead_23, rfl⟩ rfl
def mX0_init (h0 : Nat) (s0 : eS) : Option eS :=
  (b2 (n_A s0 6 (60 : Int32)) fun q1 s2 => (b1 (p_P s2 100 0 h0 (some q1)) fun s3 => (b2 (n_O s3 104 2) fun q4 s5 => (b1 (mX4_init q4 s5) fun s6 => (b1 (p_P s6 100 1 h0 (some q4)) fun s8 => (some s8))))))
set_option maxRecDepth 100000 in
set_option maxHeartbeats 4000000 in
theorem zX0_init (E : eE) {h0 : Nat} {s0 s9 : eS} (h : mX0_init h0 s0 = some s9) : EM E YX0_init [VR (some h0)] s0 none s9 := by
  refine EM_of (M := MX0_init) (own := RX0) (ini := true) rfl (by decide +kernel) rfl (fun _ => rfl) (Nat.le_of_ble_eq_true rfl) ?_
  unfold mX0_init at h
  refine EV_aload_n dX0_init_0 rfl ?_
  refine EV_objInit dX0_init_1 ⟨_, rfl⟩ tw_224 tw_93 tw_94 ⟨by decide, by decide⟩ (Nat.le_of_ble_eq_true rfl) ?_
  refine EV_aload_n dX0_init_4 rfl ?_
  refine EV_bipush (x := (60 : Int32)) dX0_init_5 (by decide) ?_
  have hh := b2_some h; clear h; obtain ⟨q1, s2, hs2, h⟩ := hh
  refine EV_nR (t := 6) (C := "ControlledStation$Message") dX0_init_7 rfl tw_225 tw_226 hs2 ?_
  have hh := b1_some h; clear h; obtain ⟨s3, hs3, h⟩ := hh
  refine EV_putP (ci := 0) (k := 0) dX0_init_10 fp_X0_11i rfl hs3 ?_
  refine EV_aload_n dX0_init_13 rfl ?_
  have hh := b2_some h; clear h; obtain ⟨q4, s5, hs5, h⟩ := hh
  refine EV_nO (ci := 4) (r := rX4) dX0_init_14 eX_4 rfl tw_225 tw_182 tw_77 eXf_4 hs5 ?_
  refine EV_dup dX0_init_17 rfl ?_
  have hh := b1_some h; clear h; obtain ⟨s6, hs6, h⟩ := hh
  refine EV_callIN (Y := YX4_init) (as := []) (st := [VR (some q4), VR (some h0)]) (a := q4) (n := 0) dX0_init_18 (zX4_init E hs6) rfl rfl cwX4_init rfl tw_227 tw_184 rfl ⟨by decide, by decide⟩ (Nat.le_of_ble_eq_true rfl) ?_
  have hh := b1_some h; clear h; obtain ⟨s8, hs8, h⟩ := hh
  refine EV_putP (ci := 0) (k := 1) dX0_init_21 fp_X0_18i rfl hs8 ?_
  cases h
  exact EV_ret ⟨dX0_init_24, rfl⟩ rfl
def mX0_clear (h0 : Nat) (s0 : eS) : Option eS :=
  (b1 (p_I s0 100 2 h0 (0 : Int32)) fun s1 => (b1 (p_I s1 100 3 h0 (0 : Int32)) fun s2 => (b1 (p_Z s2 100 4 h0 (0 : Int32)) fun s3 => (some s3))))
set_option maxRecDepth 100000 in
set_option maxHeartbeats 4000000 in
theorem zX0_clear (E : eE) {h0 : Nat} {s0 s9 : eS} (h : mX0_clear h0 s0 = some s9) : EM E YX0_clear [VR (some h0)] s0 none s9 := by
  refine EM_of (M := MX0_clear) (own := RX0) (ini := false) rfl (by decide +kernel) rfl (fun z => nomatch z) (Nat.le_of_ble_eq_true rfl) ?_
  unfold mX0_clear at h
  refine EV_aload_n dX0_clear_0 rfl ?_
  refine EV_iconst (x := (0 : Int32)) dX0_clear_1 (by decide) ?_
  have hh := b1_some h; clear h; obtain ⟨s1, hs1, h⟩ := hh
  refine EV_putI (ci := 0) (k := 2) dX0_clear_2 fp_X0_22 rfl hs1 ?_
  refine EV_aload_n dX0_clear_5 rfl ?_
  refine EV_iconst (x := (0 : Int32)) dX0_clear_6 (by decide) ?_
  have hh := b1_some h; clear h; obtain ⟨s2, hs2, h⟩ := hh
  refine EV_putI (ci := 0) (k := 3) dX0_clear_7 fp_X0_26 rfl hs2 ?_
  refine EV_aload_n dX0_clear_10 rfl ?_
  refine EV_iconst (x := (0 : Int32)) dX0_clear_11 (by decide) ?_
  have hh := b1_some h; clear h; obtain ⟨s3, hs3, h⟩ := hh
  refine EV_putZ (ci := 0) (k := 4) dX0_clear_12 fp_X0_29 rfl hs3 ?_
  cases h
  exact EV_ret ⟨dX0_clear_15, rfl⟩ rfl
def mX0_next_16 (h0 : Nat) (s0 : eS) : Option (Option Nat × eS) :=
  (b1 (p_Z s0 100 4 h0 (1 : Int32)) fun s1 => (b1 (g_P s1 100 1 h0) fun r2 => (b1 r2 fun a3 => (b1 (o_K s1 104 a3) fun u7 => (b1 (mX4_clear a3 s1) fun s4 => (b1 (g_P s4 100 1 h0) fun r6 => (some (r6, s4))))))))
set_option maxRecDepth 100000 in
set_option maxHeartbeats 4000000 in
theorem zX0_next_16 (E : eE) {h0 : Nat} {s0 s9 : eS} {y : Option Nat} (h : mX0_next_16 h0 s0 = some (y, s9)) : EV E MX0_next 16 [(0, VR (some h0))] [] s0 (some (VR y)) s9 := by
  unfold mX0_next_16 at h
  refine EV_aload_n dX0_next_16 rfl ?_
  refine EV_iconst (x := (1 : Int32)) dX0_next_17 (by decide) ?_
  have hh := b1_some h; clear h; obtain ⟨s1, hs1, h⟩ := hh
  refine EV_putZ (ci := 0) (k := 4) dX0_next_18 fp_X0_29 rfl hs1 ?_
  refine EV_aload_n dX0_next_21 rfl ?_
  have hh := b1_some h; clear h; obtain ⟨r2, hr2, h⟩ := hh
  refine EV_getP (ci := 0) (k := 1) dX0_next_22 fl_X0_18 rfl hr2 ?_
  have hh := b1_some h; clear h; obtain ⟨a3, ha3, h⟩ := hh
  subst ha3
  have hh := b1_some h; clear h; obtain ⟨u7, hu7, h⟩ := hh
  have hh := b1_some h; clear h; obtain ⟨s4, hs4, h⟩ := hh
  refine EV_callV (Y := YX4_clear) (as := []) (st := []) (st2 := []) (a := a3) (ci := 4) (r := rX4) (n := 0) dX0_next_25 (zX4_clear E hs4) rfl cwX4_clear rfl tw_730 tw_585 tw_586 rfl (e_if hu7).1.1 (e_if hu7).1.2 ⟨by decide, by decide⟩ (Nat.le_of_ble_eq_true rfl) rfl ?_
  refine EV_aload_n dX0_next_28 rfl ?_
  have hh := b1_some h; clear h; obtain ⟨r6, hr6, h⟩ := hh
  refine EV_getP (ci := 0) (k := 1) dX0_next_29 fl_X0_18 rfl hr6 ?_
  cases h
  exact EV_ret ⟨dX0_next_32, _, rfl⟩ rfl
def mX0_next_68 (h0 : Nat) (pi1 : Int32) (s0 : eS) : Option (Option Nat × eS) :=
  (b1 (g_I s0 100 3 h0) fun x1 => (b1 (p_I s0 100 3 h0 (x1 + (1 : Int32))) fun s2 => (b1 (g_P s2 100 0 h0) fun r3 => (b1 r3 fun a4 => (b1 (a_P s2 6 a4 pi1) fun r5 => (b1 r5 fun a6 => (b1 (o_K s2 104 a6) fun u12 => (b1 (mX4_clear a6 s2) fun s7 => (b1 (g_P s7 100 0 h0) fun r9 => (b1 r9 fun a10 => (b1 (a_P s7 6 a10 pi1) fun r11 => (some (r11, s7)))))))))))))
set_option maxRecDepth 100000 in
set_option maxHeartbeats 4000000 in
theorem zX0_next_68 (E : eE) {h0 : Nat} {pi1 : Int32} {s0 s9 : eS} {y : Option Nat} (h : mX0_next_68 h0 pi1 s0 = some (y, s9)) : EV E MX0_next 68 [(0, VR (some h0)), (1, VI pi1)] [] s0 (some (VR y)) s9 := by
  unfold mX0_next_68 at h
  refine EV_aload_n dX0_next_68 rfl ?_
  refine EV_dup dX0_next_69 rfl ?_
  have hh := b1_some h; clear h; obtain ⟨x1, hx1, h⟩ := hh
  refine EV_getI (ci := 0) (k := 3) dX0_next_70 fl_X0_26 rfl hx1 ?_
  refine EV_iconst (x := (1 : Int32)) dX0_next_73 (by decide) ?_
  refine EV_iadd dX0_next_74 ?_
  have hh := b1_some h; clear h; obtain ⟨s2, hs2, h⟩ := hh
  refine EV_putI (ci := 0) (k := 3) dX0_next_75 fp_X0_26 rfl hs2 ?_
  refine EV_aload_n dX0_next_78 rfl ?_
  have hh := b1_some h; clear h; obtain ⟨r3, hr3, h⟩ := hh
  refine EV_getP (ci := 0) (k := 0) dX0_next_79 fl_X0_11 rfl hr3 ?_
  refine EV_iload_n dX0_next_82 rfl ?_
  have hh := b1_some h; clear h; obtain ⟨a4, ha4, h⟩ := hh
  subst ha4
  have hh := b1_some h; clear h; obtain ⟨r5, hr5, h⟩ := hh
  refine EV_aP (t := 6) rfl dX0_next_83 hr5 ?_
  have hh := b1_some h; clear h; obtain ⟨a6, ha6, h⟩ := hh
  subst ha6
  have hh := b1_some h; clear h; obtain ⟨u12, hu12, h⟩ := hh
  have hh := b1_some h; clear h; obtain ⟨s7, hs7, h⟩ := hh
  refine EV_callV (Y := YX4_clear) (as := []) (st := []) (st2 := []) (a := a6) (ci := 4) (r := rX4) (n := 0) dX0_next_84 (zX4_clear E hs7) rfl cwX4_clear rfl tw_730 tw_585 tw_586 rfl (e_if hu12).1.1 (e_if hu12).1.2 ⟨by decide, by decide⟩ (Nat.le_of_ble_eq_true rfl) rfl ?_
  refine EV_aload_n dX0_next_87 rfl ?_
  have hh := b1_some h; clear h; obtain ⟨r9, hr9, h⟩ := hh
  refine EV_getP (ci := 0) (k := 0) dX0_next_88 fl_X0_11 rfl hr9 ?_
  refine EV_iload_n dX0_next_91 rfl ?_
  have hh := b1_some h; clear h; obtain ⟨a10, ha10, h⟩ := hh
  subst ha10
  have hh := b1_some h; clear h; obtain ⟨r11, hr11, h⟩ := hh
  refine EV_aP (t := 6) rfl dX0_next_92 hr11 ?_
  cases h
  exact EV_ret ⟨dX0_next_93, _, rfl⟩ rfl
def mX0_next (h0 : Nat) (s0 : eS) : Option (Option Nat × eS) :=
  (b1 (g_I s0 100 3 h0) fun x1 => (if x1 < 0 then (mX0_next_16 h0 s0) else (b1 (g_I s0 100 3 h0) fun x3 => (if x3 < (60 : Int32) then (b1 (g_I s0 100 2 h0) fun x5 => (b1 (g_I s0 100 3 h0) fun x6 => (b1 (g_P s0 100 0 h0) fun r7 => (b1 r7 fun a8 => (b1 (a_P s0 6 a8 ((x5 + x6) - (x5 + x6) / (60 : Int32) * (60 : Int32))) fun r9 => (if r9 = none then (b1 (g_P s0 100 0 h0) fun r11 => (b2 (n_O s0 104 2) fun q12 s13 => (b1 (mX4_init q12 s13) fun s14 => (b1 r11 fun a16 => (b1 (s_P s14 6 104 a16 ((x5 + x6) - (x5 + x6) / (60 : Int32) * (60 : Int32)) q12) fun s17 => (mX0_next_68 h0 ((x5 + x6) - (x5 + x6) / (60 : Int32) * (60 : Int32)) s17)))))) else (mX0_next_68 h0 ((x5 + x6) - (x5 + x6) / (60 : Int32) * (60 : Int32)) s0))))))) else (mX0_next_16 h0 s0)))))
set_option maxRecDepth 100000 in
set_option maxHeartbeats 4000000 in
theorem zX0_next (E : eE) {h0 : Nat} {s0 s9 : eS} {y : Option Nat} (h : mX0_next h0 s0 = some (y, s9)) : EM E YX0_next [VR (some h0)] s0 (some (VR y)) s9 := by
  refine EM_of (M := MX0_next) (own := RX0) (ini := false) rfl (by decide +kernel) rfl (fun z => nomatch z) (Nat.le_of_ble_eq_true rfl) ?_
  unfold mX0_next at h
  refine EV_aload_n dX0_next_0 rfl ?_
  have hh := b1_some h; clear h; obtain ⟨x1, hx1, h⟩ := hh
  refine EV_getI (ci := 0) (k := 3) dX0_next_1 fl_X0_26 rfl hx1 ?_
  refine EV_if_lt (tgt := 16) dX0_next_4 (by decide) (fun c2 => ?_) (fun c2 => ?_)
  · rw [if_pos c2] at h
    exact EV_pick [0] rfl (zX0_next_16 E h)
  · rw [if_neg c2] at h
    refine EV_aload_n dX0_next_7 rfl ?_
    have hh := b1_some h; clear h; obtain ⟨x3, hx3, h⟩ := hh
    refine EV_getI (ci := 0) (k := 3) dX0_next_8 fl_X0_26 rfl hx3 ?_
    refine EV_bipush (x := (60 : Int32)) dX0_next_11 (by decide) ?_
    refine EV_icmp_lt (tgt := 33) dX0_next_13 (by decide) (fun c4 => ?_) (fun c4 => ?_)
    · rw [if_pos c4] at h
      refine EV_aload_n dX0_next_33 rfl ?_
      have hh := b1_some h; clear h; obtain ⟨x5, hx5, h⟩ := hh
      refine EV_getI (ci := 0) (k := 2) dX0_next_34 fl_X0_22 rfl hx5 ?_
      refine EV_aload_n dX0_next_37 rfl ?_
      have hh := b1_some h; clear h; obtain ⟨x6, hx6, h⟩ := hh
      refine EV_getI (ci := 0) (k := 3) dX0_next_38 fl_X0_26 rfl hx6 ?_
      refine EV_iadd dX0_next_41 ?_
      refine EV_bipush (x := (60 : Int32)) dX0_next_42 (by decide) ?_
      refine EV_irem dX0_next_44 (by decide) ?_
      refine EV_istore_n (lv2 := [(1, VI ((x5 + x6) - (x5 + x6) / (60 : Int32) * (60 : Int32))), (0, VR (some h0))]) dX0_next_45 (by decide) rfl ?_
      refine EV_aload_n dX0_next_46 rfl ?_
      have hh := b1_some h; clear h; obtain ⟨r7, hr7, h⟩ := hh
      refine EV_getP (ci := 0) (k := 0) dX0_next_47 fl_X0_11 rfl hr7 ?_
      refine EV_iload_n dX0_next_50 rfl ?_
      have hh := b1_some h; clear h; obtain ⟨a8, ha8, h⟩ := hh
      subst ha8
      have hh := b1_some h; clear h; obtain ⟨r9, hr9, h⟩ := hh
      refine EV_aP (t := 6) rfl dX0_next_51 hr9 ?_
      refine EV_ifnonnull (tgt := 68) dX0_next_52 (by decide) (fun c10 => ?_) (fun c10 => ?_)
      · rw [if_pos c10] at h
        refine EV_aload_n dX0_next_55 rfl ?_
        have hh := b1_some h; clear h; obtain ⟨r11, hr11, h⟩ := hh
        refine EV_getP (ci := 0) (k := 0) dX0_next_56 fl_X0_11 rfl hr11 ?_
        refine EV_iload_n dX0_next_59 rfl ?_
        have hh := b2_some h; clear h; obtain ⟨q12, s13, hs13, h⟩ := hh
        refine EV_nO (ci := 4) (r := rX4) dX0_next_60 eX_4 rfl tw_225 tw_182 tw_77 eXf_4 hs13 ?_
        refine EV_dup dX0_next_63 rfl ?_
        have hh := b1_some h; clear h; obtain ⟨s14, hs14, h⟩ := hh
        refine EV_callIN (Y := YX4_init) (as := []) (st := [VR (some q12), VI ((x5 + x6) - (x5 + x6) / (60 : Int32) * (60 : Int32)), VR r11]) (a := q12) (n := 0) dX0_next_64 (zX4_init E hs14) rfl rfl cwX4_init rfl tw_227 tw_184 rfl ⟨by decide, by decide⟩ (Nat.le_of_ble_eq_true rfl) ?_
        have hh := b1_some h; clear h; obtain ⟨a16, ha16, h⟩ := hh
        subst ha16
        have hh := b1_some h; clear h; obtain ⟨s17, hs17, h⟩ := hh
        refine EV_sP (t := 6) (ci := 4) (r := rX4) rfl rfl dX0_next_67 hs17 ?_
        exact EV_pick [1, 0] rfl (zX0_next_68 E h)
      · rw [if_neg c10] at h
        exact EV_pick [1, 0] rfl (zX0_next_68 E h)
    · rw [if_neg c4] at h
      exact EV_pick [0] rfl (zX0_next_16 E h)
def mX0_first_35 (pt0 : Option Nat) (s0 : eS) : Option (Option Nat × eS) :=
  (some (pt0, s0))
set_option maxRecDepth 100000 in
set_option maxHeartbeats 4000000 in
theorem zX0_first_35 (E : eE) {pt0 : Option Nat} {s0 s9 : eS} {y : Option Nat} (h : mX0_first_35 pt0 s0 = some (y, s9)) : EV E MX0_first 35 [] [VR pt0] s0 (some (VR y)) s9 := by
  unfold mX0_first_35 at h
  cases h
  exact EV_ret ⟨dX0_first_35, _, rfl⟩ rfl
def mX0_first_19 (h0 : Nat) (s0 : eS) : Option (Option Nat × eS) :=
  (b1 (g_P s0 100 1 h0) fun r1 => (mX0_first_35 r1 s0))
set_option maxRecDepth 100000 in
set_option maxHeartbeats 4000000 in
theorem zX0_first_19 (E : eE) {h0 : Nat} {s0 s9 : eS} {y : Option Nat} (h : mX0_first_19 h0 s0 = some (y, s9)) : EV E MX0_first 19 [(0, VR (some h0))] [] s0 (some (VR y)) s9 := by
  unfold mX0_first_19 at h
  refine EV_aload_n dX0_first_19 rfl ?_
  have hh := b1_some h; clear h; obtain ⟨r1, hr1, h⟩ := hh
  refine EV_getP (ci := 0) (k := 1) dX0_first_20 fl_X0_18 rfl hr1 ?_
  refine EV_goto (tgt := 35) dX0_first_23 (by decide) ?_
  exact EV_pick [] rfl (zX0_first_35 E h)
def mX0_first (h0 : Nat) (s0 : eS) : Option (Option Nat × eS) :=
  (b1 (g_I s0 100 3 h0) fun x1 => (if x1 ≤ 0 then (mX0_first_19 h0 s0) else (b1 (g_P s0 100 0 h0) fun r3 => (b1 (g_I s0 100 2 h0) fun x4 => (b1 r3 fun a5 => (b1 (a_P s0 6 a5 x4) fun r6 => (if r6 = none then (mX0_first_19 h0 s0) else (b1 (g_P s0 100 0 h0) fun r8 => (b1 (g_I s0 100 2 h0) fun x9 => (b1 r8 fun a10 => (b1 (a_P s0 6 a10 x9) fun r11 => (mX0_first_35 r11 s0))))))))))))
set_option maxRecDepth 100000 in
set_option maxHeartbeats 4000000 in
theorem zX0_first (E : eE) {h0 : Nat} {s0 s9 : eS} {y : Option Nat} (h : mX0_first h0 s0 = some (y, s9)) : EM E YX0_first [VR (some h0)] s0 (some (VR y)) s9 := by
  refine EM_of (M := MX0_first) (own := RX0) (ini := false) rfl (by decide +kernel) rfl (fun z => nomatch z) (Nat.le_of_ble_eq_true rfl) ?_
  unfold mX0_first at h
  refine EV_aload_n dX0_first_0 rfl ?_
  have hh := b1_some h; clear h; obtain ⟨x1, hx1, h⟩ := hh
  refine EV_getI (ci := 0) (k := 3) dX0_first_1 fl_X0_26 rfl hx1 ?_
  refine EV_if_le (tgt := 19) dX0_first_4 (by decide) (fun c2 => ?_) (fun c2 => ?_)
  · rw [if_pos c2] at h
    exact EV_pick [0] rfl (zX0_first_19 E h)
  · rw [if_neg c2] at h
    refine EV_aload_n dX0_first_7 rfl ?_
    have hh := b1_some h; clear h; obtain ⟨r3, hr3, h⟩ := hh
    refine EV_getP (ci := 0) (k := 0) dX0_first_8 fl_X0_11 rfl hr3 ?_
    refine EV_aload_n dX0_first_11 rfl ?_
    have hh := b1_some h; clear h; obtain ⟨x4, hx4, h⟩ := hh
    refine EV_getI (ci := 0) (k := 2) dX0_first_12 fl_X0_22 rfl hx4 ?_
    have hh := b1_some h; clear h; obtain ⟨a5, ha5, h⟩ := hh
    subst ha5
    have hh := b1_some h; clear h; obtain ⟨r6, hr6, h⟩ := hh
    refine EV_aP (t := 6) rfl dX0_first_15 hr6 ?_
    refine EV_ifnonnull (tgt := 26) dX0_first_16 (by decide) (fun c7 => ?_) (fun c7 => ?_)
    · rw [if_pos c7] at h
      exact EV_pick [0] rfl (zX0_first_19 E h)
    · rw [if_neg c7] at h
      refine EV_aload_n dX0_first_26 rfl ?_
      have hh := b1_some h; clear h; obtain ⟨r8, hr8, h⟩ := hh
      refine EV_getP (ci := 0) (k := 0) dX0_first_27 fl_X0_11 rfl hr8 ?_
      refine EV_aload_n dX0_first_30 rfl ?_
      have hh := b1_some h; clear h; obtain ⟨x9, hx9, h⟩ := hh
      refine EV_getI (ci := 0) (k := 2) dX0_first_31 fl_X0_22 rfl hx9 ?_
      have hh := b1_some h; clear h; obtain ⟨a10, ha10, h⟩ := hh
      subst ha10
      have hh := b1_some h; clear h; obtain ⟨r11, hr11, h⟩ := hh
      refine EV_aP (t := 6) rfl dX0_first_34 hr11 ?_
      exact EV_pick [] rfl (zX0_first_35 E h)
def mX0_dropFirst_31 (pt0 : Int32) (pt1 : Option Nat) (s0 : eS) : Option eS :=
  (b1 pt1 fun a1 => (b1 (p_I s0 100 2 a1 pt0) fun s2 => (some s2)))
set_option maxRecDepth 100000 in
set_option maxHeartbeats 4000000 in
theorem zX0_dropFirst_31 (E : eE) {pt0 : Int32} {pt1 : Option Nat} {s0 s9 : eS} (h : mX0_dropFirst_31 pt0 pt1 s0 = some s9) : EV E MX0_dropFirst 31 [] [VI pt0, VR pt1] s0 none s9 := by
  unfold mX0_dropFirst_31 at h
  have hh := b1_some h; clear h; obtain ⟨a1, ha1, h⟩ := hh
  subst ha1
  have hh := b1_some h; clear h; obtain ⟨s2, hs2, h⟩ := hh
  refine EV_putI (ci := 0) (k := 2) dX0_dropFirst_31 fp_X0_22 rfl hs2 ?_
  cases h
  exact EV_ret ⟨dX0_dropFirst_34, rfl⟩ rfl
def mX0_dropFirst (h0 : Nat) (s0 : eS) : Option eS :=
  (b1 (g_I s0 100 3 h0) fun x1 => (b1 (p_I s0 100 3 h0 (x1 - (1 : Int32))) fun s2 => (b1 (g_I s2 100 3 h0) fun x3 => (if 0 < x3 then (b1 (g_I s2 100 2 h0) fun x5 => (mX0_dropFirst_31 ((x5 + (1 : Int32)) - (x5 + (1 : Int32)) / (60 : Int32) * (60 : Int32)) (some h0) s2)) else (mX0_dropFirst_31 (0 : Int32) (some h0) s2)))))
set_option maxRecDepth 100000 in
set_option maxHeartbeats 4000000 in
theorem zX0_dropFirst (E : eE) {h0 : Nat} {s0 s9 : eS} (h : mX0_dropFirst h0 s0 = some s9) : EM E YX0_dropFirst [VR (some h0)] s0 none s9 := by
  refine EM_of (M := MX0_dropFirst) (own := RX0) (ini := false) rfl (by decide +kernel) rfl (fun z => nomatch z) (Nat.le_of_ble_eq_true rfl) ?_
  unfold mX0_dropFirst at h
  refine EV_aload_n dX0_dropFirst_0 rfl ?_
  refine EV_dup dX0_dropFirst_1 rfl ?_
  have hh := b1_some h; clear h; obtain ⟨x1, hx1, h⟩ := hh
  refine EV_getI (ci := 0) (k := 3) dX0_dropFirst_2 fl_X0_26 rfl hx1 ?_
  refine EV_iconst (x := (1 : Int32)) dX0_dropFirst_5 (by decide) ?_
  refine EV_isub dX0_dropFirst_6 ?_
  have hh := b1_some h; clear h; obtain ⟨s2, hs2, h⟩ := hh
  refine EV_putI (ci := 0) (k := 3) dX0_dropFirst_7 fp_X0_26 rfl hs2 ?_
  refine EV_aload_n dX0_dropFirst_10 rfl ?_
  refine EV_aload_n dX0_dropFirst_11 rfl ?_
  have hh := b1_some h; clear h; obtain ⟨x3, hx3, h⟩ := hh
  refine EV_getI (ci := 0) (k := 3) dX0_dropFirst_12 fl_X0_26 rfl hx3 ?_
  refine EV_if_gt (tgt := 22) dX0_dropFirst_15 (by decide) (fun c4 => ?_) (fun c4 => ?_)
  · rw [if_pos c4] at h
    refine EV_aload_n dX0_dropFirst_22 rfl ?_
    have hh := b1_some h; clear h; obtain ⟨x5, hx5, h⟩ := hh
    refine EV_getI (ci := 0) (k := 2) dX0_dropFirst_23 fl_X0_22 rfl hx5 ?_
    refine EV_iconst (x := (1 : Int32)) dX0_dropFirst_26 (by decide) ?_
    refine EV_iadd dX0_dropFirst_27 ?_
    refine EV_bipush (x := (60 : Int32)) dX0_dropFirst_28 (by decide) ?_
    refine EV_irem dX0_dropFirst_30 (by decide) ?_
    exact EV_pick [] rfl (zX0_dropFirst_31 E h)
  · rw [if_neg c4] at h
    refine EV_iconst (x := (0 : Int32)) dX0_dropFirst_18 (by decide) ?_
    refine EV_goto (tgt := 31) dX0_dropFirst_19 (by decide) ?_
    exact EV_pick [] rfl (zX0_dropFirst_31 E h)
def mX3_init (h0 : Nat) (s0 : eS) : Option eS :=
  (b2 (n_A s0 4 (52 : Int32)) fun q1 s2 => (b1 (p_P s2 103 0 h0 (some q1)) fun s3 => (b2 (n_A s3 3 (52 : Int32)) fun q4 s5 => (b1 (p_P s5 103 1 h0 (some q4)) fun s6 => (b2 (n_A s6 3 (52 : Int32)) fun q7 s8 => (b1 (p_P s8 103 2 h0 (some q7)) fun s9 => (b2 (n_O s9 104 2) fun q10 s11 => (b1 (mX4_init q10 s11) fun s12 => (b1 (p_P s12 103 3 h0 (some q10)) fun s14 => (some s14))))))))))
set_option maxRecDepth 100000 in
set_option maxHeartbeats 4000000 in
theorem zX3_init (E : eE) {h0 : Nat} {s0 s9 : eS} (h : mX3_init h0 s0 = some s9) : EM E YX3_init [VR (some h0)] s0 none s9 := by
  refine EM_of (M := MX3_init) (own := RX3) (ini := true) rfl (by decide +kernel) rfl (fun _ => rfl) (Nat.le_of_ble_eq_true rfl) ?_
  unfold mX3_init at h
  refine EV_aload_n dX3_init_0 rfl ?_
  refine EV_objInit dX3_init_1 ⟨_, rfl⟩ tw_179 tw_93 tw_94 ⟨by decide, by decide⟩ (Nat.le_of_ble_eq_true rfl) ?_
  refine EV_aload_n dX3_init_4 rfl ?_
  refine EV_bipush (x := (52 : Int32)) dX3_init_5 (by decide) ?_
  have hh := b2_some h; clear h; obtain ⟨q1, s2, hs2, h⟩ := hh
  refine EV_nR (t := 4) (C := "ControlledStation$Point") dX3_init_7 rfl tw_180 tw_102 hs2 ?_
  have hh := b1_some h; clear h; obtain ⟨s3, hs3, h⟩ := hh
  refine EV_putP (ci := 3) (k := 0) dX3_init_10 fp_X3_13i rfl hs3 ?_
  refine EV_aload_n dX3_init_13 rfl ?_
  refine EV_bipush (x := (52 : Int32)) dX3_init_14 (by decide) ?_
  have hh := b2_some h; clear h; obtain ⟨q4, s5, hs5, h⟩ := hh
  refine EV_nA (t := 3) (ty := .long) dX3_init_16 rfl rfl (by decide) tw_195 hs5 ?_
  have hh := b1_some h; clear h; obtain ⟨s6, hs6, h⟩ := hh
  refine EV_putP (ci := 3) (k := 1) dX3_init_18 fp_X3_17i rfl hs6 ?_
  refine EV_aload_n dX3_init_21 rfl ?_
  refine EV_bipush (x := (52 : Int32)) dX3_init_22 (by decide) ?_
  have hh := b2_some h; clear h; obtain ⟨q7, s8, hs8, h⟩ := hh
  refine EV_nA (t := 3) (ty := .long) dX3_init_24 rfl rfl (by decide) tw_195 hs8 ?_
  have hh := b1_some h; clear h; obtain ⟨s9, hs9, h⟩ := hh
  refine EV_putP (ci := 3) (k := 2) dX3_init_26 fp_X3_21i rfl hs9 ?_
  refine EV_aload_n dX3_init_29 rfl ?_
  have hh := b2_some h; clear h; obtain ⟨q10, s11, hs11, h⟩ := hh
  refine EV_nO (ci := 4) (r := rX4) dX3_init_30 eX_4 rfl tw_181 tw_182 tw_77 eXf_4 hs11 ?_
  refine EV_dup dX3_init_33 rfl ?_
  have hh := b1_some h; clear h; obtain ⟨s12, hs12, h⟩ := hh
  refine EV_callIN (Y := YX4_init) (as := []) (st := [VR (some q10), VR (some h0)]) (a := q10) (n := 0) dX3_init_34 (zX4_init E hs12) rfl rfl cwX4_init rfl tw_183 tw_184 rfl ⟨by decide, by decide⟩ (Nat.le_of_ble_eq_true rfl) ?_
  have hh := b1_some h; clear h; obtain ⟨s14, hs14, h⟩ := hh
  refine EV_putP (ci := 3) (k := 3) dX3_init_37 fp_X3_27i rfl hs14 ?_
  cases h
  exact EV_ret ⟨dX3_init_40, rfl⟩ rfl
def mX3_waiting (h0 : Nat) (s0 : eS) : Option (Int32 × eS) :=
  (b1 (g_I s0 103 5 h0) fun x1 => (b1 (g_I s0 103 6 h0) fun x2 => (some ((x1 - x2), s0))))
set_option maxRecDepth 100000 in
set_option maxHeartbeats 4000000 in
theorem zX3_waiting (E : eE) {h0 : Nat} {s0 s9 : eS} {y : Int32} (h : mX3_waiting h0 s0 = some (y, s9)) : EM E YX3_waiting [VR (some h0)] s0 (some (VI y)) s9 := by
  refine EM_of (M := MX3_waiting) (own := RX3) (ini := false) rfl (by decide +kernel) rfl (fun z => nomatch z) (Nat.le_of_ble_eq_true rfl) ?_
  unfold mX3_waiting at h
  refine EV_aload_n dX3_waiting_0 rfl ?_
  have hh := b1_some h; clear h; obtain ⟨x1, hx1, h⟩ := hh
  refine EV_getI (ci := 3) (k := 5) dX3_waiting_1 fl_X3_31 rfl hx1 ?_
  refine EV_aload_n dX3_waiting_4 rfl ?_
  have hh := b1_some h; clear h; obtain ⟨x2, hx2, h⟩ := hh
  refine EV_getI (ci := 3) (k := 6) dX3_waiting_5 fl_X3_35 rfl hx2 ?_
  refine EV_isub dX3_waiting_8 ?_
  cases h
  exact EV_ret ⟨dX3_waiting_9, .int, rfl, rfl⟩ rfl
def mX3_add (h0 : Nat) (pr1 : Option Nat) (pl2 : Int64) (pl4 : Int64) (s0 : eS) : Option eS :=
  (b1 (g_I s0 103 5 h0) fun x1 => (if x1 < (52 : Int32) then (b1 (g_I s0 103 4 h0) fun x3 => (b1 (g_I s0 103 5 h0) fun x4 => (b1 (g_P s0 103 0 h0) fun r5 => (b1 r5 fun a6 => (b1 pr1 fun a8 => (b1 (s_P s0 4 106 a6 ((x3 + x4) - (x3 + x4) / (52 : Int32) * (52 : Int32)) a8) fun s7 => (b1 (g_P s7 103 1 h0) fun r9 => (b1 r9 fun a10 => (b1 (s_L s7 3 a10 ((x3 + x4) - (x3 + x4) / (52 : Int32) * (52 : Int32)) pl2) fun s11 => (b1 (g_P s11 103 2 h0) fun r12 => (b1 r12 fun a13 => (b1 (s_L s11 3 a13 ((x3 + x4) - (x3 + x4) / (52 : Int32) * (52 : Int32)) pl4) fun s14 => (b1 (g_I s14 103 5 h0) fun x15 => (b1 (p_I s14 103 5 h0 (x15 + (1 : Int32))) fun s16 => (some s16))))))))))))))) else (some s0)))
set_option maxRecDepth 100000 in
set_option maxHeartbeats 4000000 in
theorem zX3_add (E : eE) {h0 : Nat} {pr1 : Option Nat} {pl2 : Int64} {pl4 : Int64} {s0 s9 : eS} (h : mX3_add h0 pr1 pl2 pl4 s0 = some s9) : EM E YX3_add [VR (some h0), VR pr1, VL pl2, VL pl4] s0 none s9 := by
  refine EM_of (M := MX3_add) (own := RX3) (ini := false) rfl (by decide +kernel) rfl (fun z => nomatch z) (Nat.le_of_ble_eq_true rfl) ?_
  unfold mX3_add at h
  refine EV_aload_n dX3_add_0 rfl ?_
  have hh := b1_some h; clear h; obtain ⟨x1, hx1, h⟩ := hh
  refine EV_getI (ci := 3) (k := 5) dX3_add_1 fl_X3_31 rfl hx1 ?_
  refine EV_bipush (x := (52 : Int32)) dX3_add_4 (by decide) ?_
  refine EV_icmp_lt (tgt := 10) dX3_add_6 (by decide) (fun c2 => ?_) (fun c2 => ?_)
  · rw [if_pos c2] at h
    refine EV_aload_n dX3_add_10 rfl ?_
    have hh := b1_some h; clear h; obtain ⟨x3, hx3, h⟩ := hh
    refine EV_getI (ci := 3) (k := 4) dX3_add_11 fl_X3_38 rfl hx3 ?_
    refine EV_aload_n dX3_add_14 rfl ?_
    have hh := b1_some h; clear h; obtain ⟨x4, hx4, h⟩ := hh
    refine EV_getI (ci := 3) (k := 5) dX3_add_15 fl_X3_31 rfl hx4 ?_
    refine EV_iadd dX3_add_18 ?_
    refine EV_bipush (x := (52 : Int32)) dX3_add_19 (by decide) ?_
    refine EV_irem dX3_add_21 (by decide) ?_
    refine EV_istore (lv2 := [(6, VI ((x3 + x4) - (x3 + x4) / (52 : Int32) * (52 : Int32))), (0, VR (some h0)), (1, VR pr1), (2, VL pl2), (4, VL pl4)]) dX3_add_22 (by decide) rfl ?_
    refine EV_aload_n dX3_add_24 rfl ?_
    have hh := b1_some h; clear h; obtain ⟨r5, hr5, h⟩ := hh
    refine EV_getP (ci := 3) (k := 0) dX3_add_25 fl_X3_13 rfl hr5 ?_
    refine EV_iload dX3_add_28 rfl ?_
    refine EV_aload_n dX3_add_30 rfl ?_
    have hh := b1_some h; clear h; obtain ⟨a6, ha6, h⟩ := hh
    subst ha6
    have hh := b1_some h; clear h; obtain ⟨a8, ha8, h⟩ := hh
    subst ha8
    have hh := b1_some h; clear h; obtain ⟨s7, hs7, h⟩ := hh
    refine EV_sP (t := 4) (ci := 6) (r := rX6) rfl rfl dX3_add_31 hs7 ?_
    refine EV_aload_n dX3_add_32 rfl ?_
    have hh := b1_some h; clear h; obtain ⟨r9, hr9, h⟩ := hh
    refine EV_getP (ci := 3) (k := 1) dX3_add_33 fl_X3_17 rfl hr9 ?_
    refine EV_iload dX3_add_36 rfl ?_
    refine EV_lload_n dX3_add_38 rfl ?_
    have hh := b1_some h; clear h; obtain ⟨a10, ha10, h⟩ := hh
    subst ha10
    have hh := b1_some h; clear h; obtain ⟨s11, hs11, h⟩ := hh
    refine EV_sL (t := 3) rfl dX3_add_39 hs11 ?_
    refine EV_aload_n dX3_add_40 rfl ?_
    have hh := b1_some h; clear h; obtain ⟨r12, hr12, h⟩ := hh
    refine EV_getP (ci := 3) (k := 2) dX3_add_41 fl_X3_21 rfl hr12 ?_
    refine EV_iload dX3_add_44 rfl ?_
    refine EV_lload dX3_add_46 rfl ?_
    have hh := b1_some h; clear h; obtain ⟨a13, ha13, h⟩ := hh
    subst ha13
    have hh := b1_some h; clear h; obtain ⟨s14, hs14, h⟩ := hh
    refine EV_sL (t := 3) rfl dX3_add_48 hs14 ?_
    refine EV_aload_n dX3_add_49 rfl ?_
    refine EV_dup dX3_add_50 rfl ?_
    have hh := b1_some h; clear h; obtain ⟨x15, hx15, h⟩ := hh
    refine EV_getI (ci := 3) (k := 5) dX3_add_51 fl_X3_31 rfl hx15 ?_
    refine EV_iconst (x := (1 : Int32)) dX3_add_54 (by decide) ?_
    refine EV_iadd dX3_add_55 ?_
    have hh := b1_some h; clear h; obtain ⟨s16, hs16, h⟩ := hh
    refine EV_putI (ci := 3) (k := 5) dX3_add_56 fp_X3_31 rfl hs16 ?_
    cases h
    exact EV_ret ⟨dX3_add_59, rfl⟩ rfl
  · rw [if_neg c2] at h
    cases h
    exact EV_ret ⟨dX3_add_9, rfl⟩ rfl
def mX3_next_120 (h0 : Nat) (s0 : eS) : Option (Option Nat × eS) :=
  (b1 (g_P s0 103 3 h0) fun r1 => (some (r1, s0)))
set_option maxRecDepth 100000 in
set_option maxHeartbeats 4000000 in
theorem zX3_next_120 (E : eE) {h0 : Nat} {s0 s9 : eS} {y : Option Nat} (h : mX3_next_120 h0 s0 = some (y, s9)) : EV E MX3_next 120 [(0, VR (some h0))] [] s0 (some (VR y)) s9 := by
  unfold mX3_next_120 at h
  refine EV_aload_n dX3_next_120 rfl ?_
  have hh := b1_some h; clear h; obtain ⟨r1, hr1, h⟩ := hh
  refine EV_getP (ci := 3) (k := 3) dX3_next_121 fl_X3_27 rfl hr1 ?_
  cases h
  exact EV_ret ⟨dX3_next_124, _, rfl⟩ rfl
def mX3_next_62 (h0 : Nat) (pi1 : Int32) (pi2 : Int32) (pr3 : Option Nat) (pt0 : Int32) (s0 : eS) : Option (Option Nat × eS) :=
  (b1 (g_P s0 103 3 h0) fun r1 => (b2 (mX11_objectHead pt0 (3 : Int32) (0 : Int32) pi1 s0) fun x3 s2 => (b1 r1 fun a4 => (b1 (o_K s2 104 a4) fun u29 => (b1 (mX4_add a4 x3 (6 : Int32) s2) fun s5 => (b1 (g_P s5 103 3 h0) fun r7 => (b1 (g_P s5 103 1 h0) fun r8 => (b1 r8 fun a9 => (b1 (a_L s5 3 a9 pi2) fun x10 => (b1 pr3 fun a11 => (b1 (o_K s5 106 a11) fun u28 => (b2 (mX6_objectBytes a11 s5) fun x13 s12 => (b1 r7 fun a14 => (b1 (o_K s12 104 a14) fun u27 => (b1 (mX4_add a14 x10 x13 s12) fun s15 => (b1 (g_I s15 106 3 a11) fun x17 => (if x17 = 0 then (mX3_next_120 h0 s15) else (b1 (g_P s15 103 3 h0) fun r19 => (b1 (g_P s15 103 2 h0) fun r20 => (b1 r20 fun a21 => (b1 (a_L s15 3 a21 pi2) fun x22 => (b1 r19 fun a23 => (b1 (o_K s15 104 a23) fun u26 => (b1 (mX4_add a23 x22 (7 : Int32) s15) fun s24 => (mX3_next_120 h0 s24)))))))))))))))))))))))))
set_option maxRecDepth 100000 in
set_option maxHeartbeats 4000000 in
theorem zX3_next_62 (E : eE) {h0 : Nat} {pi1 : Int32} {pi2 : Int32} {pr3 : Option Nat} {pt0 : Int32} {s0 s9 : eS} {y : Option Nat} (h : mX3_next_62 h0 pi1 pi2 pr3 pt0 s0 = some (y, s9)) : EV E MX3_next 62 [(0, VR (some h0)), (1, VI pi1), (2, VI pi2), (3, VR pr3)] [VI pt0] s0 (some (VR y)) s9 := by
  unfold mX3_next_62 at h
  refine EV_istore (lv2 := [(4, VI pt0), (0, VR (some h0)), (1, VI pi1), (2, VI pi2), (3, VR pr3)]) dX3_next_62 (by decide) rfl ?_
  refine EV_aload_n dX3_next_64 rfl ?_
  have hh := b1_some h; clear h; obtain ⟨r1, hr1, h⟩ := hh
  refine EV_getP (ci := 3) (k := 3) dX3_next_65 fl_X3_27 rfl hr1 ?_
  refine EV_iload dX3_next_68 rfl ?_
  refine EV_iconst (x := (3 : Int32)) dX3_next_70 (by decide) ?_
  refine EV_iconst (x := (0 : Int32)) dX3_next_71 (by decide) ?_
  refine EV_iload_n dX3_next_72 rfl ?_
  have hh := b2_some h; clear h; obtain ⟨x3, s2, hs2, h⟩ := hh
  refine EV_callSN (Y := YX11_objectHead) (as := [VI pt0, VI (3 : Int32), VI (0 : Int32), VI pi1]) (st := [VR r1]) (st2 := [VL x3, VR r1]) (n := 4) dX3_next_73 (zX11_objectHead E hs2) rfl cwX11_objectHead rfl tw_592 tw_593 ⟨by decide, by decide⟩ (Nat.le_of_ble_eq_true rfl) rfl ?_
  refine EV_bipush (x := (6 : Int32)) dX3_next_76 (by decide) ?_
  have hh := b1_some h; clear h; obtain ⟨a4, ha4, h⟩ := hh
  subst ha4
  have hh := b1_some h; clear h; obtain ⟨u29, hu29, h⟩ := hh
  have hh := b1_some h; clear h; obtain ⟨s5, hs5, h⟩ := hh
  refine EV_callV (Y := YX4_add) (as := [VL x3, VI (6 : Int32)]) (st := []) (st2 := []) (a := a4) (ci := 4) (r := rX4) (n := 2) dX3_next_78 (zX4_add E hs5) rfl cwX4_add rfl tw_595 tw_596 tw_597 rfl (e_if hu29).1.1 (e_if hu29).1.2 ⟨by decide, by decide⟩ (Nat.le_of_ble_eq_true rfl) rfl ?_
  refine EV_aload_n dX3_next_81 rfl ?_
  have hh := b1_some h; clear h; obtain ⟨r7, hr7, h⟩ := hh
  refine EV_getP (ci := 3) (k := 3) dX3_next_82 fl_X3_27 rfl hr7 ?_
  refine EV_aload_n dX3_next_85 rfl ?_
  have hh := b1_some h; clear h; obtain ⟨r8, hr8, h⟩ := hh
  refine EV_getP (ci := 3) (k := 1) dX3_next_86 fl_X3_17 rfl hr8 ?_
  refine EV_iload_n dX3_next_89 rfl ?_
  have hh := b1_some h; clear h; obtain ⟨a9, ha9, h⟩ := hh
  subst ha9
  have hh := b1_some h; clear h; obtain ⟨x10, hx10, h⟩ := hh
  refine EV_aL (t := 3) rfl dX3_next_90 hx10 ?_
  refine EV_aload_n dX3_next_91 rfl ?_
  have hh := b1_some h; clear h; obtain ⟨a11, ha11, h⟩ := hh
  subst ha11
  have hh := b1_some h; clear h; obtain ⟨u28, hu28, h⟩ := hh
  have hh := b2_some h; clear h; obtain ⟨x13, s12, hs12, h⟩ := hh
  refine EV_callV (Y := YX6_objectBytes) (as := []) (st := [VL x10, VR r7]) (st2 := [VI x13, VL x10, VR r7]) (a := a11) (ci := 6) (r := rX6) (n := 0) dX3_next_92 (zX6_objectBytes E hs12) rfl cwX6_objectBytes rfl tw_599 tw_600 tw_601 rfl (e_if hu28).1.1 (e_if hu28).1.2 ⟨by decide, by decide⟩ (Nat.le_of_ble_eq_true rfl) rfl ?_
  have hh := b1_some h; clear h; obtain ⟨a14, ha14, h⟩ := hh
  subst ha14
  have hh := b1_some h; clear h; obtain ⟨u27, hu27, h⟩ := hh
  have hh := b1_some h; clear h; obtain ⟨s15, hs15, h⟩ := hh
  refine EV_callV (Y := YX4_add) (as := [VL x10, VI x13]) (st := []) (st2 := []) (a := a14) (ci := 4) (r := rX4) (n := 2) dX3_next_95 (zX4_add E hs15) rfl cwX4_add rfl tw_595 tw_596 tw_597 rfl (e_if hu27).1.1 (e_if hu27).1.2 ⟨by decide, by decide⟩ (Nat.le_of_ble_eq_true rfl) rfl ?_
  refine EV_aload_n dX3_next_98 rfl ?_
  have hh := b1_some h; clear h; obtain ⟨x17, hx17, h⟩ := hh
  refine EV_getI (ci := 6) (k := 3) dX3_next_99 fl_X3_44 rfl hx17 ?_
  refine EV_if_eq (tgt := 120) dX3_next_102 (by decide) (fun c18 => ?_) (fun c18 => ?_)
  · rw [if_pos c18] at h
    exact EV_pick [1] rfl (zX3_next_120 E h)
  · rw [if_neg c18] at h
    refine EV_aload_n dX3_next_105 rfl ?_
    have hh := b1_some h; clear h; obtain ⟨r19, hr19, h⟩ := hh
    refine EV_getP (ci := 3) (k := 3) dX3_next_106 fl_X3_27 rfl hr19 ?_
    refine EV_aload_n dX3_next_109 rfl ?_
    have hh := b1_some h; clear h; obtain ⟨r20, hr20, h⟩ := hh
    refine EV_getP (ci := 3) (k := 2) dX3_next_110 fl_X3_21 rfl hr20 ?_
    refine EV_iload_n dX3_next_113 rfl ?_
    have hh := b1_some h; clear h; obtain ⟨a21, ha21, h⟩ := hh
    subst ha21
    have hh := b1_some h; clear h; obtain ⟨x22, hx22, h⟩ := hh
    refine EV_aL (t := 3) rfl dX3_next_114 hx22 ?_
    refine EV_bipush (x := (7 : Int32)) dX3_next_115 (by decide) ?_
    have hh := b1_some h; clear h; obtain ⟨a23, ha23, h⟩ := hh
    subst ha23
    have hh := b1_some h; clear h; obtain ⟨u26, hu26, h⟩ := hh
    have hh := b1_some h; clear h; obtain ⟨s24, hs24, h⟩ := hh
    refine EV_callV (Y := YX4_add) (as := [VL x22, VI (7 : Int32)]) (st := []) (st2 := []) (a := a23) (ci := 4) (r := rX4) (n := 2) dX3_next_117 (zX4_add E hs24) rfl cwX4_add rfl tw_595 tw_596 tw_597 rfl (e_if hu26).1.1 (e_if hu26).1.2 ⟨by decide, by decide⟩ (Nat.le_of_ble_eq_true rfl) rfl ?_
    exact EV_pick [1] rfl (zX3_next_120 E h)
def mX3_next (h0 : Nat) (pi1 : Int32) (s0 : eS) : Option (Option Nat × eS) :=
  (b1 (g_I s0 103 4 h0) fun x1 => (b1 (g_I s0 103 6 h0) fun x2 => (b1 (g_P s0 103 0 h0) fun r3 => (b1 r3 fun a4 => (b1 (a_P s0 4 a4 ((x1 + x2) - (x1 + x2) / (52 : Int32) * (52 : Int32))) fun r5 => (b1 (g_P s0 103 3 h0) fun r6 => (b1 r6 fun a7 => (b1 (o_K s0 104 a7) fun u16 => (b1 (mX4_clear a7 s0) fun s8 => (if r5 = none then (b1 (g_P s8 103 3 h0) fun r11 => (some (r11, s8))) else (b1 r5 fun a11 => (b1 (g_I s8 106 3 a11) fun x12 => (if x12 = 0 then (b1 (g_I s8 106 0 a11) fun x14 => (b1 (t_I tb_9 x14) fun x15 => (mX3_next_62 h0 pi1 ((x1 + x2) - (x1 + x2) / (52 : Int32) * (52 : Int32)) (some a11) x15 s8))) else (b1 (g_I s8 106 0 a11) fun x14 => (b1 (t_I tb_8 x14) fun x15 => (mX3_next_62 h0 pi1 ((x1 + x2) - (x1 + x2) / (52 : Int32) * (52 : Int32)) (some a11) x15 s8))))))))))))))))
set_option maxRecDepth 100000 in
set_option maxHeartbeats 4000000 in
theorem zX3_next (E : eE) {h0 : Nat} {pi1 : Int32} {s0 s9 : eS} {y : Option Nat} (h : mX3_next h0 pi1 s0 = some (y, s9)) : EM E YX3_next [VR (some h0), VI pi1] s0 (some (VR y)) s9 := by
  refine EM_of (M := MX3_next) (own := RX3) (ini := false) rfl (by decide +kernel) rfl (fun z => nomatch z) (Nat.le_of_ble_eq_true rfl) ?_
  unfold mX3_next at h
  refine EV_aload_n dX3_next_0 rfl ?_
  have hh := b1_some h; clear h; obtain ⟨x1, hx1, h⟩ := hh
  refine EV_getI (ci := 3) (k := 4) dX3_next_1 fl_X3_38 rfl hx1 ?_
  refine EV_aload_n dX3_next_4 rfl ?_
  have hh := b1_some h; clear h; obtain ⟨x2, hx2, h⟩ := hh
  refine EV_getI (ci := 3) (k := 6) dX3_next_5 fl_X3_35 rfl hx2 ?_
  refine EV_iadd dX3_next_8 ?_
  refine EV_bipush (x := (52 : Int32)) dX3_next_9 (by decide) ?_
  refine EV_irem dX3_next_11 (by decide) ?_
  refine EV_istore_n (lv2 := [(2, VI ((x1 + x2) - (x1 + x2) / (52 : Int32) * (52 : Int32))), (0, VR (some h0)), (1, VI pi1)]) dX3_next_12 (by decide) rfl ?_
  refine EV_aload_n dX3_next_13 rfl ?_
  have hh := b1_some h; clear h; obtain ⟨r3, hr3, h⟩ := hh
  refine EV_getP (ci := 3) (k := 0) dX3_next_14 fl_X3_13 rfl hr3 ?_
  refine EV_iload_n dX3_next_17 rfl ?_
  have hh := b1_some h; clear h; obtain ⟨a4, ha4, h⟩ := hh
  subst ha4
  have hh := b1_some h; clear h; obtain ⟨r5, hr5, h⟩ := hh
  refine EV_aP (t := 4) rfl dX3_next_18 hr5 ?_
  refine EV_astore_n (lv2 := [(3, VR r5), (2, VI ((x1 + x2) - (x1 + x2) / (52 : Int32) * (52 : Int32))), (0, VR (some h0)), (1, VI pi1)]) dX3_next_19 (by decide) rfl ?_
  refine EV_aload_n dX3_next_20 rfl ?_
  have hh := b1_some h; clear h; obtain ⟨r6, hr6, h⟩ := hh
  refine EV_getP (ci := 3) (k := 3) dX3_next_21 fl_X3_27 rfl hr6 ?_
  have hh := b1_some h; clear h; obtain ⟨a7, ha7, h⟩ := hh
  subst ha7
  have hh := b1_some h; clear h; obtain ⟨u16, hu16, h⟩ := hh
  have hh := b1_some h; clear h; obtain ⟨s8, hs8, h⟩ := hh
  refine EV_callV (Y := YX4_clear) (as := []) (st := []) (st2 := []) (a := a7) (ci := 4) (r := rX4) (n := 0) dX3_next_24 (zX4_clear E hs8) rfl cwX4_clear rfl tw_584 tw_585 tw_586 rfl (e_if hu16).1.1 (e_if hu16).1.2 ⟨by decide, by decide⟩ (Nat.le_of_ble_eq_true rfl) rfl ?_
  refine EV_aload_n dX3_next_27 rfl ?_
  refine EV_ifnonnull (tgt := 36) dX3_next_28 (by decide) (fun c10 => ?_) (fun c10 => ?_)
  · rw [if_pos c10] at h
    refine EV_aload_n dX3_next_31 rfl ?_
    have hh := b1_some h; clear h; obtain ⟨r11, hr11, h⟩ := hh
    refine EV_getP (ci := 3) (k := 3) dX3_next_32 fl_X3_27 rfl hr11 ?_
    cases h
    exact EV_ret ⟨dX3_next_35, _, rfl⟩ rfl
  · rw [if_neg c10] at h
    refine EV_aload_n dX3_next_36 rfl ?_
    have hh := b1_some h; clear h; obtain ⟨a11, ha11, h⟩ := hh
    subst ha11
    have hh := b1_some h; clear h; obtain ⟨x12, hx12, h⟩ := hh
    refine EV_getI (ci := 6) (k := 3) dX3_next_37 fl_X3_44 rfl hx12 ?_
    refine EV_if_eq (tgt := 54) dX3_next_40 (by decide) (fun c13 => ?_) (fun c13 => ?_)
    · rw [if_pos c13] at h
      refine EV_getsN (j := 9) (r := st_9) dX3_next_54 rfl tw_590 ?_
      refine EV_aload_n dX3_next_57 rfl ?_
      have hh := b1_some h; clear h; obtain ⟨x14, hx14, h⟩ := hh
      refine EV_getI (ci := 6) (k := 0) dX3_next_58 fl_X3_52 rfl hx14 ?_
      have hh := b1_some h; clear h; obtain ⟨x15, hx15, h⟩ := hh
      refine EV_tabI (j := 9) (r := st_9) (l := tb_9) dX3_next_61 rfl rfl hx15 ?_
      exact EV_pick [2, 3, 1, 0] rfl (zX3_next_62 E h)
    · rw [if_neg c13] at h
      refine EV_getsN (j := 8) (r := st_8) dX3_next_43 rfl tw_588 ?_
      refine EV_aload_n dX3_next_46 rfl ?_
      have hh := b1_some h; clear h; obtain ⟨x14, hx14, h⟩ := hh
      refine EV_getI (ci := 6) (k := 0) dX3_next_47 fl_X3_52 rfl hx14 ?_
      have hh := b1_some h; clear h; obtain ⟨x15, hx15, h⟩ := hh
      refine EV_tabI (j := 8) (r := st_8) (l := tb_8) dX3_next_50 rfl rfl hx15 ?_
      refine EV_goto (tgt := 62) dX3_next_51 (by decide) ?_
      exact EV_pick [2, 3, 1, 0] rfl (zX3_next_62 E h)
def mX3_nextWasSent (h0 : Nat) (s0 : eS) : Option eS :=
  (b1 (g_I s0 103 6 h0) fun x1 => (b1 (p_I s0 103 6 h0 (x1 + (1 : Int32))) fun s2 => (some s2)))
set_option maxRecDepth 100000 in
set_option maxHeartbeats 4000000 in
theorem zX3_nextWasSent (E : eE) {h0 : Nat} {s0 s9 : eS} (h : mX3_nextWasSent h0 s0 = some s9) : EM E YX3_nextWasSent [VR (some h0)] s0 none s9 := by
  refine EM_of (M := MX3_nextWasSent) (own := RX3) (ini := false) rfl (by decide +kernel) rfl (fun z => nomatch z) (Nat.le_of_ble_eq_true rfl) ?_
  unfold mX3_nextWasSent at h
  refine EV_aload_n dX3_nextWasSent_0 rfl ?_
  refine EV_dup dX3_nextWasSent_1 rfl ?_
  have hh := b1_some h; clear h; obtain ⟨x1, hx1, h⟩ := hh
  refine EV_getI (ci := 3) (k := 6) dX3_nextWasSent_2 fl_X3_35 rfl hx1 ?_
  refine EV_iconst (x := (1 : Int32)) dX3_nextWasSent_5 (by decide) ?_
  refine EV_iadd dX3_nextWasSent_6 ?_
  have hh := b1_some h; clear h; obtain ⟨s2, hs2, h⟩ := hh
  refine EV_putI (ci := 3) (k := 6) dX3_nextWasSent_7 fp_X3_35 rfl hs2 ?_
  cases h
  exact EV_ret ⟨dX3_nextWasSent_10, rfl⟩ rfl
def mX3_dropEldest_40 (s0 : eS) : Option eS :=
  (some s0)
set_option maxRecDepth 100000 in
set_option maxHeartbeats 4000000 in
theorem zX3_dropEldest_40 (E : eE) {s0 s9 : eS} (h : mX3_dropEldest_40 s0 = some s9) : EV E MX3_dropEldest 40 [] [] s0 none s9 := by
  unfold mX3_dropEldest_40 at h
  cases h
  exact EV_ret ⟨dX3_dropEldest_40, rfl⟩ rfl
def mX3_dropEldest (h0 : Nat) (s0 : eS) : Option eS :=
  (b1 (g_I s0 103 6 h0) fun x1 => (if x1 ≤ 0 then (mX3_dropEldest_40 s0) else (b1 (g_I s0 103 4 h0) fun x3 => (b1 (p_I s0 103 4 h0 ((x3 + (1 : Int32)) - (x3 + (1 : Int32)) / (52 : Int32) * (52 : Int32))) fun s4 => (b1 (g_I s4 103 5 h0) fun x5 => (b1 (p_I s4 103 5 h0 (x5 - (1 : Int32))) fun s6 => (b1 (g_I s6 103 6 h0) fun x7 => (b1 (p_I s6 103 6 h0 (x7 - (1 : Int32))) fun s8 => (mX3_dropEldest_40 s8)))))))))
set_option maxRecDepth 100000 in
set_option maxHeartbeats 4000000 in
theorem zX3_dropEldest (E : eE) {h0 : Nat} {s0 s9 : eS} (h : mX3_dropEldest h0 s0 = some s9) : EM E YX3_dropEldest [VR (some h0)] s0 none s9 := by
  refine EM_of (M := MX3_dropEldest) (own := RX3) (ini := false) rfl (by decide +kernel) rfl (fun z => nomatch z) (Nat.le_of_ble_eq_true rfl) ?_
  unfold mX3_dropEldest at h
  refine EV_aload_n dX3_dropEldest_0 rfl ?_
  have hh := b1_some h; clear h; obtain ⟨x1, hx1, h⟩ := hh
  refine EV_getI (ci := 3) (k := 6) dX3_dropEldest_1 fl_X3_35 rfl hx1 ?_
  refine EV_if_le (tgt := 40) dX3_dropEldest_4 (by decide) (fun c2 => ?_) (fun c2 => ?_)
  · rw [if_pos c2] at h
    exact EV_pick [] rfl (zX3_dropEldest_40 E h)
  · rw [if_neg c2] at h
    refine EV_aload_n dX3_dropEldest_7 rfl ?_
    refine EV_aload_n dX3_dropEldest_8 rfl ?_
    have hh := b1_some h; clear h; obtain ⟨x3, hx3, h⟩ := hh
    refine EV_getI (ci := 3) (k := 4) dX3_dropEldest_9 fl_X3_38 rfl hx3 ?_
    refine EV_iconst (x := (1 : Int32)) dX3_dropEldest_12 (by decide) ?_
    refine EV_iadd dX3_dropEldest_13 ?_
    refine EV_bipush (x := (52 : Int32)) dX3_dropEldest_14 (by decide) ?_
    refine EV_irem dX3_dropEldest_16 (by decide) ?_
    have hh := b1_some h; clear h; obtain ⟨s4, hs4, h⟩ := hh
    refine EV_putI (ci := 3) (k := 4) dX3_dropEldest_17 fp_X3_38 rfl hs4 ?_
    refine EV_aload_n dX3_dropEldest_20 rfl ?_
    refine EV_dup dX3_dropEldest_21 rfl ?_
    have hh := b1_some h; clear h; obtain ⟨x5, hx5, h⟩ := hh
    refine EV_getI (ci := 3) (k := 5) dX3_dropEldest_22 fl_X3_31 rfl hx5 ?_
    refine EV_iconst (x := (1 : Int32)) dX3_dropEldest_25 (by decide) ?_
    refine EV_isub dX3_dropEldest_26 ?_
    have hh := b1_some h; clear h; obtain ⟨s6, hs6, h⟩ := hh
    refine EV_putI (ci := 3) (k := 5) dX3_dropEldest_27 fp_X3_31 rfl hs6 ?_
    refine EV_aload_n dX3_dropEldest_30 rfl ?_
    refine EV_dup dX3_dropEldest_31 rfl ?_
    have hh := b1_some h; clear h; obtain ⟨x7, hx7, h⟩ := hh
    refine EV_getI (ci := 3) (k := 6) dX3_dropEldest_32 fl_X3_35 rfl hx7 ?_
    refine EV_iconst (x := (1 : Int32)) dX3_dropEldest_35 (by decide) ?_
    refine EV_isub dX3_dropEldest_36 ?_
    have hh := b1_some h; clear h; obtain ⟨s8, hs8, h⟩ := hh
    refine EV_putI (ci := 3) (k := 6) dX3_dropEldest_37 fp_X3_35 rfl hs8 ?_
    exact EV_pick [] rfl (zX3_dropEldest_40 E h)
def mX3_waitAgain (h0 : Nat) (s0 : eS) : Option eS :=
  (b1 (p_I s0 103 6 h0 (0 : Int32)) fun s1 => (some s1))
set_option maxRecDepth 100000 in
set_option maxHeartbeats 4000000 in
theorem zX3_waitAgain (E : eE) {h0 : Nat} {s0 s9 : eS} (h : mX3_waitAgain h0 s0 = some s9) : EM E YX3_waitAgain [VR (some h0)] s0 none s9 := by
  refine EM_of (M := MX3_waitAgain) (own := RX3) (ini := false) rfl (by decide +kernel) rfl (fun z => nomatch z) (Nat.le_of_ble_eq_true rfl) ?_
  unfold mX3_waitAgain at h
  refine EV_aload_n dX3_waitAgain_0 rfl ?_
  refine EV_iconst (x := (0 : Int32)) dX3_waitAgain_1 (by decide) ?_
  have hh := b1_some h; clear h; obtain ⟨s1, hs1, h⟩ := hh
  refine EV_putI (ci := 3) (k := 6) dX3_waitAgain_2 fp_X3_35 rfl hs1 ?_
  cases h
  exact EV_ret ⟨dX3_waitAgain_5, rfl⟩ rfl
def mX8_init (h0 : Nat) (s0 : eS) : Option eS :=
  (b2 (n_O s0 104 2) fun q1 s2 => (b1 (mX4_init q1 s2) fun s3 => (b1 (p_P s3 108 0 h0 (some q1)) fun s5 => (some s5))))
set_option maxRecDepth 100000 in
set_option maxHeartbeats 4000000 in
theorem zX8_init (E : eE) {h0 : Nat} {s0 s9 : eS} (h : mX8_init h0 s0 = some s9) : EM E YX8_init [VR (some h0)] s0 none s9 := by
  refine EM_of (M := MX8_init) (own := RX8) (ini := true) rfl (by decide +kernel) rfl (fun _ => rfl) (Nat.le_of_ble_eq_true rfl) ?_
  unfold mX8_init at h
  refine EV_aload_n dX8_init_0 rfl ?_
  refine EV_objInit dX8_init_1 ⟨_, rfl⟩ tw_251 tw_93 tw_94 ⟨by decide, by decide⟩ (Nat.le_of_ble_eq_true rfl) ?_
  refine EV_aload_n dX8_init_4 rfl ?_
  have hh := b2_some h; clear h; obtain ⟨q1, s2, hs2, h⟩ := hh
  refine EV_nO (ci := 4) (r := rX4) dX8_init_5 eX_4 rfl tw_252 tw_182 tw_77 eXf_4 hs2 ?_
  refine EV_dup dX8_init_8 rfl ?_
  have hh := b1_some h; clear h; obtain ⟨s3, hs3, h⟩ := hh
  refine EV_callIN (Y := YX4_init) (as := []) (st := [VR (some q1), VR (some h0)]) (a := q1) (n := 0) dX8_init_9 (zX4_init E hs3) rfl rfl cwX4_init rfl tw_253 tw_184 rfl ⟨by decide, by decide⟩ (Nat.le_of_ble_eq_true rfl) ?_
  have hh := b1_some h; clear h; obtain ⟨s5, hs5, h⟩ := hh
  refine EV_putP (ci := 8) (k := 0) dX8_init_12 fp_X8_12i rfl hs5 ?_
  cases h
  exact EV_ret ⟨dX8_init_15, rfl⟩ rfl
def mX8_forget (h0 : Nat) (s0 : eS) : Option eS :=
  (b1 (p_I s0 108 5 h0 (0 : Int32)) fun s1 => (b1 (p_I s1 108 3 h0 (0 : Int32)) fun s2 => (some s2)))
set_option maxRecDepth 100000 in
set_option maxHeartbeats 4000000 in
theorem zX8_forget (E : eE) {h0 : Nat} {s0 s9 : eS} (h : mX8_forget h0 s0 = some s9) : EM E YX8_forget [VR (some h0)] s0 none s9 := by
  refine EM_of (M := MX8_forget) (own := RX8) (ini := false) rfl (by decide +kernel) rfl (fun z => nomatch z) (Nat.le_of_ble_eq_true rfl) ?_
  unfold mX8_forget at h
  refine EV_aload_n dX8_forget_0 rfl ?_
  refine EV_iconst (x := (0 : Int32)) dX8_forget_1 (by decide) ?_
  have hh := b1_some h; clear h; obtain ⟨s1, hs1, h⟩ := hh
  refine EV_putI (ci := 8) (k := 5) dX8_forget_2 fp_X8_25 rfl hs1 ?_
  refine EV_aload_n dX8_forget_5 rfl ?_
  refine EV_iconst (x := (0 : Int32)) dX8_forget_6 (by decide) ?_
  have hh := b1_some h; clear h; obtain ⟨s2, hs2, h⟩ := hh
  refine EV_putI (ci := 8) (k := 3) dX8_forget_7 fp_X8_28 rfl hs2 ?_
  cases h
  exact EV_ret ⟨dX8_forget_10, rfl⟩ rfl
def mX8_restart (h0 : Nat) (s0 : eS) : Option eS :=
  (b1 (p_I s0 108 2 h0 (0 : Int32)) fun s1 => (b1 (o_K s1 108 h0) fun u4 => (b1 (mX8_forget h0 s1) fun s2 => (some s2))))
set_option maxRecDepth 100000 in
set_option maxHeartbeats 4000000 in
theorem zX8_restart (E : eE) {h0 : Nat} {s0 s9 : eS} (h : mX8_restart h0 s0 = some s9) : EM E YX8_restart [VR (some h0)] s0 none s9 := by
  refine EM_of (M := MX8_restart) (own := RX8) (ini := false) rfl (by decide +kernel) rfl (fun z => nomatch z) (Nat.le_of_ble_eq_true rfl) ?_
  unfold mX8_restart at h
  refine EV_aload_n dX8_restart_0 rfl ?_
  refine EV_iconst (x := (0 : Int32)) dX8_restart_1 (by decide) ?_
  have hh := b1_some h; clear h; obtain ⟨s1, hs1, h⟩ := hh
  refine EV_putI (ci := 8) (k := 2) dX8_restart_2 fp_X8_18 rfl hs1 ?_
  refine EV_aload_n dX8_restart_5 rfl ?_
  have hh := b1_some h; clear h; obtain ⟨u4, hu4, h⟩ := hh
  have hh := b1_some h; clear h; obtain ⟨s2, hs2, h⟩ := hh
  refine EV_callV (Y := YX8_forget) (as := []) (st := []) (st2 := []) (a := h0) (ci := 8) (r := rX8) (n := 0) dX8_restart_6 (zX8_forget E hs2) rfl cwX8_forget rfl tw_624 tw_561 tw_562 rfl (e_if hu4).1.1 (e_if hu4).1.2 ⟨by decide, by decide⟩ (Nat.le_of_ble_eq_true rfl) rfl ?_
  cases h
  exact EV_ret ⟨dX8_restart_9, rfl⟩ rfl
def mX8_isControl_73 (pt0 : Int32) (s0 : eS) : Option (Int32 × eS) :=
  (b1 (o_Z pt0) fun u1 => some (pt0, s0))
set_option maxRecDepth 100000 in
set_option maxHeartbeats 4000000 in
theorem zX8_isControl_73 (E : eE) {pt0 : Int32} {s0 s9 : eS} {y : Int32} (h : mX8_isControl_73 pt0 s0 = some (y, s9)) : EV E MX8_isControl 73 [] [VI pt0] s0 (some (VI y)) s9 := by
  unfold mX8_isControl_73 at h
  have hh := b1_some h; clear h; obtain ⟨u1, hu1, h⟩ := hh
  cases h
  exact EV_ret ⟨dX8_isControl_73, .boolean, rfl, o_Z_n hu1⟩ rfl
def mX8_isControl_72 (s0 : eS) : Option (Int32 × eS) :=
  (mX8_isControl_73 (0 : Int32) s0)
set_option maxRecDepth 100000 in
set_option maxHeartbeats 4000000 in
theorem zX8_isControl_72 (E : eE) {s0 s9 : eS} {y : Int32} (h : mX8_isControl_72 s0 = some (y, s9)) : EV E MX8_isControl 72 [] [] s0 (some (VI y)) s9 := by
  unfold mX8_isControl_72 at h
  refine EV_iconst (x := (0 : Int32)) dX8_isControl_72 (by decide) ?_
  exact EV_pick [] rfl (zX8_isControl_73 E h)
def mX8_isControl_136 (s0 : eS) : Option (Int32 × eS) :=
  (b1 (o_Z (1 : Int32)) fun u1 => some ((1 : Int32), s0))
set_option maxRecDepth 100000 in
set_option maxHeartbeats 4000000 in
theorem zX8_isControl_136 (E : eE) {s0 s9 : eS} {y : Int32} (h : mX8_isControl_136 s0 = some (y, s9)) : EV E MX8_isControl 136 [] [] s0 (some (VI y)) s9 := by
  unfold mX8_isControl_136 at h
  refine EV_iconst (x := (1 : Int32)) dX8_isControl_136 (by decide) ?_
  have hh := b1_some h; clear h; obtain ⟨u1, hu1, h⟩ := hh
  cases h
  exact EV_ret ⟨dX8_isControl_137, .boolean, rfl, o_Z_n hu1⟩ rfl
def mX8_isControl_26 (h0 : Nat) (pi1 : Int32) (pt0 : Int32) (s0 : eS) : Option (Int32 × eS) :=
  (if (pi1 &&& (1 : Int32)) = 0 then (b1 (o_Z pt0) fun u2 => some (pt0, s0)) else (b1 (g_I s0 108 6 h0) fun x2 => (if x2 = (4 : Int32) then (if pi1 = (1 : Int32) then (if pt0 = 0 then (mX8_isControl_72 s0) else (b1 (g_I s0 108 1 h0) fun x6 => (if ((x6 >>> ((8 : Int32) &&& 31)) &&& (255 : Int32)) = 0 then (mX8_isControl_73 (1 : Int32) s0) else (mX8_isControl_72 s0)))) else (b1 (g_I s0 108 1 h0) fun x5 => (if x5 = (7 : Int32) then (mX8_isControl_136 s0) else (if x5 = (11 : Int32) then (mX8_isControl_136 s0) else (if x5 = (19 : Int32) then (mX8_isControl_136 s0) else (if x5 = (35 : Int32) then (mX8_isControl_136 s0) else (if x5 = (67 : Int32) then (mX8_isControl_136 s0) else (if x5 = (131 : Int32) then (mX8_isControl_136 s0) else (b1 (o_Z (0 : Int32)) fun u12 => some ((0 : Int32), s0)))))))))) else (b1 (o_Z (0 : Int32)) fun u4 => some ((0 : Int32), s0)))))
set_option maxRecDepth 100000 in
set_option maxHeartbeats 4000000 in
theorem zX8_isControl_26 (E : eE) {h0 : Nat} {pi1 : Int32} {pt0 : Int32} {s0 s9 : eS} {y : Int32} (h : mX8_isControl_26 h0 pi1 pt0 s0 = some (y, s9)) : EV E MX8_isControl 26 [(0, VR (some h0)), (1, VI pi1)] [VI pt0] s0 (some (VI y)) s9 := by
  unfold mX8_isControl_26 at h
  refine EV_istore_n (lv2 := [(2, VI pt0), (0, VR (some h0)), (1, VI pi1)]) dX8_isControl_26 (by decide) rfl ?_
  refine EV_iload_n dX8_isControl_27 rfl ?_
  refine EV_iconst (x := (1 : Int32)) dX8_isControl_28 (by decide) ?_
  refine EV_iand dX8_isControl_29 ?_
  refine EV_if_ne (tgt := 35) dX8_isControl_30 (by decide) (fun c1 => ?_) (fun c1 => ?_)
  · rw [if_pos c1] at h
    refine EV_iload_n dX8_isControl_33 rfl ?_
    have hh := b1_some h; clear h; obtain ⟨u2, hu2, h⟩ := hh
    cases h
    exact EV_ret ⟨dX8_isControl_34, .boolean, rfl, o_Z_n hu2⟩ rfl
  · rw [if_neg c1] at h
    refine EV_aload_n dX8_isControl_35 rfl ?_
    have hh := b1_some h; clear h; obtain ⟨x2, hx2, h⟩ := hh
    refine EV_getI (ci := 8) (k := 6) dX8_isControl_36 fl_X8_31 rfl hx2 ?_
    refine EV_iconst (x := (4 : Int32)) dX8_isControl_39 (by decide) ?_
    refine EV_icmp_eq (tgt := 45) dX8_isControl_40 (by decide) (fun c3 => ?_) (fun c3 => ?_)
    · rw [if_pos c3] at h
      refine EV_iload_n dX8_isControl_45 rfl ?_
      refine EV_iconst (x := (1 : Int32)) dX8_isControl_46 (by decide) ?_
      refine EV_icmp_ne (tgt := 74) dX8_isControl_47 (by decide) (fun c4 => ?_) (fun c4 => ?_)
      · rw [if_pos c4] at h
        refine EV_iload_n dX8_isControl_50 rfl ?_
        refine EV_if_eq (tgt := 72) dX8_isControl_51 (by decide) (fun c5 => ?_) (fun c5 => ?_)
        · rw [if_pos c5] at h
          exact EV_pick [] rfl (zX8_isControl_72 E h)
        · rw [if_neg c5] at h
          refine EV_aload_n dX8_isControl_54 rfl ?_
          have hh := b1_some h; clear h; obtain ⟨x6, hx6, h⟩ := hh
          refine EV_getI (ci := 8) (k := 1) dX8_isControl_55 fl_X8_34 rfl hx6 ?_
          refine EV_bipush (x := (8 : Int32)) dX8_isControl_58 (by decide) ?_
          refine EV_ishr dX8_isControl_60 ?_
          refine EV_sipush (x := (255 : Int32)) dX8_isControl_61 (by decide) ?_
          refine EV_iand dX8_isControl_64 ?_
          refine EV_if_ne (tgt := 72) dX8_isControl_65 (by decide) (fun c7 => ?_) (fun c7 => ?_)
          · rw [if_pos c7] at h
            refine EV_iconst (x := (1 : Int32)) dX8_isControl_68 (by decide) ?_
            refine EV_goto (tgt := 73) dX8_isControl_69 (by decide) ?_
            exact EV_pick [] rfl (zX8_isControl_73 E h)
          · rw [if_neg c7] at h
            exact EV_pick [] rfl (zX8_isControl_72 E h)
      · rw [if_neg c4] at h
        refine EV_aload_n dX8_isControl_74 rfl ?_
        have hh := b1_some h; clear h; obtain ⟨x5, hx5, h⟩ := hh
        refine EV_getI (ci := 8) (k := 1) dX8_isControl_75 fl_X8_34 rfl hx5 ?_
        by_cases c6 : x5 = (7 : Int32)
        · rw [if_pos c6] at h
          refine EV_lookup (tgt := 136) (off := 58) dX8_isControl_78 (by decide) (by rw [c6]; decide) (by decide) ?_
          exact EV_pick [] rfl (zX8_isControl_136 E h)
        · rw [if_neg c6] at h
          by_cases c7 : x5 = (11 : Int32)
          · rw [if_pos c7] at h
            refine EV_lookup (tgt := 136) (off := 58) dX8_isControl_78 (by decide) (by rw [c7]; decide) (by decide) ?_
            exact EV_pick [] rfl (zX8_isControl_136 E h)
          · rw [if_neg c7] at h
            by_cases c8 : x5 = (19 : Int32)
            · rw [if_pos c8] at h
              refine EV_lookup (tgt := 136) (off := 58) dX8_isControl_78 (by decide) (by rw [c8]; decide) (by decide) ?_
              exact EV_pick [] rfl (zX8_isControl_136 E h)
            · rw [if_neg c8] at h
              by_cases c9 : x5 = (35 : Int32)
              · rw [if_pos c9] at h
                refine EV_lookup (tgt := 136) (off := 58) dX8_isControl_78 (by decide) (by rw [c9]; decide) (by decide) ?_
                exact EV_pick [] rfl (zX8_isControl_136 E h)
              · rw [if_neg c9] at h
                by_cases c10 : x5 = (67 : Int32)
                · rw [if_pos c10] at h
                  refine EV_lookup (tgt := 136) (off := 58) dX8_isControl_78 (by decide) (by rw [c10]; decide) (by decide) ?_
                  exact EV_pick [] rfl (zX8_isControl_136 E h)
                · rw [if_neg c10] at h
                  by_cases c11 : x5 = (131 : Int32)
                  · rw [if_pos c11] at h
                    refine EV_lookup (tgt := 136) (off := 58) dX8_isControl_78 (by decide) (by rw [c11]; decide) (by decide) ?_
                    exact EV_pick [] rfl (zX8_isControl_136 E h)
                  · rw [if_neg c11] at h
                    refine EV_lookup (tgt := 138) (off := 60) dX8_isControl_78 (by decide) (by show Op.lookupswitch.offset [(7, 58), (11, 58), (19, 58), (35, 58), (67, 58), (131, 58)] 60 _ = _; rw [lv_osw c6 (by decide), lv_osw c7 (by decide), lv_osw c8 (by decide), lv_osw c9 (by decide), lv_osw c10 (by decide), lv_osw c11 (by decide)]; rfl) (by decide) ?_
                    refine EV_iconst (x := (0 : Int32)) dX8_isControl_138 (by decide) ?_
                    have hh := b1_some h; clear h; obtain ⟨u12, hu12, h⟩ := hh
                    cases h
                    exact EV_ret ⟨dX8_isControl_139, .boolean, rfl, o_Z_n hu12⟩ rfl
    · rw [if_neg c3] at h
      refine EV_iconst (x := (0 : Int32)) dX8_isControl_43 (by decide) ?_
      have hh := b1_some h; clear h; obtain ⟨u4, hu4, h⟩ := hh
      cases h
      exact EV_ret ⟨dX8_isControl_44, .boolean, rfl, o_Z_n hu4⟩ rfl
def mX8_isControl (h0 : Nat) (s0 : eS) : Option (Int32 × eS) :=
  (b1 (g_I s0 108 1 h0) fun x1 => (b1 (g_I s0 108 1 h0) fun x2 => (if ((x2 >>> ((16 : Int32) &&& 31)) &&& (1 : Int32)) = 0 then (mX8_isControl_26 h0 (x1 &&& (255 : Int32)) (1 : Int32) s0) else (mX8_isControl_26 h0 (x1 &&& (255 : Int32)) (0 : Int32) s0))))
set_option maxRecDepth 100000 in
set_option maxHeartbeats 4000000 in
theorem zX8_isControl (E : eE) {h0 : Nat} {s0 s9 : eS} {y : Int32} (h : mX8_isControl h0 s0 = some (y, s9)) : EM E YX8_isControl [VR (some h0)] s0 (some (VI y)) s9 := by
  refine EM_of (M := MX8_isControl) (own := RX8) (ini := false) rfl (by decide +kernel) rfl (fun z => nomatch z) (Nat.le_of_ble_eq_true rfl) ?_
  unfold mX8_isControl at h
  refine EV_aload_n dX8_isControl_0 rfl ?_
  have hh := b1_some h; clear h; obtain ⟨x1, hx1, h⟩ := hh
  refine EV_getI (ci := 8) (k := 1) dX8_isControl_1 fl_X8_34 rfl hx1 ?_
  refine EV_sipush (x := (255 : Int32)) dX8_isControl_4 (by decide) ?_
  refine EV_iand dX8_isControl_7 ?_
  refine EV_istore_n (lv2 := [(1, VI (x1 &&& (255 : Int32))), (0, VR (some h0))]) dX8_isControl_8 (by decide) rfl ?_
  refine EV_aload_n dX8_isControl_9 rfl ?_
  have hh := b1_some h; clear h; obtain ⟨x2, hx2, h⟩ := hh
  refine EV_getI (ci := 8) (k := 1) dX8_isControl_10 fl_X8_34 rfl hx2 ?_
  refine EV_bipush (x := (16 : Int32)) dX8_isControl_13 (by decide) ?_
  refine EV_ishr dX8_isControl_15 ?_
  refine EV_iconst (x := (1 : Int32)) dX8_isControl_16 (by decide) ?_
  refine EV_iand dX8_isControl_17 ?_
  refine EV_if_ne (tgt := 25) dX8_isControl_18 (by decide) (fun c3 => ?_) (fun c3 => ?_)
  · rw [if_pos c3] at h
    refine EV_iconst (x := (1 : Int32)) dX8_isControl_21 (by decide) ?_
    refine EV_goto (tgt := 26) dX8_isControl_22 (by decide) ?_
    exact EV_pick [1, 0] rfl (zX8_isControl_26 E h)
  · rw [if_neg c3] at h
    refine EV_iconst (x := (0 : Int32)) dX8_isControl_25 (by decide) ?_
    exact EV_pick [1, 0] rfl (zX8_isControl_26 E h)
def mX8_accept_29 (pt0 : Int32) (s0 : eS) : Option (Int32 × eS) :=
  (some (pt0, s0))
set_option maxRecDepth 100000 in
set_option maxHeartbeats 4000000 in
theorem zX8_accept_29 (E : eE) {pt0 : Int32} {s0 s9 : eS} {y : Int32} (h : mX8_accept_29 pt0 s0 = some (y, s9)) : EV E MX8_accept 29 [] [VI pt0] s0 (some (VI y)) s9 := by
  unfold mX8_accept_29 at h
  cases h
  exact EV_ret ⟨dX8_accept_29, .int, rfl, rfl⟩ rfl
def mX8_accept_72 (pt0 : Int32) (s0 : eS) : Option (Int32 × eS) :=
  (some (pt0, s0))
set_option maxRecDepth 100000 in
set_option maxHeartbeats 4000000 in
theorem zX8_accept_72 (E : eE) {pt0 : Int32} {s0 s9 : eS} {y : Int32} (h : mX8_accept_72 pt0 s0 = some (y, s9)) : EV E MX8_accept 72 [] [VI pt0] s0 (some (VI y)) s9 := by
  unfold mX8_accept_72 at h
  cases h
  exact EV_ret ⟨dX8_accept_72, .int, rfl, rfl⟩ rfl
def mX8_accept_71 (s0 : eS) : Option (Int32 × eS) :=
  (mX8_accept_72 (1 : Int32) s0)
set_option maxRecDepth 100000 in
set_option maxHeartbeats 4000000 in
theorem zX8_accept_71 (E : eE) {s0 s9 : eS} {y : Int32} (h : mX8_accept_71 s0 = some (y, s9)) : EV E MX8_accept 71 [] [] s0 (some (VI y)) s9 := by
  unfold mX8_accept_71 at h
  refine EV_iconst (x := (1 : Int32)) dX8_accept_71 (by decide) ?_
  exact EV_pick [] rfl (zX8_accept_72 E h)
def mX8_accept_133 (h0 : Nat) (s0 : eS) : Option (Int32 × eS) :=
  (b1 (g_I s0 108 5 h0) fun x1 => (b1 (g_I s0 108 6 h0) fun x2 => (if (x2 + (2 : Int32)) ≤ x1 then (b1 (p_I s0 108 5 h0 (0 : Int32)) fun s4 => (some ((2 : Int32), s4))) else (some ((0 : Int32), s0)))))
set_option maxRecDepth 100000 in
set_option maxHeartbeats 4000000 in
theorem zX8_accept_133 (E : eE) {h0 : Nat} {s0 s9 : eS} {y : Int32} (h : mX8_accept_133 h0 s0 = some (y, s9)) : EV E MX8_accept 133 [(0, VR (some h0))] [] s0 (some (VI y)) s9 := by
  unfold mX8_accept_133 at h
  refine EV_aload_n dX8_accept_133 rfl ?_
  have hh := b1_some h; clear h; obtain ⟨x1, hx1, h⟩ := hh
  refine EV_getI (ci := 8) (k := 5) dX8_accept_134 fl_X8_25 rfl hx1 ?_
  refine EV_aload_n dX8_accept_137 rfl ?_
  have hh := b1_some h; clear h; obtain ⟨x2, hx2, h⟩ := hh
  refine EV_getI (ci := 8) (k := 6) dX8_accept_138 fl_X8_31 rfl hx2 ?_
  refine EV_iconst (x := (2 : Int32)) dX8_accept_141 (by decide) ?_
  refine EV_iadd dX8_accept_142 ?_
  refine EV_icmp_ge (tgt := 148) dX8_accept_143 (by decide) (fun c3 => ?_) (fun c3 => ?_)
  · rw [if_pos c3] at h
    refine EV_aload_n dX8_accept_148 rfl ?_
    refine EV_iconst (x := (0 : Int32)) dX8_accept_149 (by decide) ?_
    have hh := b1_some h; clear h; obtain ⟨s4, hs4, h⟩ := hh
    refine EV_putI (ci := 8) (k := 5) dX8_accept_150 fp_X8_25 rfl hs4 ?_
    refine EV_iconst (x := (2 : Int32)) dX8_accept_153 (by decide) ?_
    cases h
    exact EV_ret ⟨dX8_accept_154, .int, rfl, rfl⟩ rfl
  · rw [if_neg c3] at h
    refine EV_iconst (x := (0 : Int32)) dX8_accept_146 (by decide) ?_
    cases h
    exact EV_ret ⟨dX8_accept_147, .int, rfl, rfl⟩ rfl
def mX8_accept_115 (h0 : Nat) (s0 : eS) : Option (Int32 × eS) :=
  (b1 (g_I s0 108 5 h0) fun x1 => (if x1 = (6 : Int32) then (b1 (o_K s0 108 h0) fun u6 => (b2 (mX8_isControl h0 s0) fun x4 s3 => (if x4 = 0 then (some ((1 : Int32), s3)) else (mX8_accept_133 h0 s3)))) else (mX8_accept_133 h0 s0)))
set_option maxRecDepth 100000 in
set_option maxHeartbeats 4000000 in
theorem zX8_accept_115 (E : eE) {h0 : Nat} {s0 s9 : eS} {y : Int32} (h : mX8_accept_115 h0 s0 = some (y, s9)) : EV E MX8_accept 115 [(0, VR (some h0))] [] s0 (some (VI y)) s9 := by
  unfold mX8_accept_115 at h
  refine EV_aload_n dX8_accept_115 rfl ?_
  have hh := b1_some h; clear h; obtain ⟨x1, hx1, h⟩ := hh
  refine EV_getI (ci := 8) (k := 5) dX8_accept_116 fl_X8_25 rfl hx1 ?_
  refine EV_bipush (x := (6 : Int32)) dX8_accept_119 (by decide) ?_
  refine EV_icmp_ne (tgt := 133) dX8_accept_121 (by decide) (fun c2 => ?_) (fun c2 => ?_)
  · rw [if_pos c2] at h
    refine EV_aload_n dX8_accept_124 rfl ?_
    have hh := b1_some h; clear h; obtain ⟨u6, hu6, h⟩ := hh
    have hh := b2_some h; clear h; obtain ⟨x4, s3, hs3, h⟩ := hh
    refine EV_callV (Y := YX8_isControl) (as := []) (st := []) (st2 := [VI x4]) (a := h0) (ci := 8) (r := rX8) (n := 0) dX8_accept_125 (zX8_isControl E hs3) rfl cwX8_isControl rfl tw_639 tw_641 tw_6 rfl (e_if hu6).1.1 (e_if hu6).1.2 ⟨by decide, by decide⟩ (Nat.le_of_ble_eq_true rfl) rfl ?_
    refine EV_if_ne (tgt := 133) dX8_accept_128 (by decide) (fun c5 => ?_) (fun c5 => ?_)
    · rw [if_pos c5] at h
      refine EV_iconst (x := (1 : Int32)) dX8_accept_131 (by decide) ?_
      cases h
      exact EV_ret ⟨dX8_accept_132, .int, rfl, rfl⟩ rfl
    · rw [if_neg c5] at h
      exact EV_pick [0] rfl (zX8_accept_133 E h)
  · rw [if_neg c2] at h
    exact EV_pick [0] rfl (zX8_accept_133 E h)
def mX8_accept (h0 : Nat) (pi1 : Int32) (s0 : eS) : Option (Int32 × eS) :=
  (b1 (g_I s0 108 5 h0) fun x1 => (b1 (p_I s0 108 5 h0 (x1 + (1 : Int32))) fun s2 => (b1 (g_I s2 108 5 h0) fun x3 => (if x3 = (1 : Int32) then (if pi1 = (104 : Int32) then (mX8_accept_29 (0 : Int32) s2) else (mX8_accept_29 (1 : Int32) s2)) else (b1 (g_I s2 108 5 h0) fun x5 => (if x5 = (2 : Int32) then (b1 (p_I s2 108 6 h0 pi1) fun s7 => (b1 (p_I s7 108 1 h0 (0 : Int32)) fun s8 => (b1 (g_P s8 108 0 h0) fun r9 => (b1 r9 fun a10 => (b1 (o_K s8 104 a10) fun u15 => (b1 (mX4_clear a10 s8) fun s11 => (if pi1 < (4 : Int32) then (mX8_accept_71 s11) else (if (253 : Int32) < pi1 then (mX8_accept_71 s11) else (mX8_accept_72 (0 : Int32) s11))))))))) else (b1 (g_I s2 108 5 h0) fun x7 => (if (6 : Int32) < x7 then (b1 (g_P s2 108 0 h0) fun r9 => (b1 r9 fun a10 => (b1 (o_K s2 104 a10) fun u13 => (b1 (mX4_add a10 ((pi1).toInt64) (1 : Int32) s2) fun s11 => (mX8_accept_115 h0 s11))))) else (b1 (g_I s2 108 1 h0) fun x9 => (b1 (g_I s2 108 5 h0) fun x10 => (b1 (p_I s2 108 1 h0 (x9 ||| (pi1 <<< (((8 : Int32) * (x10 - (3 : Int32))) &&& 31)))) fun s11 => (mX8_accept_115 h0 s11))))))))))))
set_option maxRecDepth 100000 in
set_option maxHeartbeats 4000000 in
theorem zX8_accept (E : eE) {h0 : Nat} {pi1 : Int32} {s0 s9 : eS} {y : Int32} (h : mX8_accept h0 pi1 s0 = some (y, s9)) : EM E YX8_accept [VR (some h0), VI pi1] s0 (some (VI y)) s9 := by
  refine EM_of (M := MX8_accept) (own := RX8) (ini := false) rfl (by decide +kernel) rfl (fun z => nomatch z) (Nat.le_of_ble_eq_true rfl) ?_
  unfold mX8_accept at h
  refine EV_aload_n dX8_accept_0 rfl ?_
  refine EV_dup dX8_accept_1 rfl ?_
  have hh := b1_some h; clear h; obtain ⟨x1, hx1, h⟩ := hh
  refine EV_getI (ci := 8) (k := 5) dX8_accept_2 fl_X8_25 rfl hx1 ?_
  refine EV_iconst (x := (1 : Int32)) dX8_accept_5 (by decide) ?_
  refine EV_iadd dX8_accept_6 ?_
  have hh := b1_some h; clear h; obtain ⟨s2, hs2, h⟩ := hh
  refine EV_putI (ci := 8) (k := 5) dX8_accept_7 fp_X8_25 rfl hs2 ?_
  refine EV_aload_n dX8_accept_10 rfl ?_
  have hh := b1_some h; clear h; obtain ⟨x3, hx3, h⟩ := hh
  refine EV_getI (ci := 8) (k := 5) dX8_accept_11 fl_X8_25 rfl hx3 ?_
  refine EV_iconst (x := (1 : Int32)) dX8_accept_14 (by decide) ?_
  refine EV_icmp_ne (tgt := 30) dX8_accept_15 (by decide) (fun c4 => ?_) (fun c4 => ?_)
  · rw [if_pos c4] at h
    refine EV_iload_n dX8_accept_18 rfl ?_
    refine EV_bipush (x := (104 : Int32)) dX8_accept_19 (by decide) ?_
    refine EV_icmp_ne (tgt := 28) dX8_accept_21 (by decide) (fun c5 => ?_) (fun c5 => ?_)
    · rw [if_pos c5] at h
      refine EV_iconst (x := (0 : Int32)) dX8_accept_24 (by decide) ?_
      refine EV_goto (tgt := 29) dX8_accept_25 (by decide) ?_
      exact EV_pick [] rfl (zX8_accept_29 E h)
    · rw [if_neg c5] at h
      refine EV_iconst (x := (1 : Int32)) dX8_accept_28 (by decide) ?_
      exact EV_pick [] rfl (zX8_accept_29 E h)
  · rw [if_neg c4] at h
    refine EV_aload_n dX8_accept_30 rfl ?_
    have hh := b1_some h; clear h; obtain ⟨x5, hx5, h⟩ := hh
    refine EV_getI (ci := 8) (k := 5) dX8_accept_31 fl_X8_25 rfl hx5 ?_
    refine EV_iconst (x := (2 : Int32)) dX8_accept_34 (by decide) ?_
    refine EV_icmp_ne (tgt := 73) dX8_accept_35 (by decide) (fun c6 => ?_) (fun c6 => ?_)
    · rw [if_pos c6] at h
      refine EV_aload_n dX8_accept_38 rfl ?_
      refine EV_iload_n dX8_accept_39 rfl ?_
      have hh := b1_some h; clear h; obtain ⟨s7, hs7, h⟩ := hh
      refine EV_putI (ci := 8) (k := 6) dX8_accept_40 fp_X8_31 rfl hs7 ?_
      refine EV_aload_n dX8_accept_43 rfl ?_
      refine EV_iconst (x := (0 : Int32)) dX8_accept_44 (by decide) ?_
      have hh := b1_some h; clear h; obtain ⟨s8, hs8, h⟩ := hh
      refine EV_putI (ci := 8) (k := 1) dX8_accept_45 fp_X8_34 rfl hs8 ?_
      refine EV_aload_n dX8_accept_48 rfl ?_
      have hh := b1_some h; clear h; obtain ⟨r9, hr9, h⟩ := hh
      refine EV_getP (ci := 8) (k := 0) dX8_accept_49 fl_X8_12 rfl hr9 ?_
      have hh := b1_some h; clear h; obtain ⟨a10, ha10, h⟩ := hh
      subst ha10
      have hh := b1_some h; clear h; obtain ⟨u15, hu15, h⟩ := hh
      have hh := b1_some h; clear h; obtain ⟨s11, hs11, h⟩ := hh
      refine EV_callV (Y := YX4_clear) (as := []) (st := []) (st2 := []) (a := a10) (ci := 4) (r := rX4) (n := 0) dX8_accept_52 (zX4_clear E hs11) rfl cwX4_clear rfl tw_637 tw_585 tw_586 rfl (e_if hu15).1.1 (e_if hu15).1.2 ⟨by decide, by decide⟩ (Nat.le_of_ble_eq_true rfl) rfl ?_
      refine EV_iload_n dX8_accept_55 rfl ?_
      refine EV_iconst (x := (4 : Int32)) dX8_accept_56 (by decide) ?_
      refine EV_icmp_lt (tgt := 71) dX8_accept_57 (by decide) (fun c13 => ?_) (fun c13 => ?_)
      · rw [if_pos c13] at h
        exact EV_pick [] rfl (zX8_accept_71 E h)
      · rw [if_neg c13] at h
        refine EV_iload_n dX8_accept_60 rfl ?_
        refine EV_sipush (x := (253 : Int32)) dX8_accept_61 (by decide) ?_
        refine EV_icmp_gt (tgt := 71) dX8_accept_64 (by decide) (fun c14 => ?_) (fun c14 => ?_)
        · rw [if_pos c14] at h
          exact EV_pick [] rfl (zX8_accept_71 E h)
        · rw [if_neg c14] at h
          refine EV_iconst (x := (0 : Int32)) dX8_accept_67 (by decide) ?_
          refine EV_goto (tgt := 72) dX8_accept_68 (by decide) ?_
          exact EV_pick [] rfl (zX8_accept_72 E h)
    · rw [if_neg c6] at h
      refine EV_aload_n dX8_accept_73 rfl ?_
      have hh := b1_some h; clear h; obtain ⟨x7, hx7, h⟩ := hh
      refine EV_getI (ci := 8) (k := 5) dX8_accept_74 fl_X8_25 rfl hx7 ?_
      refine EV_bipush (x := (6 : Int32)) dX8_accept_77 (by decide) ?_
      refine EV_icmp_gt (tgt := 105) dX8_accept_79 (by decide) (fun c8 => ?_) (fun c8 => ?_)
      · rw [if_pos c8] at h
        refine EV_aload_n dX8_accept_105 rfl ?_
        have hh := b1_some h; clear h; obtain ⟨r9, hr9, h⟩ := hh
        refine EV_getP (ci := 8) (k := 0) dX8_accept_106 fl_X8_12 rfl hr9 ?_
        refine EV_iload_n dX8_accept_109 rfl ?_
        refine EV_i2l dX8_accept_110 ?_
        refine EV_iconst (x := (1 : Int32)) dX8_accept_111 (by decide) ?_
        have hh := b1_some h; clear h; obtain ⟨a10, ha10, h⟩ := hh
        subst ha10
        have hh := b1_some h; clear h; obtain ⟨u13, hu13, h⟩ := hh
        have hh := b1_some h; clear h; obtain ⟨s11, hs11, h⟩ := hh
        refine EV_callV (Y := YX4_add) (as := [VL ((pi1).toInt64), VI (1 : Int32)]) (st := []) (st2 := []) (a := a10) (ci := 4) (r := rX4) (n := 2) dX8_accept_112 (zX4_add E hs11) rfl cwX4_add rfl tw_638 tw_596 tw_597 rfl (e_if hu13).1.1 (e_if hu13).1.2 ⟨by decide, by decide⟩ (Nat.le_of_ble_eq_true rfl) rfl ?_
        exact EV_pick [0] rfl (zX8_accept_115 E h)
      · rw [if_neg c8] at h
        refine EV_aload_n dX8_accept_82 rfl ?_
        refine EV_dup dX8_accept_83 rfl ?_
        have hh := b1_some h; clear h; obtain ⟨x9, hx9, h⟩ := hh
        refine EV_getI (ci := 8) (k := 1) dX8_accept_84 fl_X8_34 rfl hx9 ?_
        refine EV_iload_n dX8_accept_87 rfl ?_
        refine EV_bipush (x := (8 : Int32)) dX8_accept_88 (by decide) ?_
        refine EV_aload_n dX8_accept_90 rfl ?_
        have hh := b1_some h; clear h; obtain ⟨x10, hx10, h⟩ := hh
        refine EV_getI (ci := 8) (k := 5) dX8_accept_91 fl_X8_25 rfl hx10 ?_
        refine EV_iconst (x := (3 : Int32)) dX8_accept_94 (by decide) ?_
        refine EV_isub dX8_accept_95 ?_
        refine EV_imul dX8_accept_96 ?_
        refine EV_ishl dX8_accept_97 ?_
        refine EV_ior dX8_accept_98 ?_
        have hh := b1_some h; clear h; obtain ⟨s11, hs11, h⟩ := hh
        refine EV_putI (ci := 8) (k := 1) dX8_accept_99 fp_X8_34 rfl hs11 ?_
        refine EV_goto (tgt := 115) dX8_accept_102 (by decide) ?_
        exact EV_pick [0] rfl (zX8_accept_115 E h)
def mX8_number (h0 : Nat) (s0 : eS) : Option (Int32 × eS) :=
  (b1 (g_I s0 108 1 h0) fun x1 => (some (((x1 >>> ((1 : Int32) &&& 31)) &&& (32767 : Int32)), s0)))
set_option maxRecDepth 100000 in
set_option maxHeartbeats 4000000 in
theorem zX8_number (E : eE) {h0 : Nat} {s0 s9 : eS} {y : Int32} (h : mX8_number h0 s0 = some (y, s9)) : EM E YX8_number [VR (some h0)] s0 (some (VI y)) s9 := by
  refine EM_of (M := MX8_number) (own := RX8) (ini := false) rfl (by decide +kernel) rfl (fun z => nomatch z) (Nat.le_of_ble_eq_true rfl) ?_
  unfold mX8_number at h
  refine EV_aload_n dX8_number_0 rfl ?_
  have hh := b1_some h; clear h; obtain ⟨x1, hx1, h⟩ := hh
  refine EV_getI (ci := 8) (k := 1) dX8_number_1 fl_X8_34 rfl hx1 ?_
  refine EV_iconst (x := (1 : Int32)) dX8_number_4 (by decide) ?_
  refine EV_ishr dX8_number_5 ?_
  refine EV_sipush (x := (32767 : Int32)) dX8_number_6 (by decide) ?_
  refine EV_iand dX8_number_9 ?_
  cases h
  exact EV_ret ⟨dX8_number_10, .int, rfl, rfl⟩ rfl
def mX8_ack (h0 : Nat) (s0 : eS) : Option (Int32 × eS) :=
  (b1 (g_I s0 108 1 h0) fun x1 => (some (((x1 >>> ((17 : Int32) &&& 31)) &&& (32767 : Int32)), s0)))
set_option maxRecDepth 100000 in
set_option maxHeartbeats 4000000 in
theorem zX8_ack (E : eE) {h0 : Nat} {s0 s9 : eS} {y : Int32} (h : mX8_ack h0 s0 = some (y, s9)) : EM E YX8_ack [VR (some h0)] s0 (some (VI y)) s9 := by
  refine EM_of (M := MX8_ack) (own := RX8) (ini := false) rfl (by decide +kernel) rfl (fun z => nomatch z) (Nat.le_of_ble_eq_true rfl) ?_
  unfold mX8_ack at h
  refine EV_aload_n dX8_ack_0 rfl ?_
  have hh := b1_some h; clear h; obtain ⟨x1, hx1, h⟩ := hh
  refine EV_getI (ci := 8) (k := 1) dX8_ack_1 fl_X8_34 rfl hx1 ?_
  refine EV_bipush (x := (17 : Int32)) dX8_ack_4 (by decide) ?_
  refine EV_ishr dX8_ack_6 ?_
  refine EV_sipush (x := (32767 : Int32)) dX8_ack_7 (by decide) ?_
  refine EV_iand dX8_ack_10 ?_
  cases h
  exact EV_ret ⟨dX8_ack_11, .int, rfl, rfl⟩ rfl
def mX8_ackToTell (h0 : Nat) (s0 : eS) : Option (Int32 × eS) :=
  (b1 (g_I s0 108 2 h0) fun x1 => (some ((x1 &&& (32767 : Int32)), s0)))
set_option maxRecDepth 100000 in
set_option maxHeartbeats 4000000 in
theorem zX8_ackToTell (E : eE) {h0 : Nat} {s0 s9 : eS} {y : Int32} (h : mX8_ackToTell h0 s0 = some (y, s9)) : EM E YX8_ackToTell [VR (some h0)] s0 (some (VI y)) s9 := by
  refine EM_of (M := MX8_ackToTell) (own := RX8) (ini := false) rfl (by decide +kernel) rfl (fun z => nomatch z) (Nat.le_of_ble_eq_true rfl) ?_
  unfold mX8_ackToTell at h
  refine EV_aload_n dX8_ackToTell_0 rfl ?_
  have hh := b1_some h; clear h; obtain ⟨x1, hx1, h⟩ := hh
  refine EV_getI (ci := 8) (k := 2) dX8_ackToTell_1 fl_X8_18 rfl hx1 ?_
  refine EV_sipush (x := (32767 : Int32)) dX8_ackToTell_4 (by decide) ?_
  refine EV_iand dX8_ackToTell_7 ?_
  cases h
  exact EV_ret ⟨dX8_ackToTell_8, .int, rfl, rfl⟩ rfl
def mX8_countData_12 (h0 : Nat) (s0 : eS) : Option eS :=
  (b1 (g_I s0 108 3 h0) fun x1 => (b1 (p_I s0 108 3 h0 (x1 + (1 : Int32))) fun s2 => (b1 (g_I s2 108 2 h0) fun x3 => (b1 (p_I s2 108 2 h0 (x3 + (1 : Int32))) fun s4 => (some s4)))))
set_option maxRecDepth 100000 in
set_option maxHeartbeats 4000000 in
theorem zX8_countData_12 (E : eE) {h0 : Nat} {s0 s9 : eS} (h : mX8_countData_12 h0 s0 = some s9) : EV E MX8_countData 12 [(0, VR (some h0))] [] s0 none s9 := by
  unfold mX8_countData_12 at h
  refine EV_aload_n dX8_countData_12 rfl ?_
  refine EV_dup dX8_countData_13 rfl ?_
  have hh := b1_some h; clear h; obtain ⟨x1, hx1, h⟩ := hh
  refine EV_getI (ci := 8) (k := 3) dX8_countData_14 fl_X8_28 rfl hx1 ?_
  refine EV_iconst (x := (1 : Int32)) dX8_countData_17 (by decide) ?_
  refine EV_iadd dX8_countData_18 ?_
  have hh := b1_some h; clear h; obtain ⟨s2, hs2, h⟩ := hh
  refine EV_putI (ci := 8) (k := 3) dX8_countData_19 fp_X8_28 rfl hs2 ?_
  refine EV_aload_n dX8_countData_22 rfl ?_
  refine EV_dup dX8_countData_23 rfl ?_
  have hh := b1_some h; clear h; obtain ⟨x3, hx3, h⟩ := hh
  refine EV_getI (ci := 8) (k := 2) dX8_countData_24 fl_X8_18 rfl hx3 ?_
  refine EV_iconst (x := (1 : Int32)) dX8_countData_27 (by decide) ?_
  refine EV_iadd dX8_countData_28 ?_
  have hh := b1_some h; clear h; obtain ⟨s4, hs4, h⟩ := hh
  refine EV_putI (ci := 8) (k := 2) dX8_countData_29 fp_X8_18 rfl hs4 ?_
  cases h
  exact EV_ret ⟨dX8_countData_32, rfl⟩ rfl
def mX8_countData (h0 : Nat) (pi1 : Int32) (s0 : eS) : Option eS :=
  (b1 (g_I s0 108 3 h0) fun x1 => (if x1 = 0 then (b1 (p_I s0 108 4 h0 pi1) fun s3 => (mX8_countData_12 h0 s3)) else (mX8_countData_12 h0 s0)))
set_option maxRecDepth 100000 in
set_option maxHeartbeats 4000000 in
theorem zX8_countData (E : eE) {h0 : Nat} {pi1 : Int32} {s0 s9 : eS} (h : mX8_countData h0 pi1 s0 = some s9) : EM E YX8_countData [VR (some h0), VI pi1] s0 none s9 := by
  refine EM_of (M := MX8_countData) (own := RX8) (ini := false) rfl (by decide +kernel) rfl (fun z => nomatch z) (Nat.le_of_ble_eq_true rfl) ?_
  unfold mX8_countData at h
  refine EV_aload_n dX8_countData_0 rfl ?_
  have hh := b1_some h; clear h; obtain ⟨x1, hx1, h⟩ := hh
  refine EV_getI (ci := 8) (k := 3) dX8_countData_1 fl_X8_28 rfl hx1 ?_
  refine EV_if_ne (tgt := 12) dX8_countData_4 (by decide) (fun c2 => ?_) (fun c2 => ?_)
  · rw [if_pos c2] at h
    refine EV_aload_n dX8_countData_7 rfl ?_
    refine EV_iload_n dX8_countData_8 rfl ?_
    have hh := b1_some h; clear h; obtain ⟨s3, hs3, h⟩ := hh
    refine EV_putI (ci := 8) (k := 4) dX8_countData_9 fp_X8_48 rfl hs3 ?_
    exact EV_pick [0] rfl (zX8_countData_12 E h)
  · rw [if_neg c2] at h
    exact EV_pick [0] rfl (zX8_countData_12 E h)
def mX8_originator (h0 : Nat) (s0 : eS) : Option (Int32 × eS) :=
  (b1 (g_P s0 108 0 h0) fun r1 => (b1 r1 fun a2 => (b1 (o_K s0 104 a2) fun u5 => (b2 (mX4_at a2 (3 : Int32) s0) fun x4 s3 => (some (x4, s3))))))
set_option maxRecDepth 100000 in
set_option maxHeartbeats 4000000 in
theorem zX8_originator (E : eE) {h0 : Nat} {s0 s9 : eS} {y : Int32} (h : mX8_originator h0 s0 = some (y, s9)) : EM E YX8_originator [VR (some h0)] s0 (some (VI y)) s9 := by
  refine EM_of (M := MX8_originator) (own := RX8) (ini := false) rfl (by decide +kernel) rfl (fun z => nomatch z) (Nat.le_of_ble_eq_true rfl) ?_
  unfold mX8_originator at h
  refine EV_aload_n dX8_originator_0 rfl ?_
  have hh := b1_some h; clear h; obtain ⟨r1, hr1, h⟩ := hh
  refine EV_getP (ci := 8) (k := 0) dX8_originator_1 fl_X8_12 rfl hr1 ?_
  refine EV_iconst (x := (3 : Int32)) dX8_originator_4 (by decide) ?_
  have hh := b1_some h; clear h; obtain ⟨a2, ha2, h⟩ := hh
  subst ha2
  have hh := b1_some h; clear h; obtain ⟨u5, hu5, h⟩ := hh
  have hh := b2_some h; clear h; obtain ⟨x4, s3, hs3, h⟩ := hh
  refine EV_callV (Y := YX4_at) (as := [VI (3 : Int32)]) (st := []) (st2 := [VI x4]) (a := a2) (ci := 4) (r := rX4) (n := 1) dX8_originator_5 (zX4_at E hs3) rfl cwX4_at rfl tw_756 tw_569 tw_570 rfl (e_if hu5).1.1 (e_if hu5).1.2 ⟨by decide, by decide⟩ (Nat.le_of_ble_eq_true rfl) rfl ?_
  cases h
  exact EV_ret ⟨dX8_originator_8, .int, rfl, rfl⟩ rfl
def mX8_isTrial_20 (pt0 : Int32) (s0 : eS) : Option (Int32 × eS) :=
  (b1 (o_Z pt0) fun u1 => some (pt0, s0))
set_option maxRecDepth 100000 in
set_option maxHeartbeats 4000000 in
theorem zX8_isTrial_20 (E : eE) {pt0 : Int32} {s0 s9 : eS} {y : Int32} (h : mX8_isTrial_20 pt0 s0 = some (y, s9)) : EV E MX8_isTrial 20 [] [VI pt0] s0 (some (VI y)) s9 := by
  unfold mX8_isTrial_20 at h
  have hh := b1_some h; clear h; obtain ⟨u1, hu1, h⟩ := hh
  cases h
  exact EV_ret ⟨dX8_isTrial_20, .boolean, rfl, o_Z_n hu1⟩ rfl
def mX8_isTrial (h0 : Nat) (s0 : eS) : Option (Int32 × eS) :=
  (b1 (g_P s0 108 0 h0) fun r1 => (b1 r1 fun a2 => (b1 (o_K s0 104 a2) fun u6 => (b2 (mX4_at a2 (2 : Int32) s0) fun x4 s3 => (if (x4 &&& (128 : Int32)) = 0 then (mX8_isTrial_20 (0 : Int32) s3) else (mX8_isTrial_20 (1 : Int32) s3))))))
set_option maxRecDepth 100000 in
set_option maxHeartbeats 4000000 in
theorem zX8_isTrial (E : eE) {h0 : Nat} {s0 s9 : eS} {y : Int32} (h : mX8_isTrial h0 s0 = some (y, s9)) : EM E YX8_isTrial [VR (some h0)] s0 (some (VI y)) s9 := by
  refine EM_of (M := MX8_isTrial) (own := RX8) (ini := false) rfl (by decide +kernel) rfl (fun z => nomatch z) (Nat.le_of_ble_eq_true rfl) ?_
  unfold mX8_isTrial at h
  refine EV_aload_n dX8_isTrial_0 rfl ?_
  have hh := b1_some h; clear h; obtain ⟨r1, hr1, h⟩ := hh
  refine EV_getP (ci := 8) (k := 0) dX8_isTrial_1 fl_X8_12 rfl hr1 ?_
  refine EV_iconst (x := (2 : Int32)) dX8_isTrial_4 (by decide) ?_
  have hh := b1_some h; clear h; obtain ⟨a2, ha2, h⟩ := hh
  subst ha2
  have hh := b1_some h; clear h; obtain ⟨u6, hu6, h⟩ := hh
  have hh := b2_some h; clear h; obtain ⟨x4, s3, hs3, h⟩ := hh
  refine EV_callV (Y := YX4_at) (as := [VI (2 : Int32)]) (st := []) (st2 := [VI x4]) (a := a2) (ci := 4) (r := rX4) (n := 1) dX8_isTrial_5 (zX4_at E hs3) rfl cwX4_at rfl tw_756 tw_569 tw_570 rfl (e_if hu6).1.1 (e_if hu6).1.2 ⟨by decide, by decide⟩ (Nat.le_of_ble_eq_true rfl) rfl ?_
  refine EV_sipush (x := (128 : Int32)) dX8_isTrial_8 (by decide) ?_
  refine EV_iand dX8_isTrial_11 ?_
  refine EV_if_eq (tgt := 19) dX8_isTrial_12 (by decide) (fun c5 => ?_) (fun c5 => ?_)
  · rw [if_pos c5] at h
    refine EV_iconst (x := (0 : Int32)) dX8_isTrial_19 (by decide) ?_
    exact EV_pick [] rfl (zX8_isTrial_20 E h)
  · rw [if_neg c5] at h
    refine EV_iconst (x := (1 : Int32)) dX8_isTrial_15 (by decide) ?_
    refine EV_goto (tgt := 20) dX8_isTrial_16 (by decide) ?_
    exact EV_pick [] rfl (zX8_isTrial_20 E h)
