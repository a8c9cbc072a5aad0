def mX4_init (h0 : Nat) (s0 : eS) : Option eS :=
  (b2 (n_A s0 1 (249 : Int32)) fun q1 s2 => (b1 (p_P s2 104 0 h0 (some q1)) fun s3 => (some s3)))
set_option maxRecDepth 100000 in
set_option maxHeartbeats 4000000 in
theorem zX4_init (E : eE) {h0 : Nat} {s0 s9 : eS} (h : mX4_init h0 s0 = some s9) : EM E YX4_init [VR (some h0)] s0 none s9 := by
  refine EM_of (M := MX4_init) (own := RX4) (ini := true) rfl (by decide +kernel) rfl (fun _ => rfl) (Nat.le_of_ble_eq_true rfl) ?_
  unfold mX4_init at h
  refine EV_aload_n dX4_init_0 rfl ?_
  refine EV_objInit dX4_init_1 ⟨_, rfl⟩ tw_186 tw_93 tw_94 ⟨by decide, by decide⟩ (Nat.le_of_ble_eq_true rfl) ?_
  refine EV_aload_n dX4_init_4 rfl ?_
  refine EV_sipush (x := (249 : Int32)) dX4_init_5 (by decide) ?_
  have hh := b2_some h; clear h; obtain ⟨q1, s2, hs2, h⟩ := hh
  refine EV_nA (t := 1) (ty := .byte) dX4_init_8 rfl rfl (by decide) tw_196 hs2 ?_
  have hh := b1_some h; clear h; obtain ⟨s3, hs3, h⟩ := hh
  refine EV_putP (ci := 4) (k := 0) dX4_init_10 fp_X4_9i rfl hs3 ?_
  cases h
  exact EV_ret ⟨dX4_init_13, rfl⟩ rfl
def mX4_clear (h0 : Nat) (s0 : eS) : Option eS :=
  (b1 (p_I s0 104 1 h0 (0 : Int32)) fun s1 => (some s1))
set_option maxRecDepth 100000 in
set_option maxHeartbeats 4000000 in
theorem zX4_clear (E : eE) {h0 : Nat} {s0 s9 : eS} (h : mX4_clear h0 s0 = some s9) : EM E YX4_clear [VR (some h0)] s0 none s9 := by
  refine EM_of (M := MX4_clear) (own := RX4) (ini := false) rfl (by decide +kernel) rfl (fun z => nomatch z) (Nat.le_of_ble_eq_true rfl) ?_
  unfold mX4_clear at h
  refine EV_aload_n dX4_clear_0 rfl ?_
  refine EV_iconst (x := (0 : Int32)) dX4_clear_1 (by decide) ?_
  have hh := b1_some h; clear h; obtain ⟨s1, hs1, h⟩ := hh
  refine EV_putI (ci := 4) (k := 1) dX4_clear_2 fp_X4_15 rfl hs1 ?_
  cases h
  exact EV_ret ⟨dX4_clear_5, rfl⟩ rfl
def mX1_init (h0 : Nat) (s0 : eS) : Option eS :=
  (b1 (p_I s0 101 3 h0 (1 : Int32)) fun s1 => (b1 (p_I s1 101 4 h0 (1 : Int32)) fun s2 => (some s2)))
set_option maxRecDepth 100000 in
set_option maxHeartbeats 4000000 in
theorem zX1_init (E : eE) {h0 : Nat} {s0 s9 : eS} (h : mX1_init h0 s0 = some s9) : EM E YX1_init [VR (some h0)] s0 none s9 := by
  refine EM_of (M := MX1_init) (own := RX1) (ini := true) rfl (by decide +kernel) rfl (fun _ => rfl) (Nat.le_of_ble_eq_true rfl) ?_
  unfold mX1_init at h
  refine EV_aload_n dX1_init_0 rfl ?_
  refine EV_objInit dX1_init_1 ⟨_, rfl⟩ tw_144 tw_93 tw_94 ⟨by decide, by decide⟩ (Nat.le_of_ble_eq_true rfl) ?_
  refine EV_aload_n dX1_init_4 rfl ?_
  refine EV_iconst (x := (1 : Int32)) dX1_init_5 (by decide) ?_
  have hh := b1_some h; clear h; obtain ⟨s1, hs1, h⟩ := hh
  refine EV_putI (ci := 1) (k := 3) dX1_init_6 fp_X1_9i rfl hs1 ?_
  refine EV_aload_n dX1_init_9 rfl ?_
  refine EV_iconst (x := (1 : Int32)) dX1_init_10 (by decide) ?_
  have hh := b1_some h; clear h; obtain ⟨s2, hs2, h⟩ := hh
  refine EV_putI (ci := 1) (k := 4) dX1_init_11 fp_X1_15i rfl hs2 ?_
  cases h
  exact EV_ret ⟨dX1_init_14, rfl⟩ rfl
def mX1_daysOf_11 (s0 : eS) : Option (Int32 × eS) :=
  (some ((0 : Int32), s0))
set_option maxRecDepth 100000 in
set_option maxHeartbeats 4000000 in
theorem zX1_daysOf_11 (E : eE) {s0 s9 : eS} {y : Int32} (h : mX1_daysOf_11 s0 = some (y, s9)) : EV E MX1_daysOf 11 [] [] s0 (some (VI y)) s9 := by
  unfold mX1_daysOf_11 at h
  refine EV_iconst (x := (0 : Int32)) dX1_daysOf_11 (by decide) ?_
  cases h
  exact EV_ret ⟨dX1_daysOf_12, .int, rfl, rfl⟩ rfl
def mX1_daysOf_36 (pt0 : Int32) (s0 : eS) : Option (Int32 × eS) :=
  (some (pt0, s0))
set_option maxRecDepth 100000 in
set_option maxHeartbeats 4000000 in
theorem zX1_daysOf_36 (E : eE) {pt0 : Int32} {s0 s9 : eS} {y : Int32} (h : mX1_daysOf_36 pt0 s0 = some (y, s9)) : EV E MX1_daysOf 36 [] [VI pt0] s0 (some (VI y)) s9 := by
  unfold mX1_daysOf_36 at h
  cases h
  exact EV_ret ⟨dX1_daysOf_36, .int, rfl, rfl⟩ rfl
def mX1_daysOf_29 (pi0 : Int32) (s0 : eS) : Option (Int32 × eS) :=
  (b1 (t_I tb_11 (pi0 - (1 : Int32))) fun x1 => (mX1_daysOf_36 x1 s0))
set_option maxRecDepth 100000 in
set_option maxHeartbeats 4000000 in
theorem zX1_daysOf_29 (E : eE) {pi0 : Int32} {s0 s9 : eS} {y : Int32} (h : mX1_daysOf_29 pi0 s0 = some (y, s9)) : EV E MX1_daysOf 29 [(0, VI pi0)] [] s0 (some (VI y)) s9 := by
  unfold mX1_daysOf_29 at h
  refine EV_getsN (j := 11) (r := st_11) dX1_daysOf_29 rfl tw_816 ?_
  refine EV_iload_n dX1_daysOf_32 rfl ?_
  refine EV_iconst (x := (1 : Int32)) dX1_daysOf_33 (by decide) ?_
  refine EV_isub dX1_daysOf_34 ?_
  have hh := b1_some h; clear h; obtain ⟨x1, hx1, h⟩ := hh
  refine EV_tabI (j := 11) (r := st_11) (l := tb_11) dX1_daysOf_35 rfl rfl hx1 ?_
  exact EV_pick [] rfl (zX1_daysOf_36 E h)
def mX1_daysOf (pi0 : Int32) (pi1 : Int32) (s0 : eS) : Option (Int32 × eS) :=
  (if pi0 < (1 : Int32) then (mX1_daysOf_11 s0) else (if pi0 ≤ (12 : Int32) then (if pi0 = (2 : Int32) then (if (pi1 - pi1 / (4 : Int32) * (4 : Int32)) = 0 then (mX1_daysOf_36 (29 : Int32) s0) else (mX1_daysOf_29 pi0 s0)) else (mX1_daysOf_29 pi0 s0)) else (mX1_daysOf_11 s0)))
set_option maxRecDepth 100000 in
set_option maxHeartbeats 4000000 in
theorem zX1_daysOf (E : eE) {pi0 : Int32} {pi1 : Int32} {s0 s9 : eS} {y : Int32} (h : mX1_daysOf pi0 pi1 s0 = some (y, s9)) : EM E YX1_daysOf [VI pi0, VI pi1] s0 (some (VI y)) s9 := by
  refine EM_of (M := MX1_daysOf) (own := RX1) (ini := false) rfl (by decide +kernel) rfl (fun z => nomatch z) (Nat.le_of_ble_eq_true rfl) ?_
  unfold mX1_daysOf at h
  refine EV_iload_n dX1_daysOf_0 rfl ?_
  refine EV_iconst (x := (1 : Int32)) dX1_daysOf_1 (by decide) ?_
  refine EV_icmp_lt (tgt := 11) dX1_daysOf_2 (by decide) (fun c1 => ?_) (fun c1 => ?_)
  · rw [if_pos c1] at h
    exact EV_pick [] rfl (zX1_daysOf_11 E h)
  · rw [if_neg c1] at h
    refine EV_iload_n dX1_daysOf_5 rfl ?_
    refine EV_bipush (x := (12 : Int32)) dX1_daysOf_6 (by decide) ?_
    refine EV_icmp_le (tgt := 13) dX1_daysOf_8 (by decide) (fun c2 => ?_) (fun c2 => ?_)
    · rw [if_pos c2] at h
      refine EV_iload_n dX1_daysOf_13 rfl ?_
      refine EV_iconst (x := (2 : Int32)) dX1_daysOf_14 (by decide) ?_
      refine EV_icmp_ne (tgt := 29) dX1_daysOf_15 (by decide) (fun c3 => ?_) (fun c3 => ?_)
      · rw [if_pos c3] at h
        refine EV_iload_n dX1_daysOf_18 rfl ?_
        refine EV_iconst (x := (4 : Int32)) dX1_daysOf_19 (by decide) ?_
        refine EV_irem dX1_daysOf_20 (by decide) ?_
        refine EV_if_ne (tgt := 29) dX1_daysOf_21 (by decide) (fun c4 => ?_) (fun c4 => ?_)
        · rw [if_pos c4] at h
          refine EV_bipush (x := (29 : Int32)) dX1_daysOf_24 (by decide) ?_
          refine EV_goto (tgt := 36) dX1_daysOf_26 (by decide) ?_
          exact EV_pick [] rfl (zX1_daysOf_36 E h)
        · rw [if_neg c4] at h
          exact EV_pick [0] rfl (zX1_daysOf_29 E h)
      · rw [if_neg c3] at h
        exact EV_pick [0] rfl (zX1_daysOf_29 E h)
    · rw [if_neg c2] at h
      exact EV_pick [] rfl (zX1_daysOf_11 E h)
def mX1_goOn_150 (s0 : eS) : Option eS :=
  (some s0)
set_option maxRecDepth 100000 in
set_option maxHeartbeats 4000000 in
theorem zX1_goOn_150 (E : eE) {s0 s9 : eS} (h : mX1_goOn_150 s0 = some s9) : EV E MX1_goOn 150 [] [] s0 none s9 := by
  unfold mX1_goOn_150 at h
  cases h
  exact EV_ret ⟨dX1_goOn_150, rfl⟩ rfl
def mX1_goOn_123 (h0 : Nat) (s0 : eS) : Option eS :=
  (b1 (g_I s0 101 4 h0) fun x1 => (if x1 ≤ (12 : Int32) then (mX1_goOn_150 s0) else (b1 (p_I s0 101 4 h0 (1 : Int32)) fun s3 => (b1 (g_I s3 101 5 h0) fun x4 => (b1 (p_I s3 101 5 h0 ((x4 + (1 : Int32)) - (x4 + (1 : Int32)) / (100 : Int32) * (100 : Int32))) fun s5 => (mX1_goOn_150 s5))))))
set_option maxRecDepth 100000 in
set_option maxHeartbeats 4000000 in
theorem zX1_goOn_123 (E : eE) {h0 : Nat} {s0 s9 : eS} (h : mX1_goOn_123 h0 s0 = some s9) : EV E MX1_goOn 123 [(0, VR (some h0))] [] s0 none s9 := by
  unfold mX1_goOn_123 at h
  refine EV_aload_n dX1_goOn_123 rfl ?_
  have hh := b1_some h; clear h; obtain ⟨x1, hx1, h⟩ := hh
  refine EV_getI (ci := 1) (k := 4) dX1_goOn_124 fl_X1_15 rfl hx1 ?_
  refine EV_bipush (x := (12 : Int32)) dX1_goOn_127 (by decide) ?_
  refine EV_icmp_le (tgt := 150) dX1_goOn_129 (by decide) (fun c2 => ?_) (fun c2 => ?_)
  · rw [if_pos c2] at h
    exact EV_pick [] rfl (zX1_goOn_150 E h)
  · rw [if_neg c2] at h
    refine EV_aload_n dX1_goOn_132 rfl ?_
    refine EV_iconst (x := (1 : Int32)) dX1_goOn_133 (by decide) ?_
    have hh := b1_some h; clear h; obtain ⟨s3, hs3, h⟩ := hh
    refine EV_putI (ci := 1) (k := 4) dX1_goOn_134 fp_X1_15 rfl hs3 ?_
    refine EV_aload_n dX1_goOn_137 rfl ?_
    refine EV_aload_n dX1_goOn_138 rfl ?_
    have hh := b1_some h; clear h; obtain ⟨x4, hx4, h⟩ := hh
    refine EV_getI (ci := 1) (k := 5) dX1_goOn_139 fl_X1_28 rfl hx4 ?_
    refine EV_iconst (x := (1 : Int32)) dX1_goOn_142 (by decide) ?_
    refine EV_iadd dX1_goOn_143 ?_
    refine EV_bipush (x := (100 : Int32)) dX1_goOn_144 (by decide) ?_
    refine EV_irem dX1_goOn_146 (by decide) ?_
    have hh := b1_some h; clear h; obtain ⟨s5, hs5, h⟩ := hh
    refine EV_putI (ci := 1) (k := 5) dX1_goOn_147 fp_X1_28 rfl hs5 ?_
    exact EV_pick [] rfl (zX1_goOn_150 E h)
def mX1_goOn_90 (h0 : Nat) (s0 : eS) : Option eS :=
  (b1 (g_I s0 101 3 h0) fun x1 => (b1 (g_I s0 101 4 h0) fun x2 => (b1 (g_I s0 101 5 h0) fun x3 => (b2 (mX1_daysOf x2 x3 s0) fun x5 s4 => (if x1 ≤ x5 then (mX1_goOn_123 h0 s4) else (b1 (p_I s4 101 3 h0 (1 : Int32)) fun s7 => (b1 (g_I s7 101 4 h0) fun x8 => (b1 (p_I s7 101 4 h0 (x8 + (1 : Int32))) fun s9 => (mX1_goOn_123 h0 s9)))))))))
set_option maxRecDepth 100000 in
set_option maxHeartbeats 4000000 in
theorem zX1_goOn_90 (E : eE) {h0 : Nat} {s0 s9 : eS} (h : mX1_goOn_90 h0 s0 = some s9) : EV E MX1_goOn 90 [(0, VR (some h0))] [] s0 none s9 := by
  unfold mX1_goOn_90 at h
  refine EV_aload_n dX1_goOn_90 rfl ?_
  have hh := b1_some h; clear h; obtain ⟨x1, hx1, h⟩ := hh
  refine EV_getI (ci := 1) (k := 3) dX1_goOn_91 fl_X1_9 rfl hx1 ?_
  refine EV_aload_n dX1_goOn_94 rfl ?_
  have hh := b1_some h; clear h; obtain ⟨x2, hx2, h⟩ := hh
  refine EV_getI (ci := 1) (k := 4) dX1_goOn_95 fl_X1_15 rfl hx2 ?_
  refine EV_aload_n dX1_goOn_98 rfl ?_
  have hh := b1_some h; clear h; obtain ⟨x3, hx3, h⟩ := hh
  refine EV_getI (ci := 1) (k := 5) dX1_goOn_99 fl_X1_28 rfl hx3 ?_
  have hh := b2_some h; clear h; obtain ⟨x5, s4, hs4, h⟩ := hh
  refine EV_callS (Y := YX1_daysOf) (as := [VI x2, VI x3]) (st := [VI x1]) (st2 := [VI x5, VI x1]) (n := 2) dX1_goOn_102 (zX1_daysOf E hs4) rfl cwX1_daysOf rfl tw_813 tw_814 ⟨by decide, by decide⟩ (Nat.le_of_ble_eq_true rfl) rfl ?_
  refine EV_icmp_le (tgt := 123) dX1_goOn_105 (by decide) (fun c6 => ?_) (fun c6 => ?_)
  · rw [if_pos c6] at h
    exact EV_pick [0] rfl (zX1_goOn_123 E h)
  · rw [if_neg c6] at h
    refine EV_aload_n dX1_goOn_108 rfl ?_
    refine EV_iconst (x := (1 : Int32)) dX1_goOn_109 (by decide) ?_
    have hh := b1_some h; clear h; obtain ⟨s7, hs7, h⟩ := hh
    refine EV_putI (ci := 1) (k := 3) dX1_goOn_110 fp_X1_9 rfl hs7 ?_
    refine EV_aload_n dX1_goOn_113 rfl ?_
    refine EV_dup dX1_goOn_114 rfl ?_
    have hh := b1_some h; clear h; obtain ⟨x8, hx8, h⟩ := hh
    refine EV_getI (ci := 1) (k := 4) dX1_goOn_115 fl_X1_15 rfl hx8 ?_
    refine EV_iconst (x := (1 : Int32)) dX1_goOn_118 (by decide) ?_
    refine EV_iadd dX1_goOn_119 ?_
    have hh := b1_some h; clear h; obtain ⟨s9, hs9, h⟩ := hh
    refine EV_putI (ci := 1) (k := 4) dX1_goOn_120 fp_X1_15 rfl hs9 ?_
    exact EV_pick [0] rfl (zX1_goOn_123 E h)
def mX1_goOn_66 (h0 : Nat) (s0 : eS) : Option eS :=
  (b1 (g_I s0 101 2 h0) fun x1 => (if x1 = (24 : Int32) then (b1 (p_I s0 101 2 h0 (0 : Int32)) fun s3 => (b1 (g_I s3 101 3 h0) fun x4 => (b1 (p_I s3 101 3 h0 (x4 + (1 : Int32))) fun s5 => (mX1_goOn_90 h0 s5)))) else (mX1_goOn_90 h0 s0)))
set_option maxRecDepth 100000 in
set_option maxHeartbeats 4000000 in
theorem zX1_goOn_66 (E : eE) {h0 : Nat} {s0 s9 : eS} (h : mX1_goOn_66 h0 s0 = some s9) : EV E MX1_goOn 66 [(0, VR (some h0))] [] s0 none s9 := by
  unfold mX1_goOn_66 at h
  refine EV_aload_n dX1_goOn_66 rfl ?_
  have hh := b1_some h; clear h; obtain ⟨x1, hx1, h⟩ := hh
  refine EV_getI (ci := 1) (k := 2) dX1_goOn_67 fl_X1_25 rfl hx1 ?_
  refine EV_bipush (x := (24 : Int32)) dX1_goOn_70 (by decide) ?_
  refine EV_icmp_ne (tgt := 90) dX1_goOn_72 (by decide) (fun c2 => ?_) (fun c2 => ?_)
  · rw [if_pos c2] at h
    refine EV_aload_n dX1_goOn_75 rfl ?_
    refine EV_iconst (x := (0 : Int32)) dX1_goOn_76 (by decide) ?_
    have hh := b1_some h; clear h; obtain ⟨s3, hs3, h⟩ := hh
    refine EV_putI (ci := 1) (k := 2) dX1_goOn_77 fp_X1_25 rfl hs3 ?_
    refine EV_aload_n dX1_goOn_80 rfl ?_
    refine EV_dup dX1_goOn_81 rfl ?_
    have hh := b1_some h; clear h; obtain ⟨x4, hx4, h⟩ := hh
    refine EV_getI (ci := 1) (k := 3) dX1_goOn_82 fl_X1_9 rfl hx4 ?_
    refine EV_iconst (x := (1 : Int32)) dX1_goOn_85 (by decide) ?_
    refine EV_iadd dX1_goOn_86 ?_
    have hh := b1_some h; clear h; obtain ⟨s5, hs5, h⟩ := hh
    refine EV_putI (ci := 1) (k := 3) dX1_goOn_87 fp_X1_9 rfl hs5 ?_
    exact EV_pick [0] rfl (zX1_goOn_90 E h)
  · rw [if_neg c2] at h
    exact EV_pick [0] rfl (zX1_goOn_90 E h)
def mX1_goOn (h0 : Nat) (s0 : eS) : Option eS :=
  (b1 (g_I s0 101 0 h0) fun x1 => (b1 (p_I s0 101 0 h0 (x1 + (100 : Int32))) fun s2 => (b1 (g_I s2 101 0 h0) fun x3 => (if (60000 : Int32) ≤ x3 then (b1 (g_I s2 101 0 h0) fun x5 => (b1 (p_I s2 101 0 h0 (x5 - (60000 : Int32))) fun s6 => (b1 (g_I s6 101 1 h0) fun x7 => (b1 (p_I s6 101 1 h0 (x7 + (1 : Int32))) fun s8 => (b1 (g_I s8 101 1 h0) fun x9 => (if x9 = (60 : Int32) then (b1 (p_I s8 101 1 h0 (0 : Int32)) fun s11 => (b1 (g_I s11 101 2 h0) fun x12 => (b1 (p_I s11 101 2 h0 (x12 + (1 : Int32))) fun s13 => (mX1_goOn_66 h0 s13)))) else (mX1_goOn_66 h0 s8))))))) else (some s2)))))
set_option maxRecDepth 100000 in
set_option maxHeartbeats 4000000 in
theorem zX1_goOn (E : eE) {h0 : Nat} {s0 s9 : eS} (h : mX1_goOn h0 s0 = some s9) : EM E YX1_goOn [VR (some h0)] s0 none s9 := by
  refine EM_of (M := MX1_goOn) (own := RX1) (ini := false) rfl (by decide +kernel) rfl (fun z => nomatch z) (Nat.le_of_ble_eq_true rfl) ?_
  unfold mX1_goOn at h
  refine EV_aload_n dX1_goOn_0 rfl ?_
  refine EV_dup dX1_goOn_1 rfl ?_
  have hh := b1_some h; clear h; obtain ⟨x1, hx1, h⟩ := hh
  refine EV_getI (ci := 1) (k := 0) dX1_goOn_2 fl_X1_18 rfl hx1 ?_
  refine EV_bipush (x := (100 : Int32)) dX1_goOn_5 (by decide) ?_
  refine EV_iadd dX1_goOn_7 ?_
  have hh := b1_some h; clear h; obtain ⟨s2, hs2, h⟩ := hh
  refine EV_putI (ci := 1) (k := 0) dX1_goOn_8 fp_X1_18 rfl hs2 ?_
  refine EV_aload_n dX1_goOn_11 rfl ?_
  have hh := b1_some h; clear h; obtain ⟨x3, hx3, h⟩ := hh
  refine EV_getI (ci := 1) (k := 0) dX1_goOn_12 fl_X1_18 rfl hx3 ?_
  refine EV_ldc (x := (60000 : Int32)) dX1_goOn_15 tw_874 ?_
  refine EV_icmp_ge (tgt := 21) dX1_goOn_17 (by decide) (fun c4 => ?_) (fun c4 => ?_)
  · rw [if_pos c4] at h
    refine EV_aload_n dX1_goOn_21 rfl ?_
    refine EV_dup dX1_goOn_22 rfl ?_
    have hh := b1_some h; clear h; obtain ⟨x5, hx5, h⟩ := hh
    refine EV_getI (ci := 1) (k := 0) dX1_goOn_23 fl_X1_18 rfl hx5 ?_
    refine EV_ldc (x := (60000 : Int32)) dX1_goOn_26 tw_874 ?_
    refine EV_isub dX1_goOn_28 ?_
    have hh := b1_some h; clear h; obtain ⟨s6, hs6, h⟩ := hh
    refine EV_putI (ci := 1) (k := 0) dX1_goOn_29 fp_X1_18 rfl hs6 ?_
    refine EV_aload_n dX1_goOn_32 rfl ?_
    refine EV_dup dX1_goOn_33 rfl ?_
    have hh := b1_some h; clear h; obtain ⟨x7, hx7, h⟩ := hh
    refine EV_getI (ci := 1) (k := 1) dX1_goOn_34 fl_X1_22 rfl hx7 ?_
    refine EV_iconst (x := (1 : Int32)) dX1_goOn_37 (by decide) ?_
    refine EV_iadd dX1_goOn_38 ?_
    have hh := b1_some h; clear h; obtain ⟨s8, hs8, h⟩ := hh
    refine EV_putI (ci := 1) (k := 1) dX1_goOn_39 fp_X1_22 rfl hs8 ?_
    refine EV_aload_n dX1_goOn_42 rfl ?_
    have hh := b1_some h; clear h; obtain ⟨x9, hx9, h⟩ := hh
    refine EV_getI (ci := 1) (k := 1) dX1_goOn_43 fl_X1_22 rfl hx9 ?_
    refine EV_bipush (x := (60 : Int32)) dX1_goOn_46 (by decide) ?_
    refine EV_icmp_ne (tgt := 66) dX1_goOn_48 (by decide) (fun c10 => ?_) (fun c10 => ?_)
    · rw [if_pos c10] at h
      refine EV_aload_n dX1_goOn_51 rfl ?_
      refine EV_iconst (x := (0 : Int32)) dX1_goOn_52 (by decide) ?_
      have hh := b1_some h; clear h; obtain ⟨s11, hs11, h⟩ := hh
      refine EV_putI (ci := 1) (k := 1) dX1_goOn_53 fp_X1_22 rfl hs11 ?_
      refine EV_aload_n dX1_goOn_56 rfl ?_
      refine EV_dup dX1_goOn_57 rfl ?_
      have hh := b1_some h; clear h; obtain ⟨x12, hx12, h⟩ := hh
      refine EV_getI (ci := 1) (k := 2) dX1_goOn_58 fl_X1_25 rfl hx12 ?_
      refine EV_iconst (x := (1 : Int32)) dX1_goOn_61 (by decide) ?_
      refine EV_iadd dX1_goOn_62 ?_
      have hh := b1_some h; clear h; obtain ⟨s13, hs13, h⟩ := hh
      refine EV_putI (ci := 1) (k := 2) dX1_goOn_63 fp_X1_25 rfl hs13 ?_
      exact EV_pick [0] rfl (zX1_goOn_66 E h)
    · rw [if_neg c10] at h
      exact EV_pick [0] rfl (zX1_goOn_66 E h)
  · rw [if_neg c4] at h
    cases h
    exact EV_ret ⟨dX1_goOn_20, rfl⟩ rfl
def mX1_time_44 (h0 : Nat) (pl1 : Int64) (pt0 : Int32) (s0 : eS) : Option (Int64 × eS) :=
  (b1 (g_I s0 101 0 h0) fun x1 => (b1 (g_I s0 101 2 h0) fun x2 => (some ((((((x1).toInt64) ||| (((pt0).toInt64) <<< ((16 : Int32).toInt64 &&& 63))) ||| (((x2).toInt64) <<< ((24 : Int32).toInt64 &&& 63))) ||| (pl1 <<< ((32 : Int32).toInt64 &&& 63))), s0))))
set_option maxRecDepth 100000 in
set_option maxHeartbeats 4000000 in
theorem zX1_time_44 (E : eE) {h0 : Nat} {pl1 : Int64} {pt0 : Int32} {s0 s9 : eS} {y : Int64} (h : mX1_time_44 h0 pl1 pt0 s0 = some (y, s9)) : EV E MX1_time 44 [(0, VR (some h0)), (1, VL pl1)] [VI pt0] s0 (some (VL y)) s9 := by
  unfold mX1_time_44 at h
  refine EV_istore_n (lv2 := [(3, VI pt0), (0, VR (some h0)), (1, VL pl1)]) dX1_time_44 (by decide) rfl ?_
  refine EV_aload_n dX1_time_45 rfl ?_
  have hh := b1_some h; clear h; obtain ⟨x1, hx1, h⟩ := hh
  refine EV_getI (ci := 1) (k := 0) dX1_time_46 fl_X1_18 rfl hx1 ?_
  refine EV_i2l dX1_time_49 ?_
  refine EV_iload_n dX1_time_50 rfl ?_
  refine EV_i2l dX1_time_51 ?_
  refine EV_bipush (x := (16 : Int32)) dX1_time_52 (by decide) ?_
  refine EV_lshl dX1_time_54 ?_
  refine EV_lor dX1_time_55 ?_
  refine EV_aload_n dX1_time_56 rfl ?_
  have hh := b1_some h; clear h; obtain ⟨x2, hx2, h⟩ := hh
  refine EV_getI (ci := 1) (k := 2) dX1_time_57 fl_X1_25 rfl hx2 ?_
  refine EV_i2l dX1_time_60 ?_
  refine EV_bipush (x := (24 : Int32)) dX1_time_61 (by decide) ?_
  refine EV_lshl dX1_time_63 ?_
  refine EV_lor dX1_time_64 ?_
  refine EV_lload_n dX1_time_65 rfl ?_
  refine EV_bipush (x := (32 : Int32)) dX1_time_66 (by decide) ?_
  refine EV_lshl dX1_time_68 ?_
  refine EV_lor dX1_time_69 ?_
  cases h
  exact EV_ret ⟨dX1_time_70, rfl⟩ rfl
def mX1_time (h0 : Nat) (s0 : eS) : Option (Int64 × eS) :=
  (b1 (g_I s0 101 3 h0) fun x1 => (b1 (g_I s0 101 4 h0) fun x2 => (b1 (g_I s0 101 5 h0) fun x3 => (b1 (g_I s0 101 6 h0) fun x4 => (if x4 = 0 then (b1 (g_I s0 101 1 h0) fun x6 => (mX1_time_44 h0 ((((x1 ||| (x2 <<< ((8 : Int32) &&& 31))) ||| (x3 <<< ((16 : Int32) &&& 31)))).toInt64) (x6 ||| (128 : Int32)) s0)) else (b1 (g_I s0 101 1 h0) fun x6 => (mX1_time_44 h0 ((((x1 ||| (x2 <<< ((8 : Int32) &&& 31))) ||| (x3 <<< ((16 : Int32) &&& 31)))).toInt64) x6 s0)))))))
set_option maxRecDepth 100000 in
set_option maxHeartbeats 4000000 in
theorem zX1_time (E : eE) {h0 : Nat} {s0 s9 : eS} {y : Int64} (h : mX1_time h0 s0 = some (y, s9)) : EM E YX1_time [VR (some h0)] s0 (some (VL y)) s9 := by
  refine EM_of (M := MX1_time) (own := RX1) (ini := false) rfl (by decide +kernel) rfl (fun z => nomatch z) (Nat.le_of_ble_eq_true rfl) ?_
  unfold mX1_time at h
  refine EV_aload_n dX1_time_0 rfl ?_
  have hh := b1_some h; clear h; obtain ⟨x1, hx1, h⟩ := hh
  refine EV_getI (ci := 1) (k := 3) dX1_time_1 fl_X1_9 rfl hx1 ?_
  refine EV_aload_n dX1_time_4 rfl ?_
  have hh := b1_some h; clear h; obtain ⟨x2, hx2, h⟩ := hh
  refine EV_getI (ci := 1) (k := 4) dX1_time_5 fl_X1_15 rfl hx2 ?_
  refine EV_bipush (x := (8 : Int32)) dX1_time_8 (by decide) ?_
  refine EV_ishl dX1_time_10 ?_
  refine EV_ior dX1_time_11 ?_
  refine EV_aload_n dX1_time_12 rfl ?_
  have hh := b1_some h; clear h; obtain ⟨x3, hx3, h⟩ := hh
  refine EV_getI (ci := 1) (k := 5) dX1_time_13 fl_X1_28 rfl hx3 ?_
  refine EV_bipush (x := (16 : Int32)) dX1_time_16 (by decide) ?_
  refine EV_ishl dX1_time_18 ?_
  refine EV_ior dX1_time_19 ?_
  refine EV_i2l dX1_time_20 ?_
  refine EV_lstore_n (lv2 := [(1, VL ((((x1 ||| (x2 <<< ((8 : Int32) &&& 31))) ||| (x3 <<< ((16 : Int32) &&& 31)))).toInt64)), (0, VR (some h0))]) dX1_time_21 (by decide) rfl ?_
  refine EV_aload_n dX1_time_22 rfl ?_
  have hh := b1_some h; clear h; obtain ⟨x4, hx4, h⟩ := hh
  refine EV_getI (ci := 1) (k := 6) dX1_time_23 fl_X1_35 rfl hx4 ?_
  refine EV_if_eq (tgt := 36) dX1_time_26 (by decide) (fun c5 => ?_) (fun c5 => ?_)
  · rw [if_pos c5] at h
    refine EV_aload_n dX1_time_36 rfl ?_
    have hh := b1_some h; clear h; obtain ⟨x6, hx6, h⟩ := hh
    refine EV_getI (ci := 1) (k := 1) dX1_time_37 fl_X1_22 rfl hx6 ?_
    refine EV_sipush (x := (128 : Int32)) dX1_time_40 (by decide) ?_
    refine EV_ior dX1_time_43 ?_
    exact EV_pick [1, 0] rfl (zX1_time_44 E h)
  · rw [if_neg c5] at h
    refine EV_aload_n dX1_time_29 rfl ?_
    have hh := b1_some h; clear h; obtain ⟨x6, hx6, h⟩ := hh
    refine EV_getI (ci := 1) (k := 1) dX1_time_30 fl_X1_22 rfl hx6 ?_
    refine EV_goto (tgt := 44) dX1_time_33 (by decide) ?_
    exact EV_pick [1, 0] rfl (zX1_time_44 E h)
def mX1_become (h0 : Nat) (pl1 : Int64) (s0 : eS) : Option eS :=
  (b1 (p_I s0 101 0 h0 (((pl1).toInt32) &&& (65535 : Int32))) fun s1 => (b1 (p_I s1 101 1 h0 ((((pl1 >>> ((16 : Int32).toInt64 &&& 63))).toInt32) &&& (255 : Int32))) fun s2 => (b1 (p_I s2 101 2 h0 ((((pl1 >>> ((24 : Int32).toInt64 &&& 63))).toInt32) &&& (255 : Int32))) fun s3 => (b1 (p_I s3 101 3 h0 ((((pl1 >>> ((32 : Int32).toInt64 &&& 63))).toInt32) &&& (255 : Int32))) fun s4 => (b1 (p_I s4 101 4 h0 ((((pl1 >>> ((40 : Int32).toInt64 &&& 63))).toInt32) &&& (255 : Int32))) fun s5 => (b1 (p_I s5 101 5 h0 ((((pl1 >>> ((48 : Int32).toInt64 &&& 63))).toInt32) &&& (255 : Int32))) fun s6 => (b1 (p_Z s6 101 6 h0 (1 : Int32)) fun s7 => (some s7))))))))
set_option maxRecDepth 100000 in
set_option maxHeartbeats 4000000 in
theorem zX1_become (E : eE) {h0 : Nat} {pl1 : Int64} {s0 s9 : eS} (h : mX1_become h0 pl1 s0 = some s9) : EM E YX1_become [VR (some h0), VL pl1] s0 none s9 := by
  refine EM_of (M := MX1_become) (own := RX1) (ini := false) rfl (by decide +kernel) rfl (fun z => nomatch z) (Nat.le_of_ble_eq_true rfl) ?_
  unfold mX1_become at h
  refine EV_aload_n dX1_become_0 rfl ?_
  refine EV_lload_n dX1_become_1 rfl ?_
  refine EV_l2i dX1_become_2 ?_
  refine EV_ldc (x := (65535 : Int32)) dX1_become_3 tw_822 ?_
  refine EV_iand dX1_become_5 ?_
  have hh := b1_some h; clear h; obtain ⟨s1, hs1, h⟩ := hh
  refine EV_putI (ci := 1) (k := 0) dX1_become_6 fp_X1_18 rfl hs1 ?_
  refine EV_aload_n dX1_become_9 rfl ?_
  refine EV_lload_n dX1_become_10 rfl ?_
  refine EV_bipush (x := (16 : Int32)) dX1_become_11 (by decide) ?_
  refine EV_lshr dX1_become_13 ?_
  refine EV_l2i dX1_become_14 ?_
  refine EV_sipush (x := (255 : Int32)) dX1_become_15 (by decide) ?_
  refine EV_iand dX1_become_18 ?_
  have hh := b1_some h; clear h; obtain ⟨s2, hs2, h⟩ := hh
  refine EV_putI (ci := 1) (k := 1) dX1_become_19 fp_X1_22 rfl hs2 ?_
  refine EV_aload_n dX1_become_22 rfl ?_
  refine EV_lload_n dX1_become_23 rfl ?_
  refine EV_bipush (x := (24 : Int32)) dX1_become_24 (by decide) ?_
  refine EV_lshr dX1_become_26 ?_
  refine EV_l2i dX1_become_27 ?_
  refine EV_sipush (x := (255 : Int32)) dX1_become_28 (by decide) ?_
  refine EV_iand dX1_become_31 ?_
  have hh := b1_some h; clear h; obtain ⟨s3, hs3, h⟩ := hh
  refine EV_putI (ci := 1) (k := 2) dX1_become_32 fp_X1_25 rfl hs3 ?_
  refine EV_aload_n dX1_become_35 rfl ?_
  refine EV_lload_n dX1_become_36 rfl ?_
  refine EV_bipush (x := (32 : Int32)) dX1_become_37 (by decide) ?_
  refine EV_lshr dX1_become_39 ?_
  refine EV_l2i dX1_become_40 ?_
  refine EV_sipush (x := (255 : Int32)) dX1_become_41 (by decide) ?_
  refine EV_iand dX1_become_44 ?_
  have hh := b1_some h; clear h; obtain ⟨s4, hs4, h⟩ := hh
  refine EV_putI (ci := 1) (k := 3) dX1_become_45 fp_X1_9 rfl hs4 ?_
  refine EV_aload_n dX1_become_48 rfl ?_
  refine EV_lload_n dX1_become_49 rfl ?_
  refine EV_bipush (x := (40 : Int32)) dX1_become_50 (by decide) ?_
  refine EV_lshr dX1_become_52 ?_
  refine EV_l2i dX1_become_53 ?_
  refine EV_sipush (x := (255 : Int32)) dX1_become_54 (by decide) ?_
  refine EV_iand dX1_become_57 ?_
  have hh := b1_some h; clear h; obtain ⟨s5, hs5, h⟩ := hh
  refine EV_putI (ci := 1) (k := 4) dX1_become_58 fp_X1_15 rfl hs5 ?_
  refine EV_aload_n dX1_become_61 rfl ?_
  refine EV_lload_n dX1_become_62 rfl ?_
  refine EV_bipush (x := (48 : Int32)) dX1_become_63 (by decide) ?_
  refine EV_lshr dX1_become_65 ?_
  refine EV_l2i dX1_become_66 ?_
  refine EV_sipush (x := (255 : Int32)) dX1_become_67 (by decide) ?_
  refine EV_iand dX1_become_70 ?_
  have hh := b1_some h; clear h; obtain ⟨s6, hs6, h⟩ := hh
  refine EV_putI (ci := 1) (k := 5) dX1_become_71 fp_X1_28 rfl hs6 ?_
  refine EV_aload_n dX1_become_74 rfl ?_
  refine EV_iconst (x := (1 : Int32)) dX1_become_75 (by decide) ?_
  have hh := b1_some h; clear h; obtain ⟨s7, hs7, h⟩ := hh
  refine EV_putZ (ci := 1) (k := 6) dX1_become_76 fp_X1_35 rfl hs7 ?_
  cases h
  exact EV_ret ⟨dX1_become_79, rfl⟩ rfl
def mX1_isTime_100 (pt0 : Int32) (s0 : eS) : Option (Int32 × eS) :=
  (b1 (o_Z pt0) fun u1 => some (pt0, s0))
set_option maxRecDepth 100000 in
set_option maxHeartbeats 4000000 in
theorem zX1_isTime_100 (E : eE) {pt0 : Int32} {s0 s9 : eS} {y : Int32} (h : mX1_isTime_100 pt0 s0 = some (y, s9)) : EV E MX1_isTime 100 [] [VI pt0] s0 (some (VI y)) s9 := by
  unfold mX1_isTime_100 at h
  have hh := b1_some h; clear h; obtain ⟨u1, hu1, h⟩ := hh
  cases h
  exact EV_ret ⟨dX1_isTime_100, .boolean, rfl, o_Z_n hu1⟩ rfl
def mX1_isTime_99 (s0 : eS) : Option (Int32 × eS) :=
  (mX1_isTime_100 (0 : Int32) s0)
set_option maxRecDepth 100000 in
set_option maxHeartbeats 4000000 in
theorem zX1_isTime_99 (E : eE) {s0 s9 : eS} {y : Int32} (h : mX1_isTime_99 s0 = some (y, s9)) : EV E MX1_isTime 99 [] [] s0 (some (VI y)) s9 := by
  unfold mX1_isTime_99 at h
  refine EV_iconst (x := (0 : Int32)) dX1_isTime_99 (by decide) ?_
  exact EV_pick [] rfl (zX1_isTime_100 E h)
def mX1_isTime (pl0 : Int64) (s0 : eS) : Option (Int32 × eS) :=
  (if 0 ≤ (lg_cmp (pl0 &&& (65535 : Int64)) (60000 : Int64)) then (mX1_isTime_99 s0) else (if 0 ≤ (lg_cmp ((pl0 >>> ((16 : Int32).toInt64 &&& 63)) &&& (255 : Int64)) (60 : Int64)) then (mX1_isTime_99 s0) else (if 0 ≤ (lg_cmp ((pl0 >>> ((24 : Int32).toInt64 &&& 63)) &&& (255 : Int64)) (24 : Int64)) then (mX1_isTime_99 s0) else (if (100 : Int32) ≤ ((((pl0 >>> ((48 : Int32).toInt64 &&& 63))).toInt32) &&& (255 : Int32)) then (mX1_isTime_99 s0) else (if ((((pl0 >>> ((32 : Int32).toInt64 &&& 63))).toInt32) &&& (255 : Int32)) < (1 : Int32) then (mX1_isTime_99 s0) else (b2 (mX1_daysOf ((((pl0 >>> ((40 : Int32).toInt64 &&& 63))).toInt32) &&& (255 : Int32)) ((((pl0 >>> ((48 : Int32).toInt64 &&& 63))).toInt32) &&& (255 : Int32)) s0) fun x7 s6 => (if x7 < ((((pl0 >>> ((32 : Int32).toInt64 &&& 63))).toInt32) &&& (255 : Int32)) then (mX1_isTime_99 s6) else (mX1_isTime_100 (1 : Int32) s6))))))))
set_option maxRecDepth 100000 in
set_option maxHeartbeats 4000000 in
theorem zX1_isTime (E : eE) {pl0 : Int64} {s0 s9 : eS} {y : Int32} (h : mX1_isTime pl0 s0 = some (y, s9)) : EM E YX1_isTime [VL pl0] s0 (some (VI y)) s9 := by
  refine EM_of (M := MX1_isTime) (own := RX1) (ini := false) rfl (by decide +kernel) rfl (fun z => nomatch z) (Nat.le_of_ble_eq_true rfl) ?_
  unfold mX1_isTime at h
  refine EV_lload_n dX1_isTime_0 rfl ?_
  refine EV_bipush (x := (32 : Int32)) dX1_isTime_1 (by decide) ?_
  refine EV_lshr dX1_isTime_3 ?_
  refine EV_l2i dX1_isTime_4 ?_
  refine EV_sipush (x := (255 : Int32)) dX1_isTime_5 (by decide) ?_
  refine EV_iand dX1_isTime_8 ?_
  refine EV_istore_n (lv2 := [(2, VI ((((pl0 >>> ((32 : Int32).toInt64 &&& 63))).toInt32) &&& (255 : Int32))), (0, VL pl0)]) dX1_isTime_9 (by decide) rfl ?_
  refine EV_lload_n dX1_isTime_10 rfl ?_
  refine EV_bipush (x := (40 : Int32)) dX1_isTime_11 (by decide) ?_
  refine EV_lshr dX1_isTime_13 ?_
  refine EV_l2i dX1_isTime_14 ?_
  refine EV_sipush (x := (255 : Int32)) dX1_isTime_15 (by decide) ?_
  refine EV_iand dX1_isTime_18 ?_
  refine EV_istore_n (lv2 := [(3, VI ((((pl0 >>> ((40 : Int32).toInt64 &&& 63))).toInt32) &&& (255 : Int32))), (2, VI ((((pl0 >>> ((32 : Int32).toInt64 &&& 63))).toInt32) &&& (255 : Int32))), (0, VL pl0)]) dX1_isTime_19 (by decide) rfl ?_
  refine EV_lload_n dX1_isTime_20 rfl ?_
  refine EV_bipush (x := (48 : Int32)) dX1_isTime_21 (by decide) ?_
  refine EV_lshr dX1_isTime_23 ?_
  refine EV_l2i dX1_isTime_24 ?_
  refine EV_sipush (x := (255 : Int32)) dX1_isTime_25 (by decide) ?_
  refine EV_iand dX1_isTime_28 ?_
  refine EV_istore (lv2 := [(4, VI ((((pl0 >>> ((48 : Int32).toInt64 &&& 63))).toInt32) &&& (255 : Int32))), (3, VI ((((pl0 >>> ((40 : Int32).toInt64 &&& 63))).toInt32) &&& (255 : Int32))), (2, VI ((((pl0 >>> ((32 : Int32).toInt64 &&& 63))).toInt32) &&& (255 : Int32))), (0, VL pl0)]) dX1_isTime_29 (by decide) rfl ?_
  refine EV_lload_n dX1_isTime_31 rfl ?_
  refine EV_ldc2 (x := (65535 : Int64)) dX1_isTime_32 tw_808 ?_
  refine EV_land dX1_isTime_35 ?_
  refine EV_ldc2 (x := (60000 : Int64)) dX1_isTime_36 tw_809 ?_
  refine EV_lcmp dX1_isTime_39 ?_
  refine EV_if_ge (tgt := 99) dX1_isTime_40 (by decide) (fun c1 => ?_) (fun c1 => ?_)
  · rw [if_pos c1] at h
    exact EV_pick [] rfl (zX1_isTime_99 E h)
  · rw [if_neg c1] at h
    refine EV_lload_n dX1_isTime_43 rfl ?_
    refine EV_bipush (x := (16 : Int32)) dX1_isTime_44 (by decide) ?_
    refine EV_lshr dX1_isTime_46 ?_
    refine EV_ldc2 (x := (255 : Int64)) dX1_isTime_47 tw_810 ?_
    refine EV_land dX1_isTime_50 ?_
    refine EV_ldc2 (x := (60 : Int64)) dX1_isTime_51 tw_811 ?_
    refine EV_lcmp dX1_isTime_54 ?_
    refine EV_if_ge (tgt := 99) dX1_isTime_55 (by decide) (fun c2 => ?_) (fun c2 => ?_)
    · rw [if_pos c2] at h
      exact EV_pick [] rfl (zX1_isTime_99 E h)
    · rw [if_neg c2] at h
      refine EV_lload_n dX1_isTime_58 rfl ?_
      refine EV_bipush (x := (24 : Int32)) dX1_isTime_59 (by decide) ?_
      refine EV_lshr dX1_isTime_61 ?_
      refine EV_ldc2 (x := (255 : Int64)) dX1_isTime_62 tw_810 ?_
      refine EV_land dX1_isTime_65 ?_
      refine EV_ldc2 (x := (24 : Int64)) dX1_isTime_66 tw_812 ?_
      refine EV_lcmp dX1_isTime_69 ?_
      refine EV_if_ge (tgt := 99) dX1_isTime_70 (by decide) (fun c3 => ?_) (fun c3 => ?_)
      · rw [if_pos c3] at h
        exact EV_pick [] rfl (zX1_isTime_99 E h)
      · rw [if_neg c3] at h
        refine EV_iload dX1_isTime_73 rfl ?_
        refine EV_bipush (x := (100 : Int32)) dX1_isTime_75 (by decide) ?_
        refine EV_icmp_ge (tgt := 99) dX1_isTime_77 (by decide) (fun c4 => ?_) (fun c4 => ?_)
        · rw [if_pos c4] at h
          exact EV_pick [] rfl (zX1_isTime_99 E h)
        · rw [if_neg c4] at h
          refine EV_iload_n dX1_isTime_80 rfl ?_
          refine EV_iconst (x := (1 : Int32)) dX1_isTime_81 (by decide) ?_
          refine EV_icmp_lt (tgt := 99) dX1_isTime_82 (by decide) (fun c5 => ?_) (fun c5 => ?_)
          · rw [if_pos c5] at h
            exact EV_pick [] rfl (zX1_isTime_99 E h)
          · rw [if_neg c5] at h
            refine EV_iload_n dX1_isTime_85 rfl ?_
            refine EV_iload_n dX1_isTime_86 rfl ?_
            refine EV_iload dX1_isTime_87 rfl ?_
            have hh := b2_some h; clear h; obtain ⟨x7, s6, hs6, h⟩ := hh
            refine EV_callS (Y := YX1_daysOf) (as := [VI ((((pl0 >>> ((40 : Int32).toInt64 &&& 63))).toInt32) &&& (255 : Int32)), VI ((((pl0 >>> ((48 : Int32).toInt64 &&& 63))).toInt32) &&& (255 : Int32))]) (st := [VI ((((pl0 >>> ((32 : Int32).toInt64 &&& 63))).toInt32) &&& (255 : Int32))]) (st2 := [VI x7, VI ((((pl0 >>> ((32 : Int32).toInt64 &&& 63))).toInt32) &&& (255 : Int32))]) (n := 2) dX1_isTime_89 (zX1_daysOf E hs6) rfl cwX1_daysOf rfl tw_813 tw_814 ⟨by decide, by decide⟩ (Nat.le_of_ble_eq_true rfl) rfl ?_
            refine EV_icmp_gt (tgt := 99) dX1_isTime_92 (by decide) (fun c8 => ?_) (fun c8 => ?_)
            · rw [if_pos c8] at h
              exact EV_pick [] rfl (zX1_isTime_99 E h)
            · rw [if_neg c8] at h
              refine EV_iconst (x := (1 : Int32)) dX1_isTime_95 (by decide) ?_
              refine EV_goto (tgt := 100) dX1_isTime_96 (by decide) ?_
              exact EV_pick [] rfl (zX1_isTime_100 E h)
def mX2_init (h0 : Nat) (pi1 : Int32) (pi2 : Int32) (pr3 : Option Nat) (pi4 : Int32) (s0 : eS) : Option eS :=
  (b1 (p_I s0 102 0 h0 pi1) fun s1 => (b1 (p_I s1 102 1 h0 pi2) fun s2 => (b1 (p_P s2 102 2 h0 pr3) fun s3 => (b1 (p_Z s3 102 3 h0 pi4) fun s4 => (some s4)))))
set_option maxRecDepth 100000 in
set_option maxHeartbeats 4000000 in
theorem zX2_init (E : eE) {h0 : Nat} {pi1 : Int32} {pi2 : Int32} {pr3 : Option Nat} {pi4 : Int32} {s0 s9 : eS} (h : mX2_init h0 pi1 pi2 pr3 pi4 s0 = some s9) : EM E YX2_init [VR (some h0), VI pi1, VI pi2, VR pr3, VI pi4] s0 none s9 := by
  refine EM_of (M := MX2_init) (own := RX2) (ini := true) rfl (by decide +kernel) rfl (fun _ => rfl) (Nat.le_of_ble_eq_true rfl) ?_
  unfold mX2_init at h
  refine EV_aload_n dX2_init_0 rfl ?_
  refine EV_objInit dX2_init_1 ⟨_, rfl⟩ tw_463 tw_93 tw_94 ⟨by decide, by decide⟩ (Nat.le_of_ble_eq_true rfl) ?_
  refine EV_aload_n dX2_init_4 rfl ?_
  refine EV_iload_n dX2_init_5 rfl ?_
  have hh := b1_some h; clear h; obtain ⟨s1, hs1, h⟩ := hh
  refine EV_putI (ci := 2) (k := 0) dX2_init_6 fp_X2_7i rfl hs1 ?_
  refine EV_aload_n dX2_init_9 rfl ?_
  refine EV_iload_n dX2_init_10 rfl ?_
  have hh := b1_some h; clear h; obtain ⟨s2, hs2, h⟩ := hh
  refine EV_putI (ci := 2) (k := 1) dX2_init_11 fp_X2_13i rfl hs2 ?_
  refine EV_aload_n dX2_init_14 rfl ?_
  refine EV_aload_n dX2_init_15 rfl ?_
  have hh := b1_some h; clear h; obtain ⟨s3, hs3, h⟩ := hh
  refine EV_putP (ci := 2) (k := 2) dX2_init_16 fp_X2_16i rfl hs3 ?_
  refine EV_aload_n dX2_init_19 rfl ?_
  refine EV_iload dX2_init_20 rfl ?_
  have hh := b1_some h; clear h; obtain ⟨s4, hs4, h⟩ := hh
  refine EV_putZ (ci := 2) (k := 3) dX2_init_22 fp_X2_20i rfl hs4 ?_
  cases h
  exact EV_ret ⟨dX2_init_25, rfl⟩ rfl
def mX2_isOrder_43 (pt0 : Int32) (s0 : eS) : Option (Int32 × eS) :=
  (b1 (o_Z pt0) fun u1 => some (pt0, s0))
set_option maxRecDepth 100000 in
set_option maxHeartbeats 4000000 in
theorem zX2_isOrder_43 (E : eE) {pt0 : Int32} {s0 s9 : eS} {y : Int32} (h : mX2_isOrder_43 pt0 s0 = some (y, s9)) : EV E MX2_isOrder 43 [] [VI pt0] s0 (some (VI y)) s9 := by
  unfold mX2_isOrder_43 at h
  have hh := b1_some h; clear h; obtain ⟨u1, hu1, h⟩ := hh
  cases h
  exact EV_ret ⟨dX2_isOrder_43, .boolean, rfl, o_Z_n hu1⟩ rfl
def mX2_isOrder_63 (pt0 : Int32) (s0 : eS) : Option (Int32 × eS) :=
  (b1 (o_Z pt0) fun u1 => some (pt0, s0))
set_option maxRecDepth 100000 in
set_option maxHeartbeats 4000000 in
theorem zX2_isOrder_63 (E : eE) {pt0 : Int32} {s0 s9 : eS} {y : Int32} (h : mX2_isOrder_63 pt0 s0 = some (y, s9)) : EV E MX2_isOrder 63 [] [VI pt0] s0 (some (VI y)) s9 := by
  unfold mX2_isOrder_63 at h
  have hh := b1_some h; clear h; obtain ⟨u1, hu1, h⟩ := hh
  cases h
  exact EV_ret ⟨dX2_isOrder_63, .boolean, rfl, o_Z_n hu1⟩ rfl
def mX2_isOrder_58 (s0 : eS) : Option (Int32 × eS) :=
  (mX2_isOrder_63 (1 : Int32) s0)
set_option maxRecDepth 100000 in
set_option maxHeartbeats 4000000 in
theorem zX2_isOrder_58 (E : eE) {s0 s9 : eS} {y : Int32} (h : mX2_isOrder_58 s0 = some (y, s9)) : EV E MX2_isOrder 58 [] [] s0 (some (VI y)) s9 := by
  unfold mX2_isOrder_58 at h
  refine EV_iconst (x := (1 : Int32)) dX2_isOrder_58 (by decide) ?_
  refine EV_goto (tgt := 63) dX2_isOrder_59 (by decide) ?_
  exact EV_pick [] rfl (zX2_isOrder_63 E h)
def mX2_isOrder (h0 : Nat) (pi1 : Int32) (s0 : eS) : Option (Int32 × eS) :=
  (b1 (g_I s0 102 0 h0) fun x1 => (if x1 = (0 : Int32) then (if (pi1 &&& (2 : Int32)) = 0 then (mX2_isOrder_43 (1 : Int32) s0) else (mX2_isOrder_43 (0 : Int32) s0)) else (if x1 = (1 : Int32) then (if (pi1 &&& (3 : Int32)) = (1 : Int32) then (mX2_isOrder_58 s0) else (if (pi1 &&& (3 : Int32)) = (2 : Int32) then (mX2_isOrder_58 s0) else (mX2_isOrder_63 (0 : Int32) s0))) else (b1 (o_Z (1 : Int32)) fun u7 => some ((1 : Int32), s0)))))
set_option maxRecDepth 100000 in
set_option maxHeartbeats 4000000 in
theorem zX2_isOrder (E : eE) {h0 : Nat} {pi1 : Int32} {s0 s9 : eS} {y : Int32} (h : mX2_isOrder h0 pi1 s0 = some (y, s9)) : EM E YX2_isOrder [VR (some h0), VI pi1] s0 (some (VI y)) s9 := by
  refine EM_of (M := MX2_isOrder) (own := RX2) (ini := false) rfl (by decide +kernel) rfl (fun z => nomatch z) (Nat.le_of_ble_eq_true rfl) ?_
  unfold mX2_isOrder at h
  refine EV_aload_n dX2_isOrder_0 rfl ?_
  have hh := b1_some h; clear h; obtain ⟨x1, hx1, h⟩ := hh
  refine EV_getI (ci := 2) (k := 0) dX2_isOrder_1 fl_X2_7 rfl hx1 ?_
  by_cases c2 : x1 = (0 : Int32)
  · rw [if_pos c2] at h
    refine EV_lookup (tgt := 32) (off := 28) dX2_isOrder_4 (by decide) (by rw [c2]; decide) (by decide) ?_
    refine EV_iload_n dX2_isOrder_32 rfl ?_
    refine EV_iconst (x := (2 : Int32)) dX2_isOrder_33 (by decide) ?_
    refine EV_iand dX2_isOrder_34 ?_
    refine EV_if_ne (tgt := 42) dX2_isOrder_35 (by decide) (fun c3 => ?_) (fun c3 => ?_)
    · rw [if_pos c3] at h
      refine EV_iconst (x := (1 : Int32)) dX2_isOrder_38 (by decide) ?_
      refine EV_goto (tgt := 43) dX2_isOrder_39 (by decide) ?_
      exact EV_pick [] rfl (zX2_isOrder_43 E h)
    · rw [if_neg c3] at h
      refine EV_iconst (x := (0 : Int32)) dX2_isOrder_42 (by decide) ?_
      exact EV_pick [] rfl (zX2_isOrder_43 E h)
  · rw [if_neg c2] at h
    by_cases c4 : x1 = (1 : Int32)
    · rw [if_pos c4] at h
      refine EV_lookup (tgt := 44) (off := 40) dX2_isOrder_4 (by decide) (by rw [c4]; decide) (by decide) ?_
      refine EV_iload_n dX2_isOrder_44 rfl ?_
      refine EV_iconst (x := (3 : Int32)) dX2_isOrder_45 (by decide) ?_
      refine EV_iand dX2_isOrder_46 ?_
      refine EV_iconst (x := (1 : Int32)) dX2_isOrder_47 (by decide) ?_
      refine EV_icmp_eq (tgt := 58) dX2_isOrder_48 (by decide) (fun c5 => ?_) (fun c5 => ?_)
      · rw [if_pos c5] at h
        exact EV_pick [] rfl (zX2_isOrder_58 E h)
      · rw [if_neg c5] at h
        refine EV_iload_n dX2_isOrder_51 rfl ?_
        refine EV_iconst (x := (3 : Int32)) dX2_isOrder_52 (by decide) ?_
        refine EV_iand dX2_isOrder_53 ?_
        refine EV_iconst (x := (2 : Int32)) dX2_isOrder_54 (by decide) ?_
        refine EV_icmp_ne (tgt := 62) dX2_isOrder_55 (by decide) (fun c6 => ?_) (fun c6 => ?_)
        · rw [if_pos c6] at h
          exact EV_pick [] rfl (zX2_isOrder_58 E h)
        · rw [if_neg c6] at h
          refine EV_iconst (x := (0 : Int32)) dX2_isOrder_62 (by decide) ?_
          exact EV_pick [] rfl (zX2_isOrder_63 E h)
    · rw [if_neg c4] at h
      refine EV_lookup (tgt := 64) (off := 60) dX2_isOrder_4 (by decide) (by show Op.lookupswitch.offset [(0, 28), (1, 40)] 60 _ = _; rw [lv_osw c2 (by decide), lv_osw c4 (by decide)]; rfl) (by decide) ?_
      refine EV_iconst (x := (1 : Int32)) dX2_isOrder_64 (by decide) ?_
      have hh := b1_some h; clear h; obtain ⟨u7, hu7, h⟩ := hh
      cases h
      exact EV_ret ⟨dX2_isOrder_65, .boolean, rfl, o_Z_n hu7⟩ rfl
def mX2_valueOf (h0 : Nat) (pi1 : Int32) (s0 : eS) : Option (Int32 × eS) :=
  (b1 (g_I s0 102 0 h0) fun x1 => (if x1 = (0 : Int32) then (some ((pi1 &&& (1 : Int32)), s0)) else (if x1 = (1 : Int32) then (some ((pi1 &&& (3 : Int32)), s0)) else (some (((pi1).toInt16.toInt32), s0)))))
set_option maxRecDepth 100000 in
set_option maxHeartbeats 4000000 in
theorem zX2_valueOf (E : eE) {h0 : Nat} {pi1 : Int32} {s0 s9 : eS} {y : Int32} (h : mX2_valueOf h0 pi1 s0 = some (y, s9)) : EM E YX2_valueOf [VR (some h0), VI pi1] s0 (some (VI y)) s9 := by
  refine EM_of (M := MX2_valueOf) (own := RX2) (ini := false) rfl (by decide +kernel) rfl (fun z => nomatch z) (Nat.le_of_ble_eq_true rfl) ?_
  unfold mX2_valueOf at h
  refine EV_aload_n dX2_valueOf_0 rfl ?_
  have hh := b1_some h; clear h; obtain ⟨x1, hx1, h⟩ := hh
  refine EV_getI (ci := 2) (k := 0) dX2_valueOf_1 fl_X2_7 rfl hx1 ?_
  by_cases c2 : x1 = (0 : Int32)
  · rw [if_pos c2] at h
    refine EV_lookup (tgt := 32) (off := 28) dX2_valueOf_4 (by decide) (by rw [c2]; decide) (by decide) ?_
    refine EV_iload_n dX2_valueOf_32 rfl ?_
    refine EV_iconst (x := (1 : Int32)) dX2_valueOf_33 (by decide) ?_
    refine EV_iand dX2_valueOf_34 ?_
    cases h
    exact EV_ret ⟨dX2_valueOf_35, .int, rfl, rfl⟩ rfl
  · rw [if_neg c2] at h
    by_cases c3 : x1 = (1 : Int32)
    · rw [if_pos c3] at h
      refine EV_lookup (tgt := 36) (off := 32) dX2_valueOf_4 (by decide) (by rw [c3]; decide) (by decide) ?_
      refine EV_iload_n dX2_valueOf_36 rfl ?_
      refine EV_iconst (x := (3 : Int32)) dX2_valueOf_37 (by decide) ?_
      refine EV_iand dX2_valueOf_38 ?_
      cases h
      exact EV_ret ⟨dX2_valueOf_39, .int, rfl, rfl⟩ rfl
    · rw [if_neg c3] at h
      refine EV_lookup (tgt := 40) (off := 36) dX2_valueOf_4 (by decide) (by show Op.lookupswitch.offset [(0, 28), (1, 32)] 36 _ = _; rw [lv_osw c2 (by decide), lv_osw c3 (by decide)]; rfl) (by decide) ?_
      refine EV_iload_n dX2_valueOf_40 rfl ?_
      refine EV_i2s dX2_valueOf_41 ?_
      cases h
      exact EV_ret ⟨dX2_valueOf_42, .int, rfl, rfl⟩ rfl
def mX4_add_60 (s0 : eS) : Option eS :=
  (some s0)
set_option maxRecDepth 100000 in
set_option maxHeartbeats 4000000 in
theorem zX4_add_60 (E : eE) {s0 s9 : eS} (h : mX4_add_60 s0 = some s9) : EV E MX4_add 60 [] [] s0 none s9 := by
  unfold mX4_add_60 at h
  cases h
  exact EV_ret ⟨dX4_add_60, rfl⟩ rfl
def mX4_add_3 : Nat → Nat → Int64 → Int32 → Int32 → eS → Option eS
  | 0, _, _, _, _, _ => none
  | n + 1, h0, pl1, pi3, pi4, s0 =>
  (if pi3 ≤ pi4 then (mX4_add_60 s0) else (b1 (g_I s0 104 1 h0) fun x2 => (if x2 < 0 then (mX4_add_60 s0) else (b1 (g_I s0 104 1 h0) fun x4 => (if (249 : Int32) ≤ x4 then (mX4_add_60 s0) else (b1 (g_P s0 104 0 h0) fun r6 => (b1 (g_I s0 104 1 h0) fun x7 => (b1 r6 fun a8 => (b1 (s_B s0 1 a8 x7 (((((pl1 >>> (((8 : Int32) * pi4).toInt64 &&& 63))).toInt32)).toInt8.toInt32)) fun s9 => (b1 (g_I s9 104 1 h0) fun x10 => (b1 (p_I s9 104 1 h0 (x10 + (1 : Int32))) fun s11 => (mX4_add_3 n h0 pl1 pi3 (pi4 + (1 : Int32)) s11))))))))))))
set_option maxRecDepth 100000 in
set_option maxHeartbeats 4000000 in
theorem zX4_add_3 (E : eE) : ∀ (n : Nat) {h0 : Nat} {pl1 : Int64} {pi3 : Int32} {pi4 : Int32} {s0 s9 : eS}, mX4_add_3 n h0 pl1 pi3 pi4 s0 = some s9 → EV E MX4_add 3 [(0, VR (some h0)), (1, VL pl1), (3, VI pi3), (4, VI pi4)] [] s0 none s9 := by
  intro n
  induction n with
  | zero =>
    intro h0 pl1 pi3 pi4 s0 s9 h
    unfold mX4_add_3 at h
    cases h
  | succ n ih =>
    intro h0 pl1 pi3 pi4 s0 s9 h
    unfold mX4_add_3 at h
    refine EV_iload dX4_add_3 rfl ?_
    refine EV_iload_n dX4_add_5 rfl ?_
    refine EV_icmp_ge (tgt := 60) dX4_add_6 (by decide) (fun c1 => ?_) (fun c1 => ?_)
    · rw [if_pos c1] at h
      exact EV_pick [] rfl (zX4_add_60 E h)
    · rw [if_neg c1] at h
      refine EV_aload_n dX4_add_9 rfl ?_
      have hh := b1_some h; clear h; obtain ⟨x2, hx2, h⟩ := hh
      refine EV_getI (ci := 4) (k := 1) dX4_add_10 fl_X4_15 rfl hx2 ?_
      refine EV_if_lt (tgt := 60) dX4_add_13 (by decide) (fun c3 => ?_) (fun c3 => ?_)
      · rw [if_pos c3] at h
        exact EV_pick [] rfl (zX4_add_60 E h)
      · rw [if_neg c3] at h
        refine EV_aload_n dX4_add_16 rfl ?_
        have hh := b1_some h; clear h; obtain ⟨x4, hx4, h⟩ := hh
        refine EV_getI (ci := 4) (k := 1) dX4_add_17 fl_X4_15 rfl hx4 ?_
        refine EV_sipush (x := (249 : Int32)) dX4_add_20 (by decide) ?_
        refine EV_icmp_ge (tgt := 60) dX4_add_23 (by decide) (fun c5 => ?_) (fun c5 => ?_)
        · rw [if_pos c5] at h
          exact EV_pick [] rfl (zX4_add_60 E h)
        · rw [if_neg c5] at h
          refine EV_aload_n dX4_add_26 rfl ?_
          have hh := b1_some h; clear h; obtain ⟨r6, hr6, h⟩ := hh
          refine EV_getP (ci := 4) (k := 0) dX4_add_27 fl_X4_9 rfl hr6 ?_
          refine EV_aload_n dX4_add_30 rfl ?_
          have hh := b1_some h; clear h; obtain ⟨x7, hx7, h⟩ := hh
          refine EV_getI (ci := 4) (k := 1) dX4_add_31 fl_X4_15 rfl hx7 ?_
          refine EV_lload_n dX4_add_34 rfl ?_
          refine EV_bipush (x := (8 : Int32)) dX4_add_35 (by decide) ?_
          refine EV_iload dX4_add_37 rfl ?_
          refine EV_imul dX4_add_39 ?_
          refine EV_lshr dX4_add_40 ?_
          refine EV_l2i dX4_add_41 ?_
          refine EV_i2b dX4_add_42 ?_
          have hh := b1_some h; clear h; obtain ⟨a8, ha8, h⟩ := hh
          subst ha8
          have hh := b1_some h; clear h; obtain ⟨s9, hs9, h⟩ := hh
          refine EV_sB (t := 1) rfl dX4_add_43 hs9 ?_
          refine EV_aload_n dX4_add_44 rfl ?_
          refine EV_dup dX4_add_45 rfl ?_
          have hh := b1_some h; clear h; obtain ⟨x10, hx10, h⟩ := hh
          refine EV_getI (ci := 4) (k := 1) dX4_add_46 fl_X4_15 rfl hx10 ?_
          refine EV_iconst (x := (1 : Int32)) dX4_add_49 (by decide) ?_
          refine EV_iadd dX4_add_50 ?_
          have hh := b1_some h; clear h; obtain ⟨s11, hs11, h⟩ := hh
          refine EV_putI (ci := 4) (k := 1) dX4_add_51 fp_X4_15 rfl hs11 ?_
          refine EV_iinc (y := (1 : Int32)) (lv2 := [(4, VI (pi4 + (1 : Int32))), (0, VR (some h0)), (1, VL pl1), (3, VI pi3)]) dX4_add_54 rfl (by decide) (by decide) rfl ?_
          refine EV_goto (tgt := 3) dX4_add_57 (by decide) ?_
          exact EV_pick [1, 2, 3, 0] rfl (ih h)
def mX4_add (h0 : Nat) (pl1 : Int64) (pi3 : Int32) (s0 : eS) : Option eS :=
  (mX4_add_3 100000 h0 pl1 pi3 (0 : Int32) s0)
set_option maxRecDepth 100000 in
set_option maxHeartbeats 4000000 in
theorem zX4_add (E : eE) {h0 : Nat} {pl1 : Int64} {pi3 : Int32} {s0 s9 : eS} (h : mX4_add h0 pl1 pi3 s0 = some s9) : EM E YX4_add [VR (some h0), VL pl1, VI pi3] s0 none s9 := by
  refine EM_of (M := MX4_add) (own := RX4) (ini := false) rfl (by decide +kernel) rfl (fun z => nomatch z) (Nat.le_of_ble_eq_true rfl) ?_
  unfold mX4_add at h
  refine EV_iconst (x := (0 : Int32)) dX4_add_0 (by decide) ?_
  refine EV_istore (lv2 := [(4, VI (0 : Int32)), (0, VR (some h0)), (1, VL pl1), (3, VI pi3)]) dX4_add_1 (by decide) rfl ?_
  exact EV_pick [1, 2, 3, 0] rfl (zX4_add_3 E _ h)
def mX6_objectBytes (h0 : Nat) (s0 : eS) : Option (Int32 × eS) :=
  (b1 (g_I s0 106 0 h0) fun x1 => (b1 (t_I tb_7 x1) fun x2 => (some ((((3 : Int32) + x2) + (1 : Int32)), s0))))
set_option maxRecDepth 100000 in
set_option maxHeartbeats 4000000 in
theorem zX6_objectBytes (E : eE) {h0 : Nat} {s0 s9 : eS} {y : Int32} (h : mX6_objectBytes h0 s0 = some (y, s9)) : EM E YX6_objectBytes [VR (some h0)] s0 (some (VI y)) s9 := by
  refine EM_of (M := MX6_objectBytes) (own := RX6) (ini := false) rfl (by decide +kernel) rfl (fun z => nomatch z) (Nat.le_of_ble_eq_true rfl) ?_
  unfold mX6_objectBytes at h
  refine EV_iconst (x := (3 : Int32)) dX6_objectBytes_0 (by decide) ?_
  refine EV_getsN (j := 7) (r := st_7) dX6_objectBytes_1 rfl tw_510 ?_
  refine EV_aload_n dX6_objectBytes_4 rfl ?_
  have hh := b1_some h; clear h; obtain ⟨x1, hx1, h⟩ := hh
  refine EV_getI (ci := 6) (k := 0) dX6_objectBytes_5 fl_X6_9 rfl hx1 ?_
  have hh := b1_some h; clear h; obtain ⟨x2, hx2, h⟩ := hh
  refine EV_tabI (j := 7) (r := st_7) (l := tb_7) dX6_objectBytes_8 rfl rfl hx2 ?_
  refine EV_iadd dX6_objectBytes_9 ?_
  refine EV_iconst (x := (1 : Int32)) dX6_objectBytes_10 (by decide) ?_
  refine EV_iadd dX6_objectBytes_11 ?_
  cases h
  exact EV_ret ⟨dX6_objectBytes_12, .int, rfl, rfl⟩ rfl
def mX4_copy (h0 : Nat) (pr1 : Option Nat) (s0 : eS) : Option eS :=
  (b1 pr1 fun a1 => (b1 (g_I s0 104 1 a1) fun x2 => (b1 (p_I s0 104 1 h0 (if (0 : Int32) < (if (249 : Int32) < x2 then (249 : Int32) else x2) then (if (249 : Int32) < x2 then (249 : Int32) else x2) else (0 : Int32))) fun s3 => (b1 (g_P s3 104 0 a1) fun r4 => (b1 (g_P s3 104 0 h0) fun r5 => (b1 (g_I s3 104 1 h0) fun x6 => (b1 r4 fun a7 => (b1 r5 fun a8 => (b1 (c_I s3 1 a7 (0 : Int32) a8 (0 : Int32) x6) fun s9 => (some s9))))))))))
set_option maxRecDepth 100000 in
set_option maxHeartbeats 4000000 in
theorem zX4_copy (E : eE) {h0 : Nat} {pr1 : Option Nat} {s0 s9 : eS} (h : mX4_copy h0 pr1 s0 = some s9) : EM E YX4_copy [VR (some h0), VR pr1] s0 none s9 := by
  refine EM_of (M := MX4_copy) (own := RX4) (ini := false) rfl (by decide +kernel) rfl (fun z => nomatch z) (Nat.le_of_ble_eq_true rfl) ?_
  unfold mX4_copy at h
  refine EV_aload_n dX4_copy_0 rfl ?_
  refine EV_iconst (x := (0 : Int32)) dX4_copy_1 (by decide) ?_
  refine EV_aload_n dX4_copy_2 rfl ?_
  have hh := b1_some h; clear h; obtain ⟨a1, ha1, h⟩ := hh
  subst ha1
  have hh := b1_some h; clear h; obtain ⟨x2, hx2, h⟩ := hh
  refine EV_getI (ci := 4) (k := 1) dX4_copy_3 fl_X4_15 rfl hx2 ?_
  refine EV_sipush (x := (249 : Int32)) dX4_copy_6 (by decide) ?_
  refine EV_min dX4_copy_9 tw_735 tw_736 tw_85 tw_737 ⟨by decide, by decide⟩ (Nat.le_of_ble_eq_true rfl) ?_
  refine EV_max dX4_copy_12 tw_738 tw_739 tw_85 tw_740 ⟨by decide, by decide⟩ (Nat.le_of_ble_eq_true rfl) ?_
  have hh := b1_some h; clear h; obtain ⟨s3, hs3, h⟩ := hh
  refine EV_putI (ci := 4) (k := 1) dX4_copy_15 fp_X4_15 rfl hs3 ?_
  refine EV_aload_n dX4_copy_18 rfl ?_
  have hh := b1_some h; clear h; obtain ⟨r4, hr4, h⟩ := hh
  refine EV_getP (ci := 4) (k := 0) dX4_copy_19 fl_X4_9 rfl hr4 ?_
  refine EV_iconst (x := (0 : Int32)) dX4_copy_22 (by decide) ?_
  refine EV_aload_n dX4_copy_23 rfl ?_
  have hh := b1_some h; clear h; obtain ⟨r5, hr5, h⟩ := hh
  refine EV_getP (ci := 4) (k := 0) dX4_copy_24 fl_X4_9 rfl hr5 ?_
  refine EV_iconst (x := (0 : Int32)) dX4_copy_27 (by decide) ?_
  refine EV_aload_n dX4_copy_28 rfl ?_
  have hh := b1_some h; clear h; obtain ⟨x6, hx6, h⟩ := hh
  refine EV_getI (ci := 4) (k := 1) dX4_copy_29 fl_X4_15 rfl hx6 ?_
  have hh := b1_some h; clear h; obtain ⟨a7, ha7, h⟩ := hh
  subst ha7
  have hh := b1_some h; clear h; obtain ⟨a8, ha8, h⟩ := hh
  subst ha8
  have hh := b1_some h; clear h; obtain ⟨s9, hs9, h⟩ := hh
  refine EV_cI (t := 1) (ty := .byte) dX4_copy_32 tw_741 tw_743 tw_742 tw_86 rfl (by decide) ⟨by decide, by decide⟩ (Nat.le_of_ble_eq_true rfl) hs9 ?_
  cases h
  exact EV_ret ⟨dX4_copy_35, rfl⟩ rfl
def mX4_replace_27 (s0 : eS) : Option eS :=
  (some s0)
set_option maxRecDepth 100000 in
set_option maxHeartbeats 4000000 in
theorem zX4_replace_27 (E : eE) {s0 s9 : eS} (h : mX4_replace_27 s0 = some s9) : EV E MX4_replace 27 [] [] s0 none s9 := by
  unfold mX4_replace_27 at h
  cases h
  exact EV_ret ⟨dX4_replace_27, rfl⟩ rfl
def mX4_replace (h0 : Nat) (pi1 : Int32) (pi2 : Int32) (s0 : eS) : Option eS :=
  (if pi1 < 0 then (mX4_replace_27 s0) else (b1 (g_I s0 104 1 h0) fun x2 => (if x2 ≤ pi1 then (mX4_replace_27 s0) else (if (249 : Int32) ≤ pi1 then (mX4_replace_27 s0) else (b1 (g_P s0 104 0 h0) fun r5 => (b1 r5 fun a6 => (b1 (s_B s0 1 a6 pi1 ((pi2).toInt8.toInt32)) fun s7 => (mX4_replace_27 s7))))))))
set_option maxRecDepth 100000 in
set_option maxHeartbeats 4000000 in
theorem zX4_replace (E : eE) {h0 : Nat} {pi1 : Int32} {pi2 : Int32} {s0 s9 : eS} (h : mX4_replace h0 pi1 pi2 s0 = some s9) : EM E YX4_replace [VR (some h0), VI pi1, VI pi2] s0 none s9 := by
  refine EM_of (M := MX4_replace) (own := RX4) (ini := false) rfl (by decide +kernel) rfl (fun z => nomatch z) (Nat.le_of_ble_eq_true rfl) ?_
  unfold mX4_replace at h
  refine EV_iload_n dX4_replace_0 rfl ?_
  refine EV_if_lt (tgt := 27) dX4_replace_1 (by decide) (fun c1 => ?_) (fun c1 => ?_)
  · rw [if_pos c1] at h
    exact EV_pick [] rfl (zX4_replace_27 E h)
  · rw [if_neg c1] at h
    refine EV_iload_n dX4_replace_4 rfl ?_
    refine EV_aload_n dX4_replace_5 rfl ?_
    have hh := b1_some h; clear h; obtain ⟨x2, hx2, h⟩ := hh
    refine EV_getI (ci := 4) (k := 1) dX4_replace_6 fl_X4_15 rfl hx2 ?_
    refine EV_icmp_ge (tgt := 27) dX4_replace_9 (by decide) (fun c3 => ?_) (fun c3 => ?_)
    · rw [if_pos c3] at h
      exact EV_pick [] rfl (zX4_replace_27 E h)
    · rw [if_neg c3] at h
      refine EV_iload_n dX4_replace_12 rfl ?_
      refine EV_sipush (x := (249 : Int32)) dX4_replace_13 (by decide) ?_
      refine EV_icmp_ge (tgt := 27) dX4_replace_16 (by decide) (fun c4 => ?_) (fun c4 => ?_)
      · rw [if_pos c4] at h
        exact EV_pick [] rfl (zX4_replace_27 E h)
      · rw [if_neg c4] at h
        refine EV_aload_n dX4_replace_19 rfl ?_
        have hh := b1_some h; clear h; obtain ⟨r5, hr5, h⟩ := hh
        refine EV_getP (ci := 4) (k := 0) dX4_replace_20 fl_X4_9 rfl hr5 ?_
        refine EV_iload_n dX4_replace_23 rfl ?_
        refine EV_iload_n dX4_replace_24 rfl ?_
        refine EV_i2b dX4_replace_25 ?_
        have hh := b1_some h; clear h; obtain ⟨a6, ha6, h⟩ := hh
        subst ha6
        have hh := b1_some h; clear h; obtain ⟨s7, hs7, h⟩ := hh
        refine EV_sB (t := 1) rfl dX4_replace_26 hs7 ?_
        exact EV_pick [] rfl (zX4_replace_27 E h)
def mX4_at_33 (pt0 : Int32) (s0 : eS) : Option (Int32 × eS) :=
  (some (pt0, s0))
set_option maxRecDepth 100000 in
set_option maxHeartbeats 4000000 in
theorem zX4_at_33 (E : eE) {pt0 : Int32} {s0 s9 : eS} {y : Int32} (h : mX4_at_33 pt0 s0 = some (y, s9)) : EV E MX4_at 33 [] [VI pt0] s0 (some (VI y)) s9 := by
  unfold mX4_at_33 at h
  cases h
  exact EV_ret ⟨dX4_at_33, .int, rfl, rfl⟩ rfl
def mX4_at_19 (s0 : eS) : Option (Int32 × eS) :=
  (mX4_at_33 (0 : Int32) s0)
set_option maxRecDepth 100000 in
set_option maxHeartbeats 4000000 in
theorem zX4_at_19 (E : eE) {s0 s9 : eS} {y : Int32} (h : mX4_at_19 s0 = some (y, s9)) : EV E MX4_at 19 [] [] s0 (some (VI y)) s9 := by
  unfold mX4_at_19 at h
  refine EV_iconst (x := (0 : Int32)) dX4_at_19 (by decide) ?_
  refine EV_goto (tgt := 33) dX4_at_20 (by decide) ?_
  exact EV_pick [] rfl (zX4_at_33 E h)
def mX4_at (h0 : Nat) (pi1 : Int32) (s0 : eS) : Option (Int32 × eS) :=
  (if pi1 < 0 then (mX4_at_19 s0) else (b1 (g_I s0 104 1 h0) fun x2 => (if x2 ≤ pi1 then (mX4_at_19 s0) else (if pi1 < (249 : Int32) then (b1 (g_P s0 104 0 h0) fun r5 => (b1 r5 fun a6 => (b1 (a_I s0 1 a6 pi1) fun x7 => (mX4_at_33 (x7 &&& (255 : Int32)) s0)))) else (mX4_at_19 s0)))))
set_option maxRecDepth 100000 in
set_option maxHeartbeats 4000000 in
theorem zX4_at (E : eE) {h0 : Nat} {pi1 : Int32} {s0 s9 : eS} {y : Int32} (h : mX4_at h0 pi1 s0 = some (y, s9)) : EM E YX4_at [VR (some h0), VI pi1] s0 (some (VI y)) s9 := by
  refine EM_of (M := MX4_at) (own := RX4) (ini := false) rfl (by decide +kernel) rfl (fun z => nomatch z) (Nat.le_of_ble_eq_true rfl) ?_
  unfold mX4_at at h
  refine EV_iload_n dX4_at_0 rfl ?_
  refine EV_if_lt (tgt := 19) dX4_at_1 (by decide) (fun c1 => ?_) (fun c1 => ?_)
  · rw [if_pos c1] at h
    exact EV_pick [] rfl (zX4_at_19 E h)
  · rw [if_neg c1] at h
    refine EV_iload_n dX4_at_4 rfl ?_
    refine EV_aload_n dX4_at_5 rfl ?_
    have hh := b1_some h; clear h; obtain ⟨x2, hx2, h⟩ := hh
    refine EV_getI (ci := 4) (k := 1) dX4_at_6 fl_X4_15 rfl hx2 ?_
    refine EV_icmp_ge (tgt := 19) dX4_at_9 (by decide) (fun c3 => ?_) (fun c3 => ?_)
    · rw [if_pos c3] at h
      exact EV_pick [] rfl (zX4_at_19 E h)
    · rw [if_neg c3] at h
      refine EV_iload_n dX4_at_12 rfl ?_
      refine EV_sipush (x := (249 : Int32)) dX4_at_13 (by decide) ?_
      refine EV_icmp_lt (tgt := 23) dX4_at_16 (by decide) (fun c4 => ?_) (fun c4 => ?_)
      · rw [if_pos c4] at h
        refine EV_aload_n dX4_at_23 rfl ?_
        have hh := b1_some h; clear h; obtain ⟨r5, hr5, h⟩ := hh
        refine EV_getP (ci := 4) (k := 0) dX4_at_24 fl_X4_9 rfl hr5 ?_
        refine EV_iload_n dX4_at_27 rfl ?_
        have hh := b1_some h; clear h; obtain ⟨a6, ha6, h⟩ := hh
        subst ha6
        have hh := b1_some h; clear h; obtain ⟨x7, hx7, h⟩ := hh
        refine EV_aI (t := 1) (ty := .byte) rfl (by decide) dX4_at_28 hx7 ?_
        refine EV_sipush (x := (255 : Int32)) dX4_at_29 (by decide) ?_
        refine EV_iand dX4_at_32 ?_
        exact EV_pick [] rfl (zX4_at_33 E h)
      · rw [if_neg c4] at h
        exact EV_pick [] rfl (zX4_at_19 E h)
def mX4_number_7 : Nat → Nat → Int32 → Int64 → Int32 → eS → Option (Int64 × eS)
  | 0, _, _, _, _, _ => none
  | n + 1, h0, pi1, pl3, pi5, s0 =>
  (if pi5 < 0 then (some (pl3, s0)) else (b1 (o_K s0 104 h0) fun u4 => (b2 (mX4_at h0 (pi1 + pi5) s0) fun x3 s2 => (mX4_number_7 n h0 pi1 ((pl3 <<< ((8 : Int32).toInt64 &&& 63)) ||| ((x3).toInt64)) (pi5 + (-1 : Int32)) s2))))
set_option maxRecDepth 100000 in
set_option maxHeartbeats 4000000 in
theorem zX4_number_7 (E : eE) : ∀ (n : Nat) {h0 : Nat} {pi1 : Int32} {pl3 : Int64} {pi5 : Int32} {s0 s9 : eS} {y : Int64}, mX4_number_7 n h0 pi1 pl3 pi5 s0 = some (y, s9) → EV E MX4_number 7 [(0, VR (some h0)), (1, VI pi1), (3, VL pl3), (5, VI pi5)] [] s0 (some (VL y)) s9 := by
  intro n
  induction n with
  | zero =>
    intro h0 pi1 pl3 pi5 s0 s9 y h
    unfold mX4_number_7 at h
    cases h
  | succ n ih =>
    intro h0 pi1 pl3 pi5 s0 s9 y h
    unfold mX4_number_7 at h
    refine EV_iload dX4_number_7 rfl ?_
    refine EV_if_lt (tgt := 33) dX4_number_9 (by decide) (fun c1 => ?_) (fun c1 => ?_)
    · rw [if_pos c1] at h
      refine EV_lload_n dX4_number_33 rfl ?_
      cases h
      exact EV_ret ⟨dX4_number_34, rfl⟩ rfl
    · rw [if_neg c1] at h
      refine EV_lload_n dX4_number_12 rfl ?_
      refine EV_bipush (x := (8 : Int32)) dX4_number_13 (by decide) ?_
      refine EV_lshl dX4_number_15 ?_
      refine EV_aload_n dX4_number_16 rfl ?_
      refine EV_iload_n dX4_number_17 rfl ?_
      refine EV_iload dX4_number_18 rfl ?_
      refine EV_iadd dX4_number_20 ?_
      have hh := b1_some h; clear h; obtain ⟨u4, hu4, h⟩ := hh
      have hh := b2_some h; clear h; obtain ⟨x3, s2, hs2, h⟩ := hh
      refine EV_callV (Y := YX4_at) (as := [VI (pi1 + pi5)]) (st := [VL (pl3 <<< ((8 : Int32).toInt64 &&& 63))]) (st2 := [VI x3, VL (pl3 <<< ((8 : Int32).toInt64 &&& 63))]) (a := h0) (ci := 4) (r := rX4) (n := 1) dX4_number_21 (zX4_at E hs2) rfl cwX4_at rfl tw_709 tw_569 tw_570 rfl (e_if hu4).1.1 (e_if hu4).1.2 ⟨by decide, by decide⟩ (Nat.le_of_ble_eq_true rfl) rfl ?_
      refine EV_i2l dX4_number_24 ?_
      refine EV_lor dX4_number_25 ?_
      refine EV_lstore_n (lv2 := [(3, VL ((pl3 <<< ((8 : Int32).toInt64 &&& 63)) ||| ((x3).toInt64))), (0, VR (some h0)), (1, VI pi1), (5, VI pi5)]) dX4_number_26 (by decide) rfl ?_
      refine EV_iinc (y := (-1 : Int32)) (lv2 := [(5, VI (pi5 + (-1 : Int32))), (3, VL ((pl3 <<< ((8 : Int32).toInt64 &&& 63)) ||| ((x3).toInt64))), (0, VR (some h0)), (1, VI pi1)]) dX4_number_27 rfl (by decide) (by decide) rfl ?_
      refine EV_goto (tgt := 7) dX4_number_30 (by decide) ?_
      exact EV_pick [2, 3, 1, 0] rfl (ih h)
def mX4_number (h0 : Nat) (pi1 : Int32) (pi2 : Int32) (s0 : eS) : Option (Int64 × eS) :=
  (mX4_number_7 100000 h0 pi1 (0 : Int64) (pi2 - (1 : Int32)) s0)
set_option maxRecDepth 100000 in
set_option maxHeartbeats 4000000 in
theorem zX4_number (E : eE) {h0 : Nat} {pi1 : Int32} {pi2 : Int32} {s0 s9 : eS} {y : Int64} (h : mX4_number h0 pi1 pi2 s0 = some (y, s9)) : EM E YX4_number [VR (some h0), VI pi1, VI pi2] s0 (some (VL y)) s9 := by
  refine EM_of (M := MX4_number) (own := RX4) (ini := false) rfl (by decide +kernel) rfl (fun z => nomatch z) (Nat.le_of_ble_eq_true rfl) ?_
  unfold mX4_number at h
  refine EV_lconst (x := (0 : Int64)) dX4_number_0 (by decide) ?_
  refine EV_lstore_n (lv2 := [(3, VL (0 : Int64)), (0, VR (some h0)), (1, VI pi1), (2, VI pi2)]) dX4_number_1 (by decide) rfl ?_
  refine EV_iload_n dX4_number_2 rfl ?_
  refine EV_iconst (x := (1 : Int32)) dX4_number_3 (by decide) ?_
  refine EV_isub dX4_number_4 ?_
  refine EV_istore (lv2 := [(5, VI (pi2 - (1 : Int32))), (3, VL (0 : Int64)), (0, VR (some h0)), (1, VI pi1), (2, VI pi2)]) dX4_number_5 (by decide) rfl ?_
  exact EV_pick [2, 3, 1, 0] rfl (zX4_number_7 E _ h)
def mX4_address (h0 : Nat) (s0 : eS) : Option (Int32 × eS) :=
  (b1 (o_K s0 104 h0) fun u3 => (b2 (mX4_number h0 (6 : Int32) (3 : Int32) s0) fun x2 s1 => (some (((x2).toInt32), s1))))
set_option maxRecDepth 100000 in
set_option maxHeartbeats 4000000 in
theorem zX4_address (E : eE) {h0 : Nat} {s0 s9 : eS} {y : Int32} (h : mX4_address h0 s0 = some (y, s9)) : EM E YX4_address [VR (some h0)] s0 (some (VI y)) s9 := by
  refine EM_of (M := MX4_address) (own := RX4) (ini := false) rfl (by decide +kernel) rfl (fun z => nomatch z) (Nat.le_of_ble_eq_true rfl) ?_
  unfold mX4_address at h
  refine EV_aload_n dX4_address_0 rfl ?_
  refine EV_bipush (x := (6 : Int32)) dX4_address_1 (by decide) ?_
  refine EV_iconst (x := (3 : Int32)) dX4_address_3 (by decide) ?_
  have hh := b1_some h; clear h; obtain ⟨u3, hu3, h⟩ := hh
  have hh := b2_some h; clear h; obtain ⟨x2, s1, hs1, h⟩ := hh
  refine EV_callV (Y := YX4_number) (as := [VI (6 : Int32), VI (3 : Int32)]) (st := []) (st2 := [VL x2]) (a := h0) (ci := 4) (r := rX4) (n := 2) dX4_address_4 (zX4_number E hs1) rfl cwX4_number rfl tw_715 tw_706 tw_707 rfl (e_if hu3).1.1 (e_if hu3).1.2 ⟨by decide, by decide⟩ (Nat.le_of_ble_eq_true rfl) rfl ?_
  refine EV_l2i dX4_address_7 ?_
  cases h
  exact EV_ret ⟨dX4_address_8, .int, rfl, rfl⟩ rfl
def mX5_init (h0 : Nat) (s0 : eS) : Option eS :=
  (b2 (n_A s0 1 (4096 : Int32)) fun q1 s2 => (b1 (p_P s2 105 0 h0 (some q1)) fun s3 => (some s3)))
set_option maxRecDepth 100000 in
set_option maxHeartbeats 4000000 in
theorem zX5_init (E : eE) {h0 : Nat} {s0 s9 : eS} (h : mX5_init h0 s0 = some s9) : EM E YX5_init [VR (some h0)] s0 none s9 := by
  refine EM_of (M := MX5_init) (own := RX5) (ini := true) rfl (by decide +kernel) rfl (fun _ => rfl) (Nat.le_of_ble_eq_true rfl) ?_
  unfold mX5_init at h
  refine EV_aload_n dX5_init_0 rfl ?_
  refine EV_objInit dX5_init_1 ⟨_, rfl⟩ tw_311 tw_93 tw_94 ⟨by decide, by decide⟩ (Nat.le_of_ble_eq_true rfl) ?_
  refine EV_aload_n dX5_init_4 rfl ?_
  refine EV_sipush (x := (4096 : Int32)) dX5_init_5 (by decide) ?_
  have hh := b2_some h; clear h; obtain ⟨q1, s2, hs2, h⟩ := hh
  refine EV_nA (t := 1) (ty := .byte) dX5_init_8 rfl rfl (by decide) tw_196 hs2 ?_
  have hh := b1_some h; clear h; obtain ⟨s3, hs3, h⟩ := hh
  refine EV_putP (ci := 5) (k := 0) dX5_init_10 fp_X5_9i rfl hs3 ?_
  cases h
  exact EV_ret ⟨dX5_init_13, rfl⟩ rfl
def mX5_clear (h0 : Nat) (s0 : eS) : Option eS :=
  (b1 (p_I s0 105 1 h0 (0 : Int32)) fun s1 => (b1 (p_I s1 105 2 h0 (0 : Int32)) fun s2 => (some s2)))
set_option maxRecDepth 100000 in
set_option maxHeartbeats 4000000 in
theorem zX5_clear (E : eE) {h0 : Nat} {s0 s9 : eS} (h : mX5_clear h0 s0 = some s9) : EM E YX5_clear [VR (some h0)] s0 none s9 := by
  refine EM_of (M := MX5_clear) (own := RX5) (ini := false) rfl (by decide +kernel) rfl (fun z => nomatch z) (Nat.le_of_ble_eq_true rfl) ?_
  unfold mX5_clear at h
  refine EV_aload_n dX5_clear_0 rfl ?_
  refine EV_iconst (x := (0 : Int32)) dX5_clear_1 (by decide) ?_
  have hh := b1_some h; clear h; obtain ⟨s1, hs1, h⟩ := hh
  refine EV_putI (ci := 5) (k := 1) dX5_clear_2 fp_X5_15 rfl hs1 ?_
  refine EV_aload_n dX5_clear_5 rfl ?_
  refine EV_iconst (x := (0 : Int32)) dX5_clear_6 (by decide) ?_
  have hh := b1_some h; clear h; obtain ⟨s2, hs2, h⟩ := hh
  refine EV_putI (ci := 5) (k := 2) dX5_clear_7 fp_X5_19 rfl hs2 ?_
  cases h
  exact EV_ret ⟨dX5_clear_10, rfl⟩ rfl
def mX5_add_40 (s0 : eS) : Option eS :=
  (some s0)
set_option maxRecDepth 100000 in
set_option maxHeartbeats 4000000 in
theorem zX5_add_40 (E : eE) {s0 s9 : eS} (h : mX5_add_40 s0 = some s9) : EV E MX5_add 40 [] [] s0 none s9 := by
  unfold mX5_add_40 at h
  cases h
  exact EV_ret ⟨dX5_add_40, rfl⟩ rfl
def mX5_add (h0 : Nat) (pi1 : Int32) (s0 : eS) : Option eS :=
  (b1 (g_I s0 105 2 h0) fun x1 => (if (4096 : Int32) ≤ x1 then (mX5_add_40 s0) else (b1 (g_P s0 105 0 h0) fun r3 => (b1 (g_I s0 105 1 h0) fun x4 => (b1 (g_I s0 105 2 h0) fun x5 => (b1 r3 fun a6 => (b1 (s_B s0 1 a6 ((x4 + x5) - (x4 + x5) / (4096 : Int32) * (4096 : Int32)) ((pi1).toInt8.toInt32)) fun s7 => (b1 (g_I s7 105 2 h0) fun x8 => (b1 (p_I s7 105 2 h0 (x8 + (1 : Int32))) fun s9 => (mX5_add_40 s9))))))))))
set_option maxRecDepth 100000 in
set_option maxHeartbeats 4000000 in
theorem zX5_add (E : eE) {h0 : Nat} {pi1 : Int32} {s0 s9 : eS} (h : mX5_add h0 pi1 s0 = some s9) : EM E YX5_add [VR (some h0), VI pi1] s0 none s9 := by
  refine EM_of (M := MX5_add) (own := RX5) (ini := false) rfl (by decide +kernel) rfl (fun z => nomatch z) (Nat.le_of_ble_eq_true rfl) ?_
  unfold mX5_add at h
  refine EV_aload_n dX5_add_0 rfl ?_
  have hh := b1_some h; clear h; obtain ⟨x1, hx1, h⟩ := hh
  refine EV_getI (ci := 5) (k := 2) dX5_add_1 fl_X5_19 rfl hx1 ?_
  refine EV_sipush (x := (4096 : Int32)) dX5_add_4 (by decide) ?_
  refine EV_icmp_ge (tgt := 40) dX5_add_7 (by decide) (fun c2 => ?_) (fun c2 => ?_)
  · rw [if_pos c2] at h
    exact EV_pick [] rfl (zX5_add_40 E h)
  · rw [if_neg c2] at h
    refine EV_aload_n dX5_add_10 rfl ?_
    have hh := b1_some h; clear h; obtain ⟨r3, hr3, h⟩ := hh
    refine EV_getP (ci := 5) (k := 0) dX5_add_11 fl_X5_9 rfl hr3 ?_
    refine EV_aload_n dX5_add_14 rfl ?_
    have hh := b1_some h; clear h; obtain ⟨x4, hx4, h⟩ := hh
    refine EV_getI (ci := 5) (k := 1) dX5_add_15 fl_X5_15 rfl hx4 ?_
    refine EV_aload_n dX5_add_18 rfl ?_
    have hh := b1_some h; clear h; obtain ⟨x5, hx5, h⟩ := hh
    refine EV_getI (ci := 5) (k := 2) dX5_add_19 fl_X5_19 rfl hx5 ?_
    refine EV_iadd dX5_add_22 ?_
    refine EV_sipush (x := (4096 : Int32)) dX5_add_23 (by decide) ?_
    refine EV_irem dX5_add_26 (by decide) ?_
    refine EV_iload_n dX5_add_27 rfl ?_
    refine EV_i2b dX5_add_28 ?_
    have hh := b1_some h; clear h; obtain ⟨a6, ha6, h⟩ := hh
    subst ha6
    have hh := b1_some h; clear h; obtain ⟨s7, hs7, h⟩ := hh
    refine EV_sB (t := 1) rfl dX5_add_29 hs7 ?_
    refine EV_aload_n dX5_add_30 rfl ?_
    refine EV_dup dX5_add_31 rfl ?_
    have hh := b1_some h; clear h; obtain ⟨x8, hx8, h⟩ := hh
    refine EV_getI (ci := 5) (k := 2) dX5_add_32 fl_X5_19 rfl hx8 ?_
    refine EV_iconst (x := (1 : Int32)) dX5_add_35 (by decide) ?_
    refine EV_iadd dX5_add_36 ?_
    have hh := b1_some h; clear h; obtain ⟨s9, hs9, h⟩ := hh
    refine EV_putI (ci := 5) (k := 2) dX5_add_37 fp_X5_19 rfl hs9 ?_
    exact EV_pick [] rfl (zX5_add_40 E h)
def mX5_at_35 (pt0 : Int32) (s0 : eS) : Option (Int32 × eS) :=
  (some (pt0, s0))
set_option maxRecDepth 100000 in
set_option maxHeartbeats 4000000 in
theorem zX5_at_35 (E : eE) {pt0 : Int32} {s0 s9 : eS} {y : Int32} (h : mX5_at_35 pt0 s0 = some (y, s9)) : EV E MX5_at 35 [] [VI pt0] s0 (some (VI y)) s9 := by
  unfold mX5_at_35 at h
  cases h
  exact EV_ret ⟨dX5_at_35, .int, rfl, rfl⟩ rfl
def mX5_at_12 (s0 : eS) : Option (Int32 × eS) :=
  (mX5_at_35 (0 : Int32) s0)
set_option maxRecDepth 100000 in
set_option maxHeartbeats 4000000 in
theorem zX5_at_12 (E : eE) {s0 s9 : eS} {y : Int32} (h : mX5_at_12 s0 = some (y, s9)) : EV E MX5_at 12 [] [] s0 (some (VI y)) s9 := by
  unfold mX5_at_12 at h
  refine EV_iconst (x := (0 : Int32)) dX5_at_12 (by decide) ?_
  refine EV_goto (tgt := 35) dX5_at_13 (by decide) ?_
  exact EV_pick [] rfl (zX5_at_35 E h)
def mX5_at (h0 : Nat) (pi1 : Int32) (s0 : eS) : Option (Int32 × eS) :=
  (if pi1 < 0 then (mX5_at_12 s0) else (b1 (g_I s0 105 2 h0) fun x2 => (if pi1 < x2 then (b1 (g_P s0 105 0 h0) fun r4 => (b1 (g_I s0 105 1 h0) fun x5 => (b1 r4 fun a6 => (b1 (a_I s0 1 a6 ((x5 + pi1) - (x5 + pi1) / (4096 : Int32) * (4096 : Int32))) fun x7 => (mX5_at_35 (x7 &&& (255 : Int32)) s0))))) else (mX5_at_12 s0))))
set_option maxRecDepth 100000 in
set_option maxHeartbeats 4000000 in
theorem zX5_at (E : eE) {h0 : Nat} {pi1 : Int32} {s0 s9 : eS} {y : Int32} (h : mX5_at h0 pi1 s0 = some (y, s9)) : EM E YX5_at [VR (some h0), VI pi1] s0 (some (VI y)) s9 := by
  refine EM_of (M := MX5_at) (own := RX5) (ini := false) rfl (by decide +kernel) rfl (fun z => nomatch z) (Nat.le_of_ble_eq_true rfl) ?_
  unfold mX5_at at h
  refine EV_iload_n dX5_at_0 rfl ?_
  refine EV_if_lt (tgt := 12) dX5_at_1 (by decide) (fun c1 => ?_) (fun c1 => ?_)
  · rw [if_pos c1] at h
    exact EV_pick [] rfl (zX5_at_12 E h)
  · rw [if_neg c1] at h
    refine EV_iload_n dX5_at_4 rfl ?_
    refine EV_aload_n dX5_at_5 rfl ?_
    have hh := b1_some h; clear h; obtain ⟨x2, hx2, h⟩ := hh
    refine EV_getI (ci := 5) (k := 2) dX5_at_6 fl_X5_19 rfl hx2 ?_
    refine EV_icmp_lt (tgt := 16) dX5_at_9 (by decide) (fun c3 => ?_) (fun c3 => ?_)
    · rw [if_pos c3] at h
      refine EV_aload_n dX5_at_16 rfl ?_
      have hh := b1_some h; clear h; obtain ⟨r4, hr4, h⟩ := hh
      refine EV_getP (ci := 5) (k := 0) dX5_at_17 fl_X5_9 rfl hr4 ?_
      refine EV_aload_n dX5_at_20 rfl ?_
      have hh := b1_some h; clear h; obtain ⟨x5, hx5, h⟩ := hh
      refine EV_getI (ci := 5) (k := 1) dX5_at_21 fl_X5_15 rfl hx5 ?_
      refine EV_iload_n dX5_at_24 rfl ?_
      refine EV_iadd dX5_at_25 ?_
      refine EV_sipush (x := (4096 : Int32)) dX5_at_26 (by decide) ?_
      refine EV_irem dX5_at_29 (by decide) ?_
      have hh := b1_some h; clear h; obtain ⟨a6, ha6, h⟩ := hh
      subst ha6
      have hh := b1_some h; clear h; obtain ⟨x7, hx7, h⟩ := hh
      refine EV_aI (t := 1) (ty := .byte) rfl (by decide) dX5_at_30 hx7 ?_
      refine EV_sipush (x := (255 : Int32)) dX5_at_31 (by decide) ?_
      refine EV_iand dX5_at_34 ?_
      exact EV_pick [] rfl (zX5_at_35 E h)
    · rw [if_neg c3] at h
      exact EV_pick [] rfl (zX5_at_12 E h)
def mX5_dropFirst_36 (s0 : eS) : Option eS :=
  (some s0)
set_option maxRecDepth 100000 in
set_option maxHeartbeats 4000000 in
theorem zX5_dropFirst_36 (E : eE) {s0 s9 : eS} (h : mX5_dropFirst_36 s0 = some s9) : EV E MX5_dropFirst 36 [] [] s0 none s9 := by
  unfold mX5_dropFirst_36 at h
  cases h
  exact EV_ret ⟨dX5_dropFirst_36, rfl⟩ rfl
def mX5_dropFirst (h0 : Nat) (pi1 : Int32) (s0 : eS) : Option eS :=
  (if pi1 < 0 then (mX5_dropFirst_36 s0) else (b1 (g_I s0 105 2 h0) fun x2 => (if x2 < pi1 then (mX5_dropFirst_36 s0) else (b1 (g_I s0 105 1 h0) fun x4 => (b1 (p_I s0 105 1 h0 ((x4 + pi1) - (x4 + pi1) / (4096 : Int32) * (4096 : Int32))) fun s5 => (b1 (g_I s5 105 2 h0) fun x6 => (b1 (p_I s5 105 2 h0 (x6 - pi1)) fun s7 => (mX5_dropFirst_36 s7))))))))
set_option maxRecDepth 100000 in
set_option maxHeartbeats 4000000 in
theorem zX5_dropFirst (E : eE) {h0 : Nat} {pi1 : Int32} {s0 s9 : eS} (h : mX5_dropFirst h0 pi1 s0 = some s9) : EM E YX5_dropFirst [VR (some h0), VI pi1] s0 none s9 := by
  refine EM_of (M := MX5_dropFirst) (own := RX5) (ini := false) rfl (by decide +kernel) rfl (fun z => nomatch z) (Nat.le_of_ble_eq_true rfl) ?_
  unfold mX5_dropFirst at h
  refine EV_iload_n dX5_dropFirst_0 rfl ?_
  refine EV_if_lt (tgt := 36) dX5_dropFirst_1 (by decide) (fun c1 => ?_) (fun c1 => ?_)
  · rw [if_pos c1] at h
    exact EV_pick [] rfl (zX5_dropFirst_36 E h)
  · rw [if_neg c1] at h
    refine EV_iload_n dX5_dropFirst_4 rfl ?_
    refine EV_aload_n dX5_dropFirst_5 rfl ?_
    have hh := b1_some h; clear h; obtain ⟨x2, hx2, h⟩ := hh
    refine EV_getI (ci := 5) (k := 2) dX5_dropFirst_6 fl_X5_19 rfl hx2 ?_
    refine EV_icmp_gt (tgt := 36) dX5_dropFirst_9 (by decide) (fun c3 => ?_) (fun c3 => ?_)
    · rw [if_pos c3] at h
      exact EV_pick [] rfl (zX5_dropFirst_36 E h)
    · rw [if_neg c3] at h
      refine EV_aload_n dX5_dropFirst_12 rfl ?_
      refine EV_aload_n dX5_dropFirst_13 rfl ?_
      have hh := b1_some h; clear h; obtain ⟨x4, hx4, h⟩ := hh
      refine EV_getI (ci := 5) (k := 1) dX5_dropFirst_14 fl_X5_15 rfl hx4 ?_
      refine EV_iload_n dX5_dropFirst_17 rfl ?_
      refine EV_iadd dX5_dropFirst_18 ?_
      refine EV_sipush (x := (4096 : Int32)) dX5_dropFirst_19 (by decide) ?_
      refine EV_irem dX5_dropFirst_22 (by decide) ?_
      have hh := b1_some h; clear h; obtain ⟨s5, hs5, h⟩ := hh
      refine EV_putI (ci := 5) (k := 1) dX5_dropFirst_23 fp_X5_15 rfl hs5 ?_
      refine EV_aload_n dX5_dropFirst_26 rfl ?_
      refine EV_dup dX5_dropFirst_27 rfl ?_
      have hh := b1_some h; clear h; obtain ⟨x6, hx6, h⟩ := hh
      refine EV_getI (ci := 5) (k := 2) dX5_dropFirst_28 fl_X5_19 rfl hx6 ?_
      refine EV_iload_n dX5_dropFirst_31 rfl ?_
      refine EV_isub dX5_dropFirst_32 ?_
      have hh := b1_some h; clear h; obtain ⟨s7, hs7, h⟩ := hh
      refine EV_putI (ci := 5) (k := 2) dX5_dropFirst_33 fp_X5_19 rfl hs7 ?_
      exact EV_pick [] rfl (zX5_dropFirst_36 E h)
def mX6_init (h0 : Nat) (pi1 : Int32) (pi2 : Int32) (pi3 : Int32) (pi4 : Int32) (s0 : eS) : Option eS :=
  (b1 (p_I s0 106 0 h0 pi1) fun s1 => (b1 (p_I s1 106 1 h0 pi2) fun s2 => (b1 (p_I s2 106 2 h0 pi3) fun s3 => (b1 (p_Z s3 106 3 h0 pi4) fun s4 => (some s4)))))
set_option maxRecDepth 100000 in
set_option maxHeartbeats 4000000 in
theorem zX6_init (E : eE) {h0 : Nat} {pi1 : Int32} {pi2 : Int32} {pi3 : Int32} {pi4 : Int32} {s0 s9 : eS} (h : mX6_init h0 pi1 pi2 pi3 pi4 s0 = some s9) : EM E YX6_init [VR (some h0), VI pi1, VI pi2, VI pi3, VI pi4] s0 none s9 := by
  refine EM_of (M := MX6_init) (own := RX6) (ini := true) rfl (by decide +kernel) rfl (fun _ => rfl) (Nat.le_of_ble_eq_true rfl) ?_
  unfold mX6_init at h
  refine EV_aload_n dX6_init_0 rfl ?_
  refine EV_objInit dX6_init_1 ⟨_, rfl⟩ tw_411 tw_93 tw_94 ⟨by decide, by decide⟩ (Nat.le_of_ble_eq_true rfl) ?_
  refine EV_aload_n dX6_init_4 rfl ?_
  refine EV_iload_n dX6_init_5 rfl ?_
  have hh := b1_some h; clear h; obtain ⟨s1, hs1, h⟩ := hh
  refine EV_putI (ci := 6) (k := 0) dX6_init_6 fp_X6_9i rfl hs1 ?_
  refine EV_aload_n dX6_init_9 rfl ?_
  refine EV_iload_n dX6_init_10 rfl ?_
  have hh := b1_some h; clear h; obtain ⟨s2, hs2, h⟩ := hh
  refine EV_putI (ci := 6) (k := 1) dX6_init_11 fp_X6_15i rfl hs2 ?_
  refine EV_aload_n dX6_init_14 rfl ?_
  refine EV_iload_n dX6_init_15 rfl ?_
  have hh := b1_some h; clear h; obtain ⟨s3, hs3, h⟩ := hh
  refine EV_putI (ci := 6) (k := 2) dX6_init_16 fp_X6_18i rfl hs3 ?_
  refine EV_aload_n dX6_init_19 rfl ?_
  refine EV_iload dX6_init_20 rfl ?_
  have hh := b1_some h; clear h; obtain ⟨s4, hs4, h⟩ := hh
  refine EV_putZ (ci := 6) (k := 3) dX6_init_22 fp_X6_21i rfl hs4 ?_
  cases h
  exact EV_ret ⟨dX6_init_25, rfl⟩ rfl
def mX6_fits_24 (s0 : eS) : Option (Int32 × eS) :=
  (b1 (o_Z (0 : Int32)) fun u1 => some ((0 : Int32), s0))
set_option maxRecDepth 100000 in
set_option maxHeartbeats 4000000 in
theorem zX6_fits_24 (E : eE) {s0 s9 : eS} {y : Int32} (h : mX6_fits_24 s0 = some (y, s9)) : EV E MX6_fits 24 [] [] s0 (some (VI y)) s9 := by
  unfold mX6_fits_24 at h
  refine EV_iconst (x := (0 : Int32)) dX6_fits_24 (by decide) ?_
  have hh := b1_some h; clear h; obtain ⟨u1, hu1, h⟩ := hh
  cases h
  exact EV_ret ⟨dX6_fits_25, .boolean, rfl, o_Z_n hu1⟩ rfl
def mX6_fits_73 (pt0 : Int32) (s0 : eS) : Option (Int32 × eS) :=
  (b1 (o_Z pt0) fun u1 => some (pt0, s0))
set_option maxRecDepth 100000 in
set_option maxHeartbeats 4000000 in
theorem zX6_fits_73 (E : eE) {pt0 : Int32} {s0 s9 : eS} {y : Int32} (h : mX6_fits_73 pt0 s0 = some (y, s9)) : EV E MX6_fits 73 [] [VI pt0] s0 (some (VI y)) s9 := by
  unfold mX6_fits_73 at h
  have hh := b1_some h; clear h; obtain ⟨u1, hu1, h⟩ := hh
  cases h
  exact EV_ret ⟨dX6_fits_73, .boolean, rfl, o_Z_n hu1⟩ rfl
def mX6_fits_72 (s0 : eS) : Option (Int32 × eS) :=
  (mX6_fits_73 (0 : Int32) s0)
set_option maxRecDepth 100000 in
set_option maxHeartbeats 4000000 in
theorem zX6_fits_72 (E : eE) {s0 s9 : eS} {y : Int32} (h : mX6_fits_72 s0 = some (y, s9)) : EV E MX6_fits 72 [] [] s0 (some (VI y)) s9 := by
  unfold mX6_fits_72 at h
  refine EV_iconst (x := (0 : Int32)) dX6_fits_72 (by decide) ?_
  exact EV_pick [] rfl (zX6_fits_73 E h)
def mX6_fits_48 (h0 : Nat) (pi2 : Int32) (pt0 : Int32) (s0 : eS) : Option (Int32 × eS) :=
  (if pt0 = 0 then (b1 (g_I s0 106 0 h0) fun x2 => (b1 (t_I tb_5 x2) fun x3 => (if (pi2 &&& (x3 ^^^ (-1 : Int32))) = 0 then (mX6_fits_73 (1 : Int32) s0) else (mX6_fits_72 s0)))) else (mX6_fits_72 s0))
set_option maxRecDepth 100000 in
set_option maxHeartbeats 4000000 in
theorem zX6_fits_48 (E : eE) {h0 : Nat} {pi2 : Int32} {pt0 : Int32} {s0 s9 : eS} {y : Int32} (h : mX6_fits_48 h0 pi2 pt0 s0 = some (y, s9)) : EV E MX6_fits 48 [(0, VR (some h0)), (2, VI pi2)] [VI pt0] s0 (some (VI y)) s9 := by
  unfold mX6_fits_48 at h
  refine EV_istore_n (lv2 := [(3, VI pt0), (0, VR (some h0)), (2, VI pi2)]) dX6_fits_48 (by decide) rfl ?_
  refine EV_iload_n dX6_fits_49 rfl ?_
  refine EV_if_ne (tgt := 72) dX6_fits_50 (by decide) (fun c1 => ?_) (fun c1 => ?_)
  · rw [if_pos c1] at h
    refine EV_iload_n dX6_fits_53 rfl ?_
    refine EV_getsN (j := 5) (r := st_5) dX6_fits_54 rfl tw_498 ?_
    refine EV_aload_n dX6_fits_57 rfl ?_
    have hh := b1_some h; clear h; obtain ⟨x2, hx2, h⟩ := hh
    refine EV_getI (ci := 6) (k := 0) dX6_fits_58 fl_X6_9 rfl hx2 ?_
    have hh := b1_some h; clear h; obtain ⟨x3, hx3, h⟩ := hh
    refine EV_tabI (j := 5) (r := st_5) (l := tb_5) dX6_fits_61 rfl rfl hx3 ?_
    refine EV_iconst (x := (-1 : Int32)) dX6_fits_62 (by decide) ?_
    refine EV_ixor dX6_fits_63 ?_
    refine EV_iand dX6_fits_64 ?_
    refine EV_if_ne (tgt := 72) dX6_fits_65 (by decide) (fun c4 => ?_) (fun c4 => ?_)
    · rw [if_pos c4] at h
      refine EV_iconst (x := (1 : Int32)) dX6_fits_68 (by decide) ?_
      refine EV_goto (tgt := 73) dX6_fits_69 (by decide) ?_
      exact EV_pick [] rfl (zX6_fits_73 E h)
    · rw [if_neg c4] at h
      exact EV_pick [] rfl (zX6_fits_72 E h)
  · rw [if_neg c1] at h
    exact EV_pick [] rfl (zX6_fits_72 E h)
def mX6_fits_47 (h0 : Nat) (pi2 : Int32) (s0 : eS) : Option (Int32 × eS) :=
  (mX6_fits_48 h0 pi2 (0 : Int32) s0)
set_option maxRecDepth 100000 in
set_option maxHeartbeats 4000000 in
theorem zX6_fits_47 (E : eE) {h0 : Nat} {pi2 : Int32} {s0 s9 : eS} {y : Int32} (h : mX6_fits_47 h0 pi2 s0 = some (y, s9)) : EV E MX6_fits 47 [(0, VR (some h0)), (2, VI pi2)] [] s0 (some (VI y)) s9 := by
  unfold mX6_fits_47 at h
  refine EV_iconst (x := (0 : Int32)) dX6_fits_47 (by decide) ?_
  exact EV_pick [0, 1] rfl (zX6_fits_48 E h)
def mX6_fits (h0 : Nat) (pi1 : Int32) (pi2 : Int32) (s0 : eS) : Option (Int32 × eS) :=
  (b1 (g_I s0 106 0 h0) fun x1 => (b1 (t_I tb_3 x1) fun x2 => (if pi1 < x2 then (mX6_fits_24 s0) else (b1 (g_I s0 106 0 h0) fun x4 => (b1 (t_I tb_4 x4) fun x5 => (if pi1 ≤ x5 then (b1 (g_I s0 106 0 h0) fun x7 => (if x7 = (5 : Int32) then (if (pi1 &&& (2147483647 : Int32)) ≤ (2139095040 : Int32) then (mX6_fits_47 h0 pi2 s0) else (mX6_fits_48 h0 pi2 (1 : Int32) s0)) else (mX6_fits_47 h0 pi2 s0))) else (mX6_fits_24 s0)))))))
set_option maxRecDepth 100000 in
set_option maxHeartbeats 4000000 in
theorem zX6_fits (E : eE) {h0 : Nat} {pi1 : Int32} {pi2 : Int32} {s0 s9 : eS} {y : Int32} (h : mX6_fits h0 pi1 pi2 s0 = some (y, s9)) : EM E YX6_fits [VR (some h0), VI pi1, VI pi2] s0 (some (VI y)) s9 := by
  refine EM_of (M := MX6_fits) (own := RX6) (ini := false) rfl (by decide +kernel) rfl (fun z => nomatch z) (Nat.le_of_ble_eq_true rfl) ?_
  unfold mX6_fits at h
  refine EV_iload_n dX6_fits_0 rfl ?_
  refine EV_getsN (j := 3) (r := st_3) dX6_fits_1 rfl tw_492 ?_
  refine EV_aload_n dX6_fits_4 rfl ?_
  have hh := b1_some h; clear h; obtain ⟨x1, hx1, h⟩ := hh
  refine EV_getI (ci := 6) (k := 0) dX6_fits_5 fl_X6_9 rfl hx1 ?_
  have hh := b1_some h; clear h; obtain ⟨x2, hx2, h⟩ := hh
  refine EV_tabI (j := 3) (r := st_3) (l := tb_3) dX6_fits_8 rfl rfl hx2 ?_
  refine EV_icmp_lt (tgt := 24) dX6_fits_9 (by decide) (fun c3 => ?_) (fun c3 => ?_)
  · rw [if_pos c3] at h
    exact EV_pick [] rfl (zX6_fits_24 E h)
  · rw [if_neg c3] at h
    refine EV_iload_n dX6_fits_12 rfl ?_
    refine EV_getsN (j := 4) (r := st_4) dX6_fits_13 rfl tw_494 ?_
    refine EV_aload_n dX6_fits_16 rfl ?_
    have hh := b1_some h; clear h; obtain ⟨x4, hx4, h⟩ := hh
    refine EV_getI (ci := 6) (k := 0) dX6_fits_17 fl_X6_9 rfl hx4 ?_
    have hh := b1_some h; clear h; obtain ⟨x5, hx5, h⟩ := hh
    refine EV_tabI (j := 4) (r := st_4) (l := tb_4) dX6_fits_20 rfl rfl hx5 ?_
    refine EV_icmp_le (tgt := 26) dX6_fits_21 (by decide) (fun c6 => ?_) (fun c6 => ?_)
    · rw [if_pos c6] at h
      refine EV_aload_n dX6_fits_26 rfl ?_
      have hh := b1_some h; clear h; obtain ⟨x7, hx7, h⟩ := hh
      refine EV_getI (ci := 6) (k := 0) dX6_fits_27 fl_X6_9 rfl hx7 ?_
      refine EV_iconst (x := (5 : Int32)) dX6_fits_30 (by decide) ?_
      refine EV_icmp_ne (tgt := 47) dX6_fits_31 (by decide) (fun c8 => ?_) (fun c8 => ?_)
      · rw [if_pos c8] at h
        refine EV_iload_n dX6_fits_34 rfl ?_
        refine EV_ldc (x := (2147483647 : Int32)) dX6_fits_35 tw_496 ?_
        refine EV_iand dX6_fits_37 ?_
        refine EV_ldc (x := (2139095040 : Int32)) dX6_fits_38 tw_497 ?_
        refine EV_icmp_le (tgt := 47) dX6_fits_40 (by decide) (fun c9 => ?_) (fun c9 => ?_)
        · rw [if_pos c9] at h
          exact EV_pick [0, 2] rfl (zX6_fits_47 E h)
        · rw [if_neg c9] at h
          refine EV_iconst (x := (1 : Int32)) dX6_fits_43 (by decide) ?_
          refine EV_goto (tgt := 48) dX6_fits_44 (by decide) ?_
          exact EV_pick [0, 2] rfl (zX6_fits_48 E h)
      · rw [if_neg c8] at h
        exact EV_pick [0, 2] rfl (zX6_fits_47 E h)
    · rw [if_neg c6] at h
      exact EV_pick [] rfl (zX6_fits_24 E h)
def mX6_isAskedBy_35 (pt0 : Int32) (s0 : eS) : Option (Int32 × eS) :=
  (b1 (o_Z pt0) fun u1 => some (pt0, s0))
set_option maxRecDepth 100000 in
set_option maxHeartbeats 4000000 in
theorem zX6_isAskedBy_35 (E : eE) {pt0 : Int32} {s0 s9 : eS} {y : Int32} (h : mX6_isAskedBy_35 pt0 s0 = some (y, s9)) : EV E MX6_isAskedBy 35 [] [VI pt0] s0 (some (VI y)) s9 := by
  unfold mX6_isAskedBy_35 at h
  have hh := b1_some h; clear h; obtain ⟨u1, hu1, h⟩ := hh
  cases h
  exact EV_ret ⟨dX6_isAskedBy_35, .boolean, rfl, o_Z_n hu1⟩ rfl
def mX6_isAskedBy_34 (s0 : eS) : Option (Int32 × eS) :=
  (mX6_isAskedBy_35 (0 : Int32) s0)
set_option maxRecDepth 100000 in
set_option maxHeartbeats 4000000 in
theorem zX6_isAskedBy_34 (E : eE) {s0 s9 : eS} {y : Int32} (h : mX6_isAskedBy_34 s0 = some (y, s9)) : EV E MX6_isAskedBy 34 [] [] s0 (some (VI y)) s9 := by
  unfold mX6_isAskedBy_34 at h
  refine EV_iconst (x := (0 : Int32)) dX6_isAskedBy_34 (by decide) ?_
  exact EV_pick [] rfl (zX6_isAskedBy_35 E h)
def mX6_isAskedBy_15 (h0 : Nat) (pi1 : Int32) (s0 : eS) : Option (Int32 × eS) :=
  (b1 (g_I s0 106 0 h0) fun x1 => (if x1 = (6 : Int32) then (if pi1 = (37 : Int32) then (mX6_isAskedBy_35 (1 : Int32) s0) else (mX6_isAskedBy_34 s0)) else (mX6_isAskedBy_34 s0)))
set_option maxRecDepth 100000 in
set_option maxHeartbeats 4000000 in
theorem zX6_isAskedBy_15 (E : eE) {h0 : Nat} {pi1 : Int32} {s0 s9 : eS} {y : Int32} (h : mX6_isAskedBy_15 h0 pi1 s0 = some (y, s9)) : EV E MX6_isAskedBy 15 [(0, VR (some h0)), (1, VI pi1)] [] s0 (some (VI y)) s9 := by
  unfold mX6_isAskedBy_15 at h
  refine EV_aload_n dX6_isAskedBy_15 rfl ?_
  have hh := b1_some h; clear h; obtain ⟨x1, hx1, h⟩ := hh
  refine EV_getI (ci := 6) (k := 0) dX6_isAskedBy_16 fl_X6_9 rfl hx1 ?_
  refine EV_bipush (x := (6 : Int32)) dX6_isAskedBy_19 (by decide) ?_
  refine EV_icmp_ne (tgt := 34) dX6_isAskedBy_21 (by decide) (fun c2 => ?_) (fun c2 => ?_)
  · rw [if_pos c2] at h
    refine EV_iload_n dX6_isAskedBy_24 rfl ?_
    refine EV_bipush (x := (37 : Int32)) dX6_isAskedBy_25 (by decide) ?_
    refine EV_icmp_ne (tgt := 34) dX6_isAskedBy_27 (by decide) (fun c3 => ?_) (fun c3 => ?_)
    · rw [if_pos c3] at h
      refine EV_iconst (x := (1 : Int32)) dX6_isAskedBy_30 (by decide) ?_
      refine EV_goto (tgt := 35) dX6_isAskedBy_31 (by decide) ?_
      exact EV_pick [] rfl (zX6_isAskedBy_35 E h)
    · rw [if_neg c3] at h
      exact EV_pick [] rfl (zX6_isAskedBy_34 E h)
  · rw [if_neg c2] at h
    exact EV_pick [] rfl (zX6_isAskedBy_34 E h)
def mX6_isAskedBy_58 (pt0 : Int32) (s0 : eS) : Option (Int32 × eS) :=
  (b1 (o_Z pt0) fun u1 => some (pt0, s0))
set_option maxRecDepth 100000 in
set_option maxHeartbeats 4000000 in
theorem zX6_isAskedBy_58 (E : eE) {pt0 : Int32} {s0 s9 : eS} {y : Int32} (h : mX6_isAskedBy_58 pt0 s0 = some (y, s9)) : EV E MX6_isAskedBy 58 [] [VI pt0] s0 (some (VI y)) s9 := by
  unfold mX6_isAskedBy_58 at h
  have hh := b1_some h; clear h; obtain ⟨u1, hu1, h⟩ := hh
  cases h
  exact EV_ret ⟨dX6_isAskedBy_58, .boolean, rfl, o_Z_n hu1⟩ rfl
def mX6_isAskedBy_53 (s0 : eS) : Option (Int32 × eS) :=
  (mX6_isAskedBy_58 (1 : Int32) s0)
set_option maxRecDepth 100000 in
set_option maxHeartbeats 4000000 in
theorem zX6_isAskedBy_53 (E : eE) {s0 s9 : eS} {y : Int32} (h : mX6_isAskedBy_53 s0 = some (y, s9)) : EV E MX6_isAskedBy 53 [] [] s0 (some (VI y)) s9 := by
  unfold mX6_isAskedBy_53 at h
  refine EV_iconst (x := (1 : Int32)) dX6_isAskedBy_53 (by decide) ?_
  refine EV_goto (tgt := 58) dX6_isAskedBy_54 (by decide) ?_
  exact EV_pick [] rfl (zX6_isAskedBy_58 E h)
def mX6_isAskedBy (h0 : Nat) (pi1 : Int32) (s0 : eS) : Option (Int32 × eS) :=
  (b1 (g_I s0 106 0 h0) fun x1 => (if x1 = (6 : Int32) then (mX6_isAskedBy_15 h0 pi1 s0) else (if pi1 = (37 : Int32) then (mX6_isAskedBy_15 h0 pi1 s0) else (if pi1 = (20 : Int32) then (mX6_isAskedBy_53 s0) else (b1 (g_I s0 106 2 h0) fun x5 => (if x5 = (pi1 - (20 : Int32)) then (mX6_isAskedBy_53 s0) else (mX6_isAskedBy_58 (0 : Int32) s0)))))))
set_option maxRecDepth 100000 in
set_option maxHeartbeats 4000000 in
theorem zX6_isAskedBy (E : eE) {h0 : Nat} {pi1 : Int32} {s0 s9 : eS} {y : Int32} (h : mX6_isAskedBy h0 pi1 s0 = some (y, s9)) : EM E YX6_isAskedBy [VR (some h0), VI pi1] s0 (some (VI y)) s9 := by
  refine EM_of (M := MX6_isAskedBy) (own := RX6) (ini := false) rfl (by decide +kernel) rfl (fun z => nomatch z) (Nat.le_of_ble_eq_true rfl) ?_
  unfold mX6_isAskedBy at h
  refine EV_aload_n dX6_isAskedBy_0 rfl ?_
  have hh := b1_some h; clear h; obtain ⟨x1, hx1, h⟩ := hh
  refine EV_getI (ci := 6) (k := 0) dX6_isAskedBy_1 fl_X6_9 rfl hx1 ?_
  refine EV_bipush (x := (6 : Int32)) dX6_isAskedBy_4 (by decide) ?_
  refine EV_icmp_eq (tgt := 15) dX6_isAskedBy_6 (by decide) (fun c2 => ?_) (fun c2 => ?_)
  · rw [if_pos c2] at h
    exact EV_pick [0, 1] rfl (zX6_isAskedBy_15 E h)
  · rw [if_neg c2] at h
    refine EV_iload_n dX6_isAskedBy_9 rfl ?_
    refine EV_bipush (x := (37 : Int32)) dX6_isAskedBy_10 (by decide) ?_
    refine EV_icmp_ne (tgt := 36) dX6_isAskedBy_12 (by decide) (fun c3 => ?_) (fun c3 => ?_)
    · rw [if_pos c3] at h
      exact EV_pick [0, 1] rfl (zX6_isAskedBy_15 E h)
    · rw [if_neg c3] at h
      refine EV_iload_n dX6_isAskedBy_36 rfl ?_
      refine EV_bipush (x := (20 : Int32)) dX6_isAskedBy_37 (by decide) ?_
      refine EV_icmp_eq (tgt := 53) dX6_isAskedBy_39 (by decide) (fun c4 => ?_) (fun c4 => ?_)
      · rw [if_pos c4] at h
        exact EV_pick [] rfl (zX6_isAskedBy_53 E h)
      · rw [if_neg c4] at h
        refine EV_aload_n dX6_isAskedBy_42 rfl ?_
        have hh := b1_some h; clear h; obtain ⟨x5, hx5, h⟩ := hh
        refine EV_getI (ci := 6) (k := 2) dX6_isAskedBy_43 fl_X6_18 rfl hx5 ?_
        refine EV_iload_n dX6_isAskedBy_46 rfl ?_
        refine EV_bipush (x := (20 : Int32)) dX6_isAskedBy_47 (by decide) ?_
        refine EV_isub dX6_isAskedBy_49 ?_
        refine EV_icmp_ne (tgt := 57) dX6_isAskedBy_50 (by decide) (fun c6 => ?_) (fun c6 => ?_)
        · rw [if_pos c6] at h
          exact EV_pick [] rfl (zX6_isAskedBy_53 E h)
        · rw [if_neg c6] at h
          refine EV_iconst (x := (0 : Int32)) dX6_isAskedBy_57 (by decide) ?_
          exact EV_pick [] rfl (zX6_isAskedBy_58 E h)
def mX6_object_68 (h0 : Nat) (pi1 : Int32) (pi3 : Int32) (s0 : eS) : Option (Int64 × eS) :=
  (b1 (g_I s0 106 0 h0) fun x1 => (b1 (t_L tb_6 x1) fun x2 => (b1 (g_I s0 106 0 h0) fun x3 => (b1 (t_I tb_7 x3) fun x4 => (b1 (g_I s0 106 1 h0) fun x5 => (some ((((x5).toInt64) ||| (((((pi1).toInt64) &&& x2) ||| (((pi3).toInt64) <<< (((8 : Int32) * x4).toInt64 &&& 63))) <<< ((24 : Int32).toInt64 &&& 63))), s0)))))))
set_option maxRecDepth 100000 in
set_option maxHeartbeats 4000000 in
theorem zX6_object_68 (E : eE) {h0 : Nat} {pi1 : Int32} {pi3 : Int32} {s0 s9 : eS} {y : Int64} (h : mX6_object_68 h0 pi1 pi3 s0 = some (y, s9)) : EV E MX6_object 68 [(0, VR (some h0)), (1, VI pi1), (3, VI pi3)] [] s0 (some (VL y)) s9 := by
  unfold mX6_object_68 at h
  refine EV_iload_n dX6_object_68 rfl ?_
  refine EV_i2l dX6_object_69 ?_
  refine EV_getsN (j := 6) (r := st_6) dX6_object_70 rfl tw_508 ?_
  refine EV_aload_n dX6_object_73 rfl ?_
  have hh := b1_some h; clear h; obtain ⟨x1, hx1, h⟩ := hh
  refine EV_getI (ci := 6) (k := 0) dX6_object_74 fl_X6_9 rfl hx1 ?_
  have hh := b1_some h; clear h; obtain ⟨x2, hx2, h⟩ := hh
  refine EV_tabL (j := 6) (r := st_6) (l := tb_6) dX6_object_77 rfl rfl hx2 ?_
  refine EV_land dX6_object_78 ?_
  refine EV_iload_n dX6_object_79 rfl ?_
  refine EV_i2l dX6_object_80 ?_
  refine EV_bipush (x := (8 : Int32)) dX6_object_81 (by decide) ?_
  refine EV_getsN (j := 7) (r := st_7) dX6_object_83 rfl tw_510 ?_
  refine EV_aload_n dX6_object_86 rfl ?_
  have hh := b1_some h; clear h; obtain ⟨x3, hx3, h⟩ := hh
  refine EV_getI (ci := 6) (k := 0) dX6_object_87 fl_X6_9 rfl hx3 ?_
  have hh := b1_some h; clear h; obtain ⟨x4, hx4, h⟩ := hh
  refine EV_tabI (j := 7) (r := st_7) (l := tb_7) dX6_object_90 rfl rfl hx4 ?_
  refine EV_imul dX6_object_91 ?_
  refine EV_lshl dX6_object_92 ?_
  refine EV_lor dX6_object_93 ?_
  refine EV_lstore (lv2 := [(4, VL ((((pi1).toInt64) &&& x2) ||| (((pi3).toInt64) <<< (((8 : Int32) * x4).toInt64 &&& 63)))), (0, VR (some h0)), (1, VI pi1), (3, VI pi3)]) dX6_object_94 (by decide) rfl ?_
  refine EV_aload_n dX6_object_96 rfl ?_
  have hh := b1_some h; clear h; obtain ⟨x5, hx5, h⟩ := hh
  refine EV_getI (ci := 6) (k := 1) dX6_object_97 fl_X6_15 rfl hx5 ?_
  refine EV_i2l dX6_object_100 ?_
  refine EV_lload dX6_object_101 rfl ?_
  refine EV_bipush (x := (24 : Int32)) dX6_object_103 (by decide) ?_
  refine EV_lshl dX6_object_105 ?_
  refine EV_lor dX6_object_106 ?_
  cases h
  exact EV_ret ⟨dX6_object_107, rfl⟩ rfl
def mX6_object_52 (h0 : Nat) (pi1 : Int32) (pi3 : Int32) (s0 : eS) : Option (Int64 × eS) :=
  (mX6_object_68 h0 pi1 (pi3 ||| pi1) s0)
set_option maxRecDepth 100000 in
set_option maxHeartbeats 4000000 in
theorem zX6_object_52 (E : eE) {h0 : Nat} {pi1 : Int32} {pi3 : Int32} {s0 s9 : eS} {y : Int64} (h : mX6_object_52 h0 pi1 pi3 s0 = some (y, s9)) : EV E MX6_object 52 [(0, VR (some h0)), (1, VI pi1), (3, VI pi3)] [] s0 (some (VL y)) s9 := by
  unfold mX6_object_52 at h
  refine EV_iload_n dX6_object_52 rfl ?_
  refine EV_iload_n dX6_object_53 rfl ?_
  refine EV_ior dX6_object_54 ?_
  refine EV_istore_n (lv2 := [(3, VI (pi3 ||| pi1)), (0, VR (some h0)), (1, VI pi1)]) dX6_object_55 (by decide) rfl ?_
  refine EV_goto (tgt := 68) dX6_object_56 (by decide) ?_
  exact EV_pick [1, 2, 0] rfl (zX6_object_68 E h)
def mX6_object (h0 : Nat) (pi1 : Int32) (pi2 : Int32) (s0 : eS) : Option (Int64 × eS) :=
  (b1 (g_I s0 106 5 h0) fun x1 => (b1 (g_I s0 106 0 h0) fun x2 => (if x2 = (6 : Int32) then (b1 (g_I s0 106 5 h0) fun x4 => (mX6_object_68 h0 pi1 (((x4 &&& (16 : Int32)) <<< ((3 : Int32) &&& 31)) ||| (pi2 &&& (31 : Int32))) s0)) else (b1 (g_I s0 106 0 h0) fun x4 => (if x4 = 0 then (mX6_object_52 h0 pi1 ((x1 &&& (30 : Int32)) <<< ((3 : Int32) &&& 31)) s0) else (b1 (g_I s0 106 0 h0) fun x6 => (if x6 = (1 : Int32) then (mX6_object_52 h0 pi1 ((x1 &&& (30 : Int32)) <<< ((3 : Int32) &&& 31)) s0) else (b1 (g_I s0 106 5 h0) fun x8 => (mX6_object_68 h0 pi1 (((x1 &&& (30 : Int32)) <<< ((3 : Int32) &&& 31)) ||| (x8 &&& (1 : Int32))) s0)))))))))
set_option maxRecDepth 100000 in
set_option maxHeartbeats 4000000 in
theorem zX6_object (E : eE) {h0 : Nat} {pi1 : Int32} {pi2 : Int32} {s0 s9 : eS} {y : Int64} (h : mX6_object h0 pi1 pi2 s0 = some (y, s9)) : EM E YX6_object [VR (some h0), VI pi1, VI pi2] s0 (some (VL y)) s9 := by
  refine EM_of (M := MX6_object) (own := RX6) (ini := false) rfl (by decide +kernel) rfl (fun z => nomatch z) (Nat.le_of_ble_eq_true rfl) ?_
  unfold mX6_object at h
  refine EV_aload_n dX6_object_0 rfl ?_
  have hh := b1_some h; clear h; obtain ⟨x1, hx1, h⟩ := hh
  refine EV_getI (ci := 6) (k := 5) dX6_object_1 fl_X6_40 rfl hx1 ?_
  refine EV_bipush (x := (30 : Int32)) dX6_object_4 (by decide) ?_
  refine EV_iand dX6_object_6 ?_
  refine EV_iconst (x := (3 : Int32)) dX6_object_7 (by decide) ?_
  refine EV_ishl dX6_object_8 ?_
  refine EV_istore_n (lv2 := [(3, VI ((x1 &&& (30 : Int32)) <<< ((3 : Int32) &&& 31))), (0, VR (some h0)), (1, VI pi1), (2, VI pi2)]) dX6_object_9 (by decide) rfl ?_
  refine EV_aload_n dX6_object_10 rfl ?_
  have hh := b1_some h; clear h; obtain ⟨x2, hx2, h⟩ := hh
  refine EV_getI (ci := 6) (k := 0) dX6_object_11 fl_X6_9 rfl hx2 ?_
  refine EV_bipush (x := (6 : Int32)) dX6_object_14 (by decide) ?_
  refine EV_icmp_ne (tgt := 37) dX6_object_16 (by decide) (fun c3 => ?_) (fun c3 => ?_)
  · rw [if_pos c3] at h
    refine EV_aload_n dX6_object_19 rfl ?_
    have hh := b1_some h; clear h; obtain ⟨x4, hx4, h⟩ := hh
    refine EV_getI (ci := 6) (k := 5) dX6_object_20 fl_X6_40 rfl hx4 ?_
    refine EV_bipush (x := (16 : Int32)) dX6_object_23 (by decide) ?_
    refine EV_iand dX6_object_25 ?_
    refine EV_iconst (x := (3 : Int32)) dX6_object_26 (by decide) ?_
    refine EV_ishl dX6_object_27 ?_
    refine EV_iload_n dX6_object_28 rfl ?_
    refine EV_bipush (x := (31 : Int32)) dX6_object_29 (by decide) ?_
    refine EV_iand dX6_object_31 ?_
    refine EV_ior dX6_object_32 ?_
    refine EV_istore_n (lv2 := [(3, VI (((x4 &&& (16 : Int32)) <<< ((3 : Int32) &&& 31)) ||| (pi2 &&& (31 : Int32)))), (0, VR (some h0)), (1, VI pi1), (2, VI pi2)]) dX6_object_33 (by decide) rfl ?_
    refine EV_goto (tgt := 68) dX6_object_34 (by decide) ?_
    exact EV_pick [1, 2, 0] rfl (zX6_object_68 E h)
  · rw [if_neg c3] at h
    refine EV_aload_n dX6_object_37 rfl ?_
    have hh := b1_some h; clear h; obtain ⟨x4, hx4, h⟩ := hh
    refine EV_getI (ci := 6) (k := 0) dX6_object_38 fl_X6_9 rfl hx4 ?_
    refine EV_if_eq (tgt := 52) dX6_object_41 (by decide) (fun c5 => ?_) (fun c5 => ?_)
    · rw [if_pos c5] at h
      exact EV_pick [1, 2, 0] rfl (zX6_object_52 E h)
    · rw [if_neg c5] at h
      refine EV_aload_n dX6_object_44 rfl ?_
      have hh := b1_some h; clear h; obtain ⟨x6, hx6, h⟩ := hh
      refine EV_getI (ci := 6) (k := 0) dX6_object_45 fl_X6_9 rfl hx6 ?_
      refine EV_iconst (x := (1 : Int32)) dX6_object_48 (by decide) ?_
      refine EV_icmp_ne (tgt := 59) dX6_object_49 (by decide) (fun c7 => ?_) (fun c7 => ?_)
      · rw [if_pos c7] at h
        exact EV_pick [1, 2, 0] rfl (zX6_object_52 E h)
      · rw [if_neg c7] at h
        refine EV_iload_n dX6_object_59 rfl ?_
        refine EV_aload_n dX6_object_60 rfl ?_
        have hh := b1_some h; clear h; obtain ⟨x8, hx8, h⟩ := hh
        refine EV_getI (ci := 6) (k := 5) dX6_object_61 fl_X6_40 rfl hx8 ?_
        refine EV_iconst (x := (1 : Int32)) dX6_object_64 (by decide) ?_
        refine EV_iand dX6_object_65 ?_
        refine EV_ior dX6_object_66 ?_
        refine EV_istore_n (lv2 := [(3, VI (((x1 &&& (30 : Int32)) <<< ((3 : Int32) &&& 31)) ||| (x8 &&& (1 : Int32)))), (0, VR (some h0)), (1, VI pi1), (2, VI pi2)]) dX6_object_67 (by decide) rfl ?_
        exact EV_pick [1, 2, 0] rfl (zX6_object_68 E h)
def mX7_init (h0 : Nat) (s0 : eS) : Option eS :=
  (b2 (n_A s0 4 (24 : Int32)) fun q1 s2 => (b1 (p_P s2 107 0 h0 (some q1)) fun s3 => (b2 (n_A s3 4 (24 : Int32)) fun q4 s5 => (b1 (p_P s5 107 1 h0 (some q4)) fun s6 => (some s6)))))
set_option maxRecDepth 100000 in
set_option maxHeartbeats 4000000 in
theorem zX7_init (E : eE) {h0 : Nat} {s0 s9 : eS} (h : mX7_init h0 s0 = some s9) : EM E YX7_init [VR (some h0)] s0 none s9 := by
  refine EM_of (M := MX7_init) (own := RX7) (ini := true) rfl (by decide +kernel) rfl (fun _ => rfl) (Nat.le_of_ble_eq_true rfl) ?_
  unfold mX7_init at h
  refine EV_aload_n dX7_init_0 rfl ?_
  refine EV_objInit dX7_init_1 ⟨_, rfl⟩ tw_100 tw_93 tw_94 ⟨by decide, by decide⟩ (Nat.le_of_ble_eq_true rfl) ?_
  refine EV_aload_n dX7_init_4 rfl ?_
  refine EV_bipush (x := (24 : Int32)) dX7_init_5 (by decide) ?_
  have hh := b2_some h; clear h; obtain ⟨q1, s2, hs2, h⟩ := hh
  refine EV_nR (t := 4) (C := "ControlledStation$Point") dX7_init_7 rfl tw_101 tw_102 hs2 ?_
  have hh := b1_some h; clear h; obtain ⟨s3, hs3, h⟩ := hh
  refine EV_putP (ci := 7) (k := 0) dX7_init_10 fp_X7_11i rfl hs3 ?_
  refine EV_aload_n dX7_init_13 rfl ?_
  refine EV_bipush (x := (24 : Int32)) dX7_init_14 (by decide) ?_
  have hh := b2_some h; clear h; obtain ⟨q4, s5, hs5, h⟩ := hh
  refine EV_nR (t := 4) (C := "ControlledStation$Point") dX7_init_16 rfl tw_101 tw_102 hs5 ?_
  have hh := b1_some h; clear h; obtain ⟨s6, hs6, h⟩ := hh
  refine EV_putP (ci := 7) (k := 1) dX7_init_19 fp_X7_17i rfl hs6 ?_
  cases h
  exact EV_ret ⟨dX7_init_22, rfl⟩ rfl
def mX7_add_86 (h0 : Nat) (pr1 : Option Nat) (pi2 : Int32) (s0 : eS) : Option eS :=
  (b1 (g_P s0 107 1 h0) fun r1 => (b1 r1 fun a2 => (b1 pr1 fun a4 => (b1 (s_P s0 4 106 a2 pi2 a4) fun s3 => (b1 (g_I s3 107 2 h0) fun x5 => (b1 (p_I s3 107 2 h0 (x5 + (1 : Int32))) fun s6 => (some s6)))))))
set_option maxRecDepth 100000 in
set_option maxHeartbeats 4000000 in
theorem zX7_add_86 (E : eE) {h0 : Nat} {pr1 : Option Nat} {pi2 : Int32} {s0 s9 : eS} (h : mX7_add_86 h0 pr1 pi2 s0 = some s9) : EV E MX7_add 86 [(0, VR (some h0)), (1, VR pr1), (2, VI pi2)] [] s0 none s9 := by
  unfold mX7_add_86 at h
  refine EV_aload_n dX7_add_86 rfl ?_
  have hh := b1_some h; clear h; obtain ⟨r1, hr1, h⟩ := hh
  refine EV_getP (ci := 7) (k := 1) dX7_add_87 fl_X7_17 rfl hr1 ?_
  refine EV_iload_n dX7_add_90 rfl ?_
  refine EV_aload_n dX7_add_91 rfl ?_
  have hh := b1_some h; clear h; obtain ⟨a2, ha2, h⟩ := hh
  subst ha2
  have hh := b1_some h; clear h; obtain ⟨a4, ha4, h⟩ := hh
  subst ha4
  have hh := b1_some h; clear h; obtain ⟨s3, hs3, h⟩ := hh
  refine EV_sP (t := 4) (ci := 6) (r := rX6) rfl rfl dX7_add_92 hs3 ?_
  refine EV_aload_n dX7_add_93 rfl ?_
  refine EV_dup dX7_add_94 rfl ?_
  have hh := b1_some h; clear h; obtain ⟨x5, hx5, h⟩ := hh
  refine EV_getI (ci := 7) (k := 2) dX7_add_95 fl_X7_20 rfl hx5 ?_
  refine EV_iconst (x := (1 : Int32)) dX7_add_98 (by decide) ?_
  refine EV_iadd dX7_add_99 ?_
  have hh := b1_some h; clear h; obtain ⟨s6, hs6, h⟩ := hh
  refine EV_putI (ci := 7) (k := 2) dX7_add_100 fp_X7_20 rfl hs6 ?_
  cases h
  exact EV_ret ⟨dX7_add_103, rfl⟩ rfl
def mX7_add_32 : Nat → Nat → Option Nat → Int32 → Int32 → eS → Option eS
  | 0, _, _, _, _, _ => none
  | n + 1, h0, pr1, pi2, pi3, s0 =>
  (if pi3 < 0 then (mX7_add_86 h0 pr1 pi2 s0) else (b1 (g_P s0 107 1 h0) fun r2 => (b1 r2 fun a3 => (b1 (a_P s0 4 a3 pi3) fun r4 => (if r4 = none then (mX7_add_86 h0 pr1 pi2 s0) else (b1 (g_P s0 107 1 h0) fun r6 => (b1 r6 fun a7 => (b1 (a_P s0 4 a7 pi3) fun r8 => (b1 r8 fun a9 => (b1 (g_I s0 106 1 a9) fun x10 => (b1 pr1 fun a11 => (b1 (g_I s0 106 1 a11) fun x12 => (if x12 ≤ x10 then (b1 (g_P s0 107 1 h0) fun r14 => (b1 (g_P s0 107 1 h0) fun r15 => (b1 r15 fun a16 => (b1 (a_P s0 4 a16 pi3) fun r17 => (b1 r14 fun a18 => (b1 r17 fun a20 => (b1 (s_P s0 4 106 a18 (pi3 + (1 : Int32)) a20) fun s19 => (mX7_add_32 n h0 (some a11) pi3 (pi3 + (-1 : Int32)) s19)))))))) else (mX7_add_86 h0 (some a11) pi2 s0))))))))))))))
set_option maxRecDepth 100000 in
set_option maxHeartbeats 4000000 in
theorem zX7_add_32 (E : eE) : ∀ (n : Nat) {h0 : Nat} {pr1 : Option Nat} {pi2 : Int32} {pi3 : Int32} {s0 s9 : eS}, mX7_add_32 n h0 pr1 pi2 pi3 s0 = some s9 → EV E MX7_add 32 [(0, VR (some h0)), (1, VR pr1), (2, VI pi2), (3, VI pi3)] [] s0 none s9 := by
  intro n
  induction n with
  | zero =>
    intro h0 pr1 pi2 pi3 s0 s9 h
    unfold mX7_add_32 at h
    cases h
  | succ n ih =>
    intro h0 pr1 pi2 pi3 s0 s9 h
    unfold mX7_add_32 at h
    refine EV_iload_n dX7_add_32 rfl ?_
    refine EV_if_lt (tgt := 86) dX7_add_33 (by decide) (fun c1 => ?_) (fun c1 => ?_)
    · rw [if_pos c1] at h
      exact EV_pick [0, 1, 2] rfl (zX7_add_86 E h)
    · rw [if_neg c1] at h
      refine EV_aload_n dX7_add_36 rfl ?_
      have hh := b1_some h; clear h; obtain ⟨r2, hr2, h⟩ := hh
      refine EV_getP (ci := 7) (k := 1) dX7_add_37 fl_X7_17 rfl hr2 ?_
      refine EV_iload_n dX7_add_40 rfl ?_
      have hh := b1_some h; clear h; obtain ⟨a3, ha3, h⟩ := hh
      subst ha3
      have hh := b1_some h; clear h; obtain ⟨r4, hr4, h⟩ := hh
      refine EV_aP (t := 4) rfl dX7_add_41 hr4 ?_
      refine EV_ifnull (tgt := 86) dX7_add_42 (by decide) (fun c5 => ?_) (fun c5 => ?_)
      · rw [if_pos c5] at h
        exact EV_pick [0, 1, 2] rfl (zX7_add_86 E h)
      · rw [if_neg c5] at h
        refine EV_aload_n dX7_add_45 rfl ?_
        have hh := b1_some h; clear h; obtain ⟨r6, hr6, h⟩ := hh
        refine EV_getP (ci := 7) (k := 1) dX7_add_46 fl_X7_17 rfl hr6 ?_
        refine EV_iload_n dX7_add_49 rfl ?_
        have hh := b1_some h; clear h; obtain ⟨a7, ha7, h⟩ := hh
        subst ha7
        have hh := b1_some h; clear h; obtain ⟨r8, hr8, h⟩ := hh
        refine EV_aP (t := 4) rfl dX7_add_50 hr8 ?_
        have hh := b1_some h; clear h; obtain ⟨a9, ha9, h⟩ := hh
        subst ha9
        have hh := b1_some h; clear h; obtain ⟨x10, hx10, h⟩ := hh
        refine EV_getI (ci := 6) (k := 1) dX7_add_51 fl_X7_24 rfl hx10 ?_
        refine EV_aload_n dX7_add_54 rfl ?_
        have hh := b1_some h; clear h; obtain ⟨a11, ha11, h⟩ := hh
        subst ha11
        have hh := b1_some h; clear h; obtain ⟨x12, hx12, h⟩ := hh
        refine EV_getI (ci := 6) (k := 1) dX7_add_55 fl_X7_24 rfl hx12 ?_
        refine EV_icmp_ge (tgt := 64) dX7_add_58 (by decide) (fun c13 => ?_) (fun c13 => ?_)
        · rw [if_pos c13] at h
          refine EV_aload_n dX7_add_64 rfl ?_
          have hh := b1_some h; clear h; obtain ⟨r14, hr14, h⟩ := hh
          refine EV_getP (ci := 7) (k := 1) dX7_add_65 fl_X7_17 rfl hr14 ?_
          refine EV_iload_n dX7_add_68 rfl ?_
          refine EV_iconst (x := (1 : Int32)) dX7_add_69 (by decide) ?_
          refine EV_iadd dX7_add_70 ?_
          refine EV_aload_n dX7_add_71 rfl ?_
          have hh := b1_some h; clear h; obtain ⟨r15, hr15, h⟩ := hh
          refine EV_getP (ci := 7) (k := 1) dX7_add_72 fl_X7_17 rfl hr15 ?_
          refine EV_iload_n dX7_add_75 rfl ?_
          have hh := b1_some h; clear h; obtain ⟨a16, ha16, h⟩ := hh
          subst ha16
          have hh := b1_some h; clear h; obtain ⟨r17, hr17, h⟩ := hh
          refine EV_aP (t := 4) rfl dX7_add_76 hr17 ?_
          have hh := b1_some h; clear h; obtain ⟨a18, ha18, h⟩ := hh
          subst ha18
          have hh := b1_some h; clear h; obtain ⟨a20, ha20, h⟩ := hh
          subst ha20
          have hh := b1_some h; clear h; obtain ⟨s19, hs19, h⟩ := hh
          refine EV_sP (t := 4) (ci := 6) (r := rX6) rfl rfl dX7_add_77 hs19 ?_
          refine EV_iload_n dX7_add_78 rfl ?_
          refine EV_istore_n (lv2 := [(2, VI pi3), (0, VR (some h0)), (1, VR (some a11)), (3, VI pi3)]) dX7_add_79 (by decide) rfl ?_
          refine EV_iinc (y := (-1 : Int32)) (lv2 := [(3, VI (pi3 + (-1 : Int32))), (2, VI pi3), (0, VR (some h0)), (1, VR (some a11))]) dX7_add_80 rfl (by decide) (by decide) rfl ?_
          refine EV_goto (tgt := 32) dX7_add_83 (by decide) ?_
          exact EV_pick [2, 3, 1, 0] rfl (ih h)
        · rw [if_neg c13] at h
          refine EV_goto (tgt := 86) dX7_add_61 (by decide) ?_
          exact EV_pick [0, 1, 2] rfl (zX7_add_86 E h)
def mX7_add (h0 : Nat) (pr1 : Option Nat) (s0 : eS) : Option eS :=
  (b1 (g_I s0 107 2 h0) fun x1 => (if x1 < (24 : Int32) then (b1 (g_P s0 107 0 h0) fun r3 => (b1 (g_I s0 107 2 h0) fun x4 => (b1 r3 fun a5 => (b1 pr1 fun a7 => (b1 (s_P s0 4 106 a5 x4 a7) fun s6 => (b1 (g_I s6 107 2 h0) fun x8 => (b1 (g_I s6 107 2 h0) fun x9 => (mX7_add_32 100000 h0 (some a7) x8 (x9 - (1 : Int32)) s6)))))))) else (some s0)))
set_option maxRecDepth 100000 in
set_option maxHeartbeats 4000000 in
theorem zX7_add (E : eE) {h0 : Nat} {pr1 : Option Nat} {s0 s9 : eS} (h : mX7_add h0 pr1 s0 = some s9) : EM E YX7_add [VR (some h0), VR pr1] s0 none s9 := by
  refine EM_of (M := MX7_add) (own := RX7) (ini := false) rfl (by decide +kernel) rfl (fun z => nomatch z) (Nat.le_of_ble_eq_true rfl) ?_
  unfold mX7_add at h
  refine EV_aload_n dX7_add_0 rfl ?_
  have hh := b1_some h; clear h; obtain ⟨x1, hx1, h⟩ := hh
  refine EV_getI (ci := 7) (k := 2) dX7_add_1 fl_X7_20 rfl hx1 ?_
  refine EV_bipush (x := (24 : Int32)) dX7_add_4 (by decide) ?_
  refine EV_icmp_lt (tgt := 10) dX7_add_6 (by decide) (fun c2 => ?_) (fun c2 => ?_)
  · rw [if_pos c2] at h
    refine EV_aload_n dX7_add_10 rfl ?_
    have hh := b1_some h; clear h; obtain ⟨r3, hr3, h⟩ := hh
    refine EV_getP (ci := 7) (k := 0) dX7_add_11 fl_X7_11 rfl hr3 ?_
    refine EV_aload_n dX7_add_14 rfl ?_
    have hh := b1_some h; clear h; obtain ⟨x4, hx4, h⟩ := hh
    refine EV_getI (ci := 7) (k := 2) dX7_add_15 fl_X7_20 rfl hx4 ?_
    refine EV_aload_n dX7_add_18 rfl ?_
    have hh := b1_some h; clear h; obtain ⟨a5, ha5, h⟩ := hh
    subst ha5
    have hh := b1_some h; clear h; obtain ⟨a7, ha7, h⟩ := hh
    subst ha7
    have hh := b1_some h; clear h; obtain ⟨s6, hs6, h⟩ := hh
    refine EV_sP (t := 4) (ci := 6) (r := rX6) rfl rfl dX7_add_19 hs6 ?_
    refine EV_aload_n dX7_add_20 rfl ?_
    have hh := b1_some h; clear h; obtain ⟨x8, hx8, h⟩ := hh
    refine EV_getI (ci := 7) (k := 2) dX7_add_21 fl_X7_20 rfl hx8 ?_
    refine EV_istore_n (lv2 := [(2, VI x8), (0, VR (some h0)), (1, VR (some a7))]) dX7_add_24 (by decide) rfl ?_
    refine EV_aload_n dX7_add_25 rfl ?_
    have hh := b1_some h; clear h; obtain ⟨x9, hx9, h⟩ := hh
    refine EV_getI (ci := 7) (k := 2) dX7_add_26 fl_X7_20 rfl hx9 ?_
    refine EV_iconst (x := (1 : Int32)) dX7_add_29 (by decide) ?_
    refine EV_isub dX7_add_30 ?_
    refine EV_istore_n (lv2 := [(3, VI (x9 - (1 : Int32))), (2, VI x8), (0, VR (some h0)), (1, VR (some a7))]) dX7_add_31 (by decide) rfl ?_
    exact EV_pick [2, 3, 1, 0] rfl (zX7_add_32 E _ h)
  · rw [if_neg c2] at h
    cases h
    exact EV_ret ⟨dX7_add_9, rfl⟩ rfl
def mX7_at_28 (pt0 : Option Nat) (s0 : eS) : Option (Option Nat × eS) :=
  (some (pt0, s0))
set_option maxRecDepth 100000 in
set_option maxHeartbeats 4000000 in
theorem zX7_at_28 (E : eE) {pt0 : Option Nat} {s0 s9 : eS} {y : Option Nat} (h : mX7_at_28 pt0 s0 = some (y, s9)) : EV E MX7_at 28 [] [VR pt0] s0 (some (VR y)) s9 := by
  unfold mX7_at_28 at h
  cases h
  exact EV_ret ⟨dX7_at_28, _, rfl⟩ rfl
def mX7_at_18 (s0 : eS) : Option (Option Nat × eS) :=
  (mX7_at_28 none s0)
set_option maxRecDepth 100000 in
set_option maxHeartbeats 4000000 in
theorem zX7_at_18 (E : eE) {s0 s9 : eS} {y : Option Nat} (h : mX7_at_18 s0 = some (y, s9)) : EV E MX7_at 18 [] [] s0 (some (VR y)) s9 := by
  unfold mX7_at_18 at h
  refine EV_null dX7_at_18 ?_
  refine EV_goto (tgt := 28) dX7_at_19 (by decide) ?_
  exact EV_pick [] rfl (zX7_at_28 E h)
def mX7_at (h0 : Nat) (pi1 : Int32) (s0 : eS) : Option (Option Nat × eS) :=
  (if pi1 < 0 then (mX7_at_18 s0) else (b1 (g_I s0 107 2 h0) fun x2 => (if x2 ≤ pi1 then (mX7_at_18 s0) else (if pi1 < (24 : Int32) then (b1 (g_P s0 107 0 h0) fun r5 => (b1 r5 fun a6 => (b1 (a_P s0 4 a6 pi1) fun r7 => (mX7_at_28 r7 s0)))) else (mX7_at_18 s0)))))
set_option maxRecDepth 100000 in
set_option maxHeartbeats 4000000 in
theorem zX7_at (E : eE) {h0 : Nat} {pi1 : Int32} {s0 s9 : eS} {y : Option Nat} (h : mX7_at h0 pi1 s0 = some (y, s9)) : EM E YX7_at [VR (some h0), VI pi1] s0 (some (VR y)) s9 := by
  refine EM_of (M := MX7_at) (own := RX7) (ini := false) rfl (by decide +kernel) rfl (fun z => nomatch z) (Nat.le_of_ble_eq_true rfl) ?_
  unfold mX7_at at h
  refine EV_iload_n dX7_at_0 rfl ?_
  refine EV_if_lt (tgt := 18) dX7_at_1 (by decide) (fun c1 => ?_) (fun c1 => ?_)
  · rw [if_pos c1] at h
    exact EV_pick [] rfl (zX7_at_18 E h)
  · rw [if_neg c1] at h
    refine EV_iload_n dX7_at_4 rfl ?_
    refine EV_aload_n dX7_at_5 rfl ?_
    have hh := b1_some h; clear h; obtain ⟨x2, hx2, h⟩ := hh
    refine EV_getI (ci := 7) (k := 2) dX7_at_6 fl_X7_20 rfl hx2 ?_
    refine EV_icmp_ge (tgt := 18) dX7_at_9 (by decide) (fun c3 => ?_) (fun c3 => ?_)
    · rw [if_pos c3] at h
      exact EV_pick [] rfl (zX7_at_18 E h)
    · rw [if_neg c3] at h
      refine EV_iload_n dX7_at_12 rfl ?_
      refine EV_bipush (x := (24 : Int32)) dX7_at_13 (by decide) ?_
      refine EV_icmp_lt (tgt := 22) dX7_at_15 (by decide) (fun c4 => ?_) (fun c4 => ?_)
      · rw [if_pos c4] at h
        refine EV_aload_n dX7_at_22 rfl ?_
        have hh := b1_some h; clear h; obtain ⟨r5, hr5, h⟩ := hh
        refine EV_getP (ci := 7) (k := 0) dX7_at_23 fl_X7_11 rfl hr5 ?_
        refine EV_iload_n dX7_at_26 rfl ?_
        have hh := b1_some h; clear h; obtain ⟨a6, ha6, h⟩ := hh
        subst ha6
        have hh := b1_some h; clear h; obtain ⟨r7, hr7, h⟩ := hh
        refine EV_aP (t := 4) rfl dX7_at_27 hr7 ?_
        exact EV_pick [] rfl (zX7_at_28 E h)
      · rw [if_neg c4] at h
        exact EV_pick [] rfl (zX7_at_18 E h)
def mX7_atPlace_28 (pt0 : Option Nat) (s0 : eS) : Option (Option Nat × eS) :=
  (some (pt0, s0))
set_option maxRecDepth 100000 in
set_option maxHeartbeats 4000000 in
theorem zX7_atPlace_28 (E : eE) {pt0 : Option Nat} {s0 s9 : eS} {y : Option Nat} (h : mX7_atPlace_28 pt0 s0 = some (y, s9)) : EV E MX7_atPlace 28 [] [VR pt0] s0 (some (VR y)) s9 := by
  unfold mX7_atPlace_28 at h
  cases h
  exact EV_ret ⟨dX7_atPlace_28, _, rfl⟩ rfl
def mX7_atPlace_18 (s0 : eS) : Option (Option Nat × eS) :=
  (mX7_atPlace_28 none s0)
set_option maxRecDepth 100000 in
set_option maxHeartbeats 4000000 in
theorem zX7_atPlace_18 (E : eE) {s0 s9 : eS} {y : Option Nat} (h : mX7_atPlace_18 s0 = some (y, s9)) : EV E MX7_atPlace 18 [] [] s0 (some (VR y)) s9 := by
  unfold mX7_atPlace_18 at h
  refine EV_null dX7_atPlace_18 ?_
  refine EV_goto (tgt := 28) dX7_atPlace_19 (by decide) ?_
  exact EV_pick [] rfl (zX7_atPlace_28 E h)
def mX7_atPlace (h0 : Nat) (pi1 : Int32) (s0 : eS) : Option (Option Nat × eS) :=
  (if pi1 < 0 then (mX7_atPlace_18 s0) else (b1 (g_I s0 107 2 h0) fun x2 => (if x2 ≤ pi1 then (mX7_atPlace_18 s0) else (if pi1 < (24 : Int32) then (b1 (g_P s0 107 1 h0) fun r5 => (b1 r5 fun a6 => (b1 (a_P s0 4 a6 pi1) fun r7 => (mX7_atPlace_28 r7 s0)))) else (mX7_atPlace_18 s0)))))
set_option maxRecDepth 100000 in
set_option maxHeartbeats 4000000 in
theorem zX7_atPlace (E : eE) {h0 : Nat} {pi1 : Int32} {s0 s9 : eS} {y : Option Nat} (h : mX7_atPlace h0 pi1 s0 = some (y, s9)) : EM E YX7_atPlace [VR (some h0), VI pi1] s0 (some (VR y)) s9 := by
  refine EM_of (M := MX7_atPlace) (own := RX7) (ini := false) rfl (by decide +kernel) rfl (fun z => nomatch z) (Nat.le_of_ble_eq_true rfl) ?_
  unfold mX7_atPlace at h
  refine EV_iload_n dX7_atPlace_0 rfl ?_
  refine EV_if_lt (tgt := 18) dX7_atPlace_1 (by decide) (fun c1 => ?_) (fun c1 => ?_)
  · rw [if_pos c1] at h
    exact EV_pick [] rfl (zX7_atPlace_18 E h)
  · rw [if_neg c1] at h
    refine EV_iload_n dX7_atPlace_4 rfl ?_
    refine EV_aload_n dX7_atPlace_5 rfl ?_
    have hh := b1_some h; clear h; obtain ⟨x2, hx2, h⟩ := hh
    refine EV_getI (ci := 7) (k := 2) dX7_atPlace_6 fl_X7_20 rfl hx2 ?_
    refine EV_icmp_ge (tgt := 18) dX7_atPlace_9 (by decide) (fun c3 => ?_) (fun c3 => ?_)
    · rw [if_pos c3] at h
      exact EV_pick [] rfl (zX7_atPlace_18 E h)
    · rw [if_neg c3] at h
      refine EV_iload_n dX7_atPlace_12 rfl ?_
      refine EV_bipush (x := (24 : Int32)) dX7_atPlace_13 (by decide) ?_
      refine EV_icmp_lt (tgt := 22) dX7_atPlace_15 (by decide) (fun c4 => ?_) (fun c4 => ?_)
      · rw [if_pos c4] at h
        refine EV_aload_n dX7_atPlace_22 rfl ?_
        have hh := b1_some h; clear h; obtain ⟨r5, hr5, h⟩ := hh
        refine EV_getP (ci := 7) (k := 1) dX7_atPlace_23 fl_X7_17 rfl hr5 ?_
        refine EV_iload_n dX7_atPlace_26 rfl ?_
        have hh := b1_some h; clear h; obtain ⟨a6, ha6, h⟩ := hh
        subst ha6
        have hh := b1_some h; clear h; obtain ⟨r7, hr7, h⟩ := hh
        refine EV_aP (t := 4) rfl dX7_atPlace_27 hr7 ?_
        exact EV_pick [] rfl (zX7_atPlace_28 E h)
      · rw [if_neg c4] at h
        exact EV_pick [] rfl (zX7_atPlace_18 E h)
def mX7_withAddress_43 (s0 : eS) : Option (Option Nat × eS) :=
  (some (none, s0))
set_option maxRecDepth 100000 in
set_option maxHeartbeats 4000000 in
theorem zX7_withAddress_43 (E : eE) {s0 s9 : eS} {y : Option Nat} (h : mX7_withAddress_43 s0 = some (y, s9)) : EV E MX7_withAddress 43 [] [] s0 (some (VR y)) s9 := by
  unfold mX7_withAddress_43 at h
  refine EV_null dX7_withAddress_43 ?_
  cases h
  exact EV_ret ⟨dX7_withAddress_44, _, rfl⟩ rfl
def mX7_withAddress_37 (k2 : Nat → Int32 → Int32 → eS → Option (Option Nat × eS)) (h0 : Nat) (pi1 : Int32) (pi2 : Int32) (s0 : eS) : Option (Option Nat × eS) :=
  (k2 h0 pi1 (pi2 + (1 : Int32)) s0)
set_option maxRecDepth 100000 in
set_option maxHeartbeats 4000000 in
theorem zX7_withAddress_37 (E : eE) {k2 : Nat → Int32 → Int32 → eS → Option (Option Nat × eS)} (hk2 : ∀ {h0 : Nat} {pi1 : Int32} {pi2 : Int32} {s0 s9 : eS} {y : Option Nat}, k2 h0 pi1 pi2 s0 = some (y, s9) → EV E MX7_withAddress 2 [(0, VR (some h0)), (1, VI pi1), (2, VI pi2)] [] s0 (some (VR y)) s9) {h0 : Nat} {pi1 : Int32} {pi2 : Int32} {s0 s9 : eS} {y : Option Nat} (h : mX7_withAddress_37 k2 h0 pi1 pi2 s0 = some (y, s9)) : EV E MX7_withAddress 37 [(0, VR (some h0)), (1, VI pi1), (2, VI pi2)] [] s0 (some (VR y)) s9 := by
  unfold mX7_withAddress_37 at h
  refine EV_iinc (y := (1 : Int32)) (lv2 := [(2, VI (pi2 + (1 : Int32))), (0, VR (some h0)), (1, VI pi1)]) dX7_withAddress_37 rfl (by decide) (by decide) rfl ?_
  refine EV_goto (tgt := 2) dX7_withAddress_40 (by decide) ?_
  exact EV_pick [1, 2, 0] rfl (hk2 h)
def mX7_withAddress_2 : Nat → Nat → Int32 → Int32 → eS → Option (Option Nat × eS)
  | 0, _, _, _, _ => none
  | n + 1, h0, pi1, pi2, s0 =>
  (b1 (g_I s0 107 2 h0) fun x1 => (if x1 ≤ pi2 then (mX7_withAddress_43 s0) else (if (24 : Int32) ≤ pi2 then (mX7_withAddress_43 s0) else (b1 (g_P s0 107 0 h0) fun r4 => (b1 r4 fun a5 => (b1 (a_P s0 4 a5 pi2) fun r6 => (if r6 = none then (mX7_withAddress_37 (mX7_withAddress_2 n) h0 pi1 pi2 s0) else (b1 r6 fun a8 => (b1 (g_I s0 106 1 a8) fun x9 => (if x9 = pi1 then (some ((some a8), s0)) else (mX7_withAddress_37 (mX7_withAddress_2 n) h0 pi1 pi2 s0)))))))))))
set_option maxRecDepth 100000 in
set_option maxHeartbeats 4000000 in
theorem zX7_withAddress_2 (E : eE) : ∀ (n : Nat) {h0 : Nat} {pi1 : Int32} {pi2 : Int32} {s0 s9 : eS} {y : Option Nat}, mX7_withAddress_2 n h0 pi1 pi2 s0 = some (y, s9) → EV E MX7_withAddress 2 [(0, VR (some h0)), (1, VI pi1), (2, VI pi2)] [] s0 (some (VR y)) s9 := by
  intro n
  induction n with
  | zero =>
    intro h0 pi1 pi2 s0 s9 y h
    unfold mX7_withAddress_2 at h
    cases h
  | succ n ih =>
    intro h0 pi1 pi2 s0 s9 y h
    unfold mX7_withAddress_2 at h
    refine EV_iload_n dX7_withAddress_2 rfl ?_
    refine EV_aload_n dX7_withAddress_3 rfl ?_
    have hh := b1_some h; clear h; obtain ⟨x1, hx1, h⟩ := hh
    refine EV_getI (ci := 7) (k := 2) dX7_withAddress_4 fl_X7_20 rfl hx1 ?_
    refine EV_icmp_ge (tgt := 43) dX7_withAddress_7 (by decide) (fun c2 => ?_) (fun c2 => ?_)
    · rw [if_pos c2] at h
      exact EV_pick [] rfl (zX7_withAddress_43 E h)
    · rw [if_neg c2] at h
      refine EV_iload_n dX7_withAddress_10 rfl ?_
      refine EV_bipush (x := (24 : Int32)) dX7_withAddress_11 (by decide) ?_
      refine EV_icmp_ge (tgt := 43) dX7_withAddress_13 (by decide) (fun c3 => ?_) (fun c3 => ?_)
      · rw [if_pos c3] at h
        exact EV_pick [] rfl (zX7_withAddress_43 E h)
      · rw [if_neg c3] at h
        refine EV_aload_n dX7_withAddress_16 rfl ?_
        have hh := b1_some h; clear h; obtain ⟨r4, hr4, h⟩ := hh
        refine EV_getP (ci := 7) (k := 0) dX7_withAddress_17 fl_X7_11 rfl hr4 ?_
        refine EV_iload_n dX7_withAddress_20 rfl ?_
        have hh := b1_some h; clear h; obtain ⟨a5, ha5, h⟩ := hh
        subst ha5
        have hh := b1_some h; clear h; obtain ⟨r6, hr6, h⟩ := hh
        refine EV_aP (t := 4) rfl dX7_withAddress_21 hr6 ?_
        refine EV_astore_n (lv2 := [(3, VR r6), (0, VR (some h0)), (1, VI pi1), (2, VI pi2)]) dX7_withAddress_22 (by decide) rfl ?_
        refine EV_aload_n dX7_withAddress_23 rfl ?_
        refine EV_ifnull (tgt := 37) dX7_withAddress_24 (by decide) (fun c7 => ?_) (fun c7 => ?_)
        · rw [if_pos c7] at h
          exact EV_pick [1, 2, 3] rfl (zX7_withAddress_37 E (@ih) h)
        · rw [if_neg c7] at h
          refine EV_aload_n dX7_withAddress_27 rfl ?_
          have hh := b1_some h; clear h; obtain ⟨a8, ha8, h⟩ := hh
          subst ha8
          have hh := b1_some h; clear h; obtain ⟨x9, hx9, h⟩ := hh
          refine EV_getI (ci := 6) (k := 1) dX7_withAddress_28 fl_X7_24 rfl hx9 ?_
          refine EV_iload_n dX7_withAddress_31 rfl ?_
          refine EV_icmp_ne (tgt := 37) dX7_withAddress_32 (by decide) (fun c10 => ?_) (fun c10 => ?_)
          · rw [if_pos c10] at h
            refine EV_aload_n dX7_withAddress_35 rfl ?_
            cases h
            exact EV_ret ⟨dX7_withAddress_36, _, rfl⟩ rfl
          · rw [if_neg c10] at h
            exact EV_pick [1, 2, 3] rfl (zX7_withAddress_37 E (@ih) h)
def mX7_withAddress (h0 : Nat) (pi1 : Int32) (s0 : eS) : Option (Option Nat × eS) :=
  (mX7_withAddress_2 100000 h0 pi1 (0 : Int32) s0)
set_option maxRecDepth 100000 in
set_option maxHeartbeats 4000000 in
theorem zX7_withAddress (E : eE) {h0 : Nat} {pi1 : Int32} {s0 s9 : eS} {y : Option Nat} (h : mX7_withAddress h0 pi1 s0 = some (y, s9)) : EM E YX7_withAddress [VR (some h0), VI pi1] s0 (some (VR y)) s9 := by
  refine EM_of (M := MX7_withAddress) (own := RX7) (ini := false) rfl (by decide +kernel) rfl (fun z => nomatch z) (Nat.le_of_ble_eq_true rfl) ?_
  unfold mX7_withAddress at h
  refine EV_iconst (x := (0 : Int32)) dX7_withAddress_0 (by decide) ?_
  refine EV_istore_n (lv2 := [(2, VI (0 : Int32)), (0, VR (some h0)), (1, VI pi1)]) dX7_withAddress_1 (by decide) rfl ?_
  exact EV_pick [1, 2, 0] rfl (zX7_withAddress_2 E _ h)
def mX7_freezeCounters_50 (s0 : eS) : Option eS :=
  (some s0)
set_option maxRecDepth 100000 in
set_option maxHeartbeats 4000000 in
theorem zX7_freezeCounters_50 (E : eE) {s0 s9 : eS} (h : mX7_freezeCounters_50 s0 = some s9) : EV E MX7_freezeCounters 50 [] [] s0 none s9 := by
  unfold mX7_freezeCounters_50 at h
  cases h
  exact EV_ret ⟨dX7_freezeCounters_50, rfl⟩ rfl
def mX7_freezeCounters_44 (k2 : Nat → Int32 → eS → Option eS) (h0 : Nat) (pi1 : Int32) (s0 : eS) : Option eS :=
  (k2 h0 (pi1 + (1 : Int32)) s0)
set_option maxRecDepth 100000 in
set_option maxHeartbeats 4000000 in
theorem zX7_freezeCounters_44 (E : eE) {k2 : Nat → Int32 → eS → Option eS} (hk2 : ∀ {h0 : Nat} {pi1 : Int32} {s0 s9 : eS}, k2 h0 pi1 s0 = some s9 → EV E MX7_freezeCounters 2 [(0, VR (some h0)), (1, VI pi1)] [] s0 none s9) {h0 : Nat} {pi1 : Int32} {s0 s9 : eS} (h : mX7_freezeCounters_44 k2 h0 pi1 s0 = some s9) : EV E MX7_freezeCounters 44 [(0, VR (some h0)), (1, VI pi1)] [] s0 none s9 := by
  unfold mX7_freezeCounters_44 at h
  refine EV_iinc (y := (1 : Int32)) (lv2 := [(1, VI (pi1 + (1 : Int32))), (0, VR (some h0))]) dX7_freezeCounters_44 rfl (by decide) (by decide) rfl ?_
  refine EV_goto (tgt := 2) dX7_freezeCounters_47 (by decide) ?_
  exact EV_pick [1, 0] rfl (hk2 h)
def mX7_freezeCounters_2 : Nat → Nat → Int32 → eS → Option eS
  | 0, _, _, _ => none
  | n + 1, h0, pi1, s0 =>
  (b1 (g_I s0 107 2 h0) fun x1 => (if x1 ≤ pi1 then (mX7_freezeCounters_50 s0) else (if (24 : Int32) ≤ pi1 then (mX7_freezeCounters_50 s0) else (b1 (g_P s0 107 0 h0) fun r4 => (b1 r4 fun a5 => (b1 (a_P s0 4 a5 pi1) fun r6 => (if r6 = none then (mX7_freezeCounters_44 (mX7_freezeCounters_2 n) h0 pi1 s0) else (b1 r6 fun a8 => (b1 (g_I s0 106 0 a8) fun x9 => (if x9 = (6 : Int32) then (b1 (g_I s0 106 4 a8) fun x11 => (b1 (p_I s0 106 6 a8 x11) fun s12 => (mX7_freezeCounters_44 (mX7_freezeCounters_2 n) h0 pi1 s12))) else (mX7_freezeCounters_44 (mX7_freezeCounters_2 n) h0 pi1 s0)))))))))))
set_option maxRecDepth 100000 in
set_option maxHeartbeats 4000000 in
theorem zX7_freezeCounters_2 (E : eE) : ∀ (n : Nat) {h0 : Nat} {pi1 : Int32} {s0 s9 : eS}, mX7_freezeCounters_2 n h0 pi1 s0 = some s9 → EV E MX7_freezeCounters 2 [(0, VR (some h0)), (1, VI pi1)] [] s0 none s9 := by
  intro n
  induction n with
  | zero =>
    intro h0 pi1 s0 s9 h
    unfold mX7_freezeCounters_2 at h
    cases h
  | succ n ih =>
    intro h0 pi1 s0 s9 h
    unfold mX7_freezeCounters_2 at h
    refine EV_iload_n dX7_freezeCounters_2 rfl ?_
    refine EV_aload_n dX7_freezeCounters_3 rfl ?_
    have hh := b1_some h; clear h; obtain ⟨x1, hx1, h⟩ := hh
    refine EV_getI (ci := 7) (k := 2) dX7_freezeCounters_4 fl_X7_20 rfl hx1 ?_
    refine EV_icmp_ge (tgt := 50) dX7_freezeCounters_7 (by decide) (fun c2 => ?_) (fun c2 => ?_)
    · rw [if_pos c2] at h
      exact EV_pick [] rfl (zX7_freezeCounters_50 E h)
    · rw [if_neg c2] at h
      refine EV_iload_n dX7_freezeCounters_10 rfl ?_
      refine EV_bipush (x := (24 : Int32)) dX7_freezeCounters_11 (by decide) ?_
      refine EV_icmp_ge (tgt := 50) dX7_freezeCounters_13 (by decide) (fun c3 => ?_) (fun c3 => ?_)
      · rw [if_pos c3] at h
        exact EV_pick [] rfl (zX7_freezeCounters_50 E h)
      · rw [if_neg c3] at h
        refine EV_aload_n dX7_freezeCounters_16 rfl ?_
        have hh := b1_some h; clear h; obtain ⟨r4, hr4, h⟩ := hh
        refine EV_getP (ci := 7) (k := 0) dX7_freezeCounters_17 fl_X7_11 rfl hr4 ?_
        refine EV_iload_n dX7_freezeCounters_20 rfl ?_
        have hh := b1_some h; clear h; obtain ⟨a5, ha5, h⟩ := hh
        subst ha5
        have hh := b1_some h; clear h; obtain ⟨r6, hr6, h⟩ := hh
        refine EV_aP (t := 4) rfl dX7_freezeCounters_21 hr6 ?_
        refine EV_astore_n (lv2 := [(2, VR r6), (0, VR (some h0)), (1, VI pi1)]) dX7_freezeCounters_22 (by decide) rfl ?_
        refine EV_aload_n dX7_freezeCounters_23 rfl ?_
        refine EV_ifnull (tgt := 44) dX7_freezeCounters_24 (by decide) (fun c7 => ?_) (fun c7 => ?_)
        · rw [if_pos c7] at h
          exact EV_pick [1, 2] rfl (zX7_freezeCounters_44 E (@ih) h)
        · rw [if_neg c7] at h
          refine EV_aload_n dX7_freezeCounters_27 rfl ?_
          have hh := b1_some h; clear h; obtain ⟨a8, ha8, h⟩ := hh
          subst ha8
          have hh := b1_some h; clear h; obtain ⟨x9, hx9, h⟩ := hh
          refine EV_getI (ci := 6) (k := 0) dX7_freezeCounters_28 fl_X7_27 rfl hx9 ?_
          refine EV_bipush (x := (6 : Int32)) dX7_freezeCounters_31 (by decide) ?_
          refine EV_icmp_ne (tgt := 44) dX7_freezeCounters_33 (by decide) (fun c10 => ?_) (fun c10 => ?_)
          · rw [if_pos c10] at h
            refine EV_aload_n dX7_freezeCounters_36 rfl ?_
            refine EV_aload_n dX7_freezeCounters_37 rfl ?_
            have hh := b1_some h; clear h; obtain ⟨x11, hx11, h⟩ := hh
            refine EV_getI (ci := 6) (k := 4) dX7_freezeCounters_38 fl_X7_30 rfl hx11 ?_
            have hh := b1_some h; clear h; obtain ⟨s12, hs12, h⟩ := hh
            refine EV_putI (ci := 6) (k := 6) dX7_freezeCounters_41 fp_X7_33 rfl hs12 ?_
            exact EV_pick [1, 2] rfl (zX7_freezeCounters_44 E (@ih) h)
          · rw [if_neg c10] at h
            exact EV_pick [1, 2] rfl (zX7_freezeCounters_44 E (@ih) h)
def mX7_freezeCounters (h0 : Nat) (s0 : eS) : Option eS :=
  (mX7_freezeCounters_2 100000 h0 (0 : Int32) s0)
set_option maxRecDepth 100000 in
set_option maxHeartbeats 4000000 in
theorem zX7_freezeCounters (E : eE) {h0 : Nat} {s0 s9 : eS} (h : mX7_freezeCounters h0 s0 = some s9) : EM E YX7_freezeCounters [VR (some h0)] s0 none s9 := by
  refine EM_of (M := MX7_freezeCounters) (own := RX7) (ini := false) rfl (by decide +kernel) rfl (fun z => nomatch z) (Nat.le_of_ble_eq_true rfl) ?_
  unfold mX7_freezeCounters at h
  refine EV_iconst (x := (0 : Int32)) dX7_freezeCounters_0 (by decide) ?_
  refine EV_istore_n (lv2 := [(1, VI (0 : Int32)), (0, VR (some h0))]) dX7_freezeCounters_1 (by decide) rfl ?_
  exact EV_pick [1, 0] rfl (zX7_freezeCounters_2 E _ h)
def mX7_resetCounters_47 (s0 : eS) : Option eS :=
  (some s0)
set_option maxRecDepth 100000 in
set_option maxHeartbeats 4000000 in
theorem zX7_resetCounters_47 (E : eE) {s0 s9 : eS} (h : mX7_resetCounters_47 s0 = some s9) : EV E MX7_resetCounters 47 [] [] s0 none s9 := by
  unfold mX7_resetCounters_47 at h
  cases h
  exact EV_ret ⟨dX7_resetCounters_47, rfl⟩ rfl
def mX7_resetCounters_41 (k2 : Nat → Int32 → eS → Option eS) (h0 : Nat) (pi1 : Int32) (s0 : eS) : Option eS :=
  (k2 h0 (pi1 + (1 : Int32)) s0)
set_option maxRecDepth 100000 in
set_option maxHeartbeats 4000000 in
theorem zX7_resetCounters_41 (E : eE) {k2 : Nat → Int32 → eS → Option eS} (hk2 : ∀ {h0 : Nat} {pi1 : Int32} {s0 s9 : eS}, k2 h0 pi1 s0 = some s9 → EV E MX7_resetCounters 2 [(0, VR (some h0)), (1, VI pi1)] [] s0 none s9) {h0 : Nat} {pi1 : Int32} {s0 s9 : eS} (h : mX7_resetCounters_41 k2 h0 pi1 s0 = some s9) : EV E MX7_resetCounters 41 [(0, VR (some h0)), (1, VI pi1)] [] s0 none s9 := by
  unfold mX7_resetCounters_41 at h
  refine EV_iinc (y := (1 : Int32)) (lv2 := [(1, VI (pi1 + (1 : Int32))), (0, VR (some h0))]) dX7_resetCounters_41 rfl (by decide) (by decide) rfl ?_
  refine EV_goto (tgt := 2) dX7_resetCounters_44 (by decide) ?_
  exact EV_pick [1, 0] rfl (hk2 h)
def mX7_resetCounters_2 : Nat → Nat → Int32 → eS → Option eS
  | 0, _, _, _ => none
  | n + 1, h0, pi1, s0 =>
  (b1 (g_I s0 107 2 h0) fun x1 => (if x1 ≤ pi1 then (mX7_resetCounters_47 s0) else (if (24 : Int32) ≤ pi1 then (mX7_resetCounters_47 s0) else (b1 (g_P s0 107 0 h0) fun r4 => (b1 r4 fun a5 => (b1 (a_P s0 4 a5 pi1) fun r6 => (if r6 = none then (mX7_resetCounters_41 (mX7_resetCounters_2 n) h0 pi1 s0) else (b1 r6 fun a8 => (b1 (g_I s0 106 0 a8) fun x9 => (if x9 = (6 : Int32) then (b1 (p_I s0 106 4 a8 (0 : Int32)) fun s11 => (mX7_resetCounters_41 (mX7_resetCounters_2 n) h0 pi1 s11)) else (mX7_resetCounters_41 (mX7_resetCounters_2 n) h0 pi1 s0)))))))))))
set_option maxRecDepth 100000 in
set_option maxHeartbeats 4000000 in
theorem zX7_resetCounters_2 (E : eE) : ∀ (n : Nat) {h0 : Nat} {pi1 : Int32} {s0 s9 : eS}, mX7_resetCounters_2 n h0 pi1 s0 = some s9 → EV E MX7_resetCounters 2 [(0, VR (some h0)), (1, VI pi1)] [] s0 none s9 := by
  intro n
  induction n with
  | zero =>
    intro h0 pi1 s0 s9 h
    unfold mX7_resetCounters_2 at h
    cases h
  | succ n ih =>
    intro h0 pi1 s0 s9 h
    unfold mX7_resetCounters_2 at h
    refine EV_iload_n dX7_resetCounters_2 rfl ?_
    refine EV_aload_n dX7_resetCounters_3 rfl ?_
    have hh := b1_some h; clear h; obtain ⟨x1, hx1, h⟩ := hh
    refine EV_getI (ci := 7) (k := 2) dX7_resetCounters_4 fl_X7_20 rfl hx1 ?_
    refine EV_icmp_ge (tgt := 47) dX7_resetCounters_7 (by decide) (fun c2 => ?_) (fun c2 => ?_)
    · rw [if_pos c2] at h
      exact EV_pick [] rfl (zX7_resetCounters_47 E h)
    · rw [if_neg c2] at h
      refine EV_iload_n dX7_resetCounters_10 rfl ?_
      refine EV_bipush (x := (24 : Int32)) dX7_resetCounters_11 (by decide) ?_
      refine EV_icmp_ge (tgt := 47) dX7_resetCounters_13 (by decide) (fun c3 => ?_) (fun c3 => ?_)
      · rw [if_pos c3] at h
        exact EV_pick [] rfl (zX7_resetCounters_47 E h)
      · rw [if_neg c3] at h
        refine EV_aload_n dX7_resetCounters_16 rfl ?_
        have hh := b1_some h; clear h; obtain ⟨r4, hr4, h⟩ := hh
        refine EV_getP (ci := 7) (k := 0) dX7_resetCounters_17 fl_X7_11 rfl hr4 ?_
        refine EV_iload_n dX7_resetCounters_20 rfl ?_
        have hh := b1_some h; clear h; obtain ⟨a5, ha5, h⟩ := hh
        subst ha5
        have hh := b1_some h; clear h; obtain ⟨r6, hr6, h⟩ := hh
        refine EV_aP (t := 4) rfl dX7_resetCounters_21 hr6 ?_
        refine EV_astore_n (lv2 := [(2, VR r6), (0, VR (some h0)), (1, VI pi1)]) dX7_resetCounters_22 (by decide) rfl ?_
        refine EV_aload_n dX7_resetCounters_23 rfl ?_
        refine EV_ifnull (tgt := 41) dX7_resetCounters_24 (by decide) (fun c7 => ?_) (fun c7 => ?_)
        · rw [if_pos c7] at h
          exact EV_pick [1, 2] rfl (zX7_resetCounters_41 E (@ih) h)
        · rw [if_neg c7] at h
          refine EV_aload_n dX7_resetCounters_27 rfl ?_
          have hh := b1_some h; clear h; obtain ⟨a8, ha8, h⟩ := hh
          subst ha8
          have hh := b1_some h; clear h; obtain ⟨x9, hx9, h⟩ := hh
          refine EV_getI (ci := 6) (k := 0) dX7_resetCounters_28 fl_X7_27 rfl hx9 ?_
          refine EV_bipush (x := (6 : Int32)) dX7_resetCounters_31 (by decide) ?_
          refine EV_icmp_ne (tgt := 41) dX7_resetCounters_33 (by decide) (fun c10 => ?_) (fun c10 => ?_)
          · rw [if_pos c10] at h
            refine EV_aload_n dX7_resetCounters_36 rfl ?_
            refine EV_iconst (x := (0 : Int32)) dX7_resetCounters_37 (by decide) ?_
            have hh := b1_some h; clear h; obtain ⟨s11, hs11, h⟩ := hh
            refine EV_putI (ci := 6) (k := 4) dX7_resetCounters_38 fp_X7_30 rfl hs11 ?_
            exact EV_pick [1, 2] rfl (zX7_resetCounters_41 E (@ih) h)
          · rw [if_neg c10] at h
            exact EV_pick [1, 2] rfl (zX7_resetCounters_41 E (@ih) h)
def mX7_resetCounters (h0 : Nat) (s0 : eS) : Option eS :=
  (mX7_resetCounters_2 100000 h0 (0 : Int32) s0)
set_option maxRecDepth 100000 in
set_option maxHeartbeats 4000000 in
theorem zX7_resetCounters (E : eE) {h0 : Nat} {s0 s9 : eS} (h : mX7_resetCounters h0 s0 = some s9) : EM E YX7_resetCounters [VR (some h0)] s0 none s9 := by
  refine EM_of (M := MX7_resetCounters) (own := RX7) (ini := false) rfl (by decide +kernel) rfl (fun z => nomatch z) (Nat.le_of_ble_eq_true rfl) ?_
  unfold mX7_resetCounters at h
  refine EV_iconst (x := (0 : Int32)) dX7_resetCounters_0 (by decide) ?_
  refine EV_istore_n (lv2 := [(1, VI (0 : Int32)), (0, VR (some h0))]) dX7_resetCounters_1 (by decide) rfl ?_
  exact EV_pick [1, 0] rfl (zX7_resetCounters_2 E _ h)
def mX9_init (h0 : Nat) (s0 : eS) : Option eS :=
  (some s0)
set_option maxRecDepth 100000 in
set_option maxHeartbeats 4000000 in
theorem zX9_init (E : eE) {h0 : Nat} {s0 s9 : eS} (h : mX9_init h0 s0 = some s9) : EM E YX9_init [VR (some h0)] s0 none s9 := by
  refine EM_of (M := MX9_init) (own := RX9) (ini := true) rfl (by decide +kernel) rfl (fun _ => rfl) (Nat.le_of_ble_eq_true rfl) ?_
  unfold mX9_init at h
  refine EV_aload_n dX9_init_0 rfl ?_
  refine EV_objInit dX9_init_1 ⟨_, rfl⟩ tw_122 tw_93 tw_94 ⟨by decide, by decide⟩ (Nat.le_of_ble_eq_true rfl) ?_
  cases h
  exact EV_ret ⟨dX9_init_4, rfl⟩ rfl
def mX9_begin (h0 : Nat) (pr1 : Option Nat) (pi2 : Int32) (pi3 : Int32) (pi4 : Int32) (s0 : eS) : Option eS :=
  (b1 (p_P s0 109 0 h0 pr1) fun s1 => (b1 (p_I s1 109 1 h0 pi2) fun s2 => (b1 (p_I s2 109 2 h0 pi3) fun s3 => (b1 (p_I s3 109 3 h0 pi4) fun s4 => (some s4)))))
set_option maxRecDepth 100000 in
set_option maxHeartbeats 4000000 in
theorem zX9_begin (E : eE) {h0 : Nat} {pr1 : Option Nat} {pi2 : Int32} {pi3 : Int32} {pi4 : Int32} {s0 s9 : eS} (h : mX9_begin h0 pr1 pi2 pi3 pi4 s0 = some s9) : EM E YX9_begin [VR (some h0), VR pr1, VI pi2, VI pi3, VI pi4] s0 none s9 := by
  refine EM_of (M := MX9_begin) (own := RX9) (ini := false) rfl (by decide +kernel) rfl (fun z => nomatch z) (Nat.le_of_ble_eq_true rfl) ?_
  unfold mX9_begin at h
  refine EV_aload_n dX9_begin_0 rfl ?_
  refine EV_aload_n dX9_begin_1 rfl ?_
  have hh := b1_some h; clear h; obtain ⟨s1, hs1, h⟩ := hh
  refine EV_putP (ci := 9) (k := 0) dX9_begin_2 fp_X9_7 rfl hs1 ?_
  refine EV_aload_n dX9_begin_5 rfl ?_
  refine EV_iload_n dX9_begin_6 rfl ?_
  have hh := b1_some h; clear h; obtain ⟨s2, hs2, h⟩ := hh
  refine EV_putI (ci := 9) (k := 1) dX9_begin_7 fp_X9_13 rfl hs2 ?_
  refine EV_aload_n dX9_begin_10 rfl ?_
  refine EV_iload_n dX9_begin_11 rfl ?_
  have hh := b1_some h; clear h; obtain ⟨s3, hs3, h⟩ := hh
  refine EV_putI (ci := 9) (k := 2) dX9_begin_12 fp_X9_17 rfl hs3 ?_
  refine EV_aload_n dX9_begin_15 rfl ?_
  refine EV_iload dX9_begin_16 rfl ?_
  have hh := b1_some h; clear h; obtain ⟨s4, hs4, h⟩ := hh
  refine EV_putI (ci := 9) (k := 3) dX9_begin_18 fp_X9_20 rfl hs4 ?_
  cases h
  exact EV_ret ⟨dX9_begin_21, rfl⟩ rfl
def mX9_end (h0 : Nat) (s0 : eS) : Option eS :=
  (b1 (p_P s0 109 0 h0 none) fun s1 => (b1 (p_I s1 109 3 h0 (0 : Int32)) fun s2 => (some s2)))
set_option maxRecDepth 100000 in
set_option maxHeartbeats 4000000 in
theorem zX9_end (E : eE) {h0 : Nat} {s0 s9 : eS} (h : mX9_end h0 s0 = some s9) : EM E YX9_end [VR (some h0)] s0 none s9 := by
  refine EM_of (M := MX9_end) (own := RX9) (ini := false) rfl (by decide +kernel) rfl (fun z => nomatch z) (Nat.le_of_ble_eq_true rfl) ?_
  unfold mX9_end at h
  refine EV_aload_n dX9_end_0 rfl ?_
  refine EV_null dX9_end_1 ?_
  have hh := b1_some h; clear h; obtain ⟨s1, hs1, h⟩ := hh
  refine EV_putP (ci := 9) (k := 0) dX9_end_2 fp_X9_7 rfl hs1 ?_
  refine EV_aload_n dX9_end_5 rfl ?_
  refine EV_iconst (x := (0 : Int32)) dX9_end_6 (by decide) ?_
  have hh := b1_some h; clear h; obtain ⟨s2, hs2, h⟩ := hh
  refine EV_putI (ci := 9) (k := 3) dX9_end_7 fp_X9_20 rfl hs2 ?_
  cases h
  exact EV_ret ⟨dX9_end_10, rfl⟩ rfl
def mX9_isOfSome_12 (pt0 : Int32) (s0 : eS) : Option (Int32 × eS) :=
  (b1 (o_Z pt0) fun u1 => some (pt0, s0))
set_option maxRecDepth 100000 in
set_option maxHeartbeats 4000000 in
theorem zX9_isOfSome_12 (E : eE) {pt0 : Int32} {s0 s9 : eS} {y : Int32} (h : mX9_isOfSome_12 pt0 s0 = some (y, s9)) : EV E MX9_isOfSome 12 [] [VI pt0] s0 (some (VI y)) s9 := by
  unfold mX9_isOfSome_12 at h
  have hh := b1_some h; clear h; obtain ⟨u1, hu1, h⟩ := hh
  cases h
  exact EV_ret ⟨dX9_isOfSome_12, .boolean, rfl, o_Z_n hu1⟩ rfl
def mX9_isOfSome (h0 : Nat) (s0 : eS) : Option (Int32 × eS) :=
  (b1 (g_P s0 109 0 h0) fun r1 => (if r1 = none then (mX9_isOfSome_12 (0 : Int32) s0) else (mX9_isOfSome_12 (1 : Int32) s0)))
set_option maxRecDepth 100000 in
set_option maxHeartbeats 4000000 in
theorem zX9_isOfSome (E : eE) {h0 : Nat} {s0 s9 : eS} {y : Int32} (h : mX9_isOfSome h0 s0 = some (y, s9)) : EM E YX9_isOfSome [VR (some h0)] s0 (some (VI y)) s9 := by
  refine EM_of (M := MX9_isOfSome) (own := RX9) (ini := false) rfl (by decide +kernel) rfl (fun z => nomatch z) (Nat.le_of_ble_eq_true rfl) ?_
  unfold mX9_isOfSome at h
  refine EV_aload_n dX9_isOfSome_0 rfl ?_
  have hh := b1_some h; clear h; obtain ⟨r1, hr1, h⟩ := hh
  refine EV_getP (ci := 9) (k := 0) dX9_isOfSome_1 fl_X9_7 rfl hr1 ?_
  refine EV_ifnull (tgt := 11) dX9_isOfSome_4 (by decide) (fun c2 => ?_) (fun c2 => ?_)
  · rw [if_pos c2] at h
    refine EV_iconst (x := (0 : Int32)) dX9_isOfSome_11 (by decide) ?_
    exact EV_pick [] rfl (zX9_isOfSome_12 E h)
  · rw [if_neg c2] at h
    refine EV_iconst (x := (1 : Int32)) dX9_isOfSome_7 (by decide) ?_
    refine EV_goto (tgt := 12) dX9_isOfSome_8 (by decide) ?_
    exact EV_pick [] rfl (zX9_isOfSome_12 E h)
def mX9_isOf_20 (pt0 : Int32) (s0 : eS) : Option (Int32 × eS) :=
  (b1 (o_Z pt0) fun u1 => some (pt0, s0))
set_option maxRecDepth 100000 in
set_option maxHeartbeats 4000000 in
theorem zX9_isOf_20 (E : eE) {pt0 : Int32} {s0 s9 : eS} {y : Int32} (h : mX9_isOf_20 pt0 s0 = some (y, s9)) : EV E MX9_isOf 20 [] [VI pt0] s0 (some (VI y)) s9 := by
  unfold mX9_isOf_20 at h
  have hh := b1_some h; clear h; obtain ⟨u1, hu1, h⟩ := hh
  cases h
  exact EV_ret ⟨dX9_isOf_20, .boolean, rfl, o_Z_n hu1⟩ rfl
def mX9_isOf_19 (s0 : eS) : Option (Int32 × eS) :=
  (mX9_isOf_20 (0 : Int32) s0)
set_option maxRecDepth 100000 in
set_option maxHeartbeats 4000000 in
theorem zX9_isOf_19 (E : eE) {s0 s9 : eS} {y : Int32} (h : mX9_isOf_19 s0 = some (y, s9)) : EV E MX9_isOf 19 [] [] s0 (some (VI y)) s9 := by
  unfold mX9_isOf_19 at h
  refine EV_iconst (x := (0 : Int32)) dX9_isOf_19 (by decide) ?_
  exact EV_pick [] rfl (zX9_isOf_20 E h)
def mX9_isOf (h0 : Nat) (pr1 : Option Nat) (s0 : eS) : Option (Int32 × eS) :=
  (b1 (g_P s0 109 0 h0) fun r1 => (if r1 = none then (mX9_isOf_19 s0) else (b1 (g_P s0 109 0 h0) fun r3 => (b1 (o_R r3 pr1) fun u5 => (if r3 = pr1 then (mX9_isOf_20 (1 : Int32) s0) else (mX9_isOf_19 s0))))))
set_option maxRecDepth 100000 in
set_option maxHeartbeats 4000000 in
theorem zX9_isOf (E : eE) {h0 : Nat} {pr1 : Option Nat} {s0 s9 : eS} {y : Int32} (h : mX9_isOf h0 pr1 s0 = some (y, s9)) : EM E YX9_isOf [VR (some h0), VR pr1] s0 (some (VI y)) s9 := by
  refine EM_of (M := MX9_isOf) (own := RX9) (ini := false) rfl (by decide +kernel) rfl (fun z => nomatch z) (Nat.le_of_ble_eq_true rfl) ?_
  unfold mX9_isOf at h
  refine EV_aload_n dX9_isOf_0 rfl ?_
  have hh := b1_some h; clear h; obtain ⟨r1, hr1, h⟩ := hh
  refine EV_getP (ci := 9) (k := 0) dX9_isOf_1 fl_X9_7 rfl hr1 ?_
  refine EV_ifnull (tgt := 19) dX9_isOf_4 (by decide) (fun c2 => ?_) (fun c2 => ?_)
  · rw [if_pos c2] at h
    exact EV_pick [] rfl (zX9_isOf_19 E h)
  · rw [if_neg c2] at h
    refine EV_aload_n dX9_isOf_7 rfl ?_
    have hh := b1_some h; clear h; obtain ⟨r3, hr3, h⟩ := hh
    refine EV_getP (ci := 9) (k := 0) dX9_isOf_8 fl_X9_7 rfl hr3 ?_
    refine EV_aload_n dX9_isOf_11 rfl ?_
    have hh := b1_some h; clear h; obtain ⟨u5, hu5, h⟩ := hh
    refine EV_acmp_ne (tgt := 19) dX9_isOf_12 (by decide) (e_if hu5).1.1 (e_if hu5).1.2 (fun c4 => ?_) (fun c4 => ?_)
    · rw [if_pos c4] at h
      refine EV_iconst (x := (1 : Int32)) dX9_isOf_15 (by decide) ?_
      refine EV_goto (tgt := 20) dX9_isOf_16 (by decide) ?_
      exact EV_pick [] rfl (zX9_isOf_20 E h)
    · rw [if_neg c4] at h
      exact EV_pick [] rfl (zX9_isOf_19 E h)
def mX9_goOn_29 (s0 : eS) : Option eS :=
  (some s0)
set_option maxRecDepth 100000 in
set_option maxHeartbeats 4000000 in
theorem zX9_goOn_29 (E : eE) {s0 s9 : eS} (h : mX9_goOn_29 s0 = some s9) : EV E MX9_goOn 29 [] [] s0 none s9 := by
  unfold mX9_goOn_29 at h
  cases h
  exact EV_ret ⟨dX9_goOn_29, rfl⟩ rfl
def mX9_goOn (h0 : Nat) (s0 : eS) : Option eS :=
  (b1 (g_P s0 109 0 h0) fun r1 => (if r1 = none then (mX9_goOn_29 s0) else (b1 (g_I s0 109 3 h0) fun x3 => (b1 (p_I s0 109 3 h0 (x3 - (1 : Int32))) fun s4 => (b1 (g_I s4 109 3 h0) fun x5 => (if 0 < x5 then (mX9_goOn_29 s4) else (b1 (p_P s4 109 0 h0 none) fun s7 => (mX9_goOn_29 s7))))))))
set_option maxRecDepth 100000 in
set_option maxHeartbeats 4000000 in
theorem zX9_goOn (E : eE) {h0 : Nat} {s0 s9 : eS} (h : mX9_goOn h0 s0 = some s9) : EM E YX9_goOn [VR (some h0)] s0 none s9 := by
  refine EM_of (M := MX9_goOn) (own := RX9) (ini := false) rfl (by decide +kernel) rfl (fun z => nomatch z) (Nat.le_of_ble_eq_true rfl) ?_
  unfold mX9_goOn at h
  refine EV_aload_n dX9_goOn_0 rfl ?_
  have hh := b1_some h; clear h; obtain ⟨r1, hr1, h⟩ := hh
  refine EV_getP (ci := 9) (k := 0) dX9_goOn_1 fl_X9_7 rfl hr1 ?_
  refine EV_ifnull (tgt := 29) dX9_goOn_4 (by decide) (fun c2 => ?_) (fun c2 => ?_)
  · rw [if_pos c2] at h
    exact EV_pick [] rfl (zX9_goOn_29 E h)
  · rw [if_neg c2] at h
    refine EV_aload_n dX9_goOn_7 rfl ?_
    refine EV_dup dX9_goOn_8 rfl ?_
    have hh := b1_some h; clear h; obtain ⟨x3, hx3, h⟩ := hh
    refine EV_getI (ci := 9) (k := 3) dX9_goOn_9 fl_X9_20 rfl hx3 ?_
    refine EV_iconst (x := (1 : Int32)) dX9_goOn_12 (by decide) ?_
    refine EV_isub dX9_goOn_13 ?_
    have hh := b1_some h; clear h; obtain ⟨s4, hs4, h⟩ := hh
    refine EV_putI (ci := 9) (k := 3) dX9_goOn_14 fp_X9_20 rfl hs4 ?_
    refine EV_aload_n dX9_goOn_17 rfl ?_
    have hh := b1_some h; clear h; obtain ⟨x5, hx5, h⟩ := hh
    refine EV_getI (ci := 9) (k := 3) dX9_goOn_18 fl_X9_20 rfl hx5 ?_
    refine EV_if_gt (tgt := 29) dX9_goOn_21 (by decide) (fun c6 => ?_) (fun c6 => ?_)
    · rw [if_pos c6] at h
      exact EV_pick [] rfl (zX9_goOn_29 E h)
    · rw [if_neg c6] at h
      refine EV_aload_n dX9_goOn_24 rfl ?_
      refine EV_null dX9_goOn_25 ?_
      have hh := b1_some h; clear h; obtain ⟨s7, hs7, h⟩ := hh
      refine EV_putP (ci := 9) (k := 0) dX9_goOn_26 fp_X9_7 rfl hs7 ?_
      exact EV_pick [] rfl (zX9_goOn_29 E h)
def mX10_init (h0 : Nat) (s0 : eS) : Option eS :=
  (b2 (n_A s0 0 (12 : Int32)) fun q1 s2 => (b1 (p_P s2 110 0 h0 (some q1)) fun s3 => (b2 (n_A s3 2 (12 : Int32)) fun q4 s5 => (b1 (p_P s5 110 1 h0 (some q4)) fun s6 => (some s6)))))
set_option maxRecDepth 100000 in
set_option maxHeartbeats 4000000 in
theorem zX10_init (E : eE) {h0 : Nat} {s0 s9 : eS} (h : mX10_init h0 s0 = some s9) : EM E YX10_init [VR (some h0)] s0 none s9 := by
  refine EM_of (M := MX10_init) (own := RX10) (ini := true) rfl (by decide +kernel) rfl (fun _ => rfl) (Nat.le_of_ble_eq_true rfl) ?_
  unfold mX10_init at h
  refine EV_aload_n dX10_init_0 rfl ?_
  refine EV_objInit dX10_init_1 ⟨_, rfl⟩ tw_286 tw_93 tw_94 ⟨by decide, by decide⟩ (Nat.le_of_ble_eq_true rfl) ?_
  refine EV_aload_n dX10_init_4 rfl ?_
  refine EV_bipush (x := (12 : Int32)) dX10_init_5 (by decide) ?_
  have hh := b2_some h; clear h; obtain ⟨q1, s2, hs2, h⟩ := hh
  refine EV_nA (t := 0) (ty := .int) dX10_init_7 rfl rfl (by decide) tw_114 hs2 ?_
  have hh := b1_some h; clear h; obtain ⟨s3, hs3, h⟩ := hh
  refine EV_putP (ci := 10) (k := 0) dX10_init_9 fp_X10_9i rfl hs3 ?_
  refine EV_aload_n dX10_init_12 rfl ?_
  refine EV_bipush (x := (12 : Int32)) dX10_init_13 (by decide) ?_
  have hh := b2_some h; clear h; obtain ⟨q4, s5, hs5, h⟩ := hh
  refine EV_nA (t := 2) (ty := .boolean) dX10_init_15 rfl rfl (by decide) tw_305 hs5 ?_
  have hh := b1_some h; clear h; obtain ⟨s6, hs6, h⟩ := hh
  refine EV_putP (ci := 10) (k := 1) dX10_init_17 fp_X10_15i rfl hs6 ?_
  cases h
  exact EV_ret ⟨dX10_init_20, rfl⟩ rfl
def mX10_forget (h0 : Nat) (s0 : eS) : Option eS :=
  (b1 (p_I s0 110 2 h0 (0 : Int32)) fun s1 => (b1 (p_I s1 110 3 h0 (0 : Int32)) fun s2 => (some s2)))
set_option maxRecDepth 100000 in
set_option maxHeartbeats 4000000 in
theorem zX10_forget (E : eE) {h0 : Nat} {s0 s9 : eS} (h : mX10_forget h0 s0 = some s9) : EM E YX10_forget [VR (some h0)] s0 none s9 := by
  refine EM_of (M := MX10_forget) (own := RX10) (ini := false) rfl (by decide +kernel) rfl (fun z => nomatch z) (Nat.le_of_ble_eq_true rfl) ?_
  unfold mX10_forget at h
  refine EV_aload_n dX10_forget_0 rfl ?_
  refine EV_iconst (x := (0 : Int32)) dX10_forget_1 (by decide) ?_
  have hh := b1_some h; clear h; obtain ⟨s1, hs1, h⟩ := hh
  refine EV_putI (ci := 10) (k := 2) dX10_forget_2 fp_X10_26 rfl hs1 ?_
  refine EV_aload_n dX10_forget_5 rfl ?_
  refine EV_iconst (x := (0 : Int32)) dX10_forget_6 (by decide) ?_
  have hh := b1_some h; clear h; obtain ⟨s2, hs2, h⟩ := hh
  refine EV_putI (ci := 10) (k := 3) dX10_forget_7 fp_X10_29 rfl hs2 ?_
  cases h
  exact EV_ret ⟨dX10_forget_10, rfl⟩ rfl
def mX10_restart (h0 : Nat) (s0 : eS) : Option eS :=
  (b1 (p_I s0 110 4 h0 (0 : Int32)) fun s1 => (b1 (o_K s1 110 h0) fun u4 => (b1 (mX10_forget h0 s1) fun s2 => (some s2))))
set_option maxRecDepth 100000 in
set_option maxHeartbeats 4000000 in
theorem zX10_restart (E : eE) {h0 : Nat} {s0 s9 : eS} (h : mX10_restart h0 s0 = some s9) : EM E YX10_restart [VR (some h0)] s0 none s9 := by
  refine EM_of (M := MX10_restart) (own := RX10) (ini := false) rfl (by decide +kernel) rfl (fun z => nomatch z) (Nat.le_of_ble_eq_true rfl) ?_
  unfold mX10_restart at h
  refine EV_aload_n dX10_restart_0 rfl ?_
  refine EV_iconst (x := (0 : Int32)) dX10_restart_1 (by decide) ?_
  have hh := b1_some h; clear h; obtain ⟨s1, hs1, h⟩ := hh
  refine EV_putI (ci := 10) (k := 4) dX10_restart_2 fp_X10_19 rfl hs1 ?_
  refine EV_aload_n dX10_restart_5 rfl ?_
  have hh := b1_some h; clear h; obtain ⟨u4, hu4, h⟩ := hh
  have hh := b1_some h; clear h; obtain ⟨s2, hs2, h⟩ := hh
  refine EV_callV (Y := YX10_forget) (as := []) (st := []) (st2 := []) (a := h0) (ci := 10) (r := rX10) (n := 0) dX10_restart_6 (zX10_forget E hs2) rfl cwX10_forget rfl tw_619 tw_557 tw_558 rfl (e_if hu4).1.1 (e_if hu4).1.2 ⟨by decide, by decide⟩ (Nat.le_of_ble_eq_true rfl) rfl ?_
  cases h
  exact EV_ret ⟨dX10_restart_9, rfl⟩ rfl
def mX10_add (h0 : Nat) (pi1 : Int32) (pi2 : Int32) (s0 : eS) : Option eS :=
  (b1 (g_I s0 110 3 h0) fun x1 => (if x1 < (12 : Int32) then (b1 (g_I s0 110 2 h0) fun x3 => (b1 (g_I s0 110 3 h0) fun x4 => (b1 (g_P s0 110 0 h0) fun r5 => (b1 r5 fun a6 => (b1 (s_I s0 0 a6 ((x3 + x4) - (x3 + x4) / (12 : Int32) * (12 : Int32)) pi1) fun s7 => (b1 (g_P s7 110 1 h0) fun r8 => (b1 r8 fun a9 => (b1 (s_Z s7 2 a9 ((x3 + x4) - (x3 + x4) / (12 : Int32) * (12 : Int32)) pi2) fun s10 => (b1 (g_I s10 110 3 h0) fun x11 => (b1 (p_I s10 110 3 h0 (x11 + (1 : Int32))) fun s12 => (b1 (g_I s12 110 4 h0) fun x13 => (b1 (p_I s12 110 4 h0 (x13 + (1 : Int32))) fun s14 => (some s14))))))))))))) else (some s0)))
set_option maxRecDepth 100000 in
set_option maxHeartbeats 4000000 in
theorem zX10_add (E : eE) {h0 : Nat} {pi1 : Int32} {pi2 : Int32} {s0 s9 : eS} (h : mX10_add h0 pi1 pi2 s0 = some s9) : EM E YX10_add [VR (some h0), VI pi1, VI pi2] s0 none s9 := by
  refine EM_of (M := MX10_add) (own := RX10) (ini := false) rfl (by decide +kernel) rfl (fun z => nomatch z) (Nat.le_of_ble_eq_true rfl) ?_
  unfold mX10_add at h
  refine EV_aload_n dX10_add_0 rfl ?_
  have hh := b1_some h; clear h; obtain ⟨x1, hx1, h⟩ := hh
  refine EV_getI (ci := 10) (k := 3) dX10_add_1 fl_X10_29 rfl hx1 ?_
  refine EV_bipush (x := (12 : Int32)) dX10_add_4 (by decide) ?_
  refine EV_icmp_lt (tgt := 10) dX10_add_6 (by decide) (fun c2 => ?_) (fun c2 => ?_)
  · rw [if_pos c2] at h
    refine EV_aload_n dX10_add_10 rfl ?_
    have hh := b1_some h; clear h; obtain ⟨x3, hx3, h⟩ := hh
    refine EV_getI (ci := 10) (k := 2) dX10_add_11 fl_X10_26 rfl hx3 ?_
    refine EV_aload_n dX10_add_14 rfl ?_
    have hh := b1_some h; clear h; obtain ⟨x4, hx4, h⟩ := hh
    refine EV_getI (ci := 10) (k := 3) dX10_add_15 fl_X10_29 rfl hx4 ?_
    refine EV_iadd dX10_add_18 ?_
    refine EV_bipush (x := (12 : Int32)) dX10_add_19 (by decide) ?_
    refine EV_irem dX10_add_21 (by decide) ?_
    refine EV_istore_n (lv2 := [(3, VI ((x3 + x4) - (x3 + x4) / (12 : Int32) * (12 : Int32))), (0, VR (some h0)), (1, VI pi1), (2, VI pi2)]) dX10_add_22 (by decide) rfl ?_
    refine EV_aload_n dX10_add_23 rfl ?_
    have hh := b1_some h; clear h; obtain ⟨r5, hr5, h⟩ := hh
    refine EV_getP (ci := 10) (k := 0) dX10_add_24 fl_X10_9 rfl hr5 ?_
    refine EV_iload_n dX10_add_27 rfl ?_
    refine EV_iload_n dX10_add_28 rfl ?_
    have hh := b1_some h; clear h; obtain ⟨a6, ha6, h⟩ := hh
    subst ha6
    have hh := b1_some h; clear h; obtain ⟨s7, hs7, h⟩ := hh
    refine EV_sI (t := 0) rfl dX10_add_29 hs7 ?_
    refine EV_aload_n dX10_add_30 rfl ?_
    have hh := b1_some h; clear h; obtain ⟨r8, hr8, h⟩ := hh
    refine EV_getP (ci := 10) (k := 1) dX10_add_31 fl_X10_15 rfl hr8 ?_
    refine EV_iload_n dX10_add_34 rfl ?_
    refine EV_iload_n dX10_add_35 rfl ?_
    have hh := b1_some h; clear h; obtain ⟨a9, ha9, h⟩ := hh
    subst ha9
    have hh := b1_some h; clear h; obtain ⟨s10, hs10, h⟩ := hh
    refine EV_sZ (t := 2) rfl dX10_add_36 hs10 ?_
    refine EV_aload_n dX10_add_37 rfl ?_
    refine EV_dup dX10_add_38 rfl ?_
    have hh := b1_some h; clear h; obtain ⟨x11, hx11, h⟩ := hh
    refine EV_getI (ci := 10) (k := 3) dX10_add_39 fl_X10_29 rfl hx11 ?_
    refine EV_iconst (x := (1 : Int32)) dX10_add_42 (by decide) ?_
    refine EV_iadd dX10_add_43 ?_
    have hh := b1_some h; clear h; obtain ⟨s12, hs12, h⟩ := hh
    refine EV_putI (ci := 10) (k := 3) dX10_add_44 fp_X10_29 rfl hs12 ?_
    refine EV_aload_n dX10_add_47 rfl ?_
    refine EV_dup dX10_add_48 rfl ?_
    have hh := b1_some h; clear h; obtain ⟨x13, hx13, h⟩ := hh
    refine EV_getI (ci := 10) (k := 4) dX10_add_49 fl_X10_19 rfl hx13 ?_
    refine EV_iconst (x := (1 : Int32)) dX10_add_52 (by decide) ?_
    refine EV_iadd dX10_add_53 ?_
    have hh := b1_some h; clear h; obtain ⟨s14, hs14, h⟩ := hh
    refine EV_putI (ci := 10) (k := 4) dX10_add_54 fp_X10_19 rfl hs14 ?_
    cases h
    exact EV_ret ⟨dX10_add_57, rfl⟩ rfl
  · rw [if_neg c2] at h
    cases h
    exact EV_ret ⟨dX10_add_9, rfl⟩ rfl
def mX10_eldestAt (h0 : Nat) (s0 : eS) : Option (Int32 × eS) :=
  (b1 (g_P s0 110 0 h0) fun r1 => (b1 (g_I s0 110 2 h0) fun x2 => (b1 r1 fun a3 => (b1 (a_I s0 0 a3 x2) fun x4 => (some (x4, s0))))))
set_option maxRecDepth 100000 in
set_option maxHeartbeats 4000000 in
theorem zX10_eldestAt (E : eE) {h0 : Nat} {s0 s9 : eS} {y : Int32} (h : mX10_eldestAt h0 s0 = some (y, s9)) : EM E YX10_eldestAt [VR (some h0)] s0 (some (VI y)) s9 := by
  refine EM_of (M := MX10_eldestAt) (own := RX10) (ini := false) rfl (by decide +kernel) rfl (fun z => nomatch z) (Nat.le_of_ble_eq_true rfl) ?_
  unfold mX10_eldestAt at h
  refine EV_aload_n dX10_eldestAt_0 rfl ?_
  have hh := b1_some h; clear h; obtain ⟨r1, hr1, h⟩ := hh
  refine EV_getP (ci := 10) (k := 0) dX10_eldestAt_1 fl_X10_9 rfl hr1 ?_
  refine EV_aload_n dX10_eldestAt_4 rfl ?_
  have hh := b1_some h; clear h; obtain ⟨x2, hx2, h⟩ := hh
  refine EV_getI (ci := 10) (k := 2) dX10_eldestAt_5 fl_X10_26 rfl hx2 ?_
  have hh := b1_some h; clear h; obtain ⟨a3, ha3, h⟩ := hh
  subst ha3
  have hh := b1_some h; clear h; obtain ⟨x4, hx4, h⟩ := hh
  refine EV_aI (t := 0) (ty := .int) rfl (by decide) dX10_eldestAt_8 hx4 ?_
  cases h
  exact EV_ret ⟨dX10_eldestAt_9, .int, rfl, rfl⟩ rfl
def mX10_newlyAcknowledged (h0 : Nat) (pi1 : Int32) (s0 : eS) : Option (Int32 × eS) :=
  (b1 (g_I s0 110 4 h0) fun x1 => (b1 (g_I s0 110 3 h0) fun x2 => (some (((pi1 - (x1 - x2)) &&& (32767 : Int32)), s0))))
set_option maxRecDepth 100000 in
set_option maxHeartbeats 4000000 in
theorem zX10_newlyAcknowledged (E : eE) {h0 : Nat} {pi1 : Int32} {s0 s9 : eS} {y : Int32} (h : mX10_newlyAcknowledged h0 pi1 s0 = some (y, s9)) : EM E YX10_newlyAcknowledged [VR (some h0), VI pi1] s0 (some (VI y)) s9 := by
  refine EM_of (M := MX10_newlyAcknowledged) (own := RX10) (ini := false) rfl (by decide +kernel) rfl (fun z => nomatch z) (Nat.le_of_ble_eq_true rfl) ?_
  unfold mX10_newlyAcknowledged at h
  refine EV_iload_n dX10_newlyAcknowledged_0 rfl ?_
  refine EV_aload_n dX10_newlyAcknowledged_1 rfl ?_
  have hh := b1_some h; clear h; obtain ⟨x1, hx1, h⟩ := hh
  refine EV_getI (ci := 10) (k := 4) dX10_newlyAcknowledged_2 fl_X10_19 rfl hx1 ?_
  refine EV_aload_n dX10_newlyAcknowledged_5 rfl ?_
  have hh := b1_some h; clear h; obtain ⟨x2, hx2, h⟩ := hh
  refine EV_getI (ci := 10) (k := 3) dX10_newlyAcknowledged_6 fl_X10_29 rfl hx2 ?_
  refine EV_isub dX10_newlyAcknowledged_9 ?_
  refine EV_isub dX10_newlyAcknowledged_10 ?_
  refine EV_sipush (x := (32767 : Int32)) dX10_newlyAcknowledged_11 (by decide) ?_
  refine EV_iand dX10_newlyAcknowledged_14 ?_
  cases h
  exact EV_ret ⟨dX10_newlyAcknowledged_15, .int, rfl, rfl⟩ rfl
def mX10_dropEldest (h0 : Nat) (s0 : eS) : Option (Int32 × eS) :=
  (b1 (g_P s0 110 1 h0) fun r1 => (b1 (g_I s0 110 2 h0) fun x2 => (b1 r1 fun a3 => (b1 (a_I s0 2 a3 x2) fun x4 => (b1 (g_I s0 110 2 h0) fun x5 => (b1 (p_I s0 110 2 h0 ((x5 + (1 : Int32)) - (x5 + (1 : Int32)) / (12 : Int32) * (12 : Int32))) fun s6 => (b1 (g_I s6 110 3 h0) fun x7 => (b1 (p_I s6 110 3 h0 (x7 - (1 : Int32))) fun s8 => (b1 (o_Z x4) fun u9 => some (x4, s8))))))))))
set_option maxRecDepth 100000 in
set_option maxHeartbeats 4000000 in
theorem zX10_dropEldest (E : eE) {h0 : Nat} {s0 s9 : eS} {y : Int32} (h : mX10_dropEldest h0 s0 = some (y, s9)) : EM E YX10_dropEldest [VR (some h0)] s0 (some (VI y)) s9 := by
  refine EM_of (M := MX10_dropEldest) (own := RX10) (ini := false) rfl (by decide +kernel) rfl (fun z => nomatch z) (Nat.le_of_ble_eq_true rfl) ?_
  unfold mX10_dropEldest at h
  refine EV_aload_n dX10_dropEldest_0 rfl ?_
  have hh := b1_some h; clear h; obtain ⟨r1, hr1, h⟩ := hh
  refine EV_getP (ci := 10) (k := 1) dX10_dropEldest_1 fl_X10_15 rfl hr1 ?_
  refine EV_aload_n dX10_dropEldest_4 rfl ?_
  have hh := b1_some h; clear h; obtain ⟨x2, hx2, h⟩ := hh
  refine EV_getI (ci := 10) (k := 2) dX10_dropEldest_5 fl_X10_26 rfl hx2 ?_
  have hh := b1_some h; clear h; obtain ⟨a3, ha3, h⟩ := hh
  subst ha3
  have hh := b1_some h; clear h; obtain ⟨x4, hx4, h⟩ := hh
  refine EV_aI (t := 2) (ty := .boolean) rfl (by decide) dX10_dropEldest_8 hx4 ?_
  refine EV_istore_n (lv2 := [(1, VI x4), (0, VR (some h0))]) dX10_dropEldest_9 (by decide) rfl ?_
  refine EV_aload_n dX10_dropEldest_10 rfl ?_
  refine EV_aload_n dX10_dropEldest_11 rfl ?_
  have hh := b1_some h; clear h; obtain ⟨x5, hx5, h⟩ := hh
  refine EV_getI (ci := 10) (k := 2) dX10_dropEldest_12 fl_X10_26 rfl hx5 ?_
  refine EV_iconst (x := (1 : Int32)) dX10_dropEldest_15 (by decide) ?_
  refine EV_iadd dX10_dropEldest_16 ?_
  refine EV_bipush (x := (12 : Int32)) dX10_dropEldest_17 (by decide) ?_
  refine EV_irem dX10_dropEldest_19 (by decide) ?_
  have hh := b1_some h; clear h; obtain ⟨s6, hs6, h⟩ := hh
  refine EV_putI (ci := 10) (k := 2) dX10_dropEldest_20 fp_X10_26 rfl hs6 ?_
  refine EV_aload_n dX10_dropEldest_23 rfl ?_
  refine EV_dup dX10_dropEldest_24 rfl ?_
  have hh := b1_some h; clear h; obtain ⟨x7, hx7, h⟩ := hh
  refine EV_getI (ci := 10) (k := 3) dX10_dropEldest_25 fl_X10_29 rfl hx7 ?_
  refine EV_iconst (x := (1 : Int32)) dX10_dropEldest_28 (by decide) ?_
  refine EV_isub dX10_dropEldest_29 ?_
  have hh := b1_some h; clear h; obtain ⟨s8, hs8, h⟩ := hh
  refine EV_putI (ci := 10) (k := 3) dX10_dropEldest_30 fp_X10_29 rfl hs8 ?_
  refine EV_iload_n dX10_dropEldest_33 rfl ?_
  have hh := b1_some h; clear h; obtain ⟨u9, hu9, h⟩ := hh
  cases h
  exact EV_ret ⟨dX10_dropEldest_34, .boolean, rfl, o_Z_n hu9⟩ rfl
