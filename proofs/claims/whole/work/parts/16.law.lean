def mL_law_588 (L : Nat) (xs : Nat → Int32) (k18 : Option Nat → Option Nat → Int32 → eS → Option (Int32 × eS)) (pr1 : Option Nat) (pr2 : Option Nat) (pi3 : Int32) (s0 : eS) : Option (Int32 × eS) :=
  (k18 pr1 pr2 (pi3 + (5 : Int32)) s0)
set_option maxRecDepth 100000 in
set_option maxHeartbeats 4000000 in
theorem zL_law_588 (E : eE) {k18 : Option Nat → Option Nat → Int32 → eS → Option (Int32 × eS)} (hk18 : ∀ {pr1 : Option Nat} {pr2 : Option Nat} {pi3 : Int32} {s0 s9 : eS} {y : Int32}, k18 pr1 pr2 pi3 s0 = some (y, s9) → EV E ML_law 18 [(0, VR (some 1000000999)), (1, VR pr1), (2, VR pr2), (3, VI pi3)] [] s0 (some (VI y)) s9) {pr1 : Option Nat} {pr2 : Option Nat} {pi3 : Int32} {s0 s9 : eS} {y : Int32} (h : mL_law_588 (e_N E) (e_xs E) k18 pr1 pr2 pi3 s0 = some (y, s9)) : EV E ML_law 588 [(0, VR (some 1000000999)), (1, VR pr1), (2, VR pr2), (3, VI pi3)] [] s0 (some (VI y)) s9 := by
  unfold mL_law_588 at h
  refine EV_iinc (y := (5 : Int32)) (lv2 := [(3, VI (pi3 + (5 : Int32))), (0, VR (some 1000000999)), (1, VR pr1), (2, VR pr2)]) dL_law_588 rfl (by decide) (by decide) rfl ?_
  refine EV_goto (tgt := 18) dL_law_591 (by decide) ?_
  exact EV_pick [1, 2, 3, 0] rfl (hk18 h)
def mL_law_198 (L : Nat) (xs : Nat → Int32) (k18 : Option Nat → Option Nat → Int32 → eS → Option (Int32 × eS)) (pr1 : Option Nat) (pr2 : Option Nat) (pi3 : Int32) (pt0 : Int32) (pt1 : Int32) (pt2 : Int32) (pt3 : Int32) (pt4 : Option Nat) (pt5 : Int32) (s0 : eS) : Option (Int32 × eS) :=
  (b1 pt4 fun a1 => (b1 (o_K s0 112 a1) fun u6 => (b2 (mX12_point a1 pt3 pt2 pt1 pt0 s0) fun x3 s2 => (if pt5 = x3 then (mL_law_588 L xs k18 pr1 pr2 pi3 s2) else (b1 (o_Z (0 : Int32)) fun u5 => some ((0 : Int32), s2))))))
set_option maxRecDepth 100000 in
set_option maxHeartbeats 4000000 in
theorem zL_law_198 (E : eE) {k18 : Option Nat → Option Nat → Int32 → eS → Option (Int32 × eS)} (hk18 : ∀ {pr1 : Option Nat} {pr2 : Option Nat} {pi3 : Int32} {s0 s9 : eS} {y : Int32}, k18 pr1 pr2 pi3 s0 = some (y, s9) → EV E ML_law 18 [(0, VR (some 1000000999)), (1, VR pr1), (2, VR pr2), (3, VI pi3)] [] s0 (some (VI y)) s9) {pr1 : Option Nat} {pr2 : Option Nat} {pi3 : Int32} {pt0 : Int32} {pt1 : Int32} {pt2 : Int32} {pt3 : Int32} {pt4 : Option Nat} {pt5 : Int32} {s0 s9 : eS} {y : Int32} (h : mL_law_198 (e_N E) (e_xs E) k18 pr1 pr2 pi3 pt0 pt1 pt2 pt3 pt4 pt5 s0 = some (y, s9)) : EV E ML_law 198 [(0, VR (some 1000000999)), (1, VR pr1), (2, VR pr2), (3, VI pi3)] [VI pt0, VI pt1, VI pt2, VI pt3, VR pt4, VI pt5] s0 (some (VI y)) s9 := by
  unfold mL_law_198 at h
  have hh := b1_some h; clear h; obtain ⟨a1, ha1, h⟩ := hh
  subst ha1
  have hh := b1_some h; clear h; obtain ⟨u6, hu6, h⟩ := hh
  have hh := b2_some h; clear h; obtain ⟨x3, s2, hs2, h⟩ := hh
  refine EV_callV (Y := YX12_point) (as := [VI pt3, VI pt2, VI pt1, VI pt0]) (st := [VI pt5]) (st2 := [VI x3, VI pt5]) (a := a1) (ci := 12) (r := rX12) (n := 4) dL_law_198 (zX12_point E hs2) rfl cwX12_point rfl tw_1111 tw_1112 tw_1113 rfl (e_if hu6).1.1 (e_if hu6).1.2 ⟨by decide, by decide⟩ (Nat.le_of_ble_eq_true rfl) rfl ?_
  refine EV_icmp_eq (tgt := 588) dL_law_201 (by decide) (fun c4 => ?_) (fun c4 => ?_)
  · rw [if_pos c4] at h
    exact EV_pick [0, 1, 2, 3] rfl (zL_law_588 E hk18 h)
  · rw [if_neg c4] at h
    refine EV_iconst (x := (0 : Int32)) dL_law_204 (by decide) ?_
    have hh := b1_some h; clear h; obtain ⟨u5, hu5, h⟩ := hh
    cases h
    exact EV_ret ⟨dL_law_205, .boolean, rfl, o_Z_n hu5⟩ rfl
def mL_law_166 (L : Nat) (xs : Nat → Int32) (k18 : Option Nat → Option Nat → Int32 → eS → Option (Int32 × eS)) (pr1 : Option Nat) (pr2 : Option Nat) (pi3 : Int32) (pt0 : Int32) (pt1 : Int32) (pt2 : Int32) (pt3 : Int32) (pt4 : Option Nat) (s0 : eS) : Option (Int32 × eS) :=
  (b1 pt4 fun a1 => (b1 (o_K s0 111 a1) fun u9 => (b2 (mX11_point a1 pt3 pt2 pt1 pt0 s0) fun x3 s2 => (b1 (sc_I L xs (pi3 + (1 : Int32))) fun x4 => (b1 (sc_I L xs (pi3 + (2 : Int32))) fun x5 => (b1 (sc_I L xs (pi3 + (3 : Int32))) fun x6 => (b1 (sc_I L xs (pi3 + (4 : Int32))) fun x7 => (if x7 = 0 then (mL_law_198 L xs k18 pr1 pr2 pi3 (0 : Int32) x6 x5 x4 pr2 x3 s2) else (mL_law_198 L xs k18 pr1 pr2 pi3 (1 : Int32) x6 x5 x4 pr2 x3 s2)))))))))
set_option maxRecDepth 100000 in
set_option maxHeartbeats 4000000 in
theorem zL_law_166 (E : eE) {k18 : Option Nat → Option Nat → Int32 → eS → Option (Int32 × eS)} (hk18 : ∀ {pr1 : Option Nat} {pr2 : Option Nat} {pi3 : Int32} {s0 s9 : eS} {y : Int32}, k18 pr1 pr2 pi3 s0 = some (y, s9) → EV E ML_law 18 [(0, VR (some 1000000999)), (1, VR pr1), (2, VR pr2), (3, VI pi3)] [] s0 (some (VI y)) s9) {pr1 : Option Nat} {pr2 : Option Nat} {pi3 : Int32} {pt0 : Int32} {pt1 : Int32} {pt2 : Int32} {pt3 : Int32} {pt4 : Option Nat} {s0 s9 : eS} {y : Int32} (h : mL_law_166 (e_N E) (e_xs E) k18 pr1 pr2 pi3 pt0 pt1 pt2 pt3 pt4 s0 = some (y, s9)) : EV E ML_law 166 [(0, VR (some 1000000999)), (1, VR pr1), (2, VR pr2), (3, VI pi3)] [VI pt0, VI pt1, VI pt2, VI pt3, VR pt4] s0 (some (VI y)) s9 := by
  unfold mL_law_166 at h
  have hh := b1_some h; clear h; obtain ⟨a1, ha1, h⟩ := hh
  subst ha1
  have hh := b1_some h; clear h; obtain ⟨u9, hu9, h⟩ := hh
  have hh := b2_some h; clear h; obtain ⟨x3, s2, hs2, h⟩ := hh
  refine EV_callV (Y := YX11_point) (as := [VI pt3, VI pt2, VI pt1, VI pt0]) (st := []) (st2 := [VI x3]) (a := a1) (ci := 11) (r := rX11) (n := 4) dL_law_166 (zX11_point E hs2) rfl cwX11_point rfl tw_389 tw_390 tw_391 rfl (e_if hu9).1.1 (e_if hu9).1.2 ⟨by decide, by decide⟩ (Nat.le_of_ble_eq_true rfl) rfl ?_
  refine EV_aload_n dL_law_169 rfl ?_
  refine EV_aload_n dL_law_170 rfl ?_
  refine EV_iload_n dL_law_171 rfl ?_
  refine EV_iconst (x := (1 : Int32)) dL_law_172 (by decide) ?_
  refine EV_iadd dL_law_173 ?_
  have hh := b1_some h; clear h; obtain ⟨x4, hx4, h⟩ := hh
  refine EV_scrI dL_law_174 hx4 ?_
  refine EV_aload_n dL_law_175 rfl ?_
  refine EV_iload_n dL_law_176 rfl ?_
  refine EV_iconst (x := (2 : Int32)) dL_law_177 (by decide) ?_
  refine EV_iadd dL_law_178 ?_
  have hh := b1_some h; clear h; obtain ⟨x5, hx5, h⟩ := hh
  refine EV_scrI dL_law_179 hx5 ?_
  refine EV_aload_n dL_law_180 rfl ?_
  refine EV_iload_n dL_law_181 rfl ?_
  refine EV_iconst (x := (3 : Int32)) dL_law_182 (by decide) ?_
  refine EV_iadd dL_law_183 ?_
  have hh := b1_some h; clear h; obtain ⟨x6, hx6, h⟩ := hh
  refine EV_scrI dL_law_184 hx6 ?_
  refine EV_aload_n dL_law_185 rfl ?_
  refine EV_iload_n dL_law_186 rfl ?_
  refine EV_iconst (x := (4 : Int32)) dL_law_187 (by decide) ?_
  refine EV_iadd dL_law_188 ?_
  have hh := b1_some h; clear h; obtain ⟨x7, hx7, h⟩ := hh
  refine EV_scrI dL_law_189 hx7 ?_
  refine EV_if_eq (tgt := 197) dL_law_190 (by decide) (fun c8 => ?_) (fun c8 => ?_)
  · rw [if_pos c8] at h
    refine EV_iconst (x := (0 : Int32)) dL_law_197 (by decide) ?_
    exact EV_pick [0, 1, 2, 3] rfl (zL_law_198 E hk18 h)
  · rw [if_neg c8] at h
    refine EV_iconst (x := (1 : Int32)) dL_law_193 (by decide) ?_
    refine EV_goto (tgt := 198) dL_law_194 (by decide) ?_
    exact EV_pick [0, 1, 2, 3] rfl (zL_law_198 E hk18 h)
def mL_law_267 (L : Nat) (xs : Nat → Int32) (k18 : Option Nat → Option Nat → Int32 → eS → Option (Int32 × eS)) (pr1 : Option Nat) (pr2 : Option Nat) (pi3 : Int32) (pt0 : Int32) (pt1 : Int32) (pt2 : Int32) (pt3 : Int32) (pt4 : Option Nat) (pt5 : Int32) (s0 : eS) : Option (Int32 × eS) :=
  (b1 pt4 fun a1 => (b1 (o_K s0 112 a1) fun u6 => (b2 (mX12_command a1 pt3 pt2 pt1 pt0 s0) fun x3 s2 => (if pt5 = x3 then (mL_law_588 L xs k18 pr1 pr2 pi3 s2) else (b1 (o_Z (0 : Int32)) fun u5 => some ((0 : Int32), s2))))))
set_option maxRecDepth 100000 in
set_option maxHeartbeats 4000000 in
theorem zL_law_267 (E : eE) {k18 : Option Nat → Option Nat → Int32 → eS → Option (Int32 × eS)} (hk18 : ∀ {pr1 : Option Nat} {pr2 : Option Nat} {pi3 : Int32} {s0 s9 : eS} {y : Int32}, k18 pr1 pr2 pi3 s0 = some (y, s9) → EV E ML_law 18 [(0, VR (some 1000000999)), (1, VR pr1), (2, VR pr2), (3, VI pi3)] [] s0 (some (VI y)) s9) {pr1 : Option Nat} {pr2 : Option Nat} {pi3 : Int32} {pt0 : Int32} {pt1 : Int32} {pt2 : Int32} {pt3 : Int32} {pt4 : Option Nat} {pt5 : Int32} {s0 s9 : eS} {y : Int32} (h : mL_law_267 (e_N E) (e_xs E) k18 pr1 pr2 pi3 pt0 pt1 pt2 pt3 pt4 pt5 s0 = some (y, s9)) : EV E ML_law 267 [(0, VR (some 1000000999)), (1, VR pr1), (2, VR pr2), (3, VI pi3)] [VI pt0, VI pt1, VI pt2, VI pt3, VR pt4, VI pt5] s0 (some (VI y)) s9 := by
  unfold mL_law_267 at h
  have hh := b1_some h; clear h; obtain ⟨a1, ha1, h⟩ := hh
  subst ha1
  have hh := b1_some h; clear h; obtain ⟨u6, hu6, h⟩ := hh
  have hh := b2_some h; clear h; obtain ⟨x3, s2, hs2, h⟩ := hh
  refine EV_callV (Y := YX12_command) (as := [VI pt3, VI pt2, VI pt1, VI pt0]) (st := [VI pt5]) (st2 := [VI x3, VI pt5]) (a := a1) (ci := 12) (r := rX12) (n := 4) dL_law_267 (zX12_command E hs2) rfl cwX12_command rfl tw_1121 tw_1122 tw_1123 rfl (e_if hu6).1.1 (e_if hu6).1.2 ⟨by decide, by decide⟩ (Nat.le_of_ble_eq_true rfl) rfl ?_
  refine EV_icmp_eq (tgt := 588) dL_law_270 (by decide) (fun c4 => ?_) (fun c4 => ?_)
  · rw [if_pos c4] at h
    exact EV_pick [0, 1, 2, 3] rfl (zL_law_588 E hk18 h)
  · rw [if_neg c4] at h
    refine EV_iconst (x := (0 : Int32)) dL_law_273 (by decide) ?_
    have hh := b1_some h; clear h; obtain ⟨u5, hu5, h⟩ := hh
    cases h
    exact EV_ret ⟨dL_law_274, .boolean, rfl, o_Z_n hu5⟩ rfl
def mL_law_235 (L : Nat) (xs : Nat → Int32) (k18 : Option Nat → Option Nat → Int32 → eS → Option (Int32 × eS)) (pr1 : Option Nat) (pr2 : Option Nat) (pi3 : Int32) (pt0 : Int32) (pt1 : Int32) (pt2 : Int32) (pt3 : Int32) (pt4 : Option Nat) (s0 : eS) : Option (Int32 × eS) :=
  (b1 pt4 fun a1 => (b1 (o_K s0 111 a1) fun u9 => (b2 (mX11_command a1 pt3 pt2 pt1 pt0 s0) fun x3 s2 => (b1 (sc_I L xs (pi3 + (1 : Int32))) fun x4 => (b1 (sc_I L xs (pi3 + (2 : Int32))) fun x5 => (b1 (sc_I L xs (pi3 + (3 : Int32))) fun x6 => (b1 (sc_I L xs (pi3 + (4 : Int32))) fun x7 => (if x7 = 0 then (mL_law_267 L xs k18 pr1 pr2 pi3 (0 : Int32) x6 x5 x4 pr2 x3 s2) else (mL_law_267 L xs k18 pr1 pr2 pi3 (1 : Int32) x6 x5 x4 pr2 x3 s2)))))))))
set_option maxRecDepth 100000 in
set_option maxHeartbeats 4000000 in
theorem zL_law_235 (E : eE) {k18 : Option Nat → Option Nat → Int32 → eS → Option (Int32 × eS)} (hk18 : ∀ {pr1 : Option Nat} {pr2 : Option Nat} {pi3 : Int32} {s0 s9 : eS} {y : Int32}, k18 pr1 pr2 pi3 s0 = some (y, s9) → EV E ML_law 18 [(0, VR (some 1000000999)), (1, VR pr1), (2, VR pr2), (3, VI pi3)] [] s0 (some (VI y)) s9) {pr1 : Option Nat} {pr2 : Option Nat} {pi3 : Int32} {pt0 : Int32} {pt1 : Int32} {pt2 : Int32} {pt3 : Int32} {pt4 : Option Nat} {s0 s9 : eS} {y : Int32} (h : mL_law_235 (e_N E) (e_xs E) k18 pr1 pr2 pi3 pt0 pt1 pt2 pt3 pt4 s0 = some (y, s9)) : EV E ML_law 235 [(0, VR (some 1000000999)), (1, VR pr1), (2, VR pr2), (3, VI pi3)] [VI pt0, VI pt1, VI pt2, VI pt3, VR pt4] s0 (some (VI y)) s9 := by
  unfold mL_law_235 at h
  have hh := b1_some h; clear h; obtain ⟨a1, ha1, h⟩ := hh
  subst ha1
  have hh := b1_some h; clear h; obtain ⟨u9, hu9, h⟩ := hh
  have hh := b2_some h; clear h; obtain ⟨x3, s2, hs2, h⟩ := hh
  refine EV_callV (Y := YX11_command) (as := [VI pt3, VI pt2, VI pt1, VI pt0]) (st := []) (st2 := [VI x3]) (a := a1) (ci := 11) (r := rX11) (n := 4) dL_law_235 (zX11_command E hs2) rfl cwX11_command rfl tw_449 tw_450 tw_451 rfl (e_if hu9).1.1 (e_if hu9).1.2 ⟨by decide, by decide⟩ (Nat.le_of_ble_eq_true rfl) rfl ?_
  refine EV_aload_n dL_law_238 rfl ?_
  refine EV_aload_n dL_law_239 rfl ?_
  refine EV_iload_n dL_law_240 rfl ?_
  refine EV_iconst (x := (1 : Int32)) dL_law_241 (by decide) ?_
  refine EV_iadd dL_law_242 ?_
  have hh := b1_some h; clear h; obtain ⟨x4, hx4, h⟩ := hh
  refine EV_scrI dL_law_243 hx4 ?_
  refine EV_aload_n dL_law_244 rfl ?_
  refine EV_iload_n dL_law_245 rfl ?_
  refine EV_iconst (x := (2 : Int32)) dL_law_246 (by decide) ?_
  refine EV_iadd dL_law_247 ?_
  have hh := b1_some h; clear h; obtain ⟨x5, hx5, h⟩ := hh
  refine EV_scrI dL_law_248 hx5 ?_
  refine EV_aload_n dL_law_249 rfl ?_
  refine EV_iload_n dL_law_250 rfl ?_
  refine EV_iconst (x := (3 : Int32)) dL_law_251 (by decide) ?_
  refine EV_iadd dL_law_252 ?_
  have hh := b1_some h; clear h; obtain ⟨x6, hx6, h⟩ := hh
  refine EV_scrI dL_law_253 hx6 ?_
  refine EV_aload_n dL_law_254 rfl ?_
  refine EV_iload_n dL_law_255 rfl ?_
  refine EV_iconst (x := (4 : Int32)) dL_law_256 (by decide) ?_
  refine EV_iadd dL_law_257 ?_
  have hh := b1_some h; clear h; obtain ⟨x7, hx7, h⟩ := hh
  refine EV_scrI dL_law_258 hx7 ?_
  refine EV_if_eq (tgt := 266) dL_law_259 (by decide) (fun c8 => ?_) (fun c8 => ?_)
  · rw [if_pos c8] at h
    refine EV_iconst (x := (0 : Int32)) dL_law_266 (by decide) ?_
    exact EV_pick [0, 1, 2, 3] rfl (zL_law_267 E hk18 h)
  · rw [if_neg c8] at h
    refine EV_iconst (x := (1 : Int32)) dL_law_262 (by decide) ?_
    refine EV_goto (tgt := 267) dL_law_263 (by decide) ?_
    exact EV_pick [0, 1, 2, 3] rfl (zL_law_267 E hk18 h)
def mL_law_18 (L : Nat) (xs : Nat → Int32) : Nat → Option Nat → Option Nat → Int32 → eS → Option (Int32 × eS)
  | 0, _, _, _, _ => none
  | n + 1, pr1, pr2, pi3, s0 =>
  (if ((Nat.toInt32 L) - (5 : Int32)) < pi3 then (b1 (o_Z (1 : Int32)) fun u2 => some ((1 : Int32), s0)) else (b1 (sc_I L xs pi3) fun x2 => (if (x2 &&& (15 : Int32)) = (0 : Int32) then (b1 (sc_I L xs (pi3 + (1 : Int32))) fun x4 => (b1 (sc_I L xs (pi3 + (2 : Int32))) fun x5 => (b1 pr1 fun a6 => (b1 (o_K s0 111 a6) fun u17 => (b2 (mX11_set a6 x4 x5 s0) fun x8 s7 => (b1 (sc_I L xs (pi3 + (1 : Int32))) fun x9 => (b1 (sc_I L xs (pi3 + (2 : Int32))) fun x10 => (b1 pr2 fun a11 => (b1 (o_K s7 112 a11) fun u16 => (b2 (mX12_set a11 x9 x10 s7) fun x13 s12 => (if x8 = x13 then (mL_law_588 L xs (mL_law_18 L xs n) (some a6) (some a11) pi3 s12) else (b1 (o_Z (0 : Int32)) fun u15 => some ((0 : Int32), s12))))))))))))) else (if (x2 &&& (15 : Int32)) = (1 : Int32) then (b1 (sc_I L xs (pi3 + (1 : Int32))) fun x19 => (b1 (sc_I L xs (pi3 + (2 : Int32))) fun x20 => (b1 (sc_I L xs (pi3 + (3 : Int32))) fun x21 => (b1 (sc_I L xs (pi3 + (4 : Int32))) fun x22 => (if x22 = 0 then (mL_law_166 L xs (mL_law_18 L xs n) pr1 pr2 pi3 (0 : Int32) x21 x20 x19 pr1 s0) else (mL_law_166 L xs (mL_law_18 L xs n) pr1 pr2 pi3 (1 : Int32) x21 x20 x19 pr1 s0)))))) else (if (x2 &&& (15 : Int32)) = (2 : Int32) then (b1 (sc_I L xs (pi3 + (1 : Int32))) fun x25 => (b1 (sc_I L xs (pi3 + (2 : Int32))) fun x26 => (b1 (sc_I L xs (pi3 + (3 : Int32))) fun x27 => (b1 (sc_I L xs (pi3 + (4 : Int32))) fun x28 => (if x28 = 0 then (mL_law_235 L xs (mL_law_18 L xs n) pr1 pr2 pi3 (0 : Int32) x27 x26 x25 pr1 s0) else (mL_law_235 L xs (mL_law_18 L xs n) pr1 pr2 pi3 (1 : Int32) x27 x26 x25 pr1 s0)))))) else (if (x2 &&& (15 : Int32)) = (3 : Int32) then (b1 (sc_I L xs (pi3 + (1 : Int32))) fun x31 => (b1 (sc_I L xs (pi3 + (2 : Int32))) fun x32 => (b1 (sc_I L xs (pi3 + (3 : Int32))) fun x33 => (b1 pr1 fun a34 => (b1 (o_K s0 111 a34) fun u46 => (b2 (mX11_change a34 x31 x32 x33 s0) fun x36 s35 => (b1 (sc_I L xs (pi3 + (1 : Int32))) fun x37 => (b1 (sc_I L xs (pi3 + (2 : Int32))) fun x38 => (b1 (sc_I L xs (pi3 + (3 : Int32))) fun x39 => (b1 pr2 fun a40 => (b1 (o_K s35 112 a40) fun u45 => (b2 (mX12_change a40 x37 x38 x39 s35) fun x42 s41 => (if x36 = x42 then (mL_law_588 L xs (mL_law_18 L xs n) (some a34) (some a40) pi3 s41) else (b1 (o_Z (0 : Int32)) fun u44 => some ((0 : Int32), s41))))))))))))))) else (if (x2 &&& (15 : Int32)) = (4 : Int32) then (b1 pr1 fun a48 => (b1 (o_K s0 111 a48) fun u57 => (b2 (mX11_open a48 s0) fun x50 s49 => (b1 pr2 fun a51 => (b1 (o_K s49 112 a51) fun u56 => (b2 (mX12_open a51 s49) fun x53 s52 => (if x50 = x53 then (mL_law_588 L xs (mL_law_18 L xs n) (some a48) (some a51) pi3 s52) else (b1 (o_Z (0 : Int32)) fun u55 => some ((0 : Int32), s52))))))))) else (if (x2 &&& (15 : Int32)) = (5 : Int32) then (b1 pr1 fun a59 => (b1 (o_K s0 111 a59) fun u68 => (b2 (mX11_close a59 s0) fun x61 s60 => (b1 pr2 fun a62 => (b1 (o_K s60 112 a62) fun u67 => (b2 (mX12_close a62 s60) fun x64 s63 => (if x61 = x64 then (mL_law_588 L xs (mL_law_18 L xs n) (some a59) (some a62) pi3 s63) else (b1 (o_Z (0 : Int32)) fun u66 => some ((0 : Int32), s63))))))))) else (if (x2 &&& (15 : Int32)) = (6 : Int32) then (b1 (sc_I L xs (pi3 + (1 : Int32))) fun x70 => (b1 (sc_I L xs (pi3 + (2 : Int32))) fun x71 => (b1 (sc_I L xs (pi3 + (3 : Int32))) fun x72 => (b1 pr1 fun a73 => (b1 (o_K s0 111 a73) fun u85 => (b2 (mX11_come a73 x70 ((((x71).toInt64) <<< ((32 : Int32).toInt64 &&& 63)) ||| (((x72).toInt64) &&& (4294967295 : Int64))) s0) fun x75 s74 => (b1 (sc_I L xs (pi3 + (1 : Int32))) fun x76 => (b1 (sc_I L xs (pi3 + (2 : Int32))) fun x77 => (b1 (sc_I L xs (pi3 + (3 : Int32))) fun x78 => (b1 pr2 fun a79 => (b1 (o_K s74 112 a79) fun u84 => (b2 (mX12_come a79 x76 ((((x77).toInt64) <<< ((32 : Int32).toInt64 &&& 63)) ||| (((x78).toInt64) &&& (4294967295 : Int64))) s74) fun x81 s80 => (if x75 = x81 then (mL_law_588 L xs (mL_law_18 L xs n) (some a73) (some a79) pi3 s80) else (b1 (o_Z (0 : Int32)) fun u83 => some ((0 : Int32), s80))))))))))))))) else (if (x2 &&& (15 : Int32)) = (7 : Int32) then (b1 (sc_I L xs (pi3 + (1 : Int32))) fun x87 => (b1 pr1 fun a88 => (b1 (o_K s0 111 a88) fun u98 => (b2 (mX11_tick a88 x87 s0) fun x90 s89 => (b1 (sc_I L xs (pi3 + (1 : Int32))) fun x91 => (b1 pr2 fun a92 => (b1 (o_K s89 112 a92) fun u97 => (b2 (mX12_tick a92 x91 s89) fun x94 s93 => (if x90 = x94 then (mL_law_588 L xs (mL_law_18 L xs n) (some a88) (some a92) pi3 s93) else (b1 (o_Z (0 : Int32)) fun u96 => some ((0 : Int32), s93))))))))))) else (if (x2 &&& (15 : Int32)) = (8 : Int32) then (b1 (sc_I L xs (pi3 + (1 : Int32))) fun x100 => (b1 pr1 fun a101 => (b1 (o_K s0 111 a101) fun u111 => (b2 (mX11_out a101 x100 s0) fun x103 s102 => (b1 (sc_I L xs (pi3 + (1 : Int32))) fun x104 => (b1 pr2 fun a105 => (b1 (o_K s102 112 a105) fun u110 => (b2 (mX12_out a105 x104 s102) fun x107 s106 => (if x103 = x107 then (mL_law_588 L xs (mL_law_18 L xs n) (some a101) (some a105) pi3 s106) else (b1 (o_Z (0 : Int32)) fun u109 => some ((0 : Int32), s106))))))))))) else (if (x2 &&& (15 : Int32)) = (9 : Int32) then (b1 (sc_I L xs (pi3 + (1 : Int32))) fun x113 => (b1 pr1 fun a114 => (b1 (o_K s0 111 a114) fun u124 => (b2 (mX11_take a114 x113 s0) fun x116 s115 => (b1 (sc_I L xs (pi3 + (1 : Int32))) fun x117 => (b1 pr2 fun a118 => (b1 (o_K s115 112 a118) fun u123 => (b2 (mX12_take a118 x117 s115) fun x120 s119 => (if x116 = x120 then (mL_law_588 L xs (mL_law_18 L xs n) (some a114) (some a118) pi3 s119) else (b1 (o_Z (0 : Int32)) fun u122 => some ((0 : Int32), s119))))))))))) else (if (x2 &&& (15 : Int32)) = (10 : Int32) then (b1 (sc_I L xs (pi3 + (1 : Int32))) fun x126 => (b1 (sc_I L xs (pi3 + (2 : Int32))) fun x127 => (b1 pr1 fun a128 => (b1 (o_K s0 111 a128) fun u139 => (b2 (mX11_told a128 x126 x127 s0) fun x130 s129 => (b1 (sc_I L xs (pi3 + (1 : Int32))) fun x131 => (b1 (sc_I L xs (pi3 + (2 : Int32))) fun x132 => (b1 pr2 fun a133 => (b1 (o_K s129 112 a133) fun u138 => (b2 (mX12_told a133 x131 x132 s129) fun x135 s134 => (if x130 = x135 then (mL_law_588 L xs (mL_law_18 L xs n) (some a128) (some a133) pi3 s134) else (b1 (o_Z (0 : Int32)) fun u137 => some ((0 : Int32), s134))))))))))))) else (if (x2 &&& (15 : Int32)) = (11 : Int32) then (b1 (sc_I L xs (pi3 + (1 : Int32))) fun x141 => (b1 (sc_I L xs (pi3 + (2 : Int32))) fun x142 => (b1 pr1 fun a143 => (b1 (o_K s0 111 a143) fun u154 => (b2 (mX11_ordered a143 x141 x142 s0) fun x145 s144 => (b1 (sc_I L xs (pi3 + (1 : Int32))) fun x146 => (b1 (sc_I L xs (pi3 + (2 : Int32))) fun x147 => (b1 pr2 fun a148 => (b1 (o_K s144 112 a148) fun u153 => (b2 (mX12_ordered a148 x146 x147 s144) fun x150 s149 => (if x145 = x150 then (mL_law_588 L xs (mL_law_18 L xs n) (some a143) (some a148) pi3 s149) else (b1 (o_Z (0 : Int32)) fun u152 => some ((0 : Int32), s149))))))))))))) else (if (x2 &&& (15 : Int32)) = (12 : Int32) then (b1 (sc_I L xs (pi3 + (1 : Int32))) fun x156 => (b1 pr1 fun a157 => (b1 (o_K s0 111 a157) fun u167 => (b2 (mX11_clock a157 x156 s0) fun x159 s158 => (b1 (sc_I L xs (pi3 + (1 : Int32))) fun x160 => (b1 pr2 fun a161 => (b1 (o_K s158 112 a161) fun u166 => (b2 (mX12_clock a161 x160 s158) fun x163 s162 => (if x159 = x163 then (mL_law_588 L xs (mL_law_18 L xs n) (some a157) (some a161) pi3 s162) else (b1 (o_Z (0 : Int32)) fun u165 => some ((0 : Int32), s162))))))))))) else (if (x2 &&& (15 : Int32)) = (13 : Int32) then (b1 (sc_I L xs (pi3 + (1 : Int32))) fun x169 => (b1 pr1 fun a170 => (b1 (o_K s0 111 a170) fun u180 => (b2 (mX11_count a170 x169 s0) fun x172 s171 => (b1 (sc_I L xs (pi3 + (1 : Int32))) fun x173 => (b1 pr2 fun a174 => (b1 (o_K s171 112 a174) fun u179 => (b2 (mX12_count a174 x173 s171) fun x176 s175 => (if x172 = x176 then (mL_law_588 L xs (mL_law_18 L xs n) (some a170) (some a174) pi3 s175) else (b1 (o_Z (0 : Int32)) fun u178 => some ((0 : Int32), s175))))))))))) else (mL_law_588 L xs (mL_law_18 L xs n) pr1 pr2 pi3 s0)))))))))))))))))
set_option maxRecDepth 100000 in
set_option maxHeartbeats 4000000 in
theorem zL_law_18 (E : eE) : ∀ (n : Nat) {pr1 : Option Nat} {pr2 : Option Nat} {pi3 : Int32} {s0 s9 : eS} {y : Int32}, mL_law_18 (e_N E) (e_xs E) n pr1 pr2 pi3 s0 = some (y, s9) → EV E ML_law 18 [(0, VR (some 1000000999)), (1, VR pr1), (2, VR pr2), (3, VI pi3)] [] s0 (some (VI y)) s9 := by
  intro n
  induction n with
  | zero =>
    intro pr1 pr2 pi3 s0 s9 y h
    unfold mL_law_18 at h
    cases h
  | succ n ih =>
    intro pr1 pr2 pi3 s0 s9 y h
    unfold mL_law_18 at h
    refine EV_iload_n dL_law_18 rfl ?_
    refine EV_aload_n dL_law_19 rfl ?_
    refine EV_scrL dL_law_20 rfl ?_
    refine EV_iconst (x := (5 : Int32)) dL_law_21 (by decide) ?_
    refine EV_isub dL_law_22 ?_
    refine EV_icmp_gt (tgt := 594) dL_law_23 (by decide) (fun c1 => ?_) (fun c1 => ?_)
    · rw [if_pos c1] at h
      refine EV_iconst (x := (1 : Int32)) dL_law_594 (by decide) ?_
      have hh := b1_some h; clear h; obtain ⟨u2, hu2, h⟩ := hh
      cases h
      exact EV_ret ⟨dL_law_595, .boolean, rfl, o_Z_n hu2⟩ rfl
    · rw [if_neg c1] at h
      refine EV_aload_n dL_law_26 rfl ?_
      refine EV_iload_n dL_law_27 rfl ?_
      have hh := b1_some h; clear h; obtain ⟨x2, hx2, h⟩ := hh
      refine EV_scrI dL_law_28 hx2 ?_
      refine EV_bipush (x := (15 : Int32)) dL_law_29 (by decide) ?_
      refine EV_iand dL_law_31 ?_
      by_cases c3 : (x2 &&& (15 : Int32)) = (0 : Int32)
      · rw [if_pos c3] at h
        refine EV_table (tgt := 104) dL_law_32 (Or.inr ⟨by rw [c3]; decide, by rw [c3]; decide, 72, by rw [c3]; decide, by decide⟩) ?_
        refine EV_aload_n dL_law_104 rfl ?_
        refine EV_aload_n dL_law_105 rfl ?_
        refine EV_iload_n dL_law_106 rfl ?_
        refine EV_iconst (x := (1 : Int32)) dL_law_107 (by decide) ?_
        refine EV_iadd dL_law_108 ?_
        have hh := b1_some h; clear h; obtain ⟨x4, hx4, h⟩ := hh
        refine EV_scrI dL_law_109 hx4 ?_
        refine EV_aload_n dL_law_110 rfl ?_
        refine EV_iload_n dL_law_111 rfl ?_
        refine EV_iconst (x := (2 : Int32)) dL_law_112 (by decide) ?_
        refine EV_iadd dL_law_113 ?_
        have hh := b1_some h; clear h; obtain ⟨x5, hx5, h⟩ := hh
        refine EV_scrI dL_law_114 hx5 ?_
        have hh := b1_some h; clear h; obtain ⟨a6, ha6, h⟩ := hh
        subst ha6
        have hh := b1_some h; clear h; obtain ⟨u17, hu17, h⟩ := hh
        have hh := b2_some h; clear h; obtain ⟨x8, s7, hs7, h⟩ := hh
        refine EV_callV (Y := YX11_set) (as := [VI x4, VI x5]) (st := []) (st2 := [VI x8]) (a := a6) (ci := 11) (r := rX11) (n := 2) dL_law_115 (zX11_set E hs7) rfl cwX11_set rfl tw_381 tw_382 tw_383 rfl (e_if hu17).1.1 (e_if hu17).1.2 ⟨by decide, by decide⟩ (Nat.le_of_ble_eq_true rfl) rfl ?_
        refine EV_aload_n dL_law_118 rfl ?_
        refine EV_aload_n dL_law_119 rfl ?_
        refine EV_iload_n dL_law_120 rfl ?_
        refine EV_iconst (x := (1 : Int32)) dL_law_121 (by decide) ?_
        refine EV_iadd dL_law_122 ?_
        have hh := b1_some h; clear h; obtain ⟨x9, hx9, h⟩ := hh
        refine EV_scrI dL_law_123 hx9 ?_
        refine EV_aload_n dL_law_124 rfl ?_
        refine EV_iload_n dL_law_125 rfl ?_
        refine EV_iconst (x := (2 : Int32)) dL_law_126 (by decide) ?_
        refine EV_iadd dL_law_127 ?_
        have hh := b1_some h; clear h; obtain ⟨x10, hx10, h⟩ := hh
        refine EV_scrI dL_law_128 hx10 ?_
        have hh := b1_some h; clear h; obtain ⟨a11, ha11, h⟩ := hh
        subst ha11
        have hh := b1_some h; clear h; obtain ⟨u16, hu16, h⟩ := hh
        have hh := b2_some h; clear h; obtain ⟨x13, s12, hs12, h⟩ := hh
        refine EV_callV (Y := YX12_set) (as := [VI x9, VI x10]) (st := [VI x8]) (st2 := [VI x13, VI x8]) (a := a11) (ci := 12) (r := rX12) (n := 2) dL_law_129 (zX12_set E hs12) rfl cwX12_set rfl tw_1099 tw_1100 tw_1101 rfl (e_if hu16).1.1 (e_if hu16).1.2 ⟨by decide, by decide⟩ (Nat.le_of_ble_eq_true rfl) rfl ?_
        refine EV_icmp_eq (tgt := 588) dL_law_132 (by decide) (fun c14 => ?_) (fun c14 => ?_)
        · rw [if_pos c14] at h
          exact EV_pick [0, 1, 2, 3] rfl (zL_law_588 E (@ih) h)
        · rw [if_neg c14] at h
          refine EV_iconst (x := (0 : Int32)) dL_law_135 (by decide) ?_
          have hh := b1_some h; clear h; obtain ⟨u15, hu15, h⟩ := hh
          cases h
          exact EV_ret ⟨dL_law_136, .boolean, rfl, o_Z_n hu15⟩ rfl
      · rw [if_neg c3] at h
        by_cases c18 : (x2 &&& (15 : Int32)) = (1 : Int32)
        · rw [if_pos c18] at h
          refine EV_table (tgt := 137) dL_law_32 (Or.inr ⟨by rw [c18]; decide, by rw [c18]; decide, 105, by rw [c18]; decide, by decide⟩) ?_
          refine EV_aload_n dL_law_137 rfl ?_
          refine EV_aload_n dL_law_138 rfl ?_
          refine EV_iload_n dL_law_139 rfl ?_
          refine EV_iconst (x := (1 : Int32)) dL_law_140 (by decide) ?_
          refine EV_iadd dL_law_141 ?_
          have hh := b1_some h; clear h; obtain ⟨x19, hx19, h⟩ := hh
          refine EV_scrI dL_law_142 hx19 ?_
          refine EV_aload_n dL_law_143 rfl ?_
          refine EV_iload_n dL_law_144 rfl ?_
          refine EV_iconst (x := (2 : Int32)) dL_law_145 (by decide) ?_
          refine EV_iadd dL_law_146 ?_
          have hh := b1_some h; clear h; obtain ⟨x20, hx20, h⟩ := hh
          refine EV_scrI dL_law_147 hx20 ?_
          refine EV_aload_n dL_law_148 rfl ?_
          refine EV_iload_n dL_law_149 rfl ?_
          refine EV_iconst (x := (3 : Int32)) dL_law_150 (by decide) ?_
          refine EV_iadd dL_law_151 ?_
          have hh := b1_some h; clear h; obtain ⟨x21, hx21, h⟩ := hh
          refine EV_scrI dL_law_152 hx21 ?_
          refine EV_aload_n dL_law_153 rfl ?_
          refine EV_iload_n dL_law_154 rfl ?_
          refine EV_iconst (x := (4 : Int32)) dL_law_155 (by decide) ?_
          refine EV_iadd dL_law_156 ?_
          have hh := b1_some h; clear h; obtain ⟨x22, hx22, h⟩ := hh
          refine EV_scrI dL_law_157 hx22 ?_
          refine EV_if_eq (tgt := 165) dL_law_158 (by decide) (fun c23 => ?_) (fun c23 => ?_)
          · rw [if_pos c23] at h
            refine EV_iconst (x := (0 : Int32)) dL_law_165 (by decide) ?_
            exact EV_pick [0, 1, 2, 3] rfl (zL_law_166 E (@ih) h)
          · rw [if_neg c23] at h
            refine EV_iconst (x := (1 : Int32)) dL_law_161 (by decide) ?_
            refine EV_goto (tgt := 166) dL_law_162 (by decide) ?_
            exact EV_pick [0, 1, 2, 3] rfl (zL_law_166 E (@ih) h)
        · rw [if_neg c18] at h
          by_cases c24 : (x2 &&& (15 : Int32)) = (2 : Int32)
          · rw [if_pos c24] at h
            refine EV_table (tgt := 206) dL_law_32 (Or.inr ⟨by rw [c24]; decide, by rw [c24]; decide, 174, by rw [c24]; decide, by decide⟩) ?_
            refine EV_aload_n dL_law_206 rfl ?_
            refine EV_aload_n dL_law_207 rfl ?_
            refine EV_iload_n dL_law_208 rfl ?_
            refine EV_iconst (x := (1 : Int32)) dL_law_209 (by decide) ?_
            refine EV_iadd dL_law_210 ?_
            have hh := b1_some h; clear h; obtain ⟨x25, hx25, h⟩ := hh
            refine EV_scrI dL_law_211 hx25 ?_
            refine EV_aload_n dL_law_212 rfl ?_
            refine EV_iload_n dL_law_213 rfl ?_
            refine EV_iconst (x := (2 : Int32)) dL_law_214 (by decide) ?_
            refine EV_iadd dL_law_215 ?_
            have hh := b1_some h; clear h; obtain ⟨x26, hx26, h⟩ := hh
            refine EV_scrI dL_law_216 hx26 ?_
            refine EV_aload_n dL_law_217 rfl ?_
            refine EV_iload_n dL_law_218 rfl ?_
            refine EV_iconst (x := (3 : Int32)) dL_law_219 (by decide) ?_
            refine EV_iadd dL_law_220 ?_
            have hh := b1_some h; clear h; obtain ⟨x27, hx27, h⟩ := hh
            refine EV_scrI dL_law_221 hx27 ?_
            refine EV_aload_n dL_law_222 rfl ?_
            refine EV_iload_n dL_law_223 rfl ?_
            refine EV_iconst (x := (4 : Int32)) dL_law_224 (by decide) ?_
            refine EV_iadd dL_law_225 ?_
            have hh := b1_some h; clear h; obtain ⟨x28, hx28, h⟩ := hh
            refine EV_scrI dL_law_226 hx28 ?_
            refine EV_if_eq (tgt := 234) dL_law_227 (by decide) (fun c29 => ?_) (fun c29 => ?_)
            · rw [if_pos c29] at h
              refine EV_iconst (x := (0 : Int32)) dL_law_234 (by decide) ?_
              exact EV_pick [0, 1, 2, 3] rfl (zL_law_235 E (@ih) h)
            · rw [if_neg c29] at h
              refine EV_iconst (x := (1 : Int32)) dL_law_230 (by decide) ?_
              refine EV_goto (tgt := 235) dL_law_231 (by decide) ?_
              exact EV_pick [0, 1, 2, 3] rfl (zL_law_235 E (@ih) h)
          · rw [if_neg c24] at h
            by_cases c30 : (x2 &&& (15 : Int32)) = (3 : Int32)
            · rw [if_pos c30] at h
              refine EV_table (tgt := 275) dL_law_32 (Or.inr ⟨by rw [c30]; decide, by rw [c30]; decide, 243, by rw [c30]; decide, by decide⟩) ?_
              refine EV_aload_n dL_law_275 rfl ?_
              refine EV_aload_n dL_law_276 rfl ?_
              refine EV_iload_n dL_law_277 rfl ?_
              refine EV_iconst (x := (1 : Int32)) dL_law_278 (by decide) ?_
              refine EV_iadd dL_law_279 ?_
              have hh := b1_some h; clear h; obtain ⟨x31, hx31, h⟩ := hh
              refine EV_scrI dL_law_280 hx31 ?_
              refine EV_aload_n dL_law_281 rfl ?_
              refine EV_iload_n dL_law_282 rfl ?_
              refine EV_iconst (x := (2 : Int32)) dL_law_283 (by decide) ?_
              refine EV_iadd dL_law_284 ?_
              have hh := b1_some h; clear h; obtain ⟨x32, hx32, h⟩ := hh
              refine EV_scrI dL_law_285 hx32 ?_
              refine EV_aload_n dL_law_286 rfl ?_
              refine EV_iload_n dL_law_287 rfl ?_
              refine EV_iconst (x := (3 : Int32)) dL_law_288 (by decide) ?_
              refine EV_iadd dL_law_289 ?_
              have hh := b1_some h; clear h; obtain ⟨x33, hx33, h⟩ := hh
              refine EV_scrI dL_law_290 hx33 ?_
              have hh := b1_some h; clear h; obtain ⟨a34, ha34, h⟩ := hh
              subst ha34
              have hh := b1_some h; clear h; obtain ⟨u46, hu46, h⟩ := hh
              have hh := b2_some h; clear h; obtain ⟨x36, s35, hs35, h⟩ := hh
              refine EV_callV (Y := YX11_change) (as := [VI x31, VI x32, VI x33]) (st := []) (st2 := [VI x36]) (a := a34) (ci := 11) (r := rX11) (n := 3) dL_law_291 (zX11_change E hs35) rfl cwX11_change rfl tw_484 tw_485 tw_486 rfl (e_if hu46).1.1 (e_if hu46).1.2 ⟨by decide, by decide⟩ (Nat.le_of_ble_eq_true rfl) rfl ?_
              refine EV_aload_n dL_law_294 rfl ?_
              refine EV_aload_n dL_law_295 rfl ?_
              refine EV_iload_n dL_law_296 rfl ?_
              refine EV_iconst (x := (1 : Int32)) dL_law_297 (by decide) ?_
              refine EV_iadd dL_law_298 ?_
              have hh := b1_some h; clear h; obtain ⟨x37, hx37, h⟩ := hh
              refine EV_scrI dL_law_299 hx37 ?_
              refine EV_aload_n dL_law_300 rfl ?_
              refine EV_iload_n dL_law_301 rfl ?_
              refine EV_iconst (x := (2 : Int32)) dL_law_302 (by decide) ?_
              refine EV_iadd dL_law_303 ?_
              have hh := b1_some h; clear h; obtain ⟨x38, hx38, h⟩ := hh
              refine EV_scrI dL_law_304 hx38 ?_
              refine EV_aload_n dL_law_305 rfl ?_
              refine EV_iload_n dL_law_306 rfl ?_
              refine EV_iconst (x := (3 : Int32)) dL_law_307 (by decide) ?_
              refine EV_iadd dL_law_308 ?_
              have hh := b1_some h; clear h; obtain ⟨x39, hx39, h⟩ := hh
              refine EV_scrI dL_law_309 hx39 ?_
              have hh := b1_some h; clear h; obtain ⟨a40, ha40, h⟩ := hh
              subst ha40
              have hh := b1_some h; clear h; obtain ⟨u45, hu45, h⟩ := hh
              have hh := b2_some h; clear h; obtain ⟨x42, s41, hs41, h⟩ := hh
              refine EV_callV (Y := YX12_change) (as := [VI x37, VI x38, VI x39]) (st := [VI x36]) (st2 := [VI x42, VI x36]) (a := a40) (ci := 12) (r := rX12) (n := 3) dL_law_310 (zX12_change E hs41) rfl cwX12_change rfl tw_1130 tw_1131 tw_1132 rfl (e_if hu45).1.1 (e_if hu45).1.2 ⟨by decide, by decide⟩ (Nat.le_of_ble_eq_true rfl) rfl ?_
              refine EV_icmp_eq (tgt := 588) dL_law_313 (by decide) (fun c43 => ?_) (fun c43 => ?_)
              · rw [if_pos c43] at h
                exact EV_pick [0, 1, 2, 3] rfl (zL_law_588 E (@ih) h)
              · rw [if_neg c43] at h
                refine EV_iconst (x := (0 : Int32)) dL_law_316 (by decide) ?_
                have hh := b1_some h; clear h; obtain ⟨u44, hu44, h⟩ := hh
                cases h
                exact EV_ret ⟨dL_law_317, .boolean, rfl, o_Z_n hu44⟩ rfl
            · rw [if_neg c30] at h
              by_cases c47 : (x2 &&& (15 : Int32)) = (4 : Int32)
              · rw [if_pos c47] at h
                refine EV_table (tgt := 318) dL_law_32 (Or.inr ⟨by rw [c47]; decide, by rw [c47]; decide, 286, by rw [c47]; decide, by decide⟩) ?_
                refine EV_aload_n dL_law_318 rfl ?_
                have hh := b1_some h; clear h; obtain ⟨a48, ha48, h⟩ := hh
                subst ha48
                have hh := b1_some h; clear h; obtain ⟨u57, hu57, h⟩ := hh
                have hh := b2_some h; clear h; obtain ⟨x50, s49, hs49, h⟩ := hh
                refine EV_callV (Y := YX11_open) (as := []) (st := []) (st2 := [VI x50]) (a := a48) (ci := 11) (r := rX11) (n := 0) dL_law_319 (zX11_open E hs49) rfl cwX11_open rfl tw_607 tw_608 tw_609 rfl (e_if hu57).1.1 (e_if hu57).1.2 ⟨by decide, by decide⟩ (Nat.le_of_ble_eq_true rfl) rfl ?_
                refine EV_aload_n dL_law_322 rfl ?_
                have hh := b1_some h; clear h; obtain ⟨a51, ha51, h⟩ := hh
                subst ha51
                have hh := b1_some h; clear h; obtain ⟨u56, hu56, h⟩ := hh
                have hh := b2_some h; clear h; obtain ⟨x53, s52, hs52, h⟩ := hh
                refine EV_callV (Y := YX12_open) (as := []) (st := [VI x50]) (st2 := [VI x53, VI x50]) (a := a51) (ci := 12) (r := rX12) (n := 0) dL_law_323 (zX12_open E hs52) rfl cwX12_open rfl tw_1210 tw_1211 tw_1212 rfl (e_if hu56).1.1 (e_if hu56).1.2 ⟨by decide, by decide⟩ (Nat.le_of_ble_eq_true rfl) rfl ?_
                refine EV_icmp_eq (tgt := 588) dL_law_326 (by decide) (fun c54 => ?_) (fun c54 => ?_)
                · rw [if_pos c54] at h
                  exact EV_pick [0, 1, 2, 3] rfl (zL_law_588 E (@ih) h)
                · rw [if_neg c54] at h
                  refine EV_iconst (x := (0 : Int32)) dL_law_329 (by decide) ?_
                  have hh := b1_some h; clear h; obtain ⟨u55, hu55, h⟩ := hh
                  cases h
                  exact EV_ret ⟨dL_law_330, .boolean, rfl, o_Z_n hu55⟩ rfl
              · rw [if_neg c47] at h
                by_cases c58 : (x2 &&& (15 : Int32)) = (5 : Int32)
                · rw [if_pos c58] at h
                  refine EV_table (tgt := 331) dL_law_32 (Or.inr ⟨by rw [c58]; decide, by rw [c58]; decide, 299, by rw [c58]; decide, by decide⟩) ?_
                  refine EV_aload_n dL_law_331 rfl ?_
                  have hh := b1_some h; clear h; obtain ⟨a59, ha59, h⟩ := hh
                  subst ha59
                  have hh := b1_some h; clear h; obtain ⟨u68, hu68, h⟩ := hh
                  have hh := b2_some h; clear h; obtain ⟨x61, s60, hs60, h⟩ := hh
                  refine EV_callV (Y := YX11_close) (as := []) (st := []) (st2 := [VI x61]) (a := a59) (ci := 11) (r := rX11) (n := 0) dL_law_332 (zX11_close E hs60) rfl cwX11_close rfl tw_625 tw_626 tw_627 rfl (e_if hu68).1.1 (e_if hu68).1.2 ⟨by decide, by decide⟩ (Nat.le_of_ble_eq_true rfl) rfl ?_
                  refine EV_aload_n dL_law_335 rfl ?_
                  have hh := b1_some h; clear h; obtain ⟨a62, ha62, h⟩ := hh
                  subst ha62
                  have hh := b1_some h; clear h; obtain ⟨u67, hu67, h⟩ := hh
                  have hh := b2_some h; clear h; obtain ⟨x64, s63, hs63, h⟩ := hh
                  refine EV_callV (Y := YX12_close) (as := []) (st := [VI x61]) (st2 := [VI x64, VI x61]) (a := a62) (ci := 12) (r := rX12) (n := 0) dL_law_336 (zX12_close E hs63) rfl cwX12_close rfl tw_1214 tw_1215 tw_1216 rfl (e_if hu67).1.1 (e_if hu67).1.2 ⟨by decide, by decide⟩ (Nat.le_of_ble_eq_true rfl) rfl ?_
                  refine EV_icmp_eq (tgt := 588) dL_law_339 (by decide) (fun c65 => ?_) (fun c65 => ?_)
                  · rw [if_pos c65] at h
                    exact EV_pick [0, 1, 2, 3] rfl (zL_law_588 E (@ih) h)
                  · rw [if_neg c65] at h
                    refine EV_iconst (x := (0 : Int32)) dL_law_342 (by decide) ?_
                    have hh := b1_some h; clear h; obtain ⟨u66, hu66, h⟩ := hh
                    cases h
                    exact EV_ret ⟨dL_law_343, .boolean, rfl, o_Z_n hu66⟩ rfl
                · rw [if_neg c58] at h
                  by_cases c69 : (x2 &&& (15 : Int32)) = (6 : Int32)
                  · rw [if_pos c69] at h
                    refine EV_table (tgt := 344) dL_law_32 (Or.inr ⟨by rw [c69]; decide, by rw [c69]; decide, 312, by rw [c69]; decide, by decide⟩) ?_
                    refine EV_aload_n dL_law_344 rfl ?_
                    refine EV_aload_n dL_law_345 rfl ?_
                    refine EV_iload_n dL_law_346 rfl ?_
                    refine EV_iconst (x := (1 : Int32)) dL_law_347 (by decide) ?_
                    refine EV_iadd dL_law_348 ?_
                    have hh := b1_some h; clear h; obtain ⟨x70, hx70, h⟩ := hh
                    refine EV_scrI dL_law_349 hx70 ?_
                    refine EV_aload_n dL_law_350 rfl ?_
                    refine EV_iload_n dL_law_351 rfl ?_
                    refine EV_iconst (x := (2 : Int32)) dL_law_352 (by decide) ?_
                    refine EV_iadd dL_law_353 ?_
                    have hh := b1_some h; clear h; obtain ⟨x71, hx71, h⟩ := hh
                    refine EV_scrI dL_law_354 hx71 ?_
                    refine EV_i2l dL_law_355 ?_
                    refine EV_bipush (x := (32 : Int32)) dL_law_356 (by decide) ?_
                    refine EV_lshl dL_law_358 ?_
                    refine EV_aload_n dL_law_359 rfl ?_
                    refine EV_iload_n dL_law_360 rfl ?_
                    refine EV_iconst (x := (3 : Int32)) dL_law_361 (by decide) ?_
                    refine EV_iadd dL_law_362 ?_
                    have hh := b1_some h; clear h; obtain ⟨x72, hx72, h⟩ := hh
                    refine EV_scrI dL_law_363 hx72 ?_
                    refine EV_i2l dL_law_364 ?_
                    refine EV_ldc2 (x := (4294967295 : Int64)) dL_law_365 tw_1359 ?_
                    refine EV_land dL_law_368 ?_
                    refine EV_lor dL_law_369 ?_
                    have hh := b1_some h; clear h; obtain ⟨a73, ha73, h⟩ := hh
                    subst ha73
                    have hh := b1_some h; clear h; obtain ⟨u85, hu85, h⟩ := hh
                    have hh := b2_some h; clear h; obtain ⟨x75, s74, hs74, h⟩ := hh
                    refine EV_callV (Y := YX11_come) (as := [VI x70, VL ((((x71).toInt64) <<< ((32 : Int32).toInt64 &&& 63)) ||| (((x72).toInt64) &&& (4294967295 : Int64)))]) (st := []) (st2 := [VI x75]) (a := a73) (ci := 11) (r := rX11) (n := 2) dL_law_370 (zX11_come E hs74) rfl cwX11_come rfl tw_629 tw_630 tw_631 rfl (e_if hu85).1.1 (e_if hu85).1.2 ⟨by decide, by decide⟩ (Nat.le_of_ble_eq_true rfl) rfl ?_
                    refine EV_aload_n dL_law_373 rfl ?_
                    refine EV_aload_n dL_law_374 rfl ?_
                    refine EV_iload_n dL_law_375 rfl ?_
                    refine EV_iconst (x := (1 : Int32)) dL_law_376 (by decide) ?_
                    refine EV_iadd dL_law_377 ?_
                    have hh := b1_some h; clear h; obtain ⟨x76, hx76, h⟩ := hh
                    refine EV_scrI dL_law_378 hx76 ?_
                    refine EV_aload_n dL_law_379 rfl ?_
                    refine EV_iload_n dL_law_380 rfl ?_
                    refine EV_iconst (x := (2 : Int32)) dL_law_381 (by decide) ?_
                    refine EV_iadd dL_law_382 ?_
                    have hh := b1_some h; clear h; obtain ⟨x77, hx77, h⟩ := hh
                    refine EV_scrI dL_law_383 hx77 ?_
                    refine EV_i2l dL_law_384 ?_
                    refine EV_bipush (x := (32 : Int32)) dL_law_385 (by decide) ?_
                    refine EV_lshl dL_law_387 ?_
                    refine EV_aload_n dL_law_388 rfl ?_
                    refine EV_iload_n dL_law_389 rfl ?_
                    refine EV_iconst (x := (3 : Int32)) dL_law_390 (by decide) ?_
                    refine EV_iadd dL_law_391 ?_
                    have hh := b1_some h; clear h; obtain ⟨x78, hx78, h⟩ := hh
                    refine EV_scrI dL_law_392 hx78 ?_
                    refine EV_i2l dL_law_393 ?_
                    refine EV_ldc2 (x := (4294967295 : Int64)) dL_law_394 tw_1359 ?_
                    refine EV_land dL_law_397 ?_
                    refine EV_lor dL_law_398 ?_
                    have hh := b1_some h; clear h; obtain ⟨a79, ha79, h⟩ := hh
                    subst ha79
                    have hh := b1_some h; clear h; obtain ⟨u84, hu84, h⟩ := hh
                    have hh := b2_some h; clear h; obtain ⟨x81, s80, hs80, h⟩ := hh
                    refine EV_callV (Y := YX12_come) (as := [VI x76, VL ((((x77).toInt64) <<< ((32 : Int32).toInt64 &&& 63)) ||| (((x78).toInt64) &&& (4294967295 : Int64)))]) (st := [VI x75]) (st2 := [VI x81, VI x75]) (a := a79) (ci := 12) (r := rX12) (n := 2) dL_law_399 (zX12_come E hs80) rfl cwX12_come rfl tw_1218 tw_1219 tw_1220 rfl (e_if hu84).1.1 (e_if hu84).1.2 ⟨by decide, by decide⟩ (Nat.le_of_ble_eq_true rfl) rfl ?_
                    refine EV_icmp_eq (tgt := 588) dL_law_402 (by decide) (fun c82 => ?_) (fun c82 => ?_)
                    · rw [if_pos c82] at h
                      exact EV_pick [0, 1, 2, 3] rfl (zL_law_588 E (@ih) h)
                    · rw [if_neg c82] at h
                      refine EV_iconst (x := (0 : Int32)) dL_law_405 (by decide) ?_
                      have hh := b1_some h; clear h; obtain ⟨u83, hu83, h⟩ := hh
                      cases h
                      exact EV_ret ⟨dL_law_406, .boolean, rfl, o_Z_n hu83⟩ rfl
                  · rw [if_neg c69] at h
                    by_cases c86 : (x2 &&& (15 : Int32)) = (7 : Int32)
                    · rw [if_pos c86] at h
                      refine EV_table (tgt := 407) dL_law_32 (Or.inr ⟨by rw [c86]; decide, by rw [c86]; decide, 375, by rw [c86]; decide, by decide⟩) ?_
                      refine EV_aload_n dL_law_407 rfl ?_
                      refine EV_aload_n dL_law_408 rfl ?_
                      refine EV_iload_n dL_law_409 rfl ?_
                      refine EV_iconst (x := (1 : Int32)) dL_law_410 (by decide) ?_
                      refine EV_iadd dL_law_411 ?_
                      have hh := b1_some h; clear h; obtain ⟨x87, hx87, h⟩ := hh
                      refine EV_scrI dL_law_412 hx87 ?_
                      have hh := b1_some h; clear h; obtain ⟨a88, ha88, h⟩ := hh
                      subst ha88
                      have hh := b1_some h; clear h; obtain ⟨u98, hu98, h⟩ := hh
                      have hh := b2_some h; clear h; obtain ⟨x90, s89, hs89, h⟩ := hh
                      refine EV_callV (Y := YX11_tick) (as := [VI x87]) (st := []) (st2 := [VI x90]) (a := a88) (ci := 11) (r := rX11) (n := 1) dL_law_413 (zX11_tick E hs89) rfl cwX11_tick rfl tw_866 tw_867 tw_868 rfl (e_if hu98).1.1 (e_if hu98).1.2 ⟨by decide, by decide⟩ (Nat.le_of_ble_eq_true rfl) rfl ?_
                      refine EV_aload_n dL_law_416 rfl ?_
                      refine EV_aload_n dL_law_417 rfl ?_
                      refine EV_iload_n dL_law_418 rfl ?_
                      refine EV_iconst (x := (1 : Int32)) dL_law_419 (by decide) ?_
                      refine EV_iadd dL_law_420 ?_
                      have hh := b1_some h; clear h; obtain ⟨x91, hx91, h⟩ := hh
                      refine EV_scrI dL_law_421 hx91 ?_
                      have hh := b1_some h; clear h; obtain ⟨a92, ha92, h⟩ := hh
                      subst ha92
                      have hh := b1_some h; clear h; obtain ⟨u97, hu97, h⟩ := hh
                      have hh := b2_some h; clear h; obtain ⟨x94, s93, hs93, h⟩ := hh
                      refine EV_callV (Y := YX12_tick) (as := [VI x91]) (st := [VI x90]) (st2 := [VI x94, VI x90]) (a := a92) (ci := 12) (r := rX12) (n := 1) dL_law_422 (zX12_tick E hs93) rfl cwX12_tick rfl tw_1322 tw_1323 tw_1324 rfl (e_if hu97).1.1 (e_if hu97).1.2 ⟨by decide, by decide⟩ (Nat.le_of_ble_eq_true rfl) rfl ?_
                      refine EV_icmp_eq (tgt := 588) dL_law_425 (by decide) (fun c95 => ?_) (fun c95 => ?_)
                      · rw [if_pos c95] at h
                        exact EV_pick [0, 1, 2, 3] rfl (zL_law_588 E (@ih) h)
                      · rw [if_neg c95] at h
                        refine EV_iconst (x := (0 : Int32)) dL_law_428 (by decide) ?_
                        have hh := b1_some h; clear h; obtain ⟨u96, hu96, h⟩ := hh
                        cases h
                        exact EV_ret ⟨dL_law_429, .boolean, rfl, o_Z_n hu96⟩ rfl
                    · rw [if_neg c86] at h
                      by_cases c99 : (x2 &&& (15 : Int32)) = (8 : Int32)
                      · rw [if_pos c99] at h
                        refine EV_table (tgt := 430) dL_law_32 (Or.inr ⟨by rw [c99]; decide, by rw [c99]; decide, 398, by rw [c99]; decide, by decide⟩) ?_
                        refine EV_aload_n dL_law_430 rfl ?_
                        refine EV_aload_n dL_law_431 rfl ?_
                        refine EV_iload_n dL_law_432 rfl ?_
                        refine EV_iconst (x := (1 : Int32)) dL_law_433 (by decide) ?_
                        refine EV_iadd dL_law_434 ?_
                        have hh := b1_some h; clear h; obtain ⟨x100, hx100, h⟩ := hh
                        refine EV_scrI dL_law_435 hx100 ?_
                        have hh := b1_some h; clear h; obtain ⟨a101, ha101, h⟩ := hh
                        subst ha101
                        have hh := b1_some h; clear h; obtain ⟨u111, hu111, h⟩ := hh
                        have hh := b2_some h; clear h; obtain ⟨x103, s102, hs102, h⟩ := hh
                        refine EV_callV (Y := YX11_out) (as := [VI x100]) (st := []) (st2 := [VI x103]) (a := a101) (ci := 11) (r := rX11) (n := 1) dL_law_436 (zX11_out E hs102) rfl cwX11_out rfl tw_895 tw_896 tw_897 rfl (e_if hu111).1.1 (e_if hu111).1.2 ⟨by decide, by decide⟩ (Nat.le_of_ble_eq_true rfl) rfl ?_
                        refine EV_aload_n dL_law_439 rfl ?_
                        refine EV_aload_n dL_law_440 rfl ?_
                        refine EV_iload_n dL_law_441 rfl ?_
                        refine EV_iconst (x := (1 : Int32)) dL_law_442 (by decide) ?_
                        refine EV_iadd dL_law_443 ?_
                        have hh := b1_some h; clear h; obtain ⟨x104, hx104, h⟩ := hh
                        refine EV_scrI dL_law_444 hx104 ?_
                        have hh := b1_some h; clear h; obtain ⟨a105, ha105, h⟩ := hh
                        subst ha105
                        have hh := b1_some h; clear h; obtain ⟨u110, hu110, h⟩ := hh
                        have hh := b2_some h; clear h; obtain ⟨x107, s106, hs106, h⟩ := hh
                        refine EV_callV (Y := YX12_out) (as := [VI x104]) (st := [VI x103]) (st2 := [VI x107, VI x103]) (a := a105) (ci := 12) (r := rX12) (n := 1) dL_law_445 (zX12_out E hs106) rfl cwX12_out rfl tw_1334 tw_1335 tw_1336 rfl (e_if hu110).1.1 (e_if hu110).1.2 ⟨by decide, by decide⟩ (Nat.le_of_ble_eq_true rfl) rfl ?_
                        refine EV_icmp_eq (tgt := 588) dL_law_448 (by decide) (fun c108 => ?_) (fun c108 => ?_)
                        · rw [if_pos c108] at h
                          exact EV_pick [0, 1, 2, 3] rfl (zL_law_588 E (@ih) h)
                        · rw [if_neg c108] at h
                          refine EV_iconst (x := (0 : Int32)) dL_law_451 (by decide) ?_
                          have hh := b1_some h; clear h; obtain ⟨u109, hu109, h⟩ := hh
                          cases h
                          exact EV_ret ⟨dL_law_452, .boolean, rfl, o_Z_n hu109⟩ rfl
                      · rw [if_neg c99] at h
                        by_cases c112 : (x2 &&& (15 : Int32)) = (9 : Int32)
                        · rw [if_pos c112] at h
                          refine EV_table (tgt := 453) dL_law_32 (Or.inr ⟨by rw [c112]; decide, by rw [c112]; decide, 421, by rw [c112]; decide, by decide⟩) ?_
                          refine EV_aload_n dL_law_453 rfl ?_
                          refine EV_aload_n dL_law_454 rfl ?_
                          refine EV_iload_n dL_law_455 rfl ?_
                          refine EV_iconst (x := (1 : Int32)) dL_law_456 (by decide) ?_
                          refine EV_iadd dL_law_457 ?_
                          have hh := b1_some h; clear h; obtain ⟨x113, hx113, h⟩ := hh
                          refine EV_scrI dL_law_458 hx113 ?_
                          have hh := b1_some h; clear h; obtain ⟨a114, ha114, h⟩ := hh
                          subst ha114
                          have hh := b1_some h; clear h; obtain ⟨u124, hu124, h⟩ := hh
                          have hh := b2_some h; clear h; obtain ⟨x116, s115, hs115, h⟩ := hh
                          refine EV_callV (Y := YX11_take) (as := [VI x113]) (st := []) (st2 := [VI x116]) (a := a114) (ci := 11) (r := rX11) (n := 1) dL_law_459 (zX11_take E hs115) rfl cwX11_take rfl tw_903 tw_904 tw_905 rfl (e_if hu124).1.1 (e_if hu124).1.2 ⟨by decide, by decide⟩ (Nat.le_of_ble_eq_true rfl) rfl ?_
                          refine EV_aload_n dL_law_462 rfl ?_
                          refine EV_aload_n dL_law_463 rfl ?_
                          refine EV_iload_n dL_law_464 rfl ?_
                          refine EV_iconst (x := (1 : Int32)) dL_law_465 (by decide) ?_
                          refine EV_iadd dL_law_466 ?_
                          have hh := b1_some h; clear h; obtain ⟨x117, hx117, h⟩ := hh
                          refine EV_scrI dL_law_467 hx117 ?_
                          have hh := b1_some h; clear h; obtain ⟨a118, ha118, h⟩ := hh
                          subst ha118
                          have hh := b1_some h; clear h; obtain ⟨u123, hu123, h⟩ := hh
                          have hh := b2_some h; clear h; obtain ⟨x120, s119, hs119, h⟩ := hh
                          refine EV_callV (Y := YX12_take) (as := [VI x117]) (st := [VI x116]) (st2 := [VI x120, VI x116]) (a := a118) (ci := 12) (r := rX12) (n := 1) dL_law_468 (zX12_take E hs119) rfl cwX12_take rfl tw_1338 tw_1339 tw_1340 rfl (e_if hu123).1.1 (e_if hu123).1.2 ⟨by decide, by decide⟩ (Nat.le_of_ble_eq_true rfl) rfl ?_
                          refine EV_icmp_eq (tgt := 588) dL_law_471 (by decide) (fun c121 => ?_) (fun c121 => ?_)
                          · rw [if_pos c121] at h
                            exact EV_pick [0, 1, 2, 3] rfl (zL_law_588 E (@ih) h)
                          · rw [if_neg c121] at h
                            refine EV_iconst (x := (0 : Int32)) dL_law_474 (by decide) ?_
                            have hh := b1_some h; clear h; obtain ⟨u122, hu122, h⟩ := hh
                            cases h
                            exact EV_ret ⟨dL_law_475, .boolean, rfl, o_Z_n hu122⟩ rfl
                        · rw [if_neg c112] at h
                          by_cases c125 : (x2 &&& (15 : Int32)) = (10 : Int32)
                          · rw [if_pos c125] at h
                            refine EV_table (tgt := 476) dL_law_32 (Or.inr ⟨by rw [c125]; decide, by rw [c125]; decide, 444, by rw [c125]; decide, by decide⟩) ?_
                            refine EV_aload_n dL_law_476 rfl ?_
                            refine EV_aload_n dL_law_477 rfl ?_
                            refine EV_iload_n dL_law_478 rfl ?_
                            refine EV_iconst (x := (1 : Int32)) dL_law_479 (by decide) ?_
                            refine EV_iadd dL_law_480 ?_
                            have hh := b1_some h; clear h; obtain ⟨x126, hx126, h⟩ := hh
                            refine EV_scrI dL_law_481 hx126 ?_
                            refine EV_aload_n dL_law_482 rfl ?_
                            refine EV_iload_n dL_law_483 rfl ?_
                            refine EV_iconst (x := (2 : Int32)) dL_law_484 (by decide) ?_
                            refine EV_iadd dL_law_485 ?_
                            have hh := b1_some h; clear h; obtain ⟨x127, hx127, h⟩ := hh
                            refine EV_scrI dL_law_486 hx127 ?_
                            have hh := b1_some h; clear h; obtain ⟨a128, ha128, h⟩ := hh
                            subst ha128
                            have hh := b1_some h; clear h; obtain ⟨u139, hu139, h⟩ := hh
                            have hh := b2_some h; clear h; obtain ⟨x130, s129, hs129, h⟩ := hh
                            refine EV_callV (Y := YX11_told) (as := [VI x126, VI x127]) (st := []) (st2 := [VI x130]) (a := a128) (ci := 11) (r := rX11) (n := 2) dL_law_487 (zX11_told E hs129) rfl cwX11_told rfl tw_911 tw_912 tw_913 rfl (e_if hu139).1.1 (e_if hu139).1.2 ⟨by decide, by decide⟩ (Nat.le_of_ble_eq_true rfl) rfl ?_
                            refine EV_aload_n dL_law_490 rfl ?_
                            refine EV_aload_n dL_law_491 rfl ?_
                            refine EV_iload_n dL_law_492 rfl ?_
                            refine EV_iconst (x := (1 : Int32)) dL_law_493 (by decide) ?_
                            refine EV_iadd dL_law_494 ?_
                            have hh := b1_some h; clear h; obtain ⟨x131, hx131, h⟩ := hh
                            refine EV_scrI dL_law_495 hx131 ?_
                            refine EV_aload_n dL_law_496 rfl ?_
                            refine EV_iload_n dL_law_497 rfl ?_
                            refine EV_iconst (x := (2 : Int32)) dL_law_498 (by decide) ?_
                            refine EV_iadd dL_law_499 ?_
                            have hh := b1_some h; clear h; obtain ⟨x132, hx132, h⟩ := hh
                            refine EV_scrI dL_law_500 hx132 ?_
                            have hh := b1_some h; clear h; obtain ⟨a133, ha133, h⟩ := hh
                            subst ha133
                            have hh := b1_some h; clear h; obtain ⟨u138, hu138, h⟩ := hh
                            have hh := b2_some h; clear h; obtain ⟨x135, s134, hs134, h⟩ := hh
                            refine EV_callV (Y := YX12_told) (as := [VI x131, VI x132]) (st := [VI x130]) (st2 := [VI x135, VI x130]) (a := a133) (ci := 12) (r := rX12) (n := 2) dL_law_501 (zX12_told E hs134) rfl cwX12_told rfl tw_1342 tw_1343 tw_1344 rfl (e_if hu138).1.1 (e_if hu138).1.2 ⟨by decide, by decide⟩ (Nat.le_of_ble_eq_true rfl) rfl ?_
                            refine EV_icmp_eq (tgt := 588) dL_law_504 (by decide) (fun c136 => ?_) (fun c136 => ?_)
                            · rw [if_pos c136] at h
                              exact EV_pick [0, 1, 2, 3] rfl (zL_law_588 E (@ih) h)
                            · rw [if_neg c136] at h
                              refine EV_iconst (x := (0 : Int32)) dL_law_507 (by decide) ?_
                              have hh := b1_some h; clear h; obtain ⟨u137, hu137, h⟩ := hh
                              cases h
                              exact EV_ret ⟨dL_law_508, .boolean, rfl, o_Z_n hu137⟩ rfl
                          · rw [if_neg c125] at h
                            by_cases c140 : (x2 &&& (15 : Int32)) = (11 : Int32)
                            · rw [if_pos c140] at h
                              refine EV_table (tgt := 509) dL_law_32 (Or.inr ⟨by rw [c140]; decide, by rw [c140]; decide, 477, by rw [c140]; decide, by decide⟩) ?_
                              refine EV_aload_n dL_law_509 rfl ?_
                              refine EV_aload_n dL_law_510 rfl ?_
                              refine EV_iload_n dL_law_511 rfl ?_
                              refine EV_iconst (x := (1 : Int32)) dL_law_512 (by decide) ?_
                              refine EV_iadd dL_law_513 ?_
                              have hh := b1_some h; clear h; obtain ⟨x141, hx141, h⟩ := hh
                              refine EV_scrI dL_law_514 hx141 ?_
                              refine EV_aload_n dL_law_515 rfl ?_
                              refine EV_iload_n dL_law_516 rfl ?_
                              refine EV_iconst (x := (2 : Int32)) dL_law_517 (by decide) ?_
                              refine EV_iadd dL_law_518 ?_
                              have hh := b1_some h; clear h; obtain ⟨x142, hx142, h⟩ := hh
                              refine EV_scrI dL_law_519 hx142 ?_
                              have hh := b1_some h; clear h; obtain ⟨a143, ha143, h⟩ := hh
                              subst ha143
                              have hh := b1_some h; clear h; obtain ⟨u154, hu154, h⟩ := hh
                              have hh := b2_some h; clear h; obtain ⟨x145, s144, hs144, h⟩ := hh
                              refine EV_callV (Y := YX11_ordered) (as := [VI x141, VI x142]) (st := []) (st2 := [VI x145]) (a := a143) (ci := 11) (r := rX11) (n := 2) dL_law_520 (zX11_ordered E hs144) rfl cwX11_ordered rfl tw_915 tw_916 tw_917 rfl (e_if hu154).1.1 (e_if hu154).1.2 ⟨by decide, by decide⟩ (Nat.le_of_ble_eq_true rfl) rfl ?_
                              refine EV_aload_n dL_law_523 rfl ?_
                              refine EV_aload_n dL_law_524 rfl ?_
                              refine EV_iload_n dL_law_525 rfl ?_
                              refine EV_iconst (x := (1 : Int32)) dL_law_526 (by decide) ?_
                              refine EV_iadd dL_law_527 ?_
                              have hh := b1_some h; clear h; obtain ⟨x146, hx146, h⟩ := hh
                              refine EV_scrI dL_law_528 hx146 ?_
                              refine EV_aload_n dL_law_529 rfl ?_
                              refine EV_iload_n dL_law_530 rfl ?_
                              refine EV_iconst (x := (2 : Int32)) dL_law_531 (by decide) ?_
                              refine EV_iadd dL_law_532 ?_
                              have hh := b1_some h; clear h; obtain ⟨x147, hx147, h⟩ := hh
                              refine EV_scrI dL_law_533 hx147 ?_
                              have hh := b1_some h; clear h; obtain ⟨a148, ha148, h⟩ := hh
                              subst ha148
                              have hh := b1_some h; clear h; obtain ⟨u153, hu153, h⟩ := hh
                              have hh := b2_some h; clear h; obtain ⟨x150, s149, hs149, h⟩ := hh
                              refine EV_callV (Y := YX12_ordered) (as := [VI x146, VI x147]) (st := [VI x145]) (st2 := [VI x150, VI x145]) (a := a148) (ci := 12) (r := rX12) (n := 2) dL_law_534 (zX12_ordered E hs149) rfl cwX12_ordered rfl tw_1346 tw_1347 tw_1348 rfl (e_if hu153).1.1 (e_if hu153).1.2 ⟨by decide, by decide⟩ (Nat.le_of_ble_eq_true rfl) rfl ?_
                              refine EV_icmp_eq (tgt := 588) dL_law_537 (by decide) (fun c151 => ?_) (fun c151 => ?_)
                              · rw [if_pos c151] at h
                                exact EV_pick [0, 1, 2, 3] rfl (zL_law_588 E (@ih) h)
                              · rw [if_neg c151] at h
                                refine EV_iconst (x := (0 : Int32)) dL_law_540 (by decide) ?_
                                have hh := b1_some h; clear h; obtain ⟨u152, hu152, h⟩ := hh
                                cases h
                                exact EV_ret ⟨dL_law_541, .boolean, rfl, o_Z_n hu152⟩ rfl
                            · rw [if_neg c140] at h
                              by_cases c155 : (x2 &&& (15 : Int32)) = (12 : Int32)
                              · rw [if_pos c155] at h
                                refine EV_table (tgt := 542) dL_law_32 (Or.inr ⟨by rw [c155]; decide, by rw [c155]; decide, 510, by rw [c155]; decide, by decide⟩) ?_
                                refine EV_aload_n dL_law_542 rfl ?_
                                refine EV_aload_n dL_law_543 rfl ?_
                                refine EV_iload_n dL_law_544 rfl ?_
                                refine EV_iconst (x := (1 : Int32)) dL_law_545 (by decide) ?_
                                refine EV_iadd dL_law_546 ?_
                                have hh := b1_some h; clear h; obtain ⟨x156, hx156, h⟩ := hh
                                refine EV_scrI dL_law_547 hx156 ?_
                                have hh := b1_some h; clear h; obtain ⟨a157, ha157, h⟩ := hh
                                subst ha157
                                have hh := b1_some h; clear h; obtain ⟨u167, hu167, h⟩ := hh
                                have hh := b2_some h; clear h; obtain ⟨x159, s158, hs158, h⟩ := hh
                                refine EV_callV (Y := YX11_clock) (as := [VI x156]) (st := []) (st2 := [VI x159]) (a := a157) (ci := 11) (r := rX11) (n := 1) dL_law_548 (zX11_clock E hs158) rfl cwX11_clock rfl tw_919 tw_920 tw_921 rfl (e_if hu167).1.1 (e_if hu167).1.2 ⟨by decide, by decide⟩ (Nat.le_of_ble_eq_true rfl) rfl ?_
                                refine EV_aload_n dL_law_551 rfl ?_
                                refine EV_aload_n dL_law_552 rfl ?_
                                refine EV_iload_n dL_law_553 rfl ?_
                                refine EV_iconst (x := (1 : Int32)) dL_law_554 (by decide) ?_
                                refine EV_iadd dL_law_555 ?_
                                have hh := b1_some h; clear h; obtain ⟨x160, hx160, h⟩ := hh
                                refine EV_scrI dL_law_556 hx160 ?_
                                have hh := b1_some h; clear h; obtain ⟨a161, ha161, h⟩ := hh
                                subst ha161
                                have hh := b1_some h; clear h; obtain ⟨u166, hu166, h⟩ := hh
                                have hh := b2_some h; clear h; obtain ⟨x163, s162, hs162, h⟩ := hh
                                refine EV_callV (Y := YX12_clock) (as := [VI x160]) (st := [VI x159]) (st2 := [VI x163, VI x159]) (a := a161) (ci := 12) (r := rX12) (n := 1) dL_law_557 (zX12_clock E hs162) rfl cwX12_clock rfl tw_1350 tw_1351 tw_1352 rfl (e_if hu166).1.1 (e_if hu166).1.2 ⟨by decide, by decide⟩ (Nat.le_of_ble_eq_true rfl) rfl ?_
                                refine EV_icmp_eq (tgt := 588) dL_law_560 (by decide) (fun c164 => ?_) (fun c164 => ?_)
                                · rw [if_pos c164] at h
                                  exact EV_pick [0, 1, 2, 3] rfl (zL_law_588 E (@ih) h)
                                · rw [if_neg c164] at h
                                  refine EV_iconst (x := (0 : Int32)) dL_law_563 (by decide) ?_
                                  have hh := b1_some h; clear h; obtain ⟨u165, hu165, h⟩ := hh
                                  cases h
                                  exact EV_ret ⟨dL_law_564, .boolean, rfl, o_Z_n hu165⟩ rfl
                              · rw [if_neg c155] at h
                                by_cases c168 : (x2 &&& (15 : Int32)) = (13 : Int32)
                                · rw [if_pos c168] at h
                                  refine EV_table (tgt := 565) dL_law_32 (Or.inr ⟨by rw [c168]; decide, by rw [c168]; decide, 533, by rw [c168]; decide, by decide⟩) ?_
                                  refine EV_aload_n dL_law_565 rfl ?_
                                  refine EV_aload_n dL_law_566 rfl ?_
                                  refine EV_iload_n dL_law_567 rfl ?_
                                  refine EV_iconst (x := (1 : Int32)) dL_law_568 (by decide) ?_
                                  refine EV_iadd dL_law_569 ?_
                                  have hh := b1_some h; clear h; obtain ⟨x169, hx169, h⟩ := hh
                                  refine EV_scrI dL_law_570 hx169 ?_
                                  have hh := b1_some h; clear h; obtain ⟨a170, ha170, h⟩ := hh
                                  subst ha170
                                  have hh := b1_some h; clear h; obtain ⟨u180, hu180, h⟩ := hh
                                  have hh := b2_some h; clear h; obtain ⟨x172, s171, hs171, h⟩ := hh
                                  refine EV_callV (Y := YX11_count) (as := [VI x169]) (st := []) (st2 := [VI x172]) (a := a170) (ci := 11) (r := rX11) (n := 1) dL_law_571 (zX11_count E hs171) rfl cwX11_count rfl tw_923 tw_924 tw_925 rfl (e_if hu180).1.1 (e_if hu180).1.2 ⟨by decide, by decide⟩ (Nat.le_of_ble_eq_true rfl) rfl ?_
                                  refine EV_aload_n dL_law_574 rfl ?_
                                  refine EV_aload_n dL_law_575 rfl ?_
                                  refine EV_iload_n dL_law_576 rfl ?_
                                  refine EV_iconst (x := (1 : Int32)) dL_law_577 (by decide) ?_
                                  refine EV_iadd dL_law_578 ?_
                                  have hh := b1_some h; clear h; obtain ⟨x173, hx173, h⟩ := hh
                                  refine EV_scrI dL_law_579 hx173 ?_
                                  have hh := b1_some h; clear h; obtain ⟨a174, ha174, h⟩ := hh
                                  subst ha174
                                  have hh := b1_some h; clear h; obtain ⟨u179, hu179, h⟩ := hh
                                  have hh := b2_some h; clear h; obtain ⟨x176, s175, hs175, h⟩ := hh
                                  refine EV_callV (Y := YX12_count) (as := [VI x173]) (st := [VI x172]) (st2 := [VI x176, VI x172]) (a := a174) (ci := 12) (r := rX12) (n := 1) dL_law_580 (zX12_count E hs175) rfl cwX12_count rfl tw_1355 tw_1356 tw_1357 rfl (e_if hu179).1.1 (e_if hu179).1.2 ⟨by decide, by decide⟩ (Nat.le_of_ble_eq_true rfl) rfl ?_
                                  refine EV_icmp_eq (tgt := 588) dL_law_583 (by decide) (fun c177 => ?_) (fun c177 => ?_)
                                  · rw [if_pos c177] at h
                                    exact EV_pick [0, 1, 2, 3] rfl (zL_law_588 E (@ih) h)
                                  · rw [if_neg c177] at h
                                    refine EV_iconst (x := (0 : Int32)) dL_law_586 (by decide) ?_
                                    have hh := b1_some h; clear h; obtain ⟨u178, hu178, h⟩ := hh
                                    cases h
                                    exact EV_ret ⟨dL_law_587, .boolean, rfl, o_Z_n hu178⟩ rfl
                                · rw [if_neg c168] at h
                                  have nc3 := lv_neT (a := 0) c3 (by decide)
                                  have nc18 := lv_neT (a := 1) c18 (by decide)
                                  have nc24 := lv_neT (a := 2) c24 (by decide)
                                  have nc30 := lv_neT (a := 3) c30 (by decide)
                                  have nc47 := lv_neT (a := 4) c47 (by decide)
                                  have nc58 := lv_neT (a := 5) c58 (by decide)
                                  have nc69 := lv_neT (a := 6) c69 (by decide)
                                  have nc86 := lv_neT (a := 7) c86 (by decide)
                                  have nc99 := lv_neT (a := 8) c99 (by decide)
                                  have nc112 := lv_neT (a := 9) c112 (by decide)
                                  have nc125 := lv_neT (a := 10) c125 (by decide)
                                  have nc140 := lv_neT (a := 11) c140 (by decide)
                                  have nc155 := lv_neT (a := 12) c155 (by decide)
                                  have nc168 := lv_neT (a := 13) c168 (by decide)
                                  refine EV_table (tgt := 588) dL_law_32 (Or.inl ⟨by omega, by decide⟩) ?_
                                  exact EV_pick [0, 1, 2, 3] rfl (zL_law_588 E (@ih) h)
def mL_law (L : Nat) (xs : Nat → Int32) (s0 : eS) : Option (Int32 × eS) :=
  (b2 (n_O s0 111 19) fun q1 s2 => (b1 (mX11_init q1 s2) fun s3 => (b2 (n_O s3 112 55) fun q5 s6 => (b1 (mX12_init q5 s6) fun s7 => (mL_law_18 L xs 100000 (some q1) (some q5) (0 : Int32) s7)))))
set_option maxRecDepth 100000 in
set_option maxHeartbeats 4000000 in
theorem zL_law (E : eE) {s0 s9 : eS} {y : Int32} (h : mL_law (e_N E) (e_xs E) s0 = some (y, s9)) : EV E ML_law 0 [(0, VR (some 1000000999))] [] s0 (some (VI y)) s9 := by
  unfold mL_law at h
  have hh := b2_some h; clear h; obtain ⟨q1, s2, hs2, h⟩ := hh
  refine EV_nO (ci := 11) (r := rX11) dL_law_0 eX_11 rfl tw_87 tw_88 tw_72 eXf_11 hs2 ?_
  refine EV_dup dL_law_3 rfl ?_
  have hh := b1_some h; clear h; obtain ⟨s3, hs3, h⟩ := hh
  refine EV_callI (Y := YX11_init) (as := []) (st := [VR (some q1)]) (a := q1) (n := 0) dL_law_4 (zX11_init E hs3) rfl rfl cwX11_init rfl tw_89 tw_90 rfl ⟨by decide, by decide⟩ (Nat.le_of_ble_eq_true rfl) ?_
  refine EV_astore_n (lv2 := [(1, VR (some q1)), (0, VR (some 1000000999))]) dL_law_7 (by decide) rfl ?_
  have hh := b2_some h; clear h; obtain ⟨q5, s6, hs6, h⟩ := hh
  refine EV_nO (ci := 12) (r := rX12) dL_law_8 eX_12 rfl tw_927 tw_928 tw_82 eXf_12 hs6 ?_
  refine EV_dup dL_law_11 rfl ?_
  have hh := b1_some h; clear h; obtain ⟨s7, hs7, h⟩ := hh
  refine EV_callI (Y := YX12_init) (as := []) (st := [VR (some q5)]) (a := q5) (n := 0) dL_law_12 (zX12_init E hs7) rfl rfl cwX12_init rfl tw_929 tw_930 rfl ⟨by decide, by decide⟩ (Nat.le_of_ble_eq_true rfl) ?_
  refine EV_astore_n (lv2 := [(2, VR (some q5)), (1, VR (some q1)), (0, VR (some 1000000999))]) dL_law_15 (by decide) rfl ?_
  refine EV_iconst (x := (0 : Int32)) dL_law_16 (by decide) ?_
  refine EV_istore_n (lv2 := [(3, VI (0 : Int32)), (2, VR (some q5)), (1, VR (some q1)), (0, VR (some 1000000999))]) dL_law_17 (by decide) rfl ?_
  exact EV_pick [3, 2, 1, 0] rfl (zL_law_18 E _ h)
