/-! ===== the FRAME that came ===== -/
def FS (s : eS) (F : List Int32) : Prop := sI s 18 1 = ctF F 4 ∧ MT s 19 20 (rb F)
theorem FS_k {s s' : eS} (k : kS s s') {F : List Int32} (f : FS s F) : FS s' F := by
  refine ⟨(k.2 _ _ rfl).trans f.1, (k.2 _ _ rfl).trans f.2.1, f.2.2.1, fun i hi => ?_⟩
  rw [k.2 20 i (by simp)]
  exact f.2.2.2 i hi
theorem FS_O {s s' : eS} (k : kO s s') {F : List Int32} (f : FS s F) : FS s' F := FS_k k.1 f
theorem uI_shl {b : Nat} (hb : b < 256) : ∀ k, k < 4 → uI (nI b <<< ((8 * nI k) &&& 31)) = b * 2 ^ (8 * k) := by
  intro k hk
  have e : ∀ k, k < 4 → ((((8 : Int32) * nI k) &&& 31).toBitVec.smod 32).toNat = 8 * k := by decide +kernel
  unfold uI
  rw [pk_shl _ _ (8 * k) (e k hk)]
  show uI (nI b) * _ % 2 ^ 32 = _
  rw [uI_nI (by omega)]
  have : 2 ^ (8 * k) ≤ 2 ^ 24 := Nat.pow_le_pow_right (by omega) (by omega)
  have h2 : b * 2 ^ (8 * k) ≤ 255 * 2 ^ 24 := Nat.mul_le_mul (by omega) this
  exact Nat.mod_eq_of_lt (by omega)
theorem ct_nat {F : List Int32} {b2 b3 b4 b5 : Nat} (h2 : b2 < 256) (h3 : b3 < 256) (h4 : b4 < 256) (h5 : b5 < 256) (e2 : F.getD 2 0 = nI b2) (e3 : F.getD 3 0 = nI b3) (e4 : F.getD 4 0 = nI b4) (e5 : F.getD 5 0 = nI b5) : uI (ctF F 4) = b2 + b3 * 2 ^ 8 + b4 * 2 ^ 16 + b5 * 2 ^ 24 := by
  show uI ((((0 ||| (F.getD 2 0 <<< ((8 * nI 0) &&& 31))) ||| (F.getD 3 0 <<< ((8 * nI 1) &&& 31))) ||| (F.getD 4 0 <<< ((8 * nI 2) &&& 31))) ||| (F.getD 5 0 <<< ((8 * nI 3) &&& 31))) = _
  rw [e2, e3, e4, e5, uI_or, uI_or, uI_or, uI_or, uI_shl h2 0 (by omega), uI_shl h3 1 (by omega), uI_shl h4 2 (by omega), uI_shl h5 3 (by omega), show uI (0 : Int32) = 0 from rfl, Nat.zero_or]
  rw [show b2 * 2 ^ (8 * 0) = b2 by omega, show 8 * 1 = 8 from rfl, show 8 * 2 = 16 from rfl, show 8 * 3 = 24 from rfl, or_add (k := 8) (by omega), or_add (k := 16) (by omega), or_add (k := 24) (by omega)]
theorem shr_and (x s m : Int32) (k w : Nat) (hs : (s.toBitVec.smod 32).toNat = k) (hkw : k + w ≤ 32) (hm : ∀ j, (h : j < 32) → m.toBitVec[j] = decide (j < w)) : (x >>> s) &&& m = nI (uI x / 2 ^ k % 2 ^ w) := by
  apply uI_ext
  have hw : uI x / 2 ^ k % 2 ^ w < 2 ^ 32 := by
    have := Nat.mod_lt (uI x / 2 ^ k) (Nat.two_pow_pos w)
    have h2 : 2 ^ w ≤ 2 ^ 32 := Nat.pow_le_pow_right (by omega) (by omega)
    omega
  rw [uI_nI hw]
  unfold uI
  rw [Int32.toBitVec_and, Int32.toBitVec_shiftRight]
  rw [show (s.toBitVec.smod (OfNat.ofNat 32)) = (s.toBitVec.smod 32) from rfl, BitVec.sshiftRight_eq', hs]
  have : x.toBitVec.sshiftRight k &&& m.toBitVec = BitVec.setWidth 32 (BitVec.extractLsb' k w x.toBitVec) := by
    ext j hj
    simp only [BitVec.getElem_and, BitVec.getElem_setWidth, BitVec.getElem_sshiftRight, BitVec.getLsbD_extractLsb', hm j hj]
    by_cases h : j < w
    · have h2 : k + j < 32 := by omega
      simp [h, h2, BitVec.getLsbD_eq_getElem]
    · simp [h]
  rw [this, BitVec.toNat_setWidth, BitVec.extractLsb'_toNat, Nat.shiftRight_eq_div_pow]
  exact Nat.mod_eq_of_lt hw
theorem m32767 : ∀ j, (h : j < 32) → (32767 : Int32).toBitVec[j] = decide (j < 15) := by decide +kernel
theorem F_num {F : List Int32} (bf : byF F) : (ctF F 4 >>> ((1 : Int32) &&& 31)) &&& 32767 = F.getD 2 0 / 2 + 128 * F.getD 3 0 ∧ (ctF F 4 >>> ((17 : Int32) &&& 31)) &&& 32767 = F.getD 4 0 / 2 + 128 * F.getD 5 0 ∧ ctF F 4 &&& 255 = F.getD 2 0 := by
  obtain ⟨b2, h2, e2⟩ := bf 2
  obtain ⟨b3, h3, e3⟩ := bf 3
  obtain ⟨b4, h4, e4⟩ := bf 4
  obtain ⟨b5, h5, e5⟩ := bf 5
  have hd : ∀ x y : Nat, x < 256 → y < 256 → nI x / 2 + 128 * nI y = nI (x / 2 + 128 * y) := fun x y hx hy => by
    rw [show nI x / 2 = nI (x / 2) from pk_div (d := 2) (by omega) (by decide) (by decide), show (128 : Int32) * nI y = nI (128 * y) from pk_mul 128 y, nI_add]
  rw [shr_and _ _ _ 1 15 (by decide +kernel) (by omega) m32767, shr_and _ _ _ 17 15 (by decide +kernel) (by omega) m32767, pk_and _ 8 rfl]
  show _ ∧ _ ∧ nI (uI (ctF F 4) % 2 ^ 8) = _
  rw [ct_nat h2 h3 h4 h5 e2 e3 e4 e5, e2, e3, e4, e5, hd b2 b3 h2 h3, hd b4 b5 h4 h5]
  refine ⟨?_, ?_, ?_⟩ <;> congr 1 <;> omega
theorem S_at19 {s : eS} (h : SH s) {F : List Int32} (f : FS s F) {i : Nat} (hi : i < 2 ^ 31) : mX4_at 19 (nI i) s = some ((rb F).getD i 0, s) := S_at (MG_19 h) f.2 hi
theorem S_number19 {s : eS} (h : SH s) {F : List Int32} (bf : byF F) (f : FS s F) : mX8_number 18 s = some (F.getD 2 0 / 2 + 128 * F.getD 3 0, s) ∧ mX8_ack 18 s = some (F.getD 4 0 / 2 + 128 * F.getD 5 0, s) := by
  unfold mX8_number mX8_ack
  rw [gI_18 h, b1S, b1S, f.1, (F_num bf).1, (F_num bf).2.1]
  exact ⟨rfl, rfl⟩
theorem S_orig {s : eS} (h : SH s) {F : List Int32} (f : FS s F) : mX8_originator 18 s = some ((rb F).getD 3 0, s) := by
  unfold mX8_originator
  rw [gP_18_0 h, b1S, b1S, oK_19 h, b1S, show (3 : Int32) = nI 3 from rfl, S_at19 h f (by omega), b2S]
theorem S_trial {s : eS} (h : SH s) {F : List Int32} (f : FS s F) : mX8_isTrial 18 s = some (isT F, s) := by
  unfold mX8_isTrial mX8_isTrial_20 isT
  rw [gP_18_0 h, b1S, b1S, oK_19 h, b1S, show (2 : Int32) = nI 2 from rfl, S_at19 h f (by omega), b2S]
  by_cases c : (rb F).getD 2 0 &&& 128 = 0
  · rw [if_pos c, if_pos c, oZ0, b1S]
  · rw [if_neg c, if_neg c, oZ1, b1S]
/-! ===== THE LINK ===== -/
theorem RS_link {t : Bool} {C : Nat} {s : eS} {A : aS} (r : RS t C s A) (v : Int32) (hv : v = 1 ∨ v = 2 ∨ v = 3) : RS t C (e_I s 0 11 v) (ui A 7 v) := by
  have g : ag (fun a k => a == 0 && k == 11) s (e_I s 0 11 v) := ag_I ag_rf rfl
  have i := SI_set (rs_i r) 7 (by decide) v
  have hn : v ≠ 0 := fun e2 => by
    subst e2
    rcases hv with c | c | c <;> cases c
  have z : SZ (ui A 7 v) := ⟨fun e => absurd e hn, (rs_z r).2.1, (rs_z r).2.2.1, Or.inr hv⟩
  exact ⟨(have q := rs_d r; DS_ag g q), i, (have q := rs_o r; SO_ag g q ⟨rfl, rfl⟩ (fun _ => rfl)), (have q := rs_x r; SXt_ag g q ⟨rfl, rfl, rfl, rfl⟩ (fun _ => rfl)), (have q := rs_l r; SL_ag g q ⟨rfl, rfl, rfl⟩), (have q := rs_p r; SP_ag g (rs_d r).1 q rfl (fun a k hx => by simp <;> omega)), (have q := rs_c r; SC_ag g (rs_d r).1 (rs_d r).2.1 q rfl (fun a k hx => by simp <;> omega)), (have q := rs_n r; SN_ag g q ⟨rfl, rfl⟩ (fun _ => ⟨rfl, rfl⟩)), (have q := rs_e r; SE_ag g (rs_d r).1 q ⟨rfl, rfl, rfl⟩ (fun a k hx => by simp <;> omega)), (have q := rs_a r; SA_ag g (rs_d r).2.2.1 q ⟨rfl, rfl⟩ (fun a k hx => by simp <;> omega)), (have q := rs_m r; SM_ag g q ⟨rfl, rfl, rfl⟩ (fun _ => ⟨rfl, rfl, rfl, rfl, rfl⟩)), z, (have q := rs_f r; q)⟩
theorem RS_lat {t : Bool} {C : Nat} {s : eS} {A : aS} (r : RS t C s A) (v : Int32) : RS t C (e_I s 0 14 v) (ui A 10 v) := by
  have g : ag (fun a k => a == 0 && k == 14) s (e_I s 0 14 v) := ag_I ag_rf rfl
  have i := SI_set (rs_i r) 10 (by decide) v
  exact ⟨(have q := rs_d r; DS_ag g q), i, (have q := rs_o r; SO_ag g q ⟨rfl, rfl⟩ (fun _ => rfl)), (have q := rs_x r; SXt_ag g q ⟨rfl, rfl, rfl, rfl⟩ (fun _ => rfl)), (have q := rs_l r; SL_ag g q ⟨rfl, rfl, rfl⟩), (have q := rs_p r; SP_ag g (rs_d r).1 q rfl (fun a k hx => by simp <;> omega)), (have q := rs_c r; SC_ag g (rs_d r).1 (rs_d r).2.1 q rfl (fun a k hx => by simp <;> omega)), (have q := rs_n r; SN_ag g q ⟨rfl, rfl⟩ (fun _ => ⟨rfl, rfl⟩)), (have q := rs_e r; SE_ag g (rs_d r).1 q ⟨rfl, rfl, rfl⟩ (fun a k hx => by simp <;> omega)), (have q := rs_a r; SA_ag g (rs_d r).2.2.1 q ⟨rfl, rfl⟩ (fun a k hx => by simp <;> omega)), (have q := rs_m r; SM_ag g q ⟨rfl, rfl, rfl⟩ (fun _ => ⟨rfl, rfl, rfl, rfl, rfl⟩)), (have q := rs_z r; q), (have q := rs_f r; q)⟩
theorem RS_tst {t : Bool} {C : Nat} {s : eS} {A : aS} (r : RS t C s A) (v : Int32) : RS t C (e_I s 0 16 v) (ui A 12 v) := by
  have g : ag (fun a k => a == 0 && k == 16) s (e_I s 0 16 v) := ag_I ag_rf rfl
  have i := SI_set (rs_i r) 12 (by decide) v
  exact ⟨(have q := rs_d r; DS_ag g q), i, (have q := rs_o r; SO_ag g q ⟨rfl, rfl⟩ (fun _ => rfl)), (have q := rs_x r; SXt_ag g q ⟨rfl, rfl, rfl, rfl⟩ (fun _ => rfl)), (have q := rs_l r; SL_ag g q ⟨rfl, rfl, rfl⟩), (have q := rs_p r; SP_ag g (rs_d r).1 q rfl (fun a k hx => by simp <;> omega)), (have q := rs_c r; SC_ag g (rs_d r).1 (rs_d r).2.1 q rfl (fun a k hx => by simp <;> omega)), (have q := rs_n r; SN_ag g q ⟨rfl, rfl⟩ (fun _ => ⟨rfl, rfl⟩)), (have q := rs_e r; SE_ag g (rs_d r).1 q ⟨rfl, rfl, rfl⟩ (fun a k hx => by simp <;> omega)), (have q := rs_a r; SA_ag g (rs_d r).2.2.1 q ⟨rfl, rfl⟩ (fun a k hx => by simp <;> omega)), (have q := rs_m r; SM_ag g q ⟨rfl, rfl, rfl⟩ (fun _ => ⟨rfl, rfl, rfl, rfl, rfl⟩)), (have q := rs_z r; q), (have q := rs_f r; q)⟩
theorem untold_le {C : Nat} (hC : C < 2 ^ 30) {A : aS} (w : WW C A) (z : ST A) : (A.1 16 - A.1 17 ≤ 0 ↔ A.1 16 ≤ A.1 17) := by
  obtain ⟨a, b, -, eb, -, hb⟩ := W5_n hC w
  obtain ⟨u, hu, hl⟩ := z
  rw [eb, uI_nI (by omega)] at hl
  have e17 : A.1 17 = nI (b - u) := by
    have : A.1 17 = A.1 16 - (A.1 16 - A.1 17) := by
      rw [Int32.sub_eq_add_neg, Int32.sub_eq_add_neg, Int32.neg_add, Int32.sub_eq_add_neg, Int32.neg_neg, ← Int32.add_assoc, Int32.add_right_neg, Int32.zero_add]
    rw [this, hu, eb, pk_sub hl]
  rw [hu, e17, eb, show (0 : Int32) = nI 0 from rfl, nI_leI (by omega) (by omega), nI_leI (by omega) (by omega)]
  omega
theorem S_stop {t : Bool} {D C : Nat} (hC : C < 2 ^ 30) {s : eS} (h : SH s) {A : aS} (r : RS t D s A) (w : WW C A) : ∃ s', mX11_stopCame 0 s = some s' ∧ kO s s' ∧ RS t D s' (a_ordr A 19) := by
  have e7 : sI s 0 11 = A.1 7 := (rs_i r).1 7 (by decide) (by decide)
  unfold mX11_stopCame mX11_stopCame_46 a_ordr
  rw [if_neg (by decide), if_pos rfl, gI_0 h, b1S, e7]
  by_cases c2 : A.1 7 = 2
  · have h1 := SH_I (a := 0) (k := 11) (x := 3) h
    have r1 := RS_link r 3 (by decide)
    have k1 : kO s (e_I s 0 11 3) := kO_I (kO_rf h) rfl (by decide)
    have e3 : sI (e_I s 0 11 3) 18 3 = A.1 16 - A.1 17 := (rs_i r1).2
    rw [if_pos c2, if_pos c2, pI_0 h, b1S, gP_0_8 h1, b1S, b1S, gI_18 h1, b1S, e3]
    by_cases c : A.1 16 ≤ A.1 17
    · rw [if_pos c, if_pos ((untold_le hC w (rs_z r).2.2.1).mpr c)]
      exact ⟨_, rfl, k1, r1⟩
    · rw [if_neg c, if_neg (fun z => c ((untold_le hC w (rs_z r).2.2.1).mp z)), oK_0 h1, b1S]
      obtain ⟨s2, f2, k2, r2⟩ := S_sendAck hC h1 r1 (WW_ui w (by decide) _)
      rw [f2, b1S]
      exact ⟨s2, rfl, kO_tr k1 k2, r2⟩
  · rw [if_neg c2, if_neg c2, b1S]
    by_cases c1 : A.1 7 = 1
    · rw [if_pos c1, if_pos c1, oK_0 h, b1S]
      obtain ⟨s2, f2, k2, r2⟩ := S_u h r 35 (by decide +kernel)
      rw [f2, b2S]
      exact ⟨s2, rfl, k2, r2⟩
    · rw [if_neg c1, if_neg c1]
      exact ⟨s, rfl, kO_rf h, r⟩
theorem ui_self (A : aS) (k : Nat) : ui A k (A.1 k) = A := by
  obtain ⟨a, b⟩ := A
  show (fun j => if j = k then a k else a j, b) = (a, b)
  congr 1
  funext j
  by_cases c : j = k
  · rw [if_pos c, c]
  · rw [if_neg c]
theorem S_control {t : Bool} {D C : Nat} (hC : C < 2 ^ 30) {s : eS} (h : SH s) {A : aS} (r : RS t D s A) (w : WW C A) (h7 : A.1 7 ≠ 0) (x : Int32) : ∃ s', mX11_controlCame 0 x s = some s' ∧ kO s s' ∧ RS t D s' (a_ordr A x) := by
  unfold mX11_controlCame mX11_controlCame_87
  by_cases c7 : x = 7
  · subst c7
    have e : a_ordr A 7 = a_start A 2 := by
      unfold a_ordr
      rw [if_pos rfl]
      rcases (rs_z r).2.2.2 with c | c | c | c
      · exact absurd c h7
      · rw [if_pos c]
      · rw [if_neg (by rw [c]; decide), if_neg (by rw [c]; decide), c]
      · rw [if_neg (by rw [c]; decide), if_pos c]
    have h1 := SH_I (a := 0) (k := 11) (x := 2) h
    have r1 := RS_link r 2 (by decide)
    obtain ⟨s2, f2, k2, r2⟩ := S_u h1 r1 11 (by decide +kernel)
    rw [if_pos rfl, pI_0 h, b1S, oK_0 h1, b1S, f2, b2S, e]
    exact ⟨s2, rfl, kO_tr (kO_I (kO_rf h) rfl (by decide)) k2, r2⟩
  rw [if_neg c7]
  by_cases c19 : x = 19
  · subst c19
    obtain ⟨s2, f2, k2, r2⟩ := S_stop hC h r w
    rw [if_pos rfl, oK_0 h, b1S, f2, b1S]
    exact ⟨s2, rfl, k2, r2⟩
  rw [if_neg c19]
  by_cases c67 : x = 67
  · subst c67
    obtain ⟨s2, f2, k2, r2⟩ := S_u h r 131 (by decide +kernel)
    rw [if_pos rfl, oK_0 h, b1S, f2, b2S]
    exact ⟨s2, rfl, k2, r2⟩
  rw [if_neg c67]
  unfold a_ordr
  rw [if_neg c7, if_neg c19, if_neg c67]
  by_cases c131 : x = 131
  · rw [if_pos c131, if_pos c131, pZ_0 h (Or.inl rfl), b1S]
    exact ⟨_, rfl, kO_I (kO_rf h) rfl (by decide), RS_tst r 0⟩
  · rw [if_neg c131, if_neg c131]
    exact ⟨s, rfl, kO_rf h, r⟩
/-! an I FRAME is counted -/
abbrev x182 : Nat → Nat → Bool := fun a k => a == 18 && (k == 2 || k == 3 || k == 4)
theorem RS_came {t : Bool} {D C : Nat} (hC : C < 2 ^ 30) {s : eS} {A : aS} (r : RS t D s A) (w : WW C A) : RS t D (e_I (e_I s 18 3 (sI s 18 3 + 1)) 18 2 (A.1 16 + 1)) (ui A 16 (A.1 16 + 1)) := by
  have g : ag x182 s (e_I (e_I s 18 3 (sI s 18 3 + 1)) 18 2 (A.1 16 + 1)) := ag_I (ag_I ag_rf rfl) rfl
  have i : SI (e_I (e_I s 18 3 (sI s 18 3 + 1)) 18 2 (A.1 16 + 1)) (ui A 16 (A.1 16 + 1)) := by
    have h18 : ∀ a, a < 26 → a ≠ 16 → (sc a).1 ≠ 18 ∨ ((sc a).2 ≠ 2) := by decide +kernel
    have h19 : ∀ a, a < 26 → (sc a).1 ≠ 18 ∨ ((sc a).2 ≠ 3) := by decide +kernel
    refine ⟨fun k hk h17 => ?_, ?_⟩
    · show _ = if k = 16 then A.1 16 + 1 else A.1 k
      by_cases e : k = 16
      · subst e; rw [if_pos rfl]; exact rII_eq
      · rw [if_neg e, rII_ne (h18 k hk e), rII_ne (h19 k hk)]; exact (rs_i r).1 k hk h17
    · rw [rII_ne (Or.inr (by decide)), rII_eq, (rs_i r).2]
      show A.1 16 - A.1 17 + 1 = A.1 16 + 1 - A.1 17
      rw [Int32.sub_eq_add_neg, Int32.sub_eq_add_neg, Int32.add_assoc, Int32.add_comm (-A.1 17), Int32.add_assoc]
  have z : SZ (ui A 16 (A.1 16 + 1)) := by
    refine ⟨(rs_z r).1, (rs_z r).2.1, ?_, (rs_z r).2.2.2⟩
    obtain ⟨a, b, -, eb, -, hb⟩ := W5_n hC w
    obtain ⟨a', b', p1, p2, p3, p4, p5⟩ := w.2.2.2.2
    obtain ⟨u, hu, hl⟩ := (rs_z r).2.2.1
    refine ⟨u + 1, ?_, ?_⟩
    · show A.1 16 + 1 - A.1 17 = _
      rw [← nI_1, ← hu, Int32.sub_eq_add_neg, Int32.sub_eq_add_neg, Int32.add_assoc, Int32.add_comm 1, Int32.add_assoc]
    · show u + 1 ≤ uI (A.1 16 + 1)
      rw [p4, uI_nI (by omega)] at hl
      rw [p4, nI_1, uI_nI (by omega)]
      omega
  exact ⟨(have q := rs_d r; DS_ag g q), i, (have q := rs_o r; SO_ag g q ⟨rfl, rfl⟩ (fun _ => rfl)), (have q := rs_x r; SXt_ag g q ⟨rfl, rfl, rfl, rfl⟩ (fun _ => rfl)), (have q := rs_l r; SL_ag g q ⟨rfl, rfl, rfl⟩), (have q := rs_p r; SP_ag g (rs_d r).1 q rfl (fun a k hx => by simp <;> omega)), (have q := rs_c r; SC_ag g (rs_d r).1 (rs_d r).2.1 q rfl (fun a k hx => by simp <;> omega)), (have q := rs_n r; SN_ag g q ⟨rfl, rfl⟩ (fun _ => ⟨rfl, rfl⟩)), (have q := rs_e r; SE_ag g (rs_d r).1 q ⟨rfl, rfl, rfl⟩ (fun a k hx => by simp <;> omega)), (have q := rs_a r; SA_ag g (rs_d r).2.2.1 q ⟨rfl, rfl⟩ (fun a k hx => by simp <;> omega)), (have q := rs_m r; SM_ag g q ⟨rfl, rfl, rfl⟩ (fun _ => ⟨rfl, rfl, rfl, rfl, rfl⟩)), z, (have q := rs_f r; q)⟩
theorem RS_first {t : Bool} {C : Nat} {s : eS} {A : aS} (r : RS t C s A) (v : Int32) : RS t C (e_I s 18 4 v) (ui A 18 v) := by
  have g : ag (fun a k => a == 18 && k == 4) s (e_I s 18 4 v) := ag_I ag_rf rfl
  have i := SI_set (rs_i r) 18 (by decide) v
  exact ⟨(have q := rs_d r; DS_ag g q), i, (have q := rs_o r; SO_ag g q ⟨rfl, rfl⟩ (fun _ => rfl)), (have q := rs_x r; SXt_ag g q ⟨rfl, rfl, rfl, rfl⟩ (fun _ => rfl)), (have q := rs_l r; SL_ag g q ⟨rfl, rfl, rfl⟩), (have q := rs_p r; SP_ag g (rs_d r).1 q rfl (fun a k hx => by simp <;> omega)), (have q := rs_c r; SC_ag g (rs_d r).1 (rs_d r).2.1 q rfl (fun a k hx => by simp <;> omega)), (have q := rs_n r; SN_ag g q ⟨rfl, rfl⟩ (fun _ => ⟨rfl, rfl⟩)), (have q := rs_e r; SE_ag g (rs_d r).1 q ⟨rfl, rfl, rfl⟩ (fun a k hx => by simp <;> omega)), (have q := rs_a r; SA_ag g (rs_d r).2.2.1 q ⟨rfl, rfl⟩ (fun a k hx => by simp <;> omega)), (have q := rs_m r; SM_ag g q ⟨rfl, rfl, rfl⟩ (fun _ => ⟨rfl, rfl, rfl, rfl, rfl⟩)), (have q := rs_z r; q), (have q := rs_f r; q)⟩
theorem sub0 {x y : Int32} : x - y = 0 ↔ x = y := by
  constructor
  · intro e
    have : x = x - y + y := by rw [Int32.sub_add_cancel]
    rw [this, e, Int32.zero_add]
  · rintro rfl; exact Int32.sub_self _
set_option maxRecDepth 100000 in
theorem S_count {t : Bool} {D C : Nat} (hC : C < 2 ^ 30) {s : eS} (h : SH s) {A : aS} (r : RS t D s A) (w : WW C A) : ∃ s', mX8_countData 18 (A.1 9) s = some s' ∧ kO s s' ∧ RS t D s' (ui (ui A 18 (if A.1 16 = A.1 17 then A.1 9 else A.1 18)) 16 (A.1 16 + 1)) := by
  have k : ∀ (s1 : eS) (B : aS), SH s1 → RS t D s1 B → WW C B → ∃ s', mX8_countData_12 18 s1 = some s' ∧ kO s1 s' ∧ RS t D s' (ui B 16 (B.1 16 + 1)) := by
    intro s1 B h1 r1 w1
    have e16 : sI s1 18 2 = B.1 16 := (rs_i r1).1 16 (by decide) (by decide)
    unfold mX8_countData_12
    rw [gI_18 h1, b1S, pI_18 h1, b1S, gI_18 (SH_I h1), b1S, pI_18 (SH_I h1), b1S, rII_ne (Or.inr (by decide)), e16]
    exact ⟨_, rfl, kO_I (kO_I (kO_rf h1) rfl (by decide)) rfl (by decide), RS_came hC r1 w1⟩
  unfold mX8_countData
  rw [gI_18 h, b1S, (rs_i r).2]
  by_cases c : A.1 16 = A.1 17
  · rw [if_pos (sub0.mpr c), if_pos c, pI_18 h, b1S]
    obtain ⟨s2, f2, k2, r2⟩ := k _ _ (SH_I h) (RS_first r (A.1 9)) (WW_ui w (by decide) _)
    exact ⟨s2, f2, kO_tr (kO_I (kO_rf h) rfl (by decide)) k2, r2⟩
  · rw [if_neg (fun z => c (sub0.mp z)), if_neg c, ui_self]
    exact k s A h r w
