def A0 : aS := (fun k => [1, 12, 8, 150, 100, 200, 300, 0, 0, 0, 0, 0, 0, 0, 0, 0, 0, 0, 0, 0, 0, 0, 1, 1, 0, 0].getD k 0, fun _ => [], fun _ => [])
theorem ini_SH : SH iniS := by
  unfold SH
  decide +kernel
/-! past 60 there is nothing -/
def ZP (s : eS) : Prop := ∀ a j, 60 ≤ j → sI s a j = 0
def AL {β : Type} (G : β → Prop) (o : Option β) : Prop := ∀ y, o = some y → G y
theorem ZP_new {s : eS} (h : ZP s) (t n w : Nat) : ZP (e_new s t n w) := fun a j hj => by
  show e_row (sI s) (sn s) (fun _ => 0) a j = 0
  unfold e_row
  by_cases c : a = sn s
  · rw [if_pos c]
  · rw [if_neg c]; exact h a j hj
theorem ZP_I {s : eS} (h : ZP s) (a : Nat) {k : Nat} (hk : k < 60) (x : Int32) : ZP (e_I s a k x) := fun b j hj => by
  rw [rII_ne (Or.inr (by omega))]
  exact h b j hj
section
variable {β : Type} {G : β → Prop} {s : eS}
theorem z_some {y : β} (h : G y) : AL G (some y) := fun z e => by cases e; exact h
theorem z_b1 {α : Type} (o : Option α) {f : α → Option β} (h : ∀ r, AL G (f r)) : AL G (b1 o f) := fun y e => by
  obtain ⟨x, -, e2⟩ := b1_some e
  exact h x y e2
theorem z_in {α : Type} {K : α → Prop} {o : Option α} {f : α → Option β} (k : AL K o) (h : ∀ r, K r → AL G (f r)) : AL G (b1 o f) := fun y e => by
  obtain ⟨x, e1, e2⟩ := b1_some e
  exact h x (k x e1) y e2
theorem z_if {c : Prop} [Decidable c] {α : Type} {K : α → Prop} {x : α} (h : K x) : AL K (if c then some x else none) := fun y e => by
  by_cases z : c
  · rw [if_pos z] at e; cases e; exact h
  · rw [if_neg z] at e; cases e
theorem z_pP (h : ZP s) {t k a : Nat} {x : Option Nat} {f : eS → Option β} (hf : ∀ r, ZP r → AL G (f r)) : AL G (b1 (p_P s t k a x) f) := z_in (z_if (show ZP (e_P s a k x) from h)) hf
theorem z_pI (h : ZP s) {t k a : Nat} (hk : k < 60) {x : Int32} {f : eS → Option β} (hf : ∀ r, ZP r → AL G (f r)) : AL G (b1 (p_I s t k a x) f) := z_in (z_if (ZP_I h a hk x)) hf
theorem z_sI (h : ZP s) {t a : Nat} {i x : Int32} (hk : i.toNatClampNeg < 60) {f : eS → Option β} (hf : ∀ r, ZP r → AL G (f r)) : AL G (b1 (s_I s t a i x) f) := z_in (z_if (ZP_I h a hk x)) hf
theorem z_b2 {α : Type} {o : Option (α × eS)} {f : α → eS → Option β} (k : AL (fun q => ZP q.2) o) (h : ∀ q r, ZP r → AL G (f q r)) : AL G (b2 o f) := fun y e => by
  cases o with
  | none => cases e
  | some q => exact h q.1 q.2 (k q rfl) y e
theorem z_nO (h : ZP s) {t w : Nat} {f : Nat → eS → Option β} (hf : ∀ q r, ZP r → AL G (f q r)) : AL G (b2 (n_O s t w) f) := z_b2 (z_if (ZP_new h t 0 w)) hf
theorem z_nA (h : ZP s) {t : Nat} {n : Int32} {f : Nat → eS → Option β} (hf : ∀ q r, ZP r → AL G (f q r)) : AL G (b2 (n_A s t n) f) := z_b2 (z_if (ZP_new h t _ _)) hf
end
section
variable {s : eS} {a : Nat}
theorem z4 (h : ZP s) : AL ZP (mX4_init a s) := z_nA h fun _ _ h => z_pP h fun _ h => z_some h
theorem z1 (h : ZP s) : AL ZP (mX1_init a s) := z_pI h (by decide) fun _ h => z_pI h (by decide) fun _ h => z_some h
theorem z5 (h : ZP s) : AL ZP (mX5_init a s) := z_nA h fun _ _ h => z_pP h fun _ h => z_some h
theorem z7 (h : ZP s) : AL ZP (mX7_init a s) := z_nA h fun _ _ h => z_pP h fun _ h => z_nA h fun _ _ h => z_pP h fun _ h => z_some h
theorem z9 (h : ZP s) : AL ZP (mX9_init a s) := z_some h
theorem z10 (h : ZP s) : AL ZP (mX10_init a s) := z_nA h fun _ _ h => z_pP h fun _ h => z_nA h fun _ _ h => z_pP h fun _ h => z_some h
theorem z0 (h : ZP s) : AL ZP (mX0_init a s) := z_nA h fun _ _ h => z_pP h fun _ h => z_nO h fun _ _ h => z_in (z4 h) fun _ h => z_pP h fun _ h => z_some h
theorem z3 (h : ZP s) : AL ZP (mX3_init a s) := z_nA h fun _ _ h => z_pP h fun _ h => z_nA h fun _ _ h => z_pP h fun _ h => z_nA h fun _ _ h => z_pP h fun _ h => z_nO h fun _ _ h => z_in (z4 h) fun _ h => z_pP h fun _ h => z_some h
theorem z8 (h : ZP s) : AL ZP (mX8_init a s) := z_nO h fun _ _ h => z_in (z4 h) fun _ h => z_pP h fun _ h => z_some h
theorem z11 (h : ZP s) : AL ZP (mX11_init a s) := z_nA h fun _ _ h => z_sI h (by decide) fun _ h => z_sI h (by decide) fun _ h => z_sI h (by decide) fun _ h => z_sI h (by decide) fun _ h => z_sI h (by decide) fun _ h => z_sI h (by decide) fun _ h => z_sI h (by decide) fun _ h => z_pP h fun _ h =>
  z_nO h fun _ _ h => z_in (z7 h) fun _ h => z_pP h fun _ h => z_nA h fun _ _ h => z_pP h fun _ h => z_nO h fun _ _ h => z_in (z9 h) fun _ h => z_pP h fun _ h => z_nO h fun _ _ h => z_in (z1 h) fun _ h => z_pP h fun _ h => z_nO h fun _ _ h => z_in (z3 h) fun _ h => z_pP h fun _ h =>
  z_nO h fun _ _ h => z_in (z0 h) fun _ h => z_pP h fun _ h => z_nO h fun _ _ h => z_in (z8 h) fun _ h => z_pP h fun _ h => z_nO h fun _ _ h => z_in (z10 h) fun _ h => z_pP h fun _ h => z_nO h fun _ _ h => z_in (z5 h) fun _ h => z_pP h fun _ h => z_pI h (by decide) fun _ h => z_some h
theorem z12 (h : ZP s) : AL ZP (mX12_init a s) := by
  unfold mX12_init
  repeat first
    | exact z_some (by assumption)
    | (refine z_nA (by assumption) ?_; intro _ _ _)
    | (refine z_pP (by assumption) ?_; intro _ _)
    | (refine z_pI (by assumption) (by decide) ?_; intro _ _)
    | (refine z_sI (by assumption) (by decide) ?_; intro _ _)
    | (refine z_b1 _ ?_; intro _)
end
theorem ini_ZP : ZP iniS := by
  have h0 : ZP e_0 := fun _ _ _ => rfl
  have h : AL (fun x : Nat × Nat × eS => ZP x.2.2) ini := z_nO h0 fun _ _ h => z_in (z11 h) fun _ h => z_nO h fun _ _ h => z_in (z12 h) fun _ h => z_some h
  exact h _ ini_eq
theorem ini_m : ∀ j, j < 60 → sI iniS 32 j = 0 ∧ sI iniS 33 j = 0 ∧ sI iniS 34 j = 0 ∧ sI iniS 39 j = 0 := by decide +kernel
theorem ini_z (j : Nat) : sI iniS 32 j = 0 ∧ sI iniS 33 j = 0 ∧ sI iniS 34 j = 0 ∧ sI iniS 39 j = 0 := by
  by_cases c : j < 60
  · exact ini_m j c
  · exact ⟨ini_ZP 32 j (by omega), ini_ZP 33 j (by omega), ini_ZP 34 j (by omega), ini_ZP 39 j (by omega)⟩
theorem ini_mi : (∀ k, k < 26 → sI iniS (mc k).1 (mc k).2 = A0.1 k) ∧ sI iniS 26 49 = 0 ∧ sI iniS 26 51 = 0 ∧ sI iniS 26 15 = -1 ∧ sI iniS 26 1 = 0 ∧ sI iniS 26 9 = 0 ∧ sI iniS 26 28 = 0 ∧ sI iniS 26 23 = 0 ∧ sI iniS 26 45 = 0 := by decide +kernel
theorem ini_RM : RM iniS A0 := by
  obtain ⟨a1, a2, a3, a4, a5, a6, a7, a8, a9⟩ := ini_mi
  exact ⟨a1, ⟨a2, rfl⟩, ⟨a3, rfl⟩, Or.inl ⟨a4, rfl⟩, ⟨a5, Nat.zero_le _, rfl, fun j _ => ⟨(ini_z j).1, (ini_z j).2.1, (ini_z j).2.2.1⟩⟩, ⟨a6, Nat.zero_le _, rfl, fun j _ => (ini_z j).2.2.2⟩, ⟨a7, Nat.zero_le _, rfl, rfl⟩, ⟨a8, rfl⟩, ⟨a9, Nat.zero_le _, rfl, fun i hi => absurd hi (Nat.not_lt_zero i)⟩⟩
theorem ini_si : (∀ k, k < 26 → k ≠ 17 → sI iniS (sc k).1 (sc k).2 = A0.1 k) ∧ sI iniS 18 3 = 0 ∧ sI iniS 24 1 = 0 ∧ sI iniS 24 2 = 0 ∧ sI iniS 18 5 = 0 ∧ sI iniS 2 2 = 0 ∧ sI iniS 0 3 = 0 ∧ sI iniS 21 2 = 0 ∧ sI iniS 21 3 = 0 ∧ sI iniS 8 4 = 0 ∧ sI iniS 8 5 = 0 ∧ sI iniS 8 6 = 0 ∧ sI iniS 14 2 = 0 ∧ sI iniS 14 3 = 0 ∧ sI iniS 14 4 = 0 := by decide +kernel
theorem ini_no : (∀ i, i < 60 → sP iniS 15 i = none) ∧ sP iniS 6 0 = none ∧ sn iniS = 58 ∧ ss iniS ≤ 71000 ∧ nul iniS = 60 := by decide +kernel
theorem ini_sm : sI iniS 12 1 = 0 ∧ sI iniS 16 1 = 0 ∧ sI iniS 19 1 = 0 ∧ sI iniS 1 0 = nI 1 ∧ sI iniS 1 6 = nI 300 ∧ sI iniS 7 0 = nI 0 ∧ sI iniS 7 1 = nI 0 ∧ sI iniS 7 2 = nI 0 ∧ sI iniS 7 3 = nI 1 ∧ sI iniS 7 4 = nI 1 ∧ sI iniS 7 5 = nI 0 ∧ nI 1 ≤ dF (nI 1) (nI 0) := by decide +kernel
theorem nolt {i : Nat} {p : Prop} (h : i < 0) : p := absurd h (Nat.not_lt_zero i)
theorem ini_RS : RS false 0 iniS A0 := by
  obtain ⟨i1, i2, o1, o2, x1, p1, c1, n1, n2, e1, e2, e3, a1, a2, a3⟩ := ini_si
  obtain ⟨w1, w2, w3, w4, w5⟩ := ini_no
  obtain ⟨m1, m2, m3, g0, g6, k0, k1, k2, k3, k4, k5, kd⟩ := ini_sm
  have d : DS iniS 0 0 := ⟨⟨fun i hi => nolt hi, fun i j hi => nolt hi⟩, ⟨fun i hi => nolt hi, fun i j hi => nolt hi⟩, ⟨fun i hi => Or.inl (w1 i hi), fun i j hi hj z => absurd (w1 i hi) z⟩, by unfold DZ; rw [w3, w5]; omega⟩
  have sm : SM iniS := ⟨⟨[], m1, by decide, fun i hi => nolt hi⟩, ⟨[], m2, by decide, fun i hi => nolt hi⟩, ⟨[], m3, by decide, fun i hi => nolt hi⟩, ⟨1, by decide, g0⟩, ⟨300, by decide, by decide, g6⟩, 0, 0, 0, 1, 1, 0, ⟨by decide, k0⟩, ⟨by decide, k1⟩, ⟨by decide, k2⟩, ⟨by decide, by decide, kd, k3⟩, ⟨by decide, by decide, k4⟩, ⟨by decide, k5⟩⟩
  have si : SI iniS A0 := ⟨i1, i2⟩
  have so : SO_ iniS (A0.2.1 0) := ⟨0, by decide, o1, o2, by decide, fun i hi => nolt hi⟩
  have sx : SXt false iniS (A0.2.1 1) := ⟨x1, by decide, fun z => absurd z (by decide)⟩
  have sl : SL iniS A0 := Or.inl ⟨rfl, w2⟩
  have sp : SP iniS (A0.2.2 0) := ⟨p1, fun i hi => nolt hi, fun i hi => nolt hi⟩
  have sc' : SC iniS (A0.2.2 0).length (A0.2.2 1) := ⟨c1, fun i hi => nolt hi, fun i j hi => nolt hi⟩
  have sn' : SN iniS (A0.2.2 5) := ⟨0, by decide, n1, n2, by decide, fun i hi => nolt hi⟩
  have se : SE iniS (A0.2.2 0).length (A0.2.2 2) (A0.2.2 3) := ⟨0, by decide, e1, e2, e3, by decide, fun i hi => nolt hi⟩
  have sa : SA iniS (A0.2.2 4) := ⟨0, by decide, a1, a2, by decide, fun i hi => nolt hi⟩
  have sz : SZ A0 := ⟨fun _ => ⟨rfl, rfl, rfl, rfl⟩, rfl, ST_0 rfl, Or.inl rfl⟩
  exact ⟨d, si, so, sx, sl, sp, sc', sn', se, sa, sm, sz, ⟨0, Nat.le_refl _, rfl⟩⟩
theorem ini_WW : WW 0 A0 := by
  have nm : ∀ {α : Type} {x : α} {p : Prop}, x ∈ ([] : List α) → p := fun h => absurd h List.not_mem_nil
  exact ⟨⟨Nat.zero_le _, Nat.zero_le _, Nat.zero_le _, ⟨12, by decide, by decide, rfl⟩, fun e he => nm he, fun e he => nm he, fun e he => nm he⟩, fun e he => nm he, fun e he => nm he, fun i j hi => nolt hi, ⟨0, 0, rfl, Nat.le_refl _, Nat.le_refl _, rfl, Nat.le_refl _⟩⟩
theorem ini_IV : IV 0 iniS A0 := ⟨ini_SH, ini_RM, ini_RS, ini_si.2.2.2.2.2.2.2.2.2.2.2.2.2.2, ini_WW, rxW_nil⟩
theorem pure_all : Pure := fun L xs hL => by
  obtain ⟨s', f, h1, h2⟩ := law_loop hL xs 100000 0 iniS A0 (Nat.zero_le _) (by omega) ini_IV
  exact ⟨s', (ini_law ini_eq).trans f, by omega, by omega⟩
