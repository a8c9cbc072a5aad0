/-! ===== what the station leaves alone: the model, and the FRAME that came ===== -/
abbrev xK : Nat → Nat → Bool := fun a k => (decide (26 ≤ a) && decide (a < 58)) || (a == 18 && (k == 1 || k == 6)) || a == 19 || a == 20
def kS (s s' : eS) : Prop := SH s' ∧ ∀ a k, xK a k = true → sI s' a k = sI s a k
theorem kS_rf {s : eS} (h : SH s) : kS s s := ⟨h, fun _ _ _ => rfl⟩
theorem kS_tr {s s' s'' : eS} (h : kS s s') (h2 : kS s' s'') : kS s s'' := ⟨h2.1, fun a k hx => (h2.2 a k hx).trans (h.2 a k hx)⟩
theorem kS_ag {X : Nat → Nat → Bool} {s s' : eS} (h : SH s) (g : ag X s s') (hX : ∀ a k, X a k = true → xK a k = false) : kS s s' := ⟨SH_ag h g, fun a k hx => g.2 a k (by
  cases c : X a k with
  | false => rfl
  | true => rw [hX a k c] at hx; cases hx)⟩
theorem kS_I {s s' : eS} (h : kS s s') {a k : Nat} {x : Int32} (hx : xK a k = false) : kS s (e_I s' a k x) := ⟨SH_I h.1, fun b j hb => by
  rw [rII_ne]
  · exact h.2 b j hb
  · by_cases e1 : b = a
    · refine Or.inr (fun e2 => ?_)
      rw [e1, e2, hx] at hb
      cases hb
    · exact Or.inl e1⟩
theorem kS_P {s s' : eS} (h : kS s s') {x : Option Nat} : kS s (e_P s' 6 0 x) := ⟨SH_P h.1 (by decide), h.2⟩
/-- the SELECTION's command is a reference: only it changes -/
theorem pA_6 {s : eS} (x : Option Nat) (p : Nat) : pA (e_P s 6 0 x) p = pA s p := rfl
theorem rP6 {s : eS} (x : Option Nat) {a k : Nat} (h : a ≠ 6) : sP (e_P s 6 0 x) a k = sP s a k := by
  show e_u (sP s) 6 0 x a k = _
  unfold e_u
  rw [if_neg h]
theorem RS_sel {t : Bool} {C : Nat} {s : eS} {A B : aS} (r : RS t C s A) {x : Option Nat} (l : SL (e_P s 6 0 x) B) (e1 : B.1 = A.1) (e2 : B.2.1 0 = A.2.1 0 ∧ B.2.1 1 = A.2.1 1) (e3 : B.2.2 = A.2.2) (z : SZ B) : RS t C (e_P s 6 0 x) B := by
  obtain ⟨d, i, o, x1, _, p, c, n, e, a, m, _, f⟩ := r
  have hr : ∀ i, i < 60 → ¬ sP s 15 i = none → rA (e_P s 6 0 x) i = rA s i := fun i hi hn => by
    have h4 := DA_at d.2.2.1 hi hn
    show ((e_u (sP s) 6 0 x) (mA s i) 0).getD 0 = _
    unfold e_u
    rw [if_neg (by omega)]
    rfl
  refine ⟨?_, SI_A i e1.symm, by rw [e2.1]; exact o, by rw [e2.2]; exact x1, l, by rw [e3]; exact p, ?_, by rw [e3]; exact n, by rw [e3]; exact e, ?_, m, z, by unfold SF; rw [e1]; exact f⟩
  · rw [e3]
    refine ⟨d.1, d.2.1, ⟨fun i hi => ?_, fun i j hi hj c1 c2 e => d.2.2.1.2 i j hi hj c1 c2 ?_⟩, d.2.2.2⟩
    · rcases d.2.2.1.1 i hi with h | h
      · exact Or.inl h
      · have hn : ¬ sP s 15 i = none := by rw [h.1]; exact fun z => by cases z
        rw [hr i hi hn]
        refine Or.inr ⟨h.1, ⟨h.2.1.1, ?_, h.2.1.2.2⟩, h.2.2⟩
        show sP (e_P s 6 0 x) (mA s i) 0 = _
        rw [rP6 x (by omega)]
        exact h.2.1.2.1
    · rw [hr i hi c1, hr j hj c2] at e; exact e
  · rw [e3]
    refine ⟨c.1, fun j hj => ?_, c.2.2⟩
    obtain ⟨k, pt, h1, h2, h3, h4⟩ := c.2.1 j hj
    refine ⟨k, pt, h1, h2, h3, ?_⟩
    have h58 := (d.2.1.1 j hj).2.2
    rw [rP6 x (show cA (e_P s 6 0 x) j ≠ 6 by show cA s j ≠ 6; omega)]
    exact h4
  · rw [e3]
    obtain ⟨st, b1, b2, b3, b4, b5⟩ := a
    refine ⟨st, b1, b2, b3, b4, fun i hi => ?_⟩
    have h5 := b5 i hi
    rw [hr _ (Nat.mod_lt _ (by omega)) h5.1]
    exact h5
/-! ===== THE OUT ===== -/
abbrev xO : Nat → Nat → Bool := fun a k => (a == 24 && k == 2) || a == 25
theorem xO_K : ∀ a k, xO a k = true → xK a k = false := fun a k h => by
  simp at h
  simp
  omega
set_option maxRecDepth 100000 in
theorem S_outAdd {s : eS} (h : SH s) {l : List Int32} (o : SO_ s l) (hl : l.length < 4096) (x : Int32) : ∃ s', mX5_add 24 x s = some s' ∧ ag xO s s' ∧ SO_ s' (l ++ [x &&& 255]) := by
  obtain ⟨st, hst, e1, e2, _, e3⟩ := o
  have hm : (st + l.length) % 4096 < 4096 := Nat.mod_lt _ (by omega)
  have hi : ¬ nI ((st + l.length) % 4096) < 0 ∧ (nI ((st + l.length) % 4096)).toNatClampNeg < 4096 := nIc (by omega) hm
  refine ⟨e_I (e_I s 25 ((st + l.length) % 4096) x.toInt8.toInt32) 24 2 (nI (l.length + 1)), ?_, ag_I (ag_I ag_rf rfl) rfl, st, hst, ?_, ?_, ?_, ?_⟩
  · unfold mX5_add mX5_add_40
    rw [gI_24 h, b1S, e2, if_neg (c_nle (c := 4096) 4096 hl), gP_24_0 h, b1S, gI_24 h, b1S, e1, b1S, b1S, nI_add, show (4096 : Int32) = nI 4096 from rfl, pk_rem (by omega) (by omega) (by omega), sB_25 h hi, b1S, gI_24 (SH_I h), b1S, pI_24 (SH_I h), b1S, rII_ne (Or.inl (by decide)), e2, nI_clamp (by omega), i8i8, nI_1]
  · rw [rII_ne (Or.inr (by decide)), rII_ne (Or.inl (by decide))]; exact e1
  · rw [rII_eq, List.length_append]; rfl
  · rw [List.length_append]; exact hl
  · intro i hi2
    rw [List.length_append] at hi2
    rw [rII_ne (Or.inl (by decide))]
    by_cases c : i < l.length
    · rw [rII_ne (Or.inr (by omega)), List.getD_eq_getElem?_getD, List.getElem?_append_left c, ← List.getD_eq_getElem?_getD]
      exact e3 i c
    · have e : i = l.length := by simp at hi2; omega
      subst e
      rw [rII_eq, by_i8, List.getD_eq_getElem?_getD, List.getElem?_append_right (Nat.le_refl _), Nat.sub_self]
      rfl
theorem RS_out {t : Bool} {C : Nat} {s s' : eS} {A : aS} {l : List Int32} (r : RS t C s A) (g : ag xO s s') (o : SO_ s' l) : RS t C s' (ul A 0 l) := ⟨(have q := rs_d r; DS_ag g q), (have q := rs_i r; SI_ag g q (by decide) rfl), o, (have q := rs_x r; SXt_ag g q ⟨rfl, rfl, rfl, rfl⟩ (fun _ => rfl)), (have q := rs_l r; SL_ag g q ⟨rfl, rfl, rfl⟩), (have q := rs_p r; SP_ag g (rs_d r).1 q rfl (fun a k hx => by simp <;> omega)), (have q := rs_c r; SC_ag g (rs_d r).1 (rs_d r).2.1 q rfl (fun a k hx => by simp <;> omega)), (have q := rs_n r; SN_ag g q ⟨rfl, rfl⟩ (fun _ => ⟨rfl, rfl⟩)), (have q := rs_e r; SE_ag g (rs_d r).1 q ⟨rfl, rfl, rfl⟩ (fun a k hx => by simp <;> omega)), (have q := rs_a r; SA_ag g (rs_d r).2.2.1 q ⟨rfl, rfl⟩ (fun a k hx => by simp <;> omega)), (have q := rs_m r; SM_ag g q ⟨rfl, rfl, rfl⟩ (fun _ => ⟨rfl, rfl, rfl, rfl, rfl⟩)), (have q := rs_z r; q), (have q := rs_f r; q)⟩
/-! ===== CLOSING ===== -/
theorem RS_selNone {t : Bool} {C : Nat} {s : eS} {A : aS} (r : RS t C s A) : RS t C (e_P s 6 0 none) (ul A 2 []) := RS_sel r (Or.inl ⟨rfl, rfl⟩) rfl ⟨rfl, rfl⟩ rfl ⟨fun h => ⟨rfl, ((rs_z r).1 h).2⟩, (rs_z r).2⟩
abbrev xSh : Nat → Nat → Bool := fun a k => (a == 0 && (k == 11 || k == 12 || k == 16)) || (a == 14 && (k == 2 || k == 3 || k == 4)) || (a == 6 && k == 3) || (a == 8 && k == 6) || (a == 21 && (k == 2 || k == 3)) || (a == 18 && (k == 5 || k == 3))
theorem ag_shut {s : eS} (why : Int32) : ag xSh s (e_I (e_I (e_I (e_I (e_I (e_I (e_I (e_I (e_I (e_I (e_I (e_I s 0 11 0) 0 12 why) 14 2 0) 14 3 0) 14 4 0) 6 3 0) 8 6 0) 21 2 0) 21 3 0) 18 5 0) 18 3 0) 0 16 0) :=
  ag_I (ag_I (ag_I (ag_I (ag_I (ag_I (ag_I (ag_I (ag_I (ag_I (ag_I (ag_I ag_rf rfl) rfl) rfl) rfl) rfl) rfl) rfl) rfl) rfl) rfl) rfl) rfl
theorem SI_shut {s : eS} {A : aS} (i : SI s A) (why : Int32) : SI (e_I (e_I (e_I (e_I (e_I (e_I (e_I (e_I (e_I (e_I (e_I (e_I s 0 11 0) 0 12 why) 14 2 0) 14 3 0) 14 4 0) 6 3 0) 8 6 0) 21 2 0) 21 3 0) 18 5 0) 18 3 0) 0 16 0) (a_close A why) := by
  have i1 := SI_set (SI_set i 7 (by decide) 0) 8 (by decide) why
  have g : ag (fun a k => (a == 14) || (a == 6) || (a == 8) || (a == 21 && (k == 2 || k == 3)) || (a == 18 && k == 5)) (e_I (e_I s 0 11 0) 0 12 why) (e_I (e_I (e_I (e_I (e_I (e_I (e_I (e_I (e_I (e_I s 0 11 0) 0 12 why) 14 2 0) 14 3 0) 14 4 0) 6 3 0) 8 6 0) 21 2 0) 21 3 0) 18 5 0) := ag_I (ag_I (ag_I (ag_I (ag_I (ag_I (ag_I (ag_I ag_rf rfl) rfl) rfl) rfl) rfl) rfl) rfl) rfl
  have i2 := SI_ag g i1 (by decide) rfl
  have i3 : SI (e_I (e_I (e_I (e_I (e_I (e_I (e_I (e_I (e_I (e_I (e_I s 0 11 0) 0 12 why) 14 2 0) 14 3 0) 14 4 0) 6 3 0) 8 6 0) 21 2 0) 21 3 0) 18 5 0) 18 3 0) (ui (ui (ui A 7 0) 8 why) 17 (A.1 16)) := by
    refine ⟨fun k hk h17 => ?_, ?_⟩
    · rw [rII_ne (by
        have : ∀ k, k < 26 → (sc k).1 ≠ 18 ∨ (sc k).2 ≠ 3 := by decide +kernel
        exact this k hk)]
      have := i2.1 k hk h17
      rw [this]
      show _ = if k = 17 then _ else _
      rw [if_neg h17]
    · rw [rII_eq]
      show (0 : Int32) = A.1 16 - A.1 16
      rw [Int32.sub_self]
  exact SI_A (SI_set i3 12 (by decide) 0) rfl
theorem e_PI {s : eS} {a k b j : Nat} {x : Int32} {y : Option Nat} : e_P (e_I s a k x) b j y = e_I (e_P s b j y) a k x := by
  obtain ⟨s1, s2⟩ := s
  exact rfl
set_option maxRecDepth 100000 in
theorem S_shut0 {s : eS} (h : SH s) (why : Int32) : ∃ s', mX11_shut 0 why s = some s' ∧ ag xSh (e_P s 6 0 none) s' ∧ (∀ A, SI s A → SI s' (a_close A why)) ∧ sI s' 14 2 = 0 ∧ sI s' 14 3 = 0 ∧ sI s' 14 4 = 0 ∧ sI s' 8 6 = 0 ∧ sI s' 21 2 = 0 ∧ sI s' 21 3 = 0 ∧ sI s' 18 5 = 0 := by
  refine ⟨e_I (e_I (e_I (e_I (e_I (e_I (e_I (e_I (e_I (e_I (e_I (e_I (e_P s 6 0 none) 0 11 0) 0 12 why) 14 2 0) 14 3 0) 14 4 0) 6 3 0) 8 6 0) 21 2 0) 21 3 0) 18 5 0) 18 3 0) 0 16 0, ?_, ag_shut (s := e_P s 6 0 none) why, fun A i => SI_shut (s := e_P s 6 0 none) i why, ?_⟩
  · unfold mX11_shut mX0_clear mX9_end mX3_waitAgain mX10_forget mX8_forget
    have hp : ∀ (s1 : eS), SH s1 → p_P s1 109 0 6 none = some (e_P s1 6 0 none) := fun s1 h1 => pP_s h1 (by decide) rfl
    simp (disch := first | exact h | ((repeat first | apply SH_I | refine SH_P ?_ (by decide)); exact h) | decide) only [pI_0, b1S, gP_0_7, gP_0_4, gP_0_6, gP_0_9, gP_0_8, oK_14, oK_6, oK_8, oK_21, oK_18, pI_14, pZ_14, hp, pI_6, pI_8, pI_21, pI_18, pZ_0, e_PI]
  · refine ⟨?_, ?_, ?_, ?_, ?_, ?_, ?_⟩ <;> simp (disch := decide) only [rII_eq, rII_ne]
theorem S_shut {t : Bool} {C : Nat} {s : eS} (h : SH s) {A : aS} (r : RS t C s A) (why : Int32) : ∃ s', mX11_shut 0 why s = some s' ∧ kS s s' ∧ RS t C s' (a_close A why) ∧ sI s' 14 4 = 0 := by
  obtain ⟨s', e0, g, hi, c1, c2, c3, c4, c5, c6, c7⟩ := S_shut0 h why
  have h1 := SH_P (r := none) h (show (6, 0) ∉ pL by decide)
  have r1 := RS_selNone r
  refine ⟨s', e0, kS_tr (kS_P (kS_rf h)) (kS_ag h1 g (fun a k hx => by simp at hx; simp; omega)), ?_, c3⟩
  obtain ⟨st, b1, b2, b3, b4, b5, b6⟩ := rs_e r1
  have b3' : sI s' 8 5 = nI (0 + (A.2.2 2 ++ A.2.2 3).length) := (g.2 _ _ rfl).trans (b3.trans (by rw [List.length_append, Nat.zero_add]; rfl))
  have b5' : 0 + (A.2.2 2 ++ A.2.2 3).length ≤ 52 := by rw [List.length_append, Nat.zero_add]; exact b5
  have z : SZ (a_close A why) := ⟨fun _ => ⟨rfl, rfl, rfl, rfl⟩, rfl, ST_0 rfl, Or.inl rfl⟩
  have hE : SE s' (A.2.2 0).length [] (A.2.2 2 ++ A.2.2 3) := ⟨st, b1, (g.2 _ _ rfl).trans b2, b3', c4, b5', fun i hi => by
    have hi2 : i < (A.2.2 2).length + (A.2.2 3).length := by
      have : i < 0 + ((A.2.2 2) ++ (A.2.2 3)).length := hi
      rw [List.length_append, Nat.zero_add] at this
      exact this
    exact evS_ag g (fun p hp => ⟨by have := ((rs_d r1).1.1 p hp).2.2; simp <;> omega, by have := ((rs_d r1).1.1 p hp).2.2; simp <;> omega⟩) (b6 i hi2)⟩
  have hN : SN s' [] := ⟨0, by decide, c5, c6, Nat.zero_le _, fun i hi => absurd hi (Nat.not_lt_zero i)⟩
  have hA : SA s' [] := ⟨0, by decide, c1, c2, Nat.zero_le _, fun i hi => absurd hi (Nat.not_lt_zero i)⟩
  have hL : SL s' (a_close A why) := Or.inl ⟨rfl, by rw [ag_P g]; rfl⟩
  have hI := hi A (rs_i r)
  exact ⟨(have q := rs_d r1; DS_ag g q), hI, (have q := rs_o r1; SO_ag g q ⟨rfl, rfl⟩ (fun _ => rfl)), SXt_0 c7, hL, (have q := rs_p r1; SP_ag g (rs_d r1).1 q rfl (fun a k hx => by simp <;> omega)), (have q := rs_c r1; SC_ag g (rs_d r1).1 (rs_d r1).2.1 q rfl (fun a k hx => by simp <;> omega)), hN, hE, hA, (have q := rs_m r1; SM_ag g q ⟨rfl, rfl, rfl⟩ (fun _ => ⟨rfl, rfl, rfl, rfl, rfl⟩)), z, (have q := rs_f r1; q)⟩
