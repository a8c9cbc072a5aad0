/-! ===== one byte ===== -/
def BY (D : Nat) (s : eS) (A : aS) (l : List Int32) (x : Int32) (s' : eS) : Prop := ag xRc s s' ∧ ((x = 1 ∧ cbF l = 0 ∧ RS false D s' (ul A 1 l)) ∨ (x = 0 ∧ cbF l ≠ 0 ∧ RS false D s' (ul A 1 l) ∧ (l.length ≤ 5 ∨ ¬ nI l.length = 2 + l.getD 1 0)) ∨ (x = 2 ∧ cbF l ≠ 0 ∧ ¬ l.length ≤ 5 ∧ nI l.length = 2 + l.getD 1 0 ∧ RS true D s' (ul A 1 l) ∧ FS s' l))
set_option maxRecDepth 100000 in
/-- behind a byte of the control field, or of the rest -/
theorem S_115 {D : Nat} {s0 s : eS} (h : SH s) {A : aS} (r0 : RS false D s0 A) (g : ag xRc s0 s) {l : List Int32} (bf : byF l) (x : SX s l) (h3 : 3 ≤ l.length) {k : Nat} (hk : 4 ≤ k ∧ k ≤ 253) (ek : l.getD 1 0 = nI k) (hl : l.length ≤ k + 2) : ∃ c s', mX8_accept_115 18 s = some (c, s') ∧ BY D s0 A l c s' := by
  obtain ⟨x1, x2, x3⟩ := x
  obtain ⟨y1, y2, y3⟩ := x3 (by omega)
  have rf : RS false D s (ul A 1 l) := RS_rc r0 g (SXt_f ⟨x1, x2, x3⟩) ⟨_, y3⟩
  have e2k : (2 : Int32) + l.getD 1 0 = nI (k + 2) := by rw [ek, show (2 : Int32) = nI 2 from rfl, nI_add, Nat.add_comm]
  have e133 : cbF l ≠ 0 → ∃ c s', mX8_accept_133 18 s = some (c, s') ∧ BY D s0 A l c s' := by
    intro cb
    unfold mX8_accept_133
    rw [gI_18 h, b1S, gI_18 h, b1S, x1, y1, ek, show (2 : Int32) = nI 2 from rfl, nI_add]
    by_cases c : k + 2 ≤ l.length
    · rw [if_pos (nI_le c (by omega)), pI_18 h, b1S]
      have e : l.length = k + 2 := by omega
      have g2 : ag xRc s0 (e_I s 18 5 0) := ag_I g rfl
      have m2 : MT (e_I s 18 5 0) 19 20 (l.drop 6) := MT_ag (X := fun a k => a == 18) (ag_I ag_rf rfl) y3 rfl (fun _ => rfl)
      refine ⟨2, _, rfl, g2, Or.inr (Or.inr ⟨rfl, cb, by omega, by rw [e2k, e], RS_rc r0 g2 (SXt_t rII_eq) ⟨_, m2⟩, ?_, m2⟩)⟩
      rw [rII_ne (Or.inr (by decide)), y2]
      unfold ctN
      by_cases c6 : l.length ≤ 6
      · rw [if_pos c6, show l.length - 2 = 4 by omega]
      · rw [if_neg c6]
    · rw [if_neg (nI_ge (by omega) (by omega))]
      refine ⟨0, s, rfl, g, Or.inr (Or.inl ⟨rfl, cb, rf, Or.inr ?_⟩)⟩
      rw [e2k]
      exact fun z => c (Nat.le_of_eq ((nI_eq (by omega) (by omega)).mp z).symm)
  unfold mX8_accept_115
  rw [gI_18 h, b1S, x1]
  by_cases c6 : l.length = 6
  · have ect : sI s 18 1 = ctF l 4 := by
      rw [y2]; unfold ctN
      rw [if_pos (by omega), c6]
    have hic := S_isControl h bf ect y1
    have ecb : cbF l = cb6 l (l.getD 2 0) (if l.getD 4 0 &&& 1 = 0 then 1 else 0) := by
      unfold cbF
      rw [if_neg (by omega), if_neg (by omega), if_pos c6]
    rw [← ecb] at hic
    rw [if_pos (show nI l.length = 6 by rw [c6]; rfl), oK_18 h, b1S, hic, b2S]
    by_cases cb : cbF l = 0
    · rw [if_pos cb]
      exact ⟨1, s, rfl, g, Or.inl ⟨rfl, cb, rf⟩⟩
    · rw [if_neg cb]
      exact e133 cb
  · rw [if_neg (show ¬ nI l.length = 6 from fun z => c6 ((nI_eq (a := l.length) (b := 6) (by omega) (by omega)).mp z))]
    refine e133 ?_
    unfold cbF
    rw [if_neg (by omega), if_neg (by omega), if_neg c6]
    decide
set_option maxRecDepth 100000 in
theorem S_byte {D : Nat} {s : eS} (h : SH s) {A : aS} (r : RS false D s A) (rx : rxW (A.2.1 1)) {b : Nat} (hb : b < 256) : ∃ c s', mX8_accept 18 (nI b) s = some (c, s') ∧ BY D s A (A.2.1 1 ++ [nI b]) c s' := by
  obtain ⟨x1, x2, x3⟩ := SX_f r
  have bf : byF (A.2.1 1 ++ [nI b]) := byF_app rx.1 hb
  obtain ⟨lm, m19⟩ := (rs_m r).2.2.1
  have rxl := rx.2
  generalize hl0 : A.2.1 1 = l0 at *
  have hll : (l0 ++ [nI b]).length = l0.length + 1 := by rw [List.length_append]; rfl
  have h1 := SH_I (a := 18) (k := 5) (x := nI (l0.length + 1)) h
  have g1 : ag xRc s (e_I s 18 5 (nI (l0.length + 1))) := ag_I ag_rf rfl
  have e5 : sI (e_I s 18 5 (nI (l0.length + 1))) 18 5 = nI (l0.length + 1) := rII_eq
  unfold mX8_accept mX8_accept_29 mX8_accept_71 mX8_accept_72
  rw [gI_18 h, b1S, x1, nI_1, pI_18 h, b1S, gI_18 h1, b1S, e5]
  have q : ∀ c : Nat, c < 256 → (nI (l0.length + 1) = nI c ↔ l0.length + 1 = c) := fun c hc => nI_eq (by omega) (by omega)
  by_cases c1 : l0.length = 0
  · -- the first
    have e0 : l0 = [] := List.eq_nil_of_length_eq_zero c1
    subst e0
    have m1 : MT (e_I s 18 5 (nI 1)) 19 20 lm := MT_ag (X := fun a k => a == 18) (ag_I ag_rf rfl) m19 rfl (fun _ => rfl)
    have rf : RS false D (e_I s 18 5 (nI 1)) (ul A 1 [nI b]) := RS_rc r g1 (SXt_f ⟨rII_eq, by simp, fun z => absurd z (by simp)⟩) ⟨_, m1⟩
    rw [if_pos (show nI (([] : List Int32).length + 1) = 1 from rfl)]
    by_cases c : nI b = 104
    · rw [if_pos c]
      refine ⟨0, _, rfl, g1, Or.inr (Or.inl ⟨rfl, ?_, rf, Or.inl (by simp)⟩)⟩
      show (if nI b = 104 then (1 : Int32) else 0) ≠ 0
      rw [if_pos c]; decide
    · rw [if_neg c]
      refine ⟨1, _, rfl, g1, Or.inl ⟨rfl, ?_, rf⟩⟩
      show (if nI b = 104 then (1 : Int32) else 0) = 0
      rw [if_neg c]
  rw [if_neg (show ¬ nI (l0.length + 1) = 1 from fun z => c1 (by have := (q 1 (by omega)).mp z; omega)), b1S]
  by_cases c2 : l0.length = 1
  · -- the length
    have h2 := SH_I (a := 18) (k := 6) (x := nI b) h1
    have h3 := SH_I (a := 18) (k := 1) (x := 0) h2
    obtain ⟨f4, m4⟩ := S_clear (MG_19 h3)
    have g4 : ag xRc s (e_I (e_I (e_I (e_I s 18 5 (nI (l0.length + 1))) 18 6 (nI b)) 18 1 0) 19 1 0) := ag_I (ag_I (ag_I (ag_I ag_rf rfl) rfl) rfl) rfl
    have sx : SX (e_I (e_I (e_I (e_I s 18 5 (nI (l0.length + 1))) 18 6 (nI b)) 18 1 0) 19 1 0) (l0 ++ [nI b]) := by
      refine ⟨?_, by omega, fun _ => ⟨?_, ?_, ?_⟩⟩
      · rw [rII_ne (Or.inl (by decide)), rII_ne (Or.inr (by decide)), rII_ne (Or.inr (by decide)), rII_eq, hll]
      · rw [rII_ne (Or.inl (by decide)), rII_ne (Or.inr (by decide)), rII_eq]
        have := getD_last (l := l0) (b := nI b)
        rw [c2] at this
        exact this.symm
      · rw [rII_ne (Or.inl (by decide)), rII_eq]
        unfold ctN
        rw [if_pos (by omega), hll, c2]
        rfl
      · rw [List.drop_eq_nil_of_le (by omega)]; exact m4
    have rf : RS false D _ (ul A 1 (l0 ++ [nI b])) := RS_rc r g4 (SXt_f sx) ⟨_, m4⟩
    have gd1 : (l0 ++ [nI b]).getD 1 0 = nI b := by
      have := getD_last (l := l0) (b := nI b)
      rw [c2] at this
      exact this
    have ecb : cbF (l0 ++ [nI b]) = if 4 ≤ b ∧ b ≤ 253 then 1 else 0 := by
      unfold cbF
      rw [if_neg (by omega), if_pos (by omega), gd1]
      exact inL_nat (lo := 4) (hi := 253) (by omega) (by omega) (by omega)
    rw [if_pos (show nI (l0.length + 1) = 2 from (q 2 (by omega)).mpr (by omega)), pI_18 h1, b1S, pI_18 h2, b1S, gP_18_0 h3, b1S, b1S, oK_19 h3, b1S, f4, b1S]
    by_cases c : b < 4
    · rw [if_pos (lt_c (c := 4) 4 c)]
      exact ⟨1, _, rfl, g4, Or.inl ⟨rfl, by rw [ecb, if_neg (by omega)], rf⟩⟩
    rw [if_neg (nlt_c (c := 4) 4 (by omega))]
    by_cases c' : 253 < b
    · rw [if_pos (c_lt (c := 253) 253 c')]
      exact ⟨1, _, rfl, g4, Or.inl ⟨rfl, by rw [ecb, if_neg (by omega)], rf⟩⟩
    · rw [if_neg (c_nlt (c := 253) 253 (by omega))]
      exact ⟨0, _, rfl, g4, Or.inr (Or.inl ⟨rfl, by rw [ecb, if_pos (by omega)]; decide, rf, Or.inl (by omega)⟩)⟩
  rw [if_neg (show ¬ nI (l0.length + 1) = 2 from fun z => c2 (by have := (q 2 (by omega)).mp z; omega)), b1S]
  obtain ⟨k, hk1, hk2, ek, hlk⟩ := rxl (by omega)
  obtain ⟨y1, y2, y3⟩ := x3 (by omega)
  have gd1 : (l0 ++ [nI b]).getD 1 0 = l0.getD 1 0 := getD_app (by omega)
  by_cases c6 : 6 < l0.length + 1
  · -- the rest
    have y3' : MT (e_I s 18 5 (nI (l0.length + 1))) 19 20 (l0.drop 6) := MT_ag (X := fun a k => a == 18) (ag_I ag_rf rfl) y3 rfl (fun _ => rfl)
    obtain ⟨s2, f2, g2, m2⟩ := S_add (MG_19 h1) y3' ((nI b).toInt64) (n := 1) (by rw [List.length_drop]; omega)
    have eb : lb ((nI b).toInt64) 1 = [nI b] := by
      rw [lb_nat _ (by omega), uN_i2l (by omega), bN_1 b hb]
    rw [eb] at m2
    have h2 := SH_ag h1 g2
    have g12 : ag xRc s s2 := ag_tr g1 (ag_mono g2 (fun a k hx => by simp [xMs] at hx ⊢; omega))
    have sx : SX s2 (l0 ++ [nI b]) := by
      refine ⟨?_, by omega, fun _ => ⟨?_, ?_, ?_⟩⟩
      · rw [g2.2 _ _ rfl, rII_eq, hll]
      · rw [g2.2 _ _ rfl, rII_ne (Or.inr (by decide)), y1, gd1]
      · rw [g2.2 _ _ rfl, rII_ne (Or.inr (by decide)), y2]
        have n1 : ctN l0 = 4 := by unfold ctN; split <;> omega
        have n2 : ctN (l0 ++ [nI b]) = 4 := by unfold ctN; rw [if_neg (by omega)]
        rw [n1, n2, ctF_app 4 (by omega)]
      · rw [List.drop_append_of_le_length (by omega)]; exact m2
    rw [if_pos (c_lt (c := 6) 6 c6), gP_18_0 h1, b1S, b1S, oK_19 h1, b1S, show mX4_add 19 ((nI b).toInt64) 1 _ = _ from f2, b1S]
    exact S_115 h2 r g12 bf sx (by omega) ⟨hk1, hk2⟩ (gd1.trans ek) (by omega)
  · -- the control field
    have e1 : sI (e_I s 18 5 (nI (l0.length + 1))) 18 1 = ctF l0 (ctN l0) := (rII_ne (Or.inr (by decide))).trans y2
    have n1 : ctN l0 = l0.length - 2 := by unfold ctN; rw [if_pos (by omega)]
    have e3 : nI (l0.length + 1) - 3 = nI (l0.length - 2) := by
      rw [show (3 : Int32) = nI 3 from rfl, pk_sub (by omega)]; congr 1
    have h2 := SH_I (a := 18) (k := 1) (x := ctF l0 (ctN l0) ||| (nI b <<< (((8 : Int32) * nI (l0.length - 2)) &&& 31))) h1
    have g12 : ag xRc s (e_I (e_I s 18 5 (nI (l0.length + 1))) 18 1 (ctF l0 (ctN l0) ||| (nI b <<< (((8 : Int32) * nI (l0.length - 2)) &&& 31)))) := ag_I g1 rfl
    have m2 : MT (e_I (e_I s 18 5 (nI (l0.length + 1))) 18 1 (ctF l0 (ctN l0) ||| (nI b <<< (((8 : Int32) * nI (l0.length - 2)) &&& 31)))) 19 20 (l0.drop 6) := MT_ag (X := fun a k => a == 18) (ag_I (ag_I ag_rf rfl) rfl) y3 rfl (fun _ => rfl)
    have sx : SX (e_I (e_I s 18 5 (nI (l0.length + 1))) 18 1 (ctF l0 (ctN l0) ||| (nI b <<< (((8 : Int32) * nI (l0.length - 2)) &&& 31)))) (l0 ++ [nI b]) := by
      refine ⟨?_, by omega, fun _ => ⟨?_, ?_, ?_⟩⟩
      · rw [rII_ne (Or.inr (by decide)), rII_eq, hll]
      · rw [rII_ne (Or.inr (by decide)), rII_ne (Or.inr (by decide)), y1, gd1]
      · rw [rII_eq, n1]
        have n2 : ctN (l0 ++ [nI b]) = (l0.length - 2) + 1 := by unfold ctN; rw [if_pos (by omega)]; omega
        rw [n2]
        show _ = ctF (l0 ++ [nI b]) (l0.length - 2) ||| ((l0 ++ [nI b]).getD (2 + (l0.length - 2)) 0 <<< ((8 * nI (l0.length - 2)) &&& 31))
        rw [ctF_app _ (by omega), show 2 + (l0.length - 2) = l0.length by omega, getD_last]
      · rw [List.drop_eq_nil_of_le (by omega)]
        rw [List.drop_eq_nil_of_le (by omega)] at m2
        exact m2
    rw [if_neg (c_nlt (c := 6) 6 (by omega)), gI_18 h1, b1S, b1S, e1, e3, pI_18 h1, b1S]
    exact S_115 h2 r g12 bf sx (by omega) ⟨hk1, hk2⟩ (gd1.trans ek) (by omega)
