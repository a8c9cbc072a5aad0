/-! ===== the law's loop ===== -/
theorem sc_in {L : Nat} (hL : L ≤ 2560) (xs : Nat → Int32) {i : Nat} (h : i < L) : sc_I L xs (nI i) = some (xs i) := by
  unfold sc_I
  rw [nI_clamp (by omega), if_pos ⟨nI_pos (by omega), h⟩]
theorem law_end {L i : Nat} (hL : L ≤ 2560) (hi : i ≤ L) : ((Nat.toInt32 L) - (5 : Int32) < nI i) ↔ ¬ i + 5 ≤ L := by
  have e : (nI L - nI 5).toInt = (L : Int) - 5 := pk_sub_toInt (a := L) (b := 5) (by omega) (by omega)
  show nI L - nI 5 < nI i ↔ _
  rw [Int32.lt_iff_toInt_lt, e, nI_toInt (by omega)]
  omega
abbrev Ok (f : Option (Int32 × eS)) : Prop := ∃ s', f = some (1, s') ∧ sn s' ≤ 300 ∧ ss s' ≤ 90000
set_option maxRecDepth 100000 in
theorem law_loop {L : Nat} (hL : L ≤ 2560) (xs : Nat → Int32) : ∀ (n c : Nat) (s : eS) (A : aS), 5 * c ≤ L → L + 5 ≤ 5 * c + 5 * n → IV c s A → Ok (mL_law_18 L xs n (some 0) (some 26) (nI (5 * c)) s) := by
  intro n
  induction n with
  | zero => intro c s A h1 h2 _; omega
  | succ n ih =>
    intro c s A h1 h2 v
    have h : SH s := v.1
    have hc : c ≤ 600 := by omega
    unfold mL_law_18
    by_cases ce : 5 * c + 5 ≤ L
    · rw [if_neg (fun z => (law_end hL h1).mp z ce)]
      have fin : ∀ {s2 : eS} {B : aS}, IV (c + 1) s2 B → Ok (mL_law_588 L xs (mL_law_18 L xs n) (some 0) (some 26) (nI (5 * c)) s2) := fun {s2 B} v2 => by
        unfold mL_law_588
        have := ih (c + 1) s2 B (by omega) (by omega) v2
        rw [show 5 * (c + 1) = 5 * c + 5 by omega] at this
        rw [show nI (5 * c) + 5 = nI (5 * c + 5) from nI_add (5 * c) 5]
        exact this
      have q0 : sc_I L xs (nI (5 * c)) = some (xs (5 * c)) := sc_in hL xs (by omega)
      have q1 : sc_I L xs (nI (5 * c) + 1) = some (xs (5 * c + 1)) := by rw [show nI (5 * c) + 1 = nI (5 * c + 1) from nI_add (5 * c) 1]; exact sc_in hL xs (by omega)
      have q2 : sc_I L xs (nI (5 * c) + 2) = some (xs (5 * c + 2)) := by rw [show nI (5 * c) + 2 = nI (5 * c + 2) from nI_add (5 * c) 2]; exact sc_in hL xs (by omega)
      have q3 : sc_I L xs (nI (5 * c) + 3) = some (xs (5 * c + 3)) := by rw [show nI (5 * c) + 3 = nI (5 * c + 3) from nI_add (5 * c) 3]; exact sc_in hL xs (by omega)
      have q4 : sc_I L xs (nI (5 * c) + 4) = some (xs (5 * c + 4)) := by rw [show nI (5 * c) + 4 = nI (5 * c + 4) from nI_add (5 * c) 4]; exact sc_in hL xs (by omega)
      generalize nI (5 * c) = ii at *
      rw [q0, b1S]
      generalize xs (5 * c) &&& 15 = op
      generalize xs (5 * c + 1) = x1 at *
      generalize xs (5 * c + 2) = x2 at *
      generalize xs (5 * c + 3) = x3 at *
      generalize xs (5 * c + 4) = x4 at *
      generalize mL_law_18 L xs n = go at *
      by_cases c0 : op = 0
      · obtain ⟨x, s1, s2, B, f1, h1, f2, v2⟩ := B_set v x1 x2
        rw [if_pos c0, q1, b1S, q2, b1S, b1S, oK_0 h, b1S, f1, b2S, b1S, b1S, b1S, oK_26 h1, b1S, f2, b2S, if_pos rfl]
        exact fin v2
      rw [if_neg c0]
      by_cases c1 : op = 1
      · have one : ∀ t, (t = 0 ∨ t = 1) → (x4 = 0 ↔ t = 0) → Ok (mL_law_166 L xs go (some 0) (some 26) ii t x3 x2 x1 (some 0) s) := fun t ht hx => by
          obtain ⟨x, s1, s2, B, f1, h1, f2, v2⟩ := B_point v x1 x2 x3 ht
          unfold mL_law_166 mL_law_198
          rw [b1S, oK_0 h, b1S, f1, b2S, q1, b1S, q2, b1S, q3, b1S, q4, b1S]
          rcases ht with rfl | rfl
          · rw [if_pos (hx.mpr rfl), b1S, oK_26 h1, b1S, f2, b2S, if_pos rfl]
            exact fin v2
          · rw [if_neg (fun z => absurd (hx.mp z) (by decide)), b1S, oK_26 h1, b1S, f2, b2S, if_pos rfl]
            exact fin v2
        rw [if_pos c1, q1, b1S, q2, b1S, q3, b1S, q4, b1S]
        by_cases c4 : x4 = 0
        · rw [if_pos c4]
          exact one 0 (Or.inl rfl) ⟨fun _ => rfl, fun _ => c4⟩
        · rw [if_neg c4]
          exact one 1 (Or.inr rfl) ⟨fun z => absurd z c4, fun z => absurd z (by decide)⟩
      rw [if_neg c1]
      by_cases c2 : op = 2
      · have one : ∀ t, (t = 0 ∨ t = 1) → (x4 = 0 ↔ t = 0) → Ok (mL_law_235 L xs go (some 0) (some 26) ii t x3 x2 x1 (some 0) s) := fun t ht hx => by
          obtain ⟨x, s1, s2, B, f1, h1, f2, v2⟩ := B_command v x1 x2 x3 ht
          unfold mL_law_235 mL_law_267
          rw [b1S, oK_0 h, b1S, f1, b2S, q1, b1S, q2, b1S, q3, b1S, q4, b1S]
          rcases ht with rfl | rfl
          · rw [if_pos (hx.mpr rfl), b1S, oK_26 h1, b1S, f2, b2S, if_pos rfl]
            exact fin v2
          · rw [if_neg (fun z => absurd (hx.mp z) (by decide)), b1S, oK_26 h1, b1S, f2, b2S, if_pos rfl]
            exact fin v2
        rw [if_pos c2, q1, b1S, q2, b1S, q3, b1S, q4, b1S]
        by_cases c4 : x4 = 0
        · rw [if_pos c4]
          exact one 0 (Or.inl rfl) ⟨fun _ => rfl, fun _ => c4⟩
        · rw [if_neg c4]
          exact one 1 (Or.inr rfl) ⟨fun z => absurd z c4, fun z => absurd z (by decide)⟩
      rw [if_neg c2]
      by_cases c3 : op = 3
      · obtain ⟨x, s1, s2, B, f1, h1, f2, v2⟩ := B_change hc v x1 x2 x3
        rw [if_pos c3, q1, b1S, q2, b1S, q3, b1S, b1S, oK_0 h, b1S, f1, b2S, b1S, b1S, b1S, b1S, oK_26 h1, b1S, f2, b2S, if_pos rfl]
        exact fin v2
      rw [if_neg c3]
      by_cases c4 : op = 4
      · obtain ⟨x, s1, s2, B, f1, h1, f2, v2⟩ := B_open v
        rw [if_pos c4, b1S, oK_0 h, b1S, f1, b2S, b1S, oK_26 h1, b1S, f2, b2S, if_pos rfl]
        exact fin v2
      rw [if_neg c4]
      by_cases c5 : op = 5
      · obtain ⟨x, s1, s2, B, f1, h1, f2, v2⟩ := B_close v
        rw [if_pos c5, b1S, oK_0 h, b1S, f1, b2S, b1S, oK_26 h1, b1S, f2, b2S, if_pos rfl]
        exact fin v2
      rw [if_neg c5]
      by_cases c6 : op = 6
      · obtain ⟨x, s1, s2, B, f1, h1, f2, v2⟩ := B_come hc v x1 ((x2.toInt64 <<< ((32 : Int32).toInt64 &&& 63)) ||| (x3.toInt64 &&& (4294967295 : Int64)))
        rw [if_pos c6, q1, b1S, q2, b1S, q3, b1S, b1S, oK_0 h, b1S, f1, b2S, b1S, b1S, b1S, b1S, oK_26 h1, b1S, f2, b2S, if_pos rfl]
        exact fin v2
      rw [if_neg c6]
      by_cases c7 : op = 7
      · obtain ⟨x, s1, s2, B, f1, h1, f2, v2⟩ := B_tick hc v x1
        rw [if_pos c7, q1, b1S, b1S, oK_0 h, b1S, f1, b2S, b1S, b1S, oK_26 h1, b1S, f2, b2S, if_pos rfl]
        exact fin v2
      rw [if_neg c7]
      by_cases c8 : op = 8
      · obtain ⟨x, s1, s2, B, f1, h1, f2, v2⟩ := B_out v x1
        rw [if_pos c8, q1, b1S, b1S, oK_0 h, b1S, f1, b2S, b1S, b1S, oK_26 h1, b1S, f2, b2S, if_pos rfl]
        exact fin v2
      rw [if_neg c8]
      by_cases c9 : op = 9
      · obtain ⟨x, s1, s2, B, f1, h1, f2, v2⟩ := B_take v x1
        rw [if_pos c9, q1, b1S, b1S, oK_0 h, b1S, f1, b2S, b1S, b1S, oK_26 h1, b1S, f2, b2S, if_pos rfl]
        exact fin v2
      rw [if_neg c9]
      by_cases c10 : op = 10
      · obtain ⟨x, s1, s2, B, f1, h1, f2, v2⟩ := B_told v x1 x2
        rw [if_pos c10, q1, b1S, q2, b1S, b1S, oK_0 h, b1S, f1, b2S, b1S, b1S, b1S, oK_26 h1, b1S, f2, b2S, if_pos rfl]
        exact fin v2
      rw [if_neg c10]
      by_cases c11 : op = 11
      · obtain ⟨x, s1, s2, B, f1, h1, f2, v2⟩ := B_ordered v x1 x2
        rw [if_pos c11, q1, b1S, q2, b1S, b1S, oK_0 h, b1S, f1, b2S, b1S, b1S, b1S, oK_26 h1, b1S, f2, b2S, if_pos rfl]
        exact fin v2
      rw [if_neg c11]
      by_cases c12 : op = 12
      · obtain ⟨x, s1, s2, B, f1, h1, f2, v2⟩ := B_clock v x1
        rw [if_pos c12, q1, b1S, b1S, oK_0 h, b1S, f1, b2S, b1S, b1S, oK_26 h1, b1S, f2, b2S, if_pos rfl]
        exact fin v2
      rw [if_neg c12]
      by_cases c13 : op = 13
      · obtain ⟨x, s1, s2, B, f1, h1, f2, v2⟩ := B_count v x1
        rw [if_pos c13, q1, b1S, b1S, oK_0 h, b1S, f1, b2S, b1S, b1S, oK_26 h1, b1S, f2, b2S, if_pos rfl]
        exact fin v2
      rw [if_neg c13]
      exact fin (IV_mono v)
    · rw [if_pos ((law_end hL h1).mpr ce), oZ1, b1S]
      have z := (rs_d v.2.2.1).2.2.2
      exact ⟨s, rfl, by have := z.2.2.1; omega, by have := z.2.2.2; omega⟩
