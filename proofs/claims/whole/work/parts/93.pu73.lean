/-! ===== what every call keeps ===== -/
theorem set_W {C : Nat} {A : aS} (w : WW C A) (i v : Int32) : WW C (a_set A i v).2 := by
  unfold a_set
  by_cases c : okSet i v = 0
  · rw [if_pos c]; exact w
  rw [if_neg c]
  by_cases c7 : A.1 7 = 0
  · rw [if_pos c7]
    obtain ⟨k, hk, rfl⟩ := okSet_in c
    rw [nI_clamp (by omega)]
    by_cases c1 : k = 1
    · subst c1
      have hz : inL v.toInt64 1 12 ≠ 0 := c
      obtain ⟨⟨h1, h2, h3, h4, h5, h6, h7⟩, w2, w3, w4, w5⟩ := w
      refine ⟨⟨h1, h2, h3, ?_, h5, h6, h7⟩, w2, w3, w4, w5⟩
      rcases inL_cases v (lo := 1) (hi := 12) (by omega) (by omega) with ⟨-, e⟩ | ⟨j, hj, rfl, e⟩
      · exact absurd e hz
      · by_cases cj : 1 ≤ j ∧ j ≤ 12
        · exact ⟨j, cj.1, cj.2, rfl⟩
        · rw [if_neg cj] at e
          exact absurd e hz
    · exact WW_ui w ⟨c1, by omega, by omega⟩ v
  · rw [if_neg c7]; exact w
theorem open_W {C : Nat} {A : aS} (w : WW C A) (h5' : A.1 7 = 0 → A.2.2 5 = []) : WW C (a_open A).2 := by
  unfold a_open
  by_cases c : A.1 7 = 0
  · rw [if_pos c]
    obtain ⟨⟨h1, h2, h3, h4, h5, h6, h7⟩, w2, w3, w4, w5⟩ := w
    exact ⟨⟨Nat.zero_le _, h2, h3, h4, h5, h6, h7⟩, w2, w3, w4, ⟨0, 0, rfl, by show (A.2.2 5).length ≤ 0; rw [h5' c]; exact Nat.le_refl _, Nat.zero_le _, rfl, Nat.zero_le _⟩⟩
  · rw [if_neg c]; exact w
theorem shut_W {C : Nat} {A : aS} (w : WW C A) : WW C (a_shut A).2 := by
  unfold a_shut
  by_cases c : A.1 7 = 0
  · rw [if_pos c]; exact w
  · rw [if_neg c]; exact WW_close w 1
theorem take_W {C : Nat} {A : aS} (w : WW C A) (x : Int32) : WW C (a_take A x).2 := by
  unfold a_take
  by_cases c : inL x.toInt64 0 (nI (A.2.1 0).length).toInt64 = 0
  · rw [if_pos c]; exact w
  · rw [if_neg c]
    obtain ⟨⟨h1, h2⟩, w2⟩ := w
    refine ⟨⟨?_, h2⟩, w2⟩
    show ((A.2.1 0).drop x.toNatClampNeg).length ≤ 4096
    rw [List.length_drop]
    omega
theorem point_W {C : Nat} {A : aS} (w : WW C A) (so ad gr ti : Int32) : WW C (a_point A so ad gr ti).2 := by
  unfold a_point
  by_cases c : ptOK A so ad gr = 0
  · rw [if_pos c]; exact w
  rw [if_neg c]
  by_cases c24 : (A.2.2 0).length = 24
  · rw [if_pos c24]; exact w
  rw [if_neg c24]
  have cf : frF A ad ≠ 0 := by
    unfold ptOK at c
    by_cases a1 : inL so.toInt64 0 6 = 0
    · rw [if_pos a1] at c; exact absurd rfl c
    rw [if_neg a1] at c
    by_cases a2 : inL gr.toInt64 0 16 = 0
    · rw [if_pos a2] at c; exact absurd rfl c
    rw [if_neg a2] at c
    exact c
  have hfree := fun z => cf ((frF_0 A ad).mpr z)
  have hfr : ∀ j, j < (A.2.2 0).length → ¬ pg (A.2.2 0) j 1 = ad := (ix_len _ _).mp (Classical.byContradiction (fun z => hfree (fun y => z y.2.1)))
  have hl : (A.2.2 0 ++ [[so, ad, gr, ti, 0, 0, 0]]).length = (A.2.2 0).length + 1 := by rw [List.length_append]; rfl
  obtain ⟨⟨h1, h2, h3, h4, h5, h6, h7⟩, w2, w3, w4, w5⟩ := w
  have ew : ∀ e, evW A e → evW (uq A 0 (A.2.2 0 ++ [[so, ad, gr, ti, 0, 0, 0]])) e := fun e he => by
    obtain ⟨p', v', q', t', a, b, c⟩ := he
    refine ⟨p', v', q', t', ?_, b, c⟩
    show p' < (A.2.2 0 ++ [[so, ad, gr, ti, 0, 0, 0]]).length
    omega
  refine ⟨⟨h1, h2, h3, h4, fun e he => ew e (h5 e he), fun e he => ew e (h6 e he), h7⟩, w2, fun e he => ?_, ?_, w5⟩
  · rcases w3 e he with z | ⟨p', a, b⟩
    · exact Or.inl z
    · refine Or.inr ⟨p', ?_, b⟩
      show p' < (A.2.2 0 ++ [[so, ad, gr, ti, 0, 0, 0]]).length
      omega
  · exact UQ_app w4 hfr
theorem command_W {C : Nat} {A : aS} (w : WW C A) (hn : (A.2.2 0).length ≤ 24) (so ad pt mu : Int32) : WW C (a_command A so ad pt mu).2 := by
  unfold a_command
  by_cases c : cmOK A so ad pt = 0
  · rw [if_pos c]; exact w
  rw [if_neg c]
  by_cases c12 : (A.2.2 1).length = 12
  · rw [if_pos c12]; exact w
  rw [if_neg c12]
  have hp : pt = -1 ∨ ∃ p, p < (A.2.2 0).length ∧ pt = nI p := by
    unfold cmOK at c
    by_cases a1 : inL so.toInt64 0 2 = 0
    · rw [if_pos a1] at c; exact absurd rfl c
    rw [if_neg a1] at c
    by_cases a2 : frF A ad = 0
    · rw [if_pos a2] at c; exact absurd rfl c
    rw [if_neg a2] at c
    by_cases a3 : pt = -1
    · exact Or.inl a3
    rw [if_neg a3] at c
    by_cases a4 : ptI A pt = 0
    · rw [if_pos a4] at c; exact absurd rfl c
    unfold ptI at a4
    rcases inLn pt (n := (A.2.2 0).length) (by omega) with ⟨-, e⟩ | ⟨k, hk, rfl, e⟩
    · exact absurd e a4
    · by_cases ck : k < (A.2.2 0).length
      · exact Or.inr ⟨k, ck, rfl⟩
      · rw [if_neg ck] at e
        exact absurd e a4
  obtain ⟨h1, w2, w3, w4, w5⟩ := w
  refine ⟨h1, w2, fun e he => ?_, w4, w5⟩
  have he' : e ∈ A.2.2 1 ++ [[so, ad, pt, mu, 0]] := he
  rw [List.mem_append] at he'
  rcases he' with z | z
  · exact w3 e z
  · rw [List.mem_singleton] at z
    rw [z]
    exact hp
theorem change_W {C : Nat} {A : aS} (w : WW C A) (hn : (A.2.2 0).length ≤ 24) (h2' : (A.2.2 2).length ≤ 12) (h3' : (A.2.2 3).length ≤ 52) (x v q : Int32) : WW (C + 13) (a_change A x v q).2 := by
  have w' : WW (C + 13) A := WW_mono w (by omega)
  unfold a_change
  by_cases c1 : ptI A x = 0
  · rw [if_pos c1]; exact w'
  rw [if_neg c1]
  unfold ptI at c1
  rcases inLn x (n := (A.2.2 0).length) (by omega) with ⟨-, e⟩ | ⟨p, hk, rfl, e⟩
  · exact absurd e c1
  by_cases hp : p < (A.2.2 0).length
  · rw [nI_clamp hk]
    have key : WW (C + 13) (a_chE A p v q).2 := by
      unfold a_chE
      by_cases a1 : pg (A.2.2 0) p 0 = 6
      · rw [if_pos a1]; exact WW_sends 13 C _ (chv_W w p v q)
      rw [if_neg a1]
      by_cases a2 : nI (A.2.2 3).length < 40
      · rw [if_pos a2]
        have a3 : (A.2.2 3).length < 40 := Nat.lt_of_not_le (fun z => nlt_c (c := 40) 40 z (by omega) rfl a2)
        exact WW_sends 13 C _ (chE_W w hp v q a3 h2')
      · rw [if_neg a2]; exact w'
    by_cases c2 : valF (pg (A.2.2 0) p 0) v = 0
    · rw [if_pos c2]; exact w'
    rw [if_neg c2]
    by_cases c3 : q &&& (mayF (pg (A.2.2 0) p 0) ^^^ (-1)) = 0
    · rw [if_pos c3]
      by_cases c4 : pg (A.2.2 0) p 4 = v
      · rw [if_pos c4]
        by_cases c5 : pg (A.2.2 0) p 5 = q
        · rw [if_pos c5]; exact w'
        · rw [if_neg c5]; exact key
      · rw [if_neg c4]; exact key
    · rw [if_neg c3]; exact w'
  · rw [if_neg hp] at e
    exact absurd e c1
/-! ===== what came of a frame ===== -/
def RX (A : aS) : Prop := rxW (A.2.1 1)
theorem RX_ui {A : aS} (h : RX A) (k : Nat) (x : Int32) : RX (ui A k x) := h
theorem RX_uq {A : aS} (h : RX A) (k : Nat) (x : List (List Int32)) : RX (uq A k x) := h
theorem RX_ul {A : aS} (h : RX A) {k : Nat} (hk : ¬ 1 = k) (x : List Int32) : RX (ul A k x) := by
  show rxW (if 1 = k then x else A.2.1 1)
  rw [if_neg hk]
  exact h
theorem RX_close (A : aS) (why : Int32) : RX (a_close A why) := rxW_nil
theorem RX_ite {p : Prop} [Decidable p] {A B : aS} (a : RX A) (b : RX B) : RX (if p then A else B) := by
  by_cases c : p
  · rw [if_pos c]; exact a
  · rw [if_neg c]; exact b
theorem RX_fr {A : aS} (h : RX A) (c bs : List Int32) : RX (a_fr A c bs).2 := by
  unfold a_fr
  by_cases z : (A.2.1 0).length + 6 + bs.length ≤ 4096
  · rw [if_pos z]; exact RX_ul h (by decide) _
  · rw [if_neg z]; exact RX_close A 6
theorem RX_tell {A : aS} (h : RX A) : RX (a_tell A) := RX_ite (RX_fr h _ _) (RX_ui (RX_fr h _ _) _ _)
theorem RX_sends : ∀ (n : Nat) (A : aS), RX A → RX (a_sends n A)
  | 0, _, h => h
  | n + 1, A, h => by
    unfold a_sends
    split
    · split
      · exact h
      · split
        · split
          · exact RX_fr h _ _
          · exact RX_sends n _ (RX_fr h _ _)
        · split
          · split
            · exact RX_fr h _ _
            · exact RX_sends n _ (RX_fr h _ _)
          · exact h
    · exact h
theorem RX_clock {A : aS} (h : RX A) : RX (a_clock A) := RX_ite (RX_ite (RX_ite (RX_ite (RX_ite h h) h) h) h) h
theorem RX_179 {A : aS} (h : RX A) : RX (a_179 A) := RX_ite (RX_sends 13 A h) (RX_ite (RX_sends 13 A h) (RX_sends 13 _ (RX_ul h (by decide) [])))
theorem RX_113 {A : aS} (h : RX A) : RX (a_113 A) := RX_ite (RX_179 h) (RX_ite (RX_ite (RX_179 h) (RX_ite (RX_179 (RX_fr h _ _)) (RX_179 (RX_fr h _ _)))) (RX_179 h))
theorem RX_80 {A : aS} (h : RX A) : RX (a_80 A) := RX_ite (RX_113 h) (RX_ite (RX_113 h) (RX_113 (RX_tell h)))
theorem RX_49 {A : aS} (h : RX A) : RX (a_49 A) := RX_ite (RX_80 h) (RX_ite (RX_80 h) (RX_close A 4))
theorem RX_tick1 {A : aS} (h : RX A) : RX (a_tick1 A) := by
  have h1 : RX (a_clock (ui A 9 (A.1 9 + 1))) := RX_clock (RX_ui h _ _)
  exact RX_ite h1 (RX_ite (RX_49 h1) (RX_ite (RX_close _ 4) (RX_49 h1)))
theorem RX_ticks : ∀ (n : Nat) (A : aS), RX A → RX (a_ticks n A)
  | 0, _, h => h
  | n + 1, A, h => RX_ticks n _ (RX_tick1 h)
theorem tick_X {A : aS} (h : RX A) (x : Int32) : RX (a_tick A x).2 := by
  unfold a_tick
  by_cases c : inL x.toInt64 0 1000 = 0
  · rw [if_pos c]; exact h
  · rw [if_neg c]; exact RX_ticks _ _ h
theorem set_X {A : aS} (h : RX A) (i v : Int32) : RX (a_set A i v).2 := by
  unfold a_set
  by_cases c : okSet i v = 0
  · rw [if_pos c]; exact h
  rw [if_neg c]
  by_cases c7 : A.1 7 = 0
  · rw [if_pos c7]; exact h
  · rw [if_neg c7]; exact h
theorem open_X {A : aS} (h : RX A) : RX (a_open A).2 := by
  unfold a_open
  by_cases c : A.1 7 = 0
  · rw [if_pos c]; exact rxW_nil
  · rw [if_neg c]; exact h
theorem shut_X {A : aS} (h : RX A) : RX (a_shut A).2 := by
  unfold a_shut
  by_cases c : A.1 7 = 0
  · rw [if_pos c]; exact h
  · rw [if_neg c]; exact RX_close A 1
theorem take_X {A : aS} (h : RX A) (x : Int32) : RX (a_take A x).2 := by
  unfold a_take
  by_cases c : inL x.toInt64 0 (nI (A.2.1 0).length).toInt64 = 0
  · rw [if_pos c]; exact h
  · rw [if_neg c]; exact RX_ul h (by decide) _
theorem point_X {A : aS} (h : RX A) (so ad gr ti : Int32) : RX (a_point A so ad gr ti).2 := by
  unfold a_point
  by_cases c : ptOK A so ad gr = 0
  · rw [if_pos c]; exact h
  rw [if_neg c]
  by_cases c24 : (A.2.2 0).length = 24
  · rw [if_pos c24]; exact h
  · rw [if_neg c24]; exact h
theorem command_X {A : aS} (h : RX A) (so ad pt mu : Int32) : RX (a_command A so ad pt mu).2 := by
  unfold a_command
  by_cases c : cmOK A so ad pt = 0
  · rw [if_pos c]; exact h
  rw [if_neg c]
  by_cases c12 : (A.2.2 1).length = 12
  · rw [if_pos c12]; exact h
  · rw [if_neg c12]; exact h
theorem chE_X {A : aS} (h : RX A) (p : Nat) (v q : Int32) : RX (a_chE A p v q).2 := by
  unfold a_chE
  by_cases a1 : pg (A.2.2 0) p 0 = 6
  · rw [if_pos a1]; exact RX_sends 13 _ h
  rw [if_neg a1]
  by_cases a2 : nI (A.2.2 3).length < 40
  · rw [if_pos a2]; exact RX_sends 13 _ h
  · rw [if_neg a2]; exact h
theorem change_X {A : aS} (h : RX A) (x v q : Int32) : RX (a_change A x v q).2 := by
  unfold a_change
  split
  · exact h
  · split
    · exact h
    · split
      · split
        · split
          · exact h
          · exact chE_X h _ _ _
        · exact chE_X h _ _ _
      · exact h
