/-! ===== the model's ticks ===== -/
def a_clock (A : aS) : aS :=
  if 60000 ≤ A.1 19 + 100 then
    (if 60 ≤ A.1 20 + 1 then
      (if 24 ≤ A.1 21 + 1 then
        (if dF (A.1 23) (A.1 24) < A.1 22 + 1 then
          (if A.1 23 + 1 ≤ 12 then ui (ui (ui (ui (ui (ui (ui (ui (ui A 19 (A.1 19 + 100)) 19 (A.1 19 + 100 - 60000)) 20 (A.1 20 + 1)) 20 0) 21 (A.1 21 + 1)) 21 0) 22 (A.1 22 + 1)) 22 1) 23 (A.1 23 + 1)
          else ui (ui (ui (ui (ui (ui (ui (ui (ui (ui (ui A 19 (A.1 19 + 100)) 19 (A.1 19 + 100 - 60000)) 20 (A.1 20 + 1)) 20 0) 21 (A.1 21 + 1)) 21 0) 22 (A.1 22 + 1)) 22 1) 23 (A.1 23 + 1)) 23 1) 24 ((A.1 24 + 1) - (A.1 24 + 1) / 100 * 100))
        else ui (ui (ui (ui (ui (ui (ui A 19 (A.1 19 + 100)) 19 (A.1 19 + 100 - 60000)) 20 (A.1 20 + 1)) 20 0) 21 (A.1 21 + 1)) 21 0) 22 (A.1 22 + 1))
      else ui (ui (ui (ui (ui A 19 (A.1 19 + 100)) 19 (A.1 19 + 100 - 60000)) 20 (A.1 20 + 1)) 20 0) 21 (A.1 21 + 1))
    else ui (ui (ui A 19 (A.1 19 + 100)) 19 (A.1 19 + 100 - 60000)) 20 (A.1 20 + 1))
  else ui A 19 (A.1 19 + 100)
set_option maxRecDepth 100000 in
theorem M_clockGoes {s : eS} (h : SH s) {A : aS} (r : RM s A) : ∃ s', mX12_clockGoes 26 s = some s' ∧ SH s' ∧ ag xM s s' ∧ RM s' (a_clock A) := by
  have R : ∀ {s : eS} {B : aS} (_ : SH s) (_ : RM s B) (i : Int32) (k : Nat) (v : Int32), i = nI k → k < 6 → B.1 (19 + k) = v → a_I s 0 41 i = some v := fun {s B} h r i k v hi hk hv => by
    have m : ∀ k, k < 6 → mc (19 + k) = (41, k) := by decide
    have := r.1 (19 + k) (by omega)
    rw [m k hk] at this
    subst hi
    rw [aI_41 h (nIc (by omega) hk), nI_clamp (by omega), ← hv, ← this]
  have P : ∀ {s : eS} (_ : SH s) (i : Int32) (k : Nat) (x : Int32), i = nI k → k < 6 → s_I s 0 41 i x = some (e_I s 41 k x) := fun {s} h i k x hi hk => by
    subst hi
    rw [sI_41 h (nIc (by omega) hk), nI_clamp (by omega)]
  have G : ∀ {s0 s : eS} (_ : ag xM s0 s) (k : Nat) (x : Int32), ag xM s0 (e_I s 41 k x) := fun g k x => xM_I g (by decide)
  unfold mX12_clockGoes mX12_clockGoes_181 a_clock
  have h1 : SH (e_I s 41 0 (A.1 19 + 100)) := SH_I h
  have r1 : RM (e_I s 41 0 (A.1 19 + 100)) (ui A 19 (A.1 19 + 100)) := RM_clk r (k := 0) (by decide) _
  have g1 : ag xM s (e_I s 41 0 (A.1 19 + 100)) := G ag_rf _ _
  rw [gP_26_21 h, b1S, b1S, R h r 0 0 (A.1 19) rfl (by decide) rfl, b1S, P h 0 0 _ rfl (by decide), b1S, gP_26_21 h1, b1S, b1S, R h1 r1 0 0 (A.1 19 + 100) rfl (by decide) rfl, b1S]
  generalize e_I s 41 0 (A.1 19 + 100) = s1 at *
  by_cases c1 : 60000 ≤ A.1 19 + 100
  · rw [if_pos c1, if_pos c1, b1S, b1S, R h1 r1 0 0 (A.1 19 + 100) rfl (by decide) rfl, b1S]
    have h2 := SH_I (a := 41) (k := 0) (x := A.1 19 + 100 - 60000) h1
    have r2 := RM_clk r1 (k := 0) (by decide) (A.1 19 + 100 - 60000)
    have g2 := G g1 0 (A.1 19 + 100 - 60000)
    rw [P h1 0 0 _ rfl (by decide), b1S]
    generalize e_I s1 41 0 (A.1 19 + 100 - 60000) = s2 at *
    have h3 := SH_I (a := 41) (k := 1) (x := A.1 20 + 1) h2
    have r3 := RM_clk r2 (k := 1) (by decide) (A.1 20 + 1)
    have g3 := G g2 1 (A.1 20 + 1)
    rw [gP_26_21 h2, b1S, b1S, R h2 r2 1 1 (A.1 20) rfl (by decide) rfl, b1S, P h2 1 1 _ rfl (by decide), b1S, gP_26_21 h3, b1S, b1S, R h3 r3 1 1 (A.1 20 + 1) rfl (by decide) rfl, b1S]
    generalize e_I s2 41 1 (A.1 20 + 1) = s3 at *
    by_cases c2 : 60 ≤ A.1 20 + 1
    · have h4 := SH_I (a := 41) (k := 1) (x := 0) h3
      have r4 := RM_clk r3 (k := 1) (by decide) 0
      have g4 := G g3 1 0
      rw [if_pos c2, if_pos c2, b1S, b1S, P h3 1 1 _ rfl (by decide), b1S]
      generalize e_I s3 41 1 0 = s4 at *
      have h5 := SH_I (a := 41) (k := 2) (x := A.1 21 + 1) h4
      have r5 := RM_clk r4 (k := 2) (by decide) (A.1 21 + 1)
      have g5 := G g4 2 (A.1 21 + 1)
      rw [gP_26_21 h4, b1S, b1S, R h4 r4 2 2 (A.1 21) rfl (by decide) rfl, b1S, P h4 2 2 _ rfl (by decide), b1S, gP_26_21 h5, b1S, b1S, R h5 r5 2 2 (A.1 21 + 1) rfl (by decide) rfl, b1S]
      generalize e_I s4 41 2 (A.1 21 + 1) = s5 at *
      by_cases c3 : 24 ≤ A.1 21 + 1
      · have h6 := SH_I (a := 41) (k := 2) (x := 0) h5
        have r6 := RM_clk r5 (k := 2) (by decide) 0
        have g6 := G g5 2 0
        rw [if_pos c3, if_pos c3, b1S, b1S, P h5 2 2 _ rfl (by decide), b1S]
        generalize e_I s5 41 2 0 = s6 at *
        have h7 := SH_I (a := 41) (k := 3) (x := A.1 22 + 1) h6
        have r7 := RM_clk r6 (k := 3) (by decide) (A.1 22 + 1)
        have g7 := G g6 3 (A.1 22 + 1)
        rw [gP_26_21 h6, b1S, b1S, R h6 r6 3 3 (A.1 22) rfl (by decide) rfl, b1S, P h6 3 3 _ rfl (by decide), b1S, gP_26_21 h7, b1S, b1S, R h7 r7 3 3 (A.1 22 + 1) rfl (by decide) rfl, b1S, b1S, b1S, R h7 r7 4 4 (A.1 23) rfl (by decide) rfl, b1S, b1S, b1S, R h7 r7 5 5 (A.1 24) rfl (by decide) rfl, b1S, M_daysOf, b2S]
        generalize e_I s6 41 3 (A.1 22 + 1) = s7 at *
        by_cases c4 : dF (A.1 23) (A.1 24) < A.1 22 + 1
        · have h8 := SH_I (a := 41) (k := 3) (x := 1) h7
          have r8 := RM_clk r7 (k := 3) (by decide) 1
          have g8 := G g7 3 1
          rw [if_pos c4, if_pos c4, gP_26_21 h7, b1S, b1S, P h7 3 3 _ rfl (by decide), b1S]
          generalize e_I s7 41 3 1 = s8 at *
          have h9 := SH_I (a := 41) (k := 4) (x := A.1 23 + 1) h8
          have r9 := RM_clk r8 (k := 4) (by decide) (A.1 23 + 1)
          have g9 := G g8 4 (A.1 23 + 1)
          rw [gP_26_21 h8, b1S, b1S, R h8 r8 4 4 (A.1 23) rfl (by decide) rfl, b1S, P h8 4 4 _ rfl (by decide), b1S, gP_26_21 h9, b1S, b1S, R h9 r9 4 4 (A.1 23 + 1) rfl (by decide) rfl, b1S]
          generalize e_I s8 41 4 (A.1 23 + 1) = s9 at *
          by_cases c5 : A.1 23 + 1 ≤ 12
          · rw [if_pos c5, if_pos c5]
            exact ⟨_, rfl, h9, g9, r9⟩
          · have h10 := SH_I (a := 41) (k := 4) (x := 1) h9
            have r10 := RM_clk r9 (k := 4) (by decide) 1
            have g10 := G g9 4 1
            rw [if_neg c5, if_neg c5, b1S, b1S, P h9 4 4 _ rfl (by decide), b1S]
            generalize e_I s9 41 4 1 = s10 at *
            rw [gP_26_21 h10, b1S, b1S, b1S, R h10 r10 5 5 (A.1 24) rfl (by decide) rfl, b1S, b1S, P h10 5 5 _ rfl (by decide), b1S]
            exact ⟨_, rfl, SH_I h10, G g10 _ _, RM_clk r10 (k := 5) (by decide) _⟩
        · rw [if_neg c4, if_neg c4]
          exact ⟨_, rfl, h7, g7, r7⟩
      · rw [if_neg c3, if_neg c3]
        exact ⟨_, rfl, h5, g5, r5⟩
    · rw [if_neg c2, if_neg c2]
      exact ⟨_, rfl, h3, g3, r3⟩
  · rw [if_neg c1, if_neg c1]
    exact ⟨_, rfl, h1, g1, r1⟩
theorem WW_clock {C : Nat} {A : aS} (w : WW C A) : WW C (a_clock A) := by
  have u : ∀ {B : aS} {k : Nat} {x : Int32}, 19 ≤ k → WW C B → WW C (ui B k x) := fun hk w => WW_ui w ⟨by omega, by omega, by omega⟩ _
  unfold a_clock
  repeat' apply WW_ite
  all_goals (repeat' (first | exact w | (refine u (by decide) ?_)))
def a_179 (A : aS) : aS := if selI A = -1 then a_sends 13 A else if A.1 9 - (A.2.1 2).getD 2 0 < A.1 6 then a_sends 13 A else a_sends 13 (ul A 2 [])
def a_113 (A : aS) : aS := if A.1 7 = 0 then a_179 A else if A.1 12 = 0 then (if A.1 9 - A.1 10 < A.1 5 then a_179 A else if (a_fr A [67, 0, 0, 0] []).1 = 0 then a_179 (a_fr A [67, 0, 0, 0] []).2 else a_179 (ui (ui (ui (a_fr A [67, 0, 0, 0] []).2 12 1) 11 ((a_fr A [67, 0, 0, 0] []).2.1 9)) 10 ((a_fr A [67, 0, 0, 0] []).2.1 9))) else a_179 A
def a_80 (A : aS) : aS := if A.1 16 ≤ A.1 17 then a_113 A else if A.1 9 - A.1 18 < A.1 4 then a_113 A else a_113 (a_tell A)
def a_49 (A : aS) : aS := if A.1 12 = 0 then a_80 A else if A.1 9 - A.1 11 < A.1 3 then a_80 A else a_close A 4
def a_tick1 (A : aS) : aS := if (a_clock (ui A 9 (A.1 9 + 1))).1 7 = 0 then a_clock (ui A 9 (A.1 9 + 1)) else if ((a_clock (ui A 9 (A.1 9 + 1))).2.2 5).length = 0 then a_49 (a_clock (ui A 9 (A.1 9 + 1))) else if (a_clock (ui A 9 (A.1 9 + 1))).1 3 ≤ (a_clock (ui A 9 (A.1 9 + 1))).1 9 - pg ((a_clock (ui A 9 (A.1 9 + 1))).2.2 5) 0 0 then a_close (a_clock (ui A 9 (A.1 9 + 1))) 4 else a_49 (a_clock (ui A 9 (A.1 9 + 1)))
section TC
variable {C : Nat} {A : aS}
theorem WW_179 (w : WW C A) : WW (C + 13) (a_179 A) := WW_ite (WW_sends 13 C A w) (WW_ite (WW_sends 13 C A w) (WW_sends 13 C _ (WW_ul2 w [])))
theorem WW_113 (w : WW C A) : WW (C + 13) (a_113 A) := WW_ite (WW_179 w) (WW_ite (WW_ite (WW_179 w) (WW_ite (WW_179 (WW_fr w _ _ rfl)) (WW_179 (WW_ui (WW_ui (WW_ui (WW_fr w _ _ rfl) (by decide) _) (by decide) _) (by decide) _)))) (WW_179 w))
theorem WW_80 (w : WW C A) : WW (C + 13) (a_80 A) := WW_ite (WW_113 w) (WW_ite (WW_113 w) (WW_113 (WW_tell w)))
theorem WW_49 (w : WW C A) : WW (C + 13) (a_49 A) := WW_ite (WW_80 w) (WW_ite (WW_80 w) (WW_mono (WW_close w 4) (by omega)))
theorem WW_tick1 (w : WW C A) : WW (C + 13) (a_tick1 A) := by
  have w1 : WW C (a_clock (ui A 9 (A.1 9 + 1))) := WW_clock (WW_ui w (by decide) _)
  exact WW_ite (WW_mono w1 (by omega)) (WW_ite (WW_49 w1) (WW_ite (WW_mono (WW_close w1 4) (by omega)) (WW_49 w1)))
end TC
