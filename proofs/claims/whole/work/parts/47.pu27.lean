/-! ===== the model's tick, come, open, close ===== -/
theorem M_179 {C : Nat} {s : eS} (h : SH s) {A : aS} (r : RM s A) (w : WW C A) : ∃ s', mX12_tickGoes_179 26 s = some s' ∧ SH s' ∧ ag xM s s' ∧ RM s' (a_179 A) := by
  have e9 : sI s 26 20 = A.1 9 := r.1 9 (by decide)
  have e6 : sI s 27 6 = A.1 6 := r.1 6 (by decide)
  have sn : ∀ {s : eS} {B : aS}, SH s → RM s B → WW C B → ∃ s', mX12_tickGoes_211 26 s = some s' ∧ SH s' ∧ ag xM s s' ∧ RM s' (a_sends 13 B) := fun {s B} h r w => by
    obtain ⟨s1, e1, h1, g1, r1, -⟩ := M_sends h r w.1
    refine ⟨s1, ?_, h1, g1, r1⟩
    unfold mX12_tickGoes_211
    rw [oK_26 h, b1S, e1, b1S]
  unfold mX12_tickGoes_179 a_179
  rw [gI_26 h, b1S, RM_selI r]
  by_cases c1 : selI A = -1
  · rw [if_pos c1, if_pos c1]
    exact sn h r w
  · rw [if_neg c1, if_neg c1]
    have e16 : sI s 26 16 = (A.2.1 2).getD 2 0 := by
      rcases r.2.2.2.1 with ⟨a, b⟩ | ⟨d, hd, a, b⟩
      · exact absurd (show selI A = -1 by unfold selI; rw [b]; rfl) c1
      · rw [b]; rfl
    rw [gI_26 h, b1S, gI_26 h, b1S, gP_26_0 h, b1S, b1S, aI_27 h (by decide), b1S, show (6 : Int32).toNatClampNeg = 6 from rfl, e9, e16, e6]
    by_cases c2 : A.1 9 - (A.2.1 2).getD 2 0 < A.1 6
    · rw [if_pos c2, if_pos c2]
      exact sn h r w
    · rw [if_neg c2, if_neg c2, pI_26 h, b1S]
      have r1 : RM (e_I s 26 15 (-1)) (ul A 2 []) := RM_sel (ag_I ag_rf rfl) r (Or.inl ⟨rII_eq, rfl⟩)
      obtain ⟨s2, e2, h2, g2, r2⟩ := sn (SH_I h) r1 (WW_ul2 w [])
      exact ⟨s2, e2, h2, ag_tr (xM_I ag_rf (by decide)) g2, r2⟩
theorem M_113 {C : Nat} {s : eS} (h : SH s) {A : aS} (r : RM s A) (w : WW C A) : ∃ s', mX12_tickGoes_113 26 s = some s' ∧ SH s' ∧ ag xM s s' ∧ RM s' (a_113 A) := by
  have e7 : sI s 26 35 = A.1 7 := r.1 7 (by decide)
  have e12 : sI s 26 42 = A.1 12 := r.1 12 (by decide)
  have e9 : sI s 26 20 = A.1 9 := r.1 9 (by decide)
  have e10 : sI s 26 41 = A.1 10 := r.1 10 (by decide)
  have e5 : sI s 27 5 = A.1 5 := r.1 5 (by decide)
  unfold mX12_tickGoes_113 a_113
  rw [gI_26 h, b1S, e7]
  by_cases c7 : A.1 7 = 0
  · rw [if_pos c7, if_pos c7]
    exact M_179 h r w
  · rw [if_neg c7, if_neg c7, gI_26 h, b1S, e12]
    by_cases c12 : A.1 12 = 0
    · rw [if_pos c12, if_pos c12, gI_26 h, b1S, gI_26 h, b1S, gP_26_0 h, b1S, b1S, aI_27 h (by decide), b1S, show (5 : Int32).toNatClampNeg = 5 from rfl, e9, e10, e5]
      by_cases c : A.1 9 - A.1 10 < A.1 5
      · rw [if_pos c, if_pos c]
        exact M_179 h r w
      · rw [if_neg c, if_neg c]
        obtain ⟨s1, e1, h1, g1, r1, -⟩ := M_frames h r (by have := w.1.2.1; omega) w.1.1 (bs := []) (Nat.zero_le _) rfl 67 0 0 0
        have w1 : WW C (a_fr A [67, 0, 0, 0] []).2 := WW_fr w _ _ rfl
        rw [oK_26 h, b1S, show mX12_frames 26 67 0 0 0 0 s = _ from e1, b2S]
        generalize a_fr A [67, 0, 0, 0] [] = F at *
        by_cases cF : F.1 = 0
        · rw [if_pos cF, if_pos cF]
          obtain ⟨s2, e2, h2, g2, r2⟩ := M_179 h1 r1 w1
          exact ⟨s2, e2, h2, ag_tr g1 g2, r2⟩
        · rw [if_neg cF, if_neg cF]
          have k9 : sI s1 26 20 = F.2.1 9 := r1.1 9 (by decide)
          have h2 : SH (e_I s1 26 42 1) := SH_I h1
          have r2 : RM (e_I s1 26 42 1) (ui F.2 12 1) := RM_set r1 (by decide) (by decide)
          have h3 : SH (e_I (e_I s1 26 42 1) 26 43 (F.2.1 9)) := SH_I h2
          have r3 : RM (e_I (e_I s1 26 42 1) 26 43 (F.2.1 9)) (ui (ui F.2 12 1) 11 (F.2.1 9)) := RM_set r2 (by decide) (by decide)
          have h4 : SH (e_I (e_I (e_I s1 26 42 1) 26 43 (F.2.1 9)) 26 41 (F.2.1 9)) := SH_I h3
          have r4 : RM (e_I (e_I (e_I s1 26 42 1) 26 43 (F.2.1 9)) 26 41 (F.2.1 9)) (ui (ui (ui F.2 12 1) 11 (F.2.1 9)) 10 (F.2.1 9)) := RM_set r3 (by decide) (by decide)
          obtain ⟨s5, e5', h5, g5, r5⟩ := M_179 (C := C) h4 r4 (WW_ui (WW_ui (WW_ui w1 (by decide) _) (by decide) _) (by decide) _)
          refine ⟨s5, ?_, h5, ag_tr (xM_I (xM_I (xM_I g1 (by decide)) (by decide)) (by decide)) g5, r5⟩
          rw [pZ_26 h1 (Or.inr rfl), b1S, gI_26 h2, b1S, rII_ne (Or.inr (by decide)), k9, pI_26 h2, b1S, gI_26 h3, b1S, rII_ne (Or.inr (by decide)), rII_ne (Or.inr (by decide)), k9, pI_26 h3, b1S, e5']
    · rw [if_neg c12, if_neg c12]
      exact M_179 h r w
theorem M_80 {C : Nat} {s : eS} (h : SH s) {A : aS} (r : RM s A) (w : WW C A) : ∃ s', mX12_tickGoes_80 26 s = some s' ∧ SH s' ∧ ag xM s s' ∧ RM s' (a_80 A) := by
  have e16 : sI s 26 38 = A.1 16 := r.1 16 (by decide)
  have e17 : sI s 26 39 = A.1 17 := r.1 17 (by decide)
  have e9 : sI s 26 20 = A.1 9 := r.1 9 (by decide)
  have e18 : sI s 26 40 = A.1 18 := r.1 18 (by decide)
  have e4 : sI s 27 4 = A.1 4 := r.1 4 (by decide)
  unfold mX12_tickGoes_80 a_80
  rw [gI_26 h, b1S, gI_26 h, b1S, e16, e17]
  by_cases c1 : A.1 16 ≤ A.1 17
  · rw [if_pos c1, if_pos c1]
    exact M_113 h r w
  · rw [if_neg c1, if_neg c1, gI_26 h, b1S, gI_26 h, b1S, gP_26_0 h, b1S, b1S, aI_27 h (by decide), b1S, show (4 : Int32).toNatClampNeg = 4 from rfl, e9, e18, e4]
    by_cases c2 : A.1 9 - A.1 18 < A.1 4
    · rw [if_pos c2, if_pos c2]
      exact M_113 h r w
    · rw [if_neg c2, if_neg c2]
      obtain ⟨s1, e1, h1, g1, r1⟩ := M_tells h r (by have := w.1.2.1; omega) w.1.1
      obtain ⟨s2, e2, h2, g2, r2⟩ := M_113 h1 r1 (WW_tell w)
      refine ⟨s2, ?_, h2, ag_tr g1 g2, r2⟩
      rw [oK_26 h, b1S, e1, b1S, e2]
theorem M_74 {C : Nat} {s : eS} (h : SH s) {A : aS} (r : RM s A) (w : WW C A) : ∃ s', mX12_tickGoes_74 26 s = some s' ∧ SH s' ∧ ag xM s s' ∧ RM s' (a_close A 4) := by
  obtain ⟨s1, e1, h1, g1, r1⟩ := M_closes h r (by have := w.1.2.1; omega) 4
  refine ⟨s1, ?_, h1, g1, r1⟩
  unfold mX12_tickGoes_74
  rw [oK_26 h, b1S, e1, b1S]
theorem M_49 {C : Nat} {s : eS} (h : SH s) {A : aS} (r : RM s A) (w : WW C A) : ∃ s', mX12_tickGoes_49 26 s = some s' ∧ SH s' ∧ ag xM s s' ∧ RM s' (a_49 A) := by
  have e12 : sI s 26 42 = A.1 12 := r.1 12 (by decide)
  have e9 : sI s 26 20 = A.1 9 := r.1 9 (by decide)
  have e11 : sI s 26 43 = A.1 11 := r.1 11 (by decide)
  have e3 : sI s 27 3 = A.1 3 := r.1 3 (by decide)
  unfold mX12_tickGoes_49 a_49
  rw [gI_26 h, b1S, e12]
  by_cases c1 : A.1 12 = 0
  · rw [if_pos c1, if_pos c1]
    exact M_80 h r w
  · rw [if_neg c1, if_neg c1, gI_26 h, b1S, gI_26 h, b1S, gP_26_0 h, b1S, b1S, aI_27 h (by decide), b1S, show (3 : Int32).toNatClampNeg = 3 from rfl, e9, e11, e3]
    by_cases c2 : A.1 9 - A.1 11 < A.1 3
    · rw [if_pos c2, if_pos c2]
      exact M_80 h r w
    · rw [if_neg c2, if_neg c2]
      exact M_74 h r w
set_option maxRecDepth 100000 in
theorem M_tickGoes {C : Nat} {s : eS} (h : SH s) {A : aS} (r : RM s A) (w : WW C A) : ∃ s', mX12_tickGoes 26 s = some s' ∧ SH s' ∧ ag xM s s' ∧ RM s' (a_tick1 A) := by
  have e9 : sI s 26 20 = A.1 9 := r.1 9 (by decide)
  have h0 : SH (e_I s 26 20 (A.1 9 + 1)) := SH_I h
  have r0 : RM (e_I s 26 20 (A.1 9 + 1)) (ui A 9 (A.1 9 + 1)) := RM_set r (by decide) (by decide)
  have g0 : ag xM s (e_I s 26 20 (A.1 9 + 1)) := xM_I ag_rf (by decide)
  obtain ⟨s1, e1, h1, g1, r1⟩ := M_clockGoes h0 r0
  have w1 : WW C (a_clock (ui A 9 (A.1 9 + 1))) := WW_clock (WW_ui w (by decide) _)
  unfold mX12_tickGoes a_tick1
  rw [gI_26 h, b1S, e9, pI_26 h, b1S, oK_26 h0, b1S, e1, b1S]
  generalize a_clock (ui A 9 (A.1 9 + 1)) = B at *
  have G := ag_tr g0 g1
  have k7 : sI s1 26 35 = B.1 7 := r1.1 7 (by decide)
  have k9 : sI s1 26 20 = B.1 9 := r1.1 9 (by decide)
  have k3 : sI s1 27 3 = B.1 3 := r1.1 3 (by decide)
  obtain ⟨n1, n2, n3, n4⟩ := r1.2.2.2.2.2.2.1
  rw [gI_26 h1, b1S, k7]
  by_cases c7 : B.1 7 = 0
  · rw [if_pos c7, if_pos c7]
    exact ⟨s1, rfl, h1, G, r1⟩
  · rw [if_neg c7, if_neg c7, gI_26 h1, b1S, n1]
    by_cases c0 : (B.2.2 5).length = 0
    · rw [if_pos c0, if_pos (by rw [c0]; decide)]
      obtain ⟨s2, e2, h2, g2, r2⟩ := M_49 h1 r1 w1
      exact ⟨s2, e2, h2, ag_tr G g2, r2⟩
    · have ea : sI s1 46 0 = pg (B.2.2 5) 0 0 := by
        have := rd_getD (snM s1) [] (n := (B.2.2 5).length) (i := 0) (by omega)
        rw [n3] at this
        unfold pg
        rw [this]
        rfl
      rw [if_neg c0, if_neg (nI_nle (by omega) (by omega)), gI_26 h1, b1S, gP_26_29 h1, b1S, b1S, aI_46 h1 (by decide), b1S, show (0 : Int32).toNatClampNeg = 0 from rfl, gP_26_0 h1, b1S, b1S, aI_27 h1 (by decide), b1S, show (3 : Int32).toNatClampNeg = 3 from rfl, k9, ea, k3]
      by_cases c : B.1 3 ≤ B.1 9 - pg (B.2.2 5) 0 0
      · rw [if_pos c, if_pos c]
        obtain ⟨s2, e2, h2, g2, r2⟩ := M_74 h1 r1 w1
        exact ⟨s2, e2, h2, ag_tr G g2, r2⟩
      · rw [if_neg c, if_neg c]
        obtain ⟨s2, e2, h2, g2, r2⟩ := M_49 h1 r1 w1
        exact ⟨s2, e2, h2, ag_tr G g2, r2⟩
def a_ticks : Nat → aS → aS
  | 0, A => A
  | n + 1, A => a_ticks n (a_tick1 A)
theorem M_tick_loop {N : Nat} (hN : N ≤ 1000) : ∀ (d i m : Nat) (s : eS) (A : aS) (C : Nat), i + d = N → d < m → SH s → RM s A → WW C A → ∃ s', mX12_tick_16 m 26 (nI N) (nI i) s = some ((a_ticks d A).1 7, s') ∧ SH s' ∧ ag xM s s' ∧ RM s' (a_ticks d A) ∧ WW (C + 13 * d) (a_ticks d A) := by
  intro d
  induction d with
  | zero =>
    intro i m s A C hi hm h r w
    obtain ⟨m, rfl⟩ : ∃ q, m = q + 1 := ⟨m - 1, by omega⟩
    have e7 : sI s 26 35 = A.1 7 := r.1 7 (by decide)
    unfold mX12_tick_16
    rw [if_pos (nI_le (by omega) (by omega)), gI_26 h, b1S, e7]
    exact ⟨s, rfl, h, ag_rf, r, w⟩
  | succ d ih =>
    intro i m s A C hi hm h r w
    obtain ⟨m, rfl⟩ : ∃ q, m = q + 1 := ⟨m - 1, by omega⟩
    obtain ⟨s1, e1, h1, g1, r1⟩ := M_tickGoes h r w
    obtain ⟨s2, e2, h2, g2, r2, w2⟩ := ih (i + 1) m s1 _ (C + 13) (by omega) (by omega) h1 r1 (WW_tick1 w)
    refine ⟨s2, ?_, h2, ag_tr g1 g2, r2, WW_mono w2 (by omega)⟩
    unfold mX12_tick_16
    rw [if_neg (nI_ge (by omega) (by omega)), oK_26 h, b1S, e1, b1S, nI_1, e2]
    rfl
