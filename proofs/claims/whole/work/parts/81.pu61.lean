/-! ===== tick ===== -/
theorem run_WW {C : Nat} {A : aS} (w : WW C A) : WW C (a_run A) := by
  have t2 : WW C (a_T2 A) := WW_ite w (WW_ite w (WW_tell w))
  have tst : ∀ B : aS, WW C B → WW C (a_test B) := fun B wB => WW_ite (WW_fr wB _ _ rfl) (WW_ui (WW_ui (WW_ui (WW_fr wB _ _ rfl) (by decide) _) (by decide) _) (by decide) _)
  have t3 : ∀ B : aS, WW C B → WW C (a_T3 B) := fun B wB => WW_ite wB (WW_ite (WW_ite wB (tst B wB)) wB)
  have ts : ∀ B : aS, WW C B → WW C (a_sel B) := fun B wB => WW_ite wB (WW_ite wB (WW_ul2 wB []))
  have r80 : WW C (a_r80 A) := ts _ (t3 _ t2)
  have r49 : WW C (a_r49 A) := WW_ite r80 (WW_ite r80 (WW_close w 4))
  exact WW_ite r49 (WW_ite (WW_close w 4) r49)
set_option maxRecDepth 100000 in
theorem S_tick_loop {N : Nat} (hN : N ≤ 1000) : ∀ (d i m : Nat) (s : eS) (A : aS) (C D : Nat), i + d = N → d < m → SH s → RS false D s A → WW C A → C + 13 * d < 2 ^ 30 → ∃ s', mX11_tick_15 m 0 (nI N) (nI i) s = some ((a_ticks d A).1 7, s') ∧ kO s s' ∧ RS false D s' (a_ticks d A) := by
  intro d
  induction d with
  | zero =>
    intro i m s A C D hi hm h r w hC
    obtain ⟨m, rfl⟩ : ∃ q, m = q + 1 := ⟨m - 1, by omega⟩
    have e7 : sI s 0 11 = A.1 7 := (rs_i r).1 7 (by decide) (by decide)
    unfold mX11_tick_15
    rw [if_pos (nI_le (by omega) (by omega)), gI_0 h, b1S, e7]
    exact ⟨s, rfl, kO_rf h, r⟩
  | succ d ih =>
    intro i m s A C D hi hm h r w hC
    obtain ⟨m, rfl⟩ : ∃ q, m = q + 1 := ⟨m - 1, by omega⟩
    obtain ⟨s1, f1, g1, r1⟩ := S_goOn h r
    have h1 := SH_ag h g1
    have k1 : kO s s1 := kO_ag h g1 (fun a k hx => by simp at hx; simp; omega) rfl
    have e9 : sI s1 0 13 = (a_clock A).1 9 := (rs_i r1).1 9 (by decide) (by decide)
    have r2 := RS_now r1
    have h2 := SH_I (a := 0) (k := 13) (x := (a_clock A).1 9 + 1) h1
    have k2 : kO s (e_I s1 0 13 ((a_clock A).1 9 + 1)) := kO_I k1 rfl (by decide)
    have ec : ui (a_clock A) 9 ((a_clock A).1 9 + 1) = a_clock (ui A 9 (A.1 9 + 1)) := by rw [(clock_keep A).1, clock_9]
    rw [ec] at r2
    have w2 : WW C (a_clock (ui A 9 (A.1 9 + 1))) := WW_clock (WW_ui w (by decide) _)
    have e7 : sI (e_I s1 0 13 ((a_clock A).1 9 + 1)) 0 11 = (a_clock (ui A 9 (A.1 9 + 1))).1 7 := (rs_i r2).1 7 (by decide) (by decide)
    unfold mX11_tick_15 mX11_tick_52
    rw [if_neg (nI_ge (by omega) (by omega)), gP_0_5 h, b1S, b1S, oK_7 h, b1S, f1, b1S, gI_0 h1, b1S, e9, pI_0 h1, b1S, gI_0 h2, b1S, e7]
    show ∃ s', _ = some ((a_ticks d (a_tick1 A)).1 7, s') ∧ _ ∧ RS false D s' (a_ticks d (a_tick1 A))
    rw [tick1_eq]
    generalize a_clock (ui A 9 (A.1 9 + 1)) = B at *
    generalize e_I s1 0 13 ((a_clock A).1 9 + 1) = s2 at *
    by_cases c7 : B.1 7 = 0
    · rw [if_pos c7, if_pos c7, nI_1]
      have r3 : RS false D s2 B := by
        have z := ((rs_z r2).1 c7).1
        have e : B.2.1 2 = [] := by
          have z' : shl (B.2.1 2) = [] := z
          cases hx : B.2.1 2 with
          | nil => rfl
          | cons a l =>
            rw [hx] at z'
            cases l with
            | nil => cases z'
            | cons b l => cases l with
              | nil => cases z'
              | cons c l => cases z'
        rw [shA_nil e] at r2
        exact r2
      obtain ⟨s3, f3, k3, r4⟩ := ih (i + 1) m s2 B C D (by omega) (by omega) h2 r3 w2 (by omega)
      exact ⟨s3, f3, kO_tr k2 k3, r4⟩
    · rw [if_neg c7, if_neg c7, oK_0 h2, b1S]
      obtain ⟨s3, f3, k3, r3⟩ := S_timers (show C < 2 ^ 30 by omega) h2 r2 w2
      have h3 := k3.1.1
      have w3 := run_WW w2
      obtain ⟨s4, f4, k4, r4⟩ := S_sends (show C + 12 < 2 ^ 30 by omega) h3 r3 w3
      have h4 := k4.1.1
      rw [f3, b1S, oK_0 h3, b1S, f4, b1S, nI_1]
      obtain ⟨s5, f5, k5, r5⟩ := ih (i + 1) m s4 _ (C + 13) D (by omega) (by omega) h4 r4 (WW_sends 13 C _ w3) (by omega)
      exact ⟨s5, f5, kO_tr k2 (kO_tr k3 (kO_tr k4 k5)), r5⟩
/-- a number in its bounds, as both look at it -/
theorem inL_cases (x : Int32) {lo hi : Nat} (hlo : lo < 2 ^ 31) (hhi : hi < 2 ^ 31) : (x < 0 ∧ inL x.toInt64 (lN lo) (lN hi) = 0) ∨ ∃ k : Nat, k < 2 ^ 31 ∧ x = nI k ∧ inL x.toInt64 (lN lo) (lN hi) = if lo ≤ k ∧ k ≤ hi then 1 else 0 := by
  by_cases c : x < 0
  · refine Or.inl ⟨c, ?_⟩
    unfold inL
    rw [if_pos]
    rw [lg_cmp_lt, Int64.lt_iff_toInt_lt, Int32.toInt_toInt64, pk_lT (by omega)]
    rw [Int32.lt_iff_toInt_lt] at c
    have : (0 : Int32).toInt = 0 := rfl
    omega
  · obtain ⟨k, hk, e⟩ := nI_of c
    refine Or.inr ⟨k, hk, e, ?_⟩
    rw [e]
    exact inL_nat hk hlo hhi
theorem S_tick {C D : Nat} (hC : C + 13000 < 2 ^ 30) {s : eS} (h : SH s) {A : aS} (r : RS false D s A) (w : WW C A) (x : Int32) : ∃ s', mX11_tick 0 x s = some ((a_tick A x).1, s') ∧ kO s s' ∧ RS false D s' (a_tick A x).2 := by
  unfold mX11_tick mX11_tick_11 a_tick
  rcases inL_cases x (lo := 0) (hi := 1000) (by omega) (by omega) with ⟨c, e⟩ | ⟨k, hk, rfl, e⟩
  · rw [show inL x.toInt64 0 1000 = 0 from e, if_pos c, if_pos rfl]
    exact ⟨s, rfl, kO_rf h, r⟩
  · rw [show inL (nI k).toInt64 0 1000 = _ from e, if_neg (nI_pos hk), nI_clamp hk]
    by_cases c : k ≤ 1000
    · rw [if_pos (show nI k ≤ 1000 from nI_le (b := 1000) c (by decide)), if_pos (show 0 ≤ k ∧ k ≤ 1000 by omega), if_neg (by decide)]
      obtain ⟨s1, f1, k1, r1⟩ := S_tick_loop (N := k) c k 0 100000 s A C D (by omega) (by omega) h r w (by omega)
      exact ⟨s1, f1, k1, r1⟩
    · rw [if_neg (show ¬ nI k ≤ 1000 from nI_ge (a := 1000) (by omega) hk), if_neg (show ¬ (0 ≤ k ∧ k ≤ 1000) by omega), if_pos rfl]
      exact ⟨s, rfl, kO_rf h, r⟩
theorem S_come {C D : Nat} (hC : C + 112 < 2 ^ 30) (hD : D + 8 < 2 ^ 30) {s : eS} (h : SH s) {A : aS} (r : RS false D s A) (o : sI s 14 4 = 0) (w : WW C A) (rx : rxW (A.2.1 1)) (x : Int32) (y : Int64) : ∃ s', mX11_come 0 x y s = some ((a_come A x y).1, s') ∧ kM s s' ∧ RS false (D + 8) s' (a_come A x y).2 ∧ sI s' 14 4 = 0 := by
  have e7 : sI s 0 11 = A.1 7 := (rs_i r).1 7 (by decide) (by decide)
  have r8 := RS_mono r (show D ≤ D + 8 by omega)
  unfold mX11_come mX11_come_11 a_come
  rcases inL_cases x (lo := 1) (hi := 8) (by omega) (by omega) with ⟨c, e⟩ | ⟨k, hk, rfl, e⟩
  · rw [show inL x.toInt64 1 8 = 0 from e, if_pos rfl, if_pos (show x < 1 from Int32.lt_of_lt_of_le c (by decide))]
    exact ⟨s, rfl, kM_rf h, r8, o⟩
  · rw [show inL (nI k).toInt64 1 8 = _ from e, nI_clamp hk]
    by_cases c1 : k < 1
    · rw [if_pos (lt_c (c := 1) 1 c1), if_neg (show ¬ (1 ≤ k ∧ k ≤ 8) by omega), if_pos rfl]
      exact ⟨s, rfl, kM_rf h, r8, o⟩
    rw [if_neg (nlt_c (c := 1) 1 (by omega))]
    by_cases c8 : k ≤ 8
    · rw [if_pos (show nI k ≤ 8 from nI_le (b := 8) c8 (by decide)), if_pos (show 1 ≤ k ∧ k ≤ 8 by omega), if_neg (by decide), gI_0 h, b1S, e7]
      by_cases c7 : A.1 7 = 0
      · rw [if_pos c7, if_pos c7]
        exact ⟨s, rfl, kM_rf h, r8, o⟩
      · rw [if_neg c7, if_neg c7, ← pk_e1]
        obtain ⟨s1, f1, k1, r1, o1⟩ := S_come_loop y k 100000 s A 0 C D (by omega) c8 h r o w rx (by omega) (by omega)
        exact ⟨s1, f1, k1, RS_mono r1 (by omega), o1⟩
    · rw [if_neg (show ¬ nI k ≤ 8 from nI_ge (a := 8) (by omega) hk), if_neg (show ¬ (1 ≤ k ∧ k ≤ 8) by omega), if_pos rfl]
      exact ⟨s, rfl, kM_rf h, r8, o⟩
