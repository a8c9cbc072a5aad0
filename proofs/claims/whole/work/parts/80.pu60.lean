/-! ===== TIMERS ===== -/
def a_T3 (A : aS) : aS := if A.1 7 = 0 then A else if A.1 12 = 0 then (if A.1 9 - A.1 10 < A.1 5 then A else a_test A) else A
def a_T2 (A : aS) : aS := if A.1 16 ≤ A.1 17 then A else if A.1 9 - A.1 18 < A.1 4 then A else a_tell A
def a_r80 (A : aS) : aS := a_sel (a_T3 (a_T2 A))
def a_r49 (A : aS) : aS := if A.1 12 = 0 then a_r80 A else if A.1 9 - A.1 11 < A.1 3 then a_r80 A else a_close A 4
def a_run (A : aS) : aS := if (A.2.2 5).length = 0 then a_r49 A else if A.1 3 ≤ A.1 9 - pg (A.2.2 5) 0 0 then a_close A 4 else a_r49 A
theorem sends_no (n : Nat) {X : aS} (h : X.1 7 ≠ 2) : a_sends n X = X := by
  cases n with
  | zero => rfl
  | succ n => unfold a_sends; rw [if_neg h]
theorem a_113_eq (A : aS) : a_113 A = a_sends 13 (a_sel (a_T3 A)) := by
  unfold a_113 a_T3
  by_cases c7 : A.1 7 = 0
  · rw [if_pos c7, if_pos c7, a_179_eq]
  rw [if_neg c7, if_neg c7]
  by_cases c12 : A.1 12 = 0
  · rw [if_pos c12, if_pos c12]
    by_cases c : A.1 9 - A.1 10 < A.1 5
    · rw [if_pos c, if_pos c, a_179_eq]
    · rw [if_neg c, if_neg c]
      unfold a_test
      by_cases cf : (a_fr A [67, 0, 0, 0] []).1 = 0
      · rw [if_pos cf, if_pos cf, a_179_eq]
      · rw [if_neg cf, if_neg cf, a_179_eq]
  · rw [if_neg c12, if_neg c12, a_179_eq]
theorem a_80_eq (A : aS) : a_80 A = a_sends 13 (a_r80 A) := by
  unfold a_80 a_r80 a_T2
  by_cases c1 : A.1 16 ≤ A.1 17
  · rw [if_pos c1, if_pos c1, a_113_eq]
  · rw [if_neg c1, if_neg c1]
    by_cases c2 : A.1 9 - A.1 18 < A.1 4
    · rw [if_pos c2, if_pos c2, a_113_eq]
    · rw [if_neg c2, if_neg c2, a_113_eq]
theorem a_49_eq (A : aS) : a_49 A = a_sends 13 (a_r49 A) := by
  unfold a_49 a_r49
  by_cases c1 : A.1 12 = 0
  · rw [if_pos c1, if_pos c1, a_80_eq]
  · rw [if_neg c1, if_neg c1]
    by_cases c2 : A.1 9 - A.1 11 < A.1 3
    · rw [if_pos c2, if_pos c2, a_80_eq]
    · rw [if_neg c2, if_neg c2, sends_no 13 (show (a_close A 4).1 7 ≠ 2 by show (0 : Int32) ≠ 2; decide)]
theorem tick1_eq (A : aS) : a_tick1 A = if (a_clock (ui A 9 (A.1 9 + 1))).1 7 = 0 then a_clock (ui A 9 (A.1 9 + 1)) else a_sends 13 (a_run (a_clock (ui A 9 (A.1 9 + 1)))) := by
  unfold a_tick1 a_run
  generalize a_clock (ui A 9 (A.1 9 + 1)) = B
  by_cases c7 : B.1 7 = 0
  · rw [if_pos c7, if_pos c7]
  rw [if_neg c7, if_neg c7]
  by_cases c5 : (B.2.2 5).length = 0
  · rw [if_pos c5, if_pos c5, a_49_eq]
  · rw [if_neg c5, if_neg c5]
    by_cases c : B.1 3 ≤ B.1 9 - pg (B.2.2 5) 0 0
    · rw [if_pos c, if_pos c, sends_no 13 (show (a_close B 4).1 7 ≠ 2 by show (0 : Int32) ≠ 2; decide)]
    · rw [if_neg c, if_neg c, a_49_eq]
theorem S_isOver {t : Bool} {C : Nat} {s : eS} (h : SH s) {A : aS} (r : RS t C s A) (x y : Int32) : mX11_isOver 0 x y s = some (if A.1 9 - x < y then 0 else 1, s) := by
  have e9 : sI s 0 13 = A.1 9 := (rs_i r).1 9 (by decide) (by decide)
  unfold mX11_isOver mX11_isOver_15
  rw [gI_0 h, b1S, e9, oZ0, oZ1, b1S, b1S]
  by_cases c : A.1 9 - x < y
  · rw [if_pos c, if_pos c]
  · rw [if_neg c, if_neg c]
set_option maxRecDepth 100000 in
theorem S_114 {t : Bool} {C : Nat} {s : eS} (h : SH s) {A : aS} (r : RS t C s (shA A)) : ∃ s', mX11_runTimers_114 0 s = some s' ∧ kO s s' ∧ RS t C s' (a_sel (a_T3 A)) := by
  have e7 : sI s 0 11 = A.1 7 := (rs_i r).1 7 (by decide) (by decide)
  have e12 : sI s 0 16 = A.1 12 := (rs_i r).1 12 (by decide) (by decide)
  have e10 : sI s 0 14 = A.1 10 := (rs_i r).1 10 (by decide) (by decide)
  have e5 : sI s 1 5 = A.1 5 := (rs_i r).1 5 (by decide) (by decide)
  unfold mX11_runTimers_114 a_T3
  rw [gI_0 h, b1S, e7]
  by_cases c7 : A.1 7 = 0
  · rw [if_pos c7, if_pos c7]
    exact S_selGo h r
  rw [if_neg c7, if_neg c7, gI_0 h, b1S, e12]
  by_cases c12 : A.1 12 = 0
  · rw [if_pos c12, if_pos c12, gI_0 h, b1S, e10, gP_0_0 h, b1S, b1S, aI_1 h (by decide), b1S, show (5 : Int32).toNatClampNeg = 5 from rfl, e5, oK_0 h, b1S, S_isOver h r, b2S]
    show ∃ s', (if (if A.1 9 - A.1 10 < A.1 5 then (0 : Int32) else 1) = 0 then _ else _) = some s' ∧ _ ∧ _
    by_cases c : A.1 9 - A.1 10 < A.1 5
    · rw [if_pos c, if_pos rfl, if_pos c]
      exact S_selGo h r
    · rw [if_neg c, if_neg (by decide), if_neg c, oK_0 h, b1S]
      obtain ⟨s1, f1, k1, r1⟩ := S_sendTest h r
      rw [test_shA] at r1
      rw [f1, b1S]
      obtain ⟨s2, f2, k2, r2⟩ := S_selGo k1.1.1 r1
      exact ⟨s2, f2, kO_tr k1 k2, r2⟩
  · rw [if_neg c12, if_neg c12]
    exact S_selGo h r
set_option maxRecDepth 100000 in
theorem S_65 {t : Bool} {D C : Nat} (hC : C < 2 ^ 30) {s : eS} (h : SH s) {A : aS} (r : RS t D s (shA A)) (w : WW C A) : (∃ s', mX11_runTimers_65 0 0 0 s = some s' ∧ kO s s' ∧ RS t D s' (a_r80 A)) ∧ ∀ x y : Int32, (x ≠ 0 ∨ y ≠ 0) → ∃ s', mX11_runTimers_65 0 x y s = some s' ∧ kO s s' ∧ RS t D s' (a_close A 4) := by
  have w' : WW C (shA A) := WW_ul2 w _
  have e18 : sI s 18 4 = A.1 18 := (rs_i r).1 18 (by decide) (by decide)
  have e4 : sI s 1 4 = A.1 4 := (rs_i r).1 4 (by decide) (by decide)
  have e3 : sI s 18 3 = A.1 16 - A.1 17 := (rs_i r).2
  constructor
  · unfold mX11_runTimers_65 a_r80 a_T2
    rw [if_pos rfl, if_pos rfl, gP_0_8 h, b1S, b1S, gI_18 h, b1S, e3]
    have ul : (A.1 16 - A.1 17 ≤ 0 ↔ A.1 16 ≤ A.1 17) := untold_le hC w' (rs_z r).2.2.1
    by_cases c1 : A.1 16 ≤ A.1 17
    · rw [if_pos c1, if_pos (ul.mpr c1)]
      exact S_114 h r
    · rw [if_neg c1, if_neg (fun z => c1 (ul.mp z)), b1S, b1S, gI_18 h, b1S, e18, gP_0_0 h, b1S, b1S, aI_1 h (by decide), b1S, show (4 : Int32).toNatClampNeg = 4 from rfl, e4, oK_0 h, b1S, S_isOver h r, b2S]
      show ∃ s', (if (if A.1 9 - A.1 18 < A.1 4 then (0 : Int32) else 1) = 0 then _ else _) = some s' ∧ _ ∧ _
      by_cases c : A.1 9 - A.1 18 < A.1 4
      · rw [if_pos c, if_pos rfl, if_pos c]
        exact S_114 h r
      · rw [if_neg c, if_neg (by decide), if_neg c, oK_0 h, b1S]
        obtain ⟨s1, f1, k1, r1⟩ := S_sendAck hC h r w'
        rw [tell_shA] at r1
        rw [f1, b1S]
        obtain ⟨s2, f2, k2, r2⟩ := S_114 k1.1.1 r1
        exact ⟨s2, f2, kO_tr k1 k2, r2⟩
  · intro x y hxy
    have sh : ∃ s', mX11_runTimers_74 0 s = some s' ∧ kO s s' ∧ RS t D s' (a_close A 4) := by
      obtain ⟨s1, f1, k1, r1⟩ := k_shut h r 4
      rw [close_shA] at r1
      unfold mX11_runTimers_74
      rw [oK_0 h, b1S, f1, b1S]
      exact ⟨s1, rfl, k1, r1⟩
    unfold mX11_runTimers_65
    by_cases cx : x = 0
    · rw [if_pos cx, if_neg (by rcases hxy with z | z; exact absurd cx z; exact z)]
      exact sh
    · rw [if_neg cx]
      exact sh
set_option maxRecDepth 100000 in
theorem S_timers {t : Bool} {D C : Nat} (hC : C < 2 ^ 30) {s : eS} (h : SH s) {A : aS} (r : RS t D s (shA A)) (w : WW C A) : ∃ s', mX11_runTimers 0 s = some s' ∧ kO s s' ∧ RS t D s' (a_run A) := by
  have h12 := w.1.2.2.1
  obtain ⟨n65, y65⟩ := S_65 hC h r w
  have e12 : sI s 0 16 = A.1 12 := (rs_i r).1 12 (by decide) (by decide)
  have e11 : sI s 0 15 = A.1 11 := (rs_i r).1 11 (by decide) (by decide)
  have e3 : sI s 1 3 = A.1 3 := (rs_i r).1 3 (by decide) (by decide)
  have t35 : ∃ s', mX11_runTimers_35 0 0 s = some s' ∧ kO s s' ∧ RS t D s' (a_r49 A) := by
    unfold mX11_runTimers_35 mX11_runTimers_64 a_r49
    rw [gI_0 h, b1S, e12]
    by_cases c12 : A.1 12 = 0
    · rw [if_pos c12, if_pos c12]; exact n65
    · rw [if_neg c12, if_neg c12, gI_0 h, b1S, e11, gP_0_0 h, b1S, b1S, aI_1 h (by decide), b1S, show (3 : Int32).toNatClampNeg = 3 from rfl, e3, oK_0 h, b1S, S_isOver h r, b2S]
      show ∃ s', (if (if A.1 9 - A.1 11 < A.1 3 then (0 : Int32) else 1) = 0 then _ else _) = some s' ∧ _ ∧ _
      by_cases c : A.1 9 - A.1 11 < A.1 3
      · rw [if_pos c, if_pos rfl, if_pos c]; exact n65
      · rw [if_neg c, if_neg (by decide), if_neg c]; exact y65 0 1 (Or.inr (by decide))
  have l35 : ∃ s', mX11_runTimers_35 0 1 s = some s' ∧ kO s s' ∧ RS t D s' (a_close A 4) := by
    unfold mX11_runTimers_35 mX11_runTimers_64
    rw [gI_0 h, b1S, e12]
    by_cases c12 : A.1 12 = 0
    · rw [if_pos c12]; exact y65 1 0 (Or.inl (by decide))
    · rw [if_neg c12, gI_0 h, b1S, e11, gP_0_0 h, b1S, b1S, aI_1 h (by decide), b1S, show (3 : Int32).toNatClampNeg = 3 from rfl, e3, oK_0 h, b1S, S_isOver h r, b2S]
      by_cases c : (if (shA A).1 9 - A.1 11 < A.1 3 then (0 : Int32) else 1) = 0
      · rw [if_pos c]; exact y65 1 0 (Or.inl (by decide))
      · rw [if_neg c]; exact y65 1 1 (Or.inl (by decide))
  obtain ⟨st, hst, n2, n5, -, nn⟩ := rs_n r
  have n5' : sI s 21 3 = nI (A.2.2 5).length := n5
  unfold mX11_runTimers mX11_runTimers_34 a_run
  rw [gP_0_9 h, b1S, b1S, gI_21 h, b1S, n5']
  by_cases c5 : (A.2.2 5).length = 0
  · rw [if_pos c5, if_pos (show nI (A.2.2 5).length ≤ 0 by rw [c5]; decide)]
    exact t35
  · rw [if_neg c5, if_neg (nI_nle (by omega) (by omega))]
    have hi : ¬ nI st < 0 ∧ (nI st).toNatClampNeg < 12 := nIc (by omega) hst
    have h0 := nn 0 (by show 0 < (A.2.2 5).length; omega)
    rw [Nat.add_zero, Nat.mod_eq_of_lt hst] at h0
    have ea : pg (A.2.2 5) 0 0 = sI s 22 st := by
      unfold pg
      have h1 : (A.2.2 5).getD 0 [] = [sI s 22 st, sI s 23 st] := h0.1
      rw [h1]; rfl
    have eld : mX10_eldestAt 21 s = some (pg (A.2.2 5) 0 0, s) := by
      unfold mX10_eldestAt
      rw [gP_21_0 h, b1S, gI_21 h, b1S, b1S, n2, aI_22 h hi, b1S, nI_clamp (by omega), ea]
    rw [b1S, b1S, oK_21 h, b1S, eld, b2S, gP_0_0 h, b1S, b1S, aI_1 h (by decide), b1S, show (3 : Int32).toNatClampNeg = 3 from rfl, e3, oK_0 h, b1S, S_isOver h r, b2S]
    show ∃ s', (if (if A.1 9 - pg (A.2.2 5) 0 0 < A.1 3 then (0 : Int32) else 1) = 0 then _ else _) = some s' ∧ _ ∧ _
    by_cases c : A.1 9 - pg (A.2.2 5) 0 0 < A.1 3
    · rw [if_pos c, if_pos rfl, if_neg (Int32.not_le.mpr c)]
      exact t35
    · rw [if_neg c, if_neg (by decide), if_pos (Int32.not_lt.mp c)]
      exact l35
theorem ui9 (A : aS) (x : Int32) {j : Nat} (hj : j ≠ 9) (y : Int32) : ui (ui A 9 x) j y = ui (ui A j y) 9 x := by
  refine Prod.ext (funext fun k => ?_) rfl
  show (if k = j then y else if k = 9 then x else A.1 k) = if k = 9 then x else if k = j then y else A.1 k
  by_cases c : k = 9
  · subst c
    rw [if_neg (fun e => hj e.symm), if_pos rfl, if_pos rfl]
  · simp only [if_neg c]
theorem clock_9 (A : aS) (x : Int32) : a_clock (ui A 9 x) = ui (a_clock A) 9 x := by
  unfold a_clock
  show (if 60000 ≤ A.1 19 + 100 then (if 60 ≤ A.1 20 + 1 then (if 24 ≤ A.1 21 + 1 then (if dF (A.1 23) (A.1 24) < A.1 22 + 1 then (if A.1 23 + 1 ≤ 12 then _ else _) else _) else _) else _) else _) = _
  by_cases c0 : 60000 ≤ A.1 19 + 100
  case neg => rw [if_neg c0, if_neg c0]; exact ui9 A x (by decide) _
  rw [if_pos c0, if_pos c0]
  by_cases c1 : 60 ≤ A.1 20 + 1
  case neg => rw [if_neg c1, if_neg c1]; simp (disch := decide) only [ui9]; rfl
  rw [if_pos c1, if_pos c1]
  by_cases c2 : 24 ≤ A.1 21 + 1
  case neg => rw [if_neg c2, if_neg c2]; simp (disch := decide) only [ui9]; rfl
  rw [if_pos c2, if_pos c2]
  by_cases c3 : dF (A.1 23) (A.1 24) < A.1 22 + 1
  case neg => rw [if_neg c3, if_neg c3]; simp (disch := decide) only [ui9]; rfl
  rw [if_pos c3, if_pos c3]
  by_cases c4 : A.1 23 + 1 ≤ 12
  · rw [if_pos c4, if_pos c4]; simp (disch := decide) only [ui9]; rfl
  · rw [if_neg c4, if_neg c4]; simp (disch := decide) only [ui9]; rfl
theorem clock_keep (A : aS) : (a_clock A).1 9 = A.1 9 ∧ (a_clock A).1 7 = A.1 7 := by
  unfold a_clock
  split
  · split
    · split
      · split
        · split <;> exact ⟨rfl, rfl⟩
        · exact ⟨rfl, rfl⟩
      · exact ⟨rfl, rfl⟩
    · exact ⟨rfl, rfl⟩
  · exact ⟨rfl, rfl⟩
