/-! ===== what is called: tick, come, open, close, clock, count ===== -/
theorem inL_in {x : Int32} {lo hi : Int64} (h : inL x.toInt64 lo hi ≠ 0) : lo.toInt ≤ x.toInt ∧ x.toInt ≤ hi.toInt := by
  unfold inL at h
  by_cases c1 : lg_cmp x.toInt64 lo < 0
  · rw [if_pos c1] at h; exact absurd rfl h
  · rw [if_neg c1] at h
    by_cases c2 : 0 < lg_cmp x.toInt64 hi
    · rw [if_pos c2] at h; exact absurd rfl h
    · rw [lg_cmp_lt, Int64.lt_iff_toInt_lt, Int32.toInt_toInt64] at c1
      rw [lg_cmp_gt, Int64.lt_iff_toInt_lt, Int32.toInt_toInt64] at c2
      omega
theorem inL_nI {x : Int32} {lo hi : Int64} (h : inL x.toInt64 lo hi ≠ 0) (hlo : 0 ≤ lo.toInt) : ∃ k : Nat, lo.toInt ≤ (k : Int) ∧ (k : Int) ≤ hi.toInt ∧ k < 2 ^ 31 ∧ x = nI k := by
  obtain ⟨h1, h2⟩ := inL_in h
  obtain ⟨k, hk, e⟩ := nI_of (x := x) (fun z => by
    rw [Int32.lt_iff_toInt_lt] at z
    have : (0 : Int32).toInt = 0 := rfl
    omega)
  have := nI_toInt hk
  rw [e] at h1 h2
  exact ⟨k, by omega, by omega, hk, e⟩
def a_tick (A : aS) (x : Int32) : Int32 × aS := if inL x.toInt64 0 1000 = 0 then (-1, A) else ((a_ticks x.toNatClampNeg A).1 7, a_ticks x.toNatClampNeg A)
theorem M_tick {C : Nat} {s : eS} (h : SH s) {A : aS} (r : RM s A) (w : WW C A) (x : Int32) : ∃ s', mX12_tick 26 x s = some ((a_tick A x).1, s') ∧ SH s' ∧ ag xA s s' ∧ RM s' (a_tick A x).2 ∧ WW (C + 13000) (a_tick A x).2 := by
  unfold mX12_tick a_tick
  rw [M_in, b2S]
  by_cases c : inL x.toInt64 0 1000 = 0
  · rw [if_pos c, if_pos c]
    exact ⟨s, rfl, h, ag_rf, r, WW_mono w (by omega)⟩
  · rw [if_neg c, if_neg c]
    obtain ⟨k, k1, k2, k3, e⟩ := inL_nI c (by decide)
    have k2' : (k : Int) ≤ 1000 := k2
    subst e
    rw [nI_clamp k3]
    obtain ⟨s1, e1, h1, g1, r1, w1⟩ := M_tick_loop (N := k) (by omega) k 0 100000 s A C (by omega) (by omega) h r w
    exact ⟨s1, e1, h1, xA_N (xN_M g1), r1, WW_mono w1 (by omega)⟩
def a_come (A : aS) (x : Int32) (y : Int64) : Int32 × aS := if inL x.toInt64 1 8 = 0 then (-1, A) else if A.1 7 = 0 then (-2, A) else a_bytes A 0 (bsL y x.toNatClampNeg)
theorem M_come {C : Nat} (hC : C + 112 < 2 ^ 30) {s : eS} (h : SH s) {A : aS} (r : RM s A) (w : WW C A) (rx : rxW (A.2.1 1)) (x : Int32) (y : Int64) : ∃ s', mX12_come 26 x y s = some ((a_come A x y).1, s') ∧ SH s' ∧ ag xA s s' ∧ RM s' (a_come A x y).2 ∧ WW (C + 112) (a_come A x y).2 ∧ rxW ((a_come A x y).2.2.1 1) := by
  have e7 : sI s 26 35 = A.1 7 := r.1 7 (by decide)
  unfold mX12_come a_come
  rw [M_in, b2S]
  by_cases c : inL x.toInt64 1 8 = 0
  · rw [if_pos c, if_pos c]
    exact ⟨s, rfl, h, ag_rf, r, WW_mono w (by omega), rx⟩
  · rw [if_neg c, if_neg c, gI_26 h, b1S, e7]
    by_cases c7 : A.1 7 = 0
    · rw [if_pos c7, if_pos c7]
      exact ⟨s, rfl, h, ag_rf, r, WW_mono w (by omega), rx⟩
    · rw [if_neg c7, if_neg c7]
      obtain ⟨k, k1, k2, k3, e⟩ := inL_nI c (by decide)
      have k2' : (k : Int) ≤ 8 := k2
      subst e
      rw [nI_clamp k3, ← pk_e1]
      obtain ⟨s1, e1, h1, g1, r1, w1, x1⟩ := M_come_loop y k 100000 s A 0 C (by omega) h r w rx (by omega)
      exact ⟨s1, e1, h1, g1, r1, WW_mono w1 (by omega), x1⟩
def a_open (A : aS) : Int32 × aS := if A.1 7 = 0 then (1, ui (ul (ui (ui (ui (ul (ui A 7 1) 0 []) 15 0) 16 0) 17 0) 1 []) 10 (A.1 9)) else (-2, A)
set_option maxRecDepth 100000 in
theorem M_open {s : eS} (h : SH s) {A : aS} (r : RM s A) : ∃ s', mX12_open 26 s = some ((a_open A).1, s') ∧ SH s' ∧ ag xA s s' ∧ RM s' (a_open A).2 := by
  have e7 : sI s 26 35 = A.1 7 := r.1 7 (by decide)
  unfold mX12_open a_open
  rw [gI_26 h, b1S, e7]
  by_cases c : A.1 7 = 0
  · rw [if_pos c, if_pos c]
    have r1 := RM_set r (k := 35) (j := 7) (x := 1) (by decide) (by decide)
    have h1 := SH_I (a := 26) (k := 35) (x := 1) h
    have g1 : ag xA s (e_I s 26 35 1) := ag_I ag_rf rfl
    rw [pI_26 h, b1S]
    generalize e_I s 26 35 1 = s1 at *
    have r2 : RM (e_I s1 26 49 0) (ul (ui A 7 1) 0 []) := RM_OU (ag_I ag_rf rfl) r1 ⟨rII_eq, rfl⟩
    have h2 := SH_I (a := 26) (k := 49) (x := 0) h1
    have g2 : ag xA s (e_I s1 26 49 0) := ag_I g1 rfl
    rw [pI_26 h1, b1S]
    generalize e_I s1 26 49 0 = s2 at *
    have r3 := RM_set r2 (k := 37) (j := 15) (x := 0) (by decide) (by decide)
    have h3 := SH_I (a := 26) (k := 37) (x := 0) h2
    have g3 : ag xA s (e_I s2 26 37 0) := ag_I g2 rfl
    rw [pI_26 h2, b1S]
    generalize e_I s2 26 37 0 = s3 at *
    have r4 := RM_set r3 (k := 38) (j := 16) (x := 0) (by decide) (by decide)
    have h4 := SH_I (a := 26) (k := 38) (x := 0) h3
    have g4 : ag xA s (e_I s3 26 38 0) := ag_I g3 rfl
    rw [pI_26 h3, b1S]
    generalize e_I s3 26 38 0 = s4 at *
    have r5 := RM_set r4 (k := 39) (j := 17) (x := 0) (by decide) (by decide)
    have h5 := SH_I (a := 26) (k := 39) (x := 0) h4
    have g5 : ag xA s (e_I s4 26 39 0) := ag_I g4 rfl
    rw [pI_26 h4, b1S]
    generalize e_I s4 26 39 0 = s5 at *
    have r6 : RM (e_I s5 26 51 0) (ul (ui (ui (ui (ul (ui A 7 1) 0 []) 15 0) 16 0) 17 0) 1 []) := RM_rx (ag_I ag_rf rfl) r5 ⟨rII_eq, rfl⟩
    have h6 := SH_I (a := 26) (k := 51) (x := 0) h5
    have g6 : ag xA s (e_I s5 26 51 0) := ag_I g5 rfl
    rw [pI_26 h5, b1S]
    generalize e_I s5 26 51 0 = s6 at *
    have e9 : sI s6 26 20 = A.1 9 := r6.1 9 (by decide)
    rw [gI_26 h6, b1S, e9, pI_26 h6, b1S]
    exact ⟨_, rfl, SH_I h6, ag_I g6 rfl, RM_set r6 (by decide) (by decide)⟩
  · rw [if_neg c, if_neg c]
    exact ⟨s, rfl, h, ag_rf, r⟩
def a_shut (A : aS) : Int32 × aS := if A.1 7 = 0 then (-2, A) else (1, a_close A 1)
theorem M_close {C : Nat} {s : eS} (h : SH s) {A : aS} (r : RM s A) (w : WW C A) : ∃ s', mX12_close 26 s = some ((a_shut A).1, s') ∧ SH s' ∧ ag xA s s' ∧ RM s' (a_shut A).2 := by
  have e7 : sI s 26 35 = A.1 7 := r.1 7 (by decide)
  unfold mX12_close a_shut
  rw [gI_26 h, b1S, e7]
  by_cases c : A.1 7 = 0
  · rw [if_pos c, if_pos c]
    exact ⟨s, rfl, h, ag_rf, r⟩
  · rw [if_neg c, if_neg c]
    obtain ⟨s1, e1, h1, g1, r1⟩ := M_closes h r (by have := w.1.2.1; omega) 1
    refine ⟨s1, ?_, h1, xA_N (xN_M g1), r1⟩
    rw [oK_26 h, b1S, e1, b1S]
def a_clockQ (A : aS) (x : Int32) : Int32 := if inL x.toInt64 0 5 = 0 then (if x = 6 then (if A.1 25 = 0 then 0 else 1) else -1) else A.1 (19 + x.toNatClampNeg)
theorem M_clock {s : eS} (h : SH s) {A : aS} (r : RM s A) (x : Int32) : mX12_clock 26 x s = some (a_clockQ A x, s) := by
  unfold mX12_clock mX12_clock_43 a_clockQ
  rw [M_in, b2S]
  by_cases c : inL x.toInt64 0 5 = 0
  · rw [if_pos c, if_pos c]
    have e : sI s 26 22 = A.1 25 := r.1 25 (by decide)
    by_cases c6 : x = 6
    · rw [if_pos c6, if_pos c6, gI_26 h, b1S, e]
      by_cases c0 : A.1 25 = 0
      · rw [if_pos c0, if_pos c0]
      · rw [if_neg c0, if_neg c0]
    · rw [if_neg c6, if_neg c6]
  · rw [if_neg c, if_neg c]
    obtain ⟨k, k1, k2, k3, e⟩ := inL_nI c (by decide)
    have k2' : (k : Int) ≤ 5 := k2
    subst e
    have m : ∀ k, k < 6 → mc (19 + k) = (41, k) := by decide
    have := r.1 (19 + k) (by omega)
    rw [m k (by omega)] at this
    rw [gP_26_21 h, b1S, b1S, aI_41 h (nIc (by omega) (by omega)), b1S, nI_clamp k3, ← this]
theorem it2 {p : Prop} [Decidable p] {a b : Int32} {s : eS} {X Y : Option (Int32 × eS)} (hy : Y = some (a, s)) (h : X = some (b, s)) : (if p then Y else X) = some (if p then a else b, s) := by
  split
  · exact hy
  · exact h
def a_count (A : aS) (x : Int32) : Int32 := if x = 0 then A.1 7 else if x = 1 then A.1 8 else if x = 2 then nI (A.2.1 0).length else if x = 3 then A.1 15 else if x = 4 then nI (A.2.2 5).length else if x = 5 then A.1 16 else if x = 6 then A.1 16 - A.1 17 else if x = 7 then nI (A.2.2 4).length else if x = 8 then nI (A.2.2 3).length else if x = 9 then (if A.1 12 = 0 then 0 else 1) else if x = 10 then A.1 13 else if x = 11 then A.1 14 else if x = 12 then nI (A.2.2 0).length else if x = 13 then nI (A.2.2 1).length else -1
theorem M_count {s : eS} (h : SH s) {A : aS} (r : RM s A) (x : Int32) : mX12_count 26 x s = some (a_count A x, s) := by
  have i7 : sI s 26 35 = A.1 7 := r.1 7 (by decide)
  have i8 : sI s 26 36 = A.1 8 := r.1 8 (by decide)
  have i15 : sI s 26 37 = A.1 15 := r.1 15 (by decide)
  have i16 : sI s 26 38 = A.1 16 := r.1 16 (by decide)
  have i17 : sI s 26 39 = A.1 17 := r.1 17 (by decide)
  have i12 : sI s 26 42 = A.1 12 := r.1 12 (by decide)
  have i13 : sI s 26 44 = A.1 13 := r.1 13 (by decide)
  have i14 : sI s 26 19 = A.1 14 := r.1 14 (by decide)
  obtain ⟨-, ⟨o1, -⟩, -, -, ⟨p1, -⟩, ⟨c1, -⟩, ⟨s1, -⟩, ⟨v1, -⟩, ⟨a1, -⟩⟩ := r
  unfold mX12_count mX12_count_134 a_count
  simp only [gI_26 h, b1S, i7, i8, i15, i16, i17, i12, i13, i14, o1, p1, c1, s1, v1, a1]
  refine it2 rfl (it2 rfl (it2 rfl (it2 rfl (it2 rfl (it2 rfl (it2 rfl (it2 rfl (it2 rfl (it2 (it2 rfl rfl) (it2 rfl (it2 rfl (it2 rfl (it2 rfl rfl)))))))))))))
