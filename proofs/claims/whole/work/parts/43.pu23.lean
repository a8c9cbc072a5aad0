/-! ===== the model takes a frame, whole ===== -/
def a_fr0 (A : aS) (x : Int32) : aS := (a_fr A [x, 0, 0, 0] []).2
theorem WW_fr0 {C : Nat} {A : aS} (w : WW C A) (x : Int32) : WW C (a_fr0 A x) := WW_fr w _ _ rfl
theorem M_fr0 {C : Nat} {s : eS} (h : SH s) {A : aS} (r : RM s A) (w : WW C A) (x : Int32) : ∃ y s', mX12_frames 26 x 0 0 0 0 s = some (y, s') ∧ SH s' ∧ ag xM s s' ∧ RM s' (a_fr0 A x) := by
  obtain ⟨s1, e1, h1, g1, r1, -⟩ := M_frames h r (by have := w.1.2.1; omega) w.1.1 (bs := []) (Nat.zero_le _) rfl x 0 0 0
  exact ⟨_, s1, e1, h1, g1, r1⟩
def a_start (A : aS) (x : Int32) : aS := a_fr0 (ui A 7 x) 11
def a_ordr (A : aS) (x : Int32) : aS :=
  if x = 7 then (if A.1 7 = 1 then a_start A 2 else if A.1 7 = 3 then a_start A 2 else a_start A (A.1 7))
  else if x = 19 then (if A.1 7 = 2 then (if A.1 16 ≤ A.1 17 then ui A 7 3 else a_tell (ui A 7 3)) else if A.1 7 = 1 then a_fr0 A 35 else A)
  else if x = 67 then a_fr0 A 131 else if x = 131 then ui A 12 0 else A
theorem WW_ordr {C : Nat} {A : aS} (w : WW C A) (x : Int32) : WW C (a_ordr A x) := by
  have st : ∀ y, WW C (a_start A y) := fun y => WW_fr0 (WW_ui w (by decide) _) _
  exact WW_ite (WW_ite (st _) (WW_ite (st _) (st _))) (WW_ite (WW_ite (WW_ite (WW_ui w (by decide) _) (WW_tell (WW_ui w (by decide) _))) (WW_ite (WW_fr0 w _) w)) (WW_ite (WW_fr0 w _) (WW_ite (WW_ui w (by decide) _) w)))
set_option maxRecDepth 100000 in
theorem M_takesOrder {C : Nat} {s : eS} (h : SH s) {A : aS} (r : RM s A) (w : WW C A) (x : Int32) : ∃ s', mX12_takesOrder 26 x s = some s' ∧ SH s' ∧ ag xM s s' ∧ RM s' (a_ordr A x) := by
  have e7 : sI s 26 35 = A.1 7 := r.1 7 (by decide)
  have e16 : sI s 26 38 = A.1 16 := r.1 16 (by decide)
  have e17 : sI s 26 39 = A.1 17 := r.1 17 (by decide)
  have st : ∀ y, ∃ s', mX12_takesOrder_33 26 y (some 26) s = some s' ∧ SH s' ∧ ag xM s s' ∧ RM s' (a_start A y) := fun y => by
    have h1 : SH (e_I s 26 35 y) := SH_I h
    have g1 : ag xM s (e_I s 26 35 y) := xM_I ag_rf (by decide)
    obtain ⟨z, s2, e2, h2, g2, r2⟩ := M_fr0 (C := C) h1 (RM_set r (j := 7) (by decide) (by decide)) (WW_ui w (by decide) _) 11
    refine ⟨s2, ?_, h2, ag_tr g1 g2, r2⟩
    unfold mX12_takesOrder_33 mX12_takesOrder_142
    rw [b1S, pI_26 h, b1S, oK_26 h1, b1S, e2, b2S]
  unfold mX12_takesOrder mX12_takesOrder_25 mX12_takesOrder_142 a_ordr
  by_cases c7 : x = 7
  · rw [if_pos c7, if_pos c7, gI_26 h, b1S, e7]
    by_cases c1 : A.1 7 = 1
    · rw [if_pos c1, if_pos c1]; exact st 2
    · rw [if_neg c1, if_neg c1, b1S]
      by_cases c3 : A.1 7 = 3
      · rw [if_pos c3, if_pos c3]; exact st 2
      · rw [if_neg c3, if_neg c3, b1S]; exact st _
  · rw [if_neg c7, if_neg c7]
    by_cases c19 : x = 19
    · rw [if_pos c19, if_pos c19, gI_26 h, b1S, e7]
      by_cases c2 : A.1 7 = 2
      · have h1 : SH (e_I s 26 35 3) := SH_I h
        have g1 : ag xM s (e_I s 26 35 3) := xM_I ag_rf (by decide)
        have r1 : RM (e_I s 26 35 3) (ui A 7 3) := RM_set r (by decide) (by decide)
        rw [if_pos c2, if_pos c2, pI_26 h, b1S, gI_26 h1, b1S, gI_26 h1, b1S, rII_ne (Or.inr (by decide)), rII_ne (Or.inr (by decide)), e16, e17]
        by_cases c3 : A.1 16 ≤ A.1 17
        · rw [if_pos c3, if_pos c3]
          exact ⟨_, rfl, h1, g1, r1⟩
        · rw [if_neg c3, if_neg c3]
          have w1 : WW C (ui A 7 3) := WW_ui w (by decide) _
          obtain ⟨s2, e2, h2, g2, r2⟩ := M_tells h1 r1 (by have := w1.1.2.1; omega) w1.1.1
          refine ⟨s2, ?_, h2, ag_tr g1 g2, r2⟩
          rw [oK_26 h1, b1S, e2, b1S]
      · rw [if_neg c2, if_neg c2, b1S]
        by_cases c1 : A.1 7 = 1
        · rw [if_pos c1, if_pos c1]
          obtain ⟨z, s2, e2, h2, g2, r2⟩ := M_fr0 h r w 35
          refine ⟨s2, ?_, h2, g2, r2⟩
          rw [oK_26 h, b1S, e2, b2S]
        · rw [if_neg c1, if_neg c1]
          exact ⟨s, rfl, h, ag_rf, r⟩
    · rw [if_neg c19, if_neg c19]
      by_cases c67 : x = 67
      · rw [if_pos c67, if_pos c67]
        obtain ⟨z, s2, e2, h2, g2, r2⟩ := M_fr0 h r w 131
        refine ⟨s2, ?_, h2, g2, r2⟩
        rw [oK_26 h, b1S, e2, b2S]
      · rw [if_neg c67, if_neg c67]
        by_cases c131 : x = 131
        · rw [if_pos c131, if_pos c131, pZ_26 h (Or.inl rfl), b1S]
          exact ⟨_, rfl, SH_I h, xM_I ag_rf (by decide), RM_set r (by decide) (by decide)⟩
        · rw [if_neg c131, if_neg c131]
          exact ⟨s, rfl, h, ag_rf, r⟩
def a_77 (A : aS) : aS := if (a_sends 13 A).1 7 = 0 then a_sends 13 A else if (a_sends 13 A).1 16 - (a_sends 13 A).1 17 < (a_sends 13 A).1 2 then a_sends 13 A else a_tell (a_sends 13 A)
def a_46 (A : aS) : aS := if A.1 7 = 3 then (if (A.2.2 5).length = 0 then a_77 (a_fr0 (ui A 7 1) 35) else a_77 A) else a_77 A
theorem WW_77 {C : Nat} {A : aS} (w : WW C A) : WW (C + 13) (a_77 A) := WW_ite (WW_sends 13 C A w) (WW_ite (WW_sends 13 C A w) (WW_tell (WW_sends 13 C A w)))
theorem WW_46 {C : Nat} {A : aS} (w : WW C A) : WW (C + 13) (a_46 A) := WW_ite (WW_ite (WW_77 (WW_fr0 (WW_ui w (by decide) _) _)) (WW_77 w)) (WW_77 w)
theorem M_77 {C : Nat} {s : eS} (h : SH s) {A : aS} (r : RM s A) (w : WW C A) : ∃ s', mX12_takes_77 26 s = some s' ∧ SH s' ∧ ag xM s s' ∧ RM s' (a_77 A) := by
  obtain ⟨s1, e1, h1, g1, r1, w1⟩ := M_sends h r w.1
  unfold mX12_takes_77 mX12_takes_110 a_77
  rw [oK_26 h, b1S, e1, b1S]
  generalize a_sends 13 A = B at *
  have e7 : sI s1 26 35 = B.1 7 := r1.1 7 (by decide)
  have e16 : sI s1 26 38 = B.1 16 := r1.1 16 (by decide)
  have e17 : sI s1 26 39 = B.1 17 := r1.1 17 (by decide)
  have e2 : sI s1 27 2 = B.1 2 := r1.1 2 (by decide)
  rw [gI_26 h1, b1S, e7]
  by_cases c7 : B.1 7 = 0
  · rw [if_pos c7, if_pos c7]
    exact ⟨s1, rfl, h1, g1, r1⟩
  · rw [if_neg c7, if_neg c7, gI_26 h1, b1S, gI_26 h1, b1S, gP_26_0 h1, b1S, b1S, aI_27 h1 (by decide), b1S, show (2 : Int32).toNatClampNeg = 2 from rfl, e16, e17, e2]
    by_cases c : B.1 16 - B.1 17 < B.1 2
    · rw [if_pos c, if_pos c]
      exact ⟨s1, rfl, h1, g1, r1⟩
    · rw [if_neg c, if_neg c]
      obtain ⟨s2, e2', h2, g2, r2⟩ := M_tells h1 r1 (by have := w1.2.1; omega) w1.1
      refine ⟨s2, ?_, h2, ag_tr g1 g2, r2⟩
      rw [oK_26 h1, b1S, e2', b1S]
theorem M_46 {C : Nat} {s : eS} (h : SH s) {A : aS} (r : RM s A) (w : WW C A) : ∃ s', mX12_takes_46 26 s = some s' ∧ SH s' ∧ ag xM s s' ∧ RM s' (a_46 A) := by
  have e7 : sI s 26 35 = A.1 7 := r.1 7 (by decide)
  have en : sI s 26 28 = nI (A.2.2 5).length := r.2.2.2.2.2.2.1.1
  have h12 := w.1.2.2.1
  unfold mX12_takes_46 a_46
  rw [gI_26 h, b1S, e7]
  by_cases c3 : A.1 7 = 3
  · rw [if_pos c3, if_pos c3, gI_26 h, b1S, en]
    by_cases c0 : (A.2.2 5).length = 0
    · rw [if_pos c0, if_pos (by rw [c0]; rfl), pI_26 h, b1S]
      have h1 : SH (e_I s 26 35 1) := SH_I h
      have g1 : ag xM s (e_I s 26 35 1) := xM_I ag_rf (by decide)
      have w1 : WW C (ui A 7 1) := WW_ui w (by decide) _
      obtain ⟨z, s2, e2, h2, g2, r2⟩ := M_fr0 (C := C) h1 (RM_set r (j := 7) (by decide) (by decide)) w1 35
      obtain ⟨s3, e3, h3, g3, r3⟩ := M_77 h2 r2 (WW_fr0 w1 35)
      refine ⟨s3, ?_, h3, ag_tr g1 (ag_tr g2 g3), r3⟩
      rw [oK_26 h1, b1S, e2, b2S, e3]
    · rw [if_neg c0, if_neg (nI_ne0 (by omega) (by omega))]
      exact M_77 h r w
  · rw [if_neg c3, if_neg c3]
    exact M_77 h r w
def a_takes (A : aS) (F : List Int32) (n : Nat) : aS := if F.getD 2 0 &&& 1 = 0 then a_46 (a_data (ui A 10 (A.1 9)) F n) else if F.getD 2 0 = 1 then a_46 (a_ackF (ui A 10 (A.1 9)) F).2 else a_46 (a_ordr (ui A 10 (A.1 9)) (F.getD 2 0))
theorem WW_takes {C : Nat} {A : aS} (w : WW C A) {F : List Int32} {n : Nat} (f : fullF F n) : WW (C + 14) (a_takes A F n) := by
  have w0 : WW C (ui A 10 (A.1 9)) := WW_ui w (by decide) _
  exact WW_ite (WW_46 (WW_data w0 f)) (WW_ite (WW_mono (WW_46 (WW_ack w0 _)) (by omega)) (WW_mono (WW_46 (WW_ordr w0 _)) (by omega)))
set_option maxRecDepth 100000 in
theorem M_takes {C : Nat} (hC : C < 2 ^ 30) {s : eS} (h : SH s) {A : aS} (r : RM s A) (w : WW C A) {F : List Int32} (fr : FR s F) (bf : byF F) {n : Nat} (f : fullF F n) : ∃ s', mX12_takes 26 s = some s' ∧ SH s' ∧ ag xN s s' ∧ RM s' (a_takes A F n) := by
  have e9 : sI s 26 20 = A.1 9 := r.1 9 (by decide)
  have h0 : SH (e_I s 26 41 (A.1 9)) := SH_I h
  have g0 : ag xM s (e_I s 26 41 (A.1 9)) := xM_I ag_rf (by decide)
  have r0 : RM (e_I s 26 41 (A.1 9)) (ui A 10 (A.1 9)) := RM_set r (by decide) (by decide)
  have w0 : WW C (ui A 10 (A.1 9)) := WW_ui w (by decide) _
  have fr0 := FR_M g0 fr
  have q2 : sI (e_I s 26 41 (A.1 9)) 55 2 = F.getD 2 0 := FR_at fr0 (by rw [f.1]; omega)
  unfold mX12_takes a_takes
  rw [gI_26 h, b1S, e9, pI_26 h, b1S, gP_26_50 h0, b1S, b1S, aI_55 h0 (by decide), b1S, show (2 : Int32).toNatClampNeg = 2 from rfl, q2]
  by_cases c1 : F.getD 2 0 &&& 1 = 0
  · rw [if_pos c1, if_pos c1]
    obtain ⟨s1, e1, h1, g1, r1⟩ := M_takesData hC h0 r0 w0 fr0 bf f
    obtain ⟨s2, e2, h2, g2, r2⟩ := M_46 h1 r1 (WW_data w0 f)
    refine ⟨s2, ?_, h2, ag_tr (xN_M g0) (ag_tr g1 (xN_M g2)), r2⟩
    rw [oK_26 h0, b1S, e1, b1S, e2]
  · rw [if_neg c1, if_neg c1]
    by_cases c2 : F.getD 2 0 = 1
    · rw [if_pos c2, if_pos c2]
      obtain ⟨s1, e1, h1, g1, r1⟩ := M_ackF hC h0 r0 w0 fr0 bf f
      obtain ⟨s2, e2, h2, g2, r2⟩ := M_46 h1 r1 (WW_ack w0 _)
      refine ⟨s2, ?_, h2, ag_tr (xN_M g0) (ag_tr (xN_M g1) (xN_M g2)), r2⟩
      rw [oK_26 h0, b1S, e1, b2S, e2]
    · rw [if_neg c2, if_neg c2]
      obtain ⟨s1, e1, h1, g1, r1⟩ := M_takesOrder h0 r0 w0 (F.getD 2 0)
      obtain ⟨s2, e2, h2, g2, r2⟩ := M_46 h1 r1 (WW_ordr w0 _)
      refine ⟨s2, ?_, h2, ag_tr (xN_M g0) (ag_tr (xN_M g1) (xN_M g2)), r2⟩
      rw [oK_26 h0, b1S, e1, b1S, e2]
