/-! ===== the model is asked ===== -/
theorem W1_objs (ctr cause : Int32) : ∀ (e : Nat) (A : aS) (l : List Nat), W1 A → W1 (a_objs ctr cause e A l)
  | 0, _, _, w => w
  | e + 1, A, l, w => by
    unfold a_objs
    split
    · exact w
    · rename_i hl
      split
      · exact w
      · obtain ⟨k1, k6, kl⟩ := ckF_in (A.2.2 0) (l := l) (by omega)
        refine W1_objs ctr cause e _ _ (W1_wait w ?_)
        unfold bsO
        have h1 := obs_len A ctr (l.take (ckF (A.2.2 0) l))
        have h2 : (l.take (ckF (A.2.2 0) l)).length ≤ ckF (A.2.2 0) l := by rw [List.length_take]; omega
        rw [List.length_append, hb_len]
        omega
theorem W4_same {A : aS} (w : W4 A) (F : List Int32) (cause den : Int32) : W4 (a_same A F cause den) := by
  unfold W4
  rw [same_q F cause den (Or.inl rfl)]
  exact w
theorem M_85 {s : eS} (h : SH s) {A : aS} (r : RM s A) (w : W1 A) {F : List Int32} (fr : FR s F) {n : Nat} (f : fullF F n) (hn : 3 ≤ n) {v : Int32} (hv : v ≠ 0) : ∃ s', mX12_asked_85 26 v s = some s' ∧ SH s' ∧ ag xN s s' ∧ RM s' (a_end A F) := by
  have e7 : sI s 26 35 = A.1 7 := r.1 7 (by decide)
  unfold mX12_asked_85 mX12_asked_104 mX12_asked_355 a_end
  rw [if_neg hv, gI_26 h, b1S, e7]
  by_cases c : A.1 7 = 0
  · rw [if_pos c, if_pos c]
    exact ⟨s, rfl, h, ag_rf, r⟩
  · rw [if_neg c, if_neg c]
    obtain ⟨s1, e1, h1, g1, r1⟩ := M_same h r w fr f hn 10 0
    refine ⟨s1, ?_, h1, xN_M g1, r1⟩
    rw [oK_26 h, b1S, e1, b1S]
theorem M_189 (v : Int32) (s : eS) : mX12_asked_189 26 v s = mX12_asked_85 26 v s := rfl
def a_ask100 (A : aS) (F : List Int32) (q v : Int32) : aS := if v = 0 then a_same A F 7 1 else a_end (if isT F = 0 then (if (a_same A F 7 0).1 7 = 0 then a_same A F 7 0 else a_objs 0 q 24 (a_same A F 7 0) (ordL ((a_same A F 7 0).2.2 0) (q - 20) 0)) else a_same A F 7 0) F
theorem M_53 {s : eS} (h : SH s) {A : aS} (r : RM s A) (w : W1 A) (w4 : W4 A) {F : List Int32} (fr : FR s F) {n : Nat} (f : fullF F n) (hn : 3 ≤ n) (q v : Int32) : ∃ s', mX12_asked_53 26 q v (if v = 0 then 1 else 0) 7 (some 26) s = some s' ∧ SH s' ∧ ag xN s s' ∧ RM s' (a_ask100 A F q v) := by
  unfold mX12_asked_53 a_ask100
  by_cases cv : v = 0
  · rw [if_pos cv, if_pos cv]
    obtain ⟨s1, e1, h1, g1, r1⟩ := M_same h r w fr f hn 7 1
    refine ⟨s1, ?_, h1, xN_M g1, r1⟩
    rw [b1S, oK_26 h, b1S, e1, b1S, if_pos cv]
    unfold mX12_asked_85 mX12_asked_104 mX12_asked_355
    rw [if_pos cv]
  · rw [if_neg cv, if_neg cv]
    obtain ⟨s1, e1, h1, g1, r1⟩ := M_same h r w fr f hn 7 0
    have fr1 := FR_M g1 fr
    have w1 := W1_same w f 7 0
    have w41 := W4_same w4 F 7 0
    generalize a_same A F 7 0 = B at *
    have e7 : sI s1 26 35 = B.1 7 := r1.1 7 (by decide)
    rw [b1S, oK_26 h, b1S, e1, b1S, if_neg cv, oK_26 h1, b1S, M_isTest h1 fr1 f hn, b2S]
    by_cases c0 : isT F = 0
    · rw [if_pos c0, if_pos c0, gI_26 h1, b1S, e7]
      by_cases c7 : B.1 7 = 0
      · rw [if_pos c7, if_pos c7]
        obtain ⟨s2, e2, h2, g2, r2⟩ := M_85 h1 r1 w1 fr1 f hn cv
        exact ⟨s2, e2, h2, ag_tr (xN_M g1) g2, r2⟩
      · rw [if_neg c7, if_neg c7]
        obtain ⟨s2, e2, h2, g2, r2⟩ := M_objects h1 r1 w1 w41 (q - 20) 0 q
        obtain ⟨s3, e3, h3, g3, r3⟩ := M_85 h2 r2 (W1_objs 0 q 24 _ _ w1) (FR_N g2 fr1) f hn cv
        refine ⟨s3, ?_, h3, ag_tr (xN_M g1) (ag_tr g2 g3), r3⟩
        rw [oK_26 h1, b1S, e2, b1S, e3]
    · rw [if_neg c0, if_neg c0]
      obtain ⟨s2, e2, h2, g2, r2⟩ := M_85 h1 r1 w1 fr1 f hn cv
      exact ⟨s2, e2, h2, ag_tr (xN_M g1) g2, r2⟩
def a_ask101 (A : aS) (F : List Int32) (q v : Int32) : aS := if v = 0 then a_same A F 7 1 else a_end (if isT F = 0 then (if (a_same A F 7 0).1 7 = 0 then a_same A F 7 0 else if q >>> ((6 : Int32) &&& 31) = 0 then a_objs 1 37 24 (a_same A F 7 0) (ordL ((a_same A F 7 0).2.2 0) 0 1) else a_freeze (a_same A F 7 0) (q >>> ((6 : Int32) &&& 31))) else a_same A F 7 0) F
theorem M_141 {s : eS} (h : SH s) {A : aS} (r : RM s A) (w : W1 A) (w4 : W4 A) {F : List Int32} (fr : FR s F) {n : Nat} (f : fullF F n) (hn : 3 ≤ n) (q v : Int32) : ∃ s', mX12_asked_141 26 q v (if v = 0 then 1 else 0) 7 (some 26) s = some s' ∧ SH s' ∧ ag xN s s' ∧ RM s' (a_ask101 A F q v) := by
  unfold mX12_asked_141 a_ask101
  by_cases cv : v = 0
  · rw [if_pos cv, if_pos cv]
    obtain ⟨s1, e1, h1, g1, r1⟩ := M_same h r w fr f hn 7 1
    refine ⟨s1, ?_, h1, xN_M g1, r1⟩
    rw [b1S, oK_26 h, b1S, e1, b1S, if_pos cv]
    unfold mX12_asked_189 mX12_asked_208 mX12_asked_355
    rw [if_pos cv]
  · rw [if_neg cv, if_neg cv]
    obtain ⟨s1, e1, h1, g1, r1⟩ := M_same h r w fr f hn 7 0
    have fr1 := FR_M g1 fr
    have w1 := W1_same w f 7 0
    have w41 := W4_same w4 F 7 0
    generalize a_same A F 7 0 = B at *
    have e7 : sI s1 26 35 = B.1 7 := r1.1 7 (by decide)
    rw [b1S, oK_26 h, b1S, e1, b1S, if_neg cv, oK_26 h1, b1S, M_isTest h1 fr1 f hn, b2S]
    by_cases c0 : isT F = 0
    · rw [if_pos c0, if_pos c0, gI_26 h1, b1S, e7]
      by_cases c7 : B.1 7 = 0
      · rw [if_pos c7, if_pos c7, M_189]
        obtain ⟨s2, e2, h2, g2, r2⟩ := M_85 h1 r1 w1 fr1 f hn cv
        exact ⟨s2, e2, h2, ag_tr (xN_M g1) g2, r2⟩
      · rw [if_neg c7, if_neg c7]
        by_cases cq : q >>> ((6 : Int32) &&& 31) = 0
        · rw [if_pos cq, if_pos cq]
          obtain ⟨s2, e2, h2, g2, r2⟩ := M_objects h1 r1 w1 w41 0 1 37
          obtain ⟨s3, e3, h3, g3, r3⟩ := M_85 h2 r2 (W1_objs 1 37 24 _ _ w1) (FR_N g2 fr1) f hn cv
          refine ⟨s3, ?_, h3, ag_tr (xN_M g1) (ag_tr g2 g3), r3⟩
          rw [oK_26 h1, b1S, e2, b1S, M_189, e3]
        · rw [if_neg cq, if_neg cq]
          obtain ⟨s2, e2, h2, g2, r2⟩ := M_freezes h1 r1 (q >>> ((6 : Int32) &&& 31))
          obtain ⟨s3, e3, h3, g3, r3⟩ := M_85 h2 r2 (W1_freeze w1 _) (FR_M g2 fr1) f hn cv
          refine ⟨s3, ?_, h3, ag_tr (xN_M g1) (ag_tr (xN_M g2) g3), r3⟩
          rw [oK_26 h1, b1S, e2, b1S, M_189, e3]
    · rw [if_neg c0, if_neg c0, M_189]
      obtain ⟨s2, e2, h2, g2, r2⟩ := M_85 h1 r1 w1 fr1 f hn cv
      exact ⟨s2, e2, h2, ag_tr (xN_M g1) g2, r2⟩
def a_ask103 (A : aS) (F : List Int32) : aS := if tmF F = 0 then a_same A F 7 1 else if isT F = 0 then (if (a_same A F 7 0).1 7 = 0 then a_same A F 7 0 else a_clk (a_same A F 7 0) F) else a_same A F 7 0
theorem M_236 {s : eS} (h : SH s) {A : aS} (r : RM s A) (w : W1 A) {F : List Int32} (fr : FR s F) {n : Nat} (f : fullF F n) (hn : 16 ≤ n) : ∃ s', mX12_asked_236 26 (tmF F) (if tmF F = 0 then 1 else 0) 7 (some 26) s = some s' ∧ SH s' ∧ ag xN s s' ∧ RM s' (a_ask103 A F) := by
  unfold mX12_asked_236 a_ask103
  by_cases cv : tmF F = 0
  · rw [if_pos cv, if_pos cv]
    obtain ⟨s1, e1, h1, g1, r1⟩ := M_same h r w fr f (by omega) 7 1
    refine ⟨s1, ?_, h1, xN_M g1, r1⟩
    rw [b1S, oK_26 h, b1S, e1, b1S, if_pos cv]
    rfl
  · rw [if_neg cv, if_neg cv]
    obtain ⟨s1, e1, h1, g1, r1⟩ := M_same h r w fr f (by omega) 7 0
    have fr1 := FR_M g1 fr
    generalize a_same A F 7 0 = B at *
    have e7 : sI s1 26 35 = B.1 7 := r1.1 7 (by decide)
    rw [b1S, oK_26 h, b1S, e1, b1S, if_neg cv, oK_26 h1, b1S, M_isTest h1 fr1 f (by omega), b2S]
    by_cases c0 : isT F = 0
    · rw [if_pos c0, if_pos c0, gI_26 h1, b1S, e7]
      by_cases c7 : B.1 7 = 0
      · rw [if_pos c7, if_pos c7]
        exact ⟨s1, rfl, h1, xN_M g1, r1⟩
      · rw [if_neg c7, if_neg c7]
        obtain ⟨s2, e2, h2, g2, r2⟩ := M_clk h1 r1 fr1 f hn 99994
        refine ⟨s2, ?_, h2, ag_tr (xN_M g1) (xN_M g2), r2⟩
        rw [gP_26_21 h1, b1S, oK_26 h1, b1S, show mX12_at 26 9 s1 = some ((rb F).getD 9 0, s1) from M_at h1 fr1 f (k := 9) (by omega), b2S, oK_26 h1, b1S, show mX12_at 26 10 s1 = some ((rb F).getD 10 0, s1) from M_at h1 fr1 f (k := 10) (by omega), b2S, b1S, sI_41 h1 (by decide), b1S]
        exact e2
    · rw [if_neg c0, if_neg c0]
      exact ⟨s1, rfl, h1, xN_M g1, r1⟩
def a_ask (A : aS) (F : List Int32) (ty cause : Int32) : aS :=
  if ty = 100 then (if cause = 8 then a_same A F 9 1 else a_ask100 A F ((rb F).getD 9 0) (inL ((rb F).getD 9 0).toInt64 20 36))
  else if ty = 101 then a_ask101 A F ((rb F).getD 9 0) (if (rb F).getD 9 0 &&& 63 = 5 then 1 else 0)
  else if ty = 103 then a_ask103 A F
  else if (rb F).getD 9 0 = 170 then (if (rb F).getD 10 0 = 85 then a_same A F 7 0 else a_same A F 7 1) else a_same A F 7 1
set_option maxRecDepth 100000 in
theorem M_asked {s : eS} (h : SH s) {A : aS} (r : RM s A) (w : W1 A) (w4 : W4 A) {F : List Int32} (fr : FR s F) {n : Nat} (f : fullF F n) (ty cause : Int32) (hn : 10 ≤ n) (h103 : ty = 103 → 16 ≤ n) (h104 : ty ≠ 100 → ty ≠ 101 → 11 ≤ n) : ∃ s', mX12_asked 26 ty cause s = some s' ∧ SH s' ∧ ag xN s s' ∧ RM s' (a_ask A F ty cause) := by
  have b9 : mX12_at 26 9 s = some ((rb F).getD 9 0, s) := M_at h fr f (k := 9) (by omega)
  have sm : ∀ (cs den : Int32), ∃ s', mX12_same 26 cs den s = some s' ∧ SH s' ∧ ag xN s s' ∧ RM s' (a_same A F cs den) := fun cs den => by
    obtain ⟨s1, e1, h1, g1, r1⟩ := M_same h r w fr f (by omega) cs den
    exact ⟨s1, e1, h1, xN_M g1, r1⟩
  unfold mX12_asked a_ask
  rw [oK_26 h, b1S, b9, b2S]
  by_cases c100 : ty = 100
  · rw [if_pos c100, if_pos c100, M_in, b2S]
    by_cases c8 : cause = 8
    · rw [if_pos c8, if_pos c8]
      obtain ⟨s1, e1, q1⟩ := sm 9 1
      refine ⟨s1, ?_, q1⟩
      rw [oK_26 h, b1S, e1, b1S]
    · rw [if_neg c8, if_neg c8]
      have := M_53 h r w w4 fr f (by omega) ((rb F).getD 9 0) (inL ((rb F).getD 9 0).toInt64 20 36)
      by_cases cv : inL ((rb F).getD 9 0).toInt64 20 36 = 0
      · rw [if_pos cv] at this ⊢
        exact this
      · rw [if_neg cv] at this ⊢
        exact this
  · rw [if_neg c100, if_neg c100]
    by_cases c101 : ty = 101
    · rw [if_pos c101, if_pos c101]
      unfold mX12_asked_126
      by_cases cv : (rb F).getD 9 0 &&& 63 = 5
      · rw [if_pos cv, if_pos cv]
        exact M_141 h r w w4 fr f (by omega) ((rb F).getD 9 0) 1
      · rw [if_neg cv, if_neg cv]
        exact M_141 h r w w4 fr f (by omega) ((rb F).getD 9 0) 0
    · rw [if_neg c101, if_neg c101]
      by_cases c103 : ty = 103
      · rw [if_pos c103, if_pos c103, oK_26 h, b1S, M_isTime h fr f (h103 c103), b2S]
        have := M_236 h r w fr f (h103 c103)
        by_cases cv : tmF F = 0
        · rw [if_pos cv] at this ⊢
          exact this
        · rw [if_neg cv] at this ⊢
          exact this
      · have h11 := h104 c100 c101
        have b10 : mX12_at 26 10 s = some ((rb F).getD 10 0, s) := M_at h fr f (k := 10) (by omega)
        unfold mX12_asked_347 mX12_asked_352 mX12_asked_355
        rw [if_neg c103, if_neg c103, oK_26 h, b1S, b9, b2S]
        by_cases c9 : (rb F).getD 9 0 = 170
        · rw [if_pos c9, if_pos c9, oK_26 h, b1S, b10, b2S]
          by_cases c10 : (rb F).getD 10 0 = 85
          · rw [if_pos c10, if_pos c10]
            obtain ⟨s1, e1, q1⟩ := sm 7 0
            refine ⟨s1, ?_, q1⟩
            rw [b1S, oK_26 h, b1S, e1, b1S]
          · rw [if_neg c10, if_neg c10]
            obtain ⟨s1, e1, q1⟩ := sm 7 1
            refine ⟨s1, ?_, q1⟩
            rw [b1S, oK_26 h, b1S, e1, b1S]
        · rw [if_neg c9, if_neg c9]
          obtain ⟨s1, e1, q1⟩ := sm 7 1
          refine ⟨s1, ?_, q1⟩
          rw [b1S, oK_26 h, b1S, e1, b1S]
