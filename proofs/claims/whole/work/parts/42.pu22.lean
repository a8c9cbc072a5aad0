/-! ===== the model takes a frame ===== -/
section TK
variable {C : Nat}
theorem W5_mono {A : aS} {D : Nat} (w : W5 C A) (h : C ≤ D) : W5 D A := by
  obtain ⟨a, b, h1, h2, h3, h4, h5⟩ := w
  exact ⟨a, b, h1, h2, by omega, h4, by omega⟩
theorem WW_mono {A : aS} {D : Nat} (w : WW C A) (h : C ≤ D) : WW D A := ⟨w.1, w.2.1, w.2.2.1, w.2.2.2.1, W5_mono w.2.2.2.2 h⟩
theorem WW_fr {A : aS} (w : WW C A) (c bs : List Int32) (hc : c.length = 4) : WW C (a_fr A c bs).2 := by
  refine ⟨W1_fr w.1 c bs hc, ?_⟩
  unfold a_fr
  split
  · exact w.2
  · exact (WW_close w 6).2
theorem WW_ans {A F : aS} (w : WW C F) (e5 : F.2.2 = A.2.2) {x : List Int32} {q : List (List Int32)} (hx : A.2.2 4 = x :: q) (hn : (A.2.2 5).length < 12) : WW (C + 1) (a_ansGone F q) := by
  obtain ⟨w1, w2, w3, w4, ⟨a, b, q1, q2, q3, q4, q5⟩⟩ := w
  refine ⟨W1_ans w1 e5 hx hn, ?_, w3, w4, ⟨a + 1, b, ?_, ?_, by omega, q4, by omega⟩⟩
  · intro e he
    have he' : e ∈ F.2.2 5 ++ [[F.1 9, 0]] := he
    rcases List.mem_append.mp he' with z | z
    · exact w2 e z
    · rw [List.mem_singleton.mp z]; exact Or.inl rfl
  · show F.1 15 + 1 = nI (a + 1)
    rw [q1, nI_1]
  · show (F.2.2 5 ++ [[F.1 9, 0]]).length ≤ a + 1
    rw [List.length_append]
    show _ + 1 ≤ _
    omega
theorem WW_ev {A F : aS} (w : WW C F) (e5 : F.2.2 = A.2.2) {x : List Int32} {q : List (List Int32)} (hx : A.2.2 3 = x :: q) (hn : (A.2.2 5).length < 12) : WW (C + 1) (a_evGone F x q) := by
  obtain ⟨w1, w2, w3, w4, ⟨a, b, q1, q2, q3, q4, q5⟩⟩ := w
  refine ⟨W1_ev w1 e5 hx hn, ?_, w3, w4, ⟨a + 1, b, ?_, ?_, by omega, q4, by omega⟩⟩
  · intro e he
    have he' : e ∈ F.2.2 5 ++ [[F.1 9, 1]] := he
    rcases List.mem_append.mp he' with z | z
    · exact w2 e z
    · rw [List.mem_singleton.mp z]; exact Or.inr rfl
  · show F.1 15 + 1 = nI (a + 1)
    rw [q1, nI_1]
  · show (F.2.2 5 ++ [[F.1 9, 1]]).length ≤ a + 1
    rw [List.length_append]
    show _ + 1 ≤ _
    omega
theorem WW_tell {A : aS} (w : WW C A) : WW C (a_tell A) := WW_ite (WW_fr w _ _ rfl) (WW_ui (WW_fr w _ _ rfl) (by decide) _)
theorem WW_ack {A : aS} (w : WW C A) (many : Int32) : WW C (a_ack A many).2 := by
  unfold a_ack
  split
  · obtain ⟨⟨h1, h2, h3, h4, h5, h6, h7⟩, w2, w3, w4, ⟨a, b, q1, q2, q3, q4, q5⟩⟩ := w
    refine ⟨⟨h1, ?_, ?_, h4, h5, fun e he => h6 e (List.mem_of_mem_drop he), h7⟩, fun e he => w2 e (List.mem_of_mem_drop he), w3, w4, ⟨a, b, q1, ?_, q3, q4, q5⟩⟩
    · show (A.2.2 3).length + ((A.2.2 2).drop _).length ≤ 52
      rw [List.length_drop]
      omega
    · show ((A.2.2 5).drop _).length ≤ 12
      rw [List.length_drop]
      omega
    · show ((A.2.2 5).drop _).length ≤ a
      rw [List.length_drop]
      omega
  · exact WW_close w 3
end TK
theorem WW_sends : ∀ (n C : Nat) (A : aS), WW C A → WW (C + n) (a_sends n A)
  | 0, _, _, w => w
  | n + 1, C, A, w => by
    unfold a_sends
    split
    · split
      · exact WW_mono w (by omega)
      · rename_i c1
        have hlt : (A.2.2 5).length < 12 := by
          obtain ⟨K, hK1, hK2, eK⟩ := w.1.2.2.2.1
          rw [eK] at c1
          rcases Nat.lt_or_ge (A.2.2 5).length K with z | z
          · omega
          · exact absurd (nI_le z (by have := w.1.2.2.1; omega)) c1
        split
        · rename_i x q hx
          split
          · exact WW_mono (WW_fr w _ x rfl) (by omega)
          · rename_i c
            have := WW_sends n (C + 1) _ (WW_ans (WW_fr w (kb (A.1 15) ++ kb (A.1 16)) x rfl) (a_fr_ok c).2.2.1 hx hlt)
            rw [show C + (n + 1) = C + 1 + n by omega]
            exact this
        · split
          · rename_i x q hx
            split
            · exact WW_mono (WW_fr w _ _ rfl) (by omega)
            · rename_i c
              have := WW_sends n (C + 1) _ (WW_ev (WW_fr w (kb (A.1 15) ++ kb (A.1 16)) (evB A x) rfl) (a_fr_ok c).2.2.1 hx hlt)
              rw [show C + (n + 1) = C + 1 + n by omega]
              exact this
          · exact WW_mono w (by omega)
    · exact WW_mono w (by omega)
/-- how many are acknowledged -/
def ackN (A : aS) (F : List Int32) : Int32 := F.getD 4 0 / 2 + 128 * F.getD 5 0 - ((A.1 15 - nI (A.2.2 5).length) - (A.1 15 - nI (A.2.2 5).length) / 32768 * 32768) + 32768 - (F.getD 4 0 / 2 + 128 * F.getD 5 0 - ((A.1 15 - nI (A.2.2 5).length) - (A.1 15 - nI (A.2.2 5).length) / 32768 * 32768) + 32768) / 32768 * 32768
/-- bytes -/
def byF (F : List Int32) : Prop := ∀ k, ∃ b : Nat, b < 256 ∧ F.getD k 0 = nI b
theorem ackN_ok {C : Nat} {A : aS} (w5 : W5 C A) (hC : C < 2 ^ 30) {F : List Int32} (bf : byF F) : ∃ m, m < 2 ^ 31 ∧ ackN A F = nI m := by
  obtain ⟨a, b, q1, q2, q3, q4, q5⟩ := w5
  obtain ⟨x, hx, ex⟩ := bf 4
  obtain ⟨y, hy, ey⟩ := bf 5
  have e1 : (A.1 15 - nI (A.2.2 5).length) - (A.1 15 - nI (A.2.2 5).length) / 32768 * 32768 = nI ((a - (A.2.2 5).length) % 32768) := by
    rw [q1, pk_sub q2]
    exact pk_rem (d := 32768) (by omega) (by decide) (by decide)
  have e2 : nI x / 2 + 128 * nI y = nI (x / 2 + 128 * y) := by
    rw [show nI x / 2 = nI (x / 2) from pk_div (d := 2) (by omega) (by decide) (by decide), show (128 : Int32) * nI y = nI (128 * y) from pk_mul 128 y, nI_add]
  unfold ackN
  rw [ex, ey, e1, e2]
  have hd : (a - (A.2.2 5).length) % 32768 < 32768 := Nat.mod_lt _ (by decide)
  generalize (a - (A.2.2 5).length) % 32768 = d at hd
  have e3 : nI (x / 2 + 128 * y) - nI d + 32768 = nI (x / 2 + 128 * y + 32768 - d) := by
    rw [show (32768 : Int32) = nI 32768 by decide, ← pk_sub (by omega : d ≤ x / 2 + 128 * y + 32768), Int32.sub_eq_add_neg (nI (x / 2 + 128 * y)) (nI d), Int32.add_assoc, Int32.add_comm (-nI d), ← Int32.add_assoc, ← Int32.sub_eq_add_neg, nI_add]
  rw [e3]
  exact ⟨_, Nat.lt_of_lt_of_le (Nat.mod_lt _ (by decide)) (by decide : 32768 ≤ 2 ^ 31), pk_rem (d := 32768) (by omega) (by decide) (by decide)⟩
def a_ackF (A : aS) (F : List Int32) : Int32 × aS := a_ack A (ackN A F)
theorem M_ackF {C : Nat} (hC : C < 2 ^ 30) {s : eS} (h : SH s) {A : aS} (r : RM s A) (w : WW C A) {F : List Int32} (fr : FR s F) (bf : byF F) {n : Nat} (f : fullF F n) : ∃ s', mX12_acknowledges 26 s = some ((a_ackF A F).1, s') ∧ SH s' ∧ ag xM s s' ∧ RM s' (a_ackF A F).2 := by
  obtain ⟨m, hm, em⟩ := ackN_ok w.2.2.2.2 hC bf
  unfold a_ackF
  rw [em]
  exact M_acknowledges h r w.1 w.2.1 (FR_at fr (by rw [f.1]; omega)) (FR_at fr (by rw [f.1]; omega)) hm em
def a_data44 (A : aS) (F : List Int32) (n : Nat) (num : Int32) : aS := if num = A.1 16 - A.1 16 / 32768 * 32768 then (if (a_ackF A F).1 = 0 then (a_ackF A F).2 else a_rest (ui (ui (a_ackF A F).2 18 (if (a_ackF A F).2.1 16 = (a_ackF A F).2.1 17 then (a_ackF A F).2.1 9 else (a_ackF A F).2.1 18)) 16 ((a_ackF A F).2.1 16 + 1)) F n) else a_close A 3
theorem WW_came {C : Nat} {A : aS} (w : WW C A) : WW (C + 1) (ui A 16 (A.1 16 + 1)) := by
  obtain ⟨⟨h1, h2, h3, h4, h5, h6, h7⟩, w2, w3, w4, ⟨a, b, q1, q2, q3, q4, q5⟩⟩ := w
  refine ⟨⟨h1, h2, h3, h4, h5, h6, h7⟩, w2, w3, w4, ⟨a, b + 1, q1, q2, by omega, ?_, by omega⟩⟩
  show A.1 16 + 1 = nI (b + 1)
  rw [q4, nI_1]
theorem WW_data44 {C : Nat} {A : aS} (w : WW C A) {F : List Int32} {n : Nat} (f : fullF F n) (num : Int32) : WW (C + 1) (a_data44 A F n num) :=
  WW_ite (WW_ite (WW_mono (WW_ack w _) (by omega)) (WW_rest (WW_came (A := ui (a_ackF A F).2 18 _) (WW_ui (WW_ack w _) (by decide) _)) f)) (WW_mono (WW_close w 3) (by omega))
set_option maxRecDepth 100000 in
theorem M_data44 {C : Nat} (hC : C < 2 ^ 30) {s : eS} (h : SH s) {A : aS} (r : RM s A) (w : WW C A) {F : List Int32} (fr : FR s F) (bf : byF F) {n : Nat} (f : fullF F n) (num : Int32) : ∃ s', mX12_takesData_44 26 num s = some s' ∧ SH s' ∧ ag xN s s' ∧ RM s' (a_data44 A F n num) := by
  have e16 : sI s 26 38 = A.1 16 := r.1 16 (by decide)
  unfold mX12_takesData_44 mX12_takesData_110 a_data44
  rw [gI_26 h, b1S, e16]
  by_cases c1 : num = A.1 16 - A.1 16 / 32768 * 32768
  · rw [if_pos c1, if_pos c1]
    obtain ⟨s1, e1, h1, g1, r1⟩ := M_ackF hC h r w fr bf f
    have w1 : WW C (a_ackF A F).2 := WW_ack w _
    have fr1 := FR_M g1 fr
    rw [oK_26 h, b1S, e1, b2S]
    generalize a_ackF A F = B at *
    by_cases c2 : B.1 = 0
    · rw [if_pos c2, if_pos c2]
      exact ⟨s1, rfl, h1, xN_M g1, r1⟩
    · rw [if_neg c2, if_neg c2]
      have k16 : sI s1 26 38 = B.2.1 16 := r1.1 16 (by decide)
      have k17 : sI s1 26 39 = B.2.1 17 := r1.1 17 (by decide)
      have k9 : sI s1 26 20 = B.2.1 9 := r1.1 9 (by decide)
      have k18 : sI s1 26 40 = B.2.1 18 := r1.1 18 (by decide)
      have key : ∀ x : Int32, ∃ s', mX12_takesData_93 26 x (some 26) s1 = some s' ∧ SH s' ∧ ag xN s s' ∧ RM s' (a_rest (ui (ui B.2 18 x) 16 (B.2.1 16 + 1)) F n) := by
        intro x
        have h2 : SH (e_I s1 26 40 x) := SH_I h1
        have r2 : RM (e_I s1 26 40 x) (ui B.2 18 x) := RM_set r1 (by decide) (by decide)
        have h3 : SH (e_I (e_I s1 26 40 x) 26 38 (B.2.1 16 + 1)) := SH_I h2
        have r3 : RM (e_I (e_I s1 26 40 x) 26 38 (B.2.1 16 + 1)) (ui (ui B.2 18 x) 16 (B.2.1 16 + 1)) := RM_set r2 (by decide) (by decide)
        have w3 : WW (C + 1) (ui (ui B.2 18 x) 16 (B.2.1 16 + 1)) := WW_came (A := ui B.2 18 x) (WW_ui w1 (by decide) _)
        have g3 : ag xM s1 (e_I (e_I s1 26 40 x) 26 38 (B.2.1 16 + 1)) := xM_I (xM_I ag_rf (by decide)) (by decide)
        obtain ⟨s4, e4, h4, g4, r4⟩ := M_rest h3 r3 w3.1 w3.2.2.1 w3.2.2.2.1 (FR_M g3 fr1) f
        refine ⟨s4, ?_, h4, ag_tr (xN_M (ag_tr g1 g3)) g4, r4⟩
        unfold mX12_takesData_93 mX12_takesData_110
        rw [b1S, pI_26 h1, b1S, gI_26 h2, b1S, rII_ne (Or.inr (by decide)), k16, pI_26 h2, b1S, oK_26 h3, b1S, e4, b1S]
      rw [gI_26 h1, b1S, gI_26 h1, b1S, k16, k17]
      by_cases c3 : B.2.1 16 = B.2.1 17
      · rw [if_pos c3, if_pos c3, gI_26 h1, b1S, k9]
        exact key _
      · rw [if_neg c3, if_neg c3, gI_26 h1, b1S, k18]
        exact key _
  · rw [if_neg c1, if_neg c1]
    obtain ⟨s1, e1, h1, g1, r1⟩ := M_closes h r (by have := w.1.2.1; omega) 3
    refine ⟨s1, ?_, h1, xN_M g1, r1⟩
    rw [oK_26 h, b1S, e1, b1S]
def a_data (A : aS) (F : List Int32) (n : Nat) : aS := if A.1 7 = 2 then a_data44 A F n (F.getD 2 0 / 2 + 128 * F.getD 3 0) else if A.1 7 = 3 then a_data44 A F n (F.getD 2 0 / 2 + 128 * F.getD 3 0) else a_close A 5
theorem WW_data {C : Nat} {A : aS} (w : WW C A) {F : List Int32} {n : Nat} (f : fullF F n) : WW (C + 1) (a_data A F n) :=
  WW_ite (WW_data44 w f _) (WW_ite (WW_data44 w f _) (WW_mono (WW_close w 5) (by omega)))
theorem M_takesData {C : Nat} (hC : C < 2 ^ 30) {s : eS} (h : SH s) {A : aS} (r : RM s A) (w : WW C A) {F : List Int32} (fr : FR s F) (bf : byF F) {n : Nat} (f : fullF F n) : ∃ s', mX12_takesData 26 s = some s' ∧ SH s' ∧ ag xN s s' ∧ RM s' (a_data A F n) := by
  have e7 : sI s 26 35 = A.1 7 := r.1 7 (by decide)
  have q2 : sI s 55 2 = F.getD 2 0 := FR_at fr (by rw [f.1]; omega)
  have q3 : sI s 55 3 = F.getD 3 0 := FR_at fr (by rw [f.1]; omega)
  unfold mX12_takesData mX12_takesData_110 a_data
  rw [gP_26_50 h, b1S, b1S, aI_55 h (by decide), b1S, show (2 : Int32).toNatClampNeg = 2 from rfl, q2, b1S, b1S, aI_55 h (by decide), b1S, show (3 : Int32).toNatClampNeg = 3 from rfl, q3, gI_26 h, b1S, e7]
  by_cases c2 : A.1 7 = 2
  · rw [if_pos c2, if_pos c2]
    exact M_data44 hC h r w fr bf f _
  · rw [if_neg c2, if_neg c2, b1S]
    by_cases c3 : A.1 7 = 3
    · rw [if_pos c3, if_pos c3]
      exact M_data44 hC h r w fr bf f _
    · rw [if_neg c3, if_neg c3]
      obtain ⟨s1, e1, h1, g1, r1⟩ := M_closes h r (by have := w.1.2.1; omega) 5
      refine ⟨s1, ?_, h1, xN_M g1, r1⟩
      rw [oK_26 h, b1S, e1, b1S]
