/-! ===== the model's come ===== -/
def byt (y : Int64) (i : Nat) : Int32 := ((y >>> (((8 : Int32) * nI i).toInt64 &&& 63)) &&& (255 : Int64)).toInt32
def bsL (y : Int64) : Nat → List Int32
  | 0 => []
  | k + 1 => byt y k :: bsL y k
theorem close_q (A : aS) (why : Int32) : (a_close A why).2.1 1 = [] := rfl
set_option maxRecDepth 100000 in
set_option maxHeartbeats 1000000 in
theorem M_come_loop (y : Int64) : ∀ (k m : Nat) (s : eS) (A : aS) (cnt : Int32) (C : Nat), k < m → SH s → RM s A → WW C A → rxW (A.2.1 1) → C + 14 * k < 2 ^ 30 →
    ∃ s', mX12_come_32 m 26 y cnt (nI k + (-1)) s = some ((a_bytes A cnt (bsL y k)).1, s') ∧ SH s' ∧ ag xA s s' ∧ RM s' (a_bytes A cnt (bsL y k)).2 ∧ WW (C + 14 * k) (a_bytes A cnt (bsL y k)).2 ∧ rxW ((a_bytes A cnt (bsL y k)).2.2.1 1) := by
  intro k
  induction k with
  | zero =>
    intro m s A cnt C hm h r w rx hC
    obtain ⟨m, rfl⟩ : ∃ q, m = q + 1 := ⟨m - 1, by omega⟩
    refine ⟨s, ?_, h, ag_rf, r, w, rx⟩
    unfold mX12_come_32 mX12_come_145
    rw [if_pos (by decide)]
    rfl
  | succ k ih =>
    intro m s A cnt C hm h r w rx hC
    obtain ⟨m, rfl⟩ : ∃ q, m = q + 1 := ⟨m - 1, by omega⟩
    have e7 : sI s 26 35 = A.1 7 := r.1 7 (by decide)
    unfold mX12_come_32 mX12_come_145
    rw [pk_m1]
    by_cases hk31 : k < 2 ^ 31
    case neg => exact absurd hk31 (by omega)
    rw [if_neg (nI_pos hk31), gI_26 h, b1S, e7]
    show ∃ s', _ = some ((if A.1 7 = 0 then (cnt, A) else a_bytes (a_byte A (byt y k)).2 (cnt + (a_byte A (byt y k)).1) (bsL y k)).1, s') ∧ _ ∧ _ ∧ RM s' (if A.1 7 = 0 then (cnt, A) else a_bytes (a_byte A (byt y k)).2 (cnt + (a_byte A (byt y k)).1) (bsL y k)).2 ∧ WW _ (if A.1 7 = 0 then (cnt, A) else a_bytes (a_byte A (byt y k)).2 (cnt + (a_byte A (byt y k)).1) (bsL y k)).2 ∧ rxW ((if A.1 7 = 0 then (cnt, A) else a_bytes (a_byte A (byt y k)).2 (cnt + (a_byte A (byt y k)).1) (bsL y k)).2.2.1 1)
    by_cases c7 : A.1 7 = 0
    · rw [if_pos c7, if_pos c7]
      exact ⟨s, rfl, h, ag_rf, r, WW_mono w (by omega), rx⟩
    rw [if_neg c7, if_neg c7]
    obtain ⟨b, hb, eb⟩ := byte_of (y >>> (((8 : Int32) * nI k).toInt64 &&& 63))
    have ebt : byt y k = nI b := eb
    rw [ebt, show ((y >>> (((8 : Int32) * nI k).toInt64 &&& 63)) &&& (255 : Int64)).toInt32 = nI b from eb]
    have hlen : (A.2.1 1).length ≤ 254 := by
      by_cases c : 2 ≤ (A.2.1 1).length
      · obtain ⟨k', _, h2, _, h4⟩ := rx.2 c
        omega
      · omega
    obtain ⟨m1, m2⟩ := r.2.2.1
    generalize hl0 : A.2.1 1 = l0 at *
    have hil : ¬ nI l0.length < 0 ∧ (nI l0.length).toNatClampNeg < 256 := nIc (by omega) (by omega)
    have h1 : SH (e_I s 55 l0.length (nI b)) := SH_I h
    have h2 : SH (e_I (e_I s 55 l0.length (nI b)) 26 51 (nI (l0.length + 1))) := SH_I h1
    have mx : MX (e_I (e_I s 55 l0.length (nI b)) 26 51 (nI (l0.length + 1))) (l0 ++ [nI b]) := by
      refine ⟨by rw [rII_eq, List.length_append]; rfl, ?_⟩
      rw [List.length_append]
      show rd _ (l0.length + 1) = _
      rw [rd_succ, rII_ne (Or.inl (by decide)), rII_eq]
      congr 1
      rw [← m2, rd_len]
      exact rd_congr (fun i hi => by rw [rII_ne (Or.inl (by decide)), rII_ne (Or.inr (by omega))])
    have r2 : RM (e_I (e_I s 55 l0.length (nI b)) 26 51 (nI (l0.length + 1))) (ul A 1 (l0 ++ [nI b])) := RM_rx (ag_I (ag_I ag_rf rfl) rfl) r mx
    have g2 : ag xA s (e_I (e_I s 55 l0.length (nI b)) 26 51 (nI (l0.length + 1))) := ag_I (ag_I ag_rf rfl) rfl
    have w2 : WW C (ul A 1 (l0 ++ [nI b])) := WW_ul1 w _
    have hll : (l0 ++ [nI b]).length = l0.length + 1 := by rw [List.length_append]; rfl
    have bf : byF (l0 ++ [nI b]) := byF_app rx.1 hb
    have rl : cbF (l0 ++ [nI b]) ≠ 0 → 2 ≤ l0.length + 1 → ∃ k' : Nat, 4 ≤ k' ∧ k' ≤ 253 ∧ (l0 ++ [nI b]).getD 1 0 = nI k' ∧ l0.length + 1 ≤ k' + 2 := by
      intro hc hle
      by_cases c : 2 ≤ l0.length
      · obtain ⟨k', q1, q2, q3, q4⟩ := rx.2 c
        refine ⟨k', q1, q2, ?_, by omega⟩
        rw [gD, List.getElem?_append_left (by omega), ← gD]
        exact q3
      · obtain ⟨k', hk', ek'⟩ := bf 1
        have hl2 : (l0 ++ [nI b]).length = 2 := by omega
        unfold cbF at hc
        rw [if_neg (by omega), if_pos hl2, ek'] at hc
        obtain ⟨z1, z2⟩ := rx_4 k' hk' hc
        exact ⟨k', z1, z2, ek', by omega⟩
    rw [gP_26_50 h, b1S, gI_26 h, b1S, m1, b1S, sI_55 h hil, b1S, nI_clamp (by omega), gI_26 h1, b1S, rII_ne (Or.inl (by decide)), m1, nI_1, pI_26 h1, b1S, oK_26 h2, b1S, M_canBe h2 (by rw [hll]; omega) (by rw [hll]; omega) mx, b2S]
    unfold a_byte mX12_come_139
    rw [hl0]
    by_cases cc : cbF (l0 ++ [nI b]) = 0
    · rw [if_pos cc, if_pos cc]
      obtain ⟨s3, e3, h3, g3, r3⟩ := M_closes h2 r2 (by have := w2.1.2.1; omega) 2
      obtain ⟨s4, e4, h4, g4, r4, w4, x4⟩ := ih m s3 _ (cnt + 0) C (by omega) h3 r3 (WW_close w2 2) (by rw [close_q]; exact rxW_nil) (by omega)
      refine ⟨s4, ?_, h4, ag_tr g2 (ag_tr (xA_N (xN_M g3)) g4), r4, WW_mono w4 (by omega), x4⟩
      rw [oK_26 h2, b1S, e3, b1S]
      rw [Int32.add_zero] at e4 ⊢
      exact e4
    · rw [if_neg cc, if_neg cc, gI_26 h2, b1S, rII_eq]
      -- the frame goes on
      have go : rxW (l0 ++ [nI b]) → ∃ s', mX12_come_32 m 26 y cnt (nI k + (-1)) (e_I (e_I s 55 l0.length (nI b)) 26 51 (nI (l0.length + 1))) = some ((a_bytes (ul A 1 (l0 ++ [nI b])) (cnt + 0) (bsL y k)).1, s') ∧ SH s' ∧ ag xA s s' ∧ RM s' (a_bytes (ul A 1 (l0 ++ [nI b])) (cnt + 0) (bsL y k)).2 ∧ WW (C + 14 * (k + 1)) (a_bytes (ul A 1 (l0 ++ [nI b])) (cnt + 0) (bsL y k)).2 ∧ rxW ((a_bytes (ul A 1 (l0 ++ [nI b])) (cnt + 0) (bsL y k)).2.2.1 1) := fun rx' => by
        obtain ⟨s4, e4, h4, g4, r4, w4, x4⟩ := ih m _ _ (cnt + 0) C (by omega) h2 r2 w2 rx' (by omega)
        refine ⟨s4, ?_, h4, ag_tr g2 g4, r4, WW_mono w4 (by omega), x4⟩
        rw [Int32.add_zero] at e4 ⊢
        exact e4
      by_cases c5 : l0.length + 1 ≤ 5
      · rw [if_pos (show nI (l0.length + 1) ≤ 5 from nI_le (b := 5) c5 (by decide)), if_pos (by rw [hll]; exact c5)]
        refine go ⟨bf, fun hle => ?_⟩
        rw [hll] at hle ⊢
        obtain ⟨k', q1, q2, q3, q4⟩ := rl cc hle
        exact ⟨k', q1, q2, q3, by omega⟩
      · rw [if_neg (show ¬ nI (l0.length + 1) ≤ 5 from nI_ge (a := 5) (by omega) (by omega)), if_neg (by rw [hll]; exact c5), b1S, gP_26_50 h2, b1S, b1S, aI_55 h2 (by decide), b1S, show (1 : Int32).toNatClampNeg = 1 from rfl]
        obtain ⟨k', q1, q2, q3, q4⟩ := rl cc (by omega)
        have e1 : sI (e_I (e_I s 55 l0.length (nI b)) 26 51 (nI (l0.length + 1))) 55 1 = (l0 ++ [nI b]).getD 1 0 := FR_at (F := l0 ++ [nI b]) mx.2 (by omega)
        rw [e1, hll]
        by_cases ce : nI (l0.length + 1) = 2 + (l0 ++ [nI b]).getD 1 0
        · rw [if_pos ce, if_pos ce]
          have hk' : l0.length + 1 = k' + 2 := by
            rw [q3, show (2 : Int32) + nI k' = nI (2 + k') from nI_add 2 k'] at ce
            have := (nI_eq (by omega) (by omega)).mp ce
            omega
          have f : fullF (l0 ++ [nI b]) (l0.length + 1 - 6) := by
            refine ⟨by omega, by omega, ?_⟩
            rw [q3]
            congr 1
            omega
          obtain ⟨s3, e3, h3, g3, r3⟩ := M_takes (C := C) (by omega) h2 r2 w2 (F := l0 ++ [nI b]) mx.2 bf f
          have w3 : WW (C + 14) (a_takes (ul A 1 (l0 ++ [nI b])) (l0 ++ [nI b]) (l0.length + 1 - 6)) := WW_takes w2 f
          rw [oK_26 h2, b1S, e3, b1S]
          generalize a_takes (ul A 1 (l0 ++ [nI b])) (l0 ++ [nI b]) (l0.length + 1 - 6) = D at *
          have d7 : sI s3 26 35 = D.1 7 := r3.1 7 (by decide)
          have h4 : SH (e_I s3 26 51 0) := SH_I h3
          have r4 : RM (e_I s3 26 51 0) (ul D 1 []) := RM_rx (ag_I ag_rf rfl) r3 ⟨rII_eq, rfl⟩
          have g4 : ag xA s (e_I s3 26 51 0) := ag_tr g2 (ag_I (xA_N g3) (by decide))
          rw [gI_26 h3, b1S, d7]
          have fin : ∀ x : Int32, ∃ s', mX12_come_131 (mX12_come_32 m) 26 y (nI k) x cnt s3 = some ((a_bytes (ul D 1 []) (cnt + x) (bsL y k)).1, s') ∧ SH s' ∧ ag xA s s' ∧ RM s' (a_bytes (ul D 1 []) (cnt + x) (bsL y k)).2 ∧ WW (C + 14 * (k + 1)) (a_bytes (ul D 1 []) (cnt + x) (bsL y k)).2 ∧ rxW ((a_bytes (ul D 1 []) (cnt + x) (bsL y k)).2.2.1 1) := fun x => by
            obtain ⟨s5, e5, h5, g5, r5, w5, x5⟩ := ih m _ _ (cnt + x) (C + 14) (by omega) h4 r4 (WW_ul1 w3 []) rxW_nil (by omega)
            refine ⟨s5, ?_, h5, ag_tr g4 g5, r5, WW_mono w5 (by omega), x5⟩
            unfold mX12_come_131 mX12_come_139
            rw [pI_26 h3, b1S]
            exact e5
          by_cases cd : D.1 7 = 0
          · rw [if_pos cd, if_pos cd]
            exact fin 0
          · rw [if_neg cd, if_neg cd]
            exact fin 1
        · rw [if_neg ce, if_neg ce]
          refine go ⟨bf, fun hle => ⟨k', q1, q2, q3, ?_⟩⟩
          rw [hll]
          rcases Nat.lt_or_ge (l0.length + 1) (k' + 2) with z | z
          · exact z
          · exfalso
            apply ce
            rw [q3, show (2 : Int32) + nI k' = nI (2 + k') from nI_add 2 k']
            congr 1
            omega
