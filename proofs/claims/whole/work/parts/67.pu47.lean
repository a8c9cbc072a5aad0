/-! ===== 100, 101, 102, 104 ===== -/
theorem end_same {A : aS} {F : List Int32} : a_end A F = a_same A F 10 0 := by
  unfold a_end a_same a_wait
  by_cases c : A.1 7 = 0
  · rw [if_pos c, if_pos c]
  · rw [if_neg c, if_neg c]
theorem S_end {C : Nat} {s : eS} (h : SH s) {A : aS} (r : RT C s A) {F : List Int32} (f : FS s F) (hn : 3 ≤ (rb F).length) : ∃ x s', mX11_answerSame 0 10 s = some (x, s') ∧ kY s s' ∧ RT C s' (a_end A F) := by
  rw [end_same]
  obtain ⟨s1, f1, k1, r1⟩ := S_same h r f hn (cause := 10) (den := 0) (cau := 10) rfl (by decide)
  exact ⟨_, s1, f1, k1, r1⟩
theorem rb_by {F : List Int32} (bf : byF F) (k : Nat) : ∃ b : Nat, b < 256 ∧ (rb F).getD k 0 = nI b := by
  obtain ⟨b, hb, e⟩ := bf (6 + k)
  exact ⟨b, hb, by rw [← e]; unfold rb; rw [gD, gD, List.getElem?_drop]⟩
theorem inL_nat {a lo hi : Nat} (ha : a < 2 ^ 31) (hlo : lo < 2 ^ 31) (hhi : hi < 2 ^ 31) : inL (nI a).toInt64 (lN lo) (lN hi) = if lo ≤ a ∧ a ≤ hi then 1 else 0 := by
  unfold inL
  rw [nI_l ha]
  by_cases c1 : lo ≤ a
  · rw [if_neg (by rw [lg_cmp_lt, pk_lLT (by omega) (by omega)]; omega)]
    by_cases c2 : a ≤ hi
    · rw [if_neg (by rw [lg_cmp_gt, pk_lLT (by omega) (by omega)]; omega), if_pos ⟨c1, c2⟩]
    · rw [if_pos (by rw [lg_cmp_gt, pk_lLT (by omega) (by omega)]; omega), if_neg (fun z => c2 z.2)]
  · rw [if_pos (by rw [lg_cmp_lt, pk_lLT (by omega) (by omega)]; omega), if_neg (fun z => c1 z.1)]
theorem FS_Y {s s' : eS} (k : kY s s') {F : List Int32} (f : FS s F) : FS s' F := FS_k k.1 f
theorem same_W4 {A : aS} (w : W4 A) {F : List Int32} {c d : Int32} : W4 (a_same A F c d) := by
  unfold W4
  rw [same_q F c d (Or.inl rfl)]
  exact w
set_option maxRecDepth 100000 in
theorem S_ask100 {C : Nat} (hC : C < 2 ^ 30) {s : eS} (h : SH s) {A : aS} (w4 : W4 A) (r : RT C s A) {F : List Int32} (f : FS s F) (bf : byF F) (hn : 3 ≤ (rb F).length) (cause : Int32) : ∃ s', mX11_interrogationCame 0 cause ((rb F).getD 9 0) s = some s' ∧ kY s s' ∧ RT C s' (a_ask A F 100 cause) := by
  obtain ⟨b, hb, eb⟩ := rb_by bf 9
  have e28 : ∃ s', mX11_interrogationCame_28 0 s = some s' ∧ kY s s' ∧ RT C s' (a_same A F 7 1) := by
    obtain ⟨s1, f1, k1, r1⟩ := S_same h r f hn (cause := 7) (den := 1) (cau := 71) rfl (by decide)
    unfold mX11_interrogationCame_28 mX11_interrogationCame_67
    rw [oK_0 h, b1S, f1, b2S]
    exact ⟨s1, rfl, k1, r1⟩
  have e60 : ∀ (s1 : eS) (B : aS), SH s1 → RT C s1 B → FS s1 F → ∃ s', mX11_interrogationCame_60 0 s1 = some s' ∧ kY s1 s' ∧ RT C s' (a_end B F) := by
    intro s1 B h1 r1 f1
    obtain ⟨x, s2, e2, k2, r2⟩ := S_end h1 r1 f1 hn
    unfold mX11_interrogationCame_60 mX11_interrogationCame_67
    rw [oK_0 h1, b1S, e2, b2S]
    exact ⟨s2, rfl, k2, r2⟩
  unfold mX11_interrogationCame mX11_interrogationCame_67 a_ask
  rw [if_pos rfl]
  by_cases c8 : cause = 8
  · obtain ⟨s1, f1, k1, r1⟩ := S_same h r f hn (cause := 9) (den := 1) (cau := 73) rfl (by decide)
    rw [if_pos c8, if_pos c8, oK_0 h, b1S, f1, b2S]
    exact ⟨s1, rfl, k1, r1⟩
  rw [if_neg c8, if_neg c8, eb, show (20 : Int64) = lN 20 from rfl, show (36 : Int64) = lN 36 from rfl, inL_nat (by omega) (by omega) (by omega)]
  unfold a_ask100
  by_cases c1 : b < 20
  · rw [if_pos (lt_c (c := 20) 20 c1), if_neg (show ¬ (20 ≤ b ∧ b ≤ 36) by omega), if_pos rfl]
    exact e28
  rw [if_neg (nlt_c (c := 20) 20 (by omega))]
  by_cases c2 : b ≤ 36
  · rw [if_pos (show nI b ≤ 36 from nI_le (b := 36) c2 (by decide)), if_pos (show 20 ≤ b ∧ b ≤ 36 by omega), if_neg (by decide)]
    obtain ⟨s1, f1, k1, r1⟩ := S_same h r f hn (cause := 7) (den := 0) (cau := 7) rfl (by decide)
    have h1 := k1.1.1
    have fs1 := FS_Y k1 f
    rw [oK_0 h, b1S, f1, b2S, gP_0_8 h1, b1S, b1S, oK_18 h1, b1S, S_trial h1 fs1, b2S]
    by_cases ct : isT F = 0
    · obtain ⟨s2, f2, k2, r2⟩ := S_points hC hb (g := nI b - 20) (ctr := 0) (Or.inr ⟨fun z => by
        have := (nI_eq (a := b) (b := 37) (by omega) (by omega)).mp z
        omega, rfl, rfl⟩) h1 (same_W4 w4) r1
      rw [if_pos ct, if_pos ct, oK_0 h1, b1S, f2, b1S]
      obtain ⟨s3, f3, k3, r3⟩ := e60 s2 _ k2.1.1 r2 (FS_Y k2 fs1)
      refine ⟨s3, f3, kY_tr k1 (kY_tr k2 k3), ?_⟩
      by_cases c7 : (a_same A F 7 0).1 7 = 0
      · rw [objs_closed _ _ _ c7] at r3
        rw [if_pos c7]; exact r3
      · rw [if_neg c7]; exact r3
    · rw [if_neg ct, if_neg ct]
      obtain ⟨s3, f3, k3, r3⟩ := e60 s1 _ h1 r1 fs1
      exact ⟨s3, f3, kY_tr k1 k3, r3⟩
  · rw [if_neg (show ¬ nI b ≤ 36 from nI_ge (a := 36) (by omega) (by omega)), if_neg (show ¬ (20 ≤ b ∧ b ≤ 36) by omega), if_pos rfl]
    exact e28
set_option maxRecDepth 100000 in
theorem S_ask101 {C : Nat} (hC : C < 2 ^ 30) {s : eS} (h : SH s) {A : aS} (w4 : W4 A) (r : RT C s A) {F : List Int32} (f : FS s F) (bf : byF F) (hn : 3 ≤ (rb F).length) (cause : Int32) : ∃ s', mX11_countersOrderCame 0 ((rb F).getD 9 0) s = some s' ∧ kY s s' ∧ RT (C + 1) s' (a_ask A F 101 cause) := by
  obtain ⟨b, hb, eb⟩ := rb_by bf 9
  have e45 : ∀ (D : Nat) (s1 : eS) (B : aS), SH s1 → RT D s1 B → FS s1 F → ∃ s', mX11_countersOrderCame_45 0 s1 = some s' ∧ kY s1 s' ∧ RT D s' (a_end B F) := by
    intro D s1 B h1 r1 f1
    obtain ⟨x, s2, e2, k2, r2⟩ := S_end h1 r1 f1 hn
    unfold mX11_countersOrderCame_45 mX11_countersOrderCame_52
    rw [oK_0 h1, b1S, e2, b2S]
    exact ⟨s2, rfl, k2, r2⟩
  unfold mX11_countersOrderCame mX11_countersOrderCame_52 a_ask a_ask101
  rw [if_neg (by decide : ¬ (101 : Int32) = 100), if_pos rfl, eb]
  by_cases c5 : nI b &&& 63 = 5
  · rw [if_pos c5, if_pos c5, if_neg (by decide)]
    obtain ⟨s1, f1, k1, r1⟩ := S_same h r f hn (cause := 7) (den := 0) (cau := 7) rfl (by decide)
    have h1 := k1.1.1
    have fs1 := FS_Y k1 f
    rw [oK_0 h, b1S, f1, b2S]
    by_cases c7 : (a_same A F 7 0).1 7 = 0
    · rw [if_pos c7, if_pos rfl]
      refine ⟨s1, rfl, k1, ?_⟩
      have e : (if isT F = 0 then a_same A F 7 0 else a_same A F 7 0) = a_same A F 7 0 := by split <;> rfl
      simp only [if_pos c7, e]
      unfold a_end
      rw [if_pos c7]
      exact RT_mono r1 (Nat.le_succ C)
    · rw [if_neg c7, if_neg (by decide), gP_0_8 h1, b1S, b1S, oK_18 h1, b1S, S_trial h1 fs1, b2S]
      by_cases ct : isT F = 0
      · rw [if_pos ct, if_pos ct, if_neg c7, oK_0 h1, b1S, pk_shrN (by omega) _ 6 (by decide +kernel)]
        have hq : b / 2 ^ 6 < 4 := by omega
        by_cases c0 : b / 2 ^ 6 = 0
        · obtain ⟨s2, f2, k2, r2⟩ := S_points hC (cn := 37) (by omega) (g := 0) (ctr := 1) (Or.inl ⟨rfl, rfl, rfl⟩) h1 (same_W4 w4) r1
          unfold mX11_orderCounters
          rw [c0, if_pos (show nI 0 = 0 from rfl), if_pos (show nI 0 = 0 from rfl), oK_0 h1, b1S, show mX11_answerPoints 0 37 s1 = _ from f2, b1S, b1S]
          obtain ⟨s3, f3, k3, r3⟩ := e45 C s2 _ k2.1.1 r2 (FS_Y k2 fs1)
          exact ⟨s3, f3, kY_tr k1 (kY_tr k2 k3), RT_mono r3 (Nat.le_succ C)⟩
        · rcases r1 with ⟨o1, r1, l1⟩ | ⟨o1, A0, r1, -, e1⟩
          · obtain ⟨s2, f2, k2, r2, o2⟩ := S_order h1 r1 (k := nI (b / 2 ^ 6)) (by
              have : b / 2 ^ 6 = 1 ∨ b / 2 ^ 6 = 2 ∨ b / 2 ^ 6 = 3 := by omega
              rcases this with z | z | z <;> rw [z]
              · exact Or.inl rfl
              · exact Or.inr (Or.inl rfl)
              · exact Or.inr (Or.inr rfl))
            rw [f2, b1S, if_neg (nI_ne0 (by omega) (by omega))]
            obtain ⟨s3, f3, k3, r3⟩ := e45 (C + 1) s2 _ k2.1.1 (Or.inl ⟨o2.trans o1, r2, l1⟩) (FS_Y k2 fs1)
            exact ⟨s3, f3, kY_tr k1 (kY_tr k2 k3), r3⟩
          · rw [e1] at c7
            exact absurd rfl c7
      · rw [if_neg ct, if_neg ct]
        obtain ⟨s3, f3, k3, r3⟩ := e45 C s1 _ h1 r1 fs1
        exact ⟨s3, f3, kY_tr k1 k3, RT_mono r3 (Nat.le_succ C)⟩
  · obtain ⟨s1, f1, k1, r1⟩ := S_same h r f hn (cause := 7) (den := 1) (cau := 71) rfl (by decide)
    rw [if_neg c5, if_neg c5, if_pos rfl, oK_0 h, b1S, f1, b2S]
    exact ⟨s1, rfl, k1, RT_mono r1 (Nat.le_succ C)⟩
theorem S_read {C : Nat} (hC : C < 2 ^ 30) {s : eS} (h : SH s) {A : aS} (r : RT C s A) {F : List Int32} (f : FS s F) (bf : byF F) {x : Int32} (hx : ixF (A.2.2 0) 1 x ≠ (A.2.2 0).length) : ∃ s', mX11_readCame 0 (some (pA s (ixF (A.2.2 0) 1 x))) s = some s' ∧ kY s s' ∧ RT C s' (a_read A F x) := by
  have hle := ixF_le (A.2.2 0) 1 x
  unfold mX11_readCame mX11_readCame_20 a_read
  rw [if_neg (by simp), if_neg hx, gP_0_8 h, b1S, b1S, oK_18 h, b1S, S_trial h f, b2S]
  by_cases ct : isT F = 0
  · obtain ⟨s1, f1, k1, r1⟩ := S_obj hC h r f bf (p := ixF (A.2.2 0) 1 x) (by omega) (c := 5) (by omega)
    rw [if_pos ct, if_pos ct, oK_0 h, b1S, show mX11_answerObject 0 (some (pA s (ixF (A.2.2 0) 1 x))) 5 s = _ from f1, b1S]
    exact ⟨s1, rfl, k1, r1⟩
  · rw [if_neg ct, if_neg ct]
    exact ⟨s, rfl, kY_rf h, r⟩
/-! ===== THE CLOCK becomes a TIME ===== -/
theorem t_shr {N k : Nat} (h : N < 2 ^ 63) (sh : Int64) (hs : (sh.toBitVec.smod 64).toNat = k) : lN N >>> sh = lN (N / 2 ^ k) := by
  have hd : N / 2 ^ k ≤ N := Nat.div_le_self _ _
  apply uN_ext
  rw [uN_lN (by omega)]
  unfold uN
  rw [Int64.toBitVec_shiftRight]
  rw [show (sh.toBitVec.smod (OfNat.ofNat 64)) = (sh.toBitVec.smod 64) from rfl, BitVec.sshiftRight_eq', hs]
  have hm : (lN N).toBitVec.msb = false := by
    rw [BitVec.msb_eq_false_iff_two_mul_lt]
    show 2 * uN (lN N) < 2 ^ 64
    rw [uN_lN (by omega)]
    omega
  rw [BitVec.sshiftRight_eq_of_msb_false hm, BitVec.toNat_ushiftRight]
  show uN (lN N) >>> k = _
  rw [uN_lN (by omega), Nat.shiftRight_eq_div_pow]
theorem t_and {N w : Nat} (h : N < 2 ^ 63) (m : Int64) (hm : uN m = 2 ^ w - 1) : lN N &&& m = lN (N % 2 ^ w) := by
  have hd : N % 2 ^ w ≤ N := Nat.mod_le _ _
  apply uN_ext
  rw [uN_and, hm, uN_lN (by omega), uN_lN (by omega), Nat.and_two_pow_sub_one_eq_mod]
def dN (mo ye : Nat) : Nat := if mo = 2 then (if ye % 4 = 0 then 29 else 28) else if mo = 4 ∨ mo = 6 ∨ mo = 9 ∨ mo = 11 then 30 else 31
theorem dN_le (mo ye : Nat) : 28 ≤ dN mo ye ∧ dN mo ye ≤ 31 := by
  unfold dN
  split
  · split <;> omega
  · split <;> omega
theorem dF_nat {mo ye : Nat} (hm : mo < 256) (hy : ye < 256) : dF (nI mo) (nI ye) = nI (dN mo ye) := by
  unfold dF dN
  have q : ∀ c : Nat, c < 256 → (nI mo = nI c ↔ mo = c) := fun c hc => nI_eq (by omega) (by omega)
  rw [show (4 : Int32) = nI 4 from rfl, pk_rem (by omega) (by omega) (by omega), show (2 : Int32) = nI 2 from rfl, show (6 : Int32) = nI 6 from rfl, show (9 : Int32) = nI 9 from rfl, show (11 : Int32) = nI 11 from rfl]
  by_cases c2 : mo = 2
  · rw [if_pos ((q 2 (by omega)).mpr c2), if_pos c2]
    by_cases c : ye % 4 = 0
    · rw [if_pos (by rw [c]; rfl), if_pos c]; rfl
    · rw [if_neg (nI_ne0 (by omega) (by omega)), if_neg c]; rfl
  · rw [if_neg (fun z => c2 ((q 2 (by omega)).mp z)), if_neg c2]
    by_cases c4 : mo = 4
    · rw [if_pos ((q 4 (by omega)).mpr c4), if_pos (by omega)]; rfl
    · rw [if_neg (fun z => c4 ((q 4 (by omega)).mp z))]
      by_cases c6 : mo = 6
      · rw [if_pos ((q 6 (by omega)).mpr c6), if_pos (by omega)]; rfl
      · rw [if_neg (fun z => c6 ((q 6 (by omega)).mp z))]
        by_cases c9 : mo = 9
        · rw [if_pos ((q 9 (by omega)).mpr c9), if_pos (by omega)]; rfl
        · rw [if_neg (fun z => c9 ((q 9 (by omega)).mp z))]
          by_cases c11 : mo = 11
          · rw [if_pos ((q 11 (by omega)).mpr c11), if_pos (by omega)]; rfl
          · rw [if_neg (fun z => c11 ((q 11 (by omega)).mp z)), if_neg (by omega)]; rfl
theorem tab11 : ∀ m, m < 13 → 1 ≤ m → t_I tb_11 (nI m - 1) = some (nI (dN m 1)) := by decide +kernel
theorem dN_1 {mo ye : Nat} (h : mo ≠ 2 ∨ ye % 4 ≠ 0) : dN mo ye = dN mo 1 := by
  unfold dN
  by_cases c : mo = 2
  · rw [if_pos c, if_pos c, if_neg (by omega), if_neg (by omega)]
  · rw [if_neg c, if_neg c]
theorem S_daysOf {mo ye : Nat} (hm : mo < 256) (hy : ye < 256) (s : eS) : mX1_daysOf (nI mo) (nI ye) s = some (nI (if 1 ≤ mo ∧ mo ≤ 12 then dN mo ye else 0), s) := by
  unfold mX1_daysOf mX1_daysOf_11 mX1_daysOf_29 mX1_daysOf_36
  by_cases c1 : mo < 1
  · rw [if_pos (lt_c (c := 1) 1 c1), if_neg (by omega)]; rfl
  rw [if_neg (nlt_c (c := 1) 1 (by omega))]
  by_cases c12 : mo ≤ 12
  · rw [if_pos (show nI mo ≤ 12 from nI_le (b := 12) c12 (by decide)), if_pos (show 1 ≤ mo ∧ mo ≤ 12 by omega), show (4 : Int32) = nI 4 from rfl, pk_rem (by omega) (by omega) (by omega)]
    have t := tab11 mo (by omega) (by omega)
    by_cases c2 : mo = 2
    · rw [if_pos (by rw [c2]; rfl)]
      by_cases c : ye % 4 = 0
      · rw [if_pos (by rw [c]; rfl)]
        unfold dN
        rw [if_pos c2, if_pos c]; rfl
      · rw [if_neg (nI_ne0 (by omega) (by omega)), t, b1S, dN_1 (ye := ye) (Or.inr c)]
    · rw [if_neg (show ¬ nI mo = 2 from fun z => c2 ((nI_eq (a := mo) (b := 2) (by omega) (by omega)).mp z)), t, b1S, dN_1 (ye := ye) (Or.inl c2)]
  · rw [if_neg (show ¬ nI mo ≤ 12 from nI_ge (a := 12) (by omega) (by omega)), if_neg (by omega)]; rfl
