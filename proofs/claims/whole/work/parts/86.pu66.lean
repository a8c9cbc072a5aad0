/-! ===== the station's points ===== -/
theorem noA_0 (q : List (List Int32)) (x : Int32) : ∀ (d i : Nat) (v : Int32), noA q x d i v = 0 ↔ v = 0 ∨ ∃ j, i ≤ j ∧ j < i + d ∧ pg q j 1 = x
  | 0, i, v => by
    show v = 0 ↔ _
    constructor
    · exact Or.inl
    · rintro (z | ⟨j, h1, h2, -⟩)
      · exact z
      · omega
  | d + 1, i, v => by
    show noA q x d (i + 1) (if v = 0 then 0 else if pg q i 1 = x then 0 else 1) = 0 ↔ _
    rw [noA_0 q x d (i + 1)]
    constructor
    · rintro (z | ⟨j, h1, h2, h3⟩)
      · by_cases c : v = 0
        · exact Or.inl c
        · rw [if_neg c] at z
          by_cases c2 : pg q i 1 = x
          · exact Or.inr ⟨i, Nat.le_refl _, by omega, c2⟩
          · rw [if_neg c2] at z; cases z
      · exact Or.inr ⟨j, by omega, by omega, h3⟩
    · rintro (z | ⟨j, h1, h2, h3⟩)
      · rw [if_pos z]; exact Or.inl rfl
      · by_cases e : j = i
        · subst e
          refine Or.inl ?_
          by_cases c : v = 0
          · rw [if_pos c]
          · rw [if_neg c, if_pos h3]
        · exact Or.inr ⟨j, by omega, by omega, h3⟩
theorem ix_len (q : List (List Int32)) (x : Int32) : ixF q 1 x = q.length ↔ ∀ j, j < q.length → ¬ pg q j 1 = x := by
  have hl := ixF_le q 1 x
  constructor
  · intro e j hj
    exact ix_ne (by omega)
  · intro h
    apply Classical.byContradiction
    intro z
    exact h _ (by omega) (ix_at (by omega))
theorem frF_0 (A : aS) (x : Int32) : frF A x = 0 ↔ ¬ (inL x.toInt64 1 16777215 ≠ 0 ∧ ixF (A.2.2 0) 1 x = (A.2.2 0).length ∧ ixF (A.2.2 1) 1 x = (A.2.2 1).length) := by
  unfold frF
  rw [noA_0, noA_0, ix_len, ix_len]
  constructor
  · rintro ((z | ⟨j, -, h2, h3⟩) | ⟨j, -, h2, h3⟩) ⟨a, b, c⟩
    · exact a z
    · exact b j (by omega) h3
    · exact c j (by omega) h3
  · intro h
    apply Classical.byContradiction
    intro z
    apply h
    refine ⟨fun e => z (Or.inl (Or.inl e)), fun j hj e => z (Or.inl (Or.inr ⟨j, Nat.zero_le _, by omega, e⟩)), fun j hj e => z (Or.inr ⟨j, Nat.zero_le _, by omega, e⟩)⟩
theorem S_isFree {t : Bool} {D : Nat} {s : eS} (h : SH s) {A : aS} (r : RS t D s A) (x : Int32) : mX11_isFreeAddress 0 x s = some (if frF A x = 0 then 0 else 1, s) ∧ (frF A x ≠ 0 → ∃ d : Nat, d < 2 ^ 24 ∧ x = nI d) := by
  have hf := frF_0 A x
  unfold mX11_isFreeAddress mX11_isFreeAddress_35 mX11_isFreeAddress_36
  simp only [oZ0, oZ1, b1S]
  rcases inL_cases x (lo := 1) (hi := 16777215) (by omega) (by omega) with ⟨c, e⟩ | ⟨k, hk, rfl, e⟩
  · have f0 : frF A x = 0 := hf.mpr (fun z => z.1 e)
    rw [if_pos (show x < 1 from Int32.lt_of_lt_of_le c (by decide)), if_pos f0]
    exact ⟨rfl, fun z => absurd f0 z⟩
  · have e' : inL (nI k).toInt64 1 16777215 = if 1 ≤ k ∧ k ≤ 16777215 then 1 else 0 := e
    by_cases c1 : k < 1
    · have f0 : frF A (nI k) = 0 := hf.mpr (fun z => z.1 (by rw [e', if_neg (by omega)]))
      rw [if_pos (lt_c (c := 1) 1 c1), if_pos f0]
      exact ⟨rfl, fun z => absurd f0 z⟩
    rw [if_neg (nlt_c (c := 1) 1 (by omega))]
    by_cases c2 : 16777215 < k
    · have f0 : frF A (nI k) = 0 := hf.mpr (fun z => z.1 (by rw [e', if_neg (by omega)]))
      rw [if_pos (c_lt (c := 16777215) 16777215 c2), if_pos f0]
      exact ⟨rfl, fun z => absurd f0 z⟩
    rw [if_neg (c_nlt (c := 16777215) 16777215 (by omega)), gP_0_1 h, b1S, b1S, oK_2 h, b1S, S_withAddr h r, b2S]
    refine ⟨?_, fun _ => ⟨k, by omega, rfl⟩⟩
    by_cases i0 : ixF (A.2.2 0) 1 (nI k) = (A.2.2 0).length
    · rw [if_pos i0, if_pos rfl, oK_0 h, b1S, S_cmdWith h r, b2S]
      by_cases i1 : ixF (A.2.2 1) 1 (nI k) = (A.2.2 1).length
      · rw [if_pos i1, if_pos rfl, if_neg (fun z => hf.mp z ⟨by rw [e', if_pos (by omega)]; decide, i0, i1⟩)]
      · rw [if_neg i1, if_neg (by simp), if_pos (hf.mpr (fun z => i1 z.2.2))]
    · rw [if_neg i0, if_neg (by simp), if_pos (hf.mpr (fun z => i0 z.2.1))]
/-- only the row of points by addresses changes -/
def Q4 (s0 s : eS) : Prop := (sK s = sK s0 ∧ sN s = sN s0 ∧ sI s = sI s0 ∧ sL s = sL s0 ∧ sn s = sn s0 ∧ ss s = ss s0) ∧ ∀ a k, a ≠ 4 → sP s a k = sP s0 a k
theorem Q4_rf {s : eS} : Q4 s s := ⟨⟨rfl, rfl, rfl, rfl, rfl, rfl⟩, fun _ _ _ => rfl⟩
theorem Q4_P {s0 s : eS} (q : Q4 s0 s) (k : Nat) (x : Option Nat) : Q4 s0 (e_P s 4 k x) := ⟨q.1, fun a j ha => (rPP_ne (fun z => ha z.1)).trans (q.2 a j ha)⟩
theorem SH_Q4 {s0 s : eS} (h : SH s0) (q : Q4 s0 s) : SH s := by
  obtain ⟨⟨a1, a2, -, -, a5, -⟩, a7⟩ := q
  refine ⟨by rw [a5]; exact h.1, fun a ha => by rw [a1, a2]; exact h.2.1 a ha, fun p hp => ?_⟩
  have : ∀ q ∈ pL, q.1 ≠ 4 := by decide
  rw [a7 _ _ (this p hp)]
  exact h.2.2 p hp
theorem sP4 {s : eS} (h : SH s) {i : Nat} (hi : i < 24) {b : Nat} (hb : b < sn s ∧ sK s b = 106) : s_P s 4 106 4 (nI i) b = some (e_P s 4 i (some b)) := by
  unfold s_P
  rw [nI_clamp (by omega), if_pos ⟨sh_k h (by decide) rfl, ⟨nI_pos (by omega), by rw [(h.2.1 4 (by decide)).2]; exact hi⟩, hb⟩]
theorem sP3 {s : eS} (h : SH s) {i : Nat} (hi : i < 24) {b : Nat} (hb : b < sn s ∧ sK s b = 106) : s_P s 4 106 3 (nI i) b = some (e_P s 3 i (some b)) := by
  unfold s_P
  rw [nI_clamp (by omega), if_pos ⟨sh_k h (by decide) rfl, ⟨nI_pos (by omega), by rw [(h.2.1 3 (by decide)).2]; exact hi⟩, hb⟩]
set_option maxRecDepth 100000 in
/-- the place of a new POINT among those that stand by addresses -/
theorem S_ins {s0 : eS} {n b : Nat} (hn : n < 24) (hb : b < sn s0 ∧ sK s0 b = 106) (L : Nat → Nat) (hL : ∀ j, j < n → L j < sn s0 ∧ sK s0 (L j) = 106) (e22 : sI s0 2 2 = nI n) : ∀ (p m : Nat) (s : eS), p ≤ n → p < m → SH s → Q4 s0 s → (∀ j, j < p → sP s 4 j = some (L j)) → (∀ j, p ≤ j → j < n → sP s 4 (j + 1) = some (L j)) → (∀ j, p ≤ j → j < n → sI s0 b 1 ≤ sI s0 (L j) 1) →
    ∃ p' s', mX7_add_32 m 2 (some b) (nI p) (nI p + (-1)) s = some (e_I s' 2 2 (nI (n + 1))) ∧ p' ≤ n ∧ SH s' ∧ Q4 s0 s' ∧ (∀ j, j < p' → sP s' 4 j = some (L j)) ∧ sP s' 4 p' = some b ∧ (∀ j, p' ≤ j → j < n → sP s' 4 (j + 1) = some (L j)) ∧ (∀ j, p' ≤ j → j < n → sI s0 b 1 ≤ sI s0 (L j) 1) ∧ (p' = 0 ∨ ¬ sI s0 b 1 ≤ sI s0 (L (p' - 1)) 1) := by
  intro p
  -- the end: at place p
  have fin : ∀ (p : Nat) (s : eS), p ≤ n → SH s → Q4 s0 s → (∀ j, j < p → sP s 4 j = some (L j)) → (∀ j, p ≤ j → j < n → sP s 4 (j + 1) = some (L j)) → (∀ j, p ≤ j → j < n → sI s0 b 1 ≤ sI s0 (L j) 1) → (p = 0 ∨ ¬ sI s0 b 1 ≤ sI s0 (L (p - 1)) 1) → ∃ p' s', mX7_add_86 2 (some b) (nI p) s = some (e_I s' 2 2 (nI (n + 1))) ∧ p' ≤ n ∧ SH s' ∧ Q4 s0 s' ∧ (∀ j, j < p' → sP s' 4 j = some (L j)) ∧ sP s' 4 p' = some b ∧ (∀ j, p' ≤ j → j < n → sP s' 4 (j + 1) = some (L j)) ∧ (∀ j, p' ≤ j → j < n → sI s0 b 1 ≤ sI s0 (L j) 1) ∧ (p' = 0 ∨ ¬ sI s0 b 1 ≤ sI s0 (L (p' - 1)) 1) := by
    intro p s hp h q h1 h2 h3 h4
    have hb' : b < sn s ∧ sK s b = 106 := by rw [q.1.1, q.1.2.2.2.2.1]; exact hb
    have q' := Q4_P q p (some b)
    have h' : SH (e_P s 4 p (some b)) := SH_P h (by
      have : ∀ q ∈ pL, q.1 ≠ 4 := by decide
      exact fun hm => this _ hm rfl)
    have e2 : sI (e_P s 4 p (some b)) 2 2 = nI n := by
      have : sI (e_P s 4 p (some b)) = sI s0 := q'.1.2.2.1
      rw [this]; exact e22
    refine ⟨p, e_P s 4 p (some b), ?_, hp, h', q', fun j hj => (rPP_ne (by omega)).trans (h1 j hj), rPP_eq, fun j hj hj2 => (rPP_ne (by omega)).trans (h2 j hj hj2), h3, h4⟩
    unfold mX7_add_86
    rw [gP_2_1 h, b1S, b1S, b1S, sP4 h (by omega) hb', b1S, gI_2 h', b1S, e2, nI_1, pI_2 h', b1S]
  induction p with
  | zero =>
    intro m s hp hm h q h1 h2 h3
    obtain ⟨m, rfl⟩ : ∃ q, m = q + 1 := ⟨m - 1, by omega⟩
    unfold mX7_add_32
    rw [if_pos (by decide)]
    exact fin 0 s hp h q h1 h2 h3 (Or.inl rfl)
  | succ p ih =>
    intro m s hp hm h q h1 h2 h3
    obtain ⟨m, rfl⟩ : ∃ q, m = q + 1 := ⟨m - 1, by omega⟩
    have hLp := hL p (by omega)
    have e4 := h1 p (by omega)
    have gb : g_I s 106 1 b = some (sI s0 b 1) := by
      unfold g_I
      rw [q.1.1, q.1.2.2.2.2.1, if_pos hb, q.1.2.2.1]
    have gl : g_I s 106 1 (L p) = some (sI s0 (L p) 1) := by
      unfold g_I
      rw [q.1.1, q.1.2.2.2.2.1, if_pos hLp, q.1.2.2.1]
    have hl' : L p < sn s ∧ sK s (L p) = 106 := by rw [q.1.1, q.1.2.2.2.2.1]; exact hLp
    unfold mX7_add_32
    rw [pk_m1, if_neg (nI_pos (by omega)), gP_2_1 h, b1S, b1S, aP_4 h (nIc (by omega) (by omega)), b1S, nI_clamp (by omega), e4, if_neg (by simp), b1S, b1S, aP_4 h (nIc (by omega) (by omega)), b1S, nI_clamp (by omega), e4, b1S, gl, b1S, b1S, gb, b1S]
    by_cases c : sI s0 b 1 ≤ sI s0 (L p) 1
    · rw [if_pos c, b1S, b1S, b1S, aP_4 h (nIc (by omega) (by omega)), b1S, nI_clamp (by omega), e4, b1S, b1S, nI_1, sP4 h (by omega) hl', b1S]
      have h' : SH (e_P s 4 (p + 1) (some (L p))) := SH_P h (by
        have : ∀ q ∈ pL, q.1 ≠ 4 := by decide
        exact fun hm => this _ hm rfl)
      refine ih m _ (by omega) (by omega) h' (Q4_P q _ _) (fun j hj => (rPP_ne (by omega)).trans (h1 j (by omega))) (fun j hj hj2 => ?_) (fun j hj hj2 => ?_)
      · by_cases e : j = p
        · subst e; exact rPP_eq
        · rw [rPP_ne (by omega)]; exact h2 j (by omega) hj2
      · by_cases e : j = p
        · subst e; exact c
        · exact h3 j (by omega) hj2
    · rw [if_neg c]
      exact fin (p + 1) s hp h q h1 h2 h3 (Or.inr c)
