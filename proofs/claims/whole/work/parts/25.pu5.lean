/-! ===== the model closes ===== -/
def a_close (A : aS) (why : Int32) : aS := uq (uq (uq (uq (ul (ul (ui (ui (ui (ui A 7 0) 8 why) 17 (A.1 16)) 12 0) 1 []) 2 []) 4 []) 3 (A.2.2 2 ++ A.2.2 3)) 2 []) 5 []
set_option maxRecDepth 100000 in
theorem M_ins_loop (k32 : Nat → Int32 → eS → Option eS) {j : Nat} (hj : j < 12) {s0 : eS} : ∀ (d k m : Nat) (s : eS), k + d = 7 → d < m → SH s → ag (fun a _ => a == 45) s0 s → (∀ i, i < k → sI s 45 i = sI s0 51 (7 * j + i)) → (∀ i, k ≤ i → sI s 45 i = sI s0 45 i) →
    ∃ s', mX12_closes_118 k32 m 26 (nI j) (nI k) s = k32 26 (nI j + (-1)) s' ∧ ag (fun a _ => a == 45) s0 s' ∧ (∀ i, i < 7 → sI s' 45 i = sI s0 51 (7 * j + i)) ∧ ∀ i, 7 ≤ i → sI s' 45 i = sI s0 45 i := by
  intro d
  induction d with
  | zero =>
    intro k m s hk hm h hg hd ho
    obtain ⟨m, rfl⟩ : ∃ q, m = q + 1 := ⟨m - 1, by omega⟩
    unfold mX12_closes_118 mX12_closes_147
    rw [if_pos (nLe (n := 7) (c := 7) rfl (by omega) (by omega))]
    rw [show k = 7 by omega] at hd ho
    exact ⟨s, rfl, hg, hd, ho⟩
  | succ d ih =>
    intro k m s hk hm h hg hd ho
    obtain ⟨m, rfl⟩ : ∃ q, m = q + 1 := ⟨m - 1, by omega⟩
    unfold mX12_closes_118
    have hi1 : ¬ nI (7 * j + k) < 0 ∧ (nI (7 * j + k)).toNatClampNeg < 84 := nIc (by omega) (by omega)
    have hi2 : ¬ nI k < 0 ∧ (nI k).toNatClampNeg < 420 := nIc (by omega) (by omega)
    rw [if_neg (nGt (n := 7) (c := 7) rfl (by omega) (by decide)), gP_26_27 h, b1S, gP_26_34 h, b1S, b1S, nI_mul7, aI_51 h hi1, b1S, b1S, sI_45 h hi2, b1S, nI_clamp (by omega), nI_clamp (by omega), nI_1]
    have hv : sI s 51 (7 * j + k) = sI s0 51 (7 * j + k) := hg.2 51 _ rfl
    rw [hv]
    refine ih (k + 1) m _ (by omega) (by omega) (SH_I h) (ag_I hg rfl) (fun i hi => ?_) (fun i hi => ?_)
    · by_cases hik : i = k
      · subst hik; exact rII_eq
      · rw [rII_ne (Or.inr (by omega))]; exact hd i (by omega)
    · rw [rII_ne (Or.inr (by omega))]; exact ho i (by omega)
abbrev xE1 : Nat → Nat → Bool := fun a k => a == 42 || a == 43 || a == 44 || a == 45 || (a == 26 && k == 23)
set_option maxRecDepth 100000 in
/-- a sent event comes ahead of those that wait -/
theorem M_ins (k32 : Nat → Int32 → eS → Option eS) {j : Nat} (hj : j < 12) {s : eS} (h : SH s) {q : List (List Int32)} (hq : ME s q) (hn : q.length < 59) : ∃ s', mX12_closes_52 k32 100000 26 (nI j) (sI s 26 23 - 1) s = k32 26 (nI j + (-1)) s' ∧ ag xE1 s s' ∧ ME s' (esM s j :: q) := by
  have hne := hq.1
  obtain ⟨s1, ⟨m', e1⟩, h1, g1, r1⟩ := M_shiftUp k32 (nI j) hn q.length 100000 s (Nat.le_refl _) (by omega) h ag_rf (fun i a b => by omega) (fun _ _ => rfl)
  have c1 : sI s1 26 23 = nI q.length := (g1.2 26 23 rfl).trans hne
  have hi0 : ¬ (0 : Int32) < 0 ∧ (0 : Int32).toNatClampNeg < 60 := by decide
  have hij : ¬ nI j < 0 ∧ (nI j).toNatClampNeg < 12 := nIc (by omega) hj
  have cj : (nI j).toNatClampNeg = j := nI_clamp (by omega)
  have h2 : SH (e_I s1 26 23 (nI (q.length + 1))) := SH_I h1
  have h3 : SH (e_I (e_I s1 26 23 (nI (q.length + 1))) 42 0 (sI s 48 j)) := SH_I h2
  have h4 : SH (e_I (e_I (e_I s1 26 23 (nI (q.length + 1))) 42 0 (sI s 48 j)) 43 0 (sI s 49 j)) := SH_I h3
  have h5 : SH (e_I (e_I (e_I (e_I s1 26 23 (nI (q.length + 1))) 42 0 (sI s 48 j)) 43 0 (sI s 49 j)) 44 0 (sI s 50 j)) := SH_I h4
  obtain ⟨s', e6, g6, d6, o6⟩ := M_ins_loop k32 hj (s0 := e_I (e_I (e_I (e_I s1 26 23 (nI (q.length + 1))) 42 0 (sI s 48 j)) 43 0 (sI s 49 j)) 44 0 (sI s 50 j)) 7 0 100000 _ (by omega) (by omega) h5 ag_rf (fun i hi => absurd hi (Nat.not_lt_zero i)) (fun _ _ => rfl)
  have gA : ag xE1 s (e_I (e_I (e_I (e_I s1 26 23 (nI (q.length + 1))) 42 0 (sI s 48 j)) 43 0 (sI s 49 j)) 44 0 (sI s 50 j)) := ag_I (ag_I (ag_I (ag_I (ag_mono g1 (fun a k hx => by
    simp only [xE1, Bool.or_eq_false_iff] at hx
    simp only [xEV, Bool.or_eq_false_iff]
    exact hx.1)) rfl) rfl) rfl) rfl
  have gB : ag xE1 s s' := ag_tr gA (ag_mono g6 (fun a k hx => by
    simp only [xE1, Bool.or_eq_false_iff] at hx
    exact hx.1.2))
  refine ⟨s', ?_, gB, ?_, ?_⟩
  · rw [hne, e1]
    conv => lhs; unfold mX12_closes_52
    rw [if_pos (by decide), gI_26 h1, b1S, c1, nI_1, pI_26 h1, b1S, gP_26_24 h2, b1S, gP_26_31 h2, b1S, b1S, aI_48 h2 hij, b1S, b1S, sI_42 h2 hi0, b1S, cj, rII_ne (Or.inl (by decide)), g1.2 48 j rfl, show (0 : Int32).toNatClampNeg = 0 from rfl]
    rw [gP_26_25 h3, b1S, gP_26_32 h3, b1S, b1S, aI_49 h3 hij, b1S, b1S, sI_43 h3 hi0, b1S, cj, rII_ne (Or.inl (by decide)), rII_ne (Or.inl (by decide)), g1.2 49 j rfl, show (0 : Int32).toNatClampNeg = 0 from rfl]
    rw [gP_26_26 h4, b1S, gP_26_33 h4, b1S, b1S, aI_50 h4 hij, b1S, b1S, sI_44 h4 hi0, b1S, cj, rII_ne (Or.inl (by decide)), rII_ne (Or.inl (by decide)), rII_ne (Or.inl (by decide)), g1.2 50 j rfl, show (0 : Int32).toNatClampNeg = 0 from rfl]
    exact e6
  · rw [g6.2 26 23 rfl, rII_ne (Or.inl (by decide)), rII_ne (Or.inl (by decide)), rII_ne (Or.inl (by decide)), rII_eq]
    rfl
  · show rd (evM s') (q.length + 1) = _
    rw [rd_cons]
    congr 1
    · unfold evM esM
      rw [g6.2 42 0 rfl, g6.2 43 0 rfl, g6.2 44 0 rfl, rII_ne (Or.inl (by decide)), rII_ne (Or.inl (by decide)), rII_eq, rII_ne (Or.inl (by decide)), rII_eq, rII_eq]
      congr 1
      apply rd_congr
      intro k hk
      rw [Nat.mul_zero, Nat.zero_add, d6 k hk, rII_ne (Or.inl (by decide)), rII_ne (Or.inl (by decide)), rII_ne (Or.inl (by decide)), rII_ne (Or.inl (by decide)), g1.2 51 _ rfl]
    · rw [rd_congr (g := evM s) (fun i hi => ?_)]
      · exact hq.2
      · rw [← r1 i hi]
        refine evM_congr ?_ ?_ ?_ (fun k hk => ?_)
        · rw [g6.2 42 _ rfl, rII_ne (Or.inl (by decide)), rII_ne (Or.inl (by decide)), rII_ne (Or.inr (by omega)), rII_ne (Or.inl (by decide))]
        · rw [g6.2 43 _ rfl, rII_ne (Or.inl (by decide)), rII_ne (Or.inr (by omega)), rII_ne (Or.inl (by decide)), rII_ne (Or.inl (by decide))]
        · rw [g6.2 44 _ rfl, rII_ne (Or.inr (by omega)), rII_ne (Or.inl (by decide)), rII_ne (Or.inl (by decide)), rII_ne (Or.inl (by decide))]
        · rw [o6 _ (by omega), rII_ne (Or.inl (by decide)), rII_ne (Or.inl (by decide)), rII_ne (Or.inl (by decide)), rII_ne (Or.inl (by decide))]
theorem esF_len (s : eS) : ∀ (d j : Nat), (esF s j d).length ≤ d
  | 0, _ => Nat.le_refl _
  | d + 1, j => by
    unfold esF
    have := esF_len s d (j + 1)
    rw [List.length_append]
    split <;> simp <;> omega
theorem esF_step (s : eS) {n j : Nat} (h : j < n) : esF s j (n - j) = (if sI s 47 j = 0 then [] else [esM s j]) ++ esF s (j + 1) (n - (j + 1)) := by
  rw [show n - j = (n - (j + 1)) + 1 by omega]
  rfl
theorem esF_le (s : eS) (n : Nat) : ∀ j, j ≤ n → (esF s j (n - j)).length ≤ (esF s 0 n).length
  | 0, _ => Nat.le_refl _
  | j + 1, h => by
    have h1 := esF_le s n j (by omega)
    rw [esF_step s (by omega), List.length_append] at h1
    omega
set_option maxRecDepth 100000 in
/-- the loop of 'closes' over the frames that were sent -/
theorem M_closes_loop {s0 : eS} {q : List (List Int32)} {n : Nat} (hn : n ≤ 12) (hq : q.length + (esF s0 0 n).length ≤ 58) : ∀ (j m : Nat) (s : eS), j ≤ n → j < m → SH s → ag xE1 s0 s → ME s (esF s0 j (n - j) ++ q) →
    ∃ s', mX12_closes_32 m 26 (nI j - 1) s = some (e_I (e_I (e_I s' 26 28 0) 26 39 (sI s' 26 38)) 26 42 0) ∧ SH s' ∧ ag xE1 s0 s' ∧ ME s' (esF s0 0 n ++ q) := by
  intro j
  induction j with
  | zero =>
    intro m s hj hm h hg he
    obtain ⟨m, rfl⟩ : ∃ q, m = q + 1 := ⟨m - 1, by omega⟩
    refine ⟨s, ?_, h, hg, he⟩
    unfold mX12_closes_32
    rw [if_pos (by decide), pI_26 h, b1S, gI_26 (SH_I h), b1S, rII_ne (Or.inr (by decide)), pI_26 (SH_I h), b1S, pZ_26 (SH_I (SH_I h)) (Or.inl rfl), b1S]
  | succ j ih =>
    intro m s hj hm h hg he
    obtain ⟨m, rfl⟩ : ∃ q, m = q + 1 := ⟨m - 1, by omega⟩
    have hij : ¬ nI j < 0 ∧ (nI j).toNatClampNeg < 12 := nIc (by omega) (by omega)
    have cj : (nI j).toNatClampNeg = j := nI_clamp (by omega)
    have ev := esF_step s0 (n := n) (j := j) (by omega)
    have es : sI s 47 j = sI s0 47 j := hg.2 47 j rfl
    have hE := esF_le s0 n (j + 1) (by omega)
    conv => enter [1, s', 1, 1]; unfold mX12_closes_32
    rw [nI_pred, if_neg (nI_pos (by omega)), gP_26_30 h, b1S, b1S, aI_47 h hij, b1S, cj, es]
    by_cases c0 : sI s0 47 j = 0
    · rw [if_pos c0]
      unfold mX12_closes_147
      rw [if_pos c0, List.nil_append] at ev
      rw [pk_e1]
      exact ih m s (by omega) (by omega) h hg (by rw [ev]; exact he)
    · rw [if_neg c0, gI_26 h, b1S]
      rw [if_neg c0] at ev
      obtain ⟨s1, e1, g1, f1⟩ := M_ins (mX12_closes_32 m) (j := j) (by omega) h he (by rw [List.length_append]; omega)
      rw [e1, pk_e1]
      have em : esM s j = esM s0 j := esM_ag hg (fun k => ⟨rfl, rfl, rfl, rfl⟩) j
      refine ih m s1 (by omega) (by omega) (SH_ag h g1) (ag_tr hg g1) ?_
      rw [ev]
      rw [em] at f1
      exact f1
/-- what stays, in one word -/
theorem RM_x {X : Nat → Nat → Bool} {s s' : eS} {A : aS} (g : ag X s s') (h : RM s A) (h1 : ∀ k, k < 26 → X (mc k).1 (mc k).2 = false) (h2 : X 26 49 = false ∧ X 26 51 = false ∧ X 26 15 = false ∧ X 26 16 = false ∧ X 26 17 = false ∧ X 26 1 = false ∧ X 26 9 = false ∧ X 26 28 = false ∧ X 26 23 = false ∧ X 26 45 = false) (h3 : ∀ a k, 28 ≤ a → a < 56 → X a k = false) : RM s' A := by
  obtain ⟨a1, a2, a3, a4, a5, a6, a7, a8, a9⟩ := h
  obtain ⟨b1, b2, b3, b4, b5, b6, b7, b8, b9, b10⟩ := h2
  have z : ∀ a, 28 ≤ a ∧ a < 56 → ∀ k, X a k = false := fun a ha k => h3 a k ha.1 ha.2
  exact ⟨MI_ag g a1 h1, OU_ag g a2 b1 (z 54 (by decide)), MX_ag g a3 b2 (z 55 (by decide)), ML_ag g a4 ⟨b3, b4, b5⟩ (fun k => ⟨z 40 (by decide) k, z 35 (by decide) k⟩), MP_ag g a5 b6 (fun k => ⟨z 28 (by decide) k, z 29 (by decide) k, z 30 (by decide) k, z 31 (by decide) k, z 32 (by decide) k, z 33 (by decide) k, z 34 (by decide) k⟩), MC_ag g a6 b7 (fun k => ⟨z 35 (by decide) k, z 36 (by decide) k, z 37 (by decide) k, z 38 (by decide) k, z 39 (by decide) k⟩), MS_ag g a7 b8 (fun k => ⟨z 48 (by decide) k, z 49 (by decide) k, z 50 (by decide) k, z 51 (by decide) k⟩) (fun k => ⟨z 46 (by decide) k, z 47 (by decide) k⟩), ME_ag g a8 b9 (fun k => ⟨z 42 (by decide) k, z 43 (by decide) k, z 44 (by decide) k, z 45 (by decide) k⟩), MA_ag g a9 b10 (fun k => ⟨z 52 (by decide) k, z 53 (by decide) k⟩)⟩
theorem ag_M {X : Nat → Nat → Bool} {s s' : eS} (g : ag X s s') (hX : ∀ a k, xM a k = false → X a k = false) : ag xM s s' := ag_mono g hX
set_option maxRecDepth 100000 in
theorem M_closes {s : eS} (h : SH s) {A : aS} (r : RM s A) (hev : (A.2.2 3).length + (A.2.2 2).length ≤ 58) (why : Int32) : ∃ s', mX12_closes 26 why s = some s' ∧ SH s' ∧ ag xM s s' ∧ RM s' (a_close A why) := by
  obtain ⟨a1, a2, a3, a4, a5, a6, ⟨c1, c2, c3, c4⟩, a8, a9⟩ := r
  -- behind the five writes
  have hs5 : ∃ s5, s5 = e_I (e_I (e_I (e_I (e_I s 26 35 0) 26 36 why) 26 45 0) 26 15 (-1)) 26 51 0 := ⟨_, rfl⟩
  obtain ⟨s5, e5⟩ := hs5
  have h5 : SH s5 := by rw [e5]; exact SH_I (SH_I (SH_I (SH_I (SH_I h))))
  have g5 : ag (fun a k => a == 26 && (k == 35 || k == 36 || k == 45 || k == 15 || k == 51)) s s5 := by rw [e5]; exact ag_I (ag_I (ag_I (ag_I (ag_I ag_rf rfl) rfl) rfl) rfl) rfl
  have m5 : ME s5 (A.2.2 3) := ME_ag g5 a8 rfl (fun k => ⟨rfl, rfl, rfl, rfl⟩)
  have f5 : ∀ j d, esF s5 j d = esF s j d := fun j d => esF_ag g5 (fun k => ⟨rfl, rfl, rfl, rfl⟩) (fun k => rfl) d j
  have n5 : sI s5 26 28 = nI (A.2.2 5).length := (g5.2 26 28 rfl).trans c1
  obtain ⟨s6, e6, h6, g6, m6⟩ := M_closes_loop (s0 := s5) (q := A.2.2 3) (n := (A.2.2 5).length) c2 (by rw [f5, c4]; omega) (A.2.2 5).length 100000 s5 (Nat.le_refl _) (by omega) h5 ag_rf (by rw [Nat.sub_self]; exact m5)
  have hs7 : ∃ s7, s7 = e_I (e_I (e_I s6 26 28 0) 26 39 (sI s6 26 38)) 26 42 0 := ⟨_, rfl⟩
  obtain ⟨s7, e7⟩ := hs7
  have g7 : ag (fun a k => a == 26 && (k == 28 || k == 39 || k == 42)) s6 s7 := by rw [e7]; exact ag_I (ag_I (ag_I ag_rf rfl) rfl) rfl
  have G : ag (fun a k => a == 42 || a == 43 || a == 44 || a == 45 || (a == 26 && (k == 23 || k == 35 || k == 36 || k == 45 || k == 15 || k == 51 || k == 28 || k == 39 || k == 42))) s s7 := by
    refine ag_tr (ag_tr (ag_mono g5 ?_) (ag_mono g6 ?_)) (ag_mono g7 ?_) <;>
    · intro a k hx
      simp only [xE1, Bool.or_eq_false_iff, Bool.and_eq_false_iff, beq_eq_false_iff_ne] at hx ⊢
      omega
  refine ⟨s7, ?_, by rw [e7]; exact SH_I (SH_I (SH_I h6)), ag_mono G (fun a k hx => ?_), ?_⟩
  · unfold mX12_closes
    rw [pI_26 h, b1S, pI_26 (SH_I h), b1S, pI_26 (SH_I (SH_I h)), b1S, pI_26 (SH_I (SH_I (SH_I h))), b1S, pI_26 (SH_I (SH_I (SH_I (SH_I h)))), b1S, ← e5, gI_26 h5, b1S, n5, e6, e7]
  · simp only [Bool.and_eq_false_iff, decide_eq_false_iff_not, Bool.not_eq_false', beq_iff_eq] at hx
    have : a < 26 ∨ 58 ≤ a ∨ a = 55 ∨ a = 57 := by omega
    simp only [Bool.or_eq_false_iff, Bool.and_eq_false_iff, beq_eq_false_iff_ne]
    omega
  · refine ⟨?_, ?_, ?_, ?_, ?_, ?_, ?_, ?_, ?_⟩
    · have i5 : MI s5 (ui (ui A 7 0) 8 why) := by
        rw [e5]
        exact MI_no (MI_no (MI_no (MI_set (MI_set a1 (by decide)) (by decide)) (by decide)) (by decide)) (by decide)
      have i6 : MI s6 (ui (ui A 7 0) 8 why) := MI_ag g6 i5 (by decide)
      have h38 : sI s6 26 38 = A.1 16 := i6 16 (by decide)
      rw [e7, h38]
      exact MI_A (MI_set (MI_set (MI_no i6 (by decide)) (by decide)) (by decide)) rfl
    · exact OU_ag G a2 rfl (fun k => rfl)
    · refine ⟨?_, rfl⟩
      rw [g7.2 26 51 rfl, g6.2 26 51 rfl, e5]
      exact rII_eq
    · refine Or.inl ⟨?_, rfl⟩
      rw [g7.2 26 15 rfl, g6.2 26 15 rfl, e5, rII_ne (Or.inr (by decide))]
      exact rII_eq
    · exact MP_ag G a5 rfl (fun k => ⟨rfl, rfl, rfl, rfl, rfl, rfl, rfl⟩)
    · exact MC_ag G a6 rfl (fun k => ⟨rfl, rfl, rfl, rfl, rfl⟩)
    · refine ⟨?_, Nat.zero_le _, rfl, rfl⟩
      rw [e7, rII_ne (Or.inr (by decide)), rII_ne (Or.inr (by decide))]
      exact rII_eq
    · have := ME_ag g7 m6 rfl (fun k => ⟨rfl, rfl, rfl, rfl⟩)
      rw [f5, c4] at this
      exact this
    · refine ⟨?_, Nat.zero_le _, rfl, fun i hi => absurd hi (Nat.not_lt_zero i)⟩
      rw [g7.2 26 45 rfl, g6.2 26 45 rfl, e5, rII_ne (Or.inr (by decide)), rII_ne (Or.inr (by decide))]
      exact rII_eq
