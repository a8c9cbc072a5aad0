/-! ===== the model freezes ===== -/
/-- a point behind a freeze of the kind k -/
def fz (k : Int32) (e : List Int32) : List Int32 := if e.getD 0 0 = 6 then [e.getD 0 0, e.getD 1 0, e.getD 2 0, e.getD 3 0, (if k ≤ 1 then e.getD 4 0 else 0), e.getD 5 0, (if 3 ≤ k then e.getD 6 0 else e.getD 4 0)] else e
def a_freeze (A : aS) (k : Int32) : aS := ui (uq A 0 ((A.2.2 0).map (fz k))) 14 (A.1 14 + (if 3 ≤ k then 0 else 1))
abbrev xFZ : Nat → Nat → Bool := fun a _ => a == 32 || a == 34
set_option maxRecDepth 100000 in
theorem M_freeze_loop (k : Int32) {N : Nat} (hN : N ≤ 24) {s0 : eS} (hc : sI s0 26 1 = nI N) : ∀ (d i m : Nat) (s : eS), i + d = N → d < m → SH s → ag xFZ s0 s → (∀ j, j < i → ptM s j = fz k (ptM s0 j)) → (∀ j, i ≤ j → ptM s j = ptM s0 j) →
    ∃ s', mX12_freezes_2 m 26 k (nI i) s = some (e_I s' 26 19 (sI s0 26 19 + (if 3 ≤ k then 0 else 1))) ∧ SH s' ∧ ag xFZ s0 s' ∧ (∀ j, j < N → ptM s' j = fz k (ptM s0 j)) ∧ ∀ j, N ≤ j → ptM s' j = ptM s0 j := by
  intro d
  induction d with
  | zero =>
    intro i m s hi hm h hg h1 h2
    obtain ⟨m, rfl⟩ : ∃ q, m = q + 1 := ⟨m - 1, by omega⟩
    unfold mX12_freezes_2 mX12_freezes_89
    rw [gI_26 h, b1S, hg.2 26 1 rfl, hc, if_pos (nI_le (by omega) (by omega)), gI_26 h, b1S, hg.2 26 19 rfl]
    refine ⟨s, ?_, h, hg, fun j hj => h1 j (by omega), fun j hj => h2 j (by omega)⟩
    by_cases c : (3 : Int32) ≤ k
    · rw [if_pos c, if_pos c, b1S, pI_26 h, b1S]
    · rw [if_neg c, if_neg c, b1S, pI_26 h, b1S]
  | succ d ih =>
    intro i m s hi hm h hg h1 h2
    obtain ⟨m, rfl⟩ : ∃ q, m = q + 1 := ⟨m - 1, by omega⟩
    have hii : ¬ nI i < 0 ∧ (nI i).toNatClampNeg < 24 := nIc (by omega) (by omega)
    have ci : (nI i).toNatClampNeg = i := nI_clamp (by omega)
    have hp := h2 i (Nat.le_refl i)
    unfold mX12_freezes_2
    rw [gI_26 h, b1S, hg.2 26 1 rfl, hc, if_neg (nI_ge (by omega) (by omega)), gP_26_2 h, b1S, b1S, aI_28 h hii, b1S, ci]
    by_cases c6 : sI s 28 i = 6
    · rw [if_pos c6, gP_26_8 h, b1S]
      -- the two cells
      have key : ∀ x : Int32, x = (if 3 ≤ k then sI s 34 i else sI s 32 i) → ∃ s', mX12_freezes_46 (mX12_freezes_2 m) 26 k (nI i) x (nI i) (some 34) s = some (e_I s' 26 19 (sI s0 26 19 + (if 3 ≤ k then 0 else 1))) ∧ SH s' ∧ ag xFZ s0 s' ∧ (∀ j, j < N → ptM s' j = fz k (ptM s0 j)) ∧ ∀ j, N ≤ j → ptM s' j = ptM s0 j := by
        intro x hx
        have hS1 : SH (e_I s 34 i x) := SH_I h
        have key2 : ∀ y : Int32, y = (if k ≤ 1 then sI s 32 i else 0) → ∃ s', mX12_freezes_67 (mX12_freezes_2 m) 26 k (nI i) y (nI i) (some 32) (e_I s 34 i x) = some (e_I s' 26 19 (sI s0 26 19 + (if 3 ≤ k then 0 else 1))) ∧ SH s' ∧ ag xFZ s0 s' ∧ (∀ j, j < N → ptM s' j = fz k (ptM s0 j)) ∧ ∀ j, N ≤ j → ptM s' j = ptM s0 j := by
          intro y hy
          unfold mX12_freezes_67 mX12_freezes_68
          rw [b1S, sI_32 hS1 hii, b1S, ci, nI_1]
          have oth : ∀ j, j ≠ i → ptM (e_I (e_I s 34 i x) 32 i y) j = ptM s j := fun j hj => by
            unfold ptM
            simp only [rII_ne (Or.inr hj)]
          refine ih (i + 1) m _ (by omega) (by omega) (SH_I hS1) (ag_I (ag_I hg rfl) rfl) (fun j hj => ?_) (fun j hj => ?_)
          · by_cases hji : j = i
            · subst hji
              rw [← hp]
              unfold fz
              rw [if_pos (show (ptM s j).getD 0 0 = 6 from c6)]
              unfold ptM
              rw [rII_ne (Or.inl (by decide)), rII_ne (Or.inl (by decide)), rII_ne (Or.inl (by decide)), rII_ne (Or.inl (by decide)), rII_ne (Or.inl (by decide)), rII_ne (Or.inl (by decide)), rII_ne (Or.inl (by decide)), rII_ne (Or.inl (by decide)), rII_eq, rII_ne (Or.inl (by decide)), rII_ne (Or.inl (by decide)), rII_ne (Or.inl (by decide)), rII_eq, hx, hy]
              rfl
            · rw [oth j hji]
              exact h1 j (by omega)
          · rw [oth j (by omega)]
            exact h2 j (by omega)
        unfold mX12_freezes_46
        rw [b1S, sI_34 h hii, b1S, ci, gP_26_6 hS1, b1S]
        by_cases ck : k ≤ 1
        · rw [if_pos ck, b1S, b1S, aI_32 hS1 hii, b1S, ci, rII_ne (Or.inl (by decide))]
          exact key2 _ (by rw [if_pos ck])
        · rw [if_neg ck]
          exact key2 _ (by rw [if_neg ck])
      by_cases c3 : (3 : Int32) ≤ k
      · rw [if_pos c3, b1S, b1S, aI_34 h hii, b1S, ci]
        obtain ⟨s', e', r'⟩ := key _ (by rw [if_pos c3])
        refine ⟨s', ?_, r'⟩
        rw [if_pos c3] at e' ⊢
        exact e'
      · rw [if_neg c3, gP_26_6 h, b1S, b1S, aI_32 h hii, b1S, ci]
        obtain ⟨s', e', r'⟩ := key _ (by rw [if_neg c3])
        refine ⟨s', ?_, r'⟩
        rw [if_neg c3] at e' ⊢
        exact e'
    · rw [if_neg c6]
      unfold mX12_freezes_68
      rw [nI_1]
      refine ih (i + 1) m s (by omega) (by omega) h hg (fun j hj => ?_) (fun j hj => h2 j (by omega))
      by_cases hji : j = i
      · subst hji
        rw [← hp]
        unfold fz
        rw [if_neg (show ¬ (ptM s j).getD 0 0 = 6 from c6)]
      · exact h1 j (by omega)
theorem M_freezes {s : eS} (h : SH s) {A : aS} (r : RM s A) (k : Int32) : ∃ s', mX12_freezes 26 k s = some s' ∧ SH s' ∧ ag xM s s' ∧ RM s' (a_freeze A k) := by
  obtain ⟨m1, m2, m3⟩ := r.2.2.2.2.1
  obtain ⟨s1, e1, h1, g1, p1, p2⟩ := M_freeze_loop k m2 m1 (A.2.2 0).length 0 100000 s (by omega) (by omega) h ag_rf (fun j hj => absurd hj (Nat.not_lt_zero j)) (fun _ _ => rfl)
  have e14 : sI s 26 19 = A.1 14 := r.1 14 (by decide)
  have G : ag xM s s1 := ag_mono g1 (fun a k hx => by
    simp only [xM, Bool.and_eq_false_iff, decide_eq_false_iff_not, Bool.not_eq_false', beq_iff_eq] at hx
    simp only [xFZ, Bool.or_eq_false_iff, beq_eq_false_iff_ne]
    omega)
  have r1 : RM s1 (uq A 0 ((A.2.2 0).map (fz k))) := RM_pts g1 r (fun a k hx => by
    simp only [xFZ, Bool.or_eq_true, beq_iff_eq] at hx
    omega) ⟨by rw [List.length_map, g1.2 26 1 rfl]; exact m1, by rw [List.length_map]; exact m2, by
      rw [List.length_map, rd_congr p1]
      conv => rhs; rw [← m3.1]
      unfold rd
      rw [List.map_map]
      rfl, fun j hj => by
      rw [List.length_map] at hj
      have z := p2 j hj
      unfold ptM at z
      have z' := m3.2 j hj
      simp only [List.cons.injEq] at z
      rw [z.2.2.2.2.1, z.2.2.2.2.2.1, z.2.2.2.2.2.2.1]
      exact z'⟩
  refine ⟨_, e1, SH_I h1, xM_I G (by decide), ?_⟩
  rw [e14]
  exact RM_set r1 (by decide) (by decide)
theorem W1_freeze {A : aS} (w : W1 A) (k : Int32) : W1 (a_freeze A k) := by
  have := W1_pts w (q := (A.2.2 0).map (fz k)) (List.length_map _)
  obtain ⟨h1, h2, h3, ⟨K, h4⟩, h5, h6, h7⟩ := this
  exact ⟨h1, h2, h3, ⟨K, h4⟩, h5, h6, h7⟩
/-! ===== the model's times ===== -/
def inL (a lo hi : Int64) : Int32 := if lg_cmp a lo < 0 then 0 else if 0 < lg_cmp a hi then 0 else 1
theorem M_in (a lo hi : Int64) (s : eS) : mX12_in a lo hi s = some (inL a lo hi, s) := by
  unfold mX12_in mX12_in_17 mX12_in_18 inL
  split
  · rfl
  · split
    · rfl
    · rfl
def dF (m y : Int32) : Int32 := if m = 2 then (if y - y / 4 * 4 = 0 then 29 else 28) else if m = 4 then 30 else if m = 6 then 30 else if m = 9 then 30 else if m = 11 then 30 else 31
theorem M_daysOf (m y : Int32) (s : eS) : mX12_daysOf m y s = some (dF m y, s) := by
  unfold mX12_daysOf mX12_daysOf_44 mX12_daysOf_51 dF
  split
  · split
    · rfl
    · rfl
  · split
    · rfl
    · split
      · rfl
      · split
        · rfl
        · split
          · rfl
          · rfl
/-- the bytes from 9 on are a time -/
def tmF (F : List Int32) : Int32 := if 60000 ≤ (rb F).getD 9 0 + 256 * (rb F).getD 10 0 then 0 else if 60 ≤ (rb F).getD 11 0 then 0 else if 24 ≤ (rb F).getD 12 0 then 0 else if inL ((rb F).getD 14 0).toInt64 1 12 = 0 then 0 else if 100 ≤ (rb F).getD 15 0 then 0 else if inL ((rb F).getD 13 0).toInt64 1 (dF ((rb F).getD 14 0) ((rb F).getD 15 0)).toInt64 = 0 then 0 else 1
set_option maxRecDepth 100000 in
theorem M_isTime {s : eS} (h : SH s) {F : List Int32} (fr : FR s F) {n : Nat} (f : fullF F n) (hn : 16 ≤ n) : mX12_isTime 26 s = some (tmF F, s) := by
  have q : ∀ (k : Int32) (j : Nat), k = nI j → j < 16 → mX12_at 26 k s = some ((rb F).getD j 0, s) := fun k j hk hj => by rw [hk]; exact M_at h fr f (by omega)
  unfold mX12_isTime mX12_isTime_101 mX12_isTime_102 tmF
  rw [oK_26 h, b1S, q 14 14 rfl (by decide), b2S, oK_26 h, b1S, q 15 15 rfl (by decide), b2S, oK_26 h, b1S, q 9 9 rfl (by decide), b2S, oK_26 h, b1S, q 10 10 rfl (by decide), b2S]
  by_cases c1 : 60000 ≤ (rb F).getD 9 0 + 256 * (rb F).getD 10 0
  · rw [if_pos c1, if_pos c1]; rfl
  · rw [if_neg c1, if_neg c1, oK_26 h, b1S, q 11 11 rfl (by decide), b2S]
    by_cases c2 : 60 ≤ (rb F).getD 11 0
    · rw [if_pos c2, if_pos c2]; rfl
    · rw [if_neg c2, if_neg c2, oK_26 h, b1S, q 12 12 rfl (by decide), b2S]
      by_cases c3 : 24 ≤ (rb F).getD 12 0
      · rw [if_pos c3, if_pos c3]; rfl
      · rw [if_neg c3, if_neg c3, M_in, b2S]
        by_cases c4 : inL ((rb F).getD 14 0).toInt64 1 12 = 0
        · rw [if_pos c4, if_pos c4]; rfl
        · rw [if_neg c4, if_neg c4]
          by_cases c5 : 100 ≤ (rb F).getD 15 0
          · rw [if_pos c5, if_pos c5]; rfl
          · rw [if_neg c5, if_neg c5, oK_26 h, b1S, q 13 13 rfl (by decide), b2S, M_daysOf, b2S, M_in, b2S]
            by_cases c6 : inL ((rb F).getD 13 0).toInt64 1 (dF ((rb F).getD 14 0) ((rb F).getD 15 0)).toInt64 = 0
            · rw [if_pos c6, if_pos c6]; rfl
            · rw [if_neg c6, if_neg c6]; rfl
theorem RM_clk {s : eS} {A : aS} (r : RM s A) {k : Nat} (hk : k < 6) (x : Int32) : RM (e_I s 41 k x) (ui A (19 + k) x) := by
  obtain ⟨a1, a2, a3, a4, a5, a6, a7, a8, a9⟩ := r
  have g : ag (fun a _ => a == 41) s (e_I s 41 k x) := ag_I ag_rf rfl
  have hj : ∀ k, k < 6 → ∀ i, i < 26 → (mc i = (41, k) ↔ i = 19 + k) := by decide
  exact ⟨MI_set a1 (hj k hk), OU_ag g a2 rfl (fun k => rfl), MX_ag g a3 rfl (fun k => rfl), ML_ag g a4 ⟨rfl, rfl, rfl⟩ (fun k => ⟨rfl, rfl⟩), MP_ag g a5 rfl (fun k => ⟨rfl, rfl, rfl, rfl, rfl, rfl, rfl⟩), MC_ag g a6 rfl (fun k => ⟨rfl, rfl, rfl, rfl, rfl⟩), MS_ag g a7 rfl (fun k => ⟨rfl, rfl, rfl, rfl⟩) (fun k => ⟨rfl, rfl⟩), ME_ag g a8 rfl (fun k => ⟨rfl, rfl, rfl, rfl⟩), MA_ag g a9 rfl (fun k => ⟨rfl, rfl⟩)⟩
/-- the clock becomes what came -/
def a_clk (A : aS) (F : List Int32) : aS := ui (ui (ui (ui (ui (ui (ui A 19 ((rb F).getD 9 0 + 256 * (rb F).getD 10 0)) 20 ((rb F).getD 11 0)) 21 ((rb F).getD 12 0)) 22 ((rb F).getD 13 0)) 23 ((rb F).getD 14 0)) 24 ((rb F).getD 15 0)) 25 1
theorem M_clk_step {s : eS} (h : SH s) {F : List Int32} (fr : FR s F) {n : Nat} (f : fullF F n) (hn : 16 ≤ n) {i : Nat} (hi : i < 6) (m : Nat) : mX12_asked_284 (m + 1) 26 (nI i) s = mX12_asked_284 m 26 (nI (i + 1)) (e_I s 41 i ((rb F).getD (10 + i) 0)) := by
  conv => lhs; unfold mX12_asked_284
  rw [if_neg (show ¬ (6 : Int32) ≤ nI i from nI_ge (b := 6) hi (by decide)), gP_26_21 h, b1S, oK_26 h, b1S, show (10 : Int32) + nI i = nI (10 + i) from nI_add 10 i, M_at h fr f (by omega), b2S, b1S, sI_41 h (nIc (by omega) hi), b1S, nI_clamp (by omega), nI_1]
theorem M_clk {s : eS} (h : SH s) {A : aS} (r : RM s A) {F : List Int32} (fr : FR s F) {n : Nat} (f : fullF F n) (hn : 16 ≤ n) (m : Nat) : ∃ s', mX12_asked_284 (m + 6) 26 (nI 1) (e_I s 41 0 ((rb F).getD 9 0 + 256 * (rb F).getD 10 0)) = some s' ∧ SH s' ∧ ag xM s s' ∧ RM s' (a_clk A F) := by
  have g : ∀ (s : eS) (k : Nat) (x : Int32), ag xM s (e_I s 41 k x) := fun s k x => xM_I ag_rf (by decide)
  have F0 := FR_M (g s 0 ((rb F).getD 9 0 + 256 * (rb F).getD 10 0)) fr
  have F1 := FR_M (g _ 1 ((rb F).getD (10 + 1) 0)) F0
  have F2 := FR_M (g _ 2 ((rb F).getD (10 + 2) 0)) F1
  have F3 := FR_M (g _ 3 ((rb F).getD (10 + 3) 0)) F2
  have F4 := FR_M (g _ 4 ((rb F).getD (10 + 4) 0)) F3
  have F5 := FR_M (g _ 5 ((rb F).getD (10 + 5) 0)) F4
  have H : ∀ {s : eS} {k : Nat} {x : Int32}, SH s → SH (e_I s 41 k x) := fun h => SH_I h
  rw [show m + 6 = m + 1 + 1 + 1 + 1 + 1 + 1 from rfl, M_clk_step (H h) F0 f hn (by decide), M_clk_step (H (H h)) F1 f hn (by decide), M_clk_step (H (H (H h))) F2 f hn (by decide), M_clk_step (H (H (H (H h)))) F3 f hn (by decide), M_clk_step (H (H (H (H (H h))))) F4 f hn (by decide)]
  unfold mX12_asked_284 mX12_asked_318 mX12_asked_355
  rw [if_pos (show (6 : Int32) ≤ nI (1 + 1 + 1 + 1 + 1 + 1) by decide), pZ_26 (H (H (H (H (H (H h)))))) (Or.inr rfl), b1S]
  exact ⟨_, rfl, SH_I (H (H (H (H (H (H h)))))), xM_I (xM_I (xM_I (xM_I (xM_I (xM_I (xM_I ag_rf (by decide)) (by decide)) (by decide)) (by decide)) (by decide)) (by decide)) (by decide), RM_set (RM_clk (RM_clk (RM_clk (RM_clk (RM_clk (RM_clk r (k := 0) (by decide) _) (k := 1) (by decide) _) (k := 2) (by decide) _) (k := 3) (by decide) _) (k := 4) (by decide) _) (k := 5) (by decide) _) (by decide) (by decide)⟩
