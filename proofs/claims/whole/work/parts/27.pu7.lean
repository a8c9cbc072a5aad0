/-! ===== the model's answers ===== -/
theorem nI_mul249 (i k : Nat) : (249 : Int32) * nI i + nI k = nI (249 * i + k) := by
  rw [show (249 : Int32) = nI 249 from rfl, pk_mul, nI_add]
set_option maxRecDepth 100000 in
theorem M_fag_in (k12 : Nat → Int32 → eS → Option eS) {a n : Nat} (ha : a + 1 < 60) (hn : n ≤ 249) {s0 : eS} (h52 : sI s0 52 a = nI n) : ∀ (d k m : Nat) (s : eS), k + d = n → d < m → SH s → ag (fun a _ => a == 53) s0 s → (∀ i, i < k → sI s 53 (249 * a + i) = sI s0 53 (249 * (a + 1) + i)) → (∀ j, (j < 249 * a ∨ 249 * a + k ≤ j) → sI s 53 j = sI s0 53 j) →
    ∃ s', mX12_firstAnswerGoes_36 k12 m 26 (nI a) (nI k) s = k12 26 (nI (a + 1)) s' ∧ SH s' ∧ ag (fun a _ => a == 53) s0 s' ∧ (∀ i, i < n → sI s' 53 (249 * a + i) = sI s0 53 (249 * (a + 1) + i)) ∧ ∀ j, (j < 249 * a ∨ 249 * a + n ≤ j) → sI s' 53 j = sI s0 53 j := by
  intro d
  have hia : ¬ nI a < 0 ∧ (nI a).toNatClampNeg < 60 := nIc (by omega) (by omega)
  have ca : (nI a).toNatClampNeg = a := nI_clamp (by omega)
  induction d with
  | zero =>
    intro k m s hk hm h hg hd ho
    obtain ⟨m, rfl⟩ : ∃ q, m = q + 1 := ⟨m - 1, by omega⟩
    unfold mX12_firstAnswerGoes_36
    rw [gP_26_46 h, b1S, b1S, aI_52 h hia, b1S, ca, hg.2 52 a rfl, h52, if_pos (nI_le (by omega) (by omega)), nI_1]
    rw [show k = n by omega] at hd ho
    exact ⟨s, rfl, h, hg, hd, ho⟩
  | succ d ih =>
    intro k m s hk hm h hg hd ho
    obtain ⟨m, rfl⟩ : ∃ q, m = q + 1 := ⟨m - 1, by omega⟩
    have hi1 : ¬ nI (249 * (a + 1) + k) < 0 ∧ (nI (249 * (a + 1) + k)).toNatClampNeg < 14940 := nIc (by omega) (by omega)
    have hi2 : ¬ nI (249 * a + k) < 0 ∧ (nI (249 * a + k)).toNatClampNeg < 14940 := nIc (by omega) (by omega)
    unfold mX12_firstAnswerGoes_36
    rw [gP_26_46 h, b1S, b1S, aI_52 h hia, b1S, ca, hg.2 52 a rfl, h52, if_neg (nI_ge (by omega) (by omega)), gP_26_47 h, b1S, b1S, b1S, nI_1, nI_mul249, nI_mul249, aI_53 h hi1, b1S, b1S, sI_53 h hi2, b1S, nI_clamp (by omega), nI_clamp (by omega), nI_1]
    rw [ho _ (by omega)]
    refine ih (k + 1) m _ (by omega) (by omega) (SH_I h) (ag_I hg rfl) (fun i hi => ?_) (fun j hj => ?_)
    · by_cases hik : i = k
      · subst hik; exact rII_eq
      · rw [rII_ne (Or.inr (by omega))]; exact hd i (by omega)
    · rw [rII_ne (Or.inr (by omega))]; exact ho j (by omega)
abbrev xAN : Nat → Nat → Bool := fun a k => a == 52 || a == 53 || (a == 26 && k == 45)
set_option maxRecDepth 100000 in
theorem M_fag_out {N : Nat} (hN : N < 60) {s0 : eS} (hc : sI s0 26 45 = nI N) (hz : ∀ i, i < N → ∃ n, n ≤ 249 ∧ sI s0 52 (i + 1) = nI n) : ∀ (d a m : Nat) (s : eS), a + d = N → d < m → SH s → ag xAN s0 s → sI s 26 45 = nI N → (∀ i, i < a → sI s 52 i = sI s0 52 (i + 1) ∧ anM s i = anM s0 (i + 1)) → (∀ i, a ≤ i → sI s 52 i = sI s0 52 i) → (∀ j, 249 * a ≤ j → sI s 53 j = sI s0 53 j) →
    ∃ s', mX12_firstAnswerGoes_12 m 26 (nI a) s = some s' ∧ SH s' ∧ ag xAN s0 s' ∧ sI s' 26 45 = nI N ∧ ∀ i, i < N → sI s' 52 i = sI s0 52 (i + 1) ∧ anM s' i = anM s0 (i + 1) := by
  intro d
  induction d with
  | zero =>
    intro a m s hk hm h hg h45 hd h52 h53
    obtain ⟨m, rfl⟩ : ∃ q, m = q + 1 := ⟨m - 1, by omega⟩
    unfold mX12_firstAnswerGoes_12
    rw [gI_26 h, b1S, h45, if_pos (nI_le (by omega) (by omega))]
    rw [show a = N by omega] at hd
    exact ⟨s, rfl, h, hg, h45, hd⟩
  | succ d ih =>
    intro a m s hk hm h hg h45 hd h52 h53
    obtain ⟨m, rfl⟩ : ∃ q, m = q + 1 := ⟨m - 1, by omega⟩
    obtain ⟨n, hn, en⟩ := hz a (by omega)
    have hia : ¬ nI a < 0 ∧ (nI a).toNatClampNeg < 60 := nIc (by omega) (by omega)
    have hib : ¬ nI (a + 1) < 0 ∧ (nI (a + 1)).toNatClampNeg < 60 := nIc (by omega) (by omega)
    have e1 : sI s 52 (a + 1) = nI n := (h52 (a + 1) (by omega)).trans en
    have h1 : SH (e_I s 52 a (nI n)) := SH_I h
    obtain ⟨s2, e2, h2, g2, d2, o2⟩ := M_fag_in (mX12_firstAnswerGoes_12 m) (a := a) (n := n) (by omega) hn (s0 := e_I s 52 a (nI n)) rII_eq n 0 100000 _ (by omega) (by omega) h1 ag_rf (fun i hi => absurd hi (Nat.not_lt_zero i)) (fun _ _ => rfl)
    unfold mX12_firstAnswerGoes_12
    rw [gI_26 h, b1S, h45, if_neg (nI_ge (by omega) (by omega)), gP_26_46 h, b1S, b1S, b1S, nI_1, aI_52 h hib, b1S, b1S, nI_clamp (by omega), e1, sI_52 h hia, b1S, nI_clamp (by omega)]
    rw [show mX12_firstAnswerGoes_36 (mX12_firstAnswerGoes_12 m) 100000 26 (nI a) 0 (e_I s 52 a (nI n)) = _ from e2]
    have e52 : ∀ i, sI s2 52 i = if i = a then nI n else sI s 52 i := fun i => by
      rw [g2.2 52 i rfl, rII, if_pos rfl]
    have e53 : ∀ j, sI (e_I s 52 a (nI n)) 53 j = sI s 53 j := fun j => rII_ne (Or.inl (by decide))
    refine ih (a + 1) m s2 (by omega) (by omega) h2 ?_ ((g2.2 26 45 rfl).trans ((rII_ne (Or.inl (by decide))).trans h45)) (fun i hi => ?_) (fun i hi => ?_) (fun j hj => ?_)
    · refine ag_tr (ag_I hg rfl) (ag_mono g2 (fun a k hx => ?_))
      simp only [xAN, Bool.or_eq_false_iff, Bool.and_eq_false_iff, beq_eq_false_iff_ne] at hx ⊢
      omega
    · by_cases hia : i = a
      · subst hia
        have q1 : sI s2 52 i = nI n := by rw [e52, if_pos rfl]
        refine ⟨q1.trans en.symm, ?_⟩
        unfold anM
        rw [q1, en]
        apply rd_congr
        intro k hk
        rw [nI_clamp (by omega)] at hk
        rw [d2 k hk, e53]
        exact h53 _ (by omega)
      · have hlt : i < a := by omega
        have q1 : sI s2 52 i = sI s 52 i := by rw [e52, if_neg hia]
        obtain ⟨w1, w2⟩ := hd i hlt
        refine ⟨q1.trans w1, ?_⟩
        rw [← w2]
        unfold anM
        rw [q1]
        apply rd_congr
        intro k hk
        obtain ⟨n', hn', en'⟩ := hz i (by omega)
        rw [w1, en', nI_clamp (by omega)] at hk
        rw [o2 _ (by omega), e53]
    · rw [e52, if_neg (by omega)]; exact h52 i (by omega)
    · rw [o2 _ (by omega), e53]; exact h53 j (by omega)
set_option maxRecDepth 100000 in
theorem M_firstAnswerGoes {s : eS} (h : SH s) {x : List Int32} {q : List (List Int32)} (hq : MA s (x :: q)) : ∃ s', mX12_firstAnswerGoes 26 s = some s' ∧ SH s' ∧ ag xAN s s' ∧ MA s' q := by
  obtain ⟨h1, h2, h3, h4⟩ := hq
  have hl : (x :: q).length = q.length + 1 := rfl
  rw [hl] at h1 h2 h3 h4
  have hs : SH (e_I s 26 45 (nI q.length)) := SH_I h
  have e52 : ∀ i, sI (e_I s 26 45 (nI q.length)) 52 i = sI s 52 i := fun i => rII_ne (Or.inl (by decide))
  have ean : ∀ i, anM (e_I s 26 45 (nI q.length)) i = anM s i := fun i => by
    unfold anM
    rw [e52]
    exact rd_congr (fun k _ => rII_ne (Or.inl (by decide)))
  obtain ⟨s', e, hh, g, c, d⟩ := M_fag_out (N := q.length) (by omega) (s0 := e_I s 26 45 (nI q.length)) rII_eq (fun i hi => by rw [e52]; exact h4 (i + 1) (by omega)) q.length 0 100000 _ (by omega) (by omega) hs ag_rf rII_eq (fun i hi => absurd hi (Nat.not_lt_zero i)) (fun _ _ => rfl) (fun _ _ => rfl)
  refine ⟨s', ?_, hh, ag_tr (ag_I ag_rf rfl) g, c, by omega, ?_, fun i hi => ?_⟩
  · unfold mX12_firstAnswerGoes
    rw [gI_26 h, b1S, h1, nI_pred, pI_26 h, b1S]
    exact e
  · rw [rd_congr (g := fun i => anM s (i + 1)) (fun i hi => by rw [(d i hi).2, ean])]
    rw [rd_cons] at h3
    exact (List.cons.inj h3).2
  · rw [(d i hi).1, e52]
    exact h4 (i + 1) (by omega)
set_option maxRecDepth 100000 in
/-- an answer becomes the draft -/
theorem M_draft_loop (k0 : Nat → eS → Option eS) {x : List Int32} (hx : x.length ≤ 249) {s0 : eS} (hr : rd (sI s0 53) x.length = x) : ∀ (d k m : Nat) (s : eS), k + d = x.length → d < m → SH s → ag (fun a _ => a == 56) s0 s → sI s 26 53 = nI x.length → rd (sI s 56) k = x.take k →
    ∃ s' m', mX12_sends_54 k0 m 26 (nI k) s = mX12_sends_54 k0 (m' + 1) 26 (nI x.length) s' ∧ SH s' ∧ ag (fun a _ => a == 56) s0 s' ∧ DR s' x := by
  intro d
  induction d with
  | zero =>
    intro k m s hk hm h hg hd ho
    obtain ⟨m, rfl⟩ : ∃ q, m = q + 1 := ⟨m - 1, by omega⟩
    rw [show k = x.length by omega] at ho ⊢
    rw [List.take_length] at ho
    exact ⟨s, m, rfl, h, hg, hd, ho⟩
  | succ d ih =>
    intro k m s hk hm h hg hd ho
    obtain ⟨m, rfl⟩ : ∃ q, m = q + 1 := ⟨m - 1, by omega⟩
    have hk2 : k < x.length := by omega
    have hi1 : ¬ nI k < 0 ∧ (nI k).toNatClampNeg < 14940 := nIc (by omega) (by omega)
    have hi2 : ¬ nI k < 0 ∧ (nI k).toNatClampNeg < 260 := nIc (by omega) (by omega)
    have hv : x[k]? = some (sI s0 53 k) := by have := rd_get (sI s0 53) hk2; rw [hr] at this; exact this
    obtain ⟨s', m', e, r⟩ := ih (k + 1) m (e_I s 56 k (sI s0 53 k)) (by omega) (by omega) (SH_I h) (ag_I hg rfl) ((rII_ne (Or.inl (by decide))).trans hd) (by
      rw [rd_succ, rII_eq, List.take_add_one, hv, ← ho]
      congr 1
      exact rd_congr (fun i hi => rII_ne (Or.inr (by omega))))
    refine ⟨s', m', ?_, r⟩
    rw [← e]
    conv => lhs; unfold mX12_sends_54
    rw [gI_26 h, b1S, hd, if_neg (nI_ge (by omega) (by omega)), gP_26_52 h, b1S, gP_26_47 h, b1S, b1S, aI_53 h hi1, b1S, b1S, nI_clamp (by omega), hg.2 53 k rfl, sI_56 h hi2, b1S, nI_clamp (by omega), nI_1]
