/-! ===== the model acknowledges ===== -/
def W2 (A : aS) : Prop := ∀ e ∈ A.2.2 5, e.getD 1 0 = 0 ∨ e.getD 1 0 = 1
theorem nI_7sub {i m k : Nat} (h : m ≤ i) : (7 : Int32) * (nI i - nI m) + nI k = nI (7 * (i - m) + k) := by rw [pk_sub h, nI_mul7]
set_option maxRecDepth 100000 in
theorem M_ack_in (k61 : Nat → Int32 → Int32 → eS → Option (Int32 × eS)) {i m : Nat} (hi : i < 12) (hm : m ≤ i) {s0 : eS} : ∀ (d k f : Nat) (s : eS), k + d = 7 → d < f → SH s → ag (fun a _ => a == 51) s0 s → (∀ j, j < k → sI s 51 (7 * (i - m) + j) = sI s0 51 (7 * i + j)) → (∀ j, (j < 7 * (i - m) ∨ 7 * (i - m) + k ≤ j) → sI s 51 j = sI s0 51 j) →
    ∃ s', mX12_acknowledges_153 k61 f 26 (nI m) (nI i) (nI k) s = k61 26 (nI m) (nI (i + 1)) s' ∧ SH s' ∧ ag (fun a _ => a == 51) s0 s' ∧ (∀ j, j < 7 → sI s' 51 (7 * (i - m) + j) = sI s0 51 (7 * i + j)) ∧ ∀ j, (j < 7 * (i - m) ∨ 7 * (i - m) + 7 ≤ j) → sI s' 51 j = sI s0 51 j := by
  intro d
  induction d with
  | zero =>
    intro k f s hk hf h hg hd ho
    obtain ⟨f, rfl⟩ : ∃ q, f = q + 1 := ⟨f - 1, by omega⟩
    unfold mX12_acknowledges_153
    rw [if_pos (nLe (n := 7) (c := 7) rfl (by omega) (by omega)), nI_1]
    rw [show k = 7 by omega] at hd ho
    exact ⟨s, rfl, h, hg, hd, ho⟩
  | succ d ih =>
    intro k f s hk hf h hg hd ho
    obtain ⟨f, rfl⟩ : ∃ q, f = q + 1 := ⟨f - 1, by omega⟩
    have hi1 : ¬ nI (7 * i + k) < 0 ∧ (nI (7 * i + k)).toNatClampNeg < 84 := nIc (by omega) (by omega)
    have hi2 : ¬ nI (7 * (i - m) + k) < 0 ∧ (nI (7 * (i - m) + k)).toNatClampNeg < 84 := nIc (by omega) (by omega)
    unfold mX12_acknowledges_153
    rw [if_neg (nGt (n := 7) (c := 7) rfl (by omega) (by decide)), gP_26_34 h, b1S, b1S, b1S, nI_mul7, nI_7sub hm, aI_51 h hi1, b1S, b1S, sI_51 h hi2, b1S, nI_clamp (by omega), nI_clamp (by omega), nI_1]
    have hv : sI s 51 (7 * i + k) = sI s0 51 (7 * i + k) := ho _ (by omega)
    rw [hv]
    refine ih (k + 1) f _ (by omega) (by omega) (SH_I h) (ag_I hg rfl) (fun j hj => ?_) (fun j hj => ?_)
    · by_cases hjk : j = k
      · subst hjk; exact rII_eq
      · rw [rII_ne (Or.inr (by omega))]; exact hd j (by omega)
    · rw [rII_ne (Or.inr (by omega))]; exact ho j (by omega)
abbrev xAK : Nat → Nat → Bool := fun a _ => a == 46 || a == 47 || a == 48 || a == 49 || a == 50 || a == 51
def seM (s : eS) (i : Nat) : List Int32 × List Int32 := (snM s i, esM s i)
set_option maxRecDepth 100000 in
theorem M_ack_loop {n m : Nat} (hn : n ≤ 12) {s0 : eS} (hb : ∀ i, i < n → sI s0 47 i = 0 ∨ sI s0 47 i = 1) : ∀ (d i f : Nat) (s : eS), m ≤ i → i + d = n → d < f → SH s → ag xAK s0 s → sI s 26 28 = nI n → (∀ j, j < i - m → seM s j = seM s0 (j + m)) → (∀ j, i - m ≤ j → seM s j = seM s0 j) →
    ∃ s', mX12_acknowledges_61 f 26 (nI m) (nI i) s = some (1, e_I s' 26 28 (nI (n - m))) ∧ SH s' ∧ ag xAK s0 s' ∧ ∀ j, j < n - m → seM s' j = seM s0 (j + m) := by
  intro d
  induction d with
  | zero =>
    intro i f s hmi hid hf h hg hc hd ho
    obtain ⟨f, rfl⟩ : ∃ q, f = q + 1 := ⟨f - 1, by omega⟩
    unfold mX12_acknowledges_61
    rw [gI_26 h, b1S, hc, if_pos (nI_le (by omega) (by omega)), b1S, pk_sub (by omega), pI_26 h, b1S, oZ1, b1S]
    rw [show i = n by omega] at hd
    exact ⟨s, rfl, h, hg, hd⟩
  | succ d ih =>
    intro i f s hmi hid hf h hg hc hd ho
    obtain ⟨f, rfl⟩ : ∃ q, f = q + 1 := ⟨f - 1, by omega⟩
    have hii : ¬ nI i < 0 ∧ (nI i).toNatClampNeg < 12 := nIc (by omega) (by omega)
    have hij : ¬ nI (i - m) < 0 ∧ (nI (i - m)).toNatClampNeg < 12 := nIc (by omega) (by omega)
    have ci : (nI i).toNatClampNeg = i := nI_clamp (by omega)
    have cj : (nI (i - m)).toNatClampNeg = i - m := nI_clamp (by omega)
    have es : nI i - nI m = nI (i - m) := pk_sub hmi
    have oi := ho i (by omega)
    have o46 : sI s 46 i = sI s0 46 i := (List.cons.inj (congrArg Prod.fst oi)).1
    have o47 : sI s 47 i = sI s0 47 i := (List.cons.inj (List.cons.inj (congrArg Prod.fst oi)).2).1
    have o47b : sI s 47 i &&& 1 = sI s 47 i := by
      rw [o47]
      rcases hb i (by omega) with z | z <;> rw [z] <;> decide
    have h1 : SH (e_I s 46 (i - m) (sI s 46 i)) := SH_I h
    have h2 : SH (e_I (e_I s 46 (i - m) (sI s 46 i)) 47 (i - m) (sI s 47 i)) := SH_I h1
    have h3 : SH (e_I (e_I (e_I s 46 (i - m) (sI s 46 i)) 47 (i - m) (sI s 47 i)) 48 (i - m) (sI s 48 i)) := SH_I h2
    have h4 : SH (e_I (e_I (e_I (e_I s 46 (i - m) (sI s 46 i)) 47 (i - m) (sI s 47 i)) 48 (i - m) (sI s 48 i)) 49 (i - m) (sI s 49 i)) := SH_I h3
    have h5 : SH (e_I (e_I (e_I (e_I (e_I s 46 (i - m) (sI s 46 i)) 47 (i - m) (sI s 47 i)) 48 (i - m) (sI s 48 i)) 49 (i - m) (sI s 49 i)) 50 (i - m) (sI s 50 i)) := SH_I h4
    obtain ⟨s6, e6, h6, g6, d6, o6⟩ := M_ack_in (mX12_acknowledges_61 f) (i := i) (m := m) (by omega) hmi (s0 := e_I (e_I (e_I (e_I (e_I s 46 (i - m) (sI s 46 i)) 47 (i - m) (sI s 47 i)) 48 (i - m) (sI s 48 i)) 49 (i - m) (sI s 49 i)) 50 (i - m) (sI s 50 i)) 7 0 100000 _ (by omega) (by omega) h5 ag_rf (fun j hj => absurd hj (Nat.not_lt_zero j)) (fun _ _ => rfl)
    have G5 : ag xAK s (e_I (e_I (e_I (e_I (e_I s 46 (i - m) (sI s 46 i)) 47 (i - m) (sI s 47 i)) 48 (i - m) (sI s 48 i)) 49 (i - m) (sI s 49 i)) 50 (i - m) (sI s 50 i)) := ag_I (ag_I (ag_I (ag_I (ag_I ag_rf rfl) rfl) rfl) rfl) rfl
    have G6 : ag xAK s s6 := ag_tr G5 (ag_mono g6 (fun a k hx => by
      simp only [xAK, Bool.or_eq_false_iff, beq_eq_false_iff_ne] at hx ⊢
      omega))
    have o51 : ∀ j, sI (e_I (e_I (e_I (e_I (e_I s 46 (i - m) (sI s 46 i)) 47 (i - m) (sI s 47 i)) 48 (i - m) (sI s 48 i)) 49 (i - m) (sI s 49 i)) 50 (i - m) (sI s 50 i)) 51 j = sI s 51 j := fun j => by rw [rII_ne (Or.inl (by decide)), rII_ne (Or.inl (by decide)), rII_ne (Or.inl (by decide)), rII_ne (Or.inl (by decide)), rII_ne (Or.inl (by decide))]
    -- what the entries are now
    have new : seM s6 (i - m) = seM s i := by
      unfold seM snM esM
      rw [g6.2 46 _ rfl, g6.2 47 _ rfl, g6.2 48 _ rfl, g6.2 49 _ rfl, g6.2 50 _ rfl]
      rw [show rd (fun k => sI s6 51 (7 * (i - m) + k)) 7 = rd (fun k => sI s 51 (7 * i + k)) 7 from rd_congr (fun k hk => by rw [d6 k hk, o51])]
      rw [rII_ne (Or.inl (by decide)), rII_ne (Or.inl (by decide)), rII_ne (Or.inl (by decide)), rII_ne (Or.inl (by decide)), rII_eq, rII_ne (Or.inl (by decide)), rII_ne (Or.inl (by decide)), rII_ne (Or.inl (by decide)), rII_eq, rII_ne (Or.inl (by decide)), rII_ne (Or.inl (by decide)), rII_eq, rII_ne (Or.inl (by decide)), rII_eq, rII_eq]
    have old : ∀ j, j ≠ i - m → seM s6 j = seM s j := by
      intro j hj
      unfold seM snM esM
      rw [g6.2 46 _ rfl, g6.2 47 _ rfl, g6.2 48 _ rfl, g6.2 49 _ rfl, g6.2 50 _ rfl]
      rw [show rd (fun k => sI s6 51 (7 * j + k)) 7 = rd (fun k => sI s 51 (7 * j + k)) 7 from rd_congr (fun k hk => by rw [o6 _ (by omega), o51])]
      rw [rII_ne (Or.inl (by decide)), rII_ne (Or.inl (by decide)), rII_ne (Or.inl (by decide)), rII_ne (Or.inl (by decide)), rII_ne (Or.inr hj), rII_ne (Or.inl (by decide)), rII_ne (Or.inl (by decide)), rII_ne (Or.inl (by decide)), rII_ne (Or.inr hj), rII_ne (Or.inl (by decide)), rII_ne (Or.inl (by decide)), rII_ne (Or.inl (by decide)), rII_ne (Or.inr hj), rII_ne (Or.inl (by decide)), rII_ne (Or.inl (by decide)), rII_ne (Or.inl (by decide)), rII_ne (Or.inr hj), rII_ne (Or.inl (by decide)), rII_ne (Or.inl (by decide)), rII_ne (Or.inl (by decide)), rII_ne (Or.inr hj), rII_ne (Or.inl (by decide)), rII_ne (Or.inl (by decide)), rII_ne (Or.inl (by decide)), rII_ne (Or.inl (by decide))]
    have nx := ih (i + 1) f s6 (by omega) (by omega) (by omega) h6 (ag_tr hg G6) ((G6.2 26 28 rfl).trans hc) (fun j hj => by
      by_cases hji : j = i - m
      · subst hji
        rw [new, oi, show i - m + m = i by omega]
      · rw [old j hji]; exact hd j (by omega)) (fun j hj => by
      rw [old j (by omega)]; exact ho j (by omega))
    obtain ⟨s', e', r'⟩ := nx
    refine ⟨s', ?_, r'⟩
    rw [← e']
    conv => lhs; unfold mX12_acknowledges_61
    rw [gI_26 h, b1S, hc, if_neg (nI_ge (by omega) (by omega)), gP_26_29 h, b1S, b1S, b1S, aI_46 h hii, b1S, b1S, ci, es, sI_46 h hij, b1S, cj]
    rw [gP_26_30 h1, b1S, b1S, b1S, aI_47 h1 hii, b1S, b1S, ci, rII_ne (Or.inl (by decide)), sZ_47 h1 hij, b1S, cj, o47b]
    rw [gP_26_31 h2, b1S, b1S, b1S, aI_48 h2 hii, b1S, b1S, ci, rII_ne (Or.inl (by decide)), rII_ne (Or.inl (by decide)), sI_48 h2 hij, b1S, cj]
    rw [gP_26_32 h3, b1S, b1S, b1S, aI_49 h3 hii, b1S, b1S, ci, rII_ne (Or.inl (by decide)), rII_ne (Or.inl (by decide)), rII_ne (Or.inl (by decide)), sI_49 h3 hij, b1S, cj]
    rw [gP_26_33 h4, b1S, b1S, b1S, aI_50 h4 hii, b1S, b1S, ci, rII_ne (Or.inl (by decide)), rII_ne (Or.inl (by decide)), rII_ne (Or.inl (by decide)), rII_ne (Or.inl (by decide)), sI_50 h4 hij, b1S, cj]
    exact e6
/-- how many events went with the first m frames -/
def evN (q : List (List Int32)) (m : Nat) : Nat := ((q.take m).filter (fun e => !(e.getD 1 0 == 0))).length
def a_ack (A : aS) (many : Int32) : Int32 × aS := if many ≤ nI (A.2.2 5).length then (1, uq (uq A 5 ((A.2.2 5).drop many.toNatClampNeg)) 2 ((A.2.2 2).drop (evN (A.2.2 5) many.toNatClampNeg))) else (0, a_close A 3)
theorem esF_split (s : eS) : ∀ (m d j : Nat), esF s j (m + d) = esF s j m ++ esF s (j + m) d
  | 0, d, j => by simp [esF]
  | m + 1, d, j => by
    rw [show m + 1 + d = (m + d) + 1 by omega]
    show _ ++ esF s (j + 1) (m + d) = _
    rw [esF_split s m d (j + 1)]
    show _ = (_ ++ esF s (j + 1) m) ++ _
    rw [List.append_assoc, show j + 1 + m = j + (m + 1) by omega]
theorem esF_count (s : eS) : ∀ (m : Nat), (esF s 0 m).length = ((rd (snM s) m).filter (fun e => !(e.getD 1 0 == 0))).length
  | 0 => rfl
  | m + 1 => by
    rw [esF_snoc, rd_succ, List.length_append, List.filter_append, List.length_append, esF_count s m, Nat.zero_add]
    congr 1
    by_cases c : sI s 47 m = 0
    · rw [if_pos c, List.filter_cons_of_neg (by show ¬ (!((snM s m).getD 1 0 == 0)) = true; rw [show (snM s m).getD 1 0 = 0 from c]; decide)]
      rfl
    · rw [if_neg c, List.filter_cons_of_pos (by show (!((snM s m).getD 1 0 == 0)) = true; rw [beq_eq_false_iff_ne.mpr (show (snM s m).getD 1 0 ≠ 0 from c)]; rfl)]
      rfl
theorem rd_take {α : Type} (f : Nat → α) {n m : Nat} (h : m ≤ n) : (rd f n).take m = rd f m := by
  rw [show n = m + (n - m) by omega, rd_app, List.take_append_of_le_length (by rw [rd_len]; exact Nat.le_refl _), List.take_of_length_le (by rw [rd_len]; exact Nat.le_refl _)]
theorem esF_shift {s s' : eS} {m : Nat} : ∀ (d j : Nat), (∀ i, j ≤ i → i < j + d → seM s' i = seM s (i + m)) → esF s' j d = esF s (j + m) d
  | 0, _, _ => rfl
  | d + 1, j, h => by
    have h0 := h j (Nat.le_refl _) (by omega)
    have e1 : sI s' 47 j = sI s 47 (j + m) := (List.cons.inj (List.cons.inj (congrArg Prod.fst h0)).2).1
    have e2 : esM s' j = esM s (j + m) := congrArg Prod.snd h0
    show (if sI s' 47 j = 0 then [] else [esM s' j]) ++ esF s' (j + 1) d = (if sI s 47 (j + m) = 0 then [] else [esM s (j + m)]) ++ esF s (j + m + 1) d
    rw [e1, e2, esF_shift d (j + 1) (fun i hi hj => h i (by omega) (by omega)), show j + 1 + m = j + m + 1 by omega]
set_option maxRecDepth 100000 in
theorem M_acknowledges {s : eS} (h : SH s) {A : aS} (r : RM s A) (w : W1 A) (w2 : W2 A) {a4 a5 : Int32} (e4 : sI s 55 4 = a4) (e5 : sI s 55 5 = a5) {m : Nat} (hm : m < 2 ^ 31) (em : a4 / 2 + 128 * a5 - ((A.1 15 - nI (A.2.2 5).length) - (A.1 15 - nI (A.2.2 5).length) / 32768 * 32768) + 32768 - (a4 / 2 + 128 * a5 - ((A.1 15 - nI (A.2.2 5).length) - (A.1 15 - nI (A.2.2 5).length) / 32768 * 32768) + 32768) / 32768 * 32768 = nI m) :
    ∃ s', mX12_acknowledges 26 s = some ((a_ack A (nI m)).1, s') ∧ SH s' ∧ ag xM s s' ∧ RM s' (a_ack A (nI m)).2 := by
  have r0 := r
  obtain ⟨a1, a2, a3, a4', a5', a6, ⟨m1, m2, m3, m4⟩, a8, a9⟩ := r
  have e15 : sI s 26 37 = A.1 15 := a1 15 (by decide)
  unfold mX12_acknowledges a_ack
  rw [gP_26_50 h, b1S, b1S, aI_55 h (by decide), b1S, b1S, b1S, aI_55 h (by decide), b1S, gI_26 h, b1S, gI_26 h, b1S, b1S, show (4 : Int32).toNatClampNeg = 4 from rfl, show (5 : Int32).toNatClampNeg = 5 from rfl, e4, e5, e15, m1, em, nI_clamp hm]
  by_cases c : nI m ≤ nI (A.2.2 5).length
  · have hmn : m ≤ (A.2.2 5).length := (nI_leI hm (by omega)).mp c
    rw [if_pos c, if_pos c]
    have hb : ∀ i, i < (A.2.2 5).length → sI s 47 i = 0 ∨ sI s 47 i = 1 := fun i hi => by
      have hg := rd_get (snM s) hi
      rw [m3] at hg
      exact w2 _ (List.mem_of_getElem? hg)
    obtain ⟨s1, e1, h1, g1, d1⟩ := M_ack_loop (n := (A.2.2 5).length) (m := m) m2 hb ((A.2.2 5).length - m) m 100000 s (Nat.le_refl _) (by omega) (by omega) h ag_rf m1 (fun j hj => by omega) (fun _ _ => rfl)
    have G : ag (fun a k => a == 46 || a == 47 || a == 48 || a == 49 || a == 50 || a == 51 || (a == 26 && k == 28)) s (e_I s1 26 28 (nI ((A.2.2 5).length - m))) := ag_I (ag_mono g1 (fun a k hx => by
      simp only [xAK, Bool.or_eq_false_iff, Bool.and_eq_false_iff, beq_eq_false_iff_ne] at hx ⊢
      omega)) rfl
    refine ⟨e_I s1 26 28 (nI ((A.2.2 5).length - m)), e1, SH_I h1, ag_mono G (fun a k hx => ?_), ?_⟩
    · simp only [xM, Bool.and_eq_false_iff, decide_eq_false_iff_not, Bool.not_eq_false', beq_iff_eq] at hx
      simp only [Bool.or_eq_false_iff, Bool.and_eq_false_iff, beq_eq_false_iff_ne]
      omega
    · refine ⟨MI_A (MI_ag G a1 (by decide)) rfl, OU_ag G a2 rfl (fun k => rfl), MX_ag G a3 rfl (fun k => rfl), ML_ag G a4' ⟨rfl, rfl, rfl⟩ (fun k => ⟨rfl, rfl⟩), MP_ag G a5' rfl (fun k => ⟨rfl, rfl, rfl, rfl, rfl, rfl, rfl⟩), MC_ag G a6 rfl (fun k => ⟨rfl, rfl, rfl, rfl, rfl⟩), ?_, ME_ag G a8 rfl (fun k => ⟨rfl, rfl, rfl, rfl⟩), MA_ag G a9 rfl (fun k => ⟨rfl, rfl⟩)⟩
      show MS _ ((A.2.2 5).drop m) ((A.2.2 2).drop (evN (A.2.2 5) m))
      have se : ∀ j, seM (e_I s1 26 28 (nI ((A.2.2 5).length - m))) j = seM s1 j := fun j => by
        unfold seM snM esM
        rw [rII_ne (Or.inl (by decide)), rII_ne (Or.inl (by decide)), rII_ne (Or.inl (by decide)), rII_ne (Or.inl (by decide)), rII_ne (Or.inl (by decide)), rd_congr (fun k _ => rII_ne (Or.inl (by decide)))]
      refine ⟨?_, ?_, ?_, ?_⟩
      · rw [rII_eq, List.length_drop]
      · rw [List.length_drop]; omega
      · rw [List.length_drop, rd_congr (g := fun i => snM s (m + i)) (fun i hi => by
          have := congrArg Prod.fst ((se i).trans (d1 i hi))
          rw [Nat.add_comm m i]
          exact this), ← rd_drop, m3]
      · rw [List.length_drop, esF_shift (s := s) (m := m) _ _ (fun i _ hi => (se i).trans (d1 i (by omega))), Nat.zero_add]
        have e9 : esF s 0 (A.2.2 5).length = esF s 0 m ++ esF s m ((A.2.2 5).length - m) := by
          conv => lhs; rw [show (A.2.2 5).length = m + ((A.2.2 5).length - m) by omega]
          rw [esF_split, Nat.zero_add]
        have e10 : evN (A.2.2 5) m = (esF s 0 m).length := by
          unfold evN
          rw [esF_count, ← m3, rd_take _ hmn]
        rw [← m4, e9, e10, List.drop_left]
  · rw [if_neg c, if_neg c]
    obtain ⟨s1, e1, h1, g1, r1⟩ := M_closes h r0 (by have := w.2.1; omega) 3
    refine ⟨s1, ?_, h1, g1, r1⟩
    rw [oK_26 h, b1S, e1, b1S, oZ0, b1S]
