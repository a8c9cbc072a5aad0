/-! ===== the model's events ===== -/
def evM (s : eS) (i : Nat) : List Int32 := [sI s 42 i, sI s 43 i, sI s 44 i] ++ rd (fun k => sI s 45 (7 * i + k)) 7
abbrev xEV : Nat → Nat → Bool := fun a _ => a == 42 || a == 43 || a == 44 || a == 45
theorem evM_congr {s s' : eS} {i : Nat} (h1 : sI s' 42 i = sI s 42 i) (h2 : sI s' 43 i = sI s 43 i) (h3 : sI s' 44 i = sI s 44 i) (h4 : ∀ k, k < 7 → sI s' 45 (7 * i + k) = sI s 45 (7 * i + k)) : evM s' i = evM s i := by
  unfold evM
  rw [h1, h2, h3, rd_congr h4]
theorem nLe {n k : Nat} {c : Int32} (hc : c = nI n) (h : n ≤ k) (hk : k < 2 ^ 31) : c ≤ nI k := by rw [hc]; exact nI_le h hk
theorem nGt {n k : Nat} {c : Int32} (hc : c = nI n) (h : k < n) (hn : n < 2 ^ 31) : ¬ c ≤ nI k := by rw [hc]; exact nI_ge h hn
theorem nI_mul7 (i k : Nat) : (7 : Int32) * nI i + nI k = nI (7 * i + k) := by
  rw [show (7 : Int32) = nI 7 from rfl, pk_mul, nI_add]
theorem pk_e1 (x : Int32) : x + (-1) = x - 1 := by rw [Int32.sub_eq_add_neg]
set_option maxRecDepth 100000 in
/-- seven cells of one row are copied to another place of a row -/
theorem M_moveEvent_loop {f t : Nat} (hf : f < 60) (ht : t < 60) (hne : f ≠ t) {s0 : eS} : ∀ (d k m : Nat) (s : eS), k + d = 7 → d < m → SH s → ag (fun a _ => a == 45) s0 s → (∀ j, j < k → sI s 45 (7 * t + j) = sI s0 45 (7 * f + j)) → (∀ j, (j < 7 * t ∨ 7 * t + k ≤ j) → sI s 45 j = sI s0 45 j) →
    ∃ s', mX12_moveEvent_38 m 26 (nI f) (nI t) (nI k) s = some s' ∧ ag (fun a _ => a == 45) s0 s' ∧ (∀ j, j < 7 → sI s' 45 (7 * t + j) = sI s0 45 (7 * f + j)) ∧ ∀ j, (j < 7 * t ∨ 7 * t + 7 ≤ j) → sI s' 45 j = sI s0 45 j := by
  intro d
  induction d with
  | zero =>
    intro k m s hk hm h hg hd ho
    obtain ⟨m, rfl⟩ : ∃ q, m = q + 1 := ⟨m - 1, by omega⟩
    unfold mX12_moveEvent_38
    rw [if_pos (nLe (n := 7) (c := 7) rfl (by omega) (by omega))]
    rw [show k = 7 by omega] at hd ho
    exact ⟨s, rfl, hg, hd, ho⟩
  | succ d ih =>
    intro k m s hk hm h hg hd ho
    obtain ⟨m, rfl⟩ : ∃ q, m = q + 1 := ⟨m - 1, by omega⟩
    unfold mX12_moveEvent_38
    have hi1 : ¬ nI (7 * f + k) < 0 ∧ (nI (7 * f + k)).toNatClampNeg < 420 := nIc (by omega) (by omega)
    have hi2 : ¬ nI (7 * t + k) < 0 ∧ (nI (7 * t + k)).toNatClampNeg < 420 := nIc (by omega) (by omega)
    rw [if_neg (nGt (n := 7) (c := 7) rfl (by omega) (by decide)), gP_26_27 h, b1S, b1S, b1S, nI_mul7, nI_mul7, aI_45 h hi1, b1S, b1S, sI_45 h hi2, b1S, nI_clamp (by omega), nI_clamp (by omega), nI_1]
    have hv : sI s 45 (7 * f + k) = sI s0 45 (7 * f + k) := ho _ (by omega)
    rw [hv]
    refine ih (k + 1) m _ (by omega) (by omega) (SH_I h) (ag_I hg rfl) (fun j hj => ?_) (fun j hj => ?_)
    · by_cases hjk : j = k
      · subst hjk; exact rII_eq
      · rw [rII_ne (Or.inr (by omega))]; exact hd j (by omega)
    · rw [rII_ne (Or.inr (by omega))]; exact ho j (by omega)
set_option maxRecDepth 100000 in
theorem M_moveEvent {s : eS} (h : SH s) {f t : Nat} (hf : f < 60) (ht : t < 60) (hne : f ≠ t) : ∃ s', mX12_moveEvent 26 (nI f) (nI t) s = some s' ∧ ag xEV s s' ∧ evM s' t = evM s f ∧ ∀ i, i ≠ t → evM s' i = evM s i := by
  have hif : ¬ nI f < 0 ∧ (nI f).toNatClampNeg < 60 := nIc (by omega) hf
  have hit : ¬ nI t < 0 ∧ (nI t).toNatClampNeg < 60 := nIc (by omega) ht
  have cf : (nI f).toNatClampNeg = f := nI_clamp (by omega)
  have ct : (nI t).toNatClampNeg = t := nI_clamp (by omega)
  have h1 : SH (e_I s 42 t (sI s 42 f)) := SH_I h
  have h2 : SH (e_I (e_I s 42 t (sI s 42 f)) 43 t (sI s 43 f)) := SH_I h1
  have h3 : SH (e_I (e_I (e_I s 42 t (sI s 42 f)) 43 t (sI s 43 f)) 44 t (sI s 44 f)) := SH_I h2
  obtain ⟨s', e, g, d, o⟩ := M_moveEvent_loop hf ht hne (s0 := e_I (e_I (e_I s 42 t (sI s 42 f)) 43 t (sI s 43 f)) 44 t (sI s 44 f)) 7 0 100000 _ (by omega) (by omega) h3 ag_rf (fun j hj => absurd hj (Nat.not_lt_zero j)) (fun _ _ => rfl)
  have o45 : ∀ j, sI (e_I (e_I (e_I s 42 t (sI s 42 f)) 43 t (sI s 43 f)) 44 t (sI s 44 f)) 45 j = sI s 45 j := fun j => by rw [rII_ne (Or.inl (by decide)), rII_ne (Or.inl (by decide)), rII_ne (Or.inl (by decide))]
  refine ⟨s', ?_, ag_tr (ag_I (ag_I (ag_I ag_rf rfl) rfl) rfl) (ag_mono g (fun a k hx => by
    have := hx
    simp only [xEV, Bool.or_eq_false_iff] at this
    exact this.2)), ?_, fun i hi => ?_⟩
  · unfold mX12_moveEvent
    rw [gP_26_24 h, b1S, b1S, b1S, aI_42 h hif, b1S, b1S, sI_42 h hit, b1S, cf, ct, gP_26_25 h1, b1S, b1S, b1S, aI_43 h1 hif, b1S, b1S, sI_43 h1 hit, b1S, cf, ct, rII_ne (Or.inl (by decide)), gP_26_26 h2, b1S, b1S, b1S, aI_44 h2 hif, b1S, b1S, sI_44 h2 hit, b1S, cf, ct, rII_ne (Or.inl (by decide)), rII_ne (Or.inl (by decide))]
    exact e
  · unfold evM
    rw [g.2 42 t rfl, g.2 43 t rfl, g.2 44 t rfl, rII_ne (Or.inl (by decide)), rII_ne (Or.inl (by decide)), rII_eq, rII_ne (Or.inl (by decide)), rII_eq, rII_eq]
    congr 1
    apply rd_congr
    intro k hk
    rw [d k hk, o45]
  · refine evM_congr ?_ ?_ ?_ (fun k hk => ?_)
    · rw [g.2 42 i rfl, rII_ne (Or.inl (by decide)), rII_ne (Or.inl (by decide)), rII_ne (Or.inr hi)]
    · rw [g.2 43 i rfl, rII_ne (Or.inl (by decide)), rII_ne (Or.inr hi), rII_ne (Or.inl (by decide))]
    · rw [g.2 44 i rfl, rII_ne (Or.inr hi), rII_ne (Or.inl (by decide)), rII_ne (Or.inl (by decide))]
    · rw [o _ (by omega), o45]
set_option maxRecDepth 100000 in
/-- all events one place up, by the loop of 'closes' -/
theorem M_shiftUp (k32 : Nat → Int32 → eS → Option eS) (j : Int32) {n : Nat} (hn : n < 59) {s0 : eS} : ∀ (d m : Nat) (s : eS), d ≤ n → d < m → SH s → ag xEV s0 s → (∀ i, d ≤ i → i < n → evM s (i + 1) = evM s0 i) → (∀ i, i < d → evM s i = evM s0 i) →
    ∃ s', (∃ m', mX12_closes_52 k32 m 26 j (nI d - 1) s = mX12_closes_52 k32 (m' + 1) 26 j (-1) s') ∧ SH s' ∧ ag xEV s0 s' ∧ ∀ i, i < n → evM s' (i + 1) = evM s0 i := by
  intro d
  induction d with
  | zero =>
    intro m s hd hm h hg ha hb
    obtain ⟨m, rfl⟩ : ∃ q, m = q + 1 := ⟨m - 1, by omega⟩
    exact ⟨s, ⟨m, rfl⟩, h, hg, fun i hi => ha i (Nat.zero_le _) hi⟩
  | succ d ih =>
    intro m s hd hm h hg ha hb
    obtain ⟨m, rfl⟩ : ∃ q, m = q + 1 := ⟨m - 1, by omega⟩
    have e0 : nI (d + 1) - 1 = nI d := nI_pred d
    obtain ⟨s1, e1, g1, f1, o1⟩ := M_moveEvent h (f := d) (t := d + 1) (by omega) (by omega) (by omega)
    obtain ⟨s', ⟨m', e2⟩, r⟩ := ih m s1 (by omega) (by omega) (SH_ag h g1) (ag_tr hg g1) (fun i hi hn2 => by
      by_cases hid : i = d
      · subst hid; rw [f1]; exact hb i (by omega)
      · rw [o1 (i + 1) (by omega)]; exact ha i (by omega) hn2) (fun i hi => by rw [o1 i (by omega)]; exact hb i (by omega))
    refine ⟨s', ⟨m', ?_⟩, r⟩
    rw [← e2]
    conv => lhs; unfold mX12_closes_52
    rw [e0, if_neg (nI_pos (by omega)), oK_26 h, b1S, nI_1, e1, b1S, pk_e1]
