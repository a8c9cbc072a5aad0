/-! ===== POINTS change ===== -/
theorem RS_mono {t : Bool} {C D : Nat} {s : eS} {A : aS} (r : RS t C s A) (h : C ≤ D) : RS t D s A := by
  obtain ⟨d, i, o, x, l, p, c, n, e, a, m, z, f, hf, ef⟩ := r
  exact ⟨d, i, o, x, l, p, c, n, e, a, m, z, f, by omega, ef⟩
theorem RT_mono {C D : Nat} {s : eS} {A : aS} (r : RT C s A) (h : C ≤ D) : RT D s A := by
  rcases r with ⟨a, r, b⟩ | ⟨a, A0, r, b⟩
  · exact Or.inl ⟨a, RS_mono r h, b⟩
  · exact Or.inr ⟨a, A0, RS_mono r h, b⟩
/-- VALUES, QUALITIES, FROZEN VALUES -/
abbrev xPt (s : eS) : Nat → Nat → Bool := fun a k => (k == 4 || k == 5 || k == 6) && decide (58 ≤ a) && (sK s a == 106)
theorem xPt_lo (s : eS) {a k : Nat} (h : a < 58) : xPt s a k = false := by
  have : decide (58 ≤ a) = false := decide_eq_false (by omega)
  simp [xPt, this]
theorem xPt_ko {s : eS} {a k t : Nat} (h : KO s t a) (ht : t ≠ 106) : xPt s a k = false := by
  simp [xPt, h.1.2, ht]
theorem xPt_mg {s : eS} {a r k : Nat} (h : MG s a r) : xPt s a k = false ∧ xPt s r k = false := by
  simp [xPt, h.1.2, h.2.2.1.2]
theorem xPt_k (s : eS) (a : Nat) {k : Nat} (h : k < 4) : xPt s a k = false := by
  have : (k == 4 || k == 5 || k == 6) = false := by simp; omega
  simp [xPt, this]
theorem oL_congr {q q' : List (List Int32)} (hl : q'.length = q.length) (h : ∀ p, pg q' p 1 = pg q p 1) : oL q' = oL q := by
  unfold oL
  rw [hl]
  congr 1
  funext a b
  rw [h, h]
theorem pg_len {q : List (List Int32)} {p k : Nat} (h : q.length ≤ p) : pg q p k = 0 := by
  unfold pg
  rw [show q.getD p [] = [] from by rw [List.getD_eq_getElem?_getD, List.getElem?_eq_none h]; rfl]
  rfl
theorem RS_pts {t : Bool} {C : Nat} {s s' : eS} {A : aS} (r : RS t C s A) (g : ag (xPt s) s s') {q : List (List Int32)} (hq : q.length = (A.2.2 0).length) (hrow : ∀ p, p < q.length → q.getD p [] = ptS s' p) (hv : ∀ p, p < q.length → vOK (sI s (pA s p) 0) (sI s' (pA s p) 4)) : RS t C s' (uq A 0 q) := by
  have d := rs_d r
  have lo := fun {a k : Nat} (h : a < 58) => xPt_lo s (a := a) (k := k) h
  have i : SI s' A := SI_ag g (rs_i r) (fun k hk _ => lo ((by decide : ∀ k, k < 26 → (sc k).1 < 58) k hk)) (lo (by decide))
  have o : SO_ s' (A.2.1 0) := SO_ag g (rs_o r) ⟨lo (by decide), lo (by decide)⟩ (fun _ => lo (by decide))
  have x : SXt t s' (A.2.1 1) := SXt_ag g (rs_x r) ⟨lo (by decide), lo (by decide), lo (by decide), lo (by decide)⟩ (fun _ => lo (by decide))
  have l : SL s' A := SL_ag g (rs_l r) ⟨lo (by decide), lo (by decide), lo (by decide)⟩
  have p0 : ∀ p, p < q.length → ∀ k, k < 4 → sI s' (pA s p) k = sI s (pA s p) k := fun p hp k hk => g.2 _ _ (xPt_k s _ hk)
  have p1 : ∀ p, pg q p 1 = pg (A.2.2 0) p 1 := fun p => by
    by_cases hp : p < q.length
    · rw [pg_pt (rs_p r) (hq ▸ hp)]
      unfold pg
      rw [hrow p hp]
      show sI s' (pA s' p) 1 = sI s (pA s p) 1
      rw [pA_ag g, p0 p hp 1 (by decide)]
    · rw [pg_len (by omega), pg_len (by omega)]
  have sp : SP s' q := by
    refine ⟨by rw [g.2 _ _ (lo (by decide)), hq]; exact (rs_p r).1, fun p hp => ⟨hrow p hp, ?_⟩, fun j hj => ?_⟩
    · have h3 := ((rs_p r).2.1 p (hq ▸ hp)).2
      unfold poS
      rw [pA_ag g, p0 p hp 0 (by decide), p0 p hp 1 (by decide)]
      exact ⟨h3.1, h3.2.1, hv p hp⟩
    · rw [ag_P g, pA_ag g, oL_congr hq p1]
      exact (rs_p r).2.2 j (hq ▸ hj)
  have c : SC s' q.length (A.2.2 1) := by
    rw [hq]
    exact SC_agp g (rs_c r) (lo (by decide)) (fun c hc k => xPt_ko (d.2.1.1 c hc).2 (by decide)) (fun p hp => xPt_k s _ (by decide))
  have n : SN s' (A.2.2 5) := SN_ag g (rs_n r) ⟨lo (by decide), lo (by decide)⟩ (fun _ => ⟨lo (by decide), lo (by decide)⟩)
  have e : SE s' q.length (A.2.2 2) (A.2.2 3) := by
    rw [hq]
    exact SE_agp g (rs_e r) ⟨lo (by decide), lo (by decide), lo (by decide)⟩ (fun p hp => ⟨xPt_k s _ (by decide), xPt_k s _ (by decide)⟩)
  have m : SM s' := SM_ag g (rs_m r) ⟨lo (by decide), lo (by decide), lo (by decide)⟩ (fun _ => ⟨lo (by decide), lo (by decide), lo (by decide), lo (by decide), lo (by decide)⟩)
  have a : SA s' (A.2.2 4) := by
    obtain ⟨st, b1', b2', b3', b4', b5'⟩ := rs_a r
    refine ⟨st, b1', (g.2 _ _ (lo (by decide))).trans b2', (g.2 _ _ (lo (by decide))).trans b3', b4', fun i hi => ?_⟩
    have h3 := b5' i hi
    have h4 := DA_at d.2.2.1 (Nat.mod_lt _ (by omega)) h3.1
    rw [ag_P g, mA_ag g, rA_ag g]
    exact ⟨h3.1, MT_ag g h3.2 (xPt_mg h4.2.1).1 (fun k => (xPt_mg h4.2.1).2)⟩
  have dd : DS s' q.length (A.2.2 1).length := by rw [hq]; exact DS_ag g d
  exact ⟨dd, i, o, x, l, sp, c, n, e, a, m, (have z := rs_z r; z), (have f := rs_f r; f)⟩
theorem xPt_I {s s' : eS} (g : ag (xPt s) s s') {a k : Nat} {x : Int32} (ko : KO s 106 a) (hk : k = 4 ∨ k = 5 ∨ k = 6) : ag (xPt s) s (e_I s' a k x) := ag_I g (by
  rcases hk with rfl | rfl | rfl <;> simp [xPt, ko.1.2, ko.2])
theorem xPt_K (s : eS) : ∀ a k, xPt s a k = true → xK a k = false := fun a k h => by
  simp [xPt] at h
  simp
  omega
/-! COUNTERS are frozen, and reset -/
set_option maxRecDepth 100000 in
theorem S_freeze_loop {n : Nat} (hn : n ≤ 24) {s0 : eS} (d0 : DP s0 n) (e2 : sI s0 2 2 = nI n) : ∀ (d i m : Nat) (s : eS), i + d = n → d < m → SH s → ag (xPt s0) s0 s → (∀ p, p < n → ∀ k, sI s (pA s0 p) k = if p < i ∧ k = 6 ∧ sI s0 (pA s0 p) 0 = 6 then sI s0 (pA s0 p) 4 else sI s0 (pA s0 p) k) →
    ∃ s', mX7_freezeCounters_2 m 2 (nI i) s = some s' ∧ ag (xPt s0) s0 s' ∧ ∀ p, p < n → ∀ k, sI s' (pA s0 p) k = if k = 6 ∧ sI s0 (pA s0 p) 0 = 6 then sI s0 (pA s0 p) 4 else sI s0 (pA s0 p) k := by
  intro d
  induction d with
  | zero =>
    intro i m s hi hm h g hs
    obtain ⟨m, rfl⟩ : ∃ q, m = q + 1 := ⟨m - 1, by omega⟩
    unfold mX7_freezeCounters_2 mX7_freezeCounters_50
    rw [gI_2 h, b1S, g.2 2 2 (xPt_lo _ (by decide)), e2, if_pos (nI_le (by omega) (by omega))]
    refine ⟨s, rfl, g, fun p hp k => ?_⟩
    rw [hs p hp k]
    simp [show p < i by omega]
  | succ d ih =>
    intro i m s hi hm h g hs
    obtain ⟨m, rfl⟩ : ∃ q, m = q + 1 := ⟨m - 1, by omega⟩
    have hlt : i < n := by omega
    have d1 := d0.1 i hlt
    have ko := KO_ag g d1.2
    have e0 : sI s (pA s0 i) 0 = sI s0 (pA s0 i) 0 := by rw [hs i hlt 0]; simp
    have e4 : sI s (pA s0 i) 4 = sI s0 (pA s0 i) 4 := by rw [hs i hlt 4]; simp
    unfold mX7_freezeCounters_2 mX7_freezeCounters_44
    rw [gI_2 h, b1S, g.2 2 2 (xPt_lo _ (by decide)), e2, if_neg (nI_ge hlt (by omega)), if_neg (c_nle (c := 24) 24 (by omega)), gP_2_0 h, b1S, b1S, aP_3 h (nIc (by omega) (by omega)), b1S, nI_clamp (by omega), ag_P g, d1.1, if_neg (by simp), b1S, koI ko, b1S, e0]
    by_cases c6 : sI s0 (pA s0 i) 0 = 6
    · rw [if_pos c6, koI ko, b1S, e4, kop ko, b1S, nI_1]
      refine ih (i + 1) m _ (by omega) (by omega) (SH_I h) (xPt_I g d1.2 (by decide)) (fun p hp k => ?_)
      by_cases c : p = i
      · subst c
        by_cases ck : k = 6
        · subst ck
          rw [rII_eq, if_pos ⟨by omega, rfl, c6⟩]
        · rw [rII_ne (Or.inr ck), hs p hp k, if_neg (fun z => ck z.2.1), if_neg (fun z => ck z.2.1)]
      · rw [rII_ne (Or.inl (fun e => c (d0.2 p i hp hlt e))), hs p hp k]
        have : p < i + 1 ↔ p < i := by omega
        simp [this]
    · rw [if_neg c6, nI_1]
      refine ih (i + 1) m _ (by omega) (by omega) h g (fun p hp k => ?_)
      rw [hs p hp k]
      by_cases c : p = i
      · subst c
        rw [if_neg (fun z => c6 z.2.2), if_neg (fun z => c6 z.2.2)]
      · have : p < i + 1 ↔ p < i := by omega
        simp [this]
set_option maxRecDepth 100000 in
theorem S_reset_loop {n : Nat} (hn : n ≤ 24) {s0 : eS} (d0 : DP s0 n) (e2 : sI s0 2 2 = nI n) : ∀ (d i m : Nat) (s : eS), i + d = n → d < m → SH s → ag (xPt s0) s0 s → (∀ p, p < n → ∀ k, sI s (pA s0 p) k = if p < i ∧ k = 4 ∧ sI s0 (pA s0 p) 0 = 6 then 0 else sI s0 (pA s0 p) k) →
    ∃ s', mX7_resetCounters_2 m 2 (nI i) s = some s' ∧ ag (xPt s0) s0 s' ∧ ∀ p, p < n → ∀ k, sI s' (pA s0 p) k = if k = 4 ∧ sI s0 (pA s0 p) 0 = 6 then 0 else sI s0 (pA s0 p) k := by
  intro d
  induction d with
  | zero =>
    intro i m s hi hm h g hs
    obtain ⟨m, rfl⟩ : ∃ q, m = q + 1 := ⟨m - 1, by omega⟩
    unfold mX7_resetCounters_2 mX7_resetCounters_47
    rw [gI_2 h, b1S, g.2 2 2 (xPt_lo _ (by decide)), e2, if_pos (nI_le (by omega) (by omega))]
    refine ⟨s, rfl, g, fun p hp k => ?_⟩
    rw [hs p hp k]
    simp [show p < i by omega]
  | succ d ih =>
    intro i m s hi hm h g hs
    obtain ⟨m, rfl⟩ : ∃ q, m = q + 1 := ⟨m - 1, by omega⟩
    have hlt : i < n := by omega
    have d1 := d0.1 i hlt
    have ko := KO_ag g d1.2
    have e0 : sI s (pA s0 i) 0 = sI s0 (pA s0 i) 0 := by rw [hs i hlt 0]; simp
    unfold mX7_resetCounters_2 mX7_resetCounters_41
    rw [gI_2 h, b1S, g.2 2 2 (xPt_lo _ (by decide)), e2, if_neg (nI_ge hlt (by omega)), if_neg (c_nle (c := 24) 24 (by omega)), gP_2_0 h, b1S, b1S, aP_3 h (nIc (by omega) (by omega)), b1S, nI_clamp (by omega), ag_P g, d1.1, if_neg (by simp), b1S, koI ko, b1S, e0]
    by_cases c6 : sI s0 (pA s0 i) 0 = 6
    · rw [if_pos c6, kop ko, b1S, nI_1]
      refine ih (i + 1) m _ (by omega) (by omega) (SH_I h) (xPt_I g d1.2 (by decide)) (fun p hp k => ?_)
      by_cases c : p = i
      · subst c
        by_cases ck : k = 4
        · subst ck
          rw [rII_eq, if_pos ⟨by omega, rfl, c6⟩]
        · rw [rII_ne (Or.inr ck), hs p hp k, if_neg (fun z => ck z.2.1), if_neg (fun z => ck z.2.1)]
      · rw [rII_ne (Or.inl (fun e => c (d0.2 p i hp hlt e))), hs p hp k]
        have : p < i + 1 ↔ p < i := by omega
        simp [this]
    · rw [if_neg c6, nI_1]
      refine ih (i + 1) m _ (by omega) (by omega) h g (fun p hp k => ?_)
      rw [hs p hp k]
      by_cases c : p = i
      · subst c
        rw [if_neg (fun z => c6 z.2.2), if_neg (fun z => c6 z.2.2)]
      · have : p < i + 1 ↔ p < i := by omega
        simp [this]
theorem S_freezeC {t : Bool} {C : Nat} {s : eS} (h : SH s) {A : aS} (r : RS t C s A) : ∃ s', mX7_freezeCounters 2 s = some s' ∧ ag (xPt s) s s' ∧ ∀ p, p < (A.2.2 0).length → ∀ k, sI s' (pA s p) k = if k = 6 ∧ sI s (pA s p) 0 = 6 then sI s (pA s p) 4 else sI s (pA s p) k := by
  unfold mX7_freezeCounters
  exact S_freeze_loop (rs_d r).2.2.2.1 (rs_d r).1 (rs_p r).1 (A.2.2 0).length 0 100000 s (by omega) (by have := (rs_d r).2.2.2.1; omega) h ag_rf (fun p hp k => by simp)
theorem S_resetC {t : Bool} {C : Nat} {s : eS} (h : SH s) {A : aS} (r : RS t C s A) : ∃ s', mX7_resetCounters 2 s = some s' ∧ ag (xPt s) s s' ∧ ∀ p, p < (A.2.2 0).length → ∀ k, sI s' (pA s p) k = if k = 4 ∧ sI s (pA s p) 0 = 6 then 0 else sI s (pA s p) k := by
  unfold mX7_resetCounters
  exact S_reset_loop (rs_d r).2.2.2.1 (rs_d r).1 (rs_p r).1 (A.2.2 0).length 0 100000 s (by omega) (by have := (rs_d r).2.2.2.1; omega) h ag_rf (fun p hp k => by simp)
theorem fz_row {k : Int32} {a b c d e f g : Int32} : fz k [a, b, c, d, e, f, g] = if a = 6 then [a, b, c, d, (if k ≤ 1 then e else 0), f, (if 3 ≤ k then g else e)] else [a, b, c, d, e, f, g] := rfl
theorem map_row {q : List (List Int32)} {f : List Int32 → List Int32} {p : Nat} (hp : p < q.length) : (q.map f).getD p [] = f (q.getD p []) := by
  rw [List.getD_eq_getElem?_getD, List.getD_eq_getElem?_getD, List.getElem?_map, List.getElem?_eq_getElem hp]
  rfl
theorem vOK_6 {v : Int32} : vOK 6 v := ⟨fun z => absurd z (by decide), fun z => absurd z (by decide)⟩
/-- rows behind a FREEZE or a reset -/
theorem RS_fz {t : Bool} {C : Nat} {s s' : eS} {A : aS} (r : RS t C s A) (g : ag (xPt s) s s') (k : Int32) (hs : ∀ p, p < (A.2.2 0).length → (sI s (pA s p) 0 = 6 → sI s' (pA s p) 4 = (if k ≤ 1 then sI s (pA s p) 4 else 0) ∧ sI s' (pA s p) 6 = (if 3 ≤ k then sI s (pA s p) 6 else sI s (pA s p) 4)) ∧ (sI s (pA s p) 0 ≠ 6 → sI s' (pA s p) 4 = sI s (pA s p) 4 ∧ sI s' (pA s p) 6 = sI s (pA s p) 6) ∧ sI s' (pA s p) 5 = sI s (pA s p) 5) : RS t C s' (uq A 0 ((A.2.2 0).map (fz k))) := by
  refine RS_pts r g (List.length_map ..) (fun p hp => ?_) (fun p hp => ?_)
  · rw [List.length_map] at hp
    have h1 := ((rs_p r).2.1 p hp).1
    obtain ⟨u1, u2, u3⟩ := hs p hp
    rw [map_row hp, h1]
    unfold ptS
    rw [fz_row, pA_ag g, g.2 _ 0 (xPt_k s _ (by decide)), g.2 _ 1 (xPt_k s _ (by decide)), g.2 _ 2 (xPt_k s _ (by decide)), g.2 _ 3 (xPt_k s _ (by decide)), u3]
    by_cases c6 : sI s (pA s p) 0 = 6
    · rw [if_pos c6, (u1 c6).1, (u1 c6).2]
    · rw [if_neg c6, (u2 c6).1, (u2 c6).2]
  · rw [List.length_map] at hp
    have h1 := ((rs_p r).2.1 p hp).2.2.2
    obtain ⟨u1, u2, u3⟩ := hs p hp
    by_cases c6 : sI s (pA s p) 0 = 6
    · rw [c6]; exact vOK_6
    · rw [(u2 c6).1]; exact h1
theorem S_freezeR {t : Bool} {C : Nat} {s : eS} (h : SH s) {A : aS} (r : RS t C s A) : ∃ s', mX7_freezeCounters 2 s = some s' ∧ ag (xPt s) s s' ∧ RS t C s' (uq A 0 ((A.2.2 0).map (fz 1))) := by
  obtain ⟨s1, f1, g1, v1⟩ := S_freezeC h r
  exact ⟨s1, f1, g1, RS_fz r g1 1 (fun p hp => ⟨fun c6 => ⟨by rw [v1 p hp 4, if_neg (by simp), if_pos (by decide)], by rw [v1 p hp 6, if_pos ⟨rfl, c6⟩, if_neg (by decide)]⟩, fun c6 => ⟨by rw [v1 p hp 4, if_neg (by simp)], by rw [v1 p hp 6, if_neg (fun z => c6 z.2)]⟩, by rw [v1 p hp 5, if_neg (by simp)]⟩)⟩
theorem S_resetR {t : Bool} {C : Nat} {s : eS} (h : SH s) {A : aS} (r : RS t C s A) : ∃ s', mX7_resetCounters 2 s = some s' ∧ ag (xPt s) s s' ∧ RS t C s' (uq A 0 ((A.2.2 0).map (fz 3))) := by
  obtain ⟨s1, f1, g1, v1⟩ := S_resetC h r
  exact ⟨s1, f1, g1, RS_fz r g1 3 (fun p hp => ⟨fun c6 => ⟨by rw [v1 p hp 4, if_pos ⟨rfl, c6⟩, if_neg (by decide)], by rw [v1 p hp 6, if_neg (by simp), if_pos (by decide)]⟩, fun c6 => ⟨by rw [v1 p hp 4, if_neg (fun z => c6 z.2)], by rw [v1 p hp 6, if_neg (by simp)]⟩, by rw [v1 p hp 5, if_neg (by simp)]⟩)⟩
theorem RS_frz {t : Bool} {C : Nat} {s : eS} {A : aS} (r : RS t C s A) : RS t (C + 1) (e_I s 0 18 (A.1 14 + 1)) (ui A 14 (A.1 14 + 1)) := by
  have g : ag (fun a k => a == 0 && k == 18) s (e_I s 0 18 (A.1 14 + 1)) := ag_I ag_rf rfl
  have i := SI_set (rs_i r) 14 (by decide) (A.1 14 + 1)
  have f : SF (C + 1) (ui A 14 (A.1 14 + 1)) := by
    obtain ⟨f, hf, ef⟩ := rs_f r
    exact ⟨f + 1, by omega, by show A.1 14 + 1 = _; rw [ef, nI_1]⟩
  have r2 := RS_mono r (Nat.le_succ C)
  exact ⟨(have q := rs_d r2; DS_ag g q), i, (have q := rs_o r2; SO_ag g q ⟨rfl, rfl⟩ (fun _ => rfl)), (have q := rs_x r2; SXt_ag g q ⟨rfl, rfl, rfl, rfl⟩ (fun _ => rfl)), (have q := rs_l r2; SL_ag g q ⟨rfl, rfl, rfl⟩), (have q := rs_p r2; SP_ag g (rs_d r2).1 q rfl (fun a k hx => by simp <;> omega)), (have q := rs_c r2; SC_ag g (rs_d r2).1 (rs_d r2).2.1 q rfl (fun a k hx => by simp <;> omega)), (have q := rs_n r2; SN_ag g q ⟨rfl, rfl⟩ (fun _ => ⟨rfl, rfl⟩)), (have q := rs_e r2; SE_ag g (rs_d r2).1 q ⟨rfl, rfl, rfl⟩ (fun a k hx => by simp <;> omega)), (have q := rs_a r2; SA_ag g (rs_d r2).2.2.1 q ⟨rfl, rfl⟩ (fun a k hx => by simp <;> omega)), (have q := rs_m r2; SM_ag g q ⟨rfl, rfl, rfl⟩ (fun _ => ⟨rfl, rfl, rfl, rfl, rfl⟩)), (have q := rs_z r2; q), f⟩
theorem kY_I {s s' : eS} (h : kY s s') {a k : Nat} {x : Int32} (hx : xK a k = false) : kY s (e_I s' a k x) := ⟨kS_I h.1 hx, h.2.1, h.2.2⟩
theorem uq_ui (A : aS) (k : Nat) (x : Int32) (j : Nat) (q : List (List Int32)) : uq (ui A k x) j q = ui (uq A j q) k x := rfl
theorem map_map_fz (q : List (List Int32)) {f : List Int32 → List Int32} : (q.map f).length = q.length := List.length_map ..
theorem fz_13 (q : List (List Int32)) : (q.map (fz 1)).map (fz 3) = q.map (fz 2) := by
  rw [List.map_map]
  apply List.map_congr_left
  intro e he
  show fz 3 (fz 1 e) = fz 2 e
  unfold fz
  by_cases c6 : e.getD 0 0 = 6
  · rw [if_pos c6, if_pos (by exact c6), if_pos c6]
    rfl
  · rw [if_neg c6, if_neg c6, if_neg c6]
theorem uq_uq (A : aS) (k : Nat) (x y : List (List Int32)) : uq (uq A k x) k y = uq A k y := uq_ext rfl rfl (fun j => by
  show (if j = k then y else if j = k then x else A.2.2 j) = if j = k then y else A.2.2 j
  by_cases c : j = k
  · simp only [if_pos c]
  · simp only [if_neg c])
set_option maxRecDepth 100000 in
/-- the order 1, 2, 3 -/
theorem S_order {C : Nat} {s : eS} (h : SH s) {A : aS} (r : RS true C s A) {k : Int32} (hk : k = 1 ∨ k = 2 ∨ k = 3) : ∃ s', mX11_orderCounters 0 k s = some s' ∧ kY s s' ∧ RS true (C + 1) s' (a_freeze A k) ∧ sI s' 14 4 = sI s 14 4 := by
  have e14 : sI s 0 18 = A.1 14 := (rs_i r).1 14 (by decide) (by decide)
  unfold mX11_orderCounters mX11_orderCounters_33 mX11_orderCounters_45 a_freeze
  obtain ⟨s1, f1, g1, r1⟩ := S_freezeR h r
  have h1 := SH_ag h g1
  have h2 := SH_I (a := 0) (k := 18) (x := A.1 14 + 1) h1
  have r2 : RS true (C + 1) (e_I s1 0 18 (A.1 14 + 1)) (ui (uq A 0 ((A.2.2 0).map (fz 1))) 14 (A.1 14 + 1)) := RS_frz r1
  have k2 : kY s (e_I s1 0 18 (A.1 14 + 1)) := kY_I (kY_ag h g1 (xPt_K s)) rfl
  have o2 : sI (e_I s1 0 18 (A.1 14 + 1)) 14 4 = sI s 14 4 := by
    rw [rII_ne (Or.inl (by decide))]
    exact g1.2 _ _ (xPt_lo s (by decide))
  rcases hk with rfl | rfl | rfl
  · rw [if_neg (by decide), if_neg (by decide), gP_0_1 h, b1S, b1S, oK_2 h, b1S, f1, b1S, gI_0 h1, b1S, g1.2 0 18 (xPt_lo s (by decide)), e14, pI_0 h1, b1S, if_pos rfl, if_neg (by decide)]
    exact ⟨_, rfl, k2, r2, o2⟩
  · obtain ⟨s3, f3, g3, r3⟩ := S_resetR h2 r2
    rw [if_neg (by decide), if_neg (by decide), gP_0_1 h, b1S, b1S, oK_2 h, b1S, f1, b1S, gI_0 h1, b1S, g1.2 0 18 (xPt_lo s (by decide)), e14, pI_0 h1, b1S, if_neg (by decide), if_neg (by decide), gP_0_1 h2, b1S, b1S, oK_2 h2, b1S, f3, b1S]
    refine ⟨s3, rfl, kY_tr k2 (kY_ag h2 g3 (xPt_K _)), ?_, (g3.2 _ _ (xPt_lo _ (by decide))).trans o2⟩
    have e : uq (ui (uq A 0 ((A.2.2 0).map (fz 1))) 14 (A.1 14 + 1)) 0 (((ui (uq A 0 ((A.2.2 0).map (fz 1))) 14 (A.1 14 + 1)).2.2 0).map (fz 3)) = ui (uq A 0 ((A.2.2 0).map (fz 2))) 14 (A.1 14 + 1) := by
      rw [← fz_13]
      exact (uq_ui _ _ _ _ _).trans (by rw [uq_uq]; rfl)
    rw [e] at r3
    exact r3
  · obtain ⟨s3, f3, g3, r3⟩ := S_resetR h r
    rw [if_neg (by decide), if_pos rfl, if_neg (by decide), gP_0_1 h, b1S, b1S, oK_2 h, b1S, f3, b1S, if_pos (by decide), show A.1 14 + 0 = A.1 14 from Int32.add_zero _]
    refine ⟨s3, rfl, kY_ag h g3 (xPt_K s), ?_, g3.2 _ _ (xPt_lo s (by decide))⟩
    have e : ui (uq A 0 ((A.2.2 0).map (fz 3))) 14 (A.1 14) = uq A 0 ((A.2.2 0).map (fz 3)) := ui_self (uq A 0 ((A.2.2 0).map (fz 3))) 14
    rw [e]
    exact RS_mono r3 (Nat.le_succ C)
