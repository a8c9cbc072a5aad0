/-! ===== the model sends an event ===== -/
def pg (q : List (List Int32)) (p k : Nat) : Int32 := (q.getD p []).getD k 0
theorem MP_get {s : eS} {q : List (List Int32)} (h : MP s q) {p : Nat} (hp : p < q.length) : q.getD p [] = ptM s p := by
  have := rd_getD (ptM s) [] hp
  rw [h.2.2.1] at this
  exact this
def tyF (x : Int32) : Int32 := if x = 0 then 1 else if x = 1 then 3 else if x = 2 then 5 else if x = 3 then 9 else if x = 4 then 11 else if x = 5 then 13 else 15
def ttF (x : Int32) : Int32 := if 3 ≤ x then 31 + x else 30 + x
theorem M_typeOf (x : Int32) (s : eS) : mX12_typeOf x s = some (tyF x, s) := by
  unfold mX12_typeOf mX12_typeOf_58 tyF
  repeat (first | rfl | split)
theorem M_timedTypeOf (x : Int32) (s : eS) : mX12_timedTypeOf x s = some (ttF x, s) := by
  unfold mX12_timedTypeOf mX12_timedTypeOf_16 ttF
  split <;> rfl
/-- the bytes of an event's frame -/
def evB (A : aS) (e : List Int32) : List Int32 :=
  hb (if pg (A.2.2 0) (e.getD 0 0).toNatClampNeg 3 = 0 then tyF (pg (A.2.2 0) (e.getD 0 0).toNatClampNeg 0) else ttF (pg (A.2.2 0) (e.getD 0 0).toNatClampNeg 0)) 1 3 0 (A.1 0) ++ ob (pg (A.2.2 0) (e.getD 0 0).toNatClampNeg 0) (pg (A.2.2 0) (e.getD 0 0).toNatClampNeg 1) (e.getD 1 0) (e.getD 2 0) (A.1 14) ++ (if pg (A.2.2 0) (e.getD 0 0).toNatClampNeg 3 = 0 then [] else e.drop 3)
theorem RM_DR {s s' : eS} {A : aS} (g : ag xDR s s') (r : RM s A) : RM s' A := RM_x g r (by decide) (by decide) (fun a k h1 h2 => by
  simp only [xDR, Bool.or_eq_false_iff, Bool.and_eq_false_iff, beq_eq_false_iff_ne]
  omega)
theorem xM_DR {s s' : eS} (g : ag xDR s s') : ag xM s s' := ag_mono g (fun a k hx => by
  simp only [xM, Bool.and_eq_false_iff, decide_eq_false_iff_not, Bool.not_eq_false', beq_iff_eq] at hx
  simp only [xDR, Bool.or_eq_false_iff, Bool.and_eq_false_iff, beq_eq_false_iff_ne]
  omega)
set_option maxRecDepth 100000 in
theorem M_time_loop {p : Nat} (hp : p < 24) {s0 : eS} (ht : ¬ sI s0 31 p = 0) {l : List Int32} (hl : l.length + 7 ≤ 260) : ∀ (d k m : Nat) (s : eS), k + d = 7 → d < m → SH s → ag xDR s0 s → DR s (l ++ rd (sI s0 45) k) →
    ∃ s', mX12_sendsEvent_63 m 26 (nI p) (nI k) s = mX12_sendsEvent_94 26 (nI p) s' ∧ SH s' ∧ ag xDR s0 s' ∧ DR s' (l ++ rd (sI s0 45) 7) := by
  intro d
  have hip : ¬ nI p < 0 ∧ (nI p).toNatClampNeg < 24 := nIc (by omega) hp
  induction d with
  | zero =>
    intro k m s hk hm h hg hd
    obtain ⟨m, rfl⟩ : ∃ q, m = q + 1 := ⟨m - 1, by omega⟩
    unfold mX12_sendsEvent_63
    rw [if_pos (nLe (n := 7) (c := 7) rfl (by omega) (by omega))]
    rw [show k = 7 by omega] at hd
    exact ⟨s, rfl, h, hg, hd⟩
  | succ d ih =>
    intro k m s hk hm h hg hd
    obtain ⟨m, rfl⟩ : ∃ q, m = q + 1 := ⟨m - 1, by omega⟩
    have hik : ¬ nI k < 0 ∧ (nI k).toNatClampNeg < 420 := nIc (by omega) (by omega)
    obtain ⟨s1, e1, g1, d1⟩ := M_put h hd (by rw [List.length_append, rd_len]; omega) (sI s0 45 k)
    unfold mX12_sendsEvent_63
    rw [if_neg (nGt (n := 7) (c := 7) rfl (by omega) (by decide)), gP_26_5 h, b1S, b1S, aI_31 h hip, b1S, nI_clamp (by omega), hg.2 31 p rfl, if_neg ht, gP_26_27 h, b1S, b1S, aI_45 h hik, b1S, nI_clamp (by omega), hg.2 45 k rfl, oK_26 h, b1S, e1, b1S, nI_1]
    refine ih (k + 1) m s1 (by omega) (by omega) (SH_ag h g1) (ag_tr hg g1) ?_
    rw [rd_succ, ← List.append_assoc]
    exact d1
set_option maxRecDepth 100000 in
theorem M_senttime_loop {n : Nat} (hn : n < 12) {s0 : eS} : ∀ (d k m : Nat) (s : eS), k + d = 7 → d < m → SH s → ag (fun a _ => a == 51) s0 s → (∀ i, i < k → sI s 51 (7 * n + i) = sI s0 45 i) → (∀ j, j < 7 * n → sI s 51 j = sI s0 51 j) →
    ∃ s', mX12_sendsEvent_150 m 26 (nI n) (nI k) s = (b1 (g_I s' 112 23 26) fun x2 => (b1 (p_I s' 112 23 26 (x2 - (1 : Int32))) fun s3 => (mX12_sendsEvent_191 100000 26 (0 : Int32) s3))) ∧ SH s' ∧ ag (fun a _ => a == 51) s0 s' ∧ (∀ i, i < 7 → sI s' 51 (7 * n + i) = sI s0 45 i) ∧ ∀ j, j < 7 * n → sI s' 51 j = sI s0 51 j := by
  intro d
  induction d with
  | zero =>
    intro k m s hk hm h hg hd ho
    obtain ⟨m, rfl⟩ : ∃ q, m = q + 1 := ⟨m - 1, by omega⟩
    unfold mX12_sendsEvent_150
    rw [if_pos (nLe (n := 7) (c := 7) rfl (by omega) (by omega))]
    rw [show k = 7 by omega] at hd
    exact ⟨s, rfl, h, hg, hd, ho⟩
  | succ d ih =>
    intro k m s hk hm h hg hd ho
    obtain ⟨m, rfl⟩ : ∃ q, m = q + 1 := ⟨m - 1, by omega⟩
    have hi1 : ¬ nI k < 0 ∧ (nI k).toNatClampNeg < 420 := nIc (by omega) (by omega)
    have hi2 : ¬ nI (7 * n + k) < 0 ∧ (nI (7 * n + k)).toNatClampNeg < 84 := nIc (by omega) (by omega)
    unfold mX12_sendsEvent_150
    rw [if_neg (nGt (n := 7) (c := 7) rfl (by omega) (by decide)), gP_26_34 h, b1S, gP_26_27 h, b1S, b1S, aI_45 h hi1, b1S, b1S, nI_clamp (by omega), hg.2 45 k rfl, nI_mul7, sI_51 h hi2, b1S, nI_clamp (by omega), nI_1]
    refine ih (k + 1) m _ (by omega) (by omega) (SH_I h) (ag_I hg rfl) (fun i hi => ?_) (fun j hj => ?_)
    · by_cases hik : i = k
      · subst hik; exact rII_eq
      · rw [rII_ne (Or.inr (by omega))]; exact hd i (by omega)
    · rw [rII_ne (Or.inr (by omega))]; exact ho j hj
set_option maxRecDepth 100000 in
/-- all events one place down -/
theorem M_shiftDown {n : Nat} (hn : n < 59) {s0 : eS} : ∀ (d i m : Nat) (s : eS), i + d = n → d < m → SH s → ag xEV s0 s → sI s 26 23 = nI n → (∀ j, j < i → evM s j = evM s0 (j + 1)) → (∀ j, i ≤ j → evM s j = evM s0 j) →
    ∃ s', mX12_sendsEvent_191 m 26 (nI i) s = some (1, s') ∧ SH s' ∧ ag xEV s0 s' ∧ ∀ j, j < n → evM s' j = evM s0 (j + 1) := by
  intro d
  induction d with
  | zero =>
    intro i m s hk hm h hg hc hd ho
    obtain ⟨m, rfl⟩ : ∃ q, m = q + 1 := ⟨m - 1, by omega⟩
    unfold mX12_sendsEvent_191
    rw [gI_26 h, b1S, hc, if_pos (nI_le (by omega) (by omega)), oZ1, b1S]
    rw [show i = n by omega] at hd
    exact ⟨s, rfl, h, hg, hd⟩
  | succ d ih =>
    intro i m s hk hm h hg hc hd ho
    obtain ⟨m, rfl⟩ : ∃ q, m = q + 1 := ⟨m - 1, by omega⟩
    obtain ⟨s1, e1, g1, f1, o1⟩ := M_moveEvent h (f := i + 1) (t := i) (by omega) (by omega) (by omega)
    unfold mX12_sendsEvent_191
    rw [gI_26 h, b1S, hc, if_neg (nI_ge (by omega) (by omega)), oK_26 h, b1S, nI_1, e1, b1S]
    refine ih (i + 1) m s1 (by omega) (by omega) (SH_ag h g1) (ag_tr hg g1) ((g1.2 26 23 rfl).trans hc) (fun j hj => ?_) (fun j hj => ?_)
    · by_cases hji : j = i
      · subst hji; rw [f1]; exact ho (j + 1) (by omega)
      · rw [o1 j hji]; exact hd j (by omega)
    · rw [o1 j (by omega)]; exact ho j (by omega)
theorem esF_snoc (s : eS) : ∀ (d j : Nat), esF s j (d + 1) = esF s j d ++ (if sI s 47 (j + d) = 0 then [] else [esM s (j + d)])
  | 0, j => by simp [esF]
  | d + 1, j => by
    show (if sI s 47 j = 0 then [] else [esM s j]) ++ esF s (j + 1) (d + 1) = _
    rw [esF_snoc s d (j + 1)]
    show _ = ((if sI s 47 j = 0 then [] else [esM s j]) ++ esF s (j + 1) d) ++ _
    rw [List.append_assoc, show j + 1 + d = j + (d + 1) by omega]
theorem esF_congr {s s' : eS} : ∀ (d j : Nat), (∀ i, j ≤ i → i < j + d → sI s' 47 i = sI s 47 i ∧ esM s' i = esM s i) → esF s' j d = esF s j d
  | 0, _, _ => rfl
  | d + 1, j, h => by
    unfold esF
    obtain ⟨h1, h2⟩ := h j (Nat.le_refl _) (by omega)
    rw [h1, h2, esF_congr d (j + 1) (fun i hi hj => h i (by omega) (by omega))]
