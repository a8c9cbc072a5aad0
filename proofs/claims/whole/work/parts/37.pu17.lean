/-! ===== the model's points in the order of their addresses ===== -/
def chF (q : List (List Int32)) (g ctr : Int32) (i : Nat) : Bool := decide ((if pg q i 0 = 6 then (1 : Int32) else 0) = ctr) && (decide (g = 0) || decide (pg q i 2 = g))
def RW (s : eS) (l : List Nat) : Prop := ∀ j, j < l.length → sI s 57 j = nI (l.getD j 0)
theorem ins_getD (l : List Nat) (i : Nat) {p : Nat} (hp : p ≤ l.length) (j : Nat) : (l.take p ++ i :: l.drop p).getD j 0 = if j < p then l.getD j 0 else if j = p then i else l.getD (j - 1) 0 := by
  have ht : (l.take p).length = p := by rw [List.length_take]; omega
  rw [List.getD_eq_getElem?_getD]
  by_cases c1 : j < p
  · rw [if_pos c1, List.getElem?_append_left (by omega), List.getElem?_take_of_lt c1, ← List.getD_eq_getElem?_getD]
  · rw [if_neg c1, List.getElem?_append_right (by omega), ht]
    by_cases c2 : j = p
    · rw [if_pos c2, c2, Nat.sub_self]; rfl
    · rw [if_neg c2, show j - p = (j - p - 1) + 1 by omega, List.getElem?_cons_succ, List.getElem?_drop, show p + (j - p - 1) = j - 1 by omega, ← List.getD_eq_getElem?_getD]
theorem ins_len (l : List Nat) (i p : Nat) : (l.take p ++ i :: l.drop p).length = l.length + 1 := by
  rw [List.length_append, List.length_cons, List.length_take, List.length_drop]
  omega
theorem ins_perm (l : List Nat) (i p : Nat) : (l.take p ++ i :: l.drop p).Perm (i :: l) := by
  have := List.perm_middle (a := i) (l₁ := l.take p) (l₂ := l.drop p)
  rw [List.take_append_drop] at this
  exact this
abbrev x57 : Nat → Nat → Bool := fun a _ => a == 57
theorem xN_x {s s' : eS} (g : ag x57 s s') (a k : Nat) (ha : a ≠ 57) : sI s' a k = sI s a k := g.2 a k (by simp [x57, ha])
set_option maxRecDepth 100000 in
theorem M_row_loop (k6 : Nat → Int32 → Int32 → Int32 → Int32 → Int32 → eS → Option eS) (g ctr cause : Int32) {s0 : eS} {l : List Nat} (hl : ∀ j, j < l.length → l.getD j 0 < 24) (hlen : l.length < 24) {i : Nat} (hi : i < 24) : ∀ (p m : Nat) (s : eS), p ≤ l.length → p < m → SH s → ag x57 s0 s → (∀ j, j < p → sI s 57 j = nI (l.getD j 0)) → (∀ j, p ≤ j → j < l.length → sI s 57 (j + 1) = nI (l.getD j 0)) → (∀ j, p ≤ j → j < l.length → ¬ sI s0 29 (l.getD j 0) ≤ sI s0 29 i) →
    ∃ s' p', mX12_objects_55 k6 m 26 g ctr cause (nI l.length) (nI i) (nI p) s = k6 26 g ctr cause (nI (l.length + 1)) (nI (i + 1)) s' ∧ SH s' ∧ ag x57 s0 s' ∧ p' ≤ l.length ∧ RW s' (l.take p' ++ i :: l.drop p') ∧ (∀ j, p' ≤ j → j < l.length → ¬ sI s0 29 (l.getD j 0) ≤ sI s0 29 i) ∧ (p' = 0 ∨ sI s0 29 (l.getD (p' - 1) 0) ≤ sI s0 29 i) := by
  -- the place is found
  have fin : ∀ (p : Nat) (s : eS), p ≤ l.length → SH s → ag x57 s0 s → (∀ j, j < p → sI s 57 j = nI (l.getD j 0)) → (∀ j, p ≤ j → j < l.length → sI s 57 (j + 1) = nI (l.getD j 0)) →
      mX12_objects_106 k6 26 g ctr cause (nI l.length) (nI i) (nI p) s = k6 26 g ctr cause (nI (l.length + 1)) (nI (i + 1)) (e_I s 57 p (nI i)) ∧ SH (e_I s 57 p (nI i)) ∧ ag x57 s0 (e_I s 57 p (nI i)) ∧ RW (e_I s 57 p (nI i)) (l.take p ++ i :: l.drop p) := by
    intro p s hp h hg h1 h2
    refine ⟨?_, SH_I h, ag_I hg rfl, fun j hj => ?_⟩
    · unfold mX12_objects_106 mX12_objects_118
      rw [gP_26_54 h, b1S, b1S, sI_57 h (nIc (by omega) (by omega)), b1S, nI_clamp (by omega), nI_1, nI_1]
    · rw [ins_len] at hj
      rw [ins_getD l i hp]
      by_cases c1 : j < p
      · rw [if_pos c1, rII_ne (Or.inr (by omega))]
        exact h1 j c1
      · rw [if_neg c1]
        by_cases c2 : j = p
        · rw [if_pos c2, c2, rII_eq]
        · rw [if_neg c2, rII_ne (Or.inr c2)]
          have := h2 (j - 1) (by omega) (by omega)
          rw [show j - 1 + 1 = j by omega] at this
          exact this
  intro p
  induction p with
  | zero =>
    intro m s hp hm h hg h1 h2 h3
    obtain ⟨m, rfl⟩ : ∃ q, m = q + 1 := ⟨m - 1, by omega⟩
    obtain ⟨e1, q1, q2, q3⟩ := fin 0 s hp h hg h1 h2
    refine ⟨_, 0, ?_, q1, q2, hp, q3, h3, Or.inl rfl⟩
    rw [← e1]
    conv => lhs; unfold mX12_objects_55
    rw [if_pos (show nI 0 ≤ 0 by decide)]
  | succ p ih =>
    intro m s hp hm h hg h1 h2 h3
    obtain ⟨m, rfl⟩ : ∃ q, m = q + 1 := ⟨m - 1, by omega⟩
    have hip : ¬ nI p < 0 ∧ (nI p).toNatClampNeg < 24 := nIc (by omega) (by omega)
    have hlp := hl p (by omega)
    have hil : ¬ nI (l.getD p 0) < 0 ∧ (nI (l.getD p 0)).toNatClampNeg < 24 := nIc (by omega) hlp
    have hii : ¬ nI i < 0 ∧ (nI i).toNatClampNeg < 24 := nIc (by omega) hi
    have ep := h1 p (by omega)
    have hx : ∀ (Q : Option eS), (if sI s0 29 (l.getD p 0) ≤ sI s0 29 i then mX12_objects_106 k6 26 g ctr cause (nI l.length) (nI i) (nI (p + 1)) s else mX12_objects_55 k6 m 26 g ctr cause (nI l.length) (nI i) (nI p) (e_I s 57 (p + 1) (nI (l.getD p 0)))) = Q → mX12_objects_55 k6 (m + 1) 26 g ctr cause (nI l.length) (nI i) (nI (p + 1)) s = Q := by
      intro Q hQ
      rw [← hQ]
      conv => lhs; unfold mX12_objects_55
      rw [if_neg (nI_nle (by omega) (by omega)), gP_26_3 h, b1S, gP_26_54 h, b1S, b1S, nI_pred, aI_57 h hip, b1S, nI_clamp (by omega), ep, b1S, aI_29 h hil, b1S, b1S, b1S, aI_29 h hii, b1S, nI_clamp (by omega), nI_clamp (by omega), xN_x hg 29 _ (by decide), xN_x hg 29 _ (by decide)]
      by_cases c : sI s0 29 (l.getD p 0) ≤ sI s0 29 i
      · rw [if_pos c, if_pos c]
      · rw [if_neg c, if_neg c, b1S, b1S, b1S, aI_57 h hip, b1S, nI_clamp (by omega), ep, b1S, sI_57 h (nIc (by omega) (by omega)), b1S, nI_clamp (by omega), pk_m1]
    by_cases c : sI s0 29 (l.getD p 0) ≤ sI s0 29 i
    · obtain ⟨e1, q1, q2, q3⟩ := fin (p + 1) s hp h hg h1 h2
      refine ⟨_, p + 1, hx _ ?_, q1, q2, hp, q3, h3, Or.inr c⟩
      rw [if_pos c]
      exact e1
    · obtain ⟨s', p', e', r'⟩ := ih m (e_I s 57 (p + 1) (nI (l.getD p 0))) (by omega) (by omega) (SH_I h) (ag_I hg rfl) (fun j hj => by rw [rII_ne (Or.inr (by omega))]; exact h1 j (by omega)) (fun j hj hj2 => by
        by_cases hjp : j = p
        · subst hjp; exact rII_eq
        · rw [rII_ne (Or.inr (by omega))]; exact h2 j (by omega) hj2) (fun j hj hj2 => by
        by_cases hjp : j = p
        · subst hjp; exact c
        · exact h3 j (by omega) hj2)
      refine ⟨s', p', hx _ ?_, r'⟩
      rw [if_neg c]
      exact e'
/-- sorted, by places -/
def SO (f : Nat → Int32) (l : List Nat) : Prop := ∀ j k, j < k → k < l.length → f (l.getD j 0) ≤ f (l.getD k 0)
theorem SO_ins {f : Nat → Int32} {l : List Nat} (h : SO f l) {i p : Nat} (hp : p ≤ l.length) (h1 : ∀ j, p ≤ j → j < l.length → ¬ f (l.getD j 0) ≤ f i) (h2 : p = 0 ∨ f (l.getD (p - 1) 0) ≤ f i) : SO f (l.take p ++ i :: l.drop p) := by
  intro j k hjk hk
  rw [ins_len] at hk
  rw [ins_getD l i hp, ins_getD l i hp]
  by_cases k1 : k < p
  · rw [if_pos (show j < p by omega), if_pos k1]
    exact h j k hjk (by omega)
  · rw [if_neg k1]
    by_cases k2 : k = p
    · rw [if_pos k2, if_pos (show j < p by omega)]
      rcases h2 with z | z
      · omega
      · by_cases c : j = p - 1
        · rw [c]; exact z
        · exact Int32.le_trans (h j (p - 1) (by omega) (by omega)) z
    · rw [if_neg k2]
      by_cases j1 : j < p
      · rw [if_pos j1]
        exact h j (k - 1) (by omega) (by omega)
      · rw [if_neg j1]
        by_cases j2 : j = p
        · rw [if_pos j2]
          have := h1 (k - 1) (by omega) (by omega)
          exact (Int32.le_total _ _).resolve_right this
        · rw [if_neg j2]
          exact h (j - 1) (k - 1) (by omega) (by omega)
/-- the points that are asked for, in the order of their addresses -/
def ordL (q : List (List Int32)) (g ctr : Int32) : List Nat := ((List.range q.length).filter (chF q g ctr)).mergeSort (fun a b => decide (pg q a 1 ≤ pg q b 1))
/-- no two points have one address -/
def W4 (A : aS) : Prop := ∀ i j, i < (A.2.2 0).length → j < (A.2.2 0).length → pg (A.2.2 0) i 1 = pg (A.2.2 0) j 1 → i = j
theorem SO_pw {f : Nat → Int32} {l : List Nat} (h : SO f l) : l.Pairwise (fun a b => f a ≤ f b) := by
  rw [List.pairwise_iff_getElem]
  intro i j hi hj hij
  have := h i j hij hj
  rw [List.getD_eq_getElem?_getD, List.getD_eq_getElem?_getD, List.getElem?_eq_getElem hi, List.getElem?_eq_getElem hj] at this
  exact this
theorem ord_eq {A : aS} (w4 : W4 A) (g ctr : Int32) {l : List Nat} (hp : l.Perm ((List.range (A.2.2 0).length).filter (chF (A.2.2 0) g ctr))) (hs : l.Pairwise (fun a b => pg (A.2.2 0) a 1 ≤ pg (A.2.2 0) b 1)) : l = ordL (A.2.2 0) g ctr := by
  have p2 := List.mergeSort_perm ((List.range (A.2.2 0).length).filter (chF (A.2.2 0) g ctr)) (fun a b => decide (pg (A.2.2 0) a 1 ≤ pg (A.2.2 0) b 1))
  have m : ∀ x, x ∈ (List.range (A.2.2 0).length).filter (chF (A.2.2 0) g ctr) → x < (A.2.2 0).length := fun x hx => List.mem_range.mp (List.mem_filter.mp hx).1
  refine List.Perm.eq_of_pairwise (le := fun a b => pg (A.2.2 0) a 1 ≤ pg (A.2.2 0) b 1) (fun a b ha hb h1 h2 => ?_) hs ?_ (hp.trans p2.symm)
  · exact w4 a b (m a (hp.mem_iff.mp ha)) (m b (p2.mem_iff.mp hb)) (Int32.le_antisymm h1 h2)
  · have := List.pairwise_mergeSort (le := fun a b => decide (pg (A.2.2 0) a 1 ≤ pg (A.2.2 0) b 1)) (fun a b c h1 h2 => decide_eq_true (Int32.le_trans (of_decide_eq_true h1) (of_decide_eq_true h2))) (fun a b => by
      rcases Int32.le_total (pg (A.2.2 0) a 1) (pg (A.2.2 0) b 1) with z | z
      · rw [decide_eq_true z, Bool.true_or]
      · rw [decide_eq_true z, Bool.or_true]) ((List.range (A.2.2 0).length).filter (chF (A.2.2 0) g ctr))
    exact this.imp (fun h => of_decide_eq_true h)
theorem ordL_lt {q : List (List Int32)} {g ctr : Int32} {x : Nat} (hx : x ∈ ordL q g ctr) : x < q.length :=
  List.mem_range.mp (List.mem_filter.mp ((List.mergeSort_perm _ _).mem_iff.mp hx)).1
theorem ordL_len (q : List (List Int32)) (g ctr : Int32) : (ordL q g ctr).length ≤ q.length := by
  unfold ordL
  rw [(List.mergeSort_perm _ _).length_eq]
  exact Nat.le_trans (List.length_filter_le _ _) (by rw [List.length_range]; exact Nat.le_refl _)
set_option maxRecDepth 100000 in
/-- the row of the points is made -/
theorem M_row (g ctr cause : Int32) {s0 : eS} {A : aS} (r : RM s0 A) (w4 : W4 A) : ∀ (d i m : Nat) (s : eS) (l : List Nat), i + d = (A.2.2 0).length → d < m → SH s → ag x57 s0 s → RW s l → SO (fun x => pg (A.2.2 0) x 1) l → l.Perm ((List.range i).filter (chF (A.2.2 0) g ctr)) →
    ∃ s', mX12_objects_6 m 26 g ctr cause (nI l.length) (nI i) s = mX12_objects_127 100000 26 ctr cause (nI (ordL (A.2.2 0) g ctr).length) 0 s' ∧ SH s' ∧ ag x57 s0 s' ∧ RW s' (ordL (A.2.2 0) g ctr) := by
  obtain ⟨m1, m2, m3⟩ := r.2.2.2.2.1
  have hpt : ∀ i, i < (A.2.2 0).length → pg (A.2.2 0) i 0 = sI s0 28 i ∧ pg (A.2.2 0) i 1 = sI s0 29 i ∧ pg (A.2.2 0) i 2 = sI s0 30 i := fun i hi => by
    unfold pg
    rw [MP_get r.2.2.2.2.1 hi]
    exact ⟨rfl, rfl, rfl⟩
  intro d
  induction d with
  | zero =>
    intro i m s l hi hm h hg hw hs hp
    obtain ⟨m, rfl⟩ : ∃ q, m = q + 1 := ⟨m - 1, by omega⟩
    rw [Nat.add_zero] at hi
    subst hi
    have el := ord_eq w4 g ctr hp (SO_pw hs)
    refine ⟨s, ?_, h, hg, by rw [← el]; exact hw⟩
    conv => lhs; unfold mX12_objects_6
    rw [gI_26 h, b1S, xN_x hg 26 1 (by decide), m1, if_pos (nI_le (Nat.le_refl _) (by omega)), el]
  | succ d ih =>
    intro i m s l hi hm h hg hw hs hp
    obtain ⟨m, rfl⟩ : ∃ q, m = q + 1 := ⟨m - 1, by omega⟩
    have hin : i < (A.2.2 0).length := by omega
    obtain ⟨t0, t1, t2⟩ := hpt i hin
    have hii : ¬ nI i < 0 ∧ (nI i).toNatClampNeg < 24 := nIc (by omega) (by omega)
    have ci : (nI i).toNatClampNeg = i := nI_clamp (by omega)
    have hmem : ∀ x, x ∈ l → x < i := fun x hx => List.mem_range.mp (List.mem_filter.mp (hp.mem_iff.mp hx)).1
    have hlen : l.length ≤ i := by
      rw [hp.length_eq]
      exact Nat.le_trans (List.length_filter_le _ _) (by rw [List.length_range]; exact Nat.le_refl _)
    have hll : ∀ j, j < l.length → l.getD j 0 < i := fun j hj => hmem _ (by
      rw [List.getD_eq_getElem?_getD, List.getElem?_eq_getElem hj]
      exact List.getElem_mem hj)
    have rng : (List.range (i + 1)).filter (chF (A.2.2 0) g ctr) = (List.range i).filter (chF (A.2.2 0) g ctr) ++ (if chF (A.2.2 0) g ctr i = true then [i] else []) := by
      rw [List.range_succ, List.filter_append]
      congr 1
      rw [List.filter_cons]
      rfl
    -- not taken
    have no : chF (A.2.2 0) g ctr i = false → ∃ s', mX12_objects_6 m 26 g ctr cause (nI l.length) (nI (i + 1)) s = mX12_objects_127 100000 26 ctr cause (nI (ordL (A.2.2 0) g ctr).length) 0 s' ∧ SH s' ∧ ag x57 s0 s' ∧ RW s' (ordL (A.2.2 0) g ctr) := fun c =>
      ih (i + 1) m s l (by omega) (by omega) h hg hw hs (by rw [rng, c, if_neg (by decide), List.append_nil]; exact hp)
    -- taken
    have yes : chF (A.2.2 0) g ctr i = true → ∃ s', mX12_objects_51 (mX12_objects_6 m) 26 g ctr cause (nI l.length) (nI i) s = mX12_objects_127 100000 26 ctr cause (nI (ordL (A.2.2 0) g ctr).length) 0 s' ∧ SH s' ∧ ag x57 s0 s' ∧ RW s' (ordL (A.2.2 0) g ctr) := fun c => by
      obtain ⟨s1, p, e1, h1, g1, hpl, w1, q1, q2⟩ := M_row_loop (mX12_objects_6 m) g ctr cause (s0 := s0) (l := l) (fun j hj => by have := hll j hj; omega) (by omega) (i := i) (by omega) l.length 100000 s (Nat.le_refl _) (by omega) h hg (fun j hj => hw j hj) (fun j a b => by omega) (fun j a b => by omega)
      have q1' : ∀ j, p ≤ j → j < l.length → ¬ pg (A.2.2 0) (l.getD j 0) 1 ≤ pg (A.2.2 0) i 1 := fun j a b => by
        rw [(hpt _ (Nat.lt_trans (hll j b) hin)).2.1, t1]
        exact q1 j a b
      have q2' : p = 0 ∨ pg (A.2.2 0) (l.getD (p - 1) 0) 1 ≤ pg (A.2.2 0) i 1 := by
        by_cases p0 : p = 0
        · exact Or.inl p0
        · rcases q2 with z | z
          · exact Or.inl z
          · rw [(hpt _ (Nat.lt_trans (hll (p - 1) (by omega)) hin)).2.1, t1]
            exact Or.inr z
      obtain ⟨s2, e2, r2⟩ := ih (i + 1) m s1 _ (by omega) (by omega) h1 g1 w1 (SO_ins hs hpl q1' q2') (by
        rw [rng, c, if_pos rfl]
        exact (ins_perm l i p).trans ((List.perm_cons i).mpr hp |>.trans (List.perm_append_singleton _ _).symm))
      refine ⟨s2, ?_, r2⟩
      rw [ins_len] at e2
      unfold mX12_objects_51
      rw [e1, e2]
    have key : ∀ x : Int32, x = (if pg (A.2.2 0) i 0 = 6 then 1 else 0) → ∃ s', mX12_objects_32 (mX12_objects_6 m) 26 g ctr cause (nI l.length) (nI i) x s = mX12_objects_127 100000 26 ctr cause (nI (ordL (A.2.2 0) g ctr).length) 0 s' ∧ SH s' ∧ ag x57 s0 s' ∧ RW s' (ordL (A.2.2 0) g ctr) := by
      intro x hx
      unfold mX12_objects_32 mX12_objects_118
      have ech : chF (A.2.2 0) g ctr i = (decide (x = ctr) && (decide (g = 0) || decide (pg (A.2.2 0) i 2 = g))) := by rw [hx]; rfl
      by_cases c1 : x = ctr
      · rw [if_pos c1]
        by_cases c2 : g = 0
        · rw [if_pos c2]
          exact yes (by rw [ech, decide_eq_true c1, decide_eq_true c2]; rfl)
        · rw [if_neg c2, gP_26_4 h, b1S, b1S, aI_30 h hii, b1S, ci, xN_x hg 30 _ (by decide), ← t2]
          by_cases c3 : pg (A.2.2 0) i 2 = g
          · rw [if_pos c3]
            exact yes (by rw [ech, decide_eq_true c1, decide_eq_true c3, Bool.or_true]; rfl)
          · rw [if_neg c3, nI_1]
            exact no (by rw [ech, decide_eq_false c2, decide_eq_false c3]; simp)
      · rw [if_neg c1, nI_1]
        exact no (by rw [ech, decide_eq_false c1]; rfl)
    unfold mX12_objects_6
    rw [gI_26 h, b1S, xN_x hg 26 1 (by decide), m1, if_neg (nI_ge (by omega) (by omega)), gP_26_2 h, b1S, b1S, aI_28 h hii, b1S, ci, xN_x hg 28 _ (by decide), ← t0]
    by_cases c6 : pg (A.2.2 0) i 0 = 6
    · rw [if_pos c6]
      exact key _ (by rw [if_pos c6])
    · rw [if_neg c6]
      exact key _ (by rw [if_neg c6])
