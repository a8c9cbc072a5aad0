/-! ===== the model answers ===== -/
def a_wait (A : aS) (bs : List Int32) : aS := if A.1 7 = 0 then A else if (A.2.2 4).length = 60 then a_close A 7 else uq A 4 (A.2.2 4 ++ [bs])
abbrev xWT : Nat → Nat → Bool := fun a k => a == 52 || a == 53 || (a == 26 && k == 45)
set_option maxRecDepth 100000 in
theorem M_waits_loop {bs : List Int32} (hbs : bs.length ≤ 249) {n : Nat} (hn : n < 60) {s0 : eS} (hd0 : DR s0 bs) (hc : sI s0 26 45 = nI n) : ∀ (d k m : Nat) (s : eS), k + d = bs.length → d < m → SH s → ag (fun a _ => a == 53) s0 s → (∀ i, i < k → sI s 53 (249 * n + i) = sI s0 56 i) → (∀ j, j < 249 * n → sI s 53 j = sI s0 53 j) →
    ∃ s', mX12_waits_41 m 26 (nI k) s = some (1, e_I s' 26 45 (nI (n + 1))) ∧ SH s' ∧ ag (fun a _ => a == 53) s0 s' ∧ (∀ i, i < bs.length → sI s' 53 (249 * n + i) = sI s0 56 i) ∧ ∀ j, j < 249 * n → sI s' 53 j = sI s0 53 j := by
  intro d
  induction d with
  | zero =>
    intro k m s hk hm h hg hd ho
    obtain ⟨m, rfl⟩ : ∃ q, m = q + 1 := ⟨m - 1, by omega⟩
    unfold mX12_waits_41
    rw [gI_26 h, b1S, hg.2 26 53 rfl, hd0.1, if_pos (nI_le (by omega) (by omega)), gI_26 h, b1S, hg.2 26 45 rfl, hc, nI_1, pI_26 h, b1S, oZ1, b1S]
    rw [show k = bs.length by omega] at hd
    exact ⟨s, rfl, h, hg, hd, ho⟩
  | succ d ih =>
    intro k m s hk hm h hg hd ho
    obtain ⟨m, rfl⟩ : ∃ q, m = q + 1 := ⟨m - 1, by omega⟩
    have hi1 : ¬ nI k < 0 ∧ (nI k).toNatClampNeg < 260 := nIc (by omega) (by omega)
    have hi2 : ¬ nI (249 * n + k) < 0 ∧ (nI (249 * n + k)).toNatClampNeg < 14940 := nIc (by omega) (by omega)
    unfold mX12_waits_41
    rw [gI_26 h, b1S, hg.2 26 53 rfl, hd0.1, if_neg (nI_ge (by omega) (by omega)), gP_26_47 h, b1S, gI_26 h, b1S, hg.2 26 45 rfl, hc, gP_26_52 h, b1S, b1S, aI_56 h hi1, b1S, b1S, nI_clamp (by omega), hg.2 56 k rfl, nI_mul249, sI_53 h hi2, b1S, nI_clamp (by omega), nI_1]
    refine ih (k + 1) m _ (by omega) (by omega) (SH_I h) (ag_I hg rfl) (fun i hi => ?_) (fun j hj => ?_)
    · by_cases hik : i = k
      · subst hik; exact rII_eq
      · rw [rII_ne (Or.inr (by omega))]; exact hd i (by omega)
    · rw [rII_ne (Or.inr (by omega))]; exact ho j hj
set_option maxRecDepth 100000 in
theorem M_waits {s : eS} (h : SH s) {A : aS} (r : RM s A) (w : W1 A) {bs : List Int32} (hbs : bs.length ≤ 249) (hd : DR s bs) : ∃ x s', mX12_waits 26 s = some (x, s') ∧ SH s' ∧ ag xM s s' ∧ RM s' (a_wait A bs) := by
  have r0 := r
  obtain ⟨a1, a2, a3, a4, a5, a6, a7, a8, ⟨b1', b2', b3', b4'⟩⟩ := r
  have e7 : sI s 26 35 = A.1 7 := a1 7 (by decide)
  unfold mX12_waits a_wait
  rw [gI_26 h, b1S, e7]
  by_cases c0 : A.1 7 = 0
  · rw [if_pos c0, if_pos c0, oZ0, b1S]
    exact ⟨0, s, rfl, h, ag_rf, r0⟩
  · rw [if_neg c0, if_neg c0, gI_26 h, b1S, b1']
    by_cases c6 : (A.2.2 4).length = 60
    · rw [if_pos c6, if_pos (by rw [c6]; rfl)]
      obtain ⟨s1, e1, h1, g1, r1⟩ := M_closes h r0 (by have := w.2.1; omega) 7
      refine ⟨0, s1, ?_, h1, g1, r1⟩
      rw [oK_26 h, b1S, e1, b1S, oZ0, b1S]
    · have hlt : (A.2.2 4).length < 60 := by omega
      rw [if_neg c6, if_neg (show ¬ nI (A.2.2 4).length = 60 from fun z => c6 ((nI_eq (by omega) (by decide)).mp (show nI (A.2.2 4).length = nI 60 from z)))]
      have hi : ¬ nI (A.2.2 4).length < 0 ∧ (nI (A.2.2 4).length).toNatClampNeg < 60 := nIc (by omega) hlt
      have h1 : SH (e_I s 52 (A.2.2 4).length (nI bs.length)) := SH_I h
      have d1 : DR (e_I s 52 (A.2.2 4).length (nI bs.length)) bs := DR_ag (X := fun a _ => a == 52) (ag_I ag_rf rfl) hd rfl (fun k => rfl)
      obtain ⟨s2, e2, h2, g2, f2, o2⟩ := M_waits_loop hbs hlt d1 ((rII_ne (Or.inl (by decide))).trans b1') bs.length 0 100000 _ (by omega) (by omega) h1 ag_rf (fun i hi => absurd hi (Nat.not_lt_zero i)) (fun _ _ => rfl)
      have G : ag xWT s (e_I s2 26 45 (nI ((A.2.2 4).length + 1))) := ag_I (ag_tr (ag_I ag_rf rfl) (ag_mono g2 (fun a k hx => by
        simp only [xWT, Bool.or_eq_false_iff, Bool.and_eq_false_iff, beq_eq_false_iff_ne] at hx ⊢
        omega))) rfl
      refine ⟨1, e_I s2 26 45 (nI ((A.2.2 4).length + 1)), ?_, SH_I h2, ag_mono G (fun a k hx => ?_), ?_⟩
      · rw [gP_26_46 h, b1S, b1S, gI_26 h, b1S, hd.1, b1S, sI_52 h hi, b1S, nI_clamp (by omega)]
        exact e2
      · simp only [xM, Bool.and_eq_false_iff, decide_eq_false_iff_not, Bool.not_eq_false', beq_iff_eq] at hx
        simp only [xWT, Bool.or_eq_false_iff, Bool.and_eq_false_iff, beq_eq_false_iff_ne]
        omega
      · refine ⟨MI_A (MI_ag G a1 (by decide)) rfl, OU_ag G a2 rfl (fun k => rfl), MX_ag G a3 rfl (fun k => rfl), ML_ag G a4 ⟨rfl, rfl, rfl⟩ (fun k => ⟨rfl, rfl⟩), MP_ag G a5 rfl (fun k => ⟨rfl, rfl, rfl, rfl, rfl, rfl, rfl⟩), MC_ag G a6 rfl (fun k => ⟨rfl, rfl, rfl, rfl, rfl⟩), MS_ag G a7 rfl (fun k => ⟨rfl, rfl, rfl, rfl⟩) (fun k => ⟨rfl, rfl⟩), ME_ag G a8 rfl (fun k => ⟨rfl, rfl, rfl, rfl⟩), ?_⟩
        show MA _ (A.2.2 4 ++ [bs])
        have q52 : ∀ i, sI (e_I s2 26 45 (nI ((A.2.2 4).length + 1))) 52 i = if i = (A.2.2 4).length then nI bs.length else sI s 52 i := fun i => by
          rw [rII_ne (Or.inl (by decide)), g2.2 52 i rfl, rII, if_pos rfl]
        have q53 : ∀ j, j < 249 * (A.2.2 4).length → sI (e_I s2 26 45 (nI ((A.2.2 4).length + 1))) 53 j = sI s 53 j := fun j hj => by
          rw [rII_ne (Or.inl (by decide)), o2 j hj, rII_ne (Or.inl (by decide))]
        have hnew : anM (e_I s2 26 45 (nI ((A.2.2 4).length + 1))) (A.2.2 4).length = bs := by
          unfold anM
          rw [q52, if_pos rfl, nI_clamp (by omega)]
          conv => rhs; rw [← hd.2]
          exact rd_congr (fun i hi => by rw [rII_ne (Or.inl (by decide)), f2 i hi, rII_ne (Or.inl (by decide))])
        have hold : ∀ i, i < (A.2.2 4).length → anM (e_I s2 26 45 (nI ((A.2.2 4).length + 1))) i = anM s i := fun i hi => by
          unfold anM
          rw [q52, if_neg (by omega)]
          obtain ⟨n', hn', en'⟩ := b4' i hi
          rw [en', nI_clamp (by omega)]
          exact rd_congr (fun k hk => q53 _ (by omega))
        refine ⟨?_, ?_, ?_, fun i hi => ?_⟩
        · rw [rII_eq, List.length_append]; rfl
        · rw [List.length_append]; show (A.2.2 4).length + 1 ≤ 60; omega
        · rw [List.length_append]
          show rd _ ((A.2.2 4).length + 1) = _
          rw [rd_succ, hnew, rd_congr hold, b3']
        · rw [List.length_append] at hi
          by_cases hin : i = (A.2.2 4).length
          · exact ⟨bs.length, hbs, by rw [q52, if_pos hin]⟩
          · rw [q52, if_neg hin]
            exact b4' i (by have : i < (A.2.2 4).length + 1 := hi; omega)
theorem W1_wait {A : aS} (w : W1 A) {bs : List Int32} (hbs : bs.length ≤ 249) : W1 (a_wait A bs) := by
  unfold a_wait
  split
  · exact w
  · split
    · exact W1_close w 7
    · obtain ⟨h1, h2, h3, h4, h5, h6, h7⟩ := w
      refine ⟨h1, h2, h3, h4, h5, h6, fun x hx => ?_⟩
      have hx' : x ∈ A.2.2 4 ++ [bs] := hx
      rcases List.mem_append.mp hx' with z | z
      · exact h7 x z
      · rw [List.mem_singleton.mp z]; exact hbs
/-- the rest of the frame that came -/
def rb (F : List Int32) : List Int32 := F.drop 6
def a_same (A : aS) (F : List Int32) (cause den : Int32) : aS := a_wait A ((rb F).set 2 ((cause ||| (if den = 0 then 0 else 64)) ||| ((rb F).getD 2 0 &&& 128)))
def FR (s : eS) (F : List Int32) : Prop := rd (sI s 55) F.length = F
theorem FR_ag {X : Nat → Nat → Bool} {s s' : eS} {F : List Int32} (g : ag X s s') (h : FR s F) (h2 : ∀ k, X 55 k = false) : FR s' F := by
  unfold FR
  rw [rd_congr (fun i _ => g.2 55 i (h2 i))]
  exact h
theorem FR_M {s s' : eS} {F : List Int32} (g : ag xM s s') (h : FR s F) : FR s' F := FR_ag g h (fun k => by simp [xM])
/-- a whole frame stands: its length is its second byte and two -/
def fullF (F : List Int32) (n : Nat) : Prop := F.length = n + 6 ∧ n ≤ 249 ∧ F.getD 1 0 = nI (n + 4)
theorem rb_len {F : List Int32} {n : Nat} (f : fullF F n) : (rb F).length = n := by
  unfold rb
  rw [List.length_drop, f.1]
  omega
theorem FR_at {s : eS} {F : List Int32} (r : FR s F) {k : Nat} (hk : k < F.length) : sI s 55 k = F.getD k 0 := by
  have := rd_getD (sI s 55) 0 hk
  rw [show rd (sI s 55) F.length = F from r] at this
  exact this.symm
theorem rb_at {s : eS} {F : List Int32} (r : FR s F) {n : Nat} (f : fullF F n) {k : Nat} (hk : k < n) : sI s 55 (6 + k) = (rb F).getD k 0 := by
  rw [FR_at r (by rw [f.1]; omega)]
  unfold rb
  rw [List.getD_eq_getElem?_getD, List.getD_eq_getElem?_getD, List.getElem?_drop]
theorem M_at {s : eS} (h : SH s) {F : List Int32} (r : FR s F) {n : Nat} (f : fullF F n) {k : Nat} (hk : k < n) : mX12_at 26 (nI k) s = some ((rb F).getD k 0, s) := by
  unfold mX12_at
  have hn := f.2.1
  have e6 : (6 : Int32) + nI k = nI (6 + k) := by rw [show (6 : Int32) = nI 6 from rfl, nI_add]
  rw [gP_26_50 h, b1S, b1S, e6, aI_55 h (nIc (by omega) (by omega)), b1S, nI_clamp (by omega), rb_at r f hk]
set_option maxRecDepth 100000 in
theorem M_same_loop {A : aS} {F : List Int32} {n : Nat} (f : fullF F n) (cause den : Int32) {s0 : eS} : ∀ (d k m : Nat) (s : eS), k + d = n → d < m → SH s → RM s A → FR s F → ag xDR s0 s → sI s 26 53 = nI n → rd (sI s 56) k = (rb F).take k →
    ∃ s' m', mX12_same_14 m 26 cause den (nI k) s = mX12_same_14 (m' + 1) 26 cause den (nI n) s' ∧ SH s' ∧ ag xDR s0 s' ∧ RM s' A ∧ FR s' F ∧ DR s' (rb F) := by
  intro d
  have hn := f.2.1
  induction d with
  | zero =>
    intro k m s hk hm h r fr hg hd ho
    obtain ⟨m, rfl⟩ : ∃ q, m = q + 1 := ⟨m - 1, by omega⟩
    rw [show k = n by omega] at ho ⊢
    have e := rb_len f
    rw [List.take_of_length_le (by omega)] at ho
    exact ⟨s, m, rfl, h, hg, r, fr, by rw [e]; exact hd, by rw [e]; exact ho⟩
  | succ d ih =>
    intro k m s hk hm h r fr hg hd ho
    obtain ⟨m, rfl⟩ : ∃ q, m = q + 1 := ⟨m - 1, by omega⟩
    have e := rb_len f
    have hi : ¬ nI k < 0 ∧ (nI k).toNatClampNeg < 260 := nIc (by omega) (by omega)
    have hv : (rb F)[k]? = some ((rb F).getD k 0) := by
      rw [List.getD_eq_getElem?_getD, List.getElem?_eq_getElem (by omega)]; rfl
    have g1 : ag xDR s (e_I s 56 k ((rb F).getD k 0)) := ag_I ag_rf rfl
    obtain ⟨s', m', e', r'⟩ := ih (k + 1) m (e_I s 56 k ((rb F).getD k 0)) (by omega) (by omega) (SH_I h) (RM_DR g1 r) (FR_ag g1 fr (fun k => rfl)) (ag_tr hg g1) ((rII_ne (Or.inl (by decide))).trans hd) (by
      rw [rd_succ, rII_eq, List.take_add_one, hv, ← ho]
      congr 1
      exact rd_congr (fun i hi => rII_ne (Or.inr (by omega))))
    refine ⟨s', m', ?_, r'⟩
    rw [← e']
    conv => lhs; unfold mX12_same_14
    rw [gI_26 h, b1S, hd, if_neg (nI_ge (by omega) (by omega)), gP_26_52 h, b1S, oK_26 h, b1S, M_at h fr f (by omega), b2S, b1S, sI_56 h hi, b1S, nI_clamp (by omega), nI_1]
set_option maxRecDepth 100000 in
theorem M_same {s : eS} (h : SH s) {A : aS} (r : RM s A) (w : W1 A) {F : List Int32} (fr : FR s F) {n : Nat} (f : fullF F n) (hn3 : 3 ≤ n) (cause den : Int32) : ∃ s', mX12_same 26 cause den s = some s' ∧ SH s' ∧ ag xM s s' ∧ RM s' (a_same A F cause den) := by
  have hn := f.2.1
  have e1 : sI s 55 1 = nI (n + 4) := (FR_at fr (by rw [f.1]; omega)).trans f.2.2
  have e4 : nI (n + 4) - 4 = nI n := by rw [show (4 : Int32) = nI 4 from rfl, pk_sub (by omega)]; congr 1
  have el := rb_len f
  have g0 : ag xDR s (e_I s 26 53 (nI n)) := ag_I ag_rf rfl
  obtain ⟨s1, m', x1, h1, g1, r1, fr1, d1⟩ := M_same_loop f cause den (s0 := e_I s 26 53 (nI n)) n 0 100000 _ (by omega) (by omega) (SH_I h) (RM_DR g0 r) (FR_ag g0 fr (fun k => rfl)) ag_rf rII_eq rfl
  have G1 := ag_tr g0 g1
  -- the cause
  have key : ∀ pt0 : Int32, ∃ s', mX12_same_55 26 pt0 cause 2 (some 56) s1 = some s' ∧ SH s' ∧ ag xM s1 s' ∧ RM s' (a_wait A ((rb F).set 2 ((cause ||| pt0) ||| ((rb F).getD 2 0 &&& 128)))) := by
    intro pt0
    have h2 : SH (e_I s1 56 2 ((cause ||| pt0) ||| ((rb F).getD 2 0 &&& 128))) := SH_I h1
    have g2 : ag xDR s1 (e_I s1 56 2 ((cause ||| pt0) ||| ((rb F).getD 2 0 &&& 128))) := ag_I ag_rf rfl
    have d2 : DR (e_I s1 56 2 ((cause ||| pt0) ||| ((rb F).getD 2 0 &&& 128))) ((rb F).set 2 ((cause ||| pt0) ||| ((rb F).getD 2 0 &&& 128))) := by
      refine ⟨?_, ?_⟩
      · rw [List.length_set, rII_ne (Or.inl (by decide))]; exact d1.1
      · rw [List.length_set]
        apply List.ext_getElem?
        intro i
        by_cases hi : i < (rb F).length
        · rw [rd_get _ hi]
          by_cases h2i : i = 2
          · subst h2i
            rw [rII_eq, List.getElem?_set_self hi]
          · rw [rII_ne (Or.inr h2i), List.getElem?_set_ne (Ne.symm h2i)]
            have := rd_get (sI s1 56) hi
            rw [d1.2] at this
            exact this.symm
        · rw [List.getElem?_eq_none (by rw [rd_len]; omega), List.getElem?_eq_none (by rw [List.length_set]; omega)]
    obtain ⟨x, s3, e3, h3, g3, r3⟩ := M_waits h2 (RM_DR g2 r1) w (by rw [List.length_set, el]; exact hn) d2
    refine ⟨s3, ?_, h3, ag_tr (xM_DR g2) g3, r3⟩
    unfold mX12_same_55
    rw [oK_26 h1, b1S, show mX12_at 26 2 s1 = some ((rb F).getD 2 0, s1) from M_at h1 fr1 f (k := 2) (by omega), b2S, b1S, sI_56 h1 (by decide), b1S, show (2 : Int32).toNatClampNeg = 2 from rfl, oK_26 h2, b1S, e3, b2S]
  have ef : mX12_same 26 cause den s = (if den = 0 then (mX12_same_55 26 (0 : Int32) cause (2 : Int32) (some 56) s1) else (mX12_same_55 26 (64 : Int32) cause (2 : Int32) (some 56) s1)) := by
    unfold mX12_same
    rw [gP_26_50 h, b1S, b1S, aI_55 h (by decide), b1S, show (1 : Int32).toNatClampNeg = 1 from rfl, e1, e4, pI_26 h, b1S]
    rw [show mX12_same_14 100000 26 cause den 0 (e_I s 26 53 (nI n)) = _ from x1]
    conv => lhs; unfold mX12_same_14
    rw [gI_26 h1, b1S, d1.1, el, if_pos (nI_le (Nat.le_refl _) (by omega)), gP_26_52 h1, b1S]
  rw [ef]
  unfold a_same
  by_cases c : den = 0
  · rw [if_pos c, if_pos c]
    obtain ⟨s', e', h', g', r'⟩ := key 0
    exact ⟨s', e', h', ag_tr (xM_DR G1) g', r'⟩
  · rw [if_neg c, if_neg c]
    obtain ⟨s', e', h', g', r'⟩ := key 64
    exact ⟨s', e', h', ag_tr (xM_DR G1) g', r'⟩
