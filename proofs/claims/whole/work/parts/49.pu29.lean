/-! ===== what is called: set, out, take, told, ordered ===== -/
theorem RM_stg {s : eS} {A : aS} (r : RM s A) {k : Nat} (hk : k < 7) (x : Int32) : RM (e_I s 27 k x) (ui A k x) := by
  obtain ⟨a1, a2, a3, a4, a5, a6, a7, a8, a9⟩ := r
  have g : ag (fun a _ => a == 27) s (e_I s 27 k x) := ag_I ag_rf rfl
  have hj : ∀ k, k < 7 → ∀ i, i < 26 → (mc i = (27, k) ↔ i = k) := by decide
  exact ⟨MI_set a1 (hj k hk), OU_ag g a2 rfl (fun k => rfl), MX_ag g a3 rfl (fun k => rfl), ML_ag g a4 ⟨rfl, rfl, rfl⟩ (fun k => ⟨rfl, rfl⟩), MP_ag g a5 rfl (fun k => ⟨rfl, rfl, rfl, rfl, rfl, rfl, rfl⟩), MC_ag g a6 rfl (fun k => ⟨rfl, rfl, rfl, rfl, rfl⟩), MS_ag g a7 rfl (fun k => ⟨rfl, rfl, rfl, rfl⟩) (fun k => ⟨rfl, rfl⟩), ME_ag g a8 rfl (fun k => ⟨rfl, rfl, rfl, rfl⟩), MA_ag g a9 rfl (fun k => ⟨rfl, rfl⟩)⟩
def okSet (i v : Int32) : Int32 := if i = 0 then inL v.toInt64 0 65534 else if i = 1 then inL v.toInt64 1 12 else if i = 2 then inL v.toInt64 1 12 else if inL i.toInt64 3 6 = 0 then 0 else if inL v.toInt64 1 1000 = 0 then 0 else 1
def a_set (A : aS) (i v : Int32) : Int32 × aS := if okSet i v = 0 then (-1, A) else if A.1 7 = 0 then (A.1 i.toNatClampNeg, ui A i.toNatClampNeg v) else (-2, A)
theorem okSet_in {i v : Int32} (h : okSet i v ≠ 0) : ∃ k, k < 7 ∧ i = nI k := by
  unfold okSet at h
  by_cases c0 : i = 0
  · exact ⟨0, by decide, c0⟩
  · rw [if_neg c0] at h
    by_cases c1 : i = 1
    · exact ⟨1, by decide, c1⟩
    · rw [if_neg c1] at h
      by_cases c2 : i = 2
      · exact ⟨2, by decide, c2⟩
      · rw [if_neg c2] at h
        by_cases c3 : inL i.toInt64 3 6 = 0
        · rw [if_pos c3] at h; exact absurd rfl h
        · obtain ⟨k, k1, k2, k3, e⟩ := inL_nI c3 (by decide)
          have k2' : (k : Int) ≤ 6 := k2
          exact ⟨k, by omega, e⟩
theorem M_set {s : eS} (h : SH s) {A : aS} (r : RM s A) (i v : Int32) : ∃ s', mX12_set 26 i v s = some ((a_set A i v).1, s') ∧ SH s' ∧ ag xA s s' ∧ RM s' (a_set A i v).2 := by
  have e7 : sI s 26 35 = A.1 7 := r.1 7 (by decide)
  have e : mX12_set 26 i v s = mX12_set_69 26 i v (okSet i v) s := by
    unfold mX12_set mX12_set_26 mX12_set_68 okSet
    by_cases c0 : i = 0
    · rw [if_pos c0, if_pos c0, M_in, b2S]
    · rw [if_neg c0, if_neg c0]
      by_cases c1 : i = 1
      · rw [if_pos c1, if_pos c1, M_in, b2S]
      · rw [if_neg c1, if_neg c1]
        by_cases c2 : i = 2
        · rw [if_pos c2, if_pos c2, M_in, b2S]
        · rw [if_neg c2, if_neg c2, M_in, b2S]
          by_cases c3 : inL i.toInt64 3 6 = 0
          · rw [if_pos c3, if_pos c3]
          · rw [if_neg c3, if_neg c3, M_in, b2S]
            by_cases c4 : inL v.toInt64 1 1000 = 0
            · rw [if_pos c4, if_pos c4]
            · rw [if_neg c4, if_neg c4]
  rw [e]
  unfold mX12_set_69 a_set
  by_cases c : okSet i v = 0
  · rw [if_pos c, if_pos c]
    exact ⟨s, rfl, h, ag_rf, r⟩
  · rw [if_neg c, if_neg c, gI_26 h, b1S, e7]
    by_cases c7 : A.1 7 = 0
    · rw [if_pos c7, if_pos c7]
      obtain ⟨k, hk, rfl⟩ := okSet_in c
      have hi : ¬ nI k < 0 ∧ (nI k).toNatClampNeg < 7 := nIc (by omega) hk
      have m : ∀ k, k < 7 → mc k = (27, k) := by decide
      have := r.1 k (by omega)
      rw [m k hk] at this
      rw [gP_26_0 h, b1S, b1S, aI_27 h hi, b1S, b1S, b1S, sI_27 h hi, b1S, nI_clamp (by omega), this]
      exact ⟨_, rfl, SH_I h, ag_I ag_rf rfl, RM_stg r hk v⟩
    · rw [if_neg c7, if_neg c7]
      exact ⟨s, rfl, h, ag_rf, r⟩
theorem in_len {x : Int32} {n : Nat} (hn : n < 2 ^ 30) (h : inL x.toInt64 0 (nI n - 1).toInt64 ≠ 0) : ∃ k, k < n ∧ x = nI k := by
  obtain ⟨k, k1, k2, k3, e⟩ := inL_nI h (by decide)
  rw [Int32.toInt_toInt64, show nI n - 1 = nI n - nI 1 from rfl, pk_sub_toInt hn (by decide)] at k2
  exact ⟨k, by omega, e⟩
def a_out (A : aS) (x : Int32) : Int32 := if inL x.toInt64 0 (nI (A.2.1 0).length - 1).toInt64 = 0 then -1 else (A.2.1 0).getD x.toNatClampNeg 0
theorem M_out {C : Nat} {s : eS} (h : SH s) {A : aS} (r : RM s A) (w : WW C A) (x : Int32) : mX12_out 26 x s = some (a_out A x, s) := by
  obtain ⟨o1, o2⟩ := r.2.1
  have hl := w.1.1
  unfold mX12_out mX12_out_26 a_out
  rw [gI_26 h, b1S, o1, M_in, b2S]
  by_cases c : inL x.toInt64 0 (nI (A.2.1 0).length - 1).toInt64 = 0
  · rw [if_pos c, if_pos c]
  · rw [if_neg c, if_neg c]
    obtain ⟨k, hk, rfl⟩ := in_len (by omega) c
    have := rd_getD (sI s 54) 0 hk
    rw [o2] at this
    rw [gP_26_48 h, b1S, b1S, aI_54 h (nIc (by omega) (by omega)), b1S, nI_clamp (by omega), this]
def a_take (A : aS) (x : Int32) : Int32 × aS := if inL x.toInt64 0 (nI (A.2.1 0).length).toInt64 = 0 then (-1, A) else (nI ((A.2.1 0).length - x.toNatClampNeg), ul A 0 ((A.2.1 0).drop x.toNatClampNeg))
set_option maxRecDepth 100000 in
theorem M_take_loop {l : List Int32} (hl : l.length ≤ 4096) {k : Nat} (hk : k ≤ l.length) {s0 : eS} (h0 : rd (sI s0 54) l.length = l) : ∀ (d i m : Nat) (s : eS), i + d = l.length - k → d < m → SH s → ag (fun a _ => a == 54) s0 s → sI s 26 49 = nI (l.length - k) → (∀ j, j < i → sI s 54 j = l.getD (j + k) 0) → (∀ j, i ≤ j → j < l.length → sI s 54 j = l.getD j 0) →
    ∃ s', mX12_take_28 m 26 (nI k) (nI i) s = some (nI (l.length - k), s') ∧ SH s' ∧ ag (fun a _ => a == 54) s0 s' ∧ sI s' 26 49 = nI (l.length - k) ∧ ∀ j, j < l.length - k → sI s' 54 j = l.getD (j + k) 0 := by
  intro d
  induction d with
  | zero =>
    intro i m s hi hm h hg hc h1 h2
    obtain ⟨m, rfl⟩ : ∃ q, m = q + 1 := ⟨m - 1, by omega⟩
    refine ⟨s, ?_, h, hg, hc, fun j hj => h1 j (by omega)⟩
    unfold mX12_take_28
    rw [gI_26 h, b1S, hc, if_pos (nI_le (by omega) (by omega)), b1S]
  | succ d ih =>
    intro i m s hi hm h hg hc h1 h2
    obtain ⟨m, rfl⟩ : ∃ q, m = q + 1 := ⟨m - 1, by omega⟩
    obtain ⟨s', e', r'⟩ := ih (i + 1) m (e_I s 54 i (l.getD (i + k) 0)) (by omega) (by omega) (SH_I h) (ag_I hg rfl) ((rII_ne (Or.inl (by decide))).trans hc) (fun j hj => by
      by_cases hji : j = i
      · subst hji; exact rII_eq
      · rw [rII_ne (Or.inr hji)]; exact h1 j (by omega)) (fun j hj hj2 => by rw [rII_ne (Or.inr (by omega))]; exact h2 j (by omega) hj2)
    refine ⟨s', ?_, r'⟩
    rw [← e']
    conv => lhs; unfold mX12_take_28
    rw [gI_26 h, b1S, hc, if_neg (nI_ge (by omega) (by omega)), gP_26_48 h, b1S, b1S, b1S, nI_add, aI_54 h (nIc (by omega) (by omega)), b1S, nI_clamp (by omega), h2 (i + k) (by omega) (by omega), b1S, sI_54 h (nIc (by omega) (by omega)), b1S, nI_clamp (by omega), nI_1]
theorem M_take {C : Nat} {s : eS} (h : SH s) {A : aS} (r : RM s A) (w : WW C A) (x : Int32) : ∃ s', mX12_take 26 x s = some ((a_take A x).1, s') ∧ SH s' ∧ ag xA s s' ∧ RM s' (a_take A x).2 := by
  obtain ⟨o1, o2⟩ := r.2.1
  have hl := w.1.1
  unfold mX12_take a_take
  rw [gI_26 h, b1S, o1, M_in, b2S]
  by_cases c : inL x.toInt64 0 (nI (A.2.1 0).length).toInt64 = 0
  · rw [if_pos c, if_pos c]
    exact ⟨s, rfl, h, ag_rf, r⟩
  · rw [if_neg c, if_neg c]
    obtain ⟨k, k1, k2, k3, rfl⟩ := inL_nI c (by decide)
    rw [Int32.toInt_toInt64, nI_toInt (by omega)] at k2
    have hk : k ≤ (A.2.1 0).length := by omega
    rw [nI_clamp k3]
    have g1 : ag xOU s (e_I s 26 49 (nI ((A.2.1 0).length - k))) := ag_I ag_rf rfl
    have q : ∀ j, j < (A.2.1 0).length → sI s 54 j = (A.2.1 0).getD j 0 := fun j hj => by
      have := rd_getD (sI s 54) 0 hj
      rw [o2] at this
      exact this.symm
    obtain ⟨s1, e1, h1, g2, c1, q1⟩ := M_take_loop hl hk (s0 := e_I s 26 49 (nI ((A.2.1 0).length - k))) (by rw [rII_row (by decide)]; exact o2) ((A.2.1 0).length - k) 0 100000 _ (by omega) (by omega) (SH_I h) ag_rf rII_eq (fun j hj => absurd hj (Nat.not_lt_zero j)) (fun j _ hj => by rw [rII_ne (Or.inl (by decide))]; exact q j hj)
    have G : ag xOU s s1 := ag_tr g1 (ag_mono g2 (fun a k hx => by
      simp only [xOU, Bool.or_eq_false_iff] at hx
      exact hx.1))
    refine ⟨s1, ?_, h1, xA_N (xN_M (xM_OU G)), RM_OU G r ⟨?_, ?_⟩⟩
    · rw [gI_26 h, b1S, o1, pk_sub hk, pI_26 h, b1S]
      exact e1
    · rw [c1, List.length_drop]
    · rw [List.length_drop, rd_congr q1]
      apply List.ext_getElem?
      intro i
      by_cases hi : i < (A.2.1 0).length - k
      · rw [rd_get _ hi, List.getElem?_drop, gD, Nat.add_comm i k, List.getElem?_eq_getElem (by omega)]
        rfl
      · rw [List.getElem?_eq_none (by rw [rd_len]; omega), List.getElem?_eq_none (by rw [List.length_drop]; omega)]
def ptI (A : aS) (x : Int32) : Int32 := inL x.toInt64 0 (nI (A.2.2 0).length - 1).toInt64
theorem M_isPoint {s : eS} (h : SH s) {A : aS} (r : RM s A) (x : Int32) : mX12_isPoint 26 x s = some (ptI A x, s) := by
  unfold mX12_isPoint ptI
  rw [gI_26 h, b1S, r.2.2.2.2.1.1, M_in, b2S]
  have : o_Z (inL x.toInt64 0 (nI (A.2.2 0).length - 1).toInt64) = some () := by unfold inL; exact oZif (oZif oZ1)
  rw [this, b1S]
theorem ptI_in {s : eS} {A : aS} (r : RM s A) {x : Int32} (c : ptI A x ≠ 0) : ∃ p, p < (A.2.2 0).length ∧ x = nI p := in_len (by have := r.2.2.2.2.1.2.1; omega) c
