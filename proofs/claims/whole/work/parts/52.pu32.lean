theorem lt_c {c : Int32} (n : Nat) {k : Nat} (h : k < n) (hn : n < 2 ^ 31 := by omega) (hc : c = nI n := by rfl) : nI k < c := by rw [hc]; exact nI_lt h hn
theorem nlt_c {c : Int32} (n : Nat) {k : Nat} (h : n ≤ k) (hk : k < 2 ^ 31 := by omega) (hc : c = nI n := by rfl) : ¬ nI k < c := by rw [hc]; exact nI_nlt h hk
theorem c_lt {c : Int32} (n : Nat) {k : Nat} (h : n < k) (hk : k < 2 ^ 31 := by omega) (hc : c = nI n := by rfl) : c < nI k := by rw [hc]; exact nI_lt h hk
theorem c_nlt {c : Int32} (n : Nat) {k : Nat} (h : k ≤ n) (hn : n < 2 ^ 31 := by omega) (hc : c = nI n := by rfl) : ¬ c < nI k := by rw [hc]; exact nI_nlt h hn
theorem c_le {c : Int32} (n : Nat) {k : Nat} (h : n ≤ k) (hk : k < 2 ^ 31 := by omega) (hc : c = nI n := by rfl) : c ≤ nI k := by rw [hc]; exact nI_le h hk
theorem c_nle {c : Int32} (n : Nat) {k : Nat} (h : k < n) (hn : n < 2 ^ 31 := by omega) (hc : c = nI n := by rfl) : ¬ c ≤ nI k := by rw [hc]; exact nI_ge h hn
/-! ===== a Message of the station: where it lies, what it holds ===== -/
def MG (s : eS) (a r : Nat) : Prop := (a < sn s ∧ sK s a = 104) ∧ sP s a 0 = some r ∧ (r < sn s ∧ sK s r = 1) ∧ sN s r = 249
def MT (s : eS) (a r : Nat) (l : List Int32) : Prop := sI s a 1 = nI l.length ∧ l.length ≤ 249 ∧ ∀ i, i < l.length → l.getD i 0 = sI s r i &&& 255
abbrev xMs (a r : Nat) : Nat → Nat → Bool := fun b k => (b == a && k == 1) || b == r
theorem MG_ne {s : eS} {a r : Nat} (g : MG s a r) : a ≠ r := fun e => by
  have h1 := g.1.2
  have h2 := g.2.2.1.2
  rw [← e, h1] at h2
  cases h2
theorem MG_ag {X : Nat → Nat → Bool} {s s' : eS} {a r : Nat} (hg : ag X s s') (g : MG s a r) : MG s' a r := by
  obtain ⟨⟨a1, a2, a3, a4, a5, a6⟩, a7⟩ := hg
  unfold MG
  rw [a1, a2, a4, a5]
  exact g
theorem MT_ag {X : Nat → Nat → Bool} {s s' : eS} {a r : Nat} {l : List Int32} (hg : ag X s s') (t : MT s a r l) (h1 : X a 1 = false) (h2 : ∀ k, X r k = false) : MT s' a r l :=
  ⟨(hg.2 a 1 h1).trans t.1, t.2.1, fun i hi => by rw [hg.2 r i (h2 i)]; exact t.2.2 i hi⟩
section
variable {s : eS} {a r : Nat}
theorem mgI (g : MG s a r) {k : Nat} : g_I s 104 k a = some (sI s a k) := if_pos g.1
theorem mgP (g : MG s a r) : g_P s 104 0 a = some (some r) := (if_pos g.1).trans (by rw [g.2.1])
theorem mgp (g : MG s a r) {k : Nat} {x : Int32} : p_I s 104 k a x = some (e_I s a k x) := if_pos g.1
theorem mgK (g : MG s a r) : o_K s 104 a = some () := if_pos g.1
theorem mgA (g : MG s a r) {i : Nat} (hi : i < 249) : a_I s 1 r (nI i) = some (sI s r i) := by
  unfold a_I
  rw [nI_clamp (by omega), if_pos ⟨g.2.2.1, nI_pos (by omega), by rw [g.2.2.2]; exact hi⟩]
theorem mgB (g : MG s a r) {i : Nat} (hi : i < 249) {x : Int32} : s_B s 1 r (nI i) x = some (e_I s r i x.toInt8.toInt32) := by
  unfold s_B s_I
  rw [nI_clamp (by omega), if_pos ⟨g.2.2.1, nI_pos (by omega), by rw [g.2.2.2]; exact hi⟩]
theorem MG_I (g : MG s a r) {b k : Nat} {x : Int32} : MG (e_I s b k x) a r := g
theorem S_clear (g : MG s a r) : mX4_clear a s = some (e_I s a 1 0) ∧ MT (e_I s a 1 0) a r [] := by
  refine ⟨?_, rII_eq, by decide, fun i hi => absurd hi (by simp)⟩
  unfold mX4_clear
  rw [mgp g, b1S]
theorem S_at (g : MG s a r) {l : List Int32} (t : MT s a r l) {i : Nat} (hi : i < 2 ^ 31) : mX4_at a (nI i) s = some (l.getD i 0, s) := by
  unfold mX4_at
  rw [if_neg (nI_pos hi), mgI g, b1S, t.1]
  by_cases h : i < l.length
  · have h249 : i < 249 := Nat.lt_of_lt_of_le h t.2.1
    rw [if_neg (nI_ge h (Nat.lt_of_le_of_lt t.2.1 (by decide))), if_pos (lt_c (c := 249) 249 h249), mgP g, b1S, b1S, mgA g h249, b1S, ← t.2.2 i h]
    rfl
  · rw [if_pos (nI_le (by omega) hi), List.getD_eq_getElem?_getD, List.getElem?_eq_none (by omega)]
    rfl
end
theorem MT_app {s s' : eS} {a r : Nat} {l : List Int32} {b : Int32} (t : MT s a r l) (hn : sI s' a 1 = nI (l.length + 1)) (hl : l.length < 249) (h1 : ∀ i, i < l.length → sI s' r i = sI s r i) (h2 : sI s' r l.length &&& 255 = b) : MT s' a r (l ++ [b]) := by
  refine ⟨by rw [hn, List.length_append]; rfl, by rw [List.length_append]; exact hl, fun i hi => ?_⟩
  rw [List.length_append] at hi
  by_cases h : i < l.length
  · rw [h1 i h, ← t.2.2 i h, List.getD_eq_getElem?_getD, List.getElem?_append_left h, ← List.getD_eq_getElem?_getD]
  · have e : i = l.length := by simp at hi; omega
    subst e
    rw [List.getD_eq_getElem?_getD, List.getElem?_append_right (Nat.le_refl _), Nat.sub_self, h2]
    rfl
set_option maxRecDepth 100000 in
theorem S_add_loop {a r : Nat} (x : Int64) {n : Nat} (hn : n ≤ 249) {s0 : eS} {l : List Int32} (hl : l.length + n ≤ 249) : ∀ (d k m : Nat) (s : eS), k + d = n → d < m → MG s a r → ag (xMs a r) s0 s → MT s a r (l ++ lb x k) →
    ∃ s', mX4_add_3 m a x (nI n) (nI k) s = some s' ∧ ag (xMs a r) s0 s' ∧ MT s' a r (l ++ lb x n) := by
  intro d
  induction d with
  | zero =>
    intro k m s hk hm g hg t
    obtain ⟨m, rfl⟩ : ∃ q, m = q + 1 := ⟨m - 1, by omega⟩
    unfold mX4_add_3
    rw [if_pos (nI_le (by omega) (by omega)), show n = k by omega]
    exact ⟨s, rfl, hg, t⟩
  | succ d ih =>
    intro k m s hk hm g hg t
    obtain ⟨m, rfl⟩ : ∃ q, m = q + 1 := ⟨m - 1, by omega⟩
    have hlen : (l ++ lb x k).length = l.length + k := by rw [List.length_append, lb_len]
    have hlt : l.length + k < 249 := by omega
    have hne := MG_ne g
    have e1 := t.1
    rw [hlen] at e1
    unfold mX4_add_3
    rw [if_neg (nI_ge (by omega) (by omega)), mgI g, b1S, e1, if_neg (nI_pos (by omega)), b1S, if_neg (c_nle (c := 249) 249 hlt), mgP g, b1S, b1S, b1S, mgB g hlt, b1S, mgI (MG_I g), b1S, mgp (MG_I g), b1S, rII_ne (Or.inl hne), e1, nI_1, nI_1]
    refine ih (k + 1) m _ (by omega) (by omega) (MG_I (MG_I g)) (ag_I (ag_I hg (by simp [xMs])) (by simp [xMs])) ?_
    rw [lb_succ, ← List.append_assoc]
    refine MT_app t (by rw [rII_eq, hlen]) (by omega) (fun i hi => ?_) ?_
    · rw [rII_ne (Or.inl (Ne.symm hne)), rII_ne (Or.inr (by omega))]
    · rw [rII_ne (Or.inl (Ne.symm hne)), hlen, rII_eq, i8i8, by_i8]
      rfl
theorem S_add {s : eS} {a r : Nat} (g : MG s a r) {l : List Int32} (t : MT s a r l) (x : Int64) {n : Nat} (hl : l.length + n ≤ 249) : ∃ s', mX4_add a x (nI n) s = some s' ∧ ag (xMs a r) s s' ∧ MT s' a r (l ++ lb x n) := by
  unfold mX4_add
  exact S_add_loop x (by omega) hl n 0 100000 s (by omega) (by omega) g ag_rf (by rw [show lb x 0 = [] from rfl, List.append_nil]; exact t)
theorem S_replace {s : eS} {a r : Nat} (g : MG s a r) {l : List Int32} (t : MT s a r l) {i : Nat} (hi : i < l.length) (x : Int32) : mX4_replace a (nI i) x s = some (e_I s r i x.toInt8.toInt32) ∧ MT (e_I s r i x.toInt8.toInt32) a r (l.set i (x &&& 255)) := by
  have h249 : i < 249 := Nat.lt_of_lt_of_le hi t.2.1
  have hne := MG_ne g
  constructor
  · unfold mX4_replace
    rw [if_neg (nI_pos (by omega)), mgI g, b1S, t.1, if_neg (nI_ge hi (Nat.lt_of_le_of_lt t.2.1 (by decide))), if_neg (c_nle (c := 249) 249 h249), mgP g, b1S, b1S, mgB g h249, b1S, i8i8]
    rfl
  · refine ⟨by rw [rII_ne (Or.inl hne), List.length_set]; exact t.1, by rw [List.length_set]; exact t.2.1, fun j hj => ?_⟩
    rw [List.length_set] at hj
    rw [List.getD_eq_getElem?_getD, List.getElem?_set]
    by_cases h : i = j
    · subst h
      rw [if_pos rfl, if_pos hi, rII_eq, by_i8]
      rfl
    · rw [if_neg h, ← List.getD_eq_getElem?_getD, rII_ne (Or.inr (fun e => h e.symm)), t.2.2 j hj]
theorem min249 {n : Nat} (h : n ≤ 249) : (if (0 : Int32) < (if (249 : Int32) < nI n then (249 : Int32) else nI n) then (if (249 : Int32) < nI n then (249 : Int32) else nI n) else (0 : Int32)) = nI n := by
  rw [if_neg (c_nlt (c := 249) 249 h)]
  by_cases h0 : n = 0
  · subst h0; rfl
  · rw [if_pos (c_lt (c := 0) 0 (by omega))]
theorem S_copy {s : eS} {a r b r2 : Nat} (g : MG s a r) (g2 : MG s b r2) (hab : a ≠ b) (hr : r ≠ r2) {l : List Int32} (t : MT s b r2 l) : ∃ s', mX4_copy a (some b) s = some s' ∧ ag (xMs a r) s s' ∧ MT s' a r l := by
  have hne := MG_ne g
  have hra : r2 ≠ a := fun e => by
    have h1 := g.1.2
    have h2 := g2.2.2.1.2
    rw [e, h1] at h2
    cases h2
  have h31 : l.length < 2 ^ 31 := Nat.lt_of_le_of_lt t.2.1 (by decide)
  unfold mX4_copy
  rw [b1S, mgI g2, b1S, t.1, min249 t.2.1, mgp g, b1S, mgP (MG_I g2), b1S, mgP (MG_I g), b1S, mgI (MG_I g), b1S, b1S, b1S, rII_eq]
  refine ⟨_, by
    unfold c_I
    rw [if_pos ⟨g2.2.2.1, g.2.2.1, ⟨by decide, by decide, nI_pos h31⟩, by rw [nI_clamp h31]; show 0 + _ ≤ sN s r2; rw [g2.2.2.2]; have := t.2.1; omega, by rw [nI_clamp h31]; show 0 + _ ≤ sN s r; rw [g.2.2.2]; have := t.2.1; omega⟩, b1S], ?_, ?_⟩
  · refine ⟨⟨rfl, rfl, rfl, rfl, rfl, rfl⟩, fun b' k hx => ?_⟩
    simp only [xMs, Bool.or_eq_false_iff, beq_eq_false_iff_ne, Bool.and_eq_false_iff] at hx
    show e_row _ r _ b' k = _
    unfold e_row
    rw [if_neg hx.2, rII_ne hx.1]
  · refine ⟨?_, t.2.1, fun i hi => ?_⟩
    · show e_row _ r _ a 1 = _
      unfold e_row
      rw [if_neg hne, rII_eq]
    · show _ = e_row _ r _ r i &&& 255
      unfold e_row
      rw [if_pos rfl, nI_clamp h31, show (0 : Int32).toNatClampNeg = 0 from rfl, pk_cpy_in (by omega) (by omega), rII_ne (Or.inl hra), t.2.2 i hi]
      congr 2
      omega
/-- the number that bytes make -/
def numB (B : Nat → Nat) : Nat → Nat → Nat
  | 0, acc => acc
  | n + 1, acc => numB B n (acc * 256 + B n)
theorem uN_ext {x y : Int64} (h : uN x = uN y) : x = y := Int64.toBitVec_inj.mp (BitVec.eq_of_toNat_eq h)
theorem acc_step {acc b : Nat} (ha : acc < 2 ^ 55) (hb : b < 256) : (lN acc <<< ((8 : Int32).toInt64 &&& 63)) ||| (nI b).toInt64 = lN (acc * 256 + b) := by
  apply uN_ext
  rw [uN_or, uN_shl _ _ 8 (by decide +kernel), uN_lN (by omega), uN_i2l (by omega), uN_lN (by omega), Nat.mod_eq_of_lt (by omega), Nat.or_comm, or_add (k := 8) hb]
  omega
theorem S_number_loop {s : eS} {a r : Nat} (g : MG s a r) {l : List Int32} (t : MT s a r l) (f : Nat) (hf : f < 2 ^ 30) (B : Nat → Nat) : ∀ (j acc m : Nat), j < m → j ≤ 7 → acc * 256 ^ j < 2 ^ 56 → (∀ i, i < j → B i < 256 ∧ l.getD (f + i) 0 = nI (B i)) → mX4_number_7 m a (nI f) (lN acc) (nI j + (-1)) s = some (lN (numB B j acc), s) := by
  intro j
  induction j with
  | zero =>
    intro acc m hm _ _ _
    obtain ⟨m, rfl⟩ : ∃ q, m = q + 1 := ⟨m - 1, by omega⟩
    unfold mX4_number_7
    rw [if_pos (by decide)]
    rfl
  | succ j ih =>
    intro acc m hm hj ha hB
    obtain ⟨m, rfl⟩ : ∃ q, m = q + 1 := ⟨m - 1, by omega⟩
    have hb := hB j (by omega)
    have ha2 : acc < 2 ^ 48 := by
      have h1 : 256 ≤ 256 ^ (j + 1) := by rw [Nat.pow_succ]; have := Nat.pow_pos (n := j) (show 0 < 256 by omega); omega
      have h2 := Nat.mul_le_mul_left acc h1
      omega
    unfold mX4_number_7
    rw [pk_m1, if_neg (nI_pos (by omega)), mgK g, b1S, nI_add, S_at g t (by omega), b2S, hb.2, acc_step (by omega) hb.1]
    refine ih _ m (by omega) (by omega) ?_ (fun i hi => hB i (by omega))
    rw [Nat.pow_succ] at ha
    have h3 := Nat.pow_pos (n := j) (show 0 < 256 by omega)
    have h4 : (acc * 256 + B j) * 256 ^ j ≤ acc * (256 ^ j * 256) + 255 * 256 ^ j := by
      rw [Nat.add_mul]
      have := Nat.mul_le_mul_right (256 ^ j) (show B j ≤ 255 by have := hb.1; omega)
      rw [show acc * 256 * 256 ^ j = acc * (256 ^ j * 256) by rw [Nat.mul_assoc, Nat.mul_comm 256]]
      omega
    by_cases h0 : acc = 0
    · subst h0
      have h5 : 256 ^ j ≤ 256 ^ 6 := Nat.pow_le_pow_right (by omega) (by omega)
      have h6 : (256 : Nat) ^ 6 = 281474976710656 := by decide
      omega
    · have h7 : (acc + 1) * (256 ^ j * 256) ≤ 2 ^ 56 := by
        obtain ⟨c, hc⟩ : ∃ c, 2 ^ 56 = c * (256 ^ j * 256) := ⟨256 ^ (6 - j), by
          rw [← Nat.pow_succ, ← Nat.pow_add, show 6 - j + (j + 1) = 7 by omega]⟩
        rw [hc] at ha ⊢
        exact Nat.mul_le_mul_right _ (Nat.lt_of_mul_lt_mul_right ha)
      rw [Nat.add_mul] at h7
      omega
theorem S_number {s : eS} {a r : Nat} (g : MG s a r) {l : List Int32} (t : MT s a r l) (f n : Nat) (hf : f < 2 ^ 30) (hn : n ≤ 7) (B : Nat → Nat) (hB : ∀ i, i < n → B i < 256 ∧ l.getD (f + i) 0 = nI (B i)) : mX4_number a (nI f) (nI n) s = some (lN (numB B n 0), s) := by
  unfold mX4_number
  rw [← pk_e1]
  exact S_number_loop g t f hf B n 0 100000 (by omega) hn (by omega) hB
