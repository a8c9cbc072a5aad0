/-! ===== the shape: 0 .. 25 the station, 26 .. 57 the model; what comes later is at 58 and above ===== -/
def kT : List Nat := [111, 0, 107, 4, 4, 5, 109, 101, 103, 4, 3, 3, 104, 1, 100, 6, 104, 1, 108, 104, 1, 110, 0, 2, 105, 1, 112, 0, 0, 0, 0, 2, 0, 0, 0, 0, 0, 0, 2, 0, 0, 0, 0, 0, 0, 0, 0, 2, 0, 0, 0, 0, 0, 0, 0, 0, 0, 0]
def nT : List Nat := [0, 7, 0, 24, 24, 12, 0, 0, 0, 52, 52, 52, 0, 249, 0, 60, 0, 249, 0, 0, 249, 0, 12, 12, 0, 4096, 0, 7, 24, 24, 24, 24, 24, 24, 24, 12, 12, 12, 12, 12, 3, 6, 60, 60, 60, 420, 12, 12, 12, 12, 12, 84, 60, 14940, 4096, 256, 260, 24]
def pF : Nat → Nat → Option Nat := fun a k => match a, k with
  | 0, 0 => some 1
  | 0, 1 => some 2
  | 0, 2 => some 5
  | 0, 4 => some 6
  | 0, 5 => some 7
  | 0, 6 => some 8
  | 0, 7 => some 14
  | 0, 8 => some 18
  | 0, 9 => some 21
  | 0, 10 => some 24
  | 2, 0 => some 3
  | 2, 1 => some 4
  | 8, 0 => some 9
  | 8, 1 => some 10
  | 8, 2 => some 11
  | 8, 3 => some 12
  | 12, 0 => some 13
  | 14, 0 => some 15
  | 14, 1 => some 16
  | 16, 0 => some 17
  | 18, 0 => some 19
  | 19, 0 => some 20
  | 21, 0 => some 22
  | 21, 1 => some 23
  | 24, 0 => some 25
  | 26, 0 => some 27
  | 26, 2 => some 28
  | 26, 3 => some 29
  | 26, 4 => some 30
  | 26, 5 => some 31
  | 26, 6 => some 32
  | 26, 7 => some 33
  | 26, 8 => some 34
  | 26, 10 => some 35
  | 26, 11 => some 36
  | 26, 12 => some 37
  | 26, 13 => some 38
  | 26, 14 => some 39
  | 26, 18 => some 40
  | 26, 21 => some 41
  | 26, 24 => some 42
  | 26, 25 => some 43
  | 26, 26 => some 44
  | 26, 27 => some 45
  | 26, 29 => some 46
  | 26, 30 => some 47
  | 26, 31 => some 48
  | 26, 32 => some 49
  | 26, 33 => some 50
  | 26, 34 => some 51
  | 26, 46 => some 52
  | 26, 47 => some 53
  | 26, 48 => some 54
  | 26, 50 => some 55
  | 26, 52 => some 56
  | 26, 54 => some 57
  | _, _ => none
def pL : List (Nat × Nat) := [(0, 0), (0, 1), (0, 2), (0, 4), (0, 5), (0, 6), (0, 7), (0, 8), (0, 9), (0, 10), (2, 0), (2, 1), (8, 0), (8, 1), (8, 2), (8, 3), (12, 0), (14, 0), (14, 1), (16, 0), (18, 0), (19, 0), (21, 0), (21, 1), (24, 0), (26, 0), (26, 2), (26, 3), (26, 4), (26, 5), (26, 6), (26, 7), (26, 8), (26, 10), (26, 11), (26, 12), (26, 13), (26, 14), (26, 18), (26, 21), (26, 24), (26, 25), (26, 26), (26, 27), (26, 29), (26, 30), (26, 31), (26, 32), (26, 33), (26, 34), (26, 46), (26, 47), (26, 48), (26, 50), (26, 52), (26, 54)]
def SH (s : eS) : Prop := (58 ≤ sn s ∧ sn s ≤ 100000) ∧ (∀ a, a < 58 → sK s a = kT.getD a 0 ∧ sN s a = nT.getD a 0) ∧ ∀ q ∈ pL, sP s q.1 q.2 = pF q.1 q.2
section SHR
variable {s : eS} {t k a : Nat} {i x : Int32}
theorem SH_I (h : SH s) : SH (e_I s a k x) := h
theorem SH_L {x : Int64} (h : SH s) : SH (e_L s a k x) := h
theorem SH_IR {g : Nat → Int32} (h : SH s) : SH (e_IR s a g) := h
theorem SH_P {r : Option Nat} (h : SH s) (hp : (a, k) ∉ pL) : SH (e_P s a k r) := ⟨h.1, h.2.1, fun q hq => by
  show e_u (sP s) a k r q.1 q.2 = _
  unfold e_u
  by_cases h1 : q.1 = a
  · by_cases h2 : q.2 = k
    · exact absurd hq (by rw [show q = (a, k) from Prod.ext h1 h2]; exact hp)
    · rw [if_pos h1, if_neg h2]; exact h.2.2 q hq
  · rw [if_neg h1]; exact h.2.2 q hq⟩
theorem sh_lt (h : SH s) (ha : a < 58) : a < sn s := Nat.lt_of_lt_of_le ha h.1.1
theorem sh_k (h : SH s) (ha : a < 58) (ht : kT.getD a 0 = t) : a < sn s ∧ sK s a = t := ⟨sh_lt h ha, (h.2.1 a ha).1.trans ht⟩
theorem gI_s (h : SH s) (ha : a < 58) (ht : kT.getD a 0 = t) : g_I s t k a = some (sI s a k) := if_pos (sh_k h ha ht)
theorem gPv (h : SH s) (ha : a < 58) (ht : kT.getD a 0 = t) : g_P s t k a = some (sP s a k) := if_pos (sh_k h ha ht)
theorem gP_s (h : SH s) (ha : a < 58) (ht : kT.getD a 0 = t) (hp : (a, k) ∈ pL) : g_P s t k a = some (pF a k) := by
  rw [gPv h ha ht, h.2.2 _ hp]
theorem pI_s (h : SH s) (ha : a < 58) (ht : kT.getD a 0 = t) : p_I s t k a x = some (e_I s a k x) := if_pos (sh_k h ha ht)
theorem pZ_s (h : SH s) (ha : a < 58) (ht : kT.getD a 0 = t) (hx : x = 0 ∨ x = 1) : p_Z s t k a x = some (e_I s a k x) := if_pos ⟨sh_k h ha ht, hx⟩
theorem pP_s {r : Option Nat} (h : SH s) (ha : a < 58) (ht : kT.getD a 0 = t) : p_P s t k a r = some (e_P s a k r) := if_pos (sh_k h ha ht)
theorem oK_s (h : SH s) (ha : a < 58) (ht : kT.getD a 0 = t) : o_K s t a = some () := if_pos (sh_k h ha ht)
theorem sh_n (h : SH s) (ha : a < 58) {n : Nat} (hn : nT.getD a 0 = n) (hi : ¬ i < 0 ∧ i.toNatClampNeg < n) : ¬ i < 0 ∧ i.toNatClampNeg < sN s a := ⟨hi.1, by rw [(h.2.1 a ha).2, hn]; exact hi.2⟩
theorem aI_s (h : SH s) (ha : a < 58) (ht : kT.getD a 0 = t) (hi : ¬ i < 0 ∧ i.toNatClampNeg < nT.getD a 0) : a_I s t a i = some (sI s a i.toNatClampNeg) := if_pos ⟨sh_k h ha ht, sh_n h ha rfl hi⟩
theorem aL_s (h : SH s) (ha : a < 58) (ht : kT.getD a 0 = t) (hi : ¬ i < 0 ∧ i.toNatClampNeg < nT.getD a 0) : a_L s t a i = some (sL s a i.toNatClampNeg) := if_pos ⟨sh_k h ha ht, sh_n h ha rfl hi⟩
theorem aP_s (h : SH s) (ha : a < 58) (ht : kT.getD a 0 = t) (hi : ¬ i < 0 ∧ i.toNatClampNeg < nT.getD a 0) : a_P s t a i = some (sP s a i.toNatClampNeg) := if_pos ⟨sh_k h ha ht, sh_n h ha rfl hi⟩
theorem sI_s (h : SH s) (ha : a < 58) (ht : kT.getD a 0 = t) (hi : ¬ i < 0 ∧ i.toNatClampNeg < nT.getD a 0) : s_I s t a i x = some (e_I s a i.toNatClampNeg x) := if_pos ⟨sh_k h ha ht, sh_n h ha rfl hi⟩
theorem sB_s (h : SH s) (ha : a < 58) (ht : kT.getD a 0 = t) (hi : ¬ i < 0 ∧ i.toNatClampNeg < nT.getD a 0) : s_B s t a i x = some (e_I s a i.toNatClampNeg x.toInt8.toInt32) := sI_s h ha ht hi
theorem sZ_s (h : SH s) (ha : a < 58) (ht : kT.getD a 0 = t) (hi : ¬ i < 0 ∧ i.toNatClampNeg < nT.getD a 0) : s_Z s t a i x = some (e_I s a i.toNatClampNeg (x &&& 1)) := sI_s h ha ht hi
end SHR
/-! reads over writes -/
section RW
variable {s : eS} {a k b j : Nat} {x : Int32}
theorem rII : sI (e_I s a k x) b j = if b = a then (if j = k then x else sI s b j) else sI s b j := rfl
theorem rII_row (h : b ≠ a) : sI (e_I s a k x) b = sI s b := (e_same_I s a k x).2.2.2.2 b h |>.1
theorem rII_ne (h : b ≠ a ∨ j ≠ k) : sI (e_I s a k x) b j = sI s b j := by
  rw [rII]
  rcases h with h | h
  · rw [if_neg h]
  · rw [if_neg h]; split <;> rfl
theorem rII_eq : sI (e_I s a k x) a k = x := by rw [rII, if_pos rfl, if_pos rfl]
theorem rLI : sL (e_I s a k x) = sL s := rfl
theorem rPI : sP (e_I s a k x) = sP s := rfl
theorem rKI : sK (e_I s a k x) = sK s := rfl
theorem rNI : sN (e_I s a k x) = sN s := rfl
theorem rnI : sn (e_I s a k x) = sn s := rfl
theorem rsI : ss (e_I s a k x) = ss s := rfl
theorem b1S {α β : Type} (x : α) (k : α → Option β) : b1 (some x) k = k x := rfl
theorem b2S {α β : Type} (x : α) (s : eS) (k : α → eS → Option β) : b2 (some (x, s)) k = k x s := rfl
theorem oZ0 : o_Z 0 = some () := rfl
theorem oZ1 : o_Z 1 = some () := rfl
end RW
theorem nIc {n : Nat} (h : n < 2 ^ 31) {m : Nat} (hm : n < m) : ¬ nI n < 0 ∧ (nI n).toNatClampNeg < m := ⟨nI_pos h, by rw [nI_clamp h]; exact hm⟩
