/-! ===== what is called: told, ordered; free addresses ===== -/
def a_told (A : aS) (x k : Int32) : Int32 := if ptI A x = 0 then 0 else if k = 0 then pg (A.2.2 0) x.toNatClampNeg 0 else if k = 1 then pg (A.2.2 0) x.toNatClampNeg 1 else if k = 2 then pg (A.2.2 0) x.toNatClampNeg 2 else if k = 3 then (if pg (A.2.2 0) x.toNatClampNeg 3 = 0 then 0 else 1) else if k = 4 then pg (A.2.2 0) x.toNatClampNeg 4 else if k = 5 then pg (A.2.2 0) x.toNatClampNeg 5 else if k = 6 then pg (A.2.2 0) x.toNatClampNeg 6 else 0
set_option maxRecDepth 100000 in
theorem M_told {s : eS} (h : SH s) {A : aS} (r : RM s A) (x k : Int32) : mX12_told 26 x k s = some (a_told A x k, s) := by
  unfold mX12_told mX12_told_87 a_told
  rw [oK_26 h, b1S, M_isPoint h r, b2S]
  by_cases c : ptI A x = 0
  · rw [if_pos c, if_pos c]
  · rw [if_neg c, if_neg c]
    obtain ⟨p, hp, rfl⟩ := ptI_in r c
    have m2 := r.2.2.2.2.1.2.1
    have hi : ¬ nI p < 0 ∧ (nI p).toNatClampNeg < 24 := nIc (by omega) (by omega)
    have cp : (nI p).toNatClampNeg = p := nI_clamp (by omega)
    have hpt := MP_get r.2.2.2.2.1 hp
    have t0 : pg (A.2.2 0) p 0 = sI s 28 p := by unfold pg; rw [hpt]; rfl
    have t1 : pg (A.2.2 0) p 1 = sI s 29 p := by unfold pg; rw [hpt]; rfl
    have t2 : pg (A.2.2 0) p 2 = sI s 30 p := by unfold pg; rw [hpt]; rfl
    have t3 : pg (A.2.2 0) p 3 = sI s 31 p := by unfold pg; rw [hpt]; rfl
    have t4 : pg (A.2.2 0) p 4 = sI s 32 p := by unfold pg; rw [hpt]; rfl
    have t5 : pg (A.2.2 0) p 5 = sI s 33 p := by unfold pg; rw [hpt]; rfl
    have t6 : pg (A.2.2 0) p 6 = sI s 34 p := by unfold pg; rw [hpt]; rfl
    rw [cp, t0, t1, t2, t3, t4, t5, t6]
    refine it2 (by rw [gP_26_2 h, b1S, b1S, aI_28 h hi, b1S, cp]) (it2 (by rw [gP_26_3 h, b1S, b1S, aI_29 h hi, b1S, cp]) (it2 (by rw [gP_26_4 h, b1S, b1S, aI_30 h hi, b1S, cp]) (it2 (by rw [gP_26_5 h, b1S, b1S, aI_31 h hi, b1S, cp]; exact it2 rfl rfl) (it2 (by rw [gP_26_6 h, b1S, b1S, aI_32 h hi, b1S, cp]) (it2 (by rw [gP_26_7 h, b1S, b1S, aI_33 h hi, b1S, cp]) (it2 (by rw [gP_26_8 h, b1S, b1S, aI_34 h hi, b1S, cp]) rfl))))))
def a_ordered (A : aS) (x k : Int32) : Int32 := if inL x.toInt64 0 (nI (A.2.2 1).length - 1).toInt64 = 0 then -1 else if inL k.toInt64 0 2 = 0 then -1 else if selI A = x then (if k = 0 then 1 else if k = 1 then A.1 6 - (A.1 9 - (A.2.1 2).getD 2 0) else pg (A.2.2 1) x.toNatClampNeg 4) else (if k = 0 then 0 else if k = 1 then 0 else pg (A.2.2 1) x.toNatClampNeg 4)
set_option maxRecDepth 100000 in
theorem M_ordered {s : eS} (h : SH s) {A : aS} (r : RM s A) (x k : Int32) : mX12_ordered 26 x k s = some (a_ordered A x k, s) := by
  have m2 := r.2.2.2.2.2.1.2.1
  unfold mX12_ordered mX12_ordered_28 a_ordered
  rw [gI_26 h, b1S, r.2.2.2.2.2.1.1, M_in, b2S]
  by_cases c : inL x.toInt64 0 (nI (A.2.2 1).length - 1).toInt64 = 0
  · rw [if_pos c, if_pos c]
  · rw [if_neg c, if_neg c, M_in, b2S]
    by_cases c2 : inL k.toInt64 0 2 = 0
    · rw [if_pos c2, if_pos c2]
    · rw [if_neg c2, if_neg c2, gI_26 h, b1S, RM_selI r]
      obtain ⟨p, hp, rfl⟩ := in_len (by omega) c
      have hi : ¬ nI p < 0 ∧ (nI p).toNatClampNeg < 12 := nIc (by omega) (by omega)
      have cp : (nI p).toNatClampNeg = p := nI_clamp (by omega)
      have e4 : pg (A.2.2 1) p 4 = sI s 39 p := by unfold pg; rw [MC_get r.2.2.2.2.2.1 hp]; rfl
      have e6 : sI s 27 6 = A.1 6 := r.1 6 (by decide)
      have e9 : sI s 26 20 = A.1 9 := r.1 9 (by decide)
      unfold mX12_ordered_43 mX12_ordered_99
      rw [cp, e4]
      by_cases cs : selI A = nI p
      · rw [if_pos cs, if_pos cs]
        have e16 : sI s 26 16 = (A.2.1 2).getD 2 0 := by
          rcases r.2.2.2.1 with ⟨a, b⟩ | ⟨d, hd, a, b⟩
          · exfalso
            have : selI A = -1 := by unfold selI; rw [b]; rfl
            rw [this] at cs
            have := nI_pos (n := p) (by omega)
            rw [← cs] at this
            exact this (by decide)
          · rw [b]; rfl
        refine it2 (by rw [if_neg (by decide)]) (it2 (by rw [if_neg (by decide), gP_26_0 h, b1S, b1S, aI_27 h (by decide), b1S, show (6 : Int32).toNatClampNeg = 6 from rfl, gI_26 h, b1S, gI_26 h, b1S, e6, e9, e16]) (by rw [gP_26_14 h, b1S, b1S, aI_39 h hi, b1S, cp]))
      · rw [if_neg cs, if_neg cs]
        refine it2 (by rw [if_pos rfl]) (it2 (by rw [if_pos rfl]) (by rw [gP_26_14 h, b1S, b1S, aI_39 h hi, b1S, cp]))
/-- no row from i on has this number at 1 -/
def noA (q : List (List Int32)) (x : Int32) : Nat → Nat → Int32 → Int32
  | 0, _, v => v
  | d + 1, i, v => noA q x d (i + 1) (if v = 0 then 0 else if pg q i 1 = x then 0 else 1)
def frF (A : aS) (x : Int32) : Int32 := noA (A.2.2 1) x (A.2.2 1).length 0 (noA (A.2.2 0) x (A.2.2 0).length 0 (inL x.toInt64 1 16777215))
theorem noA_Z (q : List (List Int32)) (x : Int32) : ∀ (d i : Nat) (v : Int32), o_Z v = some () → o_Z (noA q x d i v) = some ()
  | 0, _, _, h => h
  | d + 1, i, v, _ => noA_Z q x d (i + 1) _ (oZif (oZif oZ1))
theorem M_free48 {s : eS} (h : SH s) {A : aS} (r : RM s A) (x : Int32) : ∀ (d i m : Nat) (v : Int32), i + d = (A.2.2 1).length → d < m → o_Z v = some () → mX12_isFree_48 m 26 x v (nI i) s = some (noA (A.2.2 1) x d i v, s) := by
  obtain ⟨m1, m2, m3⟩ := r.2.2.2.2.2.1
  intro d
  induction d with
  | zero =>
    intro i m v hi hm hv
    obtain ⟨m, rfl⟩ : ∃ q, m = q + 1 := ⟨m - 1, by omega⟩
    unfold mX12_isFree_48 noA
    rw [gI_26 h, b1S, m1, if_pos (nI_le (by omega) (by omega)), hv, b1S]
  | succ d ih =>
    intro i m v hi hm hv
    obtain ⟨m, rfl⟩ : ∃ q, m = q + 1 := ⟨m - 1, by omega⟩
    have e1 : pg (A.2.2 1) i 1 = sI s 36 i := by unfold pg; rw [MC_get r.2.2.2.2.2.1 (by omega)]; rfl
    unfold mX12_isFree_48 mX12_isFree_74 mX12_isFree_75 noA
    rw [gI_26 h, b1S, m1, if_neg (nI_ge (by omega) (by omega)), nI_1]
    by_cases c : v = 0
    · rw [if_pos c, if_pos c]
      exact ih (i + 1) m 0 (by omega) (by omega) oZ0
    · rw [if_neg c, if_neg c, gP_26_11 h, b1S, b1S, aI_36 h (nIc (by omega) (by omega)), b1S, nI_clamp (by omega), ← e1]
      by_cases c2 : pg (A.2.2 1) i 1 = x
      · rw [if_pos c2, if_pos c2]
        exact ih (i + 1) m 0 (by omega) (by omega) oZ0
      · rw [if_neg c2, if_neg c2]
        exact ih (i + 1) m 1 (by omega) (by omega) oZ1
theorem M_free12 {s : eS} (h : SH s) {A : aS} (r : RM s A) (x : Int32) : ∀ (d i m : Nat) (v : Int32), i + d = (A.2.2 0).length → d < m → o_Z v = some () → mX12_isFree_12 m 26 x v (nI i) s = some (noA (A.2.2 1) x (A.2.2 1).length 0 (noA (A.2.2 0) x d i v), s) := by
  obtain ⟨m1, m2, m3⟩ := r.2.2.2.2.1
  have mc12 := r.2.2.2.2.2.1.2.1
  intro d
  induction d with
  | zero =>
    intro i m v hi hm hv
    obtain ⟨m, rfl⟩ : ∃ q, m = q + 1 := ⟨m - 1, by omega⟩
    unfold mX12_isFree_12
    rw [gI_26 h, b1S, m1, if_pos (nI_le (by omega) (by omega))]
    exact M_free48 h r x (A.2.2 1).length 0 100000 v (by omega) (by omega) hv
  | succ d ih =>
    intro i m v hi hm hv
    obtain ⟨m, rfl⟩ : ∃ q, m = q + 1 := ⟨m - 1, by omega⟩
    have e1 : pg (A.2.2 0) i 1 = sI s 29 i := by unfold pg; rw [MP_get r.2.2.2.2.1 (by omega)]; rfl
    conv => rhs; rw [show noA (A.2.2 0) x (d + 1) i v = noA (A.2.2 0) x d (i + 1) (if v = 0 then 0 else if pg (A.2.2 0) i 1 = x then 0 else 1) from rfl]
    unfold mX12_isFree_12 mX12_isFree_38 mX12_isFree_39
    rw [gI_26 h, b1S, m1, if_neg (nI_ge (by omega) (by omega)), nI_1]
    by_cases c : v = 0
    · rw [if_pos c, if_pos c]
      exact ih (i + 1) m 0 (by omega) (by omega) oZ0
    · rw [if_neg c, if_neg c, gP_26_3 h, b1S, b1S, aI_29 h (nIc (by omega) (by omega)), b1S, nI_clamp (by omega), ← e1]
      by_cases c2 : pg (A.2.2 0) i 1 = x
      · rw [if_pos c2, if_pos c2]
        exact ih (i + 1) m 0 (by omega) (by omega) oZ0
      · rw [if_neg c2, if_neg c2]
        exact ih (i + 1) m 1 (by omega) (by omega) oZ1
theorem M_isFree {s : eS} (h : SH s) {A : aS} (r : RM s A) (x : Int32) : mX12_isFree 26 x s = some (frF A x, s) := by
  have m2 := r.2.2.2.2.1.2.1
  unfold mX12_isFree frF
  rw [M_in, b2S]
  exact M_free12 h r x (A.2.2 0).length 0 100000 _ (by omega) (by omega) (by unfold inL; exact oZif (oZif oZ1))
