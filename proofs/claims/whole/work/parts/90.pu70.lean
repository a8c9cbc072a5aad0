/-! ===== the station's change ===== -/
theorem inL_32 (v lo hi : Int32) : inL v.toInt64 lo.toInt64 hi.toInt64 = if v < lo then 0 else if v ≤ hi then 1 else 0 := by
  unfold inL
  by_cases c1 : v < lo
  · rw [if_pos c1, if_pos (by rw [lg_cmp_lt, Int64.lt_iff_toInt_lt, Int32.toInt_toInt64, Int32.toInt_toInt64]; exact Int32.lt_iff_toInt_lt.mp c1)]
  · rw [if_neg c1, if_neg (by rw [lg_cmp_lt, Int64.lt_iff_toInt_lt, Int32.toInt_toInt64, Int32.toInt_toInt64]; exact fun z => c1 (Int32.lt_iff_toInt_lt.mpr z))]
    by_cases c2 : v ≤ hi
    · rw [if_pos c2, if_neg (by rw [lg_cmp_gt, Int64.lt_iff_toInt_lt, Int32.toInt_toInt64, Int32.toInt_toInt64]; exact fun z => Int32.not_lt.mpr c2 (Int32.lt_iff_toInt_lt.mpr z))]
    · rw [if_neg c2, if_pos (by rw [lg_cmp_gt, Int64.lt_iff_toInt_lt, Int32.toInt_toInt64, Int32.toInt_toInt64]; exact Int32.lt_iff_toInt_lt.mp (Int32.not_le.mp c2))]
def loV (k : Nat) : Int32 := [0, 0, -64, -32768, -32768, -2147483648, -2147483648].getD k 0
def hiV (k : Nat) : Int32 := [1, 3, 63, 32767, 32767, 2147483647, 2147483647].getD k 0
theorem tab345 : ∀ k, k < 7 → t_I tb_3 (nI k) = some (loV k) ∧ t_I tb_4 (nI k) = some (hiV k) ∧ t_I tb_5 (nI k) = some (mayF (nI k)) := by decide +kernel
theorem int_all (v : Int32) : ¬ v < (-2147483648 : Int32) ∧ v ≤ (2147483647 : Int32) := by
  have h1 := v.toInt_lt
  have h2 := v.le_toInt
  constructor
  · rw [Int32.lt_iff_toInt_lt]
    have : (-2147483648 : Int32).toInt = -2147483648 := by decide
    omega
  · rw [Int32.le_iff_toInt_le]
    have : (2147483647 : Int32).toInt = 2147483647 := by decide
    omega
theorem valF_k {k : Nat} (hk : k < 7) (v : Int32) : valF (nI k) v = if v < loV k then 0 else if v ≤ hiV k then (if k = 5 then (if (2139095040 : Int32) < (v &&& (2147483647 : Int32)) then 0 else 1) else 1) else 0 := by
  obtain ⟨a1, a2⟩ := int_all v
  rcases (by omega : k = 0 ∨ k = 1 ∨ k = 2 ∨ k = 3 ∨ k = 4 ∨ k = 5 ∨ k = 6) with rfl | rfl | rfl | rfl | rfl | rfl | rfl
  · exact inL_32 v 0 1
  · exact inL_32 v 0 3
  · exact inL_32 v (-64) 63
  · exact inL_32 v (-32768) 32767
  · exact inL_32 v (-32768) 32767
  · show (if (2139095040 : Int32) < (v &&& (2147483647 : Int32)) then (0 : Int32) else 1) = if v < (-2147483648 : Int32) then 0 else if v ≤ (2147483647 : Int32) then (if (2139095040 : Int32) < (v &&& (2147483647 : Int32)) then 0 else 1) else 0
    rw [if_neg a1, if_pos a2]
  · show (1 : Int32) = if v < (-2147483648 : Int32) then 0 else if v ≤ (2147483647 : Int32) then 1 else 0
    rw [if_neg a1, if_pos a2]
set_option maxRecDepth 100000 in
theorem S_fits {s : eS} {a k : Nat} (ko : KO s 106 a) (hk : k < 7) (e0 : sI s a 0 = nI k) (v q : Int32) : mX6_fits a v q s = some (if valF (nI k) v = 0 then 0 else if q &&& (mayF (nI k) ^^^ (-1)) = 0 then 1 else 0, s) := by
  obtain ⟨t3, t4, t5⟩ := tab345 k hk
  have q47 : mX6_fits_47 a q s = some (if q &&& (mayF (nI k) ^^^ (-1)) = 0 then 1 else 0, s) := by
    unfold mX6_fits_47 mX6_fits_48 mX6_fits_72 mX6_fits_73
    simp only [oZ0, oZ1, b1S]
    rw [if_pos trivial, koI ko, b1S, e0, t5, b1S]
    exact it2 rfl rfl
  unfold mX6_fits mX6_fits_24
  simp only [oZ0, b1S]
  rw [koI ko, b1S, e0, t3, b1S, valF_k hk v]
  by_cases c1 : v < loV k
  · rw [if_pos c1, if_pos c1, if_pos rfl]
  rw [if_neg c1, if_neg c1, b1S, t4, b1S]
  by_cases c2 : v ≤ hiV k
  · rw [if_pos c2, if_pos c2, b1S]
    by_cases c5 : k = 5
    · rw [if_pos (show nI k = 5 by rw [c5]; rfl), if_pos c5]
      by_cases cf : (v &&& (2147483647 : Int32)) ≤ (2139095040 : Int32)
      · rw [if_pos cf, if_neg (Int32.not_lt.mpr cf), if_neg (by decide : ¬ (1 : Int32) = 0)]
        exact q47
      · rw [if_neg cf, if_pos (Int32.not_le.mp cf), if_pos rfl]
        unfold mX6_fits_48 mX6_fits_72 mX6_fits_73
        rw [if_neg (by decide), oZ0, b1S]
    · rw [if_neg (show ¬ nI k = 5 from fun z => c5 ((nI_eq (a := k) (b := 5) (by omega) (by omega)).mp z)), if_neg c5, if_neg (by decide : ¬ (1 : Int32) = 0)]
      exact q47
  · rw [if_neg c2, if_neg c2, if_pos rfl]
theorem val_OK {k : Nat} (hk : k < 7) {v : Int32} (h : valF (nI k) v ≠ 0) : vOK (nI k) v := by
  rw [valF_k hk] at h
  have b : ∀ {lo hi : Int32}, (if v < lo then (0 : Int32) else if v ≤ hi then 1 else 0) ≠ 0 → lo ≤ v ∧ v ≤ hi := fun {lo hi} z => by
    by_cases c1 : v < lo
    · rw [if_pos c1] at z; exact absurd rfl z
    · rw [if_neg c1] at z
      by_cases c2 : v ≤ hi
      · exact ⟨Int32.not_lt.mp c1, c2⟩
      · rw [if_neg c2] at z; exact absurd rfl z
  refine ⟨fun z => ?_, fun z => ?_⟩
  · have e : k = 0 := (nI_eq (a := k) (b := 0) (by omega) (by omega)).mp z
    subst e
    obtain ⟨h1, h2⟩ := b (lo := 0) (hi := 1) h
    obtain ⟨j, hj, rfl⟩ := nI_of (Int32.not_lt.mpr h1)
    have : j ≤ 1 := (nI_leI (b := 1) hj (by omega)).mp h2
    rcases (by omega : j = 0 ∨ j = 1) with rfl | rfl <;> rfl
  · have e : k = 1 := (nI_eq (a := k) (b := 1) (by omega) (by omega)).mp z
    subst e
    obtain ⟨h1, h2⟩ := b (lo := 0) (hi := 3) h
    obtain ⟨j, hj, rfl⟩ := nI_of (Int32.not_lt.mpr h1)
    have : j ≤ 3 := (nI_leI (b := 3) hj (by omega)).mp h2
    rcases (by omega : j = 0 ∨ j = 1 ∨ j = 2 ∨ j = 3) with rfl | rfl | rfl | rfl <;> rfl
theorem RS_chv {D : Nat} {s : eS} {A : aS} (r : RS false D s A) {p : Nat} (hp : p < (A.2.2 0).length) {v q : Int32} (hv : vOK (sI s (pA s p) 0) v) : RS false D (e_I (e_I s (pA s p) 4 v) (pA s p) 5 q) (a_chv A p v q) := by
  have d := (rs_d r).1
  have dp := d.1 p hp
  have e2 : a_chv A p v q = uq A 0 (sg (sg (A.2.2 0) p 4 v) p 5 q) := uq_uq A 0 _ _
  rw [e2]
  have hl : (sg (sg (A.2.2 0) p 4 v) p 5 q).length = (A.2.2 0).length := by rw [sg_len, sg_len]
  refine RS_pts r (xPt_I (xPt_I ag_rf dp.2 (by decide)) dp.2 (by decide)) hl (fun j hj => ?_) (fun j hj => ?_)
  · rw [hl] at hj
    rw [sg_row (by rw [sg_len]; exact hj)]
    have nx : ∀ k, k ≠ 4 → k ≠ 5 → sI (e_I (e_I s (pA s p) 4 v) (pA s p) 5 q) (pA s j) k = sI s (pA s j) k := fun k h4 h5 => (rII_ne (Or.inr h5)).trans (rII_ne (Or.inr h4))
    show _ = [sI (e_I (e_I s (pA s p) 4 v) (pA s p) 5 q) (pA s j) 0, sI (e_I (e_I s (pA s p) 4 v) (pA s p) 5 q) (pA s j) 1, sI (e_I (e_I s (pA s p) 4 v) (pA s p) 5 q) (pA s j) 2, sI (e_I (e_I s (pA s p) 4 v) (pA s p) 5 q) (pA s j) 3, sI (e_I (e_I s (pA s p) 4 v) (pA s p) 5 q) (pA s j) 4, sI (e_I (e_I s (pA s p) 4 v) (pA s p) 5 q) (pA s j) 5, sI (e_I (e_I s (pA s p) 4 v) (pA s p) 5 q) (pA s j) 6]
    rw [nx 0 (by decide) (by decide), nx 1 (by decide) (by decide), nx 2 (by decide) (by decide), nx 3 (by decide) (by decide), nx 6 (by decide) (by decide)]
    by_cases e : j = p
    · subst e
      rw [if_pos rfl, sg_row hj, if_pos rfl, ((rs_p r).2.1 j hj).1, rII_eq, rII_ne (Or.inr (by decide)), rII_eq]
      rfl
    · have ne : pA s j ≠ pA s p := fun z => e (d.2 j p hj hp z)
      rw [if_neg e, sg_row hj, if_neg e, ((rs_p r).2.1 j hj).1, rII_ne (Or.inl ne), rII_ne (Or.inl ne), rII_ne (Or.inl ne), rII_ne (Or.inl ne)]
      rfl
  · rw [hl] at hj
    by_cases e : j = p
    · subst e
      rw [rII_ne (Or.inr (by decide)), rII_eq]; exact hv
    · have ne : pA s j ≠ pA s p := fun z => e (d.2 j p hj hp z)
      rw [rII_ne (Or.inl ne), rII_ne (Or.inl ne)]
      exact ((rs_p r).2.1 j hj).2.2.2
theorem ob_fr {k : Nat} (hk : k < 6) (a v q fr fr' : Int32) : ob (nI k) a v q fr = ob (nI k) a v q fr' := by
  have n6 : ¬ nI k = 6 := fun z => by have := (nI_eq (a := k) (b := 6) (by omega) (by omega)).mp z; omega
  unfold ob
  rw [if_neg n6, if_neg n6]
theorem or128 : ∀ m, m < 60 → nI m ||| (128 : Int32) = nI (m + 128) := by decide +kernel
set_option maxRecDepth 100000 in
/-- THE CLOCK's time as one number -/
theorem S_time {t : Bool} {D : Nat} {s : eS} (h : SH s) {A : aS} (r : RS t D s A) : ∃ T, mX1_time 7 s = some (T, s) ∧ lb T 7 = tmB A := by
  obtain ⟨-, -, ms, mi, ho, da, mo, ye, ⟨b0, v0⟩, ⟨b1', v1⟩, ⟨b2', v2⟩, ⟨b3, b3', b3'', v3⟩, ⟨b4, b4', v4⟩, ⟨b5, v5⟩⟩ := (rs_m r).2.2.2
  have si := rs_i r
  have e19 : A.1 19 = nI ms := (si.1 19 (by decide) (by decide)).symm.trans v0
  have e20 : A.1 20 = nI mi := (si.1 20 (by decide) (by decide)).symm.trans v1
  have e21 : A.1 21 = nI ho := (si.1 21 (by decide) (by decide)).symm.trans v2
  have e22 : A.1 22 = nI da := (si.1 22 (by decide) (by decide)).symm.trans v3
  have e23 : A.1 23 = nI mo := (si.1 23 (by decide) (by decide)).symm.trans v4
  have e24 : A.1 24 = nI ye := (si.1 24 (by decide) (by decide)).symm.trans v5
  have e25 : sI s 7 6 = A.1 25 := si.1 25 (by decide) (by decide)
  have dt : (nI da ||| (nI mo <<< ((8 : Int32) &&& 31))) ||| (nI ye <<< ((16 : Int32) &&& 31)) = nI (da + mo * 2 ^ 8 + ye * 2 ^ 16) := by
    apply uI_ext
    rw [uI_or, uI_or, pk_shlN _ 8 (by decide +kernel) (by omega), pk_shlN _ 16 (by decide +kernel) (by omega), uI_nI (by omega), uI_nI (by omega), uI_nI (by omega), uI_nI (by omega), or_add (a := da) (by omega), or_add (a := da + mo * 2 ^ 8) (by omega)]
  have key : ∀ m : Nat, m < 256 → ∃ T, mX1_time_44 7 ((nI (da + mo * 2 ^ 8 + ye * 2 ^ 16)).toInt64) (nI m) s = some (T, s) ∧ lb T 7 = [nI (ms % 256), nI (ms / 256), nI m, nI ho, nI da, nI mo, nI ye] := by
    intro m hm
    refine ⟨_, by unfold mX1_time_44; rw [gI_7 h, b1S, gI_7 h, b1S, v0, v2], ?_⟩
    rw [lb_nat _ (by omega), uN_or, uN_or, uN_or, uN_i2l (by omega), uN_shl _ _ 16 (by decide +kernel), uN_shl _ _ 24 (by decide +kernel), uN_shl _ _ 32 (by decide +kernel), uN_i2l (by omega), uN_i2l (by omega), uN_i2l (by omega), Nat.mod_eq_of_lt (a := m * 2 ^ 16) (by omega), Nat.mod_eq_of_lt (a := ho * 2 ^ 24) (by omega), Nat.mod_eq_of_lt (a := (da + mo * 2 ^ 8 + ye * 2 ^ 16) * 2 ^ 32) (by omega), or_add (a := ms) (by omega), or_add (a := ms + m * 2 ^ 16) (by omega), or_add (a := ms + m * 2 ^ 16 + ho * 2 ^ 24) (by omega)]
    generalize hN : ms + m * 2 ^ 16 + ho * 2 ^ 24 + (da + mo * 2 ^ 8 + ye * 2 ^ 16) * 2 ^ 32 = N
    show [nI (N / 1 % 256), nI (N / 256 % 256), nI (N / 65536 % 256), nI (N / 16777216 % 256), nI (N / 4294967296 % 256), nI (N / 1099511627776 % 256), nI (N / 281474976710656 % 256)] = _
    rw [show N / 1 % 256 = ms % 256 by omega, show N / 256 % 256 = ms / 256 by omega, show N / 65536 % 256 = m by omega, show N / 16777216 % 256 = ho by omega, show N / 4294967296 % 256 = da by omega, show N / 1099511627776 % 256 = mo by omega, show N / 281474976710656 % 256 = ye by omega]
  have tm : ∀ m : Nat, A.1 20 + (if A.1 25 = 0 then 128 else 0) = nI m → tmB A = [nI (ms % 256), nI (ms / 256), nI m, nI ho, nI da, nI mo, nI ye] := fun m hm => by
    unfold tmB
    rw [hm, e19, e21, e22, e23, e24, pk_andN (n := ms) (by omega) (m := 255) 8 rfl, pk_shrN (by omega) _ 8 (by decide +kernel)]
  unfold mX1_time
  rw [gI_7 h, b1S, gI_7 h, b1S, gI_7 h, b1S, gI_7 h, b1S, v3, v4, v5, dt, e25]
  by_cases c : A.1 25 = 0
  · rw [if_pos c, gI_7 h, b1S, v1, or128 mi b1']
    obtain ⟨T, f, e⟩ := key (mi + 128) (by omega)
    exact ⟨T, f, e.trans (tm (mi + 128) (by rw [if_pos c, e20]; exact nI_add mi 128)).symm⟩
  · rw [if_neg c, gI_7 h, b1S, v1]
    obtain ⟨T, f, e⟩ := key mi (by omega)
    exact ⟨T, f, e.trans (tm mi (by rw [if_neg c, e20, Int32.add_zero])).symm⟩
