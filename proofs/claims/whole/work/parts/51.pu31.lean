def lb1 (x : Int64) (i : Nat) : Int32 := ((x >>> (((8 : Int32) * nI i).toInt64 &&& 63)).toInt32) &&& 255
def uN (x : Int64) : Nat := x.toBitVec.toNat
def uI (x : Int32) : Nat := x.toBitVec.toNat
theorem uN_or (x y : Int64) : uN (x ||| y) = uN x ||| uN y := by simp [uN]
theorem uN_and (x y : Int64) : uN (x &&& y) = uN x &&& uN y := by simp [uN]
theorem uI_or (x y : Int32) : uI (x ||| y) = uI x ||| uI y := by simp [uI]
theorem uI_and (x y : Int32) : uI (x &&& y) = uI x &&& uI y := by simp [uI]
theorem uN_lN {n : Nat} (h : n < 2 ^ 64) : uN (lN n) = n := by simp [uN, lN]; omega
theorem uI_nI {n : Nat} (h : n < 2 ^ 32) : uI (nI n) = n := pk_tn h
theorem uI_lt (x : Int32) : uI x < 2 ^ 32 := x.toBitVec.isLt
theorem uN_lt (x : Int64) : uN x < 2 ^ 64 := x.toBitVec.isLt
theorem nI_uI (x : Int32) : nI (uI x) = x := by
  apply Int32.toBitVec_inj.mp; apply BitVec.eq_of_toNat_eq; simp [uI, nI]
theorem uI_ext {x y : Int32} (h : uI x = uI y) : x = y := by rw [← nI_uI x, h, nI_uI]
theorem uN_shl (x s : Int64) (k : Nat) (hs : (s.toBitVec.smod 64).toNat = k) : uN (x <<< s) = uN x * 2 ^ k % 2 ^ 64 := by
  unfold uN
  rw [Int64.toBitVec_shiftLeft]
  rw [show (s.toBitVec.smod (OfNat.ofNat 64)) = s.toBitVec.smod 64 from rfl, BitVec.shiftLeft_eq', BitVec.toNat_shiftLeft, hs, Nat.shiftLeft_eq]
theorem uN_i2l {n : Nat} (h : n < 2 ^ 31) : uN (nI n).toInt64 = n := by
  unfold uN
  rw [Int32.toBitVec_toInt64, BitVec.toNat_signExtend]
  have : (nI n).toBitVec.msb = false := by
    rw [BitVec.msb_eq_false_iff_two_mul_lt]
    show 2 * (uI (nI n)) < 2 ^ 32
    rw [uI_nI (by omega)]; omega
  rw [this]
  show (BitVec.setWidth 64 (nI n).toBitVec).toNat + 0 = n
  rw [BitVec.toNat_setWidth]
  show uI (nI n) % 2 ^ 64 + 0 = n
  rw [uI_nI (by omega)]; omega
theorem or_add {a b k : Nat} (h : a < 2 ^ k) : a ||| b * 2 ^ k = a + b * 2 ^ k := by
  rw [Nat.or_comm, ← Nat.shiftLeft_eq, ← Nat.shiftLeft_add_eq_or_of_lt h, Nat.add_comm]
theorem lb1_nat (x : Int64) {i : Nat} (hi : i < 8) : lb1 x i = nI (uN x / 2 ^ (8 * i) % 256) := by
  apply uI_ext
  rw [uI_nI (by omega)]
  unfold lb1 uN uI
  rw [Int32.toBitVec_and, Int64.toBitVec_toInt32, Int64.toBitVec_shiftRight]
  have e : ((((8 : Int32) * nI i).toInt64 &&& 63).toBitVec.smod 64).toNat = 8 * i := by
    have : ∀ i, i < 8 → ((((8 : Int32) * nI i).toInt64 &&& 63).toBitVec.smod 64).toNat = 8 * i := by decide +kernel
    exact this i hi
  rw [show ((((8 : Int32) * nI i).toInt64 &&& 63).toBitVec.smod (OfNat.ofNat 64)) = ((((8 : Int32) * nI i).toInt64 &&& 63).toBitVec.smod 64) from rfl, BitVec.sshiftRight_eq', e]
  have : BitVec.signExtend 32 (x.toBitVec.sshiftRight (8 * i)) &&& 255#32 = BitVec.setWidth 32 (BitVec.extractLsb' (8 * i) 8 x.toBitVec) := by
    ext j hj
    simp only [BitVec.getElem_and, BitVec.getElem_signExtend, BitVec.getElem_setWidth, BitVec.getElem_sshiftRight, BitVec.getLsbD_extractLsb']
    by_cases h : j < 8
    · have h2 : 8 * i + j < 64 := by omega
      have h3 : (255#32)[j] = true := by
        have : ∀ j, (h : j < 32) → j < 8 → (255#32)[j] = true := by decide
        exact this j hj h
      simp [h, h2, h3]
      omega
    · have h3 : (255#32)[j] = false := by
        have : ∀ j, (h : j < 32) → ¬ j < 8 → (255#32)[j] = false := by decide
        exact this j hj h
      simp [h, h3]
  rw [show Int32.toBitVec 255 = 255#32 from rfl, this, BitVec.toNat_setWidth, BitVec.extractLsb'_toNat, Nat.shiftRight_eq_div_pow]
  omega
theorem nb1_nat (x : Int32) {i : Nat} (hi : i < 4) : (x >>> ((8 * nI i) &&& 31)) &&& 255 = nI (uI x / 2 ^ (8 * i) % 256) := by
  apply uI_ext
  rw [uI_nI (by omega)]
  unfold uI
  rw [Int32.toBitVec_and, Int32.toBitVec_shiftRight]
  have e : ((((8 : Int32) * nI i) &&& 31).toBitVec.smod 32).toNat = 8 * i := by
    have : ∀ i, i < 4 → ((((8 : Int32) * nI i) &&& 31).toBitVec.smod 32).toNat = 8 * i := by decide +kernel
    exact this i hi
  rw [show ((((8 : Int32) * nI i) &&& 31).toBitVec.smod (OfNat.ofNat 32)) = ((((8 : Int32) * nI i) &&& 31).toBitVec.smod 32) from rfl, BitVec.sshiftRight_eq', e]
  have : x.toBitVec.sshiftRight (8 * i) &&& 255#32 = BitVec.setWidth 32 (BitVec.extractLsb' (8 * i) 8 x.toBitVec) := by
    ext j hj
    simp only [BitVec.getElem_and, BitVec.getElem_setWidth, BitVec.getElem_sshiftRight, BitVec.getLsbD_extractLsb']
    by_cases h : j < 8
    · have h2 : 8 * i + j < 32 := by omega
      have h3 : (255#32)[j] = true := by
        have : ∀ j, (h : j < 32) → j < 8 → (255#32)[j] = true := by decide
        exact this j hj h
      simp [h, h2, h3, BitVec.getLsbD_eq_getElem]
    · have h3 : (255#32)[j] = false := by
        have : ∀ j, (h : j < 32) → ¬ j < 8 → (255#32)[j] = false := by decide
        exact this j hj h
      simp [h, h3]
  rw [show Int32.toBitVec 255 = 255#32 from rfl, this, BitVec.toNat_setWidth, BitVec.extractLsb'_toNat, Nat.shiftRight_eq_div_pow]
  omega
theorem b255 : ∀ i, (h : i < 32) → ¬ i < 8 → (255#32)[i] = false := by decide
theorem by_i8 (x : Int32) : x.toInt8.toInt32 &&& 255 = x &&& 255 := by
  apply Int32.toBitVec_inj.mp
  simp only [Int32.toBitVec_and, Int8.toBitVec_toInt32, Int32.toBitVec_toInt8]
  show BitVec.signExtend 32 (BitVec.signExtend 8 x.toBitVec) &&& 255#32 = x.toBitVec &&& 255#32
  ext i hi
  simp only [BitVec.getElem_and, BitVec.getElem_signExtend]
  by_cases h : i < 8
  · simp [h, hi]
  · rw [b255 i hi h]; simp
theorem by_byte : ∀ n, n < 256 → nI n &&& 255 = nI n := by decide +kernel
theorem by_by (x : Int32) : x &&& 255 &&& 255 = x &&& 255 := by rw [Int32.and_assoc]; rfl
/-- the bytes of a long, the lowest first -/
def lb (x : Int64) (n : Nat) : List Int32 := rd (lb1 x) n
theorem lb_len (x : Int64) (n : Nat) : (lb x n).length = n := rd_len _ _
theorem lb_succ (x : Int64) (n : Nat) : lb x (n + 1) = lb x n ++ [lb1 x n] := rd_succ _ _
def bN (N : Nat) (n : Nat) : List Int32 := rd (fun i => nI (N / 2 ^ (8 * i) % 256)) n
theorem lb_nat (x : Int64) {n : Nat} (h : n ≤ 8) : lb x n = bN (uN x) n := rd_congr (fun i hi => lb1_nat x (by omega))
theorem nb_nat (x : Int32) {n : Nat} (h : n ≤ 4) : nb x n = bN (uI x) n := rd_congr (fun i hi => nb1_nat x (by omega))
theorem bN_app (a b k : Nat) (n : Nat) (ha : a < 2 ^ (8 * k)) : bN (a + b * 2 ^ (8 * k)) (k + n) = bN a k ++ bN b n := by
  unfold bN
  rw [rd_app]
  congr 1
  · apply rd_congr
    intro i hi
    have e : 2 ^ (8 * k) = 2 ^ (8 * i) * (256 * 2 ^ (8 * (k - i - 1))) := by
      rw [show 256 = 2 ^ 8 from rfl, ← Nat.pow_add, ← Nat.pow_add]; congr 1; omega
    rw [e, show b * (2 ^ (8 * i) * (256 * 2 ^ (8 * (k - i - 1)))) = 2 ^ (8 * i) * (256 * (b * 2 ^ (8 * (k - i - 1)))) by simp only [Nat.mul_left_comm], Nat.add_mul_div_left _ _ (Nat.two_pow_pos _), Nat.add_mul_mod_self_left]
  · apply rd_congr
    intro i _
    rw [show 8 * (k + i) = 8 * k + 8 * i by omega, Nat.pow_add, ← Nat.div_div_eq_div_mul, Nat.add_mul_div_right _ _ (Nat.two_pow_pos _), Nat.div_eq_of_lt ha, Nat.zero_add]
theorem bN_1 (n : Nat) (h : n < 256) : bN n 1 = [nI n] := by
  show [nI (n / 2 ^ (8 * 0) % 256)] = _
  rw [show n / 2 ^ (8 * 0) % 256 = n by simp; omega]
theorem bN_mod (N n : Nat) : bN (N % 2 ^ (8 * n)) n = bN N n := by
  unfold bN
  apply rd_congr
  intro i hi
  congr 1
  have e : 2 ^ (8 * n) = 2 ^ (8 * i) * (256 * 2 ^ (8 * (n - i - 1))) := by
    rw [show 256 = 2 ^ 8 from rfl, ← Nat.pow_add, ← Nat.pow_add]; congr 1; omega
  rw [e, Nat.mod_mul_right_div_self, Nat.mod_mul_right_mod]
theorem uN_sx (v : Int32) : uN v.toInt64 % 2 ^ 32 = uI v := by
  unfold uN
  rw [Int32.toBitVec_toInt64, BitVec.toNat_signExtend]
  have h := uI_lt v
  have e : (BitVec.setWidth 64 v.toBitVec).toNat = uI v := by
    rw [BitVec.toNat_setWidth]
    show uI v % 2 ^ 64 = uI v
    omega
  rw [e]
  split <;> omega
theorem uN_mask (v : Int32) (m : Int64) (k : Nat) (hk : k ≤ 32) (hm : uN m = 2 ^ k - 1) : uN (v.toInt64 &&& m) = uI v % 2 ^ k := by
  rw [uN_and, hm, Nat.and_two_pow_sub_one_eq_mod, ← uN_sx v, Nat.mod_mod_of_dvd]
  exact Nat.pow_dvd_pow 2 hk
theorem ob_core {a L VB M : Nat} {v : Int32} {mask sh : Int64} (ha : a < 2 ^ 24) (hVB : VB ≤ 4) (hM : uN (v.toInt64 &&& mask) = M) (hM2 : M < 2 ^ (8 * VB)) (hL : L < 256) (hsh : (sh.toBitVec.smod 64).toNat = 8 * VB) :
    lb ((nI a).toInt64 ||| (((v.toInt64 &&& mask) ||| ((nI L).toInt64 <<< sh)) <<< ((24 : Int32).toInt64 &&& 63))) (3 + (VB + 1)) = bN a 3 ++ (bN M VB ++ [nI L]) := by
  have hp : 2 ^ (8 * VB) ≤ 2 ^ 32 := Nat.pow_le_pow_right (by omega) (by omega)
  have hq : L * 2 ^ (8 * VB) ≤ 255 * 2 ^ (8 * VB) := Nat.mul_le_mul_right _ (by omega)
  rw [lb_nat _ (by omega), uN_or, uN_i2l (by omega), uN_shl _ _ 24 (by decide +kernel), uN_or, hM, uN_shl _ _ _ hsh, uN_i2l (by omega), Nat.mod_eq_of_lt (a := L * 2 ^ (8 * VB)) (by omega), or_add hM2, Nat.mod_eq_of_lt (by omega), or_add ha, show (24 : Nat) = 8 * 3 from rfl, bN_app _ _ 3 _ (by omega), bN_app _ _ VB 1 hM2, bN_1 L hL]
def obn (k : Nat) : Nat := [4, 4, 5, 6, 6, 8, 8].getD k 0
theorem uI_shl3 (q m : Int32) (c : Nat) (hm : uI m = c) (hc : c ≤ 31) : uI ((q &&& m) <<< ((3 : Int32) &&& 31)) = (uI q &&& c) * 8 := by
  unfold uI at *
  rw [Int32.toBitVec_shiftLeft]
  rw [show (((3 : Int32) &&& 31).toBitVec.smod (OfNat.ofNat 32)) = 3#32 from rfl, BitVec.shiftLeft_eq', BitVec.toNat_shiftLeft, Nat.shiftLeft_eq, Int32.toBitVec_and, BitVec.toNat_and, hm]
  have : q.toBitVec.toNat &&& c ≤ c := Nat.and_le_right
  show _ * 8 % 2 ^ 32 = _
  omega
theorem q_sh (q m M : Int32) (hmM : m <<< ((3 : Int32) &&& 31) = M) : (q &&& m) <<< ((3 : Int32) &&& 31) = (q <<< ((3 : Int32) &&& 31)) &&& M := by
  rw [← hmM]
  apply Int32.toBitVec_inj.mp
  simp only [Int32.toBitVec_and, Int32.toBitVec_shiftLeft]
  rw [show (Int32.toBitVec 3 &&& Int32.toBitVec 31).smod 32 = 3#32 from rfl]
  ext i hi
  simp only [BitVec.shiftLeft_eq', BitVec.getElem_and, BitVec.getElem_shiftLeft]
  by_cases h : i < 3
  · simp [h]
  · simp [h]
theorem uI_le_of_and {x : Int32} {m : Nat} (M : Int32) (hM : uI M = m) : uI (x &&& M) ≤ m := by
  rw [uI_and, hM]; exact Nat.and_le_right
theorem or_lt8 {a b : Nat} (ha : a < 256) (hb : b < 256) : a ||| b < 256 := Nat.or_lt_two_pow (n := 8) ha hb
def vOK (so v : Int32) : Prop := (so = 0 → v &&& 1 = v) ∧ (so = 1 → v &&& 3 = v)
def lastS (so v q fr : Int32) : Int32 := if so = 6 then ((q &&& 16) <<< ((3 : Int32) &&& 31)) ||| (fr &&& 31) else if so = 0 then ((q &&& 30) <<< ((3 : Int32) &&& 31)) ||| v else if so = 1 then ((q &&& 30) <<< ((3 : Int32) &&& 31)) ||| v else ((q &&& 30) <<< ((3 : Int32) &&& 31)) ||| (q &&& 1)
def msk (k : Nat) : Int64 := [(0 : Int64), 0, 127, 65535, 65535, 4294967295, 4294967295].getD k 0
def vbn (k : Nat) : Nat := [0, 0, 1, 2, 2, 4, 4].getD k 0
theorem last_nat {x : Int32} {L : Nat} (h : uI x = L) : x = nI L := by rw [← h, nI_uI]
theorem or_comm32 (x y : Int32) : x ||| y = y ||| x := Int32.or_comm x y
theorem last_lt (q m x : Int32) (c : Nat) (hm : uI m = c) (hc : c ≤ 31) (hx : uI x < 256) : uI (((q &&& m) <<< ((3 : Int32) &&& 31)) ||| x) < 256 := by
  rw [uI_or, uI_shl3 q m c hm hc]
  have : uI q &&& c ≤ c := Nat.and_le_right
  exact or_lt8 (by omega) hx
theorem v_lt {v m : Int32} {c : Nat} (hm : uI m = c) (h : v &&& m = v) : uI v ≤ c := by rw [← h]; exact uI_le_of_and m hm
set_option maxRecDepth 10000 in
theorem ob_all {k a : Nat} (hk : k < 7) (ha : a < 2 ^ 24) (v q fr : Int32) (hv : vOK (nI k) v) (hf : k = 6 → ∃ f : Nat, f < 2 ^ 31 ∧ fr = nI f) :
    lb ((nI a).toInt64 ||| (((v.toInt64 &&& msk k) ||| ((lastS (nI k) v q fr).toInt64 <<< (((8 : Int32) * nI (vbn k)).toInt64 &&& 63))) <<< ((24 : Int32).toInt64 &&& 63))) (obn k) = ob (nI k) (nI a) v q fr := by
  have hA : nb (nI a) 3 = bN a 3 := by rw [nb_nat _ (by omega), uI_nI (by omega)]
  have l30 : ∀ x : Int32, uI x < 256 → uI (((q &&& 30) <<< ((3 : Int32) &&& 31)) ||| x) < 256 := fun x hx => last_lt q 30 x 30 rfl (by omega) hx
  have e240 : (q &&& 30) <<< ((3 : Int32) &&& 31) = (q <<< ((3 : Int32) &&& 31)) &&& 240 := q_sh q 30 240 rfl
  have q1 : uI (q &&& 1) < 256 := Nat.lt_of_le_of_lt (uI_le_of_and (m := 1) 1 rfl) (by omega)
  obtain rfl | rfl | rfl | rfl | rfl | rfl | rfl : k = 0 ∨ k = 1 ∨ k = 2 ∨ k = 3 ∨ k = 4 ∨ k = 5 ∨ k = 6 := by omega
  · have hl := l30 v (Nat.lt_of_le_of_lt (v_lt (c := 1) rfl (hv.1 rfl)) (by omega))
    have c := ob_core (v := v) (VB := 0) (mask := 0) (sh := (((8 : Int32) * nI 0).toInt64 &&& 63)) (M := 0) ha (by omega) (by rw [uN_and]; show _ &&& 0 = 0; simp) (by omega) hl rfl
    rw [nI_uI] at c
    refine c.trans ?_
    show _ = nb (nI a) 3 ++ [v ||| ((q <<< ((3 : Int32) &&& 31)) &&& 240)]
    rw [hA, e240, or_comm32 v]; rfl
  · have hl := l30 v (Nat.lt_of_le_of_lt (v_lt (c := 3) rfl (hv.2 rfl)) (by omega))
    have c := ob_core (v := v) (VB := 0) (mask := 0) (sh := (((8 : Int32) * nI 0).toInt64 &&& 63)) (M := 0) ha (by omega) (by rw [uN_and]; show _ &&& 0 = 0; simp) (by omega) hl rfl
    rw [nI_uI] at c
    refine c.trans ?_
    show _ = nb (nI a) 3 ++ [v ||| ((q <<< ((3 : Int32) &&& 31)) &&& 240)]
    rw [hA, e240, or_comm32 v]; rfl
  · have hl := l30 _ q1
    have c := ob_core (v := v) (VB := 1) (mask := 127) (sh := (((8 : Int32) * nI 1).toInt64 &&& 63)) (M := uI v % 2 ^ 7) ha (by omega) (uN_mask v 127 7 (by omega) rfl) (by omega) hl rfl
    rw [nI_uI] at c
    refine c.trans ?_
    show _ = nb (nI a) 3 ++ (nb (v &&& 127) 1 ++ [(q &&& 1) ||| ((q <<< ((3 : Int32) &&& 31)) &&& 240)])
    rw [hA, e240, or_comm32 (q &&& 1), nb_nat _ (by omega), uI_and, show uI (127 : Int32) = 2 ^ 7 - 1 from rfl, Nat.and_two_pow_sub_one_eq_mod]
  · have hl := l30 _ q1
    have c := ob_core (v := v) (VB := 2) (mask := 65535) (sh := (((8 : Int32) * nI 2).toInt64 &&& 63)) (M := uI v % 2 ^ (8 * 2)) ha (by omega) (uN_mask v 65535 16 (by omega) rfl) (by omega) hl rfl
    rw [nI_uI] at c
    refine c.trans ?_
    show _ = nb (nI a) 3 ++ (nb v 2 ++ [(q &&& 1) ||| ((q <<< ((3 : Int32) &&& 31)) &&& 240)])
    rw [hA, e240, or_comm32 (q &&& 1), nb_nat _ (by omega), bN_mod]
  · have hl := l30 _ q1
    have c := ob_core (v := v) (VB := 2) (mask := 65535) (sh := (((8 : Int32) * nI 2).toInt64 &&& 63)) (M := uI v % 2 ^ (8 * 2)) ha (by omega) (uN_mask v 65535 16 (by omega) rfl) (by omega) hl rfl
    rw [nI_uI] at c
    refine c.trans ?_
    show _ = nb (nI a) 3 ++ (nb v 2 ++ [(q &&& 1) ||| ((q <<< ((3 : Int32) &&& 31)) &&& 240)])
    rw [hA, e240, or_comm32 (q &&& 1), nb_nat _ (by omega), bN_mod]
  · have hl := l30 _ q1
    have c := ob_core (v := v) (VB := 4) (mask := 4294967295) (sh := (((8 : Int32) * nI 4).toInt64 &&& 63)) (M := uI v % 2 ^ (8 * 4)) ha (by omega) (uN_mask v 4294967295 32 (by omega) rfl) (by omega) hl rfl
    rw [nI_uI] at c
    refine c.trans ?_
    show _ = nb (nI a) 3 ++ (nb v 4 ++ [(q &&& 1) ||| ((q <<< ((3 : Int32) &&& 31)) &&& 240)])
    rw [hA, e240, or_comm32 (q &&& 1), nb_nat _ (by omega), bN_mod]
  · obtain ⟨f, hf2, rfl⟩ := hf rfl
    have f31 : uI (nI f &&& 31) < 256 := Nat.lt_of_le_of_lt (uI_le_of_and (m := 31) 31 rfl) (by omega)
    have hl := last_lt q 16 (nI f &&& 31) 16 rfl (by omega) f31
    have c := ob_core (v := v) (VB := 4) (mask := 4294967295) (sh := (((8 : Int32) * nI 4).toInt64 &&& 63)) (M := uI v % 2 ^ (8 * 4)) ha (by omega) (uN_mask v 4294967295 32 (by omega) rfl) (by omega) hl rfl
    rw [nI_uI] at c
    refine c.trans ?_
    show _ = nb (nI a) 3 ++ (nb v 4 ++ [(nI f - nI f / 32 * 32) ||| ((q <<< ((3 : Int32) &&& 31)) &&& 128)])
    rw [hA, q_sh q 16 128 rfl, or_comm32, nb_nat _ (by omega), bN_mod, show (32 : Int32) = nI 32 from rfl, pk_rem hf2 (by omega) (by omega), pk_andN (by omega) 5 rfl]
theorem head_nat {ty cause by_ st : Nat} (h1 : ty < 256) (h2 : cause < 256) (h3 : by_ < 256) (h4 : st < 65536) :
    lb (((((nI ty ||| (256 : Int32)) ||| (nI cause <<< ((16 : Int32) &&& 31)))).toInt64 ||| ((nI by_).toInt64 <<< ((24 : Int32).toInt64 &&& 63))) ||| ((nI st).toInt64 <<< ((32 : Int32).toInt64 &&& 63))) 6 = hb (nI ty) 1 (nI cause) (nI by_) (nI st) := by
  have e1 : (nI ty ||| (256 : Int32)) ||| (nI cause <<< ((16 : Int32) &&& 31)) = nI (ty + 1 * 2 ^ 8 + cause * 2 ^ 16) := by
    apply uI_ext
    rw [uI_or, uI_or, pk_shlN _ 16 (by decide +kernel) (by omega), uI_nI (by omega), uI_nI (by omega), uI_nI (by omega), show uI (256 : Int32) = 1 * 2 ^ 8 from rfl, or_add (a := ty) (b := 1) (k := 8) (by omega), or_add (a := ty + 1 * 2 ^ 8) (by omega)]
  rw [e1, lb_nat _ (by omega), uN_or, uN_or, uN_i2l (by omega), uN_shl _ _ 24 (by decide +kernel), uN_shl _ _ 32 (by decide +kernel), uN_i2l (by omega), uN_i2l (by omega), Nat.mod_eq_of_lt (a := by_ * 2 ^ 24) (by omega), Nat.mod_eq_of_lt (a := st * 2 ^ 32) (by omega), or_add (a := ty + 1 * 2 ^ 8 + cause * 2 ^ 16) (by omega), or_add (a := ty + 1 * 2 ^ 8 + cause * 2 ^ 16 + by_ * 2 ^ 24) (by omega)]
  unfold hb
  rw [nb_nat _ (by omega), uI_nI (by omega)]
  show rd _ 6 = _
  simp only [rd_succ, rd_0, bN, List.nil_append, List.append_assoc, List.cons_append]
  congr 1
  · congr 1; omega
  congr 1
  · show nI _ = nI 1; congr 1; omega
  congr 1
  · congr 1; omega
  congr 1
  · congr 1; omega
  congr 1
  · congr 1; omega
  congr 1
  congr 1; omega
