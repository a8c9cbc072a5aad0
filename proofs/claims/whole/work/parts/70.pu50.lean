/-! ===== the bytes of a COMMAND ===== -/
theorem and_bit {x i : Nat} (hx : x < 2 ^ 32) (hi : 2 ^ i < 2 ^ 32) : nI x &&& nI (2 ^ i) = 0 ↔ x / 2 ^ i % 2 = 0 := by
  have e : uI (nI x &&& nI (2 ^ i)) = x &&& 2 ^ i := by rw [uI_and, uI_nI hx, uI_nI hi]
  have tb : x.testBit i = decide (x / 2 ^ i % 2 = 1) := Nat.testBit_eq_decide_div_mod_eq
  constructor
  · intro z
    rw [z] at e
    have e2 : (x &&& 2 ^ i).testBit i = (0 : Nat).testBit i := by rw [← e]; rfl
    rw [Nat.testBit_and, Nat.testBit_two_pow_self, Bool.and_true, Nat.zero_testBit, tb] at e2
    have := of_decide_eq_false e2
    omega
  · intro z
    apply uI_ext
    rw [e]
    show _ = 0
    apply Nat.eq_of_testBit_eq
    intro j
    rw [Nat.testBit_and, Nat.zero_testBit]
    by_cases c : i = j
    · subst c
      rw [tb, decide_eq_false (by omega), Bool.false_and]
    · rw [Nat.testBit_two_pow_of_ne c, Bool.and_false]
theorem and_m23 {N : Nat} (h : N < 2 ^ 24) : nI N &&& ((8388608 : Int32) ^^^ (-1)) = nI (N % 2 ^ 23) := by
  apply uI_ext
  rw [uI_and, uI_nI (by omega), uI_nI (by omega), show uI ((8388608 : Int32) ^^^ (-1)) = 4286578687 from by decide +kernel]
  apply Nat.eq_of_testBit_eq
  intro j
  rw [Nat.testBit_and, Nat.testBit_mod_two_pow]
  by_cases hj : j < 24
  · have t : ∀ j, j < 24 → (4286578687 : Nat).testBit j = decide (j < 23) := by decide +kernel
    rw [t j hj, Bool.and_comm]
  · have : N.testBit j = false := Nat.testBit_lt_two_pow (Nat.lt_of_lt_of_le h (Nat.pow_le_pow_right (by omega) (by omega)))
    rw [this, Bool.false_and, Bool.and_false]
theorem and_m7 : ∀ b, b < 256 → nI b &&& ((128 : Int32) ^^^ (-1)) = nI (b % 128) := by decide +kernel
theorem short_eq {x y : Int32} (h : uI x % 65536 = uI y % 65536) : x.toInt16.toInt32 = (y <<< ((16 : Int32) &&& 31)) >>> ((16 : Int32) &&& 31) := by
  have hb : ∀ j, j < 16 → x.toBitVec.getLsbD j = y.toBitVec.getLsbD j := fun j hj => by
    have e1 : (uI x % 2 ^ 16).testBit j = (uI y % 2 ^ 16).testBit j := by rw [show (2 : Nat) ^ 16 = 65536 from rfl, h]
    rw [Nat.testBit_mod_two_pow, Nat.testBit_mod_two_pow, decide_eq_true hj, Bool.true_and, Bool.true_and] at e1
    exact e1
  apply Int32.toBitVec_inj.mp
  rw [Int16.toBitVec_toInt32, Int32.toBitVec_toInt16, Int32.toBitVec_shiftRight, Int32.toBitVec_shiftLeft]
  rw [show (((16 : Int32) &&& 31).toBitVec.smod (OfNat.ofNat 32)) = 16#32 from rfl, BitVec.sshiftRight_eq', BitVec.shiftLeft_eq', show (16#32).toNat = 16 from rfl]
  ext i hi
  simp only [BitVec.getElem_signExtend, BitVec.getElem_sshiftRight, BitVec.getElem_shiftLeft]
  by_cases c : i < 16
  · have h1 := hb i c
    have h2 : 16 + i < 32 := by omega
    have h3 : ¬ 16 + i < 16 := by omega
    rw [BitVec.getLsbD_eq_getElem (by omega), BitVec.getLsbD_eq_getElem (by omega)] at h1
    simp [c, h2, h3, hi, h1]
  · have h2 : ¬ 16 + i < 32 := by omega
    have h1 := hb 15 (by omega)
    rw [BitVec.getLsbD_eq_getElem (by omega), BitVec.getLsbD_eq_getElem (by omega)] at h1
    simp [c, h2, BitVec.msb_eq_getLsbD_last, BitVec.getElem_signExtend, h1]
theorem tab12 : ∀ k, k < 3 → t_I tb_12 (nI k) = some (nI (if k = 2 then 3 else 1)) := by decide +kernel
theorem tab10 : ∀ k, k < 3 → t_I tb_10 (nI k) = some (nI (if k = 2 then 49 else 45 + k)) := by decide +kernel
/-- what a COMMAND's bytes say -/
def CD (F : List Int32) (k D d : Nat) : Prop := D < 2 ^ 24 ∧ d < 2 ^ 24 ∧ (nI D &&& ((128 : Int32) <<< (((8 : Int32) * (nI (if k = 2 then 3 else 1) - 1)) &&& 31)) = 0 ↔ (rb F).getD (if nI k = 2 then 11 else 9) 0 &&& 128 = 0) ∧ nI D &&& (((128 : Int32) <<< (((8 : Int32) * (nI (if k = 2 then 3 else 1) - 1)) &&& 31)) ^^^ (-1)) = nI d ∧ slB (nI k) d = obF F (nI k) ∧ ((rb F).getD (if nI k = 2 then 11 else 9) 0 &&& 128 = 0 → d = D) ∧ (k < 2 → nI D = (rb F).getD 9 0) ∧ (k = 2 → (nI D).toInt16.toInt32 = (((rb F).getD 9 0 + 256 * (rb F).getD 10 0) <<< ((16 : Int32) &&& 31)) >>> ((16 : Int32) &&& 31))
theorem bN_3 (d : Nat) : bN d 3 = [nI (d % 256), nI (d / 256 % 256), nI (d / 65536 % 256)] := by
  show [nI (d / 1 % 256), nI (d / 256 % 256), nI (d / 65536 % 256)] = _
  rw [Nat.div_one]
theorem S_cdata {s : eS} (h : SH s) {F : List Int32} (f : FS s F) (bf : byF F) {k : Nat} (hk : k < 3) : ∃ D d, mX4_number 19 9 (nI (if k = 2 then 3 else 1)) s = some (lN D, s) ∧ CD F k D d := by
  obtain ⟨b0, h0, e0⟩ := rb_by bf 9
  obtain ⟨b1', h1, e1⟩ := rb_by bf 10
  obtain ⟨b2', h2, e2⟩ := rb_by bf 11
  by_cases c2 : k = 2
  · subst c2
    refine ⟨b0 + 256 * b1' + 65536 * b2', (b0 + 256 * b1' + 65536 * b2') % 2 ^ 23, ?_, by omega, by omega, ?_, ?_, ?_, ?_, fun z => absurd z (by decide), fun _ => ?_⟩
    · have := S_number (MG_19 h) f.2 9 3 (by omega) (by omega) (fun i => if i = 0 then b0 else if i = 1 then b1' else b2') (fun i hi => by
        rcases (by omega : i = 0 ∨ i = 1 ∨ i = 2) with rfl | rfl | rfl
        · exact ⟨h0, e0⟩
        · exact ⟨h1, e1⟩
        · exact ⟨h2, e2⟩)
      rw [show (9 : Int32) = nI 9 from rfl, if_pos rfl, this]
      congr 2
      show lN (((0 * 256 + b2') * 256 + b1') * 256 + b0) = _
      congr 1; omega
    · rw [if_pos (show 2 = 2 from rfl), if_pos (show nI 2 = 2 from rfl), show (128 : Int32) <<< (((8 : Int32) * (nI 3 - 1)) &&& 31) = nI (2 ^ 23) from by decide +kernel, and_bit (by omega) (by omega), show (128 : Int32) = nI (2 ^ 7) from rfl, show (rb F).getD 11 0 = nI b2' from e2, and_bit (by omega) (by omega)]
      omega
    · rw [if_pos rfl, show (128 : Int32) <<< (((8 : Int32) * (nI 3 - 1)) &&& 31) = 8388608 from by decide +kernel, and_m23 (by omega)]
    · unfold slB obF
      rw [if_pos (show nI 2 = 2 from rfl), if_pos (show nI 2 = 2 from rfl), bN_3, show (rb F).getD 9 0 = nI b0 from e0, show (rb F).getD 10 0 = nI b1' from e1, show (rb F).getD 11 0 = nI b2' from e2, pk_andN (n := b2') (by omega) (m := 127) 7 rfl]
      congr 1
      · congr 1; omega
      · congr 1
        · congr 1; omega
        · congr 2; omega
    · rw [if_pos (show nI 2 = 2 from rfl), show (rb F).getD 11 0 = nI b2' from e2, show (128 : Int32) = nI (2 ^ 7) from rfl, and_bit (by omega) (by omega)]
      omega
    · apply short_eq
      rw [show (rb F).getD 9 0 = nI b0 from e0, show (rb F).getD 10 0 = nI b1' from e1, show (256 : Int32) * nI b1' = nI (256 * b1') from pk_mul 256 _, nI_add, uI_nI (by omega), uI_nI (by omega)]
      omega
  · have nk : ¬ nI k = 2 := fun z => c2 ((nI_eq (a := k) (b := 2) (by omega) (by omega)).mp z)
    refine ⟨b0, b0 % 128, ?_, by omega, by omega, ?_, ?_, ?_, ?_, fun _ => e0.symm, fun z => absurd z c2⟩
    · have := S_number (MG_19 h) f.2 9 1 (by omega) (by omega) (fun i => b0) (fun i hi => by
        rw [show i = 0 by omega]
        exact ⟨h0, e0⟩)
      rw [show (9 : Int32) = nI 9 from rfl, if_neg c2, this]
      congr 2
      show lN (0 * 256 + b0) = _
      congr 1; omega
    · rw [if_neg c2, if_neg nk, show (128 : Int32) <<< (((8 : Int32) * (nI 1 - 1)) &&& 31) = 128 from by decide +kernel, show (rb F).getD 9 0 = nI b0 from e0]
    · rw [if_neg c2, show (128 : Int32) <<< (((8 : Int32) * (nI 1 - 1)) &&& 31) = 128 from by decide +kernel, and_m7 b0 h0]
    · unfold slB obF
      rw [if_neg nk, if_neg nk, show (rb F).getD 9 0 = nI b0 from e0, pk_andN (n := b0) (by omega) (m := 127) 7 rfl]
    · rw [if_neg nk, show (rb F).getD 9 0 = nI b0 from e0, show (128 : Int32) = nI (2 ^ 7) from rfl, and_bit (by omega) (by omega)]
      omega
theorem slB_inj {so : Int32} {d d' : Nat} (h : d < 2 ^ 24) (h' : d' < 2 ^ 24) (e : slB so d = slB so d') : d = d' := by
  unfold slB at e
  by_cases c : so = 2
  · rw [if_pos c, if_pos c, bN_3, bN_3] at e
    injection e with e1 e2
    injection e2 with e2 e3
    injection e3 with e3 _
    have q1 := (nI_eq (by omega) (by omega)).mp e1
    have q2 := (nI_eq (by omega) (by omega)).mp e2
    have q3 := (nI_eq (by omega) (by omega)).mp e3
    omega
  · rw [if_neg c, if_neg c] at e
    injection e with e1 _
    exact (nI_eq (by omega) (by omega)).mp e1
theorem S_isOrder {t : Bool} {C : Nat} {s : eS} {A : aS} (r : RS t C s A) {c : Nat} (hc : c < (A.2.2 1).length) {k : Nat} (hk : k < 3) (e0 : sI s (cA s c) 0 = nI k) {F : List Int32} {D d : Nat} (cd : CD F k D d) : mX2_isOrder (cA s c) (nI D) s = some (if badO (nI k) ((rb F).getD (if nI k = 2 then 11 else 9) 0) = 0 then 1 else 0, s) := by
  have ko := ((rs_d r).2.1.1 c hc).2
  unfold mX2_isOrder mX2_isOrder_43 mX2_isOrder_58 mX2_isOrder_63 badO
  rw [koI ko, b1S, e0, oZ0, oZ1, b1S, b1S]
  have q := cd.2.2.2.2.2.2.1
  rcases (by omega : k = 0 ∨ k = 1 ∨ k = 2) with rfl | rfl | rfl
  · rw [q (by omega), if_pos (show nI 0 = 0 from rfl), if_pos (show nI 0 = 0 from rfl), if_neg (by decide : ¬ nI 0 = 2)]
    by_cases c : (rb F).getD 9 0 &&& 2 = 0
    · rw [if_pos c, if_pos c, if_pos rfl]
    · rw [if_neg c, if_neg c, if_neg (by decide)]
  · rw [q (by omega), if_neg (by decide : ¬ nI 1 = 0), if_neg (by decide : ¬ nI 1 = 0), if_pos (show nI 1 = 1 from rfl), if_pos (show nI 1 = 1 from rfl), if_neg (by decide : ¬ nI 1 = 2)]
    by_cases c : (rb F).getD 9 0 &&& 3 = 1
    · rw [if_pos c, if_pos c, if_pos rfl]
    · rw [if_neg c, if_neg c]
      by_cases c' : (rb F).getD 9 0 &&& 3 = 2
      · rw [if_pos c', if_pos c', if_pos rfl]
      · rw [if_neg c', if_neg c', if_neg (by decide)]
  · rw [if_neg (by decide : ¬ nI 2 = 0), if_neg (by decide : ¬ nI 2 = 0), if_neg (by decide : ¬ nI 2 = 1), if_neg (by decide : ¬ nI 2 = 1), if_pos rfl]
theorem S_valueOf {s : eS} {a : Nat} (ko : KO s 102 a) {k : Nat} (hk : k < 3) (e0 : sI s a 0 = nI k) {F : List Int32} {D d : Nat} (cd : CD F k D d) : mX2_valueOf a (nI D) s = some (ordV F (nI k) ((rb F).getD (if nI k = 2 then 11 else 9) 0), s) := by
  unfold mX2_valueOf ordV
  rw [koI ko, b1S, e0]
  have q := cd.2.2.2.2.2.2
  rcases (by omega : k = 0 ∨ k = 1 ∨ k = 2) with rfl | rfl | rfl
  · rw [q.1 (by omega), if_pos (show nI 0 = 0 from rfl), if_pos (show nI 0 = 0 from rfl), if_neg (by decide : ¬ nI 0 = 2)]
  · rw [q.1 (by omega), if_neg (by decide : ¬ nI 1 = 0), if_neg (by decide : ¬ nI 1 = 0), if_pos (show nI 1 = 1 from rfl), if_pos (show nI 1 = 1 from rfl), if_neg (by decide : ¬ nI 1 = 2)]
  · rw [if_neg (by decide : ¬ nI 2 = 0), if_neg (by decide : ¬ nI 2 = 0), if_neg (by decide : ¬ nI 2 = 1), if_neg (by decide : ¬ nI 2 = 1), q.2 rfl]
theorem ordV_ok {F : List Int32} {k : Nat} (hk : k < 3) (q : Int32) : vOK (nI ([0, 1, 4].getD k 0)) (ordV F (nI k) q) := by
  unfold ordV
  rcases (by omega : k = 0 ∨ k = 1 ∨ k = 2) with rfl | rfl | rfl
  · refine ⟨fun _ => ?_, fun z => absurd z (by decide)⟩
    rw [if_pos (show nI 0 = 0 from rfl), Int32.and_assoc]; rfl
  · refine ⟨fun z => absurd z (by decide), fun _ => ?_⟩
    rw [if_neg (by decide : ¬ nI 1 = 0), if_pos (show nI 1 = 1 from rfl), Int32.and_assoc]; rfl
  · exact ⟨fun z => absurd z (by decide), fun z => absurd z (by decide)⟩
