/-! ===== bytes come to the model ===== -/
theorem byte_of (y : Int64) : ∃ b : Nat, b < 256 ∧ (y &&& 255).toInt32 = nI b := by
  have hl : (y &&& 255).toBitVec.toNat < 256 := by
    rw [Int64.toBitVec_and, BitVec.toNat_and]
    exact Nat.lt_of_le_of_lt Nat.and_le_right (by decide)
  refine ⟨(y &&& 255).toBitVec.toNat, hl, ?_⟩
  apply Int32.toBitVec_inj.mp
  rw [Int64.toBitVec_toInt32]
  apply BitVec.eq_of_toNat_eq
  rw [show (nI (y &&& 255).toBitVec.toNat).toBitVec = BitVec.ofNat 32 (y &&& 255).toBitVec.toNat from rfl, BitVec.toNat_ofNat]
  first
    | rw [BitVec.toNat_setWidth]
    | rw [BitVec.signExtend_eq_setWidth_of_le _ (by decide), BitVec.toNat_setWidth]
def cb6 (l : List Int32) (x v : Int32) : Int32 :=
  if x &&& 1 = 0 then v else if l.getD 1 0 = 4 then (if l.getD 3 0 = 0 then (if x = 1 then v else if (x = 7 ∨ x = 11 ∨ x = 19 ∨ x = 35 ∨ x = 67 ∨ x = 131) then (if l.getD 4 0 = 0 then (if l.getD 5 0 = 0 then 1 else 0) else 0) else 0) else 0) else 0
/-- a frame can begin so -/
def cbF (l : List Int32) : Int32 :=
  if l.length = 1 then (if l.getD 0 0 = 104 then 1 else 0) else if l.length = 2 then inL (l.getD 1 0).toInt64 4 253 else if l.length = 6 then cb6 l (l.getD 2 0) (if l.getD 4 0 &&& 1 = 0 then 1 else 0) else 1
set_option maxRecDepth 100000 in
theorem M_canBe {s : eS} (h : SH s) {l : List Int32} (hl : 0 < l.length) (hl2 : l.length ≤ 255) (m : MX s l) : mX12_canBe 26 s = some (cbF l, s) := by
  obtain ⟨m1, m2⟩ := m
  have q : ∀ k, k < l.length → sI s 55 k = l.getD k 0 := fun k hk => by
    have := rd_getD (sI s 55) 0 hk
    rw [m2] at this
    exact this.symm
  have ne : ∀ k : Nat, k < 2 ^ 31 → (nI l.length = nI k ↔ l.length = k) := fun k hk => nI_eq (by omega) hk
  unfold mX12_canBe cbF
  rw [gI_26 h, b1S, m1]
  by_cases c1 : l.length = 1
  · rw [if_pos c1, if_pos (by rw [c1]; rfl), gP_26_50 h, b1S, b1S, aI_55 h (by decide), b1S, show (0 : Int32).toNatClampNeg = 0 from rfl, q 0 (by omega)]
    unfold mX12_canBe_24
    by_cases c : l.getD 0 0 = 104
    · rw [if_pos c, if_pos c]; rfl
    · rw [if_neg c, if_neg c]; rfl
  · rw [if_neg c1, if_neg (show ¬ nI l.length = 1 from fun z => c1 ((ne 1 (by decide)).mp z)), b1S]
    by_cases c2 : l.length = 2
    · rw [if_pos c2, if_pos (by rw [c2]; rfl), gP_26_50 h, b1S, b1S, aI_55 h (by decide), b1S, show (1 : Int32).toNatClampNeg = 1 from rfl, q 1 (by omega), M_in, b2S]
      have : o_Z (inL (l.getD 1 0).toInt64 4 253) = some () := by unfold inL; exact oZif (oZif oZ1)
      rw [this, b1S]
    · rw [if_neg c2, if_neg (show ¬ nI l.length = 2 from fun z => c2 ((ne 2 (by decide)).mp z)), b1S]
      by_cases c6 : l.length = 6
      · rw [if_pos c6, if_pos (by rw [c6]; rfl), gP_26_50 h, b1S, b1S, aI_55 h (by decide), b1S, show (2 : Int32).toNatClampNeg = 2 from rfl, q 2 (by omega), b1S, b1S, aI_55 h (by decide), b1S, show (4 : Int32).toNatClampNeg = 4 from rfl, q 4 (by omega)]
        have key : ∀ v : Int32, o_Z v = some () → mX12_canBe_84 26 (l.getD 2 0) v s = some (cb6 l (l.getD 2 0) v, s) := by
          intro v hv
          have k151 : mX12_canBe_151 26 (l.getD 2 0) v s = some (if l.getD 2 0 = 1 then v else if l.getD 4 0 = 0 then (if l.getD 5 0 = 0 then 1 else 0) else 0, s) := by
            unfold mX12_canBe_151 mX12_canBe_156 mX12_canBe_192 mX12_canBe_193
            by_cases d : l.getD 2 0 = 1
            · rw [if_pos d, if_pos d, hv, b1S]
            · rw [if_neg d, if_neg d, if_neg (by decide), gP_26_50 h, b1S, b1S, aI_55 h (by decide), b1S, show (4 : Int32).toNatClampNeg = 4 from rfl, q 4 (by omega)]
              by_cases d4 : l.getD 4 0 = 0
              · rw [if_pos d4, if_pos d4, b1S, b1S, aI_55 h (by decide), b1S, show (5 : Int32).toNatClampNeg = 5 from rfl, q 5 (by omega)]
                by_cases d5 : l.getD 5 0 = 0
                · rw [if_pos d5, if_pos d5]; rfl
                · rw [if_neg d5, if_neg d5]; rfl
              · rw [if_neg d4, if_neg d4]; rfl
          have k156 : mX12_canBe_156 26 (l.getD 2 0) v 0 s = some (if l.getD 2 0 = 1 then v else 0, s) := by
            unfold mX12_canBe_156 mX12_canBe_192 mX12_canBe_193
            by_cases d : l.getD 2 0 = 1
            · rw [if_pos d, if_pos d, hv, b1S]
            · rw [if_neg d, if_neg d, if_pos rfl]; rfl
          unfold mX12_canBe_84 cb6
          by_cases d1 : l.getD 2 0 &&& 1 = 0
          · rw [if_pos d1, if_pos d1, hv, b1S]
          · rw [if_neg d1, if_neg d1, gP_26_50 h, b1S, b1S, aI_55 h (by decide), b1S, show (1 : Int32).toNatClampNeg = 1 from rfl, q 1 (by omega)]
            unfold mX12_canBe_112
            by_cases d2 : l.getD 1 0 = 4
            · rw [if_pos d2, if_pos d2, b1S, b1S, aI_55 h (by decide), b1S, show (3 : Int32).toNatClampNeg = 3 from rfl, q 3 (by omega)]
              by_cases d3 : l.getD 3 0 = 0
              · rw [if_pos d3, if_pos d3]
                generalize l.getD 2 0 = x at *
                by_cases e1 : x = 7
                · rw [if_pos e1, k151, if_pos (Or.inl e1)]
                · rw [if_neg e1]
                  by_cases e2 : x = 11
                  · rw [if_pos e2, k151, if_pos (Or.inr (Or.inl e2))]
                  · rw [if_neg e2]
                    by_cases e3 : x = 19
                    · rw [if_pos e3, k151, if_pos (Or.inr (Or.inr (Or.inl e3)))]
                    · rw [if_neg e3]
                      by_cases e4 : x = 35
                      · rw [if_pos e4, k151, if_pos (Or.inr (Or.inr (Or.inr (Or.inl e4))))]
                      · rw [if_neg e4]
                        by_cases e5 : x = 67
                        · rw [if_pos e5, k151, if_pos (Or.inr (Or.inr (Or.inr (Or.inr (Or.inl e5)))))]
                        · rw [if_neg e5]
                          by_cases e6 : x = 131
                          · rw [if_pos e6, k151, if_pos (Or.inr (Or.inr (Or.inr (Or.inr (Or.inr e6)))))]
                          · rw [if_neg e6, k156, if_neg (show ¬ (x = 7 ∨ x = 11 ∨ x = 19 ∨ x = 35 ∨ x = 67 ∨ x = 131) from fun z => by rcases z with z | z | z | z | z | z <;> contradiction)]
              · rw [if_neg d3, if_neg d3]; rfl
            · rw [if_neg d2, if_neg d2]; rfl
        by_cases d : l.getD 4 0 &&& 1 = 0
        · rw [if_pos d, if_pos d]
          exact key 1 oZ1
        · rw [if_neg d, if_neg d]
          exact key 0 oZ0
      · rw [if_neg c6, if_neg (show ¬ nI l.length = 6 from fun z => c6 ((ne 6 (by decide)).mp z))]
        rfl
abbrev xRX : Nat → Nat → Bool := fun a k => a == 55 || (a == 26 && k == 51)
theorem RM_rx {s s' : eS} {A : aS} {l : List Int32} (g : ag xRX s s') (r : RM s A) (mx : MX s' l) : RM s' (ul A 1 l) := by
  obtain ⟨a1, a2, a3, a4, a5, a6, a7, a8, a9⟩ := r
  exact ⟨MI_A (MI_ag g a1 (by decide)) rfl, OU_ag g a2 rfl (fun k => rfl), mx, ML_ag g a4 ⟨rfl, rfl, rfl⟩ (fun k => ⟨rfl, rfl⟩), MP_ag g a5 rfl (fun k => ⟨rfl, rfl, rfl, rfl, rfl, rfl, rfl⟩), MC_ag g a6 rfl (fun k => ⟨rfl, rfl, rfl, rfl, rfl⟩), MS_ag g a7 rfl (fun k => ⟨rfl, rfl, rfl, rfl⟩) (fun k => ⟨rfl, rfl⟩), ME_ag g a8 rfl (fun k => ⟨rfl, rfl, rfl, rfl⟩), MA_ag g a9 rfl (fun k => ⟨rfl, rfl⟩)⟩
/-- what came of a frame -/
def rxW (l : List Int32) : Prop := byF l ∧ (2 ≤ l.length → ∃ k : Nat, 4 ≤ k ∧ k ≤ 253 ∧ l.getD 1 0 = nI k ∧ l.length < k + 2)
theorem WW_ul1 {C : Nat} {A : aS} (w : WW C A) (l : List Int32) : WW C (ul A 1 l) := w
/-- a byte comes -/
def a_byte (A : aS) (b : Int32) : Int32 × aS :=
  if cbF (A.2.1 1 ++ [b]) = 0 then (0, a_close (ul A 1 (A.2.1 1 ++ [b])) 2)
  else if (A.2.1 1 ++ [b]).length ≤ 5 then (0, ul A 1 (A.2.1 1 ++ [b]))
  else if nI (A.2.1 1 ++ [b]).length = 2 + (A.2.1 1 ++ [b]).getD 1 0 then (if (a_takes (ul A 1 (A.2.1 1 ++ [b])) (A.2.1 1 ++ [b]) ((A.2.1 1 ++ [b]).length - 6)).1 7 = 0 then 0 else 1, ul (a_takes (ul A 1 (A.2.1 1 ++ [b])) (A.2.1 1 ++ [b]) ((A.2.1 1 ++ [b]).length - 6)) 1 [])
  else (0, ul A 1 (A.2.1 1 ++ [b]))
def a_bytes : aS → Int32 → List Int32 → Int32 × aS
  | A, c, [] => (c, A)
  | A, c, b :: t => if A.1 7 = 0 then (c, A) else a_bytes (a_byte A b).2 (c + (a_byte A b).1) t
/-- all cells of the model -/
abbrev xA : Nat → Nat → Bool := fun a _ => decide (26 ≤ a) && decide (a < 58)
theorem xA_N {s s' : eS} (g : ag xN s s') : ag xA s s' := ag_mono g (fun a k hx => by
  simp only [xA, Bool.and_eq_false_iff, decide_eq_false_iff_not] at hx
  simp only [xN, Bool.and_eq_false_iff, decide_eq_false_iff_not, Bool.not_eq_false', beq_iff_eq]
  omega)
theorem byF_app {l : List Int32} (h : byF l) {b : Nat} (hb : b < 256) : byF (l ++ [nI b]) := by
  intro k
  rw [gD]
  by_cases c1 : k < l.length
  · rw [List.getElem?_append_left c1, ← gD]
    exact h k
  · rw [List.getElem?_append_right (by omega)]
    by_cases c2 : k = l.length
    · rw [c2, Nat.sub_self]
      exact ⟨b, hb, rfl⟩
    · rw [List.getElem?_eq_none (by show 1 ≤ k - l.length; omega)]
      exact ⟨0, by decide, rfl⟩
theorem rx_4 : ∀ b, b < 256 → inL (nI b).toInt64 4 253 ≠ 0 → 4 ≤ b ∧ b ≤ 253 := by decide +kernel
theorem rxW_nil : rxW [] := ⟨fun k => ⟨0, by decide, rfl⟩, fun z => absurd z (by decide)⟩
