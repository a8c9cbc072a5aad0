/-! ===== the model takes the rest of a frame ===== -/
def orF (ty : Int32) : Int32 := if ty = 45 then 1 else if ty = 46 then 1 else if ty = 49 then 1 else 0
theorem M_isOrder (ty : Int32) (s : eS) : mX12_isOrder ty s = some (orF ty, s) := by
  unfold mX12_isOrder mX12_isOrder_18 mX12_isOrder_23 orF
  split
  · rfl
  · split
    · rfl
    · split
      · rfl
      · rfl
def lnF (ty : Int32) : Int32 := if ty = 45 then 10 else if ty = 46 then 10 else if ty = 100 then 10 else if ty = 101 then 10 else if ty = 49 then 12 else if ty = 102 then 9 else if ty = 103 then 16 else 11
theorem M_lengthOf (ty : Int32) (s : eS) : mX12_lengthOf ty s = some (lnF ty, s) := by
  unfold mX12_lengthOf mX12_lengthOf_24 mX12_lengthOf_64 lnF
  split
  · rfl
  · split
    · rfl
    · split
      · rfl
      · split
        · rfl
        · split
          · rfl
          · split
            · rfl
            · split
              · rfl
              · rfl
/-- one more that is passed over -/
def a_more (A : aS) : aS := ui A 13 (A.1 13 + 1)
theorem M_238 {s : eS} (h : SH s) {A : aS} (r : RM s A) : ∃ s', mX12_rest_238 26 s = some s' ∧ SH s' ∧ ag xN s s' ∧ RM s' (a_more A) := by
  have e : sI s 26 44 = A.1 13 := r.1 13 (by decide)
  unfold mX12_rest_238 mX12_rest_305 a_more
  rw [gI_26 h, b1S, e, pI_26 h, b1S]
  exact ⟨_, rfl, SH_I h, xN_M (xM_I ag_rf (by decide)), RM_set r (by decide) (by decide)⟩
def a_doit (A : aS) (F : List Int32) (n : Nat) (ty cause x : Int32) : aS := if nI n = lnF ty then (if (rb F).getD 1 0 = 1 then (if orF ty = 0 then (if ty = 102 then a_read A F x else if x = 0 then a_ask A F ty cause else a_same A F 47 1) else a_cmd A F ty cause x) else a_more A) else a_more A
set_option maxRecDepth 100000 in
theorem M_221 {s : eS} (h : SH s) {A : aS} (r : RM s A) (w : W1 A) (w3 : W3 A) (w4 : W4 A) {F : List Int32} (fr : FR s F) {n : Nat} (f : fullF F n) (hn : 9 ≤ n) (ty cause x : Int32) : ∃ s', mX12_rest_221 26 (nI n) ty cause x s = some s' ∧ SH s' ∧ ag xN s s' ∧ RM s' (a_doit A F n ty cause x) := by
  have hn249 := f.2.1
  unfold mX12_rest_221 mX12_rest_305 a_doit
  rw [M_lengthOf, b2S]
  by_cases c1 : nI n = lnF ty
  · rw [if_pos c1, if_pos c1, oK_26 h, b1S, show mX12_at 26 1 s = some ((rb F).getD 1 0, s) from M_at h fr f (k := 1) (by omega), b2S]
    by_cases c2 : (rb F).getD 1 0 = 1
    · rw [if_pos c2, if_pos c2, M_isOrder, b2S]
      have ln : ∀ k : Nat, k < 2 ^ 31 → lnF ty = nI k → n = k := fun k hk e => (nI_eq (by omega) hk).mp (c1.trans e)
      by_cases c3 : orF ty = 0
      · rw [if_pos c3, if_pos c3]
        by_cases c4 : ty = 102
        · rw [if_pos c4, if_pos c4]
          obtain ⟨s1, e1, h1, g1, r1⟩ := M_reads h r w fr f hn x
          refine ⟨s1, ?_, h1, xN_M g1, r1⟩
          rw [oK_26 h, b1S, e1, b1S]
        · rw [if_neg c4, if_neg c4]
          by_cases c5 : x = 0
          · rw [if_pos c5, if_pos c5]
            have o45 : ty ≠ 45 := fun z => by rw [z] at c3; exact absurd c3 (by decide)
            have o46 : ty ≠ 46 := fun z => by rw [z] at c3; exact absurd c3 (by decide)
            have o49 : ty ≠ 49 := fun z => by rw [z] at c3; exact absurd c3 (by decide)
            have l100 : ty = 100 → n = 10 := fun z => ln 10 (by decide) (by rw [z]; decide)
            have l101 : ty = 101 → n = 10 := fun z => ln 10 (by decide) (by rw [z]; decide)
            have l103 : ty = 103 → n = 16 := fun z => ln 16 (by decide) (by rw [z]; decide)
            have l104 : ty ≠ 100 → ty ≠ 101 → ty ≠ 103 → n = 11 := fun a b c => ln 11 (by decide) (by
              unfold lnF
              rw [if_neg o45, if_neg o46, if_neg a, if_neg b, if_neg o49, if_neg c4, if_neg c]
              rfl)
            have l11 : ty ≠ 100 → ty ≠ 101 → 11 ≤ n := fun a b => by
              by_cases c : ty = 103
              · have := l103 c; omega
              · have := l104 a b c; omega
            obtain ⟨s1, e1, h1, g1, r1⟩ := M_asked h r w w4 fr f ty cause (by
              by_cases a : ty = 100
              · have := l100 a; omega
              · by_cases b : ty = 101
                · have := l101 b; omega
                · have := l11 a b; omega) (fun c => by have := l103 c; omega) l11
            refine ⟨s1, ?_, h1, g1, r1⟩
            rw [oK_26 h, b1S, e1, b1S]
          · rw [if_neg c5, if_neg c5]
            obtain ⟨s1, e1, h1, g1, r1⟩ := M_same h r w fr f (by omega) 47 1
            refine ⟨s1, ?_, h1, xN_M g1, r1⟩
            rw [oK_26 h, b1S, e1, b1S]
      · rw [if_neg c3, if_neg c3]
        have hh : if soF ty = 2 then 12 ≤ n else 10 ≤ n := by
          unfold orF at c3
          by_cases a : ty = 45
          · have := ln 10 (by decide) (by rw [a]; decide)
            rw [a, if_neg (by decide)]
            omega
          · by_cases b : ty = 46
            · have := ln 10 (by decide) (by rw [b]; decide)
              rw [b, if_neg (by decide)]
              omega
            · by_cases c : ty = 49
              · have := ln 12 (by decide) (by rw [c]; decide)
                rw [c, if_pos (by decide)]
                omega
              · rw [if_neg a, if_neg b, if_neg c] at c3
                exact absurd rfl c3
        obtain ⟨s1, e1, h1, g1, r1⟩ := M_commanded h r w w3 fr f ty cause x hh
        refine ⟨s1, ?_, h1, xN_M g1, r1⟩
        rw [oK_26 h, b1S, e1, b1S]
    · rw [if_neg c2, if_neg c2]
      exact M_238 h r
  · rw [if_neg c1, if_neg c1]
    exact M_238 h r
def a_known (A : aS) (F : List Int32) (n : Nat) (ty cause st x v : Int32) : aS := if v = 0 then a_same A F 45 1 else if st = A.1 0 then a_doit A F n ty cause x else if orF ty = 0 then (if st = 65535 then a_doit A F n ty cause x else a_same A F 46 1) else a_same A F 46 1
def a_typed (A : aS) (F : List Int32) (n : Nat) (ty cause st x v : Int32) : aS := if orF ty = 0 then (if inL ty.toInt64 100 104 = 0 then a_same A F 44 1 else a_known A F n ty cause st x v) else a_known A F n ty cause st x v
def cauV (ty cause : Int32) : Int32 := if ty = 102 then (if cause = 5 then 1 else 0) else if cause = 6 then 1 else if cause = 8 then (if orF ty = 0 then (if ty = 100 then 1 else 0) else 1) else 0
def a_rest (A : aS) (F : List Int32) (n : Nat) : aS := if 9 ≤ n then a_typed A F n ((rb F).getD 0 0) ((rb F).getD 2 0 &&& 63) ((rb F).getD 4 0 + 256 * (rb F).getD 5 0) ((rb F).getD 6 0 + 256 * (rb F).getD 7 0 + 65536 * (rb F).getD 8 0) (cauV ((rb F).getD 0 0) ((rb F).getD 2 0 &&& 63)) else a_more A
set_option maxRecDepth 100000 in
theorem M_137 {s : eS} (h : SH s) {A : aS} (r : RM s A) (w : W1 A) (w3 : W3 A) (w4 : W4 A) {F : List Int32} (fr : FR s F) {n : Nat} (f : fullF F n) (hn : 9 ≤ n) (ty cause st x v : Int32) : ∃ s', mX12_rest_137 26 (nI n) ty cause st x v s = some s' ∧ SH s' ∧ ag xN s s' ∧ RM s' (a_typed A F n ty cause st x v) := by
  have sm : ∀ (cs : Int32), ∃ s', (b1 (o_K s 112 26) fun _ => (b1 (mX12_same 26 cs 1 s) fun s2 => (mX12_rest_305 s2))) = some s' ∧ SH s' ∧ ag xN s s' ∧ RM s' (a_same A F cs 1) := fun cs => by
    obtain ⟨s1, e1, h1, g1, r1⟩ := M_same h r w fr f (by omega) cs 1
    refine ⟨s1, ?_, h1, xN_M g1, r1⟩
    rw [oK_26 h, b1S, e1, b1S]
    rfl
  have kn : ∃ s', mX12_rest_170 26 (nI n) ty cause st x v s = some s' ∧ SH s' ∧ ag xN s s' ∧ RM s' (a_known A F n ty cause st x v) := by
    have e0 : sI s 27 0 = A.1 0 := r.1 0 (by decide)
    unfold mX12_rest_170 a_known
    by_cases cv : v = 0
    · rw [if_pos cv, if_pos cv]
      exact sm 45
    · rw [if_neg cv, if_neg cv, gP_26_0 h, b1S, b1S, aI_27 h (by decide), b1S, show (0 : Int32).toNatClampNeg = 0 from rfl, e0]
      by_cases c1 : st = A.1 0
      · rw [if_pos c1, if_pos c1]
        exact M_221 h r w w3 w4 fr f hn ty cause x
      · rw [if_neg c1, if_neg c1, M_isOrder, b2S]
        by_cases c2 : orF ty = 0
        · rw [if_pos c2, if_pos c2]
          by_cases c3 : st = 65535
          · rw [if_pos c3, if_pos c3]
            exact M_221 h r w w3 w4 fr f hn ty cause x
          · rw [if_neg c3, if_neg c3]
            exact sm 46
        · rw [if_neg c2, if_neg c2]
          exact sm 46
  unfold mX12_rest_137 a_typed
  rw [M_isOrder, b2S]
  by_cases c2 : orF ty = 0
  · rw [if_pos c2, if_pos c2, M_in, b2S]
    by_cases c3 : inL ty.toInt64 100 104 = 0
    · rw [if_pos c3, if_pos c3]
      exact sm 44
    · rw [if_neg c3, if_neg c3]
      exact kn
  · rw [if_neg c2, if_neg c2]
    exact kn
set_option maxRecDepth 100000 in
theorem M_rest {s : eS} (h : SH s) {A : aS} (r : RM s A) (w : W1 A) (w3 : W3 A) (w4 : W4 A) {F : List Int32} (fr : FR s F) {n : Nat} (f : fullF F n) : ∃ s', mX12_rest 26 s = some s' ∧ SH s' ∧ ag xN s s' ∧ RM s' (a_rest A F n) := by
  have hn := f.2.1
  have e1 : sI s 55 1 = nI (n + 4) := (FR_at fr (by rw [f.1]; omega)).trans f.2.2
  have e4 : nI (n + 4) - 4 = nI n := by rw [show (4 : Int32) = nI 4 from rfl, pk_sub (by omega)]; congr 1
  unfold mX12_rest a_rest
  rw [gP_26_50 h, b1S, b1S, aI_55 h (by decide), b1S, show (1 : Int32).toNatClampNeg = 1 from rfl, e1, e4]
  by_cases c9 : 9 ≤ n
  · rw [if_pos c9, if_pos (show (9 : Int32) ≤ nI n from nI_le (a := 9) c9 (by omega))]
    have q : ∀ (k : Int32) (j : Nat), k = nI j → j < 9 → mX12_at 26 k s = some ((rb F).getD j 0, s) := fun k j hk hj => by rw [hk]; exact M_at h fr f (by omega)
    rw [oK_26 h, b1S, q 0 0 rfl (by decide), b2S, oK_26 h, b1S, q 2 2 rfl (by decide), b2S, oK_26 h, b1S, q 4 4 rfl (by decide), b2S, oK_26 h, b1S, q 5 5 rfl (by decide), b2S, oK_26 h, b1S, q 6 6 rfl (by decide), b2S, oK_26 h, b1S, q 7 7 rfl (by decide), b2S, oK_26 h, b1S, q 8 8 rfl (by decide), b2S]
    generalize (rb F).getD 0 0 = ty, (rb F).getD 2 0 &&& 63 = cause, (rb F).getD 4 0 + 256 * (rb F).getD 5 0 = st, (rb F).getD 6 0 + 256 * (rb F).getD 7 0 + 65536 * (rb F).getD 8 0 = x
    have key := fun v => M_137 h r w w3 w4 fr f c9 ty cause st x v
    unfold mX12_rest_132 mX12_rest_136 cauV
    by_cases c1 : ty = 102
    · rw [if_pos c1, if_pos c1]
      by_cases c2 : cause = 5
      · rw [if_pos c2, if_pos c2]; exact key 1
      · rw [if_neg c2, if_neg c2]; exact key 0
    · rw [if_neg c1, if_neg c1]
      by_cases c2 : cause = 6
      · rw [if_pos c2, if_pos c2]; exact key 1
      · rw [if_neg c2, if_neg c2]
        by_cases c3 : cause = 8
        · rw [if_pos c3, if_pos c3, M_isOrder, b2S]
          by_cases c4 : orF ty = 0
          · rw [if_pos c4, if_pos c4]
            by_cases c5 : ty = 100
            · rw [if_pos c5, if_pos c5]; exact key 1
            · rw [if_neg c5, if_neg c5]; exact key 0
          · rw [if_neg c4, if_neg c4]; exact key 1
        · rw [if_neg c3, if_neg c3]; exact key 0
  · rw [if_neg c9, if_neg (show ¬ (9 : Int32) ≤ nI n from nI_ge (b := 9) (by omega) (by decide))]
    exact M_238 h r
