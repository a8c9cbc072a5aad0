/-! ===== the model's change ===== -/
def valF (so v : Int32) : Int32 := if so = 0 then inL v.toInt64 0 1 else if so = 1 then inL v.toInt64 0 3 else if so = 2 then inL v.toInt64 (-64) 63 else if so = 3 then inL v.toInt64 (-32768) 32767 else if so = 4 then inL v.toInt64 (-32768) 32767 else if so = 5 then (if (2139095040 : Int32) < (v &&& (2147483647 : Int32)) then 0 else 1) else 1
def mayF (so : Int32) : Int32 := if so = 6 then 16 else if 2 ≤ so then 31 else 30
/-- the bytes of THE CLOCK's time -/
def tmB (A : aS) : List Int32 := [A.1 19 &&& 255, A.1 19 >>> ((8 : Int32) &&& 31), A.1 20 + (if A.1 25 = 0 then 128 else 0), A.1 21, A.1 22, A.1 23, A.1 24]
def a_chv (A : aS) (p : Nat) (v q : Int32) : aS := uq (uq A 0 (sg (A.2.2 0) p 4 v)) 0 (sg (sg (A.2.2 0) p 4 v) p 5 q)
def a_chE (A : aS) (p : Nat) (v q : Int32) : Int32 × aS := if pg (A.2.2 0) p 0 = 6 then (1, a_sends 13 (a_chv A p v q)) else if nI (A.2.2 3).length < 40 then (1, a_sends 13 (uq (a_chv A p v q) 3 (A.2.2 3 ++ [nI p :: v :: q :: tmB A]))) else (-3, A)
def a_change (A : aS) (x v q : Int32) : Int32 × aS := if ptI A x = 0 then (-1, A) else if valF (pg (A.2.2 0) x.toNatClampNeg 0) v = 0 then (-1, A) else if q &&& (mayF (pg (A.2.2 0) x.toNatClampNeg 0) ^^^ (-1)) = 0 then (if pg (A.2.2 0) x.toNatClampNeg 4 = v then (if pg (A.2.2 0) x.toNatClampNeg 5 = q then (0, A) else a_chE A x.toNatClampNeg v q) else a_chE A x.toNatClampNeg v q) else (-1, A)
theorem inZ (a lo hi : Int64) : o_Z (inL a lo hi) = some () := by unfold inL; exact oZif (oZif oZ1)
theorem M_isValue (so v : Int32) (s : eS) : mX12_isValue so v s = some (valF so v, s) := by
  unfold mX12_isValue mX12_isValue_70 mX12_isValue_96 valF
  simp only [M_in, b2S, inZ, b1S, oZ0, oZ1]
  exact it2 rfl (it2 rfl (it2 rfl (it2 rfl (it2 rfl (it2 (it2 rfl rfl) rfl)))))
set_option maxRecDepth 100000 in
theorem M_timeByte {s : eS} (h : SH s) {A : aS} (m : MI s A) {k : Nat} (hk : k < 7) : mX12_timeByte 26 (nI k) s = some ((tmB A).getD k 0, s) := by
  have e : ∀ j, j < 6 → sI s 41 j = A.1 (19 + j) := fun j hj => by
    have esc : ∀ j, j < 6 → mc (19 + j) = (41, j) := by decide
    have := m (19 + j) (by omega)
    rw [esc j hj] at this
    exact this
  have e25 : sI s 26 22 = A.1 25 := m 25 (by decide)
  have rest : ∀ j, 3 ≤ j → j < 7 → mX12_timeByte 26 (nI j) s = some (A.1 (18 + j), s) := fun j h3 h7 => by
    have nn : ∀ c : Nat, c < 3 → ¬ nI j = nI c := fun c hc z => by have := (nI_eq (by omega) (by omega)).mp z; omega
    have em : nI j - 1 = nI (j - 1) := by
      obtain ⟨q, hq⟩ : ∃ q, j = q + 1 := ⟨j - 1, by omega⟩
      rw [hq, nI_pred, Nat.add_sub_cancel]
    unfold mX12_timeByte mX12_timeByte_71
    rw [if_neg (show ¬ nI j = 0 from nn 0 (by omega)), if_neg (show ¬ nI j = 1 from nn 1 (by omega)), if_neg (show ¬ nI j = 2 from nn 2 (by omega)), gP_26_21 h, b1S, b1S, em, aI_41 h (nIc (by omega) (by omega)), b1S, nI_clamp (by omega), e (j - 1) (by omega), show 19 + (j - 1) = 18 + j by omega]
  rcases (by omega : k = 0 ∨ k = 1 ∨ k = 2 ∨ k = 3 ∨ k = 4 ∨ k = 5 ∨ k = 6) with rfl | rfl | rfl | rfl | rfl | rfl | rfl
  · unfold mX12_timeByte mX12_timeByte_71
    rw [if_pos (show nI 0 = 0 from rfl), gP_26_21 h, b1S, b1S, aI_41 h (by decide), b1S, show (0 : Int32).toNatClampNeg = 0 from rfl, e 0 (by omega)]
    rfl
  · unfold mX12_timeByte mX12_timeByte_71
    rw [if_neg (by decide : ¬ nI 1 = 0), if_pos (show nI 1 = 1 from rfl), gP_26_21 h, b1S, b1S, aI_41 h (by decide), b1S, show (0 : Int32).toNatClampNeg = 0 from rfl, e 0 (by omega)]
    rfl
  · unfold mX12_timeByte mX12_timeByte_59 mX12_timeByte_71
    rw [if_neg (by decide : ¬ nI 2 = 0), if_neg (by decide : ¬ nI 2 = 1), if_pos (show nI 2 = 2 from rfl), gP_26_21 h, b1S, b1S, aI_41 h (by decide), b1S, show (1 : Int32).toNatClampNeg = 1 from rfl, e 1 (by omega), gI_26 h, b1S, e25]
    show (if A.1 25 = 0 then some (A.1 20 + 128, s) else some (A.1 20 + 0, s)) = some (A.1 20 + (if A.1 25 = 0 then 128 else 0), s)
    by_cases c : A.1 25 = 0
    · rw [if_pos c, if_pos c]
    · rw [if_neg c, if_neg c]
  · exact rest 3 (by omega) (by omega)
  · exact rest 4 (by omega) (by omega)
  · exact rest 5 (by omega) (by omega)
  · exact rest 6 (by omega) (by omega)
set_option maxRecDepth 100000 in
theorem M_chg_loop {A : aS} {n : Nat} (hn : n < 59) {s0 : eS} (e0 : sI s0 26 23 = nI n) (m0 : MI s0 A) : ∀ (d i m : Nat) (s : eS), i + d = 7 → d < m → SH s → ag (fun a k => a == 45) s0 s → (∀ j, j < i → sI s 45 (7 * n + j) = (tmB A).getD j 0) → (∀ j, (j < 7 * n ∨ 7 * n + i ≤ j) → sI s 45 j = sI s0 45 j) →
    ∃ s', mX12_change_172 m 26 (nI i) s = mX12_change_216 26 (e_I s' 26 23 (nI (n + 1))) ∧ SH s' ∧ ag (fun a k => a == 45) s0 s' ∧ (∀ j, j < 7 → sI s' 45 (7 * n + j) = (tmB A).getD j 0) ∧ ∀ j, j < 7 * n → sI s' 45 j = sI s0 45 j := by
  intro d
  induction d with
  | zero =>
    intro i m s hi hm h g h1 h2
    obtain ⟨m, rfl⟩ : ∃ q, m = q + 1 := ⟨m - 1, by omega⟩
    have e : sI s 26 23 = nI n := (g.2 _ _ rfl).trans e0
    refine ⟨s, ?_, h, g, fun j hj => h1 j (by omega), fun j hj => h2 j (Or.inl hj)⟩
    unfold mX12_change_172
    rw [if_pos (c_le (c := 7) 7 (by omega)), gI_26 h, b1S, e, nI_1, pI_26 h, b1S]
  | succ d ih =>
    intro i m s hi hm h g h1 h2
    obtain ⟨m, rfl⟩ : ∃ q, m = q + 1 := ⟨m - 1, by omega⟩
    have e : sI s 26 23 = nI n := (g.2 _ _ rfl).trans e0
    have mi : MI s A := MI_ag g m0 (by decide)
    unfold mX12_change_172
    rw [if_neg (c_nle (c := 7) 7 (by omega)), gP_26_27 h, b1S, gI_26 h, b1S, e, oK_26 h, b1S, M_timeByte h mi (k := i) (by omega), b2S, b1S, nI_mul7, sI_45 h (nIc (by omega) (by omega)), b1S, nI_clamp (by omega), nI_1]
    refine ih (i + 1) m _ (by omega) (by omega) (SH_I h) (ag_I g rfl) (fun j hj => ?_) (fun j hj => ?_)
    · by_cases c : j = i
      · subst c; exact rII_eq
      · rw [rII_ne (Or.inr (by omega))]; exact h1 j (by omega)
    · rw [rII_ne (Or.inr (by omega))]; exact h2 j (by omega)
theorem tmB_rd (A : aS) {f : Nat → Int32} (h : ∀ j, j < 7 → f j = (tmB A).getD j 0) : rd f 7 = tmB A := by
  show [f 0, f 1, f 2, f 3, f 4, f 5, f 6] = _
  rw [h 0 (by omega), h 1 (by omega), h 2 (by omega), h 3 (by omega), h 4 (by omega), h 5 (by omega), h 6 (by omega)]
  rfl
theorem RM_evs {s s' : eS} {A : aS} {q : List (List Int32)} (g : ag xE1 s s') (r : RM s A) (e : ME s' q) : RM s' (uq A 3 q) := by
  obtain ⟨a1, a2, a3, a4, a5, a6, a7, a8, a9⟩ := r
  exact ⟨MI_A (MI_ag g a1 (by decide)) rfl, OU_ag g a2 rfl (fun k => rfl), MX_ag g a3 rfl (fun k => rfl), ML_ag g a4 ⟨rfl, rfl, rfl⟩ (fun k => ⟨rfl, rfl⟩), MP_ag g a5 rfl (fun k => ⟨rfl, rfl, rfl, rfl, rfl, rfl, rfl⟩), MC_ag g a6 rfl (fun k => ⟨rfl, rfl, rfl, rfl, rfl⟩), MS_ag g a7 rfl (fun k => ⟨rfl, rfl, rfl, rfl⟩) (fun k => ⟨rfl, rfl⟩), e, MA_ag g a9 rfl (fun k => ⟨rfl, rfl⟩)⟩
theorem chv_W {C : Nat} {A : aS} (w : WW C A) (p : Nat) (v q : Int32) : WW C (a_chv A p v q) := by
  have w1 := WW_sg0 w p v
  obtain ⟨⟨h1, h2, h3, h4, h5, h6, h7⟩, w2, w3, w4, w5⟩ := w1
  have hl : (sg (sg (A.2.2 0) p 4 v) p 5 q).length = (sg (A.2.2 0) p 4 v).length := sg_len ..
  have ew : ∀ e, evW (uq A 0 (sg (A.2.2 0) p 4 v)) e → evW (a_chv A p v q) e := fun e he => by
    obtain ⟨p', v', q', t', a, b, c⟩ := he
    refine ⟨p', v', q', t', ?_, b, c⟩
    show p' < (sg (sg (A.2.2 0) p 4 v) p 5 q).length
    rw [hl]; exact a
  refine ⟨⟨h1, h2, h3, h4, fun e he => ew e (h5 e he), fun e he => ew e (h6 e he), h7⟩, w2, fun e he => ?_, fun i j hi hj e => ?_, w5⟩
  · rcases w3 e he with z | ⟨p', a, b⟩
    · exact Or.inl z
    · refine Or.inr ⟨p', ?_, b⟩
      show p' < (sg (sg (A.2.2 0) p 4 v) p 5 q).length
      rw [hl]; exact a
  · have hi' : i < (sg (sg (A.2.2 0) p 4 v) p 5 q).length := hi
    have hj' : j < (sg (sg (A.2.2 0) p 4 v) p 5 q).length := hj
    rw [hl] at hi' hj'
    have e' : pg (sg (sg (A.2.2 0) p 4 v) p 5 q) i 1 = pg (sg (sg (A.2.2 0) p 4 v) p 5 q) j 1 := e
    rw [pg_sg (sg (A.2.2 0) p 4 v) p 5 q (j := 1) (by decide) i, pg_sg (sg (A.2.2 0) p 4 v) p 5 q (j := 1) (by decide) j] at e'
    exact w4 i j hi' hj' e'
theorem chE_W {C : Nat} {A : aS} (w : WW C A) {p : Nat} (hp : p < (A.2.2 0).length) (v q : Int32) (hl : (A.2.2 3).length < 40) (h2' : (A.2.2 2).length ≤ 12) : WW C (uq (a_chv A p v q) 3 (A.2.2 3 ++ [nI p :: v :: q :: tmB A])) := by
  have w1 := chv_W w p v q
  obtain ⟨⟨h1, h2, h3, h4, h5, h6, h7⟩, w2, w3, w4, w5⟩ := w1
  have e2 : (a_chv A p v q).2.2 2 = A.2.2 2 := rfl
  refine ⟨⟨h1, ?_, h3, h4, fun e he => ?_, h6, h7⟩, w2, w3, w4, w5⟩
  · show (A.2.2 3 ++ [nI p :: v :: q :: tmB A]).length + (A.2.2 2).length ≤ 52
    rw [List.length_append]
    show (A.2.2 3).length + 1 + (A.2.2 2).length ≤ 52
    omega
  · have he' : e ∈ A.2.2 3 ++ [nI p :: v :: q :: tmB A] := he
    rw [List.mem_append] at he'
    rcases he' with z | z
    · exact h5 e z
    · rw [List.mem_singleton] at z
      refine ⟨p, v, q, tmB A, ?_, rfl, z⟩
      show p < (sg (sg (A.2.2 0) p 4 v) p 5 q).length
      rw [sg_len, sg_len]; exact hp
set_option maxRecDepth 100000 in
theorem M_114 {C : Nat} {s : eS} (h : SH s) {A : aS} (r : RM s A) (w : WW C A) (h2' : (A.2.2 2).length ≤ 12) {p : Nat} (hp : p < (A.2.2 0).length) (v q : Int32) (hl : pg (A.2.2 0) p 0 = 6 ∨ (A.2.2 3).length < 40) : ∃ s', mX12_change_114 26 (nI p) v q s = some (1, s') ∧ SH s' ∧ ag xA s s' ∧ RM s' (if pg (A.2.2 0) p 0 = 6 then a_sends 13 (a_chv A p v q) else a_sends 13 (uq (a_chv A p v q) 3 (A.2.2 3 ++ [nI p :: v :: q :: tmB A]))) := by
  have m24 := r.2.2.2.2.1.2.1
  have hi : ¬ nI p < 0 ∧ (nI p).toNatClampNeg < 24 := nIc (by omega) (by omega)
  have hc : (nI p).toNatClampNeg = p := nI_clamp (by omega)
  have t0 : pg (A.2.2 0) p 0 = sI s 28 p := by unfold pg; rw [MP_get r.2.2.2.2.1 hp]; rfl
  have h1 := SH_I (a := 32) (k := p) (x := v) h
  have h2 := SH_I (a := 33) (k := p) (x := q) h1
  have r1 := RM_pt r hp (a := 32) (k := 4) (by decide) v
  have r2 : RM (e_I (e_I s 32 p v) 33 p q) (a_chv A p v q) := RM_pt r1 (p := p) (by show p < (sg (A.2.2 0) p 4 v).length; rw [sg_len]; exact hp) (a := 33) (k := 5) (by decide) q
  have e28 : sI (e_I (e_I s 32 p v) 33 p q) 28 p = pg (A.2.2 0) p 0 := by rw [rII_ne (Or.inl (by decide)), rII_ne (Or.inl (by decide)), t0]
  have gA : ag xA s (e_I (e_I s 32 p v) 33 p q) := ag_I (ag_I ag_rf rfl) rfl
  have e216 : ∀ (s1 : eS) (B : aS), SH s1 → RM s1 B → WW C B → ∃ s', mX12_change_216 26 s1 = some (1, s') ∧ SH s' ∧ ag xA s1 s' ∧ RM s' (a_sends 13 B) := fun s1 B hs rs wB => by
    obtain ⟨s2, f2, hh2, g2, rr2, -⟩ := M_sends hs rs wB.1
    unfold mX12_change_216
    rw [oK_26 hs, b1S, f2, b1S]
    exact ⟨s2, rfl, hh2, xA_N (xN_M g2), rr2⟩
  unfold mX12_change_114
  rw [gP_26_6 h, b1S, b1S, sI_32 h hi, b1S, hc, gP_26_7 h1, b1S, b1S, sI_33 h1 hi, b1S, hc, gP_26_2 h2, b1S, b1S, aI_28 h2 hi, b1S, hc, e28]
  by_cases c6 : pg (A.2.2 0) p 0 = 6
  · rw [if_pos c6, if_pos c6]
    obtain ⟨s3, f3, h3, g3, r3⟩ := e216 _ _ h2 r2 (chv_W w p v q)
    exact ⟨s3, f3, h3, ag_tr gA g3, r3⟩
  rw [if_neg c6, if_neg c6]
  have hl40 : (A.2.2 3).length < 40 := by
    rcases hl with z | z
    · exact absurd z c6
    · exact z
  generalize e_I (e_I s 32 p v) 33 p q = s2 at *
  have me := r2.2.2.2.2.2.2.2.1
  have me1 : sI s2 26 23 = nI (A.2.2 3).length := me.1
  generalize hn : (A.2.2 3).length = n at *
  have hin : ¬ nI n < 0 ∧ (nI n).toNatClampNeg < 60 := nIc (by omega) (by omega)
  have hcn : (nI n).toNatClampNeg = n := nI_clamp (by omega)
  have h3 := SH_I (a := 42) (k := n) (x := nI p) h2
  have h4 := SH_I (a := 43) (k := n) (x := v) h3
  have h5 := SH_I (a := 44) (k := n) (x := q) h4
  have g5 : ag xE1 s2 (e_I (e_I (e_I s2 42 n (nI p)) 43 n v) 44 n q) := ag_I (ag_I (ag_I ag_rf rfl) rfl) rfl
  have v42 : sI (e_I (e_I (e_I s2 42 n (nI p)) 43 n v) 44 n q) 42 n = nI p := by rw [rII_ne (Or.inl (by decide)), rII_ne (Or.inl (by decide)), rII_eq]
  have v43 : sI (e_I (e_I (e_I s2 42 n (nI p)) 43 n v) 44 n q) 43 n = v := by rw [rII_ne (Or.inl (by decide)), rII_eq]
  have v44 : sI (e_I (e_I (e_I s2 42 n (nI p)) 43 n v) 44 n q) 44 n = q := rII_eq
  have vo : ∀ j, j ≠ n → sI (e_I (e_I (e_I s2 42 n (nI p)) 43 n v) 44 n q) 42 j = sI s2 42 j ∧ sI (e_I (e_I (e_I s2 42 n (nI p)) 43 n v) 44 n q) 43 j = sI s2 43 j ∧ sI (e_I (e_I (e_I s2 42 n (nI p)) 43 n v) 44 n q) 44 j = sI s2 44 j := fun j hj => ⟨by rw [rII_ne (Or.inl (by decide)), rII_ne (Or.inl (by decide)), rII_ne (Or.inr hj)], by rw [rII_ne (Or.inl (by decide)), rII_ne (Or.inr hj), rII_ne (Or.inl (by decide))], by rw [rII_ne (Or.inr hj), rII_ne (Or.inl (by decide)), rII_ne (Or.inl (by decide))]⟩
  have v45 : ∀ j, sI (e_I (e_I (e_I s2 42 n (nI p)) 43 n v) 44 n q) 45 j = sI s2 45 j := fun j => by rw [rII_ne (Or.inl (by decide)), rII_ne (Or.inl (by decide)), rII_ne (Or.inl (by decide))]
  rw [gP_26_24 h2, b1S, gI_26 h2, b1S, b1S, me1, sI_42 h2 hin, b1S, hcn, gP_26_25 h3, b1S, gI_26 h3, b1S, b1S, rII_ne (Or.inl (by decide)), me1, sI_43 h3 hin, b1S, hcn, gP_26_26 h4, b1S, gI_26 h4, b1S, b1S, rII_ne (Or.inl (by decide)), rII_ne (Or.inl (by decide)), me1, sI_44 h4 hin, b1S, hcn]
  have e23 : sI (e_I (e_I (e_I s2 42 n (nI p)) 43 n v) 44 n q) 26 23 = nI n := by rw [rII_ne (Or.inl (by decide)), rII_ne (Or.inl (by decide)), rII_ne (Or.inl (by decide)), me1]
  have mi : MI (e_I (e_I (e_I s2 42 n (nI p)) 43 n v) 44 n q) A := MI_A (MI_ag g5 r2.1 (by decide)) rfl
  generalize e_I (e_I (e_I s2 42 n (nI p)) 43 n v) 44 n q = s5 at *
  obtain ⟨s6, f6, h6, g6, t6, u6⟩ := M_chg_loop (A := A) (n := n) (by omega) e23 mi 7 0 100000 s5 (by omega) (by omega) h5 ag_rf (fun j hj => absurd hj (Nat.not_lt_zero j)) (fun _ _ => rfl)
  have g7 : ag xE1 s2 (e_I s6 26 23 (nI (n + 1))) := ag_I (ag_tr g5 (ag_mono g6 (fun a k hx => by simp at hx ⊢; omega))) rfl
  have me7 : ME (e_I s6 26 23 (nI (n + 1))) (A.2.2 3 ++ [nI p :: v :: q :: tmB A]) := by
    have hll : (A.2.2 3 ++ [nI p :: v :: q :: tmB A]).length = n + 1 := by rw [List.length_append, hn]; rfl
    have rr : ∀ a j, a ≠ 26 → sI (e_I s6 26 23 (nI (n + 1))) a j = sI s6 a j := fun a j ha => rII_ne (Or.inl ha)
    refine ⟨by rw [rII_eq, hll], ?_⟩
    rw [hll, rd_succ]
    have me2 : rd (evM s2) n = A.2.2 3 := by
      have := me.2
      have e3 : (a_chv A p v q).2.2 3 = A.2.2 3 := rfl
      rw [e3, hn] at this
      exact this
    congr 1
    · rw [← me2]
      apply rd_congr
      intro i hi2
      obtain ⟨y1, y2, y3⟩ := vo i (by omega)
      refine evM_congr ?_ ?_ ?_ (fun k hk => ?_)
      · rw [rr 42 i (by decide), g6.2 42 i rfl, y1]
      · rw [rr 43 i (by decide), g6.2 43 i rfl, y2]
      · rw [rr 44 i (by decide), g6.2 44 i rfl, y3]
      · rw [rr 45 _ (by decide), u6 _ (by omega), v45]
    · unfold evM
      rw [rr 42 n (by decide), g6.2 42 n rfl, v42, rr 43 n (by decide), g6.2 43 n rfl, v43, rr 44 n (by decide), g6.2 44 n rfl, v44, tmB_rd A (fun j hj => by rw [rr 45 _ (by decide)]; exact t6 j hj)]
      rfl
  have r7 := RM_evs g7 r2 me7
  obtain ⟨s8, f8, h8, g8, r8⟩ := e216 _ _ (SH_I h6) r7 (chE_W w hp v q (by omega) h2')
  refine ⟨s8, ?_, h8, ag_tr gA (ag_tr (ag_mono g7 (fun a k hx => by simp at hx ⊢; omega)) g8), r8⟩
  rw [show (0 : Int32) = nI 0 from rfl, f6, f8]
set_option maxRecDepth 100000 in
theorem M_change {C : Nat} {s : eS} (h : SH s) {A : aS} (r : RM s A) (w : WW C A) (h2' : (A.2.2 2).length ≤ 12) (x v q : Int32) : ∃ s', mX12_change 26 x v q s = some ((a_change A x v q).1, s') ∧ SH s' ∧ ag xA s s' ∧ RM s' (a_change A x v q).2 := by
  have m24 := r.2.2.2.2.1.2.1
  unfold mX12_change mX12_change_21 a_change
  rw [oK_26 h, b1S, M_isPoint h r, b2S]
  by_cases ci : ptI A x = 0
  · rw [if_pos ci, if_pos ci]
    exact ⟨s, rfl, h, ag_rf, r⟩
  rw [if_neg ci, if_neg ci]
  obtain ⟨p, hp, rfl⟩ := ptI_in r ci
  have hi : ¬ nI p < 0 ∧ (nI p).toNatClampNeg < 24 := nIc (by omega) (by omega)
  have hc : (nI p).toNatClampNeg = p := nI_clamp (by omega)
  have t0 : pg (A.2.2 0) p 0 = sI s 28 p := by unfold pg; rw [MP_get r.2.2.2.2.1 hp]; rfl
  have t4 : pg (A.2.2 0) p 4 = sI s 32 p := by unfold pg; rw [MP_get r.2.2.2.2.1 hp]; rfl
  have t5 : pg (A.2.2 0) p 5 = sI s 33 p := by unfold pg; rw [MP_get r.2.2.2.2.1 hp]; rfl
  rw [hc]
  -- behind the looks at what is called
  have e91 : ∃ s', mX12_change_91 26 (nI p) v q s = some ((a_chE A p v q).1, s') ∧ SH s' ∧ ag xA s s' ∧ RM s' (a_chE A p v q).2 := by
    have me1 : sI s 26 23 = nI (A.2.2 3).length := r.2.2.2.2.2.2.2.1.1
    have hw := w.1.2.1
    unfold mX12_change_91 a_chE
    rw [gP_26_2 h, b1S, b1S, aI_28 h hi, b1S, hc, ← t0]
    by_cases c6 : pg (A.2.2 0) p 0 = 6
    · obtain ⟨s1, f1, h1, g1, r1⟩ := M_114 h r w h2' hp v q (Or.inl c6)
      rw [if_pos c6, if_pos c6]
      rw [if_pos c6] at r1
      exact ⟨s1, f1, h1, g1, r1⟩
    · rw [if_neg c6, if_neg c6, gI_26 h, b1S, me1]
      by_cases c40 : (A.2.2 3).length < 40
      · obtain ⟨s1, f1, h1, g1, r1⟩ := M_114 h r w h2' hp v q (Or.inr c40)
        rw [if_pos (lt_c (c := 40) 40 c40), if_pos (lt_c (c := 40) 40 c40)]
        rw [if_neg c6] at r1
        exact ⟨s1, f1, h1, g1, r1⟩
      · rw [if_neg (nlt_c (c := 40) 40 (by omega)), if_neg (nlt_c (c := 40) 40 (by omega))]
        exact ⟨s, rfl, h, ag_rf, r⟩
  have e56 : ∀ may : Int32, mayF (pg (A.2.2 0) p 0) = may → ∃ s', mX12_change_56 26 (nI p) v q may s = some ((if q &&& (mayF (pg (A.2.2 0) p 0) ^^^ (-1)) = 0 then (if pg (A.2.2 0) p 4 = v then (if pg (A.2.2 0) p 5 = q then (0, A) else a_chE A p v q) else a_chE A p v q) else (-1, A)).1, s') ∧ SH s' ∧ ag xA s s' ∧ RM s' (if q &&& (mayF (pg (A.2.2 0) p 0) ^^^ (-1)) = 0 then (if pg (A.2.2 0) p 4 = v then (if pg (A.2.2 0) p 5 = q then (0, A) else a_chE A p v q) else a_chE A p v q) else (-1, A)).2 := by
    intro may hm
    rw [hm]
    unfold mX12_change_56
    by_cases cq : q &&& (may ^^^ (-1)) = 0
    · rw [if_pos cq, if_pos cq, gP_26_6 h, b1S, b1S, aI_32 h hi, b1S, hc, ← t4]
      by_cases c4 : pg (A.2.2 0) p 4 = v
      · rw [if_pos c4, if_pos c4, gP_26_7 h, b1S, b1S, aI_33 h hi, b1S, hc, ← t5]
        by_cases c5 : pg (A.2.2 0) p 5 = q
        · rw [if_pos c5, if_pos c5]
          exact ⟨s, rfl, h, ag_rf, r⟩
        · rw [if_neg c5, if_neg c5]
          exact e91
      · rw [if_neg c4, if_neg c4]
        exact e91
    · rw [if_neg cq, if_neg cq]
      exact ⟨s, rfl, h, ag_rf, r⟩
  rw [gP_26_2 h, b1S, b1S, aI_28 h hi, b1S, hc, ← t0, M_isValue, b2S]
  by_cases cv : valF (pg (A.2.2 0) p 0) v = 0
  · rw [if_pos cv, if_pos cv]
    exact ⟨s, rfl, h, ag_rf, r⟩
  rw [if_neg cv, if_neg cv, gP_26_2 h, b1S, b1S, aI_28 h hi, b1S, hc, ← t0]
  by_cases c6 : pg (A.2.2 0) p 0 = 6
  · rw [if_pos c6]
    exact e56 16 (by unfold mayF; rw [if_pos c6])
  · rw [if_neg c6, b1S, b1S, aI_28 h hi, b1S, hc, ← t0]
    by_cases c2 : (2 : Int32) ≤ pg (A.2.2 0) p 0
    · rw [if_pos c2]
      exact e56 31 (by unfold mayF; rw [if_neg c6, if_pos c2])
    · rw [if_neg c2]
      exact e56 30 (by unfold mayF; rw [if_neg c6, if_neg c2])
