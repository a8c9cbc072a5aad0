/-! ===== ints of the station ===== -/
theorem SI_upd {X : Nat → Nat → Bool} {s s' : eS} {A : aS} {x : Int32} (g : ag X s s') (h : SI s A) (j : Nat) (hj : j < 26 ∧ j ≠ 16 ∧ j ≠ 17) (h1 : ∀ k, k < 26 → k ≠ 17 → k ≠ j → X (sc k).1 (sc k).2 = false) (h2 : X 18 3 = false) (hx : sI s' (sc j).1 (sc j).2 = x) : SI s' (ui A j x) := by
  refine ⟨fun k hk h17 => ?_, ?_⟩
  · show _ = if k = j then x else A.1 k
    by_cases e : k = j
    · rw [if_pos e, e, hx]
    · rw [if_neg e, g.2 _ _ (h1 k hk h17 e)]; exact h.1 k hk h17
  · show _ = (if 16 = j then x else A.1 16) - (if 17 = j then x else A.1 17)
    rw [if_neg (Ne.symm hj.2.1), if_neg (Ne.symm hj.2.2), g.2 _ _ h2]
    exact h.2
abbrev xT3 : Nat → Nat → Bool := fun a k => a == 0 && (k == 14 || k == 15 || k == 16)
def a_test (A : aS) : aS := if (a_fr A [67, 0, 0, 0] []).1 = 0 then (a_fr A [67, 0, 0, 0] []).2 else ui (ui (ui (a_fr A [67, 0, 0, 0] []).2 12 1) 11 ((a_fr A [67, 0, 0, 0] []).2.1 9)) 10 ((a_fr A [67, 0, 0, 0] []).2.1 9)
theorem RS_test {t : Bool} {C : Nat} {s : eS} {A : aS} (r : RS t C s A) (x : Int32) : RS t C (e_I (e_I (e_I s 0 16 1) 0 15 x) 0 14 x) (ui (ui (ui A 12 1) 11 x) 10 x) := by
  have g : ag xT3 s (e_I (e_I (e_I s 0 16 1) 0 15 x) 0 14 x) := ag_I (ag_I (ag_I ag_rf rfl) rfl) rfl
  have i := SI_set (SI_set (SI_set (rs_i r) 12 (by decide) 1) 11 (by decide) x) 10 (by decide) x
  exact ⟨(have q := rs_d r; DS_ag g q), i, (have q := rs_o r; SO_ag g q ⟨rfl, rfl⟩ (fun _ => rfl)), (have q := rs_x r; SXt_ag g q ⟨rfl, rfl, rfl, rfl⟩ (fun _ => rfl)), (have q := rs_l r; SL_ag g q ⟨rfl, rfl, rfl⟩), (have q := rs_p r; SP_ag g (rs_d r).1 q rfl (fun a k hx => by simp <;> omega)), (have q := rs_c r; SC_ag g (rs_d r).1 (rs_d r).2.1 q rfl (fun a k hx => by simp <;> omega)), (have q := rs_n r; SN_ag g q ⟨rfl, rfl⟩ (fun _ => ⟨rfl, rfl⟩)), (have q := rs_e r; SE_ag g (rs_d r).1 q ⟨rfl, rfl, rfl⟩ (fun a k hx => by simp <;> omega)), (have q := rs_a r; SA_ag g (rs_d r).2.2.1 q ⟨rfl, rfl⟩ (fun a k hx => by simp <;> omega)), (have q := rs_m r; SM_ag g q ⟨rfl, rfl, rfl⟩ (fun _ => ⟨rfl, rfl, rfl, rfl, rfl⟩)), (have q := rs_z r; q), (have q := rs_f r; q)⟩
theorem S_u {t : Bool} {D : Nat} {s : eS} (h : SH s) {A : aS} (r : RS t D s A) (x : Int32) (hx : nb x 4 = [x, 0, 0, 0]) : ∃ s', mX11_sendFrame 0 x none s = some ((a_fr A [x, 0, 0, 0] []).1, s') ∧ kO s s' ∧ RS t D s' (a_fr0 A x) := by
  obtain ⟨s1, e1, k1, r1, -⟩ := S_frame h r x hx (bs := []) (by decide) (Or.inl ⟨rfl, rfl⟩)
  exact ⟨s1, e1, k1, r1⟩
theorem S_sendTest {t : Bool} {D : Nat} {s : eS} (h : SH s) {A : aS} (r : RS t D s A) : ∃ s', mX11_sendTest 0 s = some s' ∧ kO s s' ∧ RS t D s' (a_test A) := by
  obtain ⟨s1, e1, k1, r1⟩ := S_u h r 67 (by decide +kernel)
  have h1 := k1.1.1
  have r1' : RS t D s1 (a_fr A [67, 0, 0, 0] []).2 := r1
  have e9 : sI s1 0 13 = (a_fr A [67, 0, 0, 0] []).2.1 9 := (rs_i r1').1 9 (by decide) (by decide)
  unfold mX11_sendTest mX11_sendTest_31 a_test
  rw [oK_0 h, b1S, e1, b2S]
  by_cases c : (a_fr A [67, 0, 0, 0] []).1 = 0
  · rw [if_pos c, if_pos c]
    exact ⟨s1, rfl, k1, r1'⟩
  · rw [if_neg c, if_neg c, pZ_0 h1 (Or.inr rfl), b1S, gI_0 (SH_I h1), b1S, pI_0 (SH_I h1), b1S, gI_0 (SH_I (SH_I h1)), b1S, pI_0 (SH_I (SH_I h1)), b1S, rII_ne (Or.inr (by decide)), rII_ne (Or.inr (by decide)), rII_ne (Or.inr (by decide)), e9]
    exact ⟨_, rfl, kO_I (kO_I (kO_I k1 rfl (by decide)) rfl (by decide)) rfl (by decide), RS_test r1' _⟩
/-! ===== I FRAMES that were sent ===== -/
abbrev xSt : Nat → Nat → Bool := fun a k => (a == 21 && (k == 3 || k == 4)) || a == 22 || a == 23
theorem and1 {x : Int32} (h : x = 0 ∨ x = 1) : x &&& 1 = x := by rcases h with rfl | rfl <;> rfl
set_option maxRecDepth 100000 in
theorem S_sentAdd {s : eS} (h : SH s) {q : List (List Int32)} (n : SN s q) (hq : q.length < 12) (now : Int32) {ev : Int32} (hev : ev = 0 ∨ ev = 1) : ∃ s', mX10_add 21 now ev s = some s' ∧ ag xSt s s' ∧ SN s' (q ++ [[now, ev]]) ∧ sI s' 21 4 = sI s 21 4 + 1 := by
  obtain ⟨st, hst, e1, e2, _, e3⟩ := n
  have hm : (st + q.length) % 12 < 12 := Nat.mod_lt _ (by omega)
  have hi : ¬ nI ((st + q.length) % 12) < 0 ∧ (nI ((st + q.length) % 12)).toNatClampNeg < 12 := nIc (by omega) hm
  have hc : (nI ((st + q.length) % 12)).toNatClampNeg = (st + q.length) % 12 := nI_clamp (by omega)
  have g : ag xSt s (e_I (e_I (e_I (e_I s 22 ((st + q.length) % 12) now) 23 ((st + q.length) % 12) ev) 21 3 (nI (q.length + 1))) 21 4 (sI s 21 4 + 1)) := ag_I (ag_I (ag_I (ag_I ag_rf rfl) rfl) rfl) rfl
  refine ⟨_, ?_, g, ⟨st, hst, ?_, ?_, ?_, ?_⟩, ?_⟩
  · unfold mX10_add
    have h1 := SH_I (a := 22) (k := (st + q.length) % 12) (x := now) h
    have h2 := SH_I (a := 23) (k := (st + q.length) % 12) (x := ev) h1
    have h3 := SH_I (a := 21) (k := 3) (x := nI (q.length + 1)) h2
    rw [gI_21 h, b1S, e2, if_pos (lt_c (c := 12) 12 hq), gI_21 h, b1S, b1S, gP_21_0 h, b1S, b1S, e1, nI_add, show (12 : Int32) = nI 12 from rfl, pk_rem (by omega) (by omega) (by omega), sI_22 h hi, b1S, hc, gP_21_1 h1, b1S, b1S, sZ_23 h1 hi, b1S, hc, and1 hev, gI_21 h2, b1S, rII_ne (Or.inl (by decide)), rII_ne (Or.inl (by decide)), e2, nI_1, pI_21 h2, b1S, gI_21 h3, b1S, rII_ne (Or.inr (by decide)), rII_ne (Or.inl (by decide)), rII_ne (Or.inl (by decide)), pI_21 h3, b1S]
  · rw [rII_ne (Or.inr (by decide)), rII_ne (Or.inr (by decide)), rII_ne (Or.inl (by decide)), rII_ne (Or.inl (by decide))]; exact e1
  · rw [rII_ne (Or.inr (by decide)), rII_eq, List.length_append]; rfl
  · rw [List.length_append]; exact hq
  · intro i hi2
    rw [List.length_append] at hi2
    rw [rII_ne (Or.inl (by decide)), rII_ne (Or.inl (by decide)), rII_ne (Or.inl (by decide)), rII_ne (b := 23) (Or.inl (by decide)), rII_ne (b := 23) (Or.inl (by decide))]
    by_cases c : i < q.length
    · rw [rII_ne (Or.inr (by omega)), rII_ne (Or.inr (by omega)), rII_ne (Or.inl (by decide)), List.getD_eq_getElem?_getD, List.getElem?_append_left c, ← List.getD_eq_getElem?_getD]
      exact e3 i c
    · have e : i = q.length := by simp at hi2; omega
      subst e
      rw [rII_eq, rII_eq, List.getD_eq_getElem?_getD, List.getElem?_append_right (Nat.le_refl _), Nat.sub_self]
      exact ⟨rfl, hev⟩
  · rw [rII_eq]
abbrev xDt : Nat → Nat → Bool := fun a k => (a == 24 && k == 2) || a == 25 || (a == 18 && k == 3) || (a == 21 && (k == 3 || k == 4)) || a == 22 || a == 23
set_option maxRecDepth 100000 in
theorem S_sendData {t : Bool} {D C : Nat} (hC : C < 2 ^ 30) {s : eS} (h : SH s) {A : aS} (r : RS t D s A) (w : WW C A) (hq : (A.2.2 5).length < 12) {ev : Int32} (hev : ev = 0 ∨ ev = 1) {bs : List Int32} {a rr : Nat} (g : MG s a rr) (m : MT s a rr bs) (ha : a ≠ 24 ∧ a ≠ 25 ∧ rr ≠ 25 ∧ rr ≠ 24) :
    ∃ s', mX11_sendData 0 (some a) ev s = some ((a_fr A (kb (A.1 15) ++ kb (A.1 16)) bs).1, s') ∧ kO s s' ∧ ((a_fr A (kb (A.1 15) ++ kb (A.1 16)) bs).1 = 0 → RS t D s' (a_fr A (kb (A.1 15) ++ kb (A.1 16)) bs).2) ∧
      ((a_fr A (kb (A.1 15) ++ kb (A.1 16)) bs).1 ≠ 0 → ag xDt s s' ∧ SO_ s' ((a_fr A (kb (A.1 15) ++ kb (A.1 16)) bs).2.2.1 0) ∧ SI s' (a_gone (a_fr A (kb (A.1 15) ++ kb (A.1 16)) bs).2) ∧ SN s' (A.2.2 5 ++ [[A.1 9, ev]])) := by
  obtain ⟨x, y, ex, ey, hx, hy⟩ := W5_n hC w
  have e16 : sI s 18 2 = A.1 16 := (rs_i r).1 16 (by decide) (by decide)
  have e15 : sI s 21 4 = A.1 15 := (rs_i r).1 15 (by decide) (by decide)
  obtain ⟨s1, e1, k1, r1, g1⟩ := S_frame h r (((nI x &&& 32767) <<< ((1 : Int32) &&& 31)) ||| ((nI y &&& 32767) <<< ((17 : Int32) &&& 31))) (ctl_data hx hy) m.2.1 (rest := some a) (Or.inr ⟨a, rr, rfl, g, m, ha⟩)
  rw [← ex, ← ey] at r1 g1 e1
  have hok := @a_fr_ok A (kb (A.1 15) ++ kb (A.1 16)) bs
  generalize a_fr A (kb (A.1 15) ++ kb (A.1 16)) bs = F at *
  unfold mX11_sendData mX8_ackToTell
  rw [gP_0_9 h, b1S, b1S, gI_21 h, b1S, gP_0_8 h, b1S, b1S, oK_18 h, b1S, gI_18 h, b1S, b2S, oK_0 h, b1S, e16, e15, e1, b2S]
  by_cases c : F.1 = 0
  · rw [if_pos c, oZ0, b1S, c]
    exact ⟨s1, rfl, k1, fun _ => r1, fun z => absurd rfl z⟩
  · obtain ⟨f1, f2, f3, f4, f5⟩ := hok c
    have h1 := k1.1.1
    have gg := g1 c
    have r2 := RS_told r1
    have h2 := SH_I (a := 18) (k := 3) (x := 0) h1
    have n2 := rs_n r2
    have n3 : SN (e_I s1 18 3 0) (A.2.2 5) := by rw [← f3]; exact n2
    have e9 : sI (e_I s1 18 3 0) 0 13 = A.1 9 := by
      rw [rII_ne (Or.inl (by decide)), gg.2 _ _ rfl]; exact (rs_i r).1 9 (by decide) (by decide)
    obtain ⟨s3, e3, g3, n4, u3⟩ := S_sentAdd h2 n3 hq (A.1 9) hev
    rw [if_neg c, gP_0_8 h1, b1S, b1S, pI_18 h1, b1S, gP_0_9 h2, b1S, gI_0 h2, b1S, b1S, oK_21 h2, b1S, e9, e3, b1S, oZ1, b1S, f1]
    refine ⟨s3, rfl, kO_tr (kO_I k1 rfl (by decide)) (kO_ag h2 g3 (fun a k hx => by simp at hx; simp; omega) rfl), fun z => absurd z (by decide), fun _ => ⟨?_, ?_, ?_, n4⟩⟩
    · exact ag_tr (ag_I (ag_mono gg (fun a k hx => by simp at hx ⊢; omega)) rfl) (ag_mono g3 (fun a k hx => by simp at hx ⊢; omega))
    · exact (have q := rs_o r2; SO_ag g3 q ⟨rfl, rfl⟩ (fun _ => rfl))
    · have i2 := SI_upd (x := F.2.1 15 + 1) g3 (rs_i r2) 15 (by decide) (by decide) rfl (by
        show sI s3 21 4 = _
        rw [u3]
        exact congrArg (· + 1) ((rs_i r2).1 15 (by decide) (by decide)))
      exact i2
