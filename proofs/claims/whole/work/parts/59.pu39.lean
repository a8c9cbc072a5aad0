/-! ===== ACKs that come ===== -/
abbrev xSe : Nat → Nat → Bool := fun a k => a == 21 && (k == 2 || k == 3)
abbrev xEe : Nat → Nat → Bool := fun a k => (a == 21 && (k == 2 || k == 3)) || (a == 8 && (k == 4 || k == 5 || k == 6))
set_option maxRecDepth 100000 in
theorem S_sentDrop {s : eS} (h : SH s) {e : List Int32} {q : List (List Int32)} (n : SN s (e :: q)) : ∃ s', mX10_dropEldest 21 s = some (e.getD 1 0, s') ∧ ag xSe s s' ∧ SN s' q := by
  obtain ⟨st, hst, e1, e2, e4, e3⟩ := n
  have hi : ¬ nI st < 0 ∧ (nI st).toNatClampNeg < 12 := nIc (by omega) hst
  have h0 := e3 0 (by simp)
  rw [Nat.add_zero, Nat.mod_eq_of_lt hst] at h0
  have h0' : e = [sI s 22 st, sI s 23 st] := h0.1
  have e4' : q.length + 1 ≤ 12 := e4
  have e2' : sI s 21 3 = nI (q.length + 1) := e2
  have h1 := SH_I (a := 21) (k := 2) (x := nI ((st + 1) % 12)) h
  have oz : o_Z (sI s 23 st) = some () := by rcases h0.2 with c | c <;> rw [c] <;> rfl
  refine ⟨e_I (e_I s 21 2 (nI ((st + 1) % 12))) 21 3 (nI q.length), ?_, ag_I (ag_I ag_rf rfl) rfl, (st + 1) % 12, by omega, ?_, ?_, by omega, fun i hi2 => ?_⟩
  · unfold mX10_dropEldest
    rw [gP_21_1 h, b1S, gI_21 h, b1S, b1S, e1, aI_23 h hi, b1S, b1S, nI_clamp (by omega), nI_1, show (12 : Int32) = nI 12 from rfl, pk_rem (by omega) (by omega) (by omega), pI_21 h, b1S, gI_21 h1, b1S, rII_ne (Or.inr (by decide)), e2', nI_pred, pI_21 h1, b1S, oz, b1S, h0']
    rfl
  · rw [rII_ne (Or.inr (by decide)), rII_eq]
  · rw [rII_eq]
  · have h3 := e3 (i + 1) (by show i + 1 < q.length + 1; omega)
    rw [show (st + 1) % 12 + i = (st + 1) % 12 + i from rfl, show ((st + 1) % 12 + i) % 12 = (st + (i + 1)) % 12 by omega, rII_ne (Or.inl (by decide)), rII_ne (Or.inl (by decide)), rII_ne (b := 23) (Or.inl (by decide)), rII_ne (b := 23) (Or.inl (by decide))]
    exact h3
set_option maxRecDepth 100000 in
theorem S_evDrop {s : eS} (h : SH s) {n : Nat} (dp : DP s n) {e : List Int32} {qs qw : List (List Int32)} (ev : SE s n (e :: qs) qw) : ∃ s', mX3_dropEldest 8 s = some s' ∧ ag (fun a k => a == 8 && (k == 4 || k == 5 || k == 6)) s s' ∧ SE s' n qs qw := by
  obtain ⟨st, hst, e1, e2, e3, e4, e5⟩ := ev
  have e4' : (qs.length + 1) + qw.length ≤ 52 := e4
  have e2' : sI s 8 5 = nI ((qs.length + qw.length) + 1) := e2.trans (by congr 1; show (qs.length + 1) + qw.length = _; omega)
  have e3' : sI s 8 6 = nI (qs.length + 1) := e3
  have h1 := SH_I (a := 8) (k := 4) (x := nI ((st + 1) % 52)) h
  have h2 := SH_I (a := 8) (k := 5) (x := nI (qs.length + qw.length)) h1
  have g : ag (fun a k => a == 8 && (k == 4 || k == 5 || k == 6)) s (e_I (e_I (e_I s 8 4 (nI ((st + 1) % 52))) 8 5 (nI (qs.length + qw.length))) 8 6 (nI qs.length)) := ag_I (ag_I (ag_I ag_rf rfl) rfl) rfl
  refine ⟨_, ?_, g, (st + 1) % 52, by omega, ?_, ?_, ?_, by omega, fun i hi2 => ?_⟩
  · unfold mX3_dropEldest mX3_dropEldest_40
    rw [gI_8 h, b1S, e3', if_neg (nI_nle (by omega) (by omega)), gI_8 h, b1S, e1, nI_1, show (52 : Int32) = nI 52 from rfl, pk_rem (by omega) (by omega) (by omega), pI_8 h, b1S, gI_8 h1, b1S, rII_ne (Or.inr (by decide)), e2', nI_pred, pI_8 h1, b1S, gI_8 h2, b1S, rII_ne (Or.inr (by decide)), rII_ne (Or.inr (by decide)), e3', nI_pred, pI_8 h2, b1S]
  · rw [rII_ne (Or.inr (by decide)), rII_ne (Or.inr (by decide)), rII_eq]
  · rw [rII_ne (Or.inr (by decide)), rII_eq]
  · rw [rII_eq]
  · have h3 := e5 (i + 1) (by show i + 1 < (qs.length + 1) + qw.length; omega)
    rw [show ((st + 1) % 52 + i) % 52 = (st + (i + 1)) % 52 by omega]
    exact evS_ag g (fun p hp => ⟨by have := (dp.1 p hp).2.2; simp <;> omega, by have := (dp.1 p hp).2.2; simp <;> omega⟩) h3
theorem evN_cons (e : List Int32) (q : List (List Int32)) : evN (e :: q) (e :: q).length = (if e.getD 1 0 = 0 then 0 else 1) + evN q q.length := by
  unfold evN
  rw [List.take_length, List.take_length]
  by_cases c : e.getD 1 0 = 0
  · rw [List.filter_cons_of_neg (by rw [c]; decide), if_pos c, Nat.zero_add]
  · rw [List.filter_cons_of_pos (by rw [beq_eq_false_iff_ne.mpr c]; rfl), if_neg c, List.length_cons, Nat.add_comm]
/-- the eldest I FRAME is acknowledged -/
def a_el (A : aS) : aS := uq (uq A 5 ((A.2.2 5).drop 1)) 2 ((A.2.2 2).drop (if pg (A.2.2 5) 0 1 = 0 then 0 else 1))
theorem S_el {t : Bool} {D : Nat} {s : eS} (h : SH s) {A : aS} (r : RS t D s A) {e : List Int32} {q : List (List Int32)} (h5 : A.2.2 5 = e :: q) (h7 : A.1 7 ≠ 0) :
    ∃ s1 s2, mX10_dropEldest 21 s = some (e.getD 1 0, s1) ∧ SH s1 ∧ (e.getD 1 0 = 0 → kO s s1 ∧ RS t D s1 (a_el A)) ∧ (e.getD 1 0 ≠ 0 → mX3_dropEldest 8 s1 = some s2 ∧ kO s s2 ∧ RS t D s2 (a_el A)) := by
  have n := rs_n r
  rw [h5] at n
  obtain ⟨s1, f1, g1, n1⟩ := S_sentDrop h n
  have h1 := SH_ag h g1
  have hz := (rs_z r).2.1
  rw [h5, evN_cons] at hz
  have d1 := DS_ag g1 (rs_d r)
  unfold a_el
  rw [h5]
  have hx : pg (e :: q) 0 1 = e.getD 1 0 := rfl
  rw [hx]
  show ∃ s1 s2, _ ∧ _ ∧ (_ → _ ∧ RS t D s1 (uq (uq A 5 q) 2 _)) ∧ (_ → _ ∧ _ ∧ RS t D s2 (uq (uq A 5 q) 2 _))
  by_cases c : e.getD 1 0 = 0
  · rw [if_pos c] at hz ⊢
    refine ⟨s1, s1, f1, h1, fun _ => ⟨kO_ag h g1 (fun a k hx => by simp at hx; simp; omega) rfl, ?_⟩, fun z => absurd c z⟩
    have zz : SZ (uq (uq A 5 q) 2 ((A.2.2 2).drop 0)) := ⟨fun z => absurd z h7, by rw [Nat.zero_add] at hz; exact hz, (rs_z r).2.2⟩
    exact ⟨(have q := rs_d r; DS_ag g1 q), (have q := rs_i r; SI_ag g1 q (by decide) rfl), (have q := rs_o r; SO_ag g1 q ⟨rfl, rfl⟩ (fun _ => rfl)), (have q := rs_x r; SXt_ag g1 q ⟨rfl, rfl, rfl, rfl⟩ (fun _ => rfl)), (have q := rs_l r; SL_ag g1 q ⟨rfl, rfl, rfl⟩), (have q := rs_p r; SP_ag g1 (rs_d r).1 q rfl (fun a k hx => by simp <;> omega)), (have q := rs_c r; SC_ag g1 (rs_d r).1 (rs_d r).2.1 q rfl (fun a k hx => by simp <;> omega)), n1, (have q := rs_e r; SE_ag g1 (rs_d r).1 q ⟨rfl, rfl, rfl⟩ (fun a k hx => by simp <;> omega)), (have q := rs_a r; SA_ag g1 (rs_d r).2.2.1 q ⟨rfl, rfl⟩ (fun a k hx => by simp <;> omega)), (have q := rs_m r; SM_ag g1 q ⟨rfl, rfl, rfl⟩ (fun _ => ⟨rfl, rfl, rfl, rfl, rfl⟩)), zz, (have q := rs_f r; q)⟩
  · rw [if_neg c] at hz ⊢
    obtain ⟨e2, q2, h2⟩ : ∃ e2 q2, A.2.2 2 = e2 :: q2 := by
      cases hq : A.2.2 2 with
      | nil => rw [hq] at hz; simp at hz; omega
      | cons x y => exact ⟨x, y, rfl⟩
    have ev := rs_e r
    rw [h2] at ev hz ⊢
    have ev1 : SE s1 (A.2.2 0).length (e2 :: q2) (A.2.2 3) := SE_ag g1 (rs_d r).1 ev ⟨rfl, rfl, rfl⟩ (fun a k hx => by simp <;> omega)
    obtain ⟨s2, f2, g2, ev2⟩ := S_evDrop h1 d1.1 ev1
    have g12 : ag xEe s s2 := ag_tr (ag_mono g1 (fun a k hx => by simp at hx ⊢; omega)) (ag_mono g2 (fun a k hx => by simp at hx ⊢; omega))
    refine ⟨s1, s2, f1, h1, fun z => absurd z c, fun _ => ⟨f2, kO_ag h g12 (fun a k hx => by simp at hx; simp; omega) rfl, ?_⟩⟩
    have zz : SZ (uq (uq A 5 q) 2 ((e2 :: q2).drop 1)) := ⟨fun z => absurd z h7, by
      show q2.length = evN q q.length
      rw [List.length_cons] at hz; omega, (rs_z r).2.2⟩
    have n2 : SN s2 q := SN_ag g2 n1 ⟨rfl, rfl⟩ (fun _ => ⟨rfl, rfl⟩)
    exact ⟨(have q := rs_d r; DS_ag g12 q), (have q := rs_i r; SI_ag g12 q (by decide) rfl), (have q := rs_o r; SO_ag g12 q ⟨rfl, rfl⟩ (fun _ => rfl)), (have q := rs_x r; SXt_ag g12 q ⟨rfl, rfl, rfl, rfl⟩ (fun _ => rfl)), (have q := rs_l r; SL_ag g12 q ⟨rfl, rfl, rfl⟩), (have q := rs_p r; SP_ag g12 (rs_d r).1 q rfl (fun a k hx => by simp <;> omega)), (have q := rs_c r; SC_ag g12 (rs_d r).1 (rs_d r).2.1 q rfl (fun a k hx => by simp <;> omega)), n2, ev2, (have q := rs_a r; SA_ag g12 (rs_d r).2.2.1 q ⟨rfl, rfl⟩ (fun a k hx => by simp <;> omega)), (have q := rs_m r; SM_ag g12 q ⟨rfl, rfl, rfl⟩ (fun _ => ⟨rfl, rfl, rfl, rfl, rfl⟩)), zz, (have q := rs_f r; q)⟩
theorem evN_step (q : List (List Int32)) (m : Nat) : evN q (m + 1) = (if pg q 0 1 = 0 then 0 else 1) + evN (q.drop 1) m ∨ q = [] := by
  cases q with
  | nil => exact Or.inr rfl
  | cons e q =>
    refine Or.inl ?_
    show evN (e :: q) (m + 1) = (if e.getD 1 0 = 0 then 0 else 1) + evN q m
    unfold evN
    rw [List.take_succ_cons]
    by_cases c : e.getD 1 0 = 0
    · rw [List.filter_cons_of_neg (by rw [c]; decide), if_pos c, Nat.zero_add]
    · rw [List.filter_cons_of_pos (by rw [beq_eq_false_iff_ne.mpr c]; rfl), if_neg c, List.length_cons, Nat.add_comm]
theorem uq_ext {A B : aS} (h1 : A.1 = B.1) (h2 : A.2.1 = B.2.1) (h3 : ∀ k, A.2.2 k = B.2.2 k) : A = B := Prod.ext h1 (Prod.ext h2 (funext h3))
theorem a_ack_step (A : aS) {m : Nat} (h : A.2.2 5 ≠ []) : uq (uq (a_el A) 5 (((a_el A).2.2 5).drop m)) 2 (((a_el A).2.2 2).drop (evN ((a_el A).2.2 5) m)) = uq (uq A 5 ((A.2.2 5).drop (m + 1))) 2 ((A.2.2 2).drop (evN (A.2.2 5) (m + 1))) := by
  refine uq_ext rfl rfl (fun k => ?_)
  show (if k = 2 then ((A.2.2 2).drop (if pg (A.2.2 5) 0 1 = 0 then 0 else 1)).drop (evN ((A.2.2 5).drop 1) m) else if k = 5 then ((A.2.2 5).drop 1).drop m else if k = 2 then _ else if k = 5 then _ else A.2.2 k) = (if k = 2 then (A.2.2 2).drop (evN (A.2.2 5) (m + 1)) else if k = 5 then (A.2.2 5).drop (m + 1) else A.2.2 k)
  have e1 : ((A.2.2 2).drop (if pg (A.2.2 5) 0 1 = 0 then 0 else 1)).drop (evN ((A.2.2 5).drop 1) m) = (A.2.2 2).drop (evN (A.2.2 5) (m + 1)) := by
    rcases evN_step (A.2.2 5) m with e | e
    · rw [List.drop_drop, e]
    · exact absurd e h
  have e2 : ((A.2.2 5).drop 1).drop m = (A.2.2 5).drop (m + 1) := by rw [List.drop_drop, Nat.add_comm]
  rw [e1, e2]
  by_cases c2 : k = 2
  · simp only [if_pos c2]
  · by_cases c5 : k = 5
    · simp only [if_neg c2, if_pos c5]
    · simp only [if_neg c2, if_neg c5]
theorem a_ack_0 (A : aS) : uq (uq A 5 ((A.2.2 5).drop 0)) 2 ((A.2.2 2).drop (evN (A.2.2 5) 0)) = A := by
  refine uq_ext rfl rfl (fun k => ?_)
  show (if k = 2 then A.2.2 2 else if k = 5 then A.2.2 5 else A.2.2 k) = A.2.2 k
  by_cases c2 : k = 2
  · rw [if_pos c2, c2]
  · rw [if_neg c2]
    by_cases c5 : k = 5
    · rw [if_pos c5, c5]
    · rw [if_neg c5]
theorem S_ack_loop {t : Bool} {D M : Nat} (hM : M ≤ 12) : ∀ (d i f : Nat) (s : eS) (A : aS), i + d = M → d < f → SH s → RS t D s A → d ≤ (A.2.2 5).length → A.1 7 ≠ 0 →
    ∃ s', mX11_acknowledge_24 f 0 (nI M) (nI i) s = some (1, s') ∧ kO s s' ∧ RS t D s' (uq (uq A 5 ((A.2.2 5).drop d)) 2 ((A.2.2 2).drop (evN (A.2.2 5) d))) := by
  intro d
  induction d with
  | zero =>
    intro i f s A hi hf h r hd h7
    obtain ⟨f, rfl⟩ : ∃ q, f = q + 1 := ⟨f - 1, by omega⟩
    unfold mX11_acknowledge_24
    rw [if_pos (nI_le (by omega) (by omega)), oZ1, b1S, a_ack_0]
    exact ⟨s, rfl, kO_rf h, r⟩
  | succ d ih =>
    intro i f s A hi hf h r hd h7
    obtain ⟨f, rfl⟩ : ∃ q, f = q + 1 := ⟨f - 1, by omega⟩
    obtain ⟨e, q, h5⟩ : ∃ e q, A.2.2 5 = e :: q := by
      cases hq : A.2.2 5 with
      | nil => rw [hq] at hd; simp at hd
      | cons x y => exact ⟨x, y, rfl⟩
    obtain ⟨s1, s2, f1, h1, c0, c1⟩ := S_el h r h5 h7
    rw [← a_ack_step A (by rw [h5]; simp)]
    have hl : d ≤ ((a_el A).2.2 5).length := by
      show d ≤ ((A.2.2 5).drop 1).length
      rw [List.length_drop]; omega
    unfold mX11_acknowledge_24 mX11_acknowledge_46
    rw [if_neg (nI_ge (by omega) (by omega)), gP_0_9 h, b1S, b1S, oK_21 h, b1S, f1, b2S]
    by_cases c : e.getD 1 0 = 0
    · rw [if_pos c, nI_1]
      obtain ⟨k1, r1⟩ := c0 c
      obtain ⟨s3, f3, k3, r3⟩ := ih (i + 1) f s1 (a_el A) (by omega) (by omega) h1 r1 hl h7
      exact ⟨s3, f3, kO_tr k1 k3, r3⟩
    · obtain ⟨f2, k2, r2⟩ := c1 c
      rw [if_neg c, gP_0_6 h1, b1S, b1S, oK_8 h1, b1S, f2, b1S, nI_1]
      obtain ⟨s3, f3, k3, r3⟩ := ih (i + 1) f s2 (a_el A) (by omega) (by omega) k2.1.1 r2 hl h7
      exact ⟨s3, f3, kO_tr k2 k3, r3⟩
theorem ackN_nat {C : Nat} {A : aS} (w5 : W5 C A) (hC : C < 2 ^ 30) {F : List Int32} (bf : byF F) : ∃ x y a : Nat, x < 256 ∧ y < 256 ∧ F.getD 4 0 = nI x ∧ F.getD 5 0 = nI y ∧ A.1 15 = nI a ∧ (A.2.2 5).length ≤ a ∧ a < 2 ^ 30 ∧ ackN A F = nI ((x / 2 + 128 * y + 32768 - (a - (A.2.2 5).length) % 32768) % 32768) := by
  obtain ⟨a, b, q1, q2, q3, q4, q5⟩ := w5
  obtain ⟨x, hx, ex⟩ := bf 4
  obtain ⟨y, hy, ey⟩ := bf 5
  refine ⟨x, y, a, hx, hy, ex, ey, q1, q2, by omega, ?_⟩
  have e1 : (A.1 15 - nI (A.2.2 5).length) - (A.1 15 - nI (A.2.2 5).length) / 32768 * 32768 = nI ((a - (A.2.2 5).length) % 32768) := by
    rw [q1, pk_sub q2]
    exact pk_rem (d := 32768) (by omega) (by decide) (by decide)
  have e2 : nI x / 2 + 128 * nI y = nI (x / 2 + 128 * y) := by
    rw [show nI x / 2 = nI (x / 2) from pk_div (d := 2) (by omega) (by decide) (by decide), show (128 : Int32) * nI y = nI (128 * y) from pk_mul 128 y, nI_add]
  unfold ackN
  rw [ex, ey, e1, e2]
  have hd : (a - (A.2.2 5).length) % 32768 < 32768 := Nat.mod_lt _ (by decide)
  generalize (a - (A.2.2 5).length) % 32768 = d at hd
  have e3 : nI (x / 2 + 128 * y) - nI d + 32768 = nI (x / 2 + 128 * y + 32768 - d) := by
    rw [show (32768 : Int32) = nI 32768 by decide, ← pk_sub (by omega : d ≤ x / 2 + 128 * y + 32768), Int32.sub_eq_add_neg (nI (x / 2 + 128 * y)) (nI d), Int32.add_assoc, Int32.add_comm (-nI d), ← Int32.add_assoc, ← Int32.sub_eq_add_neg, nI_add]
  rw [e3]
  exact pk_rem (d := 32768) (by omega) (by decide) (by decide)
theorem uI_sub {a b : Nat} (ha : a < 2 ^ 31) (hb : b < 2 ^ 31) : uI (nI a - nI b) = (a + 2 ^ 32 - b) % 2 ^ 32 := by
  unfold uI
  rw [Int32.toBitVec_sub, BitVec.toNat_sub]
  show (2 ^ 32 - uI (nI b) + uI (nI a)) % 2 ^ 32 = _
  rw [uI_nI (by omega), uI_nI (by omega)]
  congr 1
  omega
/-- an ACK: whether it can be, and what is acknowledged by it -/
theorem S_ack {t : Bool} {D C : Nat} (hC : C < 2 ^ 30) {s : eS} (h : SH s) {A : aS} (r : RS t D s A) (w : WW C A) {F : List Int32} (bf : byF F) (h7 : A.1 7 ≠ 0) : ∃ s', mX11_acknowledge 0 (F.getD 4 0 / 2 + 128 * F.getD 5 0) s = some ((a_ackF A F).1, s') ∧ kO s s' ∧ ((a_ackF A F).1 = 0 → s' = s ∧ (a_ackF A F).2 = a_close A 3) ∧ ((a_ackF A F).1 ≠ 0 → RS t D s' (a_ackF A F).2) := by
  obtain ⟨x, y, a, hx, hy, ex, ey, ea, hla, ha, en⟩ := ackN_nat w.2.2.2.2 hC bf
  have h12 := w.1.2.2.1
  obtain ⟨st5, -, -, n5, -⟩ := rs_n r
  have e15 : sI s 21 4 = A.1 15 := (rs_i r).1 15 (by decide) (by decide)
  have e2 : nI x / 2 + 128 * nI y = nI (x / 2 + 128 * y) := by
    rw [show nI x / 2 = nI (x / 2) from pk_div (d := 2) (by omega) (by decide) (by decide), show (128 : Int32) * nI y = nI (128 * y) from pk_mul 128 y, nI_add]
  have e3 : (nI (x / 2 + 128 * y) - (nI a - nI (A.2.2 5).length)) &&& (32767 : Int32) = nI ((x / 2 + 128 * y + 32768 - (a - (A.2.2 5).length) % 32768) % 32768) := by
    rw [pk_sub hla, pk_and _ 15 rfl]
    show nI (uI (nI (x / 2 + 128 * y) - nI (a - (A.2.2 5).length)) % 2 ^ 15) = _
    rw [uI_sub (by omega) (by omega)]
    congr 1
    omega
  unfold mX11_acknowledge mX10_newlyAcknowledged a_ackF a_ack
  rw [en, ex, ey, gP_0_9 h, b1S, b1S, oK_21 h, b1S, gI_21 h, b1S, gI_21 h, b1S, b2S, gP_0_9 h, b1S, b1S, gI_21 h, b1S, e15, ea, n5, e2, e3]
  have hm : (x / 2 + 128 * y + 32768 - (a - (A.2.2 5).length) % 32768) % 32768 < 32768 := Nat.mod_lt _ (by omega)
  generalize (x / 2 + 128 * y + 32768 - (a - (A.2.2 5).length) % 32768) % 32768 = M at *
  by_cases c : M ≤ (A.2.2 5).length
  · rw [if_pos (nI_le c (by omega)), if_pos (nI_le c (by omega)), nI_clamp (by omega)]
    obtain ⟨s1, f1, k1, r1⟩ := S_ack_loop (M := M) (by omega) M 0 100000 s A (by omega) (by omega) h r c h7
    exact ⟨s1, f1, k1, fun z => absurd z (by decide : ¬ (1 : Int32) = 0), fun _ => r1⟩
  · rw [if_neg (nI_ge (by omega) (by omega)), if_neg (nI_ge (by omega) (by omega)), oZ0, b1S]
    exact ⟨s, rfl, kO_rf h, fun _ => ⟨rfl, rfl⟩, fun z => absurd rfl z⟩
