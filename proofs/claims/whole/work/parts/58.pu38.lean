/-! ===== what waits is sent ===== -/
abbrev xAn : Nat → Nat → Bool := fun a k => (a == 24 && k == 2) || a == 25 || (a == 18 && k == 3) || (a == 21 && (k == 3 || k == 4)) || a == 22 || a == 23 || (a == 14 && (k == 2 || k == 3))
abbrev xEn : Nat → Nat → Bool := fun a k => (a == 24 && k == 2) || a == 25 || (a == 18 && k == 3) || (a == 21 && (k == 3 || k == 4)) || a == 22 || a == 23 || (a == 8 && k == 6) || (a == 12 && k == 1) || a == 13
theorem evN_snoc (q : List (List Int32)) (now ev : Int32) : evN (q ++ [[now, ev]]) (q ++ [[now, ev]]).length = evN q q.length + (if ev = 0 then 0 else 1) := by
  unfold evN
  rw [List.take_length, List.take_length, List.filter_append, List.length_append]
  by_cases c : ev = 0
  · subst c; rfl
  · rw [if_neg c]
    congr 1
    rw [List.filter_cons_of_pos (by show (!(ev == 0)) = true; rw [beq_eq_false_iff_ne.mpr c]; rfl)]
    rfl
theorem RS_ansGone {t : Bool} {D : Nat} {s s' : eS} {A F : aS} {x : List Int32} {q : List (List Int32)} (r : RS t D s A) (hx : A.2.2 4 = x :: q) (f2 : F.1 = A.1) (f3 : F.2.2 = A.2.2) (f4 : F.2.1 1 = A.2.1 1) (f5 : F.2.1 2 = A.2.1 2) (h7 : A.1 7 = 2) (g : ag xAn s s') (o : SO_ s' (F.2.1 0)) (i : SI s' (a_gone F)) (n : SN s' (A.2.2 5 ++ [[A.1 9, 0]])) (a : SA s' q) : RS t D s' (a_ansGone F q) := by
  obtain ⟨F1, F2, F3⟩ := F
  obtain rfl : F1 = A.1 := f2
  obtain rfl : F3 = A.2.2 := f3
  have zz : SZ (a_ansGone (A.1, F2, A.2.2) q) := by
    refine ⟨fun z => ?_, ?_, ST_0 rfl, Or.inr (Or.inr (Or.inl h7))⟩
    · have z2 : A.1 7 = 0 := z
      rw [h7] at z2; cases z2
    · show (A.2.2 2).length = evN (A.2.2 5 ++ [[A.1 9, 0]]) (A.2.2 5 ++ [[A.1 9, 0]]).length
      rw [evN_snoc, if_pos rfl]
      exact (rs_z r).2.1
  have ll : SL s' (a_ansGone (A.1, F2, A.2.2) q) := SL_A (SL_ag g (rs_l r) ⟨rfl, rfl, rfl⟩) f5 rfl rfl rfl
  have xx : SXt t s' (F2 1) := by
    rw [show F2 1 = A.2.1 1 from f4]
    exact SXt_ag g (rs_x r) ⟨rfl, rfl, rfl, rfl⟩ (fun _ => rfl)
  exact ⟨(have q := rs_d r; DS_ag g q), i, o, xx, ll, (have q := rs_p r; SP_ag g (rs_d r).1 q rfl (fun a k hx => by simp <;> omega)), (have q := rs_c r; SC_ag g (rs_d r).1 (rs_d r).2.1 q rfl (fun a k hx => by simp <;> omega)), n, (have q := rs_e r; SE_ag g (rs_d r).1 q ⟨rfl, rfl, rfl⟩ (fun a k hx => by simp <;> omega)), a, (have q := rs_m r; SM_ag g q ⟨rfl, rfl, rfl⟩ (fun _ => ⟨rfl, rfl, rfl, rfl, rfl⟩)), zz, (have q := rs_f r; q)⟩
theorem RS_evGone {t : Bool} {D : Nat} {s s' : eS} {A F : aS} {e : List Int32} {q : List (List Int32)} (r : RS t D s A) (he : A.2.2 3 = e :: q) (f2 : F.1 = A.1) (f3 : F.2.2 = A.2.2) (f4 : F.2.1 1 = A.2.1 1) (f5 : F.2.1 2 = A.2.1 2) (h7 : A.1 7 = 2) (g : ag xEn s s') (o : SO_ s' (F.2.1 0)) (i : SI s' (a_gone F)) (n : SN s' (A.2.2 5 ++ [[A.1 9, 1]])) (e6 : sI s' 8 6 = nI ((A.2.2 2).length + 1)) (m : MT s' 12 13 (evB A e)) : RS t D s' (a_evGone F e q) := by
  obtain ⟨F1, F2, F3⟩ := F
  obtain rfl : F1 = A.1 := f2
  obtain rfl : F3 = A.2.2 := f3
  have zz : SZ (a_evGone (A.1, F2, A.2.2) e q) := by
    refine ⟨fun z => ?_, ?_, ST_0 rfl, Or.inr (Or.inr (Or.inl h7))⟩
    · have z2 : A.1 7 = 0 := z
      rw [h7] at z2; cases z2
    · show (A.2.2 2 ++ [e]).length = evN (A.2.2 5 ++ [[A.1 9, 1]]) (A.2.2 5 ++ [[A.1 9, 1]]).length
      rw [evN_snoc, if_neg (by decide), List.length_append, ← (rs_z r).2.1]
      rfl
  have ll : SL s' (a_evGone (A.1, F2, A.2.2) e q) := SL_A (SL_ag g (rs_l r) ⟨rfl, rfl, rfl⟩) f5 rfl rfl rfl
  have xx : SXt t s' (F2 1) := by
    rw [show F2 1 = A.2.1 1 from f4]
    exact SXt_ag g (rs_x r) ⟨rfl, rfl, rfl, rfl⟩ (fun _ => rfl)
  have mm : SM s' := by
    obtain ⟨-, ⟨l2, m2⟩, ⟨l3, m3⟩, d⟩ := rs_m r
    exact ⟨⟨_, m⟩, ⟨l2, MT_ag g m2 rfl (fun _ => rfl)⟩, ⟨l3, MT_ag g m3 rfl (fun _ => rfl)⟩, SG_at d (funext fun k => g.2 _ _ rfl) (funext fun k => g.2 _ _ rfl)⟩
  have ev : SE s' (A.2.2 0).length (A.2.2 2 ++ [e]) q := by
    obtain ⟨st, hst, b1', b2', b3', b4', b5'⟩ := rs_e r
    rw [he] at b2' b4' b5'
    have l1 : (A.2.2 2 ++ [e]).length + q.length = (A.2.2 2).length + (e :: q).length := by simp; omega
    refine ⟨st, hst, (g.2 _ _ rfl).trans b1', ?_, ?_, ?_, fun j hj => ?_⟩
    · rw [l1]; exact (g.2 _ _ rfl).trans b2'
    · rw [e6, List.length_append]; rfl
    · rw [l1]; exact b4'
    · rw [l1] at hj
      rw [show A.2.2 2 ++ [e] ++ q = A.2.2 2 ++ e :: q by simp]
      exact evS_ag g (fun p hp => ⟨by have := ((rs_d r).1.1 p hp).2.2; simp <;> omega, by have := ((rs_d r).1.1 p hp).2.2; simp <;> omega⟩) (b5' j hj)
  exact ⟨(have q := rs_d r; DS_ag g q), i, o, xx, ll, (have q := rs_p r; SP_ag g (rs_d r).1 q rfl (fun a k hx => by simp <;> omega)), (have q := rs_c r; SC_ag g (rs_d r).1 (rs_d r).2.1 q rfl (fun a k hx => by simp <;> omega)), n, ev, (have q := rs_a r; SA_ag g (rs_d r).2.2.1 q ⟨rfl, rfl⟩ (fun a k hx => by simp <;> omega)), mm, zz, (have q := rs_f r; q)⟩
theorem fr_link {A : aS} {c bs : List Int32} (h : (a_fr A c bs).1 = 0) : (a_fr A c bs).2.1 7 = 0 := by
  unfold a_fr at *
  split
  · rename_i z; rw [if_pos z] at h; cases h
  · rfl
set_option maxRecDepth 100000 in
theorem S_sends_end {t : Bool} {D : Nat} {s : eS} (h : SH s) {A : aS} (r : RS t D s A) (h7 : A.1 7 ≠ 2) {i m : Nat} (hi : i ≤ 12) : mX11_sendWaiting_2 (m + 1) 0 (nI i) s = some s := by
  have e7 : sI s 0 11 = A.1 7 := (rs_i r).1 7 (by decide) (by decide)
  unfold mX11_sendWaiting_2 mX11_sendWaiting_116
  by_cases c : i = 12
  · rw [if_pos (c_le (c := 12) 12 (by omega))]
  · rw [if_neg (c_nle (c := 12) 12 (by omega)), gI_0 h, b1S, e7, if_neg h7]
set_option maxRecDepth 100000 in
theorem S_sends_loop {t : Bool} {D : Nat} : ∀ (d i m n C : Nat) (s : eS) (A : aS), i + d = 12 → d + 1 < m → d < n → C + d < 2 ^ 30 → SH s → RS t D s A → WW C A → i ≤ (A.2.2 5).length →
    ∃ s', mX11_sendWaiting_2 m 0 (nI i) s = some s' ∧ kO s s' ∧ RS t D s' (a_sends n A) := by
  intro d
  induction d with
  | zero =>
    intro i m n C s A hi hm hn hC h r w h5
    obtain ⟨m, rfl⟩ : ∃ q, m = q + 1 := ⟨m - 1, by omega⟩
    obtain ⟨n, rfl⟩ : ∃ q, n = q + 1 := ⟨n - 1, by omega⟩
    refine ⟨s, ?_, kO_rf h, ?_⟩
    · unfold mX11_sendWaiting_2 mX11_sendWaiting_116
      rw [if_pos (c_le (c := 12) 12 (by omega))]
    · unfold a_sends
      obtain ⟨K, k1, k2, k3⟩ := w.1.2.2.2.1
      have h12 := w.1.2.2.1
      by_cases c : A.1 7 = 2
      · rw [if_pos c, if_pos (by rw [k3]; exact nI_le (by omega) (by omega))]; exact r
      · rw [if_neg c]; exact r
  | succ d ih =>
    intro i m n C s A hi hm hn hC h r w h5
    obtain ⟨m, rfl⟩ : ∃ q, m = q + 1 := ⟨m - 1, by omega⟩
    obtain ⟨n, rfl⟩ : ∃ q, n = q + 1 := ⟨n - 1, by omega⟩
    by_cases c7 : A.1 7 = 2
    case neg =>
      refine ⟨s, S_sends_end h r c7 (by omega), kO_rf h, ?_⟩
      unfold a_sends
      rw [if_neg c7]; exact r
    obtain ⟨K, k1, k2, k3⟩ := w.1.2.2.2.1
    have h12 := w.1.2.2.1
    have e7 : sI s 0 11 = A.1 7 := (rs_i r).1 7 (by decide) (by decide)
    have e1 : sI s 1 1 = A.1 1 := (rs_i r).1 1 (by decide) (by decide)
    obtain ⟨st5, -, -, n5, -⟩ := rs_n r
    obtain ⟨st4, -, -, n4, l4, -⟩ := rs_a r
    obtain ⟨st3, -, -, n3, n3', l3, -⟩ := rs_e r
    unfold mX11_sendWaiting_2 a_sends mX11_sendWaiting_110
    rw [if_neg (c_nle (c := 12) 12 (by omega)), gI_0 h, b1S, e7, if_pos c7, if_pos c7, gP_0_9 h, b1S, b1S, gI_21 h, b1S, n5, gP_0_0 h, b1S, b1S, aI_1 h (by decide), b1S, show (1 : Int32).toNatClampNeg = 1 from rfl, e1, k3]
    by_cases cK : K ≤ (A.2.2 5).length
    · rw [if_neg (nI_nlt cK (by omega)), if_pos (nI_le cK (by omega))]
      exact ⟨s, rfl, kO_rf h, r⟩
    rw [if_pos (nI_lt (by omega) (by omega)), if_neg (nI_ge (by omega) (by omega)), gP_0_7 h, b1S, b1S, gI_14 h, b1S, n4]
    cases hA : A.2.2 4 with
    | cons x q =>
      have hA' := rs_a r
      rw [hA] at hA'
      rw [hA] at l4
      obtain ⟨b, rr, f1, gm, mt, h58⟩ := S_first h (rs_d r).2.2.1 hA'
      obtain ⟨s1, f2, ko1, c0, c1⟩ := S_sendData (show C < 2 ^ 30 by omega) h r w (show (A.2.2 5).length < 12 by omega) (Or.inl rfl) gm mt (by omega)
      have hok := @a_fr_ok A (kb (A.1 15) ++ kb (A.1 16)) x
      have hlk := @fr_link A (kb (A.1 15) ++ kb (A.1 16)) x
      have wf := WW_fr w (kb (A.1 15) ++ kb (A.1 16)) x rfl
      dsimp only
      rw [if_neg (nI_nle (by simp) (by omega)), b1S, b1S, oK_14 h, b1S, f1, b2S, oK_0 h, b1S, f2, b2S]
      generalize a_fr A (kb (A.1 15) ++ kb (A.1 16)) x = F at *
      have h1 := ko1.1.1
      by_cases c : F.1 = 0
      · rw [if_pos c, if_pos c, nI_1]
        obtain ⟨m, rfl⟩ : ∃ q, m = q + 1 := ⟨m - 1, by omega⟩
        exact ⟨s1, S_sends_end h1 (c0 c) (by rw [hlk c]; decide) (by omega), ko1, c0 c⟩
      · rw [if_neg c, if_neg c]
        obtain ⟨y1, y2, y3, y4, y5⟩ := hok c
        obtain ⟨g1, o1, i1, n1⟩ := c1 c
        have a1 : SA s1 (x :: q) := SA_ag g1 (rs_d r).2.2.1 hA' ⟨rfl, rfl⟩ (fun a k hx => by simp <;> omega)
        obtain ⟨s2, f3, g2, a2⟩ := S_dropFirst h1 (DS_ag g1 (rs_d r)).2.2.1 a1
        have h2 := SH_ag h1 g2
        have g12 : ag xAn s s2 := ag_tr (ag_mono g1 (fun a k hx => by simp at hx ⊢; omega)) (ag_mono g2 (fun a k hx => by simp at hx ⊢; omega))
        have r2 := RS_ansGone r hA y2 y3 y4 y5 c7 g12 (SO_ag g2 o1 ⟨rfl, rfl⟩ (fun _ => rfl)) (SI_ag g2 i1 (by decide) rfl) (SN_ag g2 n1 ⟨rfl, rfl⟩ (fun _ => ⟨rfl, rfl⟩)) a2
        have w2 := WW_ans wf y3 hA (show (A.2.2 5).length < 12 by omega)
        have ko2 : kO s s2 := kO_tr ko1 (kO_ag h1 g2 (fun a k hx => by simp at hx; simp; omega) rfl)
        rw [gP_0_7 h1, b1S, b1S, oK_14 h1, b1S, f3, b1S, nI_1]
        obtain ⟨s3, f4, ko3, r3⟩ := ih (i + 1) m n (C + 1) s2 _ (by omega) (by omega) (by omega) (by omega) h2 r2 w2 (by show i + 1 ≤ (F.2.2.2 5 ++ [_]).length; rw [y3, List.length_append]; simp; omega)
        exact ⟨s3, f4, kO_tr ko2 ko3, r3⟩
    | nil =>
      dsimp only
      rw [if_pos (by decide), gP_0_6 h, b1S, b1S, oK_8 h, b1S]
      unfold mX3_waiting
      rw [gI_8 h, b1S, gI_8 h, b1S, b2S, n3, n3', pk_sub (by omega), Nat.add_sub_cancel_left]
      cases hE : A.2.2 3 with
      | nil =>
        dsimp only
        rw [if_pos (by decide)]
        exact ⟨s, rfl, kO_rf h, r⟩
      | cons e q =>
        rw [hE] at l3
        have l3' : (A.2.2 2).length + (q.length + 1) ≤ 52 := l3
        obtain ⟨s1, f1, g1, m1⟩ := S_next h r hE
        have h1 := SH_ag h g1
        have e0 : sI s 1 0 = A.1 0 := (rs_i r).1 0 (by decide) (by decide)
        have r1 : RS t D s1 A := by
          have mm : SM s1 := by
            obtain ⟨-, ⟨l2, m2⟩, ⟨l3, m3⟩, d⟩ := rs_m r
            exact ⟨⟨_, m1⟩, ⟨l2, MT_ag g1 m2 rfl (fun _ => rfl)⟩, ⟨l3, MT_ag g1 m3 rfl (fun _ => rfl)⟩, SG_at d (funext fun k => g1.2 _ _ rfl) (funext fun k => g1.2 _ _ rfl)⟩
          exact ⟨(have q := rs_d r; DS_ag g1 q), (have q := rs_i r; SI_ag g1 q (by decide) rfl), (have q := rs_o r; SO_ag g1 q ⟨rfl, rfl⟩ (fun _ => rfl)), (have q := rs_x r; SXt_ag g1 q ⟨rfl, rfl, rfl, rfl⟩ (fun _ => rfl)), (have q := rs_l r; SL_ag g1 q ⟨rfl, rfl, rfl⟩), (have q := rs_p r; SP_ag g1 (rs_d r).1 q rfl (fun a k hx => by simp <;> omega)), (have q := rs_c r; SC_ag g1 (rs_d r).1 (rs_d r).2.1 q rfl (fun a k hx => by simp <;> omega)), (have q := rs_n r; SN_ag g1 q ⟨rfl, rfl⟩ (fun _ => ⟨rfl, rfl⟩)), (have q := rs_e r; SE_ag g1 (rs_d r).1 q ⟨rfl, rfl, rfl⟩ (fun a k hx => by simp <;> omega)), (have q := rs_a r; SA_ag g1 (rs_d r).2.2.1 q ⟨rfl, rfl⟩ (fun a k hx => by simp <;> omega)), mm, (have q := rs_z r; q), (have q := rs_f r; q)⟩
        obtain ⟨s2, f2, ko2, c0, c1⟩ := S_sendData (show C < 2 ^ 30 by omega) h1 r1 w (show (A.2.2 5).length < 12 by omega) (Or.inr rfl) (MG_12 h1) m1 (by decide)
        have ko1 : kO s s1 := kO_ag h g1 (fun a k hx => by simp [xMs] at hx; simp; omega) rfl
        have hok := @a_fr_ok A (kb (A.1 15) ++ kb (A.1 16)) (evB A e)
        have hlk := @fr_link A (kb (A.1 15) ++ kb (A.1 16)) (evB A e)
        have wf := WW_fr w (kb (A.1 15) ++ kb (A.1 16)) (evB A e) rfl
        dsimp only
        rw [if_neg (nI_nle (by simp) (by simp; omega)), gP_0_6 h, b1S, gP_0_0 h, b1S, b1S, aI_1 h (by decide), b1S, show (0 : Int32).toNatClampNeg = 0 from rfl, e0, b1S, oK_8 h, b1S, f1, b2S, oK_0 h1, b1S, f2, b2S]
        generalize a_fr A (kb (A.1 15) ++ kb (A.1 16)) (evB A e) = F at *
        have h2 := ko2.1.1
        by_cases c : F.1 = 0
        · rw [if_pos c, if_pos c, nI_1]
          obtain ⟨m, rfl⟩ : ∃ q, m = q + 1 := ⟨m - 1, by omega⟩
          exact ⟨s2, S_sends_end h2 (c0 c) (by rw [hlk c]; decide) (by omega), kO_tr ko1 ko2, c0 c⟩
        · rw [if_neg c, if_neg c]
          obtain ⟨y1, y2, y3, y4, y5⟩ := hok c
          obtain ⟨g2, o2, i2, nn2⟩ := c1 c
          have e86 : sI s2 8 6 = nI (A.2.2 2).length := ((g2.2 _ _ rfl).trans (g1.2 _ _ rfl)).trans n3'
          have g3 : ag (fun a k => a == 8 && k == 6) s2 (e_I s2 8 6 (nI ((A.2.2 2).length + 1))) := ag_I ag_rf rfl
          have g13 : ag xEn s (e_I s2 8 6 (nI ((A.2.2 2).length + 1))) := ag_I (ag_tr (ag_mono g1 (fun a k hx => by simp [xMs] at hx ⊢; omega)) (ag_mono g2 (fun a k hx => by simp at hx ⊢; omega))) rfl
          have r3 := RS_evGone r hE y2 y3 y4 y5 c7 g13 (SO_ag g3 o2 ⟨rfl, rfl⟩ (fun _ => rfl)) (SI_ag g3 i2 (by decide) rfl) (SN_ag g3 nn2 ⟨rfl, rfl⟩ (fun _ => ⟨rfl, rfl⟩)) rII_eq (MT_ag g3 (MT_ag g2 m1 rfl (fun _ => rfl)) rfl (fun _ => rfl))
          have w2 := WW_ev wf y3 hE (show (A.2.2 5).length < 12 by omega)
          unfold mX3_nextWasSent
          rw [gP_0_6 h2, b1S, b1S, oK_8 h2, b1S, gI_8 h2, b1S, e86, nI_1, pI_8 h2, b1S, b1S, nI_1]
          obtain ⟨s4, f4, ko4, r4⟩ := ih (i + 1) m n (C + 1) _ _ (by omega) (by omega) (by omega) (by omega) (SH_I h2) r3 w2 (by show i + 1 ≤ (F.2.2.2 5 ++ [_]).length; rw [y3, List.length_append]; simp; omega)
          exact ⟨s4, f4, kO_tr (kO_I (kO_tr ko1 ko2) rfl (by decide)) ko4, r4⟩
theorem S_sends {t : Bool} {D C : Nat} (hC : C + 12 < 2 ^ 30) {s : eS} (h : SH s) {A : aS} (r : RS t D s A) (w : WW C A) : ∃ s', mX11_sendWaiting 0 s = some s' ∧ kO s s' ∧ RS t D s' (a_sends 13 A) := by
  unfold mX11_sendWaiting
  exact S_sends_loop 12 0 100000 13 C s A (by omega) (by omega) (by omega) hC h r w (by omega)
