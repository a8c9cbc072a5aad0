/-! ===== out, take, told, ordered, clock, count ===== -/
set_option maxRecDepth 100000 in
theorem S_out {D : Nat} {s : eS} (h : SH s) {A : aS} (r : RS false D s A) (x : Int32) : mX11_out 0 x s = some (a_out A x, s) := by
  obtain ⟨st, hst, e1, e2, hl, e3⟩ := rs_o r
  unfold mX11_out mX11_out_15 a_out mX5_at mX5_at_35
  rcases inLn x (n := (A.2.1 0).length) (by omega) with ⟨c, e⟩ | ⟨k, hk, rfl, e⟩
  · rw [e, if_pos c, if_pos rfl]
  · rw [e, if_neg (nI_pos hk), gP_0_10 h, b1S, b1S, gI_24 h, b1S, e2, nI_clamp hk]
    by_cases c : k < (A.2.1 0).length
    · have hm : (st + k) % 4096 < 4096 := Nat.mod_lt _ (by omega)
      rw [if_pos (nI_lt c (by omega)), if_pos c, if_neg (by decide), b1S, b1S, oK_24 h, b1S, if_neg (nI_pos hk), gI_24 h, b1S, e2, if_pos (nI_lt c (by omega)), gP_24_0 h, b1S, gI_24 h, b1S, b1S, e1, nI_add, show (4096 : Int32) = nI 4096 from rfl, pk_rem (by omega) (by omega) (by omega), aI_25 h (nIc (by omega) hm), b1S, nI_clamp (by omega), ← e3 k c, b2S]
    · rw [if_neg (nI_nlt (by omega) (by omega)), if_neg c, if_pos rfl]
set_option maxRecDepth 100000 in
theorem S_take {D : Nat} {s : eS} (h : SH s) {A : aS} (r : RS false D s A) (x : Int32) : ∃ s', mX11_take 0 x s = some ((a_take A x).1, s') ∧ kO s s' ∧ RS false D s' (a_take A x).2 := by
  obtain ⟨st, hst, e1, e2, hl, e3⟩ := rs_o r
  unfold mX11_take mX11_take_15 a_take mX5_dropFirst mX5_dropFirst_36
  rw [nI_l (n := (A.2.1 0).length) (by omega)]
  rcases inL_cases x (lo := 0) (hi := (A.2.1 0).length) (by omega) (by omega) with ⟨c, e⟩ | ⟨k, hk, rfl, e⟩
  · rw [show inL x.toInt64 0 (lN (A.2.1 0).length) = 0 from e, if_pos c, if_pos rfl]
    exact ⟨s, rfl, kO_rf h, r⟩
  · rw [show inL (nI k).toInt64 0 (lN (A.2.1 0).length) = _ from e, if_neg (nI_pos hk), gP_0_10 h, b1S, b1S, gI_24 h, b1S, e2, nI_clamp hk]
    by_cases c : k ≤ (A.2.1 0).length
    · have h1 := SH_I (a := 24) (k := 1) (x := nI ((st + k) % 4096)) h
      have h2 := SH_I (a := 24) (k := 2) (x := nI ((A.2.1 0).length - k)) h1
      have g : ag (fun a j => a == 24 && (j == 1 || j == 2)) s (e_I (e_I s 24 1 (nI ((st + k) % 4096))) 24 2 (nI ((A.2.1 0).length - k))) := ag_I (ag_I ag_rf rfl) rfl
      have o : SO_ (e_I (e_I s 24 1 (nI ((st + k) % 4096))) 24 2 (nI ((A.2.1 0).length - k))) ((A.2.1 0).drop k) := by
        refine ⟨(st + k) % 4096, Nat.mod_lt _ (by omega), ?_, ?_, by rw [List.length_drop]; omega, fun i hi => ?_⟩
        · rw [rII_ne (Or.inr (by decide)), rII_eq]
        · rw [rII_eq, List.length_drop]
        · rw [List.length_drop] at hi
          rw [rII_ne (Or.inl (by decide)), rII_ne (Or.inl (by decide)), List.getD_eq_getElem?_getD, List.getElem?_drop, ← List.getD_eq_getElem?_getD, e3 (k + i) (by omega)]
          congr 2
          omega
      rw [if_pos (nI_le c (by omega)), if_pos (show 0 ≤ k ∧ k ≤ (A.2.1 0).length by omega), if_neg (by decide), b1S, b1S, oK_24 h, b1S, if_neg (nI_pos hk), gI_24 h, b1S, e2, if_neg (nI_nlt c (by omega)), gI_24 h, b1S, e1, nI_add, show (4096 : Int32) = nI 4096 from rfl, pk_rem (by omega) (by omega) (by omega), pI_24 h, b1S, gI_24 h1, b1S, rII_ne (Or.inr (by decide)), e2, pk_sub c, pI_24 h1, b1S, b1S, gP_0_10 h2, b1S, b1S, gI_24 h2, b1S, rII_eq]
      exact ⟨_, rfl, kO_I (kO_I (kO_rf h) rfl (by decide)) rfl (by decide), ⟨(have q := rs_d r; DS_ag g q), (have q := rs_i r; SI_ag g q (by decide) rfl), o, (have q := rs_x r; SXt_ag g q ⟨rfl, rfl, rfl, rfl⟩ (fun _ => rfl)), (have q := rs_l r; SL_ag g q ⟨rfl, rfl, rfl⟩), (have q := rs_p r; SP_ag g (rs_d r).1 q rfl (fun a k hx => by simp <;> omega)), (have q := rs_c r; SC_ag g (rs_d r).1 (rs_d r).2.1 q rfl (fun a k hx => by simp <;> omega)), (have q := rs_n r; SN_ag g q ⟨rfl, rfl⟩ (fun _ => ⟨rfl, rfl⟩)), (have q := rs_e r; SE_ag g (rs_d r).1 q ⟨rfl, rfl, rfl⟩ (fun a k hx => by simp <;> omega)), (have q := rs_a r; SA_ag g (rs_d r).2.2.1 q ⟨rfl, rfl⟩ (fun a k hx => by simp <;> omega)), (have q := rs_m r; SM_ag g q ⟨rfl, rfl, rfl⟩ (fun _ => ⟨rfl, rfl, rfl, rfl, rfl⟩)), (have q := rs_z r; q), (have q := rs_f r; q)⟩⟩
    · rw [if_neg (nI_ge (by omega) (by omega)), if_neg (show ¬ (0 ≤ k ∧ k ≤ (A.2.1 0).length) by omega), if_pos rfl]
      exact ⟨s, rfl, kO_rf h, r⟩
theorem S_ptAt {t : Bool} {D : Nat} {s : eS} (h : SH s) {A : aS} (r : RS t D s A) (x : Int32) : (ptI A x = 0 ∧ mX7_at 2 x s = some (none, s)) ∨ ∃ p, p < (A.2.2 0).length ∧ x = nI p ∧ ptI A x = 1 ∧ mX7_at 2 x s = some (some (pA s p), s) := by
  have h24 := (rs_d r).2.2.2.1
  unfold mX7_at mX7_at_18 mX7_at_28 ptI
  rcases inLn x (n := (A.2.2 0).length) (by omega) with ⟨c, e⟩ | ⟨k, hk, rfl, e⟩
  · exact Or.inl ⟨e, by rw [if_pos c]⟩
  · by_cases c : k < (A.2.2 0).length
    · refine Or.inr ⟨k, c, rfl, by rw [e, if_pos c], ?_⟩
      rw [if_neg (nI_pos hk), gI_2 h, b1S, (rs_p r).1, if_neg (nI_ge c (by omega)), if_pos (lt_c (c := 24) 24 (by omega)), gP_2_0 h, b1S, b1S, aP_3 h (nIc (by omega) (by omega)), b1S, nI_clamp (by omega), ((rs_d r).1.1 k c).1]
    · refine Or.inl ⟨by rw [e, if_neg c], ?_⟩
      rw [if_neg (nI_pos hk), gI_2 h, b1S, (rs_p r).1, if_pos (nI_le (by omega) (by omega))]
set_option maxRecDepth 100000 in
theorem S_told {D : Nat} {s : eS} (h : SH s) {A : aS} (r : RS false D s A) (x k : Int32) : mX11_told 0 x k s = some (a_told A x k, s) := by
  have h24 := (rs_d r).2.2.2.1
  unfold mX11_told mX11_told_87 a_told
  rw [gP_0_1 h, b1S, b1S, oK_2 h, b1S]
  rcases S_ptAt h r x with ⟨e, f⟩ | ⟨p, hp, rfl, e, f⟩
  · rw [f, b2S, e, if_pos rfl, if_pos rfl]
  · have ko := ((rs_d r).1.1 p hp).2
    have q : ∀ j, pg (A.2.2 0) p j = (ptS s p).getD j 0 := fun j => pg_pt (rs_p r) hp j
    rw [f, b2S, e, if_neg (by simp), if_neg (by decide : ¬ (1 : Int32) = 0), nI_clamp (by omega), q 0, q 1, q 2, q 3, q 4, q 5, q 6]
    refine it2 (by rw [b1S, koI ko, b1S]; rfl) (it2 (by rw [b1S, koI ko, b1S]; rfl) (it2 (by rw [b1S, koI ko, b1S]; rfl) (it2 (by rw [b1S, koI ko, b1S]; exact it2 rfl rfl) (it2 (by rw [b1S, koI ko, b1S]; rfl) (it2 (by rw [b1S, koI ko, b1S]; rfl) (it2 (by rw [b1S, koI ko, b1S]; rfl) rfl))))))
set_option maxRecDepth 100000 in
theorem S_ordered {D : Nat} {s : eS} (h : SH s) {A : aS} (r : RS false D s A) (x k : Int32) : mX11_ordered 0 x k s = some (a_ordered A x k, s) := by
  have h12 := (rs_d r).2.2.2.2.1
  unfold mX11_ordered mX11_ordered_18 mX11_ordered_82 mX11_ordered_99 a_ordered
  rcases inLn x (n := (A.2.2 1).length) (by omega) with ⟨c, e⟩ | ⟨p, hp31, rfl, e⟩
  · rw [e, if_pos c, if_pos rfl]
  rw [e, if_neg (nI_pos hp31), gI_0 h, b1S, (rs_c r).1]
  by_cases hp : p < (A.2.2 1).length
  case neg => rw [if_pos (nI_le (by omega) hp31), if_neg hp, if_pos rfl]
  have dc := (rs_d r).2.1.1 p hp
  obtain ⟨k2, hk2, -, -, -, -, q4, -⟩ := pg_cm (rs_c r) hp
  rw [if_neg (nI_ge hp (by omega)), if_pos hp, if_neg (by decide : ¬ (1 : Int32) = 0), if_pos (lt_c (c := 12) 12 (by omega)), gP_0_2 h, b1S, b1S, aP_5 h (nIc (by omega) (by omega)), b1S, nI_clamp (by omega), dc.1, if_neg (by simp), gP_0_4 h, b1S, b1S, oK_6 h, b1S, S_isOf h r hp, b2S]
  have k02 : inL k.toInt64 0 2 = 0 ∨ k = 0 ∨ k = 1 ∨ k = 2 := by
    rcases inL_cases k (lo := 0) (hi := 2) (by omega) (by omega) with ⟨-, e⟩ | ⟨j, hj, rfl, e⟩
    · exact Or.inl e
    · by_cases c : j ≤ 2
      · rcases (by omega : j = 0 ∨ j = 1 ∨ j = 2) with rfl | rfl | rfl
        · exact Or.inr (Or.inl rfl)
        · exact Or.inr (Or.inr (Or.inl rfl))
        · exact Or.inr (Or.inr (Or.inr rfl))
      · rw [if_neg (show ¬ (0 ≤ j ∧ j ≤ 2) by omega)] at e
        exact Or.inl e
  rcases k02 with z | rfl | rfl | rfl
  · have n0 : ¬ k = 0 := fun e => by rw [e] at z; exact absurd z (by decide +kernel)
    have n1 : ¬ k = 1 := fun e => by rw [e] at z; exact absurd z (by decide +kernel)
    have n2 : ¬ k = 2 := fun e => by rw [e] at z; exact absurd z (by decide +kernel)
    rw [if_neg n0, if_neg n1, if_neg n2, if_pos z]
  · rw [if_neg (by decide +kernel : ¬ inL (0 : Int32).toInt64 0 2 = 0), if_pos rfl]
    by_cases cs : selI A = nI p
    · rw [if_pos cs, if_neg (by decide), if_pos cs, if_pos rfl]
    · rw [if_neg cs, if_pos rfl, if_neg cs, if_pos rfl]
  · rw [if_neg (by decide +kernel : ¬ inL (1 : Int32).toInt64 0 2 = 0), if_neg (by decide : ¬ (1 : Int32) = 0), if_pos rfl]
    by_cases cs : selI A = nI p
    · rw [if_pos cs, if_neg (by decide), if_pos cs, if_neg (by decide), if_pos rfl, gP_0_4 h, b1S, b1S, gI_6 h, b1S]
      rcases rs_l r with ⟨z1, z2⟩ | ⟨c2, d, w, kk, b, tt, p1, p2, p3, p4, p5, p6, p7, p8, p9, p10, p11⟩
      · unfold selI at cs
        rw [z1] at cs
        have z' : (-1 : Int32) = nI p := cs
        have := congrArg (· < (0 : Int32)) z'
        exact absurd (this.mp (by decide)) (nI_pos (by omega))
      · have g2 : (A.2.1 2).getD 2 0 = tt := by rw [p2]; rfl
        rw [g2, p8, p7, pk_sub (by omega), p11]
    · rw [if_neg cs, if_pos rfl, if_neg cs, if_neg (by decide), if_pos rfl]
  · rw [if_neg (by decide +kernel : ¬ inL (2 : Int32).toInt64 0 2 = 0), if_neg (by decide : ¬ (2 : Int32) = 0), if_neg (by decide : ¬ (2 : Int32) = 1), if_pos rfl, b1S, koI dc.2, b1S, ← q4]
    by_cases cs : selI A = nI p
    · rw [if_pos cs, if_neg (by decide), if_neg (by decide)]
    · rw [if_neg cs, if_neg (by decide), if_neg (by decide)]
set_option maxRecDepth 100000 in
theorem S_clock {D : Nat} {s : eS} (h : SH s) {A : aS} (r : RS false D s A) (x : Int32) : mX11_clock 0 x s = some (a_clockQ A x, s) := by
  have e : ∀ k, k < 7 → sI s 7 k = A.1 (19 + k) := fun k hk => by
    have esc : ∀ k, k < 7 → sc (19 + k) = (7, k) := by decide
    have := (rs_i r).1 (19 + k) (by omega) (by omega)
    rw [esc k hk] at this
    exact this
  have g5 := gP_0_5 h
  have gi : ∀ k, g_I s 101 k 7 = some (sI s 7 k) := fun k => gI_7 h
  have one : ∀ k, (b1 (g_P s 111 5 0) fun r2 => (b1 r2 fun a3 => (b1 (g_I s 101 k a3) fun x4 => (some (x4, s))))) = some (sI s 7 k, s) := fun k => by
    rw [g5, b1S, b1S, gi, b1S]
  unfold mX11_clock mX11_clock_107 a_clockQ
  rcases inL_cases x (lo := 0) (hi := 5) (by omega) (by omega) with ⟨c, e5⟩ | ⟨k, hk, rfl, e5⟩
  · have nn : ∀ j : Nat, j < 100 → ¬ x = nI j := fun j hj z => by rw [z] at c; exact nI_pos (by omega) c
    rw [show inL x.toInt64 0 5 = 0 from e5, if_pos rfl, if_neg (show ¬ x = 6 from nn 6 (by omega)), if_neg (show ¬ x = 0 from nn 0 (by omega)), if_neg (show ¬ x = 1 from nn 1 (by omega)), if_neg (show ¬ x = 2 from nn 2 (by omega)), if_neg (show ¬ x = 3 from nn 3 (by omega)), if_neg (show ¬ x = 4 from nn 4 (by omega)), if_neg (show ¬ x = 5 from nn 5 (by omega)), if_neg (show ¬ x = 6 from nn 6 (by omega))]
  · rw [show inL (nI k).toInt64 0 5 = _ from e5, nI_clamp hk]
    by_cases c : k ≤ 6
    · rcases (by omega : k = 0 ∨ k = 1 ∨ k = 2 ∨ k = 3 ∨ k = 4 ∨ k = 5 ∨ k = 6) with rfl | rfl | rfl | rfl | rfl | rfl | rfl
      · exact (one 0).trans (by rw [e 0 (by omega)]; rfl)
      · exact (one 1).trans (by rw [e 1 (by omega)]; rfl)
      · exact (one 2).trans (by rw [e 2 (by omega)]; rfl)
      · exact (one 3).trans (by rw [e 3 (by omega)]; rfl)
      · exact (one 4).trans (by rw [e 4 (by omega)]; rfl)
      · exact (one 5).trans (by rw [e 5 (by omega)]; rfl)
      · show (b1 (g_P s 111 5 0) fun r26 => (b1 r26 fun a27 => (b1 (g_I s 101 6 a27) fun x28 => (if x28 = 0 then some (0, s) else some (1, s))))) = some (if A.1 25 = 0 then 0 else 1, s)
        rw [g5, b1S, b1S, gi, b1S, e 6 (by omega)]
        exact it2 rfl rfl
    · have nn : ∀ j : Nat, j ≤ 6 → ¬ nI k = nI j := fun j hj z => by have := (nI_eq (by omega) (by omega)).mp z; omega
      rw [if_neg (show ¬ (0 ≤ k ∧ k ≤ 5) by omega), if_pos rfl, if_neg (show ¬ nI k = 6 from nn 6 (by omega)), if_neg (show ¬ nI k = 0 from nn 0 (by omega)), if_neg (show ¬ nI k = 1 from nn 1 (by omega)), if_neg (show ¬ nI k = 2 from nn 2 (by omega)), if_neg (show ¬ nI k = 3 from nn 3 (by omega)), if_neg (show ¬ nI k = 4 from nn 4 (by omega)), if_neg (show ¬ nI k = 5 from nn 5 (by omega)), if_neg (show ¬ nI k = 6 from nn 6 (by omega))]
set_option maxRecDepth 100000 in
theorem S_count' {D : Nat} {s : eS} (h : SH s) {A : aS} (r : RS false D s A) (x : Int32) : mX11_count 0 x s = some (a_count A x, s) := by
  have si := rs_i r
  obtain ⟨st, -, -, o2, -⟩ := rs_o r
  obtain ⟨st5, -, -, n5, -⟩ := rs_n r
  obtain ⟨st4, -, -, n4, -⟩ := rs_a r
  obtain ⟨st3, -, -, n3, n3', l3, -⟩ := rs_e r
  have e7 : sI s 0 11 = A.1 7 := si.1 7 (by decide) (by decide)
  have e8 : sI s 0 12 = A.1 8 := si.1 8 (by decide) (by decide)
  have e15 : sI s 21 4 = A.1 15 := si.1 15 (by decide) (by decide)
  have e16 : sI s 18 2 = A.1 16 := si.1 16 (by decide) (by decide)
  have e12 : sI s 0 16 = A.1 12 := si.1 12 (by decide) (by decide)
  have e13 : sI s 0 17 = A.1 13 := si.1 13 (by decide) (by decide)
  have e14 : sI s 0 18 = A.1 14 := si.1 14 (by decide) (by decide)
  unfold mX11_count mX11_count_150 a_count mX3_waiting
  refine it2 (by rw [gI_0 h, b1S, e7]) (it2 (by rw [gI_0 h, b1S, e8]) (it2 (by rw [gP_0_10 h, b1S, b1S, gI_24 h, b1S, o2]) (it2 (by rw [gP_0_9 h, b1S, b1S, gI_21 h, b1S, e15]) (it2 (by rw [gP_0_9 h, b1S, b1S, gI_21 h, b1S, n5]) (it2 (by rw [gP_0_8 h, b1S, b1S, gI_18 h, b1S, e16]) (it2 (by rw [gP_0_8 h, b1S, b1S, gI_18 h, b1S, si.2]) (it2 (by rw [gP_0_7 h, b1S, b1S, gI_14 h, b1S, n4]) (it2 (by rw [gP_0_6 h, b1S, b1S, oK_8 h, b1S, gI_8 h, b1S, gI_8 h, b1S, b2S, n3, n3', pk_sub (by omega), Nat.add_sub_cancel_left]) (it2 (by rw [gI_0 h, b1S, e12]; exact it2 rfl rfl) (it2 (by rw [gI_0 h, b1S, e13]) (it2 (by rw [gI_0 h, b1S, e14]) (it2 (by rw [gP_0_1 h, b1S, b1S, gI_2 h, b1S, (rs_p r).1]) (it2 (by rw [gI_0 h, b1S, (rs_c r).1]) rfl)))))))))))))
