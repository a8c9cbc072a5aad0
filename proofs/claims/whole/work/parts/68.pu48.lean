/-! ===== 103 ===== -/
abbrev tP (B : Nat → Nat) : Prop := B 0 + 256 * B 1 < 60000 ∧ B 2 < 60 ∧ B 3 < 24 ∧ (1 ≤ B 5 ∧ B 5 ≤ 12) ∧ B 6 < 100 ∧ 1 ≤ B 4 ∧ B 4 ≤ dN (B 5) (B 6)
theorem tmF_nat {F : List Int32} {B : Nat → Nat} (hB : ∀ i, i < 7 → B i < 256 ∧ (rb F).getD (9 + i) 0 = nI (B i)) : tmF F = if tP B then 1 else 0 := by
  have h0 := hB 0 (by omega)
  have h1 := hB 1 (by omega)
  have h2 := hB 2 (by omega)
  have h3 := hB 3 (by omega)
  have h4 := hB 4 (by omega)
  have h5 := hB 5 (by omega)
  have h6 := hB 6 (by omega)
  have hd := dN_le (B 5) (B 6)
  unfold tmF
  rw [show (rb F).getD 9 0 = nI (B 0) from h0.2, show (rb F).getD 10 0 = nI (B 1) from h1.2, show (rb F).getD 11 0 = nI (B 2) from h2.2, show (rb F).getD 12 0 = nI (B 3) from h3.2, show (rb F).getD 13 0 = nI (B 4) from h4.2, show (rb F).getD 14 0 = nI (B 5) from h5.2, show (rb F).getD 15 0 = nI (B 6) from h6.2, dF_nat h5.1 h6.1, nI_l (n := dN (B 5) (B 6)) (by omega), show (1 : Int64) = lN 1 from rfl, show (12 : Int64) = lN 12 from rfl, inL_nat (by omega) (by omega) (by omega), inL_nat (by omega) (by omega) (by omega), show (256 : Int32) * nI (B 1) = nI (256 * B 1) from pk_mul 256 _, nI_add]
  by_cases c1 : B 0 + 256 * B 1 < 60000
  case neg => rw [if_pos (c_le (c := 60000) 60000 (by omega)), if_neg (fun z => c1 z.1)]
  rw [if_neg (c_nle (c := 60000) 60000 c1)]
  by_cases c2 : B 2 < 60
  case neg => rw [if_pos (c_le (c := 60) 60 (by omega)), if_neg (fun z => c2 z.2.1)]
  rw [if_neg (c_nle (c := 60) 60 c2)]
  by_cases c3 : B 3 < 24
  case neg => rw [if_pos (c_le (c := 24) 24 (by omega)), if_neg (fun z => c3 z.2.2.1)]
  rw [if_neg (c_nle (c := 24) 24 c3)]
  by_cases c4 : 1 ≤ B 5 ∧ B 5 ≤ 12
  case neg => rw [if_neg c4, if_pos rfl, if_neg (fun z => c4 z.2.2.2.1)]
  rw [if_pos c4, if_neg (by decide)]
  by_cases c5 : B 6 < 100
  case neg => rw [if_pos (c_le (c := 100) 100 (by omega)), if_neg (fun z => c5 z.2.2.2.2.1)]
  rw [if_neg (c_nle (c := 100) 100 c5)]
  by_cases c6 : 1 ≤ B 4 ∧ B 4 ≤ dN (B 5) (B 6)
  · rw [if_pos c6, if_neg (by decide), if_pos ⟨c1, c2, c3, c4, c5, c6⟩]
  · rw [if_neg c6, if_pos rfl, if_neg (fun z => c6 z.2.2.2.2.2)]
theorem num7 (B : Nat → Nat) : numB B 7 0 = B 0 + 256 * B 1 + 65536 * B 2 + 16777216 * B 3 + 4294967296 * B 4 + 1099511627776 * B 5 + 281474976710656 * B 6 := by
  show (((((((0 * 256 + B 6) * 256 + B 5) * 256 + B 4) * 256 + B 3) * 256 + B 2) * 256 + B 1) * 256 + B 0) = _
  omega
theorem tb (N : Nat) (sh : Int64) {i : Nat} (hi : i < 8) (hs : sh = ((8 : Int32) * nI i).toInt64 &&& 63) (h : N < 2 ^ 63) : ((lN N >>> sh).toInt32) &&& 255 = nI (N / 2 ^ (8 * i) % 256) := by
  rw [hs]
  have := lb1_nat (lN N) hi
  rw [uN_lN (by omega)] at this
  exact this
set_option maxRecDepth 100000 in
theorem S_isTime {B : Nat → Nat} (hB : ∀ i, i < 7 → B i < 256) (s : eS) : mX1_isTime (lN (numB B 7 0)) s = some (if tP B then 1 else 0, s) := by
  have h0 := hB 0 (by omega)
  have h1 := hB 1 (by omega)
  have h2 := hB 2 (by omega)
  have h3 := hB 3 (by omega)
  have h4 := hB 4 (by omega)
  have h5 := hB 5 (by omega)
  have h6 := hB 6 (by omega)
  have hd := dN_le (B 5) (B 6)
  have hN : numB B 7 0 < 2 ^ 63 := by rw [num7]; omega
  have e16 : (lN (numB B 7 0) >>> ((16 : Int32).toInt64 &&& 63)) &&& (255 : Int64) = lN (B 2) := by
    rw [t_shr (k := 16) hN _ (by decide +kernel), t_and (w := 8) (by have := Nat.div_le_self (numB B 7 0) (2 ^ 16); omega) _ rfl, num7]
    congr 1; omega
  have e24 : (lN (numB B 7 0) >>> ((24 : Int32).toInt64 &&& 63)) &&& (255 : Int64) = lN (B 3) := by
    rw [t_shr (k := 24) hN _ (by decide +kernel), t_and (w := 8) (by have := Nat.div_le_self (numB B 7 0) (2 ^ 24); omega) _ rfl, num7]
    congr 1; omega
  have e0 : lN (numB B 7 0) &&& (65535 : Int64) = lN (B 0 + 256 * B 1) := by
    rw [t_and (w := 16) hN _ rfl, num7]
    congr 1; omega
  have e48 : ((lN (numB B 7 0) >>> ((48 : Int32).toInt64 &&& 63)).toInt32) &&& (255 : Int32) = nI (B 6) := by
    rw [tb _ _ (i := 6) (by omega) (by decide +kernel) hN, num7]; congr 1; omega
  have e40 : ((lN (numB B 7 0) >>> ((40 : Int32).toInt64 &&& 63)).toInt32) &&& (255 : Int32) = nI (B 5) := by
    rw [tb _ _ (i := 5) (by omega) (by decide +kernel) hN, num7]; congr 1; omega
  have e32 : ((lN (numB B 7 0) >>> ((32 : Int32).toInt64 &&& 63)).toInt32) &&& (255 : Int32) = nI (B 4) := by
    rw [tb _ _ (i := 4) (by omega) (by decide +kernel) hN, num7]; congr 1; omega
  unfold mX1_isTime mX1_isTime_99 mX1_isTime_100
  rw [e0, e16, e24, e48, e40, e32, S_daysOf h5 h6, b2S]
  by_cases c1 : B 0 + 256 * B 1 < 60000
  case neg => rw [if_pos (by rw [lg_cmp_ge, show (60000 : Int64) = lN 60000 from rfl, pk_lLE (by omega) (by omega)]; omega), if_neg (fun z => c1 z.1), oZ0, b1S]
  rw [if_neg (by rw [lg_cmp_ge, show (60000 : Int64) = lN 60000 from rfl, pk_lLE (by omega) (by omega)]; omega)]
  by_cases c2 : B 2 < 60
  case neg => rw [if_pos (by rw [lg_cmp_ge, show (60 : Int64) = lN 60 from rfl, pk_lLE (by omega) (by omega)]; omega), if_neg (fun z => c2 z.2.1), oZ0, b1S]
  rw [if_neg (by rw [lg_cmp_ge, show (60 : Int64) = lN 60 from rfl, pk_lLE (by omega) (by omega)]; omega)]
  by_cases c3 : B 3 < 24
  case neg => rw [if_pos (by rw [lg_cmp_ge, show (24 : Int64) = lN 24 from rfl, pk_lLE (by omega) (by omega)]; omega), if_neg (fun z => c3 z.2.2.1), oZ0, b1S]
  rw [if_neg (by rw [lg_cmp_ge, show (24 : Int64) = lN 24 from rfl, pk_lLE (by omega) (by omega)]; omega)]
  by_cases c5 : B 6 < 100
  case neg => rw [if_pos (c_le (c := 100) 100 (by omega)), if_neg (fun z => c5 z.2.2.2.2.1), oZ0, b1S]
  rw [if_neg (c_nle (c := 100) 100 c5)]
  by_cases c6 : 1 ≤ B 4
  case neg => rw [if_pos (lt_c (c := 1) 1 (by omega)), if_neg (fun z => c6 z.2.2.2.2.2.1), oZ0, b1S]
  rw [if_neg (nlt_c (c := 1) 1 (by omega))]
  by_cases c4 : 1 ≤ B 5 ∧ B 5 ≤ 12
  case neg => rw [if_neg c4, if_pos (nI_lt (by omega) (by omega)), if_neg (fun z => c4 z.2.2.2.1), oZ0, b1S]
  rw [if_pos c4]
  by_cases c7 : B 4 ≤ dN (B 5) (B 6)
  · rw [if_neg (nI_nlt c7 (by omega)), if_pos ⟨c1, c2, c3, c4, c5, c6, c7⟩, oZ1, b1S]
  · rw [if_pos (nI_lt (by omega) (by omega)), if_neg (fun z => c7 z.2.2.2.2.2.2), oZ0, b1S]
abbrev x7 : Nat → Nat → Bool := fun a _ => a == 7
theorem RS_clk {t : Bool} {C : Nat} {s : eS} {A : aS} (r : RS t C s A) {B : Nat → Nat} (p : tP B) (h31 : B 4 ≤ 31 ∧ B 5 < 256 ∧ B 6 < 256) : RS t C (e_I (e_I (e_I (e_I (e_I (e_I (e_I s 7 0 (nI (B 0 + 256 * B 1))) 7 1 (nI (B 2))) 7 2 (nI (B 3))) 7 3 (nI (B 4))) 7 4 (nI (B 5))) 7 5 (nI (B 6))) 7 6 1) (ui (ui (ui (ui (ui (ui (ui A 19 (nI (B 0 + 256 * B 1))) 20 (nI (B 2))) 21 (nI (B 3))) 22 (nI (B 4))) 23 (nI (B 5))) 24 (nI (B 6))) 25 1) := by
  have g : ag x7 s (e_I (e_I (e_I (e_I (e_I (e_I (e_I s 7 0 (nI (B 0 + 256 * B 1))) 7 1 (nI (B 2))) 7 2 (nI (B 3))) 7 3 (nI (B 4))) 7 4 (nI (B 5))) 7 5 (nI (B 6))) 7 6 1) := ag_I (ag_I (ag_I (ag_I (ag_I (ag_I (ag_I ag_rf rfl) rfl) rfl) rfl) rfl) rfl) rfl
  have i := SI_set (SI_set (SI_set (SI_set (SI_set (SI_set (SI_set (rs_i r) 19 (by decide) (nI (B 0 + 256 * B 1))) 20 (by decide) (nI (B 2))) 21 (by decide) (nI (B 3))) 22 (by decide) (nI (B 4))) 23 (by decide) (nI (B 5))) 24 (by decide) (nI (B 6))) 25 (by decide) 1
  obtain ⟨p1, p2, p3, p4, p5, p6, p7⟩ := p
  have hd := dN_le (B 5) (B 6)
  have mm : SM (e_I (e_I (e_I (e_I (e_I (e_I (e_I s 7 0 (nI (B 0 + 256 * B 1))) 7 1 (nI (B 2))) 7 2 (nI (B 3))) 7 3 (nI (B 4))) 7 4 (nI (B 5))) 7 5 (nI (B 6))) 7 6 1) := by
    obtain ⟨⟨l1, m1⟩, ⟨l2, m2⟩, ⟨l3, m3⟩, d1, d2, -⟩ := rs_m r
    refine ⟨⟨l1, MT_ag g m1 rfl (fun _ => rfl)⟩, ⟨l2, MT_ag g m2 rfl (fun _ => rfl)⟩, ⟨l3, MT_ag g m3 rfl (fun _ => rfl)⟩, ?_, ?_, B 0 + 256 * B 1, B 2, B 3, B 4, B 5, B 6, ⟨p1, ?_⟩, ⟨p2, ?_⟩, ⟨p3, ?_⟩, ⟨p6, h31.1, ?_, ?_⟩, ⟨p4.1, p4.2, ?_⟩, ⟨p5, ?_⟩⟩
    · obtain ⟨x, hx, ex⟩ := d1; exact ⟨x, hx, (g.2 _ _ rfl).trans ex⟩
    · obtain ⟨x, hx, ex⟩ := d2; exact ⟨x, hx, ex.1, (g.2 _ _ rfl).trans ex.2⟩
    · simp (disch := decide) only [rII_eq, rII_ne]
    · simp (disch := decide) only [rII_eq, rII_ne]
    · simp (disch := decide) only [rII_eq, rII_ne]
    · rw [dF_nat h31.2.1 h31.2.2]; exact nI_le p7 (by omega)
    · simp (disch := decide) only [rII_eq, rII_ne]
    · simp (disch := decide) only [rII_eq, rII_ne]
    · simp (disch := decide) only [rII_eq, rII_ne]
  exact ⟨(have q := rs_d r; DS_ag g q), i, (have q := rs_o r; SO_ag g q ⟨rfl, rfl⟩ (fun _ => rfl)), (have q := rs_x r; SXt_ag g q ⟨rfl, rfl, rfl, rfl⟩ (fun _ => rfl)), (have q := rs_l r; SL_ag g q ⟨rfl, rfl, rfl⟩), (have q := rs_p r; SP_ag g (rs_d r).1 q rfl (fun a k hx => by simp <;> omega)), (have q := rs_c r; SC_ag g (rs_d r).1 (rs_d r).2.1 q rfl (fun a k hx => by simp <;> omega)), (have q := rs_n r; SN_ag g q ⟨rfl, rfl⟩ (fun _ => ⟨rfl, rfl⟩)), (have q := rs_e r; SE_ag g (rs_d r).1 q ⟨rfl, rfl, rfl⟩ (fun a k hx => by simp <;> omega)), (have q := rs_a r; SA_ag g (rs_d r).2.2.1 q ⟨rfl, rfl⟩ (fun a k hx => by simp <;> omega)), mm, (have q := rs_z r; q), (have q := rs_f r; q)⟩
set_option maxRecDepth 100000 in
theorem S_become {t : Bool} {C : Nat} {s : eS} (h : SH s) {A : aS} (r : RS t C s A) {B : Nat → Nat} (hB : ∀ i, i < 7 → B i < 256) (p : tP B) : ∃ s', mX1_become 7 (lN (numB B 7 0)) s = some s' ∧ ag x7 s s' ∧ RS t C s' (ui (ui (ui (ui (ui (ui (ui A 19 (nI (B 0 + 256 * B 1))) 20 (nI (B 2))) 21 (nI (B 3))) 22 (nI (B 4))) 23 (nI (B 5))) 24 (nI (B 6))) 25 1) := by
  have h0 := hB 0 (by omega)
  have h1 := hB 1 (by omega)
  have h2 := hB 2 (by omega)
  have h3 := hB 3 (by omega)
  have h4 := hB 4 (by omega)
  have h5 := hB 5 (by omega)
  have h6 := hB 6 (by omega)
  have hd := dN_le (B 5) (B 6)
  have hN : numB B 7 0 < 2 ^ 63 := by rw [num7]; omega
  have e0 : (lN (numB B 7 0)).toInt32 &&& (65535 : Int32) = nI (B 0 + 256 * B 1) := by
    rw [lN_i, pk_and _ 16 rfl]
    congr 1
    show (numB B 7 0 % 2 ^ 32) % 2 ^ 16 = _
    rw [num7]; omega
  have e16 : ((lN (numB B 7 0) >>> ((16 : Int32).toInt64 &&& 63)).toInt32) &&& (255 : Int32) = nI (B 2) := by
    rw [tb _ _ (i := 2) (by omega) (by decide +kernel) hN, num7]; congr 1; omega
  have e24 : ((lN (numB B 7 0) >>> ((24 : Int32).toInt64 &&& 63)).toInt32) &&& (255 : Int32) = nI (B 3) := by
    rw [tb _ _ (i := 3) (by omega) (by decide +kernel) hN, num7]; congr 1; omega
  have e32 : ((lN (numB B 7 0) >>> ((32 : Int32).toInt64 &&& 63)).toInt32) &&& (255 : Int32) = nI (B 4) := by
    rw [tb _ _ (i := 4) (by omega) (by decide +kernel) hN, num7]; congr 1; omega
  have e40 : ((lN (numB B 7 0) >>> ((40 : Int32).toInt64 &&& 63)).toInt32) &&& (255 : Int32) = nI (B 5) := by
    rw [tb _ _ (i := 5) (by omega) (by decide +kernel) hN, num7]; congr 1; omega
  have e48 : ((lN (numB B 7 0) >>> ((48 : Int32).toInt64 &&& 63)).toInt32) &&& (255 : Int32) = nI (B 6) := by
    rw [tb _ _ (i := 6) (by omega) (by decide +kernel) hN, num7]; congr 1; omega
  refine ⟨_, ?_, ag_I (ag_I (ag_I (ag_I (ag_I (ag_I (ag_I ag_rf rfl) rfl) rfl) rfl) rfl) rfl) rfl, RS_clk r p ⟨by have := p.2.2.2.2.2.2; omega, h5, h6⟩⟩
  unfold mX1_become
  rw [e0, e16, e24, e32, e40, e48, pI_7 h, b1S, pI_7 (SH_I h), b1S, pI_7 (SH_I (SH_I h)), b1S, pI_7 (SH_I (SH_I (SH_I h))), b1S, pI_7 (SH_I (SH_I (SH_I (SH_I h)))), b1S, pI_7 (SH_I (SH_I (SH_I (SH_I (SH_I h))))), b1S, pZ_7 (SH_I (SH_I (SH_I (SH_I (SH_I (SH_I h)))))) (Or.inr rfl), b1S]
theorem S_ask103 {C : Nat} {s : eS} (h : SH s) {A : aS} (r : RT C s A) {F : List Int32} (f : FS s F) (hn : 3 ≤ (rb F).length) {B : Nat → Nat} (hB : ∀ i, i < 7 → B i < 256 ∧ (rb F).getD (9 + i) 0 = nI (B i)) (cause : Int32) : ∃ s', mX11_clockOrderCame 0 (lN (numB B 7 0)) s = some s' ∧ kY s s' ∧ RT C s' (a_ask A F 103 cause) := by
  unfold mX11_clockOrderCame mX11_clockOrderCame_44 a_ask a_ask103
  rw [if_neg (by decide : ¬ (103 : Int32) = 100), if_neg (by decide : ¬ (103 : Int32) = 101), if_pos rfl, S_isTime (fun i hi => (hB i hi).1), b2S, tmF_nat hB]
  by_cases cp : tP B
  · rw [if_pos cp, if_neg (by decide), if_neg (by decide)]
    obtain ⟨s1, f1, k1, r1⟩ := S_same h r f hn (cause := 7) (den := 0) (cau := 7) rfl (by decide)
    have h1 := k1.1.1
    have fs1 := FS_Y k1 f
    rw [oK_0 h, b1S, f1, b2S]
    by_cases c7 : (a_same A F 7 0).1 7 = 0
    · rw [if_pos c7, if_pos rfl]
      refine ⟨s1, rfl, k1, ?_⟩
      have e : (if isT F = 0 then a_same A F 7 0 else a_same A F 7 0) = a_same A F 7 0 := by split <;> rfl
      rw [if_pos c7, e]
      exact r1
    · rw [if_neg c7, if_neg (by decide), gP_0_8 h1, b1S, b1S, oK_18 h1, b1S, S_trial h1 fs1, b2S]
      by_cases ct : isT F = 0
      · rcases r1 with ⟨o1, r1, l1⟩ | ⟨o1, A0, r1, -, e1⟩
        · obtain ⟨s2, f2, g2, r2⟩ := S_become h1 r1 (fun i hi => (hB i hi).1) cp
          rw [if_pos ct, if_pos ct, if_neg c7, gP_0_5 h1, b1S, b1S, oK_7 h1, b1S, f2, b1S]
          refine ⟨s2, rfl, kY_tr k1 (kY_ag h1 g2 (fun a k hx => by simp at hx; simp; omega)), Or.inl ⟨(g2.2 _ _ rfl).trans o1, ?_, l1⟩⟩
          unfold a_clk
          rw [show (rb F).getD 9 0 = nI (B 0) from (hB 0 (by omega)).2, show (rb F).getD 10 0 = nI (B 1) from (hB 1 (by omega)).2, show (rb F).getD 11 0 = nI (B 2) from (hB 2 (by omega)).2, show (rb F).getD 12 0 = nI (B 3) from (hB 3 (by omega)).2, show (rb F).getD 13 0 = nI (B 4) from (hB 4 (by omega)).2, show (rb F).getD 14 0 = nI (B 5) from (hB 5 (by omega)).2, show (rb F).getD 15 0 = nI (B 6) from (hB 6 (by omega)).2, show (256 : Int32) * nI (B 1) = nI (256 * B 1) from pk_mul 256 _, nI_add]
          exact r2
        · rw [e1] at c7
          exact absurd rfl c7
      · rw [if_neg ct, if_neg ct]
        exact ⟨s1, rfl, k1, r1⟩
  · obtain ⟨s1, f1, k1, r1⟩ := S_same h r f hn (cause := 7) (den := 1) (cau := 71) rfl (by decide)
    rw [if_neg cp, if_pos rfl, if_pos rfl, oK_0 h, b1S, f1, b2S]
    exact ⟨s1, rfl, k1, r1⟩
