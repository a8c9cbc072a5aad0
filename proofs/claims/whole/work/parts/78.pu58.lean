/-! ===== THE CLOCK goes on ===== -/
theorem SM_cal {s s' : eS} (m : SM s) (g : ag x7 s s') {ms mi ho da mo ye : Nat} (h0 : ms < 60000 ∧ sI s' 7 0 = nI ms) (h1 : mi < 60 ∧ sI s' 7 1 = nI mi) (h2 : ho < 24 ∧ sI s' 7 2 = nI ho) (h3 : 1 ≤ da ∧ da ≤ dN mo ye ∧ sI s' 7 3 = nI da) (h4 : 1 ≤ mo ∧ mo ≤ 12 ∧ sI s' 7 4 = nI mo) (h5 : ye < 100 ∧ sI s' 7 5 = nI ye) : SM s' := by
  obtain ⟨⟨l1, m1⟩, ⟨l2, m2⟩, ⟨l3, m3⟩, d1, d2, -⟩ := m
  have hd := dN_le mo ye
  refine ⟨⟨l1, MT_ag g m1 rfl (fun _ => rfl)⟩, ⟨l2, MT_ag g m2 rfl (fun _ => rfl)⟩, ⟨l3, MT_ag g m3 rfl (fun _ => rfl)⟩, ?_, ?_, ms, mi, ho, da, mo, ye, h0, h1, h2, ⟨h3.1, by omega, ?_, h3.2.2⟩, h4, h5⟩
  · obtain ⟨x, hx, ex⟩ := d1; exact ⟨x, hx, (g.2 _ _ rfl).trans ex⟩
  · obtain ⟨x, hx, ex⟩ := d2; exact ⟨x, hx, ex.1, (g.2 _ _ rfl).trans ex.2⟩
  · rw [dF_nat (by omega) (by omega)]; exact nI_le h3.2.1 (by omega)
set_option maxRecDepth 100000 in
theorem S_goOn {t : Bool} {C : Nat} {s : eS} (h : SH s) {A : aS} (r : RS t C s A) : ∃ s', mX1_goOn 7 s = some s' ∧ ag x7 s s' ∧ RS t C s' (a_clock A) := by
  obtain ⟨-, -, ms, mi, ho, da, mo, ye, ⟨b0, v0⟩, ⟨b1', v1⟩, ⟨b2', v2⟩, ⟨b3, b3', b3'', v3⟩, ⟨b4, b4', v4⟩, ⟨b5, v5⟩⟩ := (rs_m r).2.2.2
  rw [dF_nat (by omega) (by omega)] at b3''
  have hd := dN_le mo ye
  have bd : da ≤ dN mo ye := (nI_leI (by omega) (by omega)).mp b3''
  have si := rs_i r
  have e19 : A.1 19 = nI ms := (si.1 19 (by decide) (by decide)).symm.trans v0
  have e20 : A.1 20 = nI mi := (si.1 20 (by decide) (by decide)).symm.trans v1
  have e21 : A.1 21 = nI ho := (si.1 21 (by decide) (by decide)).symm.trans v2
  have e22 : A.1 22 = nI da := (si.1 22 (by decide) (by decide)).symm.trans v3
  have e23 : A.1 23 = nI mo := (si.1 23 (by decide) (by decide)).symm.trans v4
  have e24 : A.1 24 = nI ye := (si.1 24 (by decide) (by decide)).symm.trans v5
  have s100 : nI ms + 100 = nI (ms + 100) := nI_add ms 100
  unfold a_clock
  rw [e19, e20, e21, e22, e23, e24, dF_nat (by omega) (by omega), s100, nI_1, nI_1, nI_1, nI_1, nI_1]
  by_cases c0 : ms + 100 < 60000
  · -- within the minute
    rw [if_neg (c_nle (c := 60000) 60000 c0)]
    have g : ag x7 s (e_I s 7 0 (nI (ms + 100))) := ag_I ag_rf rfl
    have i := SI_set si 19 (by decide) (nI (ms + 100))
    have m := SM_cal (rs_m r) g (ms := ms + 100) (mi := mi) (ho := ho) (da := da) (mo := mo) (ye := ye) ⟨c0, rII_eq⟩ ⟨b1', (rII_ne (Or.inr (by decide))).trans v1⟩ ⟨b2', (rII_ne (Or.inr (by decide))).trans v2⟩ ⟨b3, bd, (rII_ne (Or.inr (by decide))).trans v3⟩ ⟨b4, b4', (rII_ne (Or.inr (by decide))).trans v4⟩ ⟨b5, (rII_ne (Or.inr (by decide))).trans v5⟩
    refine ⟨_, ?_, g, ⟨(have q := rs_d r; DS_ag g q), i, (have q := rs_o r; SO_ag g q ⟨rfl, rfl⟩ (fun _ => rfl)), (have q := rs_x r; SXt_ag g q ⟨rfl, rfl, rfl, rfl⟩ (fun _ => rfl)), (have q := rs_l r; SL_ag g q ⟨rfl, rfl, rfl⟩), (have q := rs_p r; SP_ag g (rs_d r).1 q rfl (fun a k hx => by simp <;> omega)), (have q := rs_c r; SC_ag g (rs_d r).1 (rs_d r).2.1 q rfl (fun a k hx => by simp <;> omega)), (have q := rs_n r; SN_ag g q ⟨rfl, rfl⟩ (fun _ => ⟨rfl, rfl⟩)), (have q := rs_e r; SE_ag g (rs_d r).1 q ⟨rfl, rfl, rfl⟩ (fun a k hx => by simp <;> omega)), (have q := rs_a r; SA_ag g (rs_d r).2.2.1 q ⟨rfl, rfl⟩ (fun a k hx => by simp <;> omega)), m, (have q := rs_z r; q), (have q := rs_f r; q)⟩⟩
    unfold mX1_goOn
    rw [gI_7 h, b1S, v0, s100, pI_7 h, b1S, gI_7 (SH_I h), b1S, rII_eq, if_neg (c_nle (c := 60000) 60000 c0)]
  rw [if_pos (c_le (c := 60000) 60000 (by omega))]
  have sm : nI (ms + 100) - 60000 = nI (ms + 100 - 60000) := by rw [show (60000 : Int32) = nI 60000 from rfl, pk_sub (by omega)]
  rw [sm]
  -- from the hour on
  have t123 : ∀ s1 : eS, SH s1 → ∀ x, sI s1 7 4 = nI x → x ≤ 12 → mX1_goOn_123 7 s1 = some s1 := fun s1 h1 x hx hx2 => by
    unfold mX1_goOn_123 mX1_goOn_150
    rw [gI_7 h1, b1S, hx, if_pos (show nI x ≤ 12 from nI_le (b := 12) hx2 (by decide))]
  have t90 : ∀ s1 : eS, SH s1 → sI s1 7 3 = nI da → sI s1 7 4 = nI mo → sI s1 7 5 = nI ye → mX1_goOn_90 7 s1 = some s1 := fun s1 h1 y3 y4 y5 => by
    unfold mX1_goOn_90
    rw [gI_7 h1, b1S, gI_7 h1, b1S, gI_7 h1, b1S, y3, y4, y5, S_daysOf (by omega) (by omega), b2S, if_pos (show 1 ≤ mo ∧ mo ≤ 12 from ⟨b4, b4'⟩), if_pos (nI_le bd (by omega))]
    exact t123 s1 h1 mo y4 b4'
  have t66 : ∀ s1 : eS, SH s1 → ∀ x, sI s1 7 2 = nI x → x < 24 → sI s1 7 3 = nI da → sI s1 7 4 = nI mo → sI s1 7 5 = nI ye → mX1_goOn_66 7 s1 = some s1 := fun s1 h1 x y2 hx y3 y4 y5 => by
    unfold mX1_goOn_66
    rw [gI_7 h1, b1S, y2, if_neg (show ¬ nI x = 24 from fun z => by have := (nI_eq (a := x) (b := 24) (by omega) (by omega)).mp z; omega)]
    exact t90 s1 h1 y3 y4 y5
  have h1 := SH_I (a := 7) (k := 0) (x := nI (ms + 100)) h
  have h2 := SH_I (a := 7) (k := 0) (x := nI (ms + 100 - 60000)) h1
  have h3 := SH_I (a := 7) (k := 1) (x := nI (mi + 1)) h2
  have head : mX1_goOn 7 s = (if nI (mi + 1) = 60 then (b1 (p_I (e_I (e_I (e_I s 7 0 (nI (ms + 100))) 7 0 (nI (ms + 100 - 60000))) 7 1 (nI (mi + 1))) 101 1 7 (0 : Int32)) fun s11 => (b1 (g_I s11 101 2 7) fun x12 => (b1 (p_I s11 101 2 7 (x12 + (1 : Int32))) fun s13 => (mX1_goOn_66 7 s13)))) else (mX1_goOn_66 7 (e_I (e_I (e_I s 7 0 (nI (ms + 100))) 7 0 (nI (ms + 100 - 60000))) 7 1 (nI (mi + 1))))) := by
    unfold mX1_goOn
    rw [gI_7 h, b1S, v0, s100, pI_7 h, b1S, gI_7 h1, b1S, rII_eq, if_pos (c_le (c := 60000) 60000 (by omega)), b1S, sm, pI_7 h1, b1S, gI_7 h2, b1S, rII_ne (Or.inr (by decide)), rII_ne (Or.inr (by decide)), v1, nI_1, pI_7 h2, b1S, gI_7 h3, b1S, rII_eq]
  rw [head]
  by_cases c1 : mi + 1 < 60
  · rw [if_neg (c_nle (c := 60) 60 c1), if_neg (show ¬ nI (mi + 1) = 60 from fun z => by have := (nI_eq (a := mi + 1) (b := 60) (by omega) (by omega)).mp z; omega)]
    have g : ag x7 s (e_I (e_I (e_I s 7 0 (nI (ms + 100))) 7 0 (nI (ms + 100 - 60000))) 7 1 (nI (mi + 1))) := ag_I (ag_I (ag_I ag_rf rfl) rfl) rfl
    have i := SI_set (SI_set (SI_set si 19 (by decide) (nI (ms + 100))) 19 (by decide) (nI (ms + 100 - 60000))) 20 (by decide) (nI (mi + 1))
    have rd' : ∀ k, 2 ≤ k → sI (e_I (e_I (e_I s 7 0 (nI (ms + 100))) 7 0 (nI (ms + 100 - 60000))) 7 1 (nI (mi + 1))) 7 k = sI s 7 k := fun k hk => by
      rw [rII_ne (Or.inr (by omega)), rII_ne (Or.inr (by omega)), rII_ne (Or.inr (by omega))]
    have m := SM_cal (rs_m r) g (ms := ms + 100 - 60000) (mi := mi + 1) (ho := ho) (da := da) (mo := mo) (ye := ye) ⟨by omega, by rw [rII_ne (Or.inr (by decide)), rII_eq]⟩ ⟨c1, rII_eq⟩ ⟨b2', (rd' 2 (by omega)).trans v2⟩ ⟨b3, bd, (rd' 3 (by omega)).trans v3⟩ ⟨b4, b4', (rd' 4 (by omega)).trans v4⟩ ⟨b5, (rd' 5 (by omega)).trans v5⟩
    exact ⟨_, t66 _ h3 ho ((rd' 2 (by omega)).trans v2) b2' ((rd' 3 (by omega)).trans v3) ((rd' 4 (by omega)).trans v4) ((rd' 5 (by omega)).trans v5), g, ⟨(have q := rs_d r; DS_ag g q), i, (have q := rs_o r; SO_ag g q ⟨rfl, rfl⟩ (fun _ => rfl)), (have q := rs_x r; SXt_ag g q ⟨rfl, rfl, rfl, rfl⟩ (fun _ => rfl)), (have q := rs_l r; SL_ag g q ⟨rfl, rfl, rfl⟩), (have q := rs_p r; SP_ag g (rs_d r).1 q rfl (fun a k hx => by simp <;> omega)), (have q := rs_c r; SC_ag g (rs_d r).1 (rs_d r).2.1 q rfl (fun a k hx => by simp <;> omega)), (have q := rs_n r; SN_ag g q ⟨rfl, rfl⟩ (fun _ => ⟨rfl, rfl⟩)), (have q := rs_e r; SE_ag g (rs_d r).1 q ⟨rfl, rfl, rfl⟩ (fun a k hx => by simp <;> omega)), (have q := rs_a r; SA_ag g (rs_d r).2.2.1 q ⟨rfl, rfl⟩ (fun a k hx => by simp <;> omega)), m, (have q := rs_z r; q), (have q := rs_f r; q)⟩⟩
  rw [if_pos (c_le (c := 60) 60 (by omega)), if_pos (show nI (mi + 1) = 60 by rw [show mi + 1 = 60 by omega]; rfl)]
  have h4 := SH_I (a := 7) (k := 1) (x := 0) h3
  have h5 := SH_I (a := 7) (k := 2) (x := nI (ho + 1)) h4
  rw [pI_7 h3, b1S, gI_7 h4, b1S, rII_ne (Or.inr (by decide)), rII_ne (Or.inr (by decide)), rII_ne (Or.inr (by decide)), rII_ne (Or.inr (by decide)), v2, nI_1, pI_7 h4, b1S]
  have i5 : SI (e_I (e_I (e_I (e_I (e_I s 7 0 (nI (ms + 100))) 7 0 (nI (ms + 100 - 60000))) 7 1 (nI (mi + 1))) 7 1 0) 7 2 (nI (ho + 1))) _ := SI_set (SI_set (SI_set (SI_set (SI_set si 19 (by decide) (nI (ms + 100))) 19 (by decide) (nI (ms + 100 - 60000))) 20 (by decide) (nI (mi + 1))) 20 (by decide) 0) 21 (by decide) (nI (ho + 1))
  have g5 : ag x7 s (e_I (e_I (e_I (e_I (e_I s 7 0 (nI (ms + 100))) 7 0 (nI (ms + 100 - 60000))) 7 1 (nI (mi + 1))) 7 1 0) 7 2 (nI (ho + 1))) := ag_I (ag_I (ag_I (ag_I (ag_I ag_rf rfl) rfl) rfl) rfl) rfl
  have q0 : sI (e_I (e_I (e_I (e_I (e_I s 7 0 (nI (ms + 100))) 7 0 (nI (ms + 100 - 60000))) 7 1 (nI (mi + 1))) 7 1 0) 7 2 (nI (ho + 1))) 7 0 = nI (ms + 100 - 60000) := by
    rw [rII_ne (Or.inr (by decide)), rII_ne (Or.inr (by decide)), rII_ne (Or.inr (by decide)), rII_eq]
  have q1 : sI (e_I (e_I (e_I (e_I (e_I s 7 0 (nI (ms + 100))) 7 0 (nI (ms + 100 - 60000))) 7 1 (nI (mi + 1))) 7 1 0) 7 2 (nI (ho + 1))) 7 1 = nI 0 := by
    rw [rII_ne (Or.inr (by decide)), rII_eq]; rfl
  have q2 : sI (e_I (e_I (e_I (e_I (e_I s 7 0 (nI (ms + 100))) 7 0 (nI (ms + 100 - 60000))) 7 1 (nI (mi + 1))) 7 1 0) 7 2 (nI (ho + 1))) 7 2 = nI (ho + 1) := rII_eq
  have qk : ∀ k, 3 ≤ k → sI (e_I (e_I (e_I (e_I (e_I s 7 0 (nI (ms + 100))) 7 0 (nI (ms + 100 - 60000))) 7 1 (nI (mi + 1))) 7 1 0) 7 2 (nI (ho + 1))) 7 k = sI s 7 k := fun k hk => by
    rw [rII_ne (Or.inr (by omega)), rII_ne (Or.inr (by omega)), rII_ne (Or.inr (by omega)), rII_ne (Or.inr (by omega)), rII_ne (Or.inr (by omega))]
  generalize e_I (e_I (e_I (e_I (e_I s 7 0 (nI (ms + 100))) 7 0 (nI (ms + 100 - 60000))) 7 1 (nI (mi + 1))) 7 1 0) 7 2 (nI (ho + 1)) = s5 at *
  by_cases c2 : ho + 1 < 24
  · rw [if_neg (c_nle (c := 24) 24 c2)]
    have m := SM_cal (rs_m r) g5 (ms := ms + 100 - 60000) (mi := 0) (ho := ho + 1) (da := da) (mo := mo) (ye := ye) ⟨by omega, q0⟩ ⟨by omega, q1⟩ ⟨c2, q2⟩ ⟨b3, bd, (qk 3 (by omega)).trans v3⟩ ⟨b4, b4', (qk 4 (by omega)).trans v4⟩ ⟨b5, (qk 5 (by omega)).trans v5⟩
    exact ⟨s5, t66 _ h5 (ho + 1) q2 c2 ((qk 3 (by omega)).trans v3) ((qk 4 (by omega)).trans v4) ((qk 5 (by omega)).trans v5), g5, ⟨(have q := rs_d r; DS_ag g5 q), i5, (have q := rs_o r; SO_ag g5 q ⟨rfl, rfl⟩ (fun _ => rfl)), (have q := rs_x r; SXt_ag g5 q ⟨rfl, rfl, rfl, rfl⟩ (fun _ => rfl)), (have q := rs_l r; SL_ag g5 q ⟨rfl, rfl, rfl⟩), (have q := rs_p r; SP_ag g5 (rs_d r).1 q rfl (fun a k hx => by simp <;> omega)), (have q := rs_c r; SC_ag g5 (rs_d r).1 (rs_d r).2.1 q rfl (fun a k hx => by simp <;> omega)), (have q := rs_n r; SN_ag g5 q ⟨rfl, rfl⟩ (fun _ => ⟨rfl, rfl⟩)), (have q := rs_e r; SE_ag g5 (rs_d r).1 q ⟨rfl, rfl, rfl⟩ (fun a k hx => by simp <;> omega)), (have q := rs_a r; SA_ag g5 (rs_d r).2.2.1 q ⟨rfl, rfl⟩ (fun a k hx => by simp <;> omega)), m, (have q := rs_z r; q), (have q := rs_f r; q)⟩⟩
  rw [if_pos (c_le (c := 24) 24 (by omega))]
  have h6 := SH_I (a := 7) (k := 2) (x := 0) h5
  have h7 := SH_I (a := 7) (k := 3) (x := nI (da + 1)) h6
  have i7 : SI (e_I (e_I s5 7 2 0) 7 3 (nI (da + 1))) _ := SI_set (SI_set i5 21 (by decide) 0) 22 (by decide) (nI (da + 1))
  have g7 : ag x7 s (e_I (e_I s5 7 2 0) 7 3 (nI (da + 1))) := ag_I (ag_I g5 rfl) rfl
  have w3 : sI (e_I s5 7 2 0) 7 3 = nI da := by rw [rII_ne (Or.inr (by decide)), qk 3 (by omega), v3]
  have p0 : sI (e_I (e_I s5 7 2 0) 7 3 (nI (da + 1))) 7 0 = nI (ms + 100 - 60000) := by rw [rII_ne (Or.inr (by decide)), rII_ne (Or.inr (by decide)), q0]
  have p1 : sI (e_I (e_I s5 7 2 0) 7 3 (nI (da + 1))) 7 1 = nI 0 := by rw [rII_ne (Or.inr (by decide)), rII_ne (Or.inr (by decide)), q1]
  have p2 : sI (e_I (e_I s5 7 2 0) 7 3 (nI (da + 1))) 7 2 = nI 0 := by rw [rII_ne (Or.inr (by decide)), rII_eq]; rfl
  have p3 : sI (e_I (e_I s5 7 2 0) 7 3 (nI (da + 1))) 7 3 = nI (da + 1) := rII_eq
  have p4 : sI (e_I (e_I s5 7 2 0) 7 3 (nI (da + 1))) 7 4 = nI mo := by rw [rII_ne (Or.inr (by decide)), rII_ne (Or.inr (by decide)), qk 4 (by omega), v4]
  have p5 : sI (e_I (e_I s5 7 2 0) 7 3 (nI (da + 1))) 7 5 = nI ye := by rw [rII_ne (Or.inr (by decide)), rII_ne (Or.inr (by decide)), qk 5 (by omega), v5]
  have e66 : mX1_goOn_66 7 s5 = mX1_goOn_90 7 (e_I (e_I s5 7 2 0) 7 3 (nI (da + 1))) := by
    unfold mX1_goOn_66
    rw [gI_7 h5, b1S, q2, if_pos (show nI (ho + 1) = 24 by rw [show ho + 1 = 24 by omega]; rfl), pI_7 h5, b1S, gI_7 h6, b1S, w3, nI_1, pI_7 h6, b1S]
  rw [e66]
  generalize e_I (e_I s5 7 2 0) 7 3 (nI (da + 1)) = s7 at *
  have e90 : mX1_goOn_90 7 s7 = (if nI (da + 1) ≤ nI (dN mo ye) then (mX1_goOn_123 7 s7) else (b1 (p_I s7 101 3 7 (1 : Int32)) fun s7 => (b1 (g_I s7 101 4 7) fun x8 => (b1 (p_I s7 101 4 7 (x8 + (1 : Int32))) fun s9 => (mX1_goOn_123 7 s9))))) := by
    unfold mX1_goOn_90
    rw [gI_7 h7, b1S, gI_7 h7, b1S, gI_7 h7, b1S, p3, p4, p5, S_daysOf (by omega) (by omega), b2S, if_pos (show 1 ≤ mo ∧ mo ≤ 12 from ⟨b4, b4'⟩)]
  rw [e90]
  by_cases c3 : da + 1 ≤ dN mo ye
  · rw [if_neg (nI_nlt c3 (by omega)), if_pos (nI_le c3 (by omega))]
    have m := SM_cal (rs_m r) g7 (ms := ms + 100 - 60000) (mi := 0) (ho := 0) (da := da + 1) (mo := mo) (ye := ye) ⟨by omega, p0⟩ ⟨by omega, p1⟩ ⟨by omega, p2⟩ ⟨by omega, c3, p3⟩ ⟨b4, b4', p4⟩ ⟨b5, p5⟩
    exact ⟨s7, t123 _ h7 mo p4 b4', g7, ⟨(have q := rs_d r; DS_ag g7 q), i7, (have q := rs_o r; SO_ag g7 q ⟨rfl, rfl⟩ (fun _ => rfl)), (have q := rs_x r; SXt_ag g7 q ⟨rfl, rfl, rfl, rfl⟩ (fun _ => rfl)), (have q := rs_l r; SL_ag g7 q ⟨rfl, rfl, rfl⟩), (have q := rs_p r; SP_ag g7 (rs_d r).1 q rfl (fun a k hx => by simp <;> omega)), (have q := rs_c r; SC_ag g7 (rs_d r).1 (rs_d r).2.1 q rfl (fun a k hx => by simp <;> omega)), (have q := rs_n r; SN_ag g7 q ⟨rfl, rfl⟩ (fun _ => ⟨rfl, rfl⟩)), (have q := rs_e r; SE_ag g7 (rs_d r).1 q ⟨rfl, rfl, rfl⟩ (fun a k hx => by simp <;> omega)), (have q := rs_a r; SA_ag g7 (rs_d r).2.2.1 q ⟨rfl, rfl⟩ (fun a k hx => by simp <;> omega)), m, (have q := rs_z r; q), (have q := rs_f r; q)⟩⟩
  rw [if_pos (nI_lt (by omega) (by omega)), if_neg (nI_ge (by omega) (by omega))]
  have h8 := SH_I (a := 7) (k := 3) (x := 1) h7
  have h9 := SH_I (a := 7) (k := 4) (x := nI (mo + 1)) h8
  have i9 : SI (e_I (e_I s7 7 3 1) 7 4 (nI (mo + 1))) _ := SI_set (SI_set i7 22 (by decide) 1) 23 (by decide) (nI (mo + 1))
  have g9 : ag x7 s (e_I (e_I s7 7 3 1) 7 4 (nI (mo + 1))) := ag_I (ag_I g7 rfl) rfl
  rw [pI_7 h7, b1S, gI_7 h8, b1S, rII_ne (Or.inr (by decide)), p4, nI_1, pI_7 h8, b1S]
  have r0 : sI (e_I (e_I s7 7 3 1) 7 4 (nI (mo + 1))) 7 0 = nI (ms + 100 - 60000) := by rw [rII_ne (Or.inr (by decide)), rII_ne (Or.inr (by decide)), p0]
  have r1 : sI (e_I (e_I s7 7 3 1) 7 4 (nI (mo + 1))) 7 1 = nI 0 := by rw [rII_ne (Or.inr (by decide)), rII_ne (Or.inr (by decide)), p1]
  have r2 : sI (e_I (e_I s7 7 3 1) 7 4 (nI (mo + 1))) 7 2 = nI 0 := by rw [rII_ne (Or.inr (by decide)), rII_ne (Or.inr (by decide)), p2]
  have r3 : sI (e_I (e_I s7 7 3 1) 7 4 (nI (mo + 1))) 7 3 = nI 1 := by rw [rII_ne (Or.inr (by decide)), rII_eq]; rfl
  have r4 : sI (e_I (e_I s7 7 3 1) 7 4 (nI (mo + 1))) 7 4 = nI (mo + 1) := rII_eq
  have r5 : sI (e_I (e_I s7 7 3 1) 7 4 (nI (mo + 1))) 7 5 = nI ye := by rw [rII_ne (Or.inr (by decide)), rII_ne (Or.inr (by decide)), p5]
  generalize e_I (e_I s7 7 3 1) 7 4 (nI (mo + 1)) = s9 at *
  by_cases c4 : mo + 1 ≤ 12
  · have hd2 := dN_le (mo + 1) ye
    rw [if_pos (show nI (mo + 1) ≤ 12 from nI_le (b := 12) c4 (by decide))]
    have m := SM_cal (rs_m r) g9 (ms := ms + 100 - 60000) (mi := 0) (ho := 0) (da := 1) (mo := mo + 1) (ye := ye) ⟨by omega, r0⟩ ⟨by omega, r1⟩ ⟨by omega, r2⟩ ⟨by omega, by omega, r3⟩ ⟨by omega, c4, r4⟩ ⟨b5, r5⟩
    exact ⟨s9, t123 _ h9 (mo + 1) r4 c4, g9, ⟨(have q := rs_d r; DS_ag g9 q), i9, (have q := rs_o r; SO_ag g9 q ⟨rfl, rfl⟩ (fun _ => rfl)), (have q := rs_x r; SXt_ag g9 q ⟨rfl, rfl, rfl, rfl⟩ (fun _ => rfl)), (have q := rs_l r; SL_ag g9 q ⟨rfl, rfl, rfl⟩), (have q := rs_p r; SP_ag g9 (rs_d r).1 q rfl (fun a k hx => by simp <;> omega)), (have q := rs_c r; SC_ag g9 (rs_d r).1 (rs_d r).2.1 q rfl (fun a k hx => by simp <;> omega)), (have q := rs_n r; SN_ag g9 q ⟨rfl, rfl⟩ (fun _ => ⟨rfl, rfl⟩)), (have q := rs_e r; SE_ag g9 (rs_d r).1 q ⟨rfl, rfl, rfl⟩ (fun a k hx => by simp <;> omega)), (have q := rs_a r; SA_ag g9 (rs_d r).2.2.1 q ⟨rfl, rfl⟩ (fun a k hx => by simp <;> omega)), m, (have q := rs_z r; q), (have q := rs_f r; q)⟩⟩
  have hd2 := dN_le 1 ((ye + 1) % 100)
  have e100 : nI (ye + 1) - nI (ye + 1) / 100 * 100 = nI ((ye + 1) % 100) := pk_rem (d := 100) (by omega) (by omega) (by omega)
  have h10 := SH_I (a := 7) (k := 4) (x := 1) h9
  rw [if_neg (show ¬ nI (mo + 1) ≤ 12 from nI_ge (a := 12) (by omega) (by omega)), e100]
  have i11 := SI_set (SI_set i9 23 (by decide) 1) 24 (by decide) (nI ((ye + 1) % 100))
  have g11 : ag x7 s (e_I (e_I s9 7 4 1) 7 5 (nI ((ye + 1) % 100))) := ag_I (ag_I g9 rfl) rfl
  have m := SM_cal (rs_m r) g11 (ms := ms + 100 - 60000) (mi := 0) (ho := 0) (da := 1) (mo := 1) (ye := (ye + 1) % 100) ⟨by omega, by rw [rII_ne (Or.inr (by decide)), rII_ne (Or.inr (by decide)), r0]⟩ ⟨by omega, by rw [rII_ne (Or.inr (by decide)), rII_ne (Or.inr (by decide)), r1]⟩ ⟨by omega, by rw [rII_ne (Or.inr (by decide)), rII_ne (Or.inr (by decide)), r2]⟩ ⟨by omega, by omega, by rw [rII_ne (Or.inr (by decide)), rII_ne (Or.inr (by decide)), r3]⟩ ⟨by omega, by omega, by rw [rII_ne (Or.inr (by decide)), rII_eq]; rfl⟩ ⟨by omega, rII_eq⟩
  refine ⟨_, ?_, g11, ⟨(have q := rs_d r; DS_ag g11 q), i11, (have q := rs_o r; SO_ag g11 q ⟨rfl, rfl⟩ (fun _ => rfl)), (have q := rs_x r; SXt_ag g11 q ⟨rfl, rfl, rfl, rfl⟩ (fun _ => rfl)), (have q := rs_l r; SL_ag g11 q ⟨rfl, rfl, rfl⟩), (have q := rs_p r; SP_ag g11 (rs_d r).1 q rfl (fun a k hx => by simp <;> omega)), (have q := rs_c r; SC_ag g11 (rs_d r).1 (rs_d r).2.1 q rfl (fun a k hx => by simp <;> omega)), (have q := rs_n r; SN_ag g11 q ⟨rfl, rfl⟩ (fun _ => ⟨rfl, rfl⟩)), (have q := rs_e r; SE_ag g11 (rs_d r).1 q ⟨rfl, rfl, rfl⟩ (fun a k hx => by simp <;> omega)), (have q := rs_a r; SA_ag g11 (rs_d r).2.2.1 q ⟨rfl, rfl⟩ (fun a k hx => by simp <;> omega)), m, (have q := rs_z r; q), (have q := rs_f r; q)⟩⟩
  unfold mX1_goOn_123 mX1_goOn_150
  rw [gI_7 h9, b1S, r4, if_neg (show ¬ nI (mo + 1) ≤ 12 from nI_ge (a := 12) (by omega) (by omega)), pI_7 h9, b1S, gI_7 h10, b1S, rII_ne (Or.inr (by decide)), r5, nI_1, e100, pI_7 h10, b1S]
