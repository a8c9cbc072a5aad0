/-! ===== the model's point, command ===== -/
def ptOK (A : aS) (so ad gr : Int32) : Int32 := if inL so.toInt64 0 6 = 0 then 0 else if inL gr.toInt64 0 16 = 0 then 0 else frF A ad
def a_point (A : aS) (so ad gr ti : Int32) : Int32 × aS := if ptOK A so ad gr = 0 then (-1, A) else if (A.2.2 0).length = 24 then (-3, A) else (nI (A.2.2 0).length, uq A 0 (A.2.2 0 ++ [[so, ad, gr, ti, 0, 0, 0]]))
abbrev xPn : Nat → Nat → Bool := fun a k => a == 28 || a == 29 || a == 30 || a == 31 || (a == 26 && k == 1)
theorem MP_add {s s' : eS} {q : List (List Int32)} (m : MP s q) (g : ag xPn s s') (hq : q.length < 24) {so ad gr ti : Int32} (v0 : sI s' 28 q.length = so) (v1 : sI s' 29 q.length = ad) (v2 : sI s' 30 q.length = gr) (v3 : sI s' 31 q.length = ti) (v4 : sI s' 26 1 = nI (q.length + 1)) (hs : ∀ j, j ≠ q.length → sI s' 28 j = sI s 28 j ∧ sI s' 29 j = sI s 29 j ∧ sI s' 30 j = sI s 30 j ∧ sI s' 31 j = sI s 31 j) : MP s' (q ++ [[so, ad, gr, ti, 0, 0, 0]]) := by
  obtain ⟨m1, m2, m3, m4⟩ := m
  have hl : (q ++ [[so, ad, gr, ti, 0, 0, 0]]).length = q.length + 1 := by rw [List.length_append]; rfl
  refine ⟨by rw [v4, hl], by omega, ?_, fun j hj => ?_⟩
  · rw [hl, rd_succ]
    congr 1
    · rw [← m3]
      simp only [rd_len]
      apply rd_congr
      intro i hi
      obtain ⟨a, b, c, d⟩ := hs i (by omega)
      unfold ptM
      rw [a, b, c, d, g.2 32 i rfl, g.2 33 i rfl, g.2 34 i rfl]
    · unfold ptM
      obtain ⟨z1, z2, z3⟩ := m4 q.length (Nat.le_refl _)
      rw [v0, v1, v2, v3, g.2 32 _ rfl, g.2 33 _ rfl, g.2 34 _ rfl, z1, z2, z3]
  · rw [hl] at hj
    rw [g.2 32 _ rfl, g.2 33 _ rfl, g.2 34 _ rfl]
    exact m4 j (by omega)
set_option maxRecDepth 100000 in
theorem M_ptAdd {s : eS} (h : SH s) {n : Nat} (hn : n < 24) (e : sI s 26 1 = nI n) (so ad gr ti : Int32) : ∃ s', (b1 (g_P s 112 2 26) fun r12 => (b1 (g_I s 112 1 26) fun x13 => (b1 r12 fun a14 => (b1 (s_I s 0 a14 x13 so) fun s15 => (b1 (g_P s15 112 3 26) fun r16 => (b1 (g_I s15 112 1 26) fun x17 => (b1 r16 fun a18 => (b1 (s_I s15 0 a18 x17 ad) fun s19 => (b1 (g_P s19 112 4 26) fun r20 => (b1 (g_I s19 112 1 26) fun x21 => (b1 r20 fun a22 => (b1 (s_I s19 0 a22 x21 gr) fun s23 => (b1 (g_P s23 112 5 26) fun r24 => (b1 (g_I s23 112 1 26) fun x25 => (b1 r24 fun a26 => (b1 (s_Z s23 2 a26 x25 ti) fun s27 => (b1 (g_I s27 112 1 26) fun x28 => (b1 (p_I s27 112 1 26 (x28 + (1 : Int32))) fun s29 => (b1 (g_I s29 112 1 26) fun x30 => (some ((x30 - (1 : Int32)), s29))))))))))))))))))))) = some (nI n, s') ∧ SH s' ∧ ag xPn s s' ∧ sI s' 28 n = so ∧ sI s' 29 n = ad ∧ sI s' 30 n = gr ∧ sI s' 31 n = ti &&& 1 ∧ sI s' 26 1 = nI (n + 1) ∧ ∀ j, j ≠ n → sI s' 28 j = sI s 28 j ∧ sI s' 29 j = sI s 29 j ∧ sI s' 30 j = sI s 30 j ∧ sI s' 31 j = sI s 31 j := by
  have hi : ¬ nI n < 0 ∧ (nI n).toNatClampNeg < 24 := nIc (by omega) hn
  have hc : (nI n).toNatClampNeg = n := nI_clamp (by omega)
  have h1 := SH_I (a := 28) (k := n) (x := so) h
  have h2 := SH_I (a := 29) (k := n) (x := ad) h1
  have h3 := SH_I (a := 30) (k := n) (x := gr) h2
  have h4 := SH_I (a := 31) (k := n) (x := ti &&& 1) h3
  have h5 := SH_I (a := 26) (k := 1) (x := nI (n + 1)) h4
  refine ⟨e_I (e_I (e_I (e_I (e_I s 28 n so) 29 n ad) 30 n gr) 31 n (ti &&& 1)) 26 1 (nI (n + 1)), ?_, h5, ag_I (ag_I (ag_I (ag_I (ag_I ag_rf rfl) rfl) rfl) rfl) rfl, ?_, ?_, ?_, ?_, rII_eq, fun j hj => ⟨?_, ?_, ?_, ?_⟩⟩
  · rw [gP_26_2 h, b1S, gI_26 h, b1S, b1S, e, sI_28 h hi, b1S, hc, gP_26_3 h1, b1S, gI_26 h1, b1S, b1S, rII_ne (Or.inl (by decide)), e, sI_29 h1 hi, b1S, hc, gP_26_4 h2, b1S, gI_26 h2, b1S, b1S, rII_ne (Or.inl (by decide)), rII_ne (Or.inl (by decide)), e, sI_30 h2 hi, b1S, hc, gP_26_5 h3, b1S, gI_26 h3, b1S, b1S, rII_ne (Or.inl (by decide)), rII_ne (Or.inl (by decide)), rII_ne (Or.inl (by decide)), e, sZ_31 h3 hi, b1S, hc, gI_26 h4, b1S, rII_ne (Or.inl (by decide)), rII_ne (Or.inl (by decide)), rII_ne (Or.inl (by decide)), rII_ne (Or.inl (by decide)), e, nI_1, pI_26 h4, b1S, gI_26 h5, b1S, rII_eq, nI_pred]
  · rw [rII_ne (Or.inl (by decide)), rII_ne (Or.inl (by decide)), rII_ne (Or.inl (by decide)), rII_ne (Or.inl (by decide)), rII_eq]
  · rw [rII_ne (Or.inl (by decide)), rII_ne (Or.inl (by decide)), rII_ne (Or.inl (by decide)), rII_eq]
  · rw [rII_ne (Or.inl (by decide)), rII_ne (Or.inl (by decide)), rII_eq]
  · rw [rII_ne (Or.inl (by decide)), rII_eq]
  · rw [rII_ne (Or.inl (by decide)), rII_ne (Or.inl (by decide)), rII_ne (Or.inl (by decide)), rII_ne (Or.inl (by decide)), rII_ne (Or.inr hj)]
  · rw [rII_ne (Or.inl (by decide)), rII_ne (Or.inl (by decide)), rII_ne (Or.inl (by decide)), rII_ne (Or.inr hj), rII_ne (Or.inl (by decide))]
  · rw [rII_ne (Or.inl (by decide)), rII_ne (Or.inl (by decide)), rII_ne (Or.inr hj), rII_ne (Or.inl (by decide)), rII_ne (Or.inl (by decide))]
  · rw [rII_ne (Or.inl (by decide)), rII_ne (Or.inr hj), rII_ne (Or.inl (by decide)), rII_ne (Or.inl (by decide)), rII_ne (Or.inl (by decide))]
theorem xA_Pn {s s' : eS} (g : ag xPn s s') : ag xA s s' := ag_mono g (fun a k hx => by simp at hx ⊢; omega)
theorem M_point {s : eS} (h : SH s) {A : aS} (r : RM s A) (so ad gr : Int32) {ti : Int32} (ht : ti = 0 ∨ ti = 1) : ∃ s', mX12_point 26 so ad gr ti s = some ((a_point A so ad gr ti).1, s') ∧ SH s' ∧ ag xA s s' ∧ RM s' (a_point A so ad gr ti).2 := by
  have m := r.2.2.2.2.1
  have h24 := m.2.1
  unfold mX12_point mX12_point_32 a_point ptOK
  rw [M_in, b2S]
  by_cases c1 : inL so.toInt64 0 6 = 0
  · rw [if_pos c1, if_pos c1, if_pos rfl]
    exact ⟨s, rfl, h, ag_rf, r⟩
  rw [if_neg c1, if_neg c1, M_in, b2S]
  by_cases c2 : inL gr.toInt64 0 16 = 0
  · rw [if_pos c2, if_pos c2, if_pos rfl]
    exact ⟨s, rfl, h, ag_rf, r⟩
  rw [if_neg c2, if_neg c2, oK_26 h, b1S, M_isFree h r, b2S]
  by_cases c3 : frF A ad = 0
  · rw [if_pos c3, if_pos c3]
    exact ⟨s, rfl, h, ag_rf, r⟩
  rw [if_neg c3, if_neg c3]
  by_cases c4 : (A.2.2 0).length = 24
  · rw [gI_26 h, b1S, m.1, if_pos (show nI (A.2.2 0).length = 24 by rw [c4]; rfl), if_pos c4]
    exact ⟨s, rfl, h, ag_rf, r⟩
  · obtain ⟨s1, f1, h1, g1, v0, v1, v2, v3, v4, vs⟩ := M_ptAdd h (n := (A.2.2 0).length) (by omega) m.1 so ad gr ti
    rw [if_neg c4]
    refine ⟨s1, ?_, h1, xA_Pn g1, RM_pts g1 r (fun a k hx => by simp at hx; omega) (MP_add m g1 (by omega) v0 v1 v2 (by rw [v3, and1 ht]) v4 vs)⟩
    rw [← f1, gI_26 h, b1S, m.1, if_neg (show ¬ nI (A.2.2 0).length = 24 from fun z => c4 ((nI_eq (a := (A.2.2 0).length) (b := 24) (by omega) (by omega)).mp z))]
/-! command -/
def soC (so : Int32) : Int32 := if so = 0 then 0 else if so = 1 then 1 else 4
def cmOK (A : aS) (so ad pt : Int32) : Int32 := if inL so.toInt64 0 2 = 0 then 0 else if frF A ad = 0 then 0 else if pt = -1 then 1 else if ptI A pt = 0 then 0 else if pg (A.2.2 0) pt.toNatClampNeg 0 = soC so then 1 else 0
def a_command (A : aS) (so ad pt mu : Int32) : Int32 × aS := if cmOK A so ad pt = 0 then (-1, A) else if (A.2.2 1).length = 12 then (-3, A) else (nI (A.2.2 1).length, uq A 1 (A.2.2 1 ++ [[so, ad, pt, mu, 0]]))
abbrev xCn : Nat → Nat → Bool := fun a k => a == 35 || a == 36 || a == 37 || a == 38 || (a == 26 && k == 9)
theorem MC_add {s s' : eS} {q : List (List Int32)} (m : MC s q) (g : ag xCn s s') (hq : q.length < 12) {so ad gr ti : Int32} (v0 : sI s' 35 q.length = so) (v1 : sI s' 36 q.length = ad) (v2 : sI s' 37 q.length = gr) (v3 : sI s' 38 q.length = ti) (v4 : sI s' 26 9 = nI (q.length + 1)) (hs : ∀ j, j ≠ q.length → sI s' 35 j = sI s 35 j ∧ sI s' 36 j = sI s 36 j ∧ sI s' 37 j = sI s 37 j ∧ sI s' 38 j = sI s 38 j) : MC s' (q ++ [[so, ad, gr, ti, 0]]) := by
  obtain ⟨m1, m2, m3, m4⟩ := m
  have hl : (q ++ [[so, ad, gr, ti, 0]]).length = q.length + 1 := by rw [List.length_append]; rfl
  refine ⟨by rw [v4, hl], by omega, ?_, fun j hj => ?_⟩
  · rw [hl, rd_succ]
    congr 1
    · rw [← m3]
      simp only [rd_len]
      apply rd_congr
      intro i hi
      obtain ⟨a, b, c, d⟩ := hs i (by omega)
      unfold cmM
      rw [a, b, c, d, g.2 39 i rfl]
    · unfold cmM
      rw [v0, v1, v2, v3, g.2 39 _ rfl, m4 q.length (Nat.le_refl _)]
  · rw [hl] at hj
    rw [g.2 39 _ rfl]
    exact m4 j (by omega)
set_option maxRecDepth 100000 in
theorem M_cmAdd {s : eS} (h : SH s) {n : Nat} (hn : n < 12) (e : sI s 26 9 = nI n) (so ad gr ti : Int32) : ∃ s', mX12_command_69 26 so ad gr ti s = some (nI n, s') ∧ SH s' ∧ ag xCn s s' ∧ sI s' 35 n = so ∧ sI s' 36 n = ad ∧ sI s' 37 n = gr ∧ sI s' 38 n = ti &&& 1 ∧ sI s' 26 9 = nI (n + 1) ∧ ∀ j, j ≠ n → sI s' 35 j = sI s 35 j ∧ sI s' 36 j = sI s 36 j ∧ sI s' 37 j = sI s 37 j ∧ sI s' 38 j = sI s 38 j := by
  have hi : ¬ nI n < 0 ∧ (nI n).toNatClampNeg < 12 := nIc (by omega) hn
  have hc : (nI n).toNatClampNeg = n := nI_clamp (by omega)
  have h1 := SH_I (a := 35) (k := n) (x := so) h
  have h2 := SH_I (a := 36) (k := n) (x := ad) h1
  have h3 := SH_I (a := 37) (k := n) (x := gr) h2
  have h4 := SH_I (a := 38) (k := n) (x := ti &&& 1) h3
  have h5 := SH_I (a := 26) (k := 9) (x := nI (n + 1)) h4
  refine ⟨e_I (e_I (e_I (e_I (e_I s 35 n so) 36 n ad) 37 n gr) 38 n (ti &&& 1)) 26 9 (nI (n + 1)), ?_, h5, ag_I (ag_I (ag_I (ag_I (ag_I ag_rf rfl) rfl) rfl) rfl) rfl, ?_, ?_, ?_, ?_, rII_eq, fun j hj => ⟨?_, ?_, ?_, ?_⟩⟩
  · unfold mX12_command_69
    rw [gI_26 h, b1S, e, if_neg (show ¬ nI n = 12 from fun z => by have := (nI_eq (a := n) (b := 12) (by omega) (by omega)).mp z; omega), gP_26_10 h, b1S, b1S, b1S, sI_35 h hi, b1S, hc, gP_26_11 h1, b1S, gI_26 h1, b1S, b1S, rII_ne (Or.inl (by decide)), e, sI_36 h1 hi, b1S, hc, gP_26_12 h2, b1S, gI_26 h2, b1S, b1S, rII_ne (Or.inl (by decide)), rII_ne (Or.inl (by decide)), e, sI_37 h2 hi, b1S, hc, gP_26_13 h3, b1S, gI_26 h3, b1S, b1S, rII_ne (Or.inl (by decide)), rII_ne (Or.inl (by decide)), rII_ne (Or.inl (by decide)), e, sZ_38 h3 hi, b1S, hc, gI_26 h4, b1S, rII_ne (Or.inl (by decide)), rII_ne (Or.inl (by decide)), rII_ne (Or.inl (by decide)), rII_ne (Or.inl (by decide)), e, nI_1, pI_26 h4, b1S, gI_26 h5, b1S, rII_eq, nI_pred]
  · rw [rII_ne (Or.inl (by decide)), rII_ne (Or.inl (by decide)), rII_ne (Or.inl (by decide)), rII_ne (Or.inl (by decide)), rII_eq]
  · rw [rII_ne (Or.inl (by decide)), rII_ne (Or.inl (by decide)), rII_ne (Or.inl (by decide)), rII_eq]
  · rw [rII_ne (Or.inl (by decide)), rII_ne (Or.inl (by decide)), rII_eq]
  · rw [rII_ne (Or.inl (by decide)), rII_eq]
  · rw [rII_ne (Or.inl (by decide)), rII_ne (Or.inl (by decide)), rII_ne (Or.inl (by decide)), rII_ne (Or.inl (by decide)), rII_ne (Or.inr hj)]
  · rw [rII_ne (Or.inl (by decide)), rII_ne (Or.inl (by decide)), rII_ne (Or.inl (by decide)), rII_ne (Or.inr hj), rII_ne (Or.inl (by decide))]
  · rw [rII_ne (Or.inl (by decide)), rII_ne (Or.inl (by decide)), rII_ne (Or.inr hj), rII_ne (Or.inl (by decide)), rII_ne (Or.inl (by decide))]
  · rw [rII_ne (Or.inl (by decide)), rII_ne (Or.inr hj), rII_ne (Or.inl (by decide)), rII_ne (Or.inl (by decide)), rII_ne (Or.inl (by decide))]
theorem RM_cms {s s' : eS} {A : aS} {q : List (List Int32)} (g : ag xCn s s') (r : RM s A) (p : MC s' q) (hsel : A.2.1 2 = [] ∨ ∃ c, c < (A.2.2 1).length ∧ (A.2.1 2).getD 0 (-1) = nI c) (hs : ∀ j, j ≠ (A.2.2 1).length → sI s' 35 j = sI s 35 j) : RM s' (uq A 1 q) := by
  obtain ⟨a1, a2, a3, a4, a5, a6, a7, a8, a9⟩ := r
  have h12 := a6.2.1
  refine ⟨MI_A (MI_ag g a1 (by decide)) rfl, OU_ag g a2 rfl (fun k => rfl), MX_ag g a3 rfl (fun k => rfl), ?_, MP_ag g a5 rfl (fun k => ⟨rfl, rfl, rfl, rfl, rfl, rfl, rfl⟩), p, MS_ag g a7 rfl (fun k => ⟨rfl, rfl, rfl, rfl⟩) (fun k => ⟨rfl, rfl⟩), ME_ag g a8 rfl (fun k => ⟨rfl, rfl, rfl, rfl⟩), MA_ag g a9 rfl (fun k => ⟨rfl, rfl⟩)⟩
  show ML s' (A.2.1 2)
  rcases a4 with ⟨z1, z2⟩ | ⟨c, hc, z1, z2⟩
  · exact Or.inl ⟨(g.2 _ _ rfl).trans z1, z2⟩
  · rcases hsel with e | ⟨c2, hc2, e⟩
    · rw [e] at z2; cases z2
    · have ec : c = c2 := by
        rw [z2] at e
        exact (nI_eq (by omega) (by omega)).mp e
      subst ec
      refine Or.inr ⟨c, hc, (g.2 _ _ rfl).trans z1, ?_⟩
      rw [g.2 26 17 rfl, g.2 26 16 rfl, hs c (by omega), rd_congr (fun i _ => g.2 40 i rfl)]
      exact z2
theorem M_command {s : eS} (h : SH s) {A : aS} (r : RM s A) (hsel : A.2.1 2 = [] ∨ ∃ c, c < (A.2.2 1).length ∧ (A.2.1 2).getD 0 (-1) = nI c) (so ad pt : Int32) {mu : Int32} (hm : mu = 0 ∨ mu = 1) : ∃ s', mX12_command 26 so ad pt mu s = some ((a_command A so ad pt mu).1, s') ∧ SH s' ∧ ag xA s s' ∧ RM s' (a_command A so ad pt mu).2 := by
  have m := r.2.2.2.2.2.1
  have h12 := m.2.1
  have fin : ∃ s', mX12_command_69 26 so ad pt mu s = some ((if (A.2.2 1).length = 12 then ((-3 : Int32), A) else (nI (A.2.2 1).length, uq A 1 (A.2.2 1 ++ [[so, ad, pt, mu, 0]]))).1, s') ∧ SH s' ∧ ag xA s s' ∧ RM s' (if (A.2.2 1).length = 12 then ((-3 : Int32), A) else (nI (A.2.2 1).length, uq A 1 (A.2.2 1 ++ [[so, ad, pt, mu, 0]]))).2 := by
    by_cases c4 : (A.2.2 1).length = 12
    · rw [if_pos c4]
      refine ⟨s, ?_, h, ag_rf, r⟩
      unfold mX12_command_69
      rw [gI_26 h, b1S, m.1, if_pos (show nI (A.2.2 1).length = 12 by rw [c4]; rfl)]
    · obtain ⟨s1, f1, h1, g1, v0, v1, v2, v3, v4, vs⟩ := M_cmAdd h (n := (A.2.2 1).length) (by omega) m.1 so ad pt mu
      rw [if_neg c4]
      exact ⟨s1, f1, h1, ag_mono g1 (fun a k hx => by simp at hx ⊢; omega), RM_cms g1 r (MC_add m g1 (by omega) v0 v1 v2 (by rw [v3, and1 hm]) v4 vs) hsel (fun j hj => (vs j hj).1)⟩
  unfold mX12_command mX12_command_33 a_command cmOK
  rw [M_in, b2S]
  by_cases c1 : inL so.toInt64 0 2 = 0
  · rw [if_pos c1, if_pos c1, if_pos rfl]
    exact ⟨s, rfl, h, ag_rf, r⟩
  rw [if_neg c1, if_neg c1, oK_26 h, b1S, M_isFree h r, b2S]
  by_cases c3 : frF A ad = 0
  · rw [if_pos c3, if_pos c3, if_pos rfl]
    exact ⟨s, rfl, h, ag_rf, r⟩
  rw [if_neg c3, if_neg c3]
  unfold mX12_command_35 mX12_command_64
  by_cases cp : pt = -1
  · rw [if_pos cp, if_pos cp, if_pos cp, if_neg (by decide)]
    exact fin
  rw [if_neg cp, if_neg cp, oK_26 h, b1S, M_isPoint h r, b2S]
  by_cases ci : ptI A pt = 0
  · rw [if_pos ci, if_pos ci, if_pos rfl]
    exact ⟨s, rfl, h, ag_rf, r⟩
  rw [if_neg ci, if_neg ci, if_neg cp]
  obtain ⟨p, hp, rfl⟩ := ptI_in r ci
  have m24 := r.2.2.2.2.1.2.1
  have hi : ¬ nI p < 0 ∧ (nI p).toNatClampNeg < 24 := nIc (by omega) (by omega)
  have t0 : pg (A.2.2 0) p 0 = sI s 28 p := by unfold pg; rw [MP_get r.2.2.2.2.1 hp]; rfl
  rw [nI_clamp (by omega), gP_26_2 h, b1S, b1S, aI_28 h hi, b1S, nI_clamp (by omega), ← t0]
  have step : ∀ v : Int32, soC so = v → ∃ s', (if pg (A.2.2 0) p 0 = v then mX12_command_69 26 so ad (nI p) mu s else some (-1, s)) = some ((if (if pg (A.2.2 0) p 0 = soC so then (1 : Int32) else 0) = 0 then (-1, A) else if (A.2.2 1).length = 12 then ((-3 : Int32), A) else (nI (A.2.2 1).length, uq A 1 (A.2.2 1 ++ [[so, ad, nI p, mu, 0]]))).1, s') ∧ SH s' ∧ ag xA s s' ∧ RM s' (if (if pg (A.2.2 0) p 0 = soC so then (1 : Int32) else 0) = 0 then (-1, A) else if (A.2.2 1).length = 12 then ((-3 : Int32), A) else (nI (A.2.2 1).length, uq A 1 (A.2.2 1 ++ [[so, ad, nI p, mu, 0]]))).2 := by
    intro v hv
    rw [hv]
    by_cases c : pg (A.2.2 0) p 0 = v
    · rw [if_pos c, if_pos c, if_neg (by decide)]
      exact fin
    · rw [if_neg c, if_neg c, if_pos rfl]
      exact ⟨s, rfl, h, ag_rf, r⟩
  by_cases s0 : so = 0
  · rw [if_pos s0]
    exact step 0 (by unfold soC; rw [if_pos s0])
  · rw [if_neg s0]
    by_cases s1 : so = 1
    · rw [if_pos s1]
      exact step 1 (by unfold soC; rw [if_neg s0, if_pos s1])
    · rw [if_neg s1]
      exact step 4 (by unfold soC; rw [if_neg s0, if_neg s1])
