abbrev xEa (pl : Nat) : Nat → Nat → Bool := fun a k => ((a == 9 || a == 10 || a == 11) && k == pl) || (a == 8 && k == 5)
section
variable {s : eS} {a k b j : Nat} {x : Int64}
theorem rLL_eq : sL (e_L s a k x) a k = x := by
  show e_u (sL s) a k x a k = x
  exact eu_eq
theorem rLL_ne (h : ¬ (b = a ∧ j = k)) : sL (e_L s a k x) b j = sL s b j := by
  show e_u (sL s) a k x b j = _
  exact eu_ne h
theorem rIL : sI (e_L s a k x) b j = sI s b j := rfl
theorem rPL : sP (e_L s a k x) b j = sP s b j := rfl
theorem rnL : sn (e_L s a k x) = sn s := rfl
theorem rsL : ss (e_L s a k x) = ss s := rfl
theorem rLI' {y : Int32} : sL (e_I s a k y) b j = sL s b j := rfl
end
set_option maxRecDepth 100000 in
/-- the store behind an EVENT more -/
theorem S_evSt {s : eS} (h : SH s) {pt pl n st : Nat} (hst : st < 52) (hn : n < 52) (hpl : (st + n) % 52 = pl) (e4 : sI s 8 4 = nI st) (e5 : sI s 8 5 = nI n) (hpt : pt < sn s ∧ sK s pt = 106) (X T : Int64) : ∃ s', mX3_add 8 (some pt) X T s = some s' ∧ SH s' ∧ EX (xEa pl) s s' ∧ sP s' 9 pl = some pt ∧ sL s' 10 pl = X ∧ sL s' 11 pl = T ∧ sI s' 8 5 = nI (n + 1) ∧ sn s' = sn s ∧ ss s' = ss s := by
  have hm : pl < 52 := by omega
  obtain ⟨s1, e1⟩ : ∃ s1, s1 = e_P s 9 pl (some pt) := ⟨_, rfl⟩
  have h1 : SH s1 := by
    rw [e1]
    exact SH_P h (by
      have : ∀ q ∈ pL, q.1 ≠ 9 := by decide
      exact fun hm => this _ hm rfl)
  have f1 : s_P s 4 106 9 (nI pl) pt = some s1 := by
    rw [e1]
    unfold s_P
    rw [nI_clamp (by omega), if_pos ⟨sh_k h (by decide) rfl, ⟨nI_pos (by omega), by rw [(h.2.1 9 (by decide)).2]; exact hm⟩, hpt⟩]
  have g1 : EX (xEa pl) s s1 := by rw [e1]; exact EX_P EX_rf (Or.inl (by simp [xEa]))
  have w1 : sP s1 9 pl = some pt := by rw [e1]; exact rPP_eq
  have i1 : sI s1 8 5 = nI n := by rw [e1, rIP, e5]
  have y1 : (sn s1 = sn s ∧ ss s1 = ss s) := by rw [e1, rnP, rsP]; exact ⟨rfl, rfl⟩
  clear e1
  obtain ⟨s2, e2⟩ : ∃ s2, s2 = e_L s1 10 pl X := ⟨_, rfl⟩
  have h2 : SH s2 := by rw [e2]; exact SH_L h1
  have f2 : s_L s1 3 10 (nI pl) X = some s2 := by
    rw [e2]
    unfold s_L
    rw [nI_clamp (by omega), if_pos ⟨sh_k h1 (by decide) rfl, nI_pos (by omega), by rw [(h1.2.1 10 (by decide)).2]; exact hm⟩]
  have g2 : EX (xEa pl) s s2 := by rw [e2]; exact EX_L g1 (Or.inl (by simp [xEa]))
  have w2 : sP s2 9 pl = some pt ∧ sL s2 10 pl = X := by rw [e2, rPL]; exact ⟨w1, rLL_eq⟩
  have i2 : sI s2 8 5 = nI n := by rw [e2, rIL, i1]
  have y2 : (sn s2 = sn s ∧ ss s2 = ss s) := by rw [e2, rnL, rsL]; exact y1
  clear e2
  obtain ⟨s3, e3⟩ : ∃ s3, s3 = e_L s2 11 pl T := ⟨_, rfl⟩
  have h3 : SH s3 := by rw [e3]; exact SH_L h2
  have f3 : s_L s2 3 11 (nI pl) T = some s3 := by
    rw [e3]
    unfold s_L
    rw [nI_clamp (by omega), if_pos ⟨sh_k h2 (by decide) rfl, nI_pos (by omega), by rw [(h2.2.1 11 (by decide)).2]; exact hm⟩]
  have g3 : EX (xEa pl) s s3 := by rw [e3]; exact EX_L g2 (Or.inl (by simp [xEa]))
  have w3 : sP s3 9 pl = some pt ∧ sL s3 10 pl = X ∧ sL s3 11 pl = T := by
    rw [e3, rPL]
    exact ⟨w2.1, (rLL_ne (fun z => absurd z.1 (by decide))).trans w2.2, rLL_eq⟩
  have i3 : sI s3 8 5 = nI n := by rw [e3, rIL, i2]
  have y3 : (sn s3 = sn s ∧ ss s3 = ss s) := by rw [e3, rnL, rsL]; exact y2
  clear e3
  refine ⟨e_I s3 8 5 (nI (n + 1)), ?_, SH_I h3, EX_I g3 (Or.inl (by simp [xEa])), w3.1, by rw [rLI']; exact w3.2.1, by rw [rLI']; exact w3.2.2, rII_eq, by rw [rnI]; exact y3.1, by rw [rsI]; exact y3.2⟩
  unfold mX3_add
  rw [gI_8 h, b1S, e5, if_pos (lt_c (c := 52) 52 hn), gI_8 h, b1S, b1S, e4, nI_add, show (52 : Int32) = nI 52 from rfl, pk_rem (by omega) (by omega) (by omega), hpl, gP_8_0 h, b1S, b1S, b1S, f1, b1S, gP_8_1 h1, b1S, b1S, f2, b1S, gP_8_2 h2, b1S, b1S, f3, b1S, gI_8 h3, b1S, i3, nI_1, pI_8 h3, b1S]
set_option maxRecDepth 100000 in
/-- an EVENT more -/
theorem S_evAdd {D : Nat} {s : eS} (h : SH s) {A : aS} (r : RS false D s A) (hz : (A.2.2 2).length + (A.2.2 3).length < 52) {p k : Nat} (hp : p < (A.2.2 0).length) (hk : k < 6) (e0 : sI s (pA s p) 0 = nI k) {v q : Int32} {X T : Int64} {tm : List Int32} (htm : tm.length = 7) (hX : ∀ fr, lb X (obn k) = ob (nI k) (sI s (pA s p) 1) v q fr) (hT : lb T 7 = tm) : ∃ s', mX3_add 8 (some (pA s p)) X T s = some s' ∧ kO s s' ∧ RS false D s' (uq A 3 (A.2.2 3 ++ [nI p :: v :: q :: tm])) := by
  have d := rs_d r
  obtain ⟨st, hst, b1', b2', b3', b4', b5'⟩ := rs_e r
  have dp := (d.1.1 p hp).2
  obtain ⟨pl, hpl⟩ : ∃ pl, (st + ((A.2.2 2).length + (A.2.2 3).length)) % 52 = pl := ⟨_, rfl⟩
  obtain ⟨s', f, h', g, w9, w10, w11, i5, zn, zs⟩ := S_evSt h (pt := pA s p) (pl := pl) hst hz hpl b1' b2' dp.1 X T
  have hm : pl < 52 := by omega
  have hne : ∀ i, i < (A.2.2 2).length + (A.2.2 3).length → (st + i) % 52 ≠ pl := fun i hi => by omega
  have big : ∀ a j, 58 ≤ a → xEa pl a j = false := fun a j ha => by simp [xEa]; omega
  have nu : nul s' = nul s := by
    unfold nul
    congr 2
    funext i
    rw [exP g (sh_lt h (by decide)) (by simp [xEa])]
  have dz : DZ s' (A.2.2 0).length (A.2.2 1).length := by
    unfold DZ
    rw [nu, zn, zs]
    exact d.2.2.2
  have dd : DS s' (A.2.2 0).length (A.2.2 1).length := ⟨DP_ex g h d.1 (fun k hk => by simp [xEa]), DC_ex g h d.2.1 (fun k hk => by simp [xEa]), DA_ex g h d.2.2.1 (fun k => by simp [xEa]) (fun a ha => big a 0 ha), dz⟩
  have pAe : pA s' p = pA s p := pA_ex g h (by simp [xEa])
  have se : SE s' (A.2.2 0).length (A.2.2 2) (A.2.2 3 ++ [nI p :: v :: q :: tm]) := by
    have hl : (A.2.2 3 ++ [nI p :: v :: q :: tm]).length = (A.2.2 3).length + 1 := by rw [List.length_append]; rfl
    refine ⟨st, hst, (exI g (sh_lt h (by decide)) (by simp [xEa])).trans b1', ?_, (exI g (sh_lt h (by decide)) (by simp [xEa])).trans b3', by omega, fun i hi => ?_⟩
    · rw [i5, hl]; rfl
    · rw [hl] at hi
      rw [← List.append_assoc]
      by_cases c : i < (A.2.2 2).length + (A.2.2 3).length
      · rw [row_app (by rw [List.length_append]; exact c)]
        exact evS_ex g h (by simp [xEa, hne i c]) (fun p hp => ⟨(d.1.1 p hp).2, by simp [xEa], big _ _ (d.1.1 p hp).2.2, big _ _ (d.1.1 p hp).2.2⟩) (b5' i c)
      · have e : i = (A.2.2 2).length + (A.2.2 3).length := by omega
        subst e
        have el : ((A.2.2 2 ++ A.2.2 3) ++ [nI p :: v :: q :: tm]).getD ((A.2.2 2).length + (A.2.2 3).length) [] = nI p :: v :: q :: tm := by
          have := row_last (q := A.2.2 2 ++ A.2.2 3) (row := nI p :: v :: q :: tm)
          rw [List.length_append] at this
          exact this
        rw [el, hpl]
        refine ⟨p, k, v, q, tm, rfl, htm, hp, ?_, hk, ?_, ?_, ?_⟩
        · rw [pAe]; exact w9
        · rw [pAe, exI g dp.1.1 (big _ _ dp.2)]; exact e0
        · rw [pAe, exI g dp.1.1 (big _ _ dp.2), w10]; exact hX
        · rw [w11]; exact hT
  have i : SI s' A := SI_ex g h (rs_i r) (fun k hk _ => by
    have : ∀ k, k < 26 → (sc k).1 ≠ 9 ∧ (sc k).1 ≠ 10 ∧ (sc k).1 ≠ 11 ∧ (sc k).1 ≠ 8 := by decide
    have := this k hk
    simp [xEa, this]) (by simp [xEa])
  have rr : RS false D s' (uq A 3 (A.2.2 3 ++ [nI p :: v :: q :: tm])) := by
    have o : SO_ s' (A.2.1 0) := SO_ex g h (rs_o r) (by simp [xEa]) (fun k => by simp [xEa])
    have x : SXt false s' (A.2.1 1) := SXt_ex g h (rs_x r) (by simp [xEa]) (fun k => by simp [xEa])
    have l : SL s' A := SL_ex g h (rs_l r) (by simp [xEa]) (fun c hc => by simp [xEa])
    have sp : SP s' (A.2.2 0) := SP_ex g h d.1 (rs_p r) (by simp [xEa]) (fun k => by simp [xEa]) big
    have c : SC s' (A.2.2 0).length (A.2.2 1) := SC_ex g h d.1 d.2.1 (rs_c r) (by simp [xEa]) (fun k hk => by simp [xEa]) (fun k hk => by simp [xEa]) big
    have n : SN s' (A.2.2 5) := SN_ex g h (rs_n r) (by simp [xEa]) (fun k => by simp [xEa])
    have a : SA s' (A.2.2 4) := SA_ex g h d.2.2.1 (rs_a r) (by simp [xEa]) (fun k hk => by simp [xEa]) big
    have m : SM s' := SM_ex g h (rs_m r) (by simp [xEa]) (fun k => by simp [xEa])
    exact ⟨dd, i, o, x, l, sp, c, n, se, a, m, (have z := rs_z r; z), (have f := rs_f r; f)⟩
  exact ⟨s', f, ⟨kS_ex g h h' (fun a k hx => by simp at hx; simp [xEa]; omega), fun z => (exI g (sh_lt h (by decide)) (by simp [xEa])).trans z⟩, rr⟩
