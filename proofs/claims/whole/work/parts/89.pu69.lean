/-! ===== command ===== -/
abbrev xNc (n : Nat) : Nat → Nat → Bool := fun a k => (a == 5 && k == n) || (a == 0 && k == 3)
theorem RS_newCm {D : Nat} {s s' : eS} (h : SH s) {A : aS} (r : RS false D s A) (g : EX (xNc (A.2.2 1).length) s s') (hn : (A.2.2 1).length < 12) {so : Nat} {ad pt mu : Int32} (hso : so < 3) (u : UQ (A.2.2 1 ++ [[nI so, ad, pt, mu, 0]])) (z1 : sn s' = sn s + 1) (z2 : ss s' = ss s + 5) (k1 : sK s' (sn s) = 102) (e03 : sI s' 0 3 = nI ((A.2.2 1).length + 1)) (e5 : sP s' 5 (A.2.2 1).length = some (sn s)) (v0 : sI s' (sn s) 0 = nI so) (v1 : sI s' (sn s) 1 = ad) (v3 : sI s' (sn s) 3 = mu) (v4 : sI s' (sn s) 4 = 0) (v2 : (pt = -1 ∧ sP s' (sn s) 2 = none) ∨ ∃ p, p < (A.2.2 0).length ∧ pt = nI p ∧ sP s' (sn s) 2 = some (pA s p) ∧ sI s (pA s p) 0 = nI ([0, 1, 4].getD so 0)) : RS false D s' (uq A 1 (A.2.2 1 ++ [[nI so, ad, pt, mu, 0]])) := by
  have d := rs_d r
  have h58 := h.1.1
  have hl : (A.2.2 1 ++ [[nI so, ad, pt, mu, 0]]).length = (A.2.2 1).length + 1 := by rw [List.length_append]; rfl
  have big : ∀ a k, 58 ≤ a → xNc (A.2.2 1).length a k = false := fun a k ha => by simp [xNc]; omega
  have p5 : ∀ k, k < (A.2.2 1).length → xNc (A.2.2 1).length 5 k = false := fun k hk => by simp [xNc]; omega
  have cAn : cA s' (A.2.2 1).length = sn s := by unfold cA; rw [e5]; rfl
  have cAo : ∀ i, i < (A.2.2 1).length → cA s' i = cA s i := fun i hi => cA_ex g h (p5 i hi)
  have lt' : ∀ i, i < (A.2.2 1).length → cA s i < sn s := fun i hi => (d.2.1.1 i hi).2.1.1
  have dc : DC s' ((A.2.2 1).length + 1) := by
    have d0 := DC_ex g h d.2.1 p5
    refine ⟨fun i hi => ?_, fun i j hi hj e => ?_⟩
    · by_cases c : i < (A.2.2 1).length
      · exact d0.1 i c
      · have e : i = (A.2.2 1).length := by omega
        subst e
        rw [cAn]
        exact ⟨e5, ⟨by omega, k1⟩, by omega⟩
    · by_cases ci : i < (A.2.2 1).length
      · by_cases cj : j < (A.2.2 1).length
        · exact d0.2 i j ci cj e
        · have e2 : j = (A.2.2 1).length := by omega
          rw [e2, cAn, cAo i ci] at e
          have := lt' i ci
          omega
      · have e1 : i = (A.2.2 1).length := by omega
        by_cases cj : j < (A.2.2 1).length
        · rw [e1, cAn, cAo j cj] at e
          have := lt' j cj
          omega
        · omega
  have nu : nul s' = nul s := by
    unfold nul
    congr 2
    funext i
    rw [exP g (sh_lt h (by decide)) (by simp [xNc])]
  have dz : DZ s' (A.2.2 0).length ((A.2.2 1).length + 1) := by
    obtain ⟨y1, y2, y3, y4⟩ := d.2.2.2
    refine ⟨y1, by omega, ?_, ?_⟩ <;> rw [nu] <;> omega
  have dd : DS s' (A.2.2 0).length (A.2.2 1 ++ [[nI so, ad, pt, mu, 0]]).length := by
    rw [hl]
    exact ⟨DP_ex g h d.1 (fun k hk => by simp [xNc]), dc, DA_ex g h d.2.2.1 (fun k => by simp [xNc]) (fun a ha => big a 0 ha), dz⟩
  have sc' : SC s' (A.2.2 0).length (A.2.2 1 ++ [[nI so, ad, pt, mu, 0]]) := by
    refine ⟨by rw [e03, hl], fun c hc => ?_, u⟩
    rw [hl] at hc
    by_cases cc : c < (A.2.2 1).length
    · rw [row_app cc]
      exact cmS_ex g h (d.2.1.1 c cc).2 (p5 c cc) (fun k => big _ k (d.2.1.1 c cc).2.2) (fun p hp => ⟨(d.1.1 p hp).2, by simp [xNc], big _ _ (d.1.1 p hp).2.2⟩) ((rs_c r).2.1 c cc)
    · have e : c = (A.2.2 1).length := by omega
      subst e
      rw [row_last]
      refine ⟨so, pt, hso, ?_, ?_, ?_⟩
      · rw [cAn, v1, v3, v4]
      · rw [cAn, v0]
      · rw [cAn]
        rcases v2 with z | ⟨p, y1, y2, y3, y4⟩
        · exact Or.inl z
        · have ko := (d.1.1 p y1).2
          have e : pA s' p = pA s p := pA_ex g h (by simp [xNc])
          exact Or.inr ⟨p, y1, y2, by rw [e]; exact y3, by rw [e, exI g ko.1.1 (big _ _ ko.2)]; exact y4⟩
  have l : SL s' (uq A 1 (A.2.2 1 ++ [[nI so, ad, pt, mu, 0]])) := by
    have l1 := SL_ex g h (rs_l r) (by simp [xNc]) (fun c hc => p5 c hc)
    rcases l1 with z | ⟨c2, dd, w, k, b, tt, ⟨p1, p1'⟩, p2, p3⟩
    · exact Or.inl z
    · refine Or.inr ⟨c2, dd, w, k, b, tt, ⟨?_, ?_⟩, ?_, p3⟩
      · show c2 < (A.2.2 1 ++ [[nI so, ad, pt, mu, 0]]).length
        omega
      · show pg (A.2.2 1 ++ [[nI so, ad, pt, mu, 0]]) c2 3 ≠ 0
        rw [pg_app p1]; exact p1'
      · show A.2.1 2 = nI c2 :: b :: tt :: slB (pg (A.2.2 1 ++ [[nI so, ad, pt, mu, 0]]) c2 0) dd
        rw [pg_app p1]; exact p2
  have i : SI s' A := SI_ex g h (rs_i r) (fun k hk _ => by
    have : ∀ k, k < 26 → (sc k).1 ≠ 5 ∧ ((sc k).1 ≠ 0 ∨ (sc k).2 ≠ 3) := by decide
    have := this k hk
    simp [xNc]; omega) (by simp [xNc])
  have o : SO_ s' (A.2.1 0) := SO_ex g h (rs_o r) (by simp [xNc]) (fun k => by simp [xNc])
  have x : SXt false s' (A.2.1 1) := SXt_ex g h (rs_x r) (by simp [xNc]) (fun k => by simp [xNc])
  have p : SP s' (A.2.2 0) := SP_ex g h d.1 (rs_p r) (by simp [xNc]) (fun k => by simp [xNc]) big
  have n : SN s' (A.2.2 5) := SN_ex g h (rs_n r) (by simp [xNc]) (fun k => by simp [xNc])
  have e : SE s' (A.2.2 0).length (A.2.2 2) (A.2.2 3) := SE_ex g h d.1 (rs_e r) (by simp [xNc]) (fun k => by simp [xNc]) (fun k hk => by simp [xNc]) big
  have a : SA s' (A.2.2 4) := SA_ex g h d.2.2.1 (rs_a r) (by simp [xNc]) (fun k hk => by simp [xNc]) big
  have m : SM s' := SM_ex g h (rs_m r) (by simp [xNc]) (fun k => by simp [xNc])
  exact ⟨dd, i, o, x, l, p, sc', n, e, a, m, (have z := rs_z r; z), (have f := rs_f r; f)⟩
section
variable {s : eS} {a k b j : Nat}
theorem rIP {x : Option Nat} : sI (e_P s a k x) b j = sI s b j := rfl
theorem rKP {x : Option Nat} : sK (e_P s a k x) b = sK s b := rfl
theorem rnP {x : Option Nat} : sn (e_P s a k x) = sn s := rfl
theorem rsP {x : Option Nat} : ss (e_P s a k x) = ss s := rfl
theorem rKI' {x : Int32} : sK (e_I s a k x) b = sK s b := rfl
theorem rPI' {x : Int32} : sP (e_I s a k x) b j = sP s b j := rfl
end
set_option maxRecDepth 100000 in
/-- a COMMAND is made -/
theorem S_mkCm {s : eS} (h : SH s) (hs : sn s + 1 ≤ 100000) (so ad : Int32) (tg : Option Nat) {mu : Int32} (hm : mu = 0 ∨ mu = 1) : ∃ s1 s5, n_O s 102 5 = some (sn s, s1) ∧ mX2_init (sn s) so ad tg mu s1 = some s5 ∧ SH s5 ∧ EX (fun a k => false) s s5 ∧ sn s5 = sn s + 1 ∧ ss s5 = ss s + 5 ∧ sK s5 (sn s) = 102 ∧ sI s5 (sn s) 0 = so ∧ sI s5 (sn s) 1 = ad ∧ sI s5 (sn s) 3 = mu ∧ sI s5 (sn s) 4 = 0 ∧ sP s5 (sn s) 2 = tg := by
  have hsn := h.1.1
  obtain ⟨s1, e1⟩ : ∃ s1, s1 = e_new s 102 0 5 := ⟨_, rfl⟩
  have f1 : n_O s 102 5 = some (sn s, s1) := by rw [e1]; exact if_pos (by omega)
  have k1 : sK s1 (sn s) = 102 := by rw [e1]; exact if_pos rfl
  have n1 : sn s1 = sn s + 1 := by rw [e1]; rfl
  have c1 : ss s1 = ss s + 5 := by rw [e1]; rfl
  have g1 : EX (fun a k => false) s s1 := by rw [e1]; exact EX_new _ _ _
  have h1 : SH s1 := SH_ex g1 h (by omega) (fun _ _ => rfl)
  have i1 : sI s1 (sn s) 4 = 0 := by
    rw [e1]
    show e_row (sI s) (sn s) (fun _ => 0) (sn s) 4 = 0
    unfold e_row; rw [if_pos rfl]
  clear e1
  obtain ⟨s2, e2⟩ : ∃ s2, s2 = e_I s1 (sn s) 0 so := ⟨_, rfl⟩
  have f2 : p_I s1 102 0 (sn s) so = some s2 := by rw [e2]; exact if_pos ⟨by omega, k1⟩
  have k2 : sK s2 (sn s) = 102 := by rw [e2, rKI', k1]
  have n2 : sn s2 = sn s + 1 := by rw [e2, rnI, n1]
  have c2 : ss s2 = ss s + 5 := by rw [e2, rsI, c1]
  have g2 : EX (fun a k => false) s s2 := by rw [e2]; exact EX_I g1 (Or.inr (Nat.le_refl _))
  have h2 : SH s2 := by rw [e2]; exact SH_I h1
  have i2 : sI s2 (sn s) 0 = so ∧ sI s2 (sn s) 4 = 0 := by rw [e2]; exact ⟨rII_eq, (rII_ne (Or.inr (by decide))).trans i1⟩
  clear e2
  obtain ⟨s3, e3⟩ : ∃ s3, s3 = e_I s2 (sn s) 1 ad := ⟨_, rfl⟩
  have f3 : p_I s2 102 1 (sn s) ad = some s3 := by rw [e3]; exact if_pos ⟨by omega, k2⟩
  have k3 : sK s3 (sn s) = 102 := by rw [e3, rKI', k2]
  have n3 : sn s3 = sn s + 1 := by rw [e3, rnI, n2]
  have c3 : ss s3 = ss s + 5 := by rw [e3, rsI, c2]
  have g3 : EX (fun a k => false) s s3 := by rw [e3]; exact EX_I g2 (Or.inr (Nat.le_refl _))
  have h3 : SH s3 := by rw [e3]; exact SH_I h2
  have i3 : sI s3 (sn s) 0 = so ∧ sI s3 (sn s) 1 = ad ∧ sI s3 (sn s) 4 = 0 := by rw [e3]; exact ⟨(rII_ne (Or.inr (by decide))).trans i2.1, rII_eq, (rII_ne (Or.inr (by decide))).trans i2.2⟩
  clear e3
  obtain ⟨s4, e4⟩ : ∃ s4, s4 = e_P s3 (sn s) 2 tg := ⟨_, rfl⟩
  have f4 : p_P s3 102 2 (sn s) tg = some s4 := by rw [e4]; exact if_pos ⟨by omega, k3⟩
  have k4 : sK s4 (sn s) = 102 := by rw [e4, rKP, k3]
  have n4 : sn s4 = sn s + 1 := by rw [e4, rnP, n3]
  have c4 : ss s4 = ss s + 5 := by rw [e4, rsP, c3]
  have g4 : EX (fun a k => false) s s4 := by rw [e4]; exact EX_P g3 (Or.inr (Nat.le_refl _))
  have h4 : SH s4 := by
    rw [e4]
    exact SH_P h3 (fun hm => by
      have : ∀ q ∈ pL, q.1 < 58 := by decide
      have := this _ hm
      omega)
  have i4 : sI s4 (sn s) 0 = so ∧ sI s4 (sn s) 1 = ad ∧ sI s4 (sn s) 4 = 0 ∧ sP s4 (sn s) 2 = tg := by rw [e4, rIP, rIP, rIP]; exact ⟨i3.1, i3.2.1, i3.2.2, rPP_eq⟩
  clear e4
  obtain ⟨s5, e5⟩ : ∃ s5, s5 = e_I s4 (sn s) 3 mu := ⟨_, rfl⟩
  have f5 : p_Z s4 102 3 (sn s) mu = some s5 := by rw [e5]; exact if_pos ⟨⟨by omega, k4⟩, hm⟩
  refine ⟨s1, s5, f1, ?_, by rw [e5]; exact SH_I h4, by rw [e5]; exact EX_I g4 (Or.inr (Nat.le_refl _)), by rw [e5, rnI, n4], by rw [e5, rsI, c4], by rw [e5, rKI', k4], ?_, ?_, ?_, ?_, ?_⟩
  · unfold mX2_init
    rw [f2, b1S, f3, b1S, f4, b1S, f5, b1S]
  · rw [e5, rII_ne (Or.inr (by decide))]; exact i4.1
  · rw [e5, rII_ne (Or.inr (by decide))]; exact i4.2.1
  · rw [e5]; exact rII_eq
  · rw [e5, rII_ne (Or.inr (by decide))]; exact i4.2.2.1
  · rw [e5, rPI']; exact i4.2.2.2
set_option maxRecDepth 100000 in
theorem S_54 {D : Nat} {s : eS} (h : SH s) {A : aS} (r : RS false D s A) {so : Nat} (hso : so < 3) {ad : Int32} (hfr : ∀ j, j < (A.2.2 1).length → ¬ pg (A.2.2 1) j 1 = ad) (pt : Int32) {mu : Int32} (hm : mu = 0 ∨ mu = 1) {tg : Option Nat} (v2 : (pt = -1 ∧ tg = none) ∨ ∃ p, p < (A.2.2 0).length ∧ pt = nI p ∧ tg = some (pA s p) ∧ sI s (pA s p) 0 = nI ([0, 1, 4].getD so 0)) : ∃ s', mX11_command_54 0 (nI so) ad mu tg s = some ((if (A.2.2 1).length = 12 then ((-3 : Int32), A) else (nI (A.2.2 1).length, uq A 1 (A.2.2 1 ++ [[nI so, ad, pt, mu, 0]]))).1, s') ∧ kM s s' ∧ RS false D s' (if (A.2.2 1).length = 12 then ((-3 : Int32), A) else (nI (A.2.2 1).length, uq A 1 (A.2.2 1 ++ [[nI so, ad, pt, mu, 0]]))).2 ∧ (sI s 14 4 = 0 → sI s' 14 4 = 0) := by
  have d := rs_d r
  have h12 := d.2.2.2.2.1
  have hsn := h.1.1
  unfold mX11_command_54
  rw [gI_0 h, b1S, (rs_c r).1]
  by_cases cn : (A.2.2 1).length = 12
  · rw [if_neg (show ¬ nI (A.2.2 1).length < 12 by rw [cn]; decide), if_pos cn]
    exact ⟨s, rfl, kM_rf h, r, fun z => z⟩
  rw [if_pos (lt_c (c := 12) 12 (by omega)), if_neg cn]
  have zs := d.2.2.2.2.2.1
  -- the COMMAND
  obtain ⟨s1, s5, f1, f5, h5, g5, y1, y2, yk, w0, w1, w3, w4, wp⟩ := S_mkCm h (by omega) (nI so) ad tg hm
  rw [gP_0_2 h, b1S, b1S, f1, b2S, f5, b1S]
  have h6 : SH (e_P s5 5 (A.2.2 1).length (some (sn s))) := SH_P h5 (by
    have : ∀ q ∈ pL, q.1 ≠ 5 := by decide
    exact fun hm => this _ hm rfl)
  have sP5 : s_P s5 5 102 5 (nI (A.2.2 1).length) (sn s) = some (e_P s5 5 (A.2.2 1).length (some (sn s))) := by
    unfold s_P
    rw [nI_clamp (by omega), if_pos ⟨sh_k h5 (by decide) rfl, ⟨nI_pos (by omega), by rw [(h5.2.1 5 (by decide)).2]; show _ < 12; omega⟩, ⟨by omega, yk⟩⟩]
  have e03 : sI (e_P s5 5 (A.2.2 1).length (some (sn s))) 0 3 = nI (A.2.2 1).length := (exI g5 (sh_lt h (by decide)) rfl).trans (rs_c r).1
  have h7 := SH_I (a := 0) (k := 3) (x := nI ((A.2.2 1).length + 1)) h6
  have g7 : EX (xNc (A.2.2 1).length) s (e_I (e_P s5 5 (A.2.2 1).length (some (sn s))) 0 3 (nI ((A.2.2 1).length + 1))) := EX_I (EX_P (EX_mono g5 (fun a k _ => rfl)) (Or.inl (by simp [xNc]))) (Or.inl (by simp [xNc]))
  have sI7 : ∀ k, sI (e_I (e_P s5 5 (A.2.2 1).length (some (sn s))) 0 3 (nI ((A.2.2 1).length + 1))) (sn s) k = sI s5 (sn s) k := fun k => by
    rw [rII_ne (Or.inl (by omega))]; rfl
  have wp7 : sP (e_I (e_P s5 5 (A.2.2 1).length (some (sn s))) 0 3 (nI ((A.2.2 1).length + 1))) (sn s) 2 = tg := by
    show sP (e_P s5 5 (A.2.2 1).length (some (sn s))) (sn s) 2 = tg
    rw [rPP_ne (by omega)]; exact wp
  have rr := RS_newCm h r g7 (by omega) (so := so) (ad := ad) (pt := pt) (mu := mu) hso (UQ_app (rs_c r).2.2 (fun j hj => hfr j hj)) y1 y2 yk rII_eq (by show sP (e_P s5 5 _ _) 5 _ = _; exact rPP_eq) ((sI7 0).trans w0) ((sI7 1).trans w1) ((sI7 3).trans w3) ((sI7 4).trans w4) (by rw [wp7]; exact v2)
  refine ⟨_, ?_, ⟨h7, fun a k h8 h9 => exI g7 (sh_lt h h9) (by simp [xNc]; omega)⟩, rr, fun z => (exI g7 (sh_lt h (by decide)) (by simp [xNc])).trans z⟩
  rw [b1S, sP5, b1S, gI_0 h6, b1S, e03, nI_1, pI_0 h6, b1S, gI_0 h7, b1S, rII_eq, nI_pred]
theorem tab2 : ∀ k, k < 3 → t_I tb_2 (nI k) = some (nI ([0, 1, 4].getD k 0)) ∧ soC (nI k) = nI ([0, 1, 4].getD k 0) := by decide +kernel
set_option maxRecDepth 100000 in
theorem S_cmd {D : Nat} {s : eS} (h : SH s) {A : aS} (r : RS false D s A) (so ad pt : Int32) {mu : Int32} (hm : mu = 0 ∨ mu = 1) : ∃ s', mX11_command 0 so ad pt mu s = some ((a_command A so ad pt mu).1, s') ∧ kM s s' ∧ RS false D s' (a_command A so ad pt mu).2 ∧ (sI s 14 4 = 0 → sI s' 14 4 = 0) := by
  obtain ⟨hf, hfd⟩ := S_isFree h r ad
  have bad : ∃ s', mX11_command_17 s = some ((-1 : Int32), s') ∧ kM s s' ∧ RS false D s' A ∧ (sI s 14 4 = 0 → sI s' 14 4 = 0) := ⟨s, rfl, kM_rf h, r, fun z => z⟩
  unfold mX11_command a_command cmOK
  rcases inL_cases so (lo := 0) (hi := 2) (by omega) (by omega) with ⟨c, e⟩ | ⟨ks, hks, rfl, e⟩
  · rw [if_pos c, show inL so.toInt64 0 2 = 0 from e, if_pos rfl, if_pos rfl]
    exact bad
  rw [if_neg (nI_pos hks), show inL (nI ks).toInt64 0 2 = _ from e]
  by_cases c3 : 3 ≤ ks
  · rw [if_pos (c_le (c := 3) 3 c3), if_neg (show ¬ (0 ≤ ks ∧ ks ≤ 2) by omega), if_pos rfl, if_pos rfl]
    exact bad
  rw [if_neg (c_nle (c := 3) 3 (by omega)), if_pos (show 0 ≤ ks ∧ ks ≤ 2 by omega), if_neg (by decide : ¬ (1 : Int32) = 0), oK_0 h, b1S, hf, b2S]
  by_cases cf : frF A ad = 0
  · rw [if_pos cf, if_pos cf, if_pos rfl, if_pos rfl]
    exact bad
  have hfree := fun z => cf ((frF_0 A ad).mpr z)
  have hfr : ∀ j, j < (A.2.2 1).length → ¬ pg (A.2.2 1) j 1 = ad := (ix_len _ _).mp (Classical.byContradiction (fun z => hfree (fun y => z y.2.2)))
  rw [if_neg cf, if_neg cf, if_neg (by decide : ¬ (1 : Int32) = 0), gP_0_1 h, b1S, b1S, oK_2 h, b1S]
  by_cases cp : pt = -1
  · have at0 : mX7_at 2 pt s = some (none, s) := by
      unfold mX7_at mX7_at_18 mX7_at_28
      rw [cp, if_pos (by decide)]
    obtain ⟨s1, f1, k1, r1, o1⟩ := S_54 h r (so := ks) (by omega) hfr pt hm (tg := none) (Or.inl ⟨cp, rfl⟩)
    rw [at0, b2S, if_pos cp, if_pos cp, if_neg (by decide : ¬ (1 : Int32) = 0)]
    exact ⟨s1, f1, k1, r1, o1⟩
  · rcases S_ptAt h r pt with ⟨e0, f0⟩ | ⟨p, hp, rfl, e0, f0⟩
    · rw [f0, b2S, if_neg cp, if_neg cp, if_pos rfl, if_pos e0, if_pos rfl]
      exact bad
    · have ko := ((rs_d r).1.1 p hp).2
      have h24 := (rs_d r).2.2.2.1
      have q0 : pg (A.2.2 0) p 0 = sI s (pA s p) 0 := (pg_pt (rs_p r) hp 0)
      rw [f0, b2S, if_neg cp, if_neg cp, if_neg (by simp), b1S, koI ko, b1S, (tab2 ks (by omega)).1, b1S, e0, if_neg (by decide : ¬ (1 : Int32) = 0), nI_clamp (by omega), (tab2 ks (by omega)).2, q0]
      by_cases cs : sI s (pA s p) 0 = nI ([0, 1, 4].getD ks 0)
      · obtain ⟨s1, f1, k1, r1, o1⟩ := S_54 h r (so := ks) (by omega) hfr (nI p) hm (tg := some (pA s p)) (Or.inr ⟨p, hp, rfl, rfl, cs⟩)
        rw [if_pos cs, if_pos cs, if_neg (by decide : ¬ (1 : Int32) = 0)]
        exact ⟨s1, f1, k1, r1, o1⟩
      · rw [if_neg cs, if_neg cs, if_pos rfl]
        exact bad
