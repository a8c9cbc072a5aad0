/-! ===== a place for one more ANSWER ===== -/
section
variable {X : Nat → Nat → Bool} {s s' : eS}
theorem SP_agp {q : List (List Int32)} (g : ag X s s') (x : SP s q) (h1 : X 2 2 = false) (h2 : ∀ p, p < q.length → ∀ k, X (pA s p) k = false) : SP s' q := by
  refine ⟨(g.2 _ _ h1).trans x.1, fun p hp => ?_, fun j hj => by rw [ag_P g, pA_ag g]; exact x.2.2 j hj⟩
  have hx := h2 p hp
  rw [ptS_ag g hx]
  refine ⟨(x.2.1 p hp).1, ?_⟩
  unfold poS
  rw [pA_ag g, g.2 _ _ (hx _), g.2 _ _ (hx _), g.2 _ _ (hx _)]
  exact (x.2.1 p hp).2
theorem SC_agp {n : Nat} {q : List (List Int32)} (g : ag X s s') (x : SC s n q) (h1 : X 0 3 = false) (h2 : ∀ c, c < q.length → ∀ k, X (cA s c) k = false) (h3 : ∀ p, p < n → X (pA s p) 0 = false) : SC s' n q :=
  ⟨(g.2 _ _ h1).trans x.1, fun c hc => cmS_ag g (h2 c hc) h3 (x.2.1 c hc), x.2.2⟩
theorem SE_agp {n : Nat} {qs qw : List (List Int32)} (g : ag X s s') (x : SE s n qs qw) (h1 : X 8 4 = false ∧ X 8 5 = false ∧ X 8 6 = false) (h2 : ∀ p, p < n → X (pA s p) 0 = false ∧ X (pA s p) 1 = false) : SE s' n qs qw := by
  obtain ⟨st, a, b, c, d, e, f⟩ := x
  exact ⟨st, a, (g.2 _ _ h1.1).trans b, (g.2 _ _ h1.2.1).trans c, (g.2 _ _ h1.2.2).trans d, e, fun i hi => evS_ag g h2 (f i hi)⟩
end
theorem rPP_eq {s : eS} {a k : Nat} {x : Option Nat} : sP (e_P s a k x) a k = x := by
  show e_u (sP s) a k x a k = x
  exact eu_eq
theorem rPP_ne {s : eS} {a k b j : Nat} {x : Option Nat} (h : ¬ (b = a ∧ j = k)) : sP (e_P s a k x) b j = sP s b j := by
  show e_u (sP s) a k x b j = _
  exact eu_ne h
theorem ko_mg {s : eS} {t a b r : Nat} (k : KO s t a) (g : MG s b r) (ht : t ≠ 104 ∧ t ≠ 1) : a ≠ b ∧ a ≠ r := by
  refine ⟨fun e => ?_, fun e => ?_⟩
  · have := k.1.2
    rw [e, g.1.2] at this
    exact ht.1 this.symm
  · have := k.1.2
    rw [e, g.2.2.1.2] at this
    exact ht.2 this.symm
theorem mg_mg {s : eS} {a r b q : Nat} (g : MG s a r) (g2 : MG s b q) : a ≠ q := fun e => by
  have := g.1.2
  rw [e, g2.2.2.1.2] at this
  cases this
theorem cnt_one {f g : Nat → Bool} {i : Nat} (hf : f i = true) (hg : g i = false) (he : ∀ j, j ≠ i → g j = f j) : ∀ n, i < n → ((List.range n).filter g).length + 1 = ((List.range n).filter f).length := by
  have eqf : ∀ n, n ≤ i → (List.range n).filter g = (List.range n).filter f := fun n hn => List.filter_congr (fun j hj => he j (by have := List.mem_range.mp hj; omega))
  intro n
  induction n with
  | zero => intro h; omega
  | succ n ih =>
    intro h
    rw [List.range_succ, List.filter_append, List.filter_append, List.length_append, List.length_append]
    by_cases c : i = n
    · subst c
      rw [eqf i (Nat.le_refl _), List.filter_cons_of_neg (by rw [hg]; decide), List.filter_cons_of_pos hf]
      rfl
    · have := ih (by omega)
      have e : [n].filter g = [n].filter f := by
        rw [List.filter_cons, List.filter_cons, he n (fun z => c z.symm)]
        rfl
      rw [e]
      omega
set_option maxRecDepth 100000 in
theorem S_newMsg {s : eS} (h : SH s) (hn : sn s + 2 ≤ 100000) {i : Nat} (hi : i < 60) (k : eS → Option (Option Nat × eS)) : ∃ s3, (b2 (n_O s 104 2) fun q12 s13 => b1 (mX4_init q12 s13) fun s14 => b1 (some 15) fun a16 => b1 (s_P s14 6 104 a16 (nI i) q12) k) = k s3 ∧ SH s3 ∧ EX (fun a k => a == 15 && k == i) s s3 ∧ sP s3 15 i = some (sn s) ∧ MG s3 (sn s) (sn s + 1) ∧ sn s3 = sn s + 2 ∧ ss s3 = ss s + 251 := by
  have h58 := h.1.1
  have g1 : EX (fun a k => a == 15 && k == i) s (e_new s 104 0 2) := EX_new _ _ _
  have g2 : EX (fun a k => a == 15 && k == i) s (e_new (e_new s 104 0 2) 1 249 249) := EX_tr g1 (EX_new _ _ _)
  have g3 : EX (fun a k => a == 15 && k == i) s (e_P (e_new (e_new s 104 0 2) 1 249 249) (sn s) 0 (some (sn s + 1))) := EX_P g2 (Or.inr (Nat.le_refl _))
  have g4 : EX (fun a k => a == 15 && k == i) s (e_P (e_P (e_new (e_new s 104 0 2) 1 249 249) (sn s) 0 (some (sn s + 1))) 15 i (some (sn s))) := EX_P g3 (Or.inl (by simp))
  have kb : sK (e_new (e_new s 104 0 2) 1 249 249) (sn s) = 104 := by
    show (if sn s = sn s + 1 then 1 else if sn s = sn s then 104 else _) = 104
    rw [if_neg (by omega), if_pos rfl]
  have kr : sK (e_new (e_new s 104 0 2) 1 249 249) (sn s + 1) = 1 := if_pos rfl
  have h3 : SH (e_P (e_new (e_new s 104 0 2) 1 249 249) (sn s) 0 (some (sn s + 1))) := SH_ex (P := fun a k => a == 15) (EX_mono g3 (fun a k hk => by simp at hk ⊢; intro e; exact absurd e hk)) h hn (by decide)
  refine ⟨_, ?_, SH_P h3 (by
    have : ∀ q ∈ pL, q.1 ≠ 15 := by decide
    exact fun hm => this _ hm rfl), g4, rPP_eq, ⟨⟨by show sn s < sn s + 1 + 1; omega, kb⟩, ?_, ⟨by show sn s + 1 < sn s + 1 + 1; omega, kr⟩, if_pos rfl⟩, rfl, rfl⟩
  · unfold n_O mX4_init n_A
    rw [if_pos (by omega), b2S, if_pos ⟨by show sn s + 1 < _; omega, by decide, by decide⟩, b2S, show (249 : Int32).toNatClampNeg = 249 from rfl, show sn (e_new s 104 0 2) = sn s + 1 from rfl]
    unfold p_P
    rw [if_pos ⟨by show sn s < sn s + 1 + 1; omega, kb⟩, b1S, b1S, b1S]
    unfold s_P
    rw [if_pos ⟨sh_k h3 (by decide) rfl, ⟨nI_pos (by omega), by rw [nI_clamp (by omega), (h3.2.1 15 (by decide)).2]; exact hi⟩, ⟨by show sn s < sn s + 1 + 1; omega, kb⟩⟩, b1S, nI_clamp (by omega)]
  · rw [rPP_ne (by omega), rPP_eq]
theorem RS_newMsg {t : Bool} {C : Nat} {s s' : eS} (h : SH s) {A : aS} (r : RS t C s A) {i : Nat} (hi : i < 60) (hn : sP s 15 i = none) (g : EX (fun a k => a == 15 && k == i) s s') (hb : sP s' 15 i = some (sn s)) (gm : MG s' (sn s) (sn s + 1)) (e1 : sn s' = sn s + 2) (e2 : ss s' = ss s + 251) : RS t C s' A := by
  have h58 := h.1.1
  have oth : ∀ j, j ≠ i → sP s' 15 j = sP s 15 j := fun j hj => exP g (sh_lt h (by decide)) (by simp [hj])
  have om : ∀ j, j ≠ i → mA s' j = mA s j := fun j hj => by unfold mA; rw [oth j hj]
  have d := rs_d r
  have onr : ∀ j, j < 60 → j ≠ i → ¬ sP s 15 j = none → rA s' j = rA s j ∧ mA s j < sn s ∧ rA s j < sn s := fun j hj hji hnn => by
    have h4 := DA_at d.2.2.1 hj hnn
    refine ⟨?_, h4.2.1.1.1, h4.2.1.2.2.1.1⟩
    unfold rA
    rw [om j hji, exP g h4.2.1.1.1 (by simp; intro e; omega)]
  have mi : mA s' i = sn s := by unfold mA; rw [hb]; rfl
  have ri : rA s' i = sn s + 1 := by unfold rA; rw [mi, gm.2.1]; rfl
  have hnul : nul s' + 1 = nul s := cnt_one (f := fun i => (sP s 15 i).isNone) (g := fun i => (sP s' 15 i).isNone) (i := i) (by rw [hn]; rfl) (by rw [hb]; rfl) (fun j hj => by rw [oth j hj]) 60 hi
  have da : DA s' := by
    refine ⟨fun j hj => ?_, fun j k hj hk c1 c2 e => ?_⟩
    · by_cases c : j = i
      · subst c
        rw [mi, ri]
        exact Or.inr ⟨hb, gm, by omega, by omega⟩
      · rw [oth j c]
        rcases d.2.2.1.1 j hj with z | z
        · exact Or.inl z
        · have hnn : ¬ sP s 15 j = none := by rw [z.1]; exact fun z => by cases z
          rw [om j c, (onr j hj c hnn).1]
          exact Or.inr ⟨z.1, MG_ex g z.2.1 (by simp; intro e; omega), z.2.2⟩
    · by_cases cj : j = i
      · by_cases ck : k = i
        · rw [cj, ck]
        · rw [oth k ck] at c2
          have q := onr k hk ck c2
          rw [cj, mi, ri, om k ck, q.1] at e
          omega
      · rw [oth j cj] at c1
        have q := onr j hj cj c1
        by_cases ck : k = i
        · rw [ck, mi, ri, om j cj, q.1] at e
          omega
        · rw [oth k ck] at c2
          have q2 := onr k hk ck c2
          rw [om j cj, om k ck, q.1, q2.1] at e
          exact d.2.2.1.2 j k hj hk c1 c2 e
  have dz : DZ s' (A.2.2 0).length (A.2.2 1).length := by
    obtain ⟨z1, z2, z3, z4⟩ := d.2.2.2
    exact ⟨z1, z2, by omega, by omega⟩
  have dd : DS s' (A.2.2 0).length (A.2.2 1).length := ⟨DP_ex g h d.1 (fun _ _ => rfl), DC_ex g h d.2.1 (fun _ _ => rfl), da, dz⟩
  have sa : SA s' (A.2.2 4) := SA_ex g h d.2.2.1 (rs_a r) ⟨rfl, rfl⟩ (fun k hk => by
    have : k ≠ i := fun e => hk (by rw [e]; exact hn)
    simp [this]) (fun a k hx => by simp <;> omega)
  have ii : SI s' A := SI_ex g h (rs_i r) (fun k hk _ => by
    have : ∀ k, k < 26 → (sc k).1 ≠ 15 := by decide
    simp [this k hk]) rfl
  exact ⟨dd, ii, (have q := rs_o r; SO_ex g h q ⟨rfl, rfl⟩ (fun _ => rfl)), (have q := rs_x r; SXt_ex g h q ⟨rfl, rfl, rfl, rfl⟩ (fun _ => rfl)), (have q := rs_l r; SL_ex g h q ⟨rfl, rfl, rfl, rfl⟩ (fun _ _ => rfl)), (have q := rs_p r; SP_ex g h (rs_d r).1 q rfl (fun _ => ⟨rfl, rfl⟩) (fun a k hx => by simp <;> omega)), (have q := rs_c r; SC_ex g h (rs_d r).1 (rs_d r).2.1 q rfl (fun _ _ => rfl) (fun _ _ => rfl) (fun a k hx => by simp <;> omega)), (have q := rs_n r; SN_ex g h q ⟨rfl, rfl⟩ (fun _ => ⟨rfl, rfl⟩)), (have q := rs_e r; SE_ex g h (rs_d r).1 q ⟨rfl, rfl, rfl⟩ (fun _ => ⟨rfl, rfl, rfl⟩) (fun _ _ => rfl) (fun a k hx => by simp <;> omega)), sa, (have q := rs_m r; SM_ex g h q ⟨rfl, rfl, rfl⟩ (fun _ => ⟨rfl, rfl, rfl, rfl, rfl⟩)), (have q := rs_z r; q), (have q := rs_f r; q)⟩
abbrev xFl (a r : Nat) : Nat → Nat → Bool := fun b k => (b == 14 && k == 3) || (b == a && k == 1) || b == r
theorem RS_fill {t : Bool} {C : Nat} {s s' : eS} {A : aS} (r : RS t C s A) {a rr : Nat} (gm : MG s a rr) (h58 : 58 ≤ a ∧ 58 ≤ rr) (g : ag (xFl a rr) s s') {q : List (List Int32)} (sa : SA s' q) (h7 : A.1 7 ≠ 0) : RS t C s' (uq A 4 q) := by
  have d := rs_d r
  have px : ∀ p, p < (A.2.2 0).length → ∀ k, xFl a rr (pA s p) k = false := fun p hp k => by
    have := ko_mg (d.1.1 p hp).2 gm (by decide)
    have h2 := (d.1.1 p hp).2.2
    simp [xFl, this.1, this.2]; omega
  have cx : ∀ p, p < (A.2.2 1).length → ∀ k, xFl a rr (cA s p) k = false := fun p hp k => by
    have := ko_mg (d.2.1.1 p hp).2 gm (by decide)
    have h2 := (d.2.1.1 p hp).2.2
    simp [xFl, this.1, this.2]; omega
  have low : ∀ b k, b < 58 → (b ≠ 14 ∨ k ≠ 3) → xFl a rr b k = false := fun b k hb hk => by
    simp [xFl]; omega
  have i : SI s' A := SI_ag g (rs_i r) (fun k hk _ => low _ _ ((by decide : ∀ k, k < 26 → (sc k).1 < 58) k hk) ((by decide : ∀ k, k < 26 → (sc k).1 ≠ 14 ∨ (sc k).2 ≠ 3) k hk)) (low _ _ (by omega) (by omega))
  have o : SO_ s' (A.2.1 0) := SO_ag g (rs_o r) ⟨low _ _ (by omega) (by omega), low _ _ (by omega) (by omega)⟩ (fun _ => low _ _ (by omega) (by omega))
  have x : SXt t s' (A.2.1 1) := SXt_ag g (rs_x r) ⟨low _ _ (by omega) (by omega), low _ _ (by omega) (by omega), low _ _ (by omega) (by omega), low _ _ (by omega) (by omega)⟩ (fun _ => low _ _ (by omega) (by omega))
  have l : SL s' A := SL_ag g (rs_l r) ⟨low _ _ (by omega) (by omega), low _ _ (by omega) (by omega), low _ _ (by omega) (by omega)⟩
  have p : SP s' (A.2.2 0) := SP_agp g (rs_p r) (low _ _ (by omega) (by omega)) px
  have c : SC s' (A.2.2 0).length (A.2.2 1) := SC_agp g (rs_c r) (low _ _ (by omega) (by omega)) cx (fun p hp => px p hp 0)
  have n : SN s' (A.2.2 5) := SN_ag g (rs_n r) ⟨low _ _ (by omega) (by omega), low _ _ (by omega) (by omega)⟩ (fun _ => ⟨low _ _ (by omega) (by omega), low _ _ (by omega) (by omega)⟩)
  have e : SE s' (A.2.2 0).length (A.2.2 2) (A.2.2 3) := SE_agp g (rs_e r) ⟨low _ _ (by omega) (by omega), low _ _ (by omega) (by omega), low _ _ (by omega) (by omega)⟩ (fun p hp => ⟨px p hp 0, px p hp 1⟩)
  have m : SM s' := SM_ag g (rs_m r) ⟨low _ _ (by omega) (by omega), low _ _ (by omega) (by omega), low _ _ (by omega) (by omega)⟩ (fun _ => ⟨low _ _ (by omega) (by omega), low _ _ (by omega) (by omega), low _ _ (by omega) (by omega), low _ _ (by omega) (by omega), low _ _ (by omega) (by omega)⟩)
  exact ⟨DS_ag g d, i, o, x, l, p, c, n, e, sa, m, ⟨fun z => absurd z h7, (rs_z r).2⟩, (have q := rs_f r; q)⟩
/-- while the rest of an I FRAME is taken: an ANSWER may have had no room -/
def RT (C : Nat) (s : eS) (A : aS) : Prop := (sI s 14 4 = 0 ∧ RS true C s A ∧ A.1 7 ≠ 0) ∨ (sI s 14 4 = 1 ∧ ∃ A0, RS true C s A0 ∧ (A0.2.2 4).length = 60 ∧ A = a_close A0 7)
def PUT (C : Nat) (s : eS) (A : aS) (a rr : Nat) (s' : eS) : Prop := SH s' ∧ kS s s' ∧ MG s' a rr ∧ MT s' a rr [] ∧ ((a = 16 ∧ rr = 17) ∨ (58 ≤ a ∧ 58 ≤ rr)) ∧ ((∀ p, pA s' p = pA s p) ∧ ∀ c, cA s' c = cA s c) ∧ (∃ A2, RS true C s' A2 ∧ A2.2.2 0 = A.2.2 0 ∧ A2.1 0 = A.1 0 ∧ A2.1 14 = A.1 14) ∧ ∀ s'' l, ag (xMs a rr) s' s'' → MT s'' a rr l → RT C s'' (a_wait A l)
set_option maxRecDepth 100000 in
/-- there is no room -/
theorem S_full {C : Nat} {s : eS} (h : SH s) {A A0 : aS} (r : RS true C s A0) (h60 : (A0.2.2 4).length = 60) (hA : ∀ l, a_wait A l = a_close A0 7) (e0 : A0.2.2 0 = A.2.2 0 ∧ A0.1 0 = A.1 0 ∧ A0.1 14 = A.1 14) : ∃ s', mX0_next 14 s = some (some 16, s') ∧ PUT C s A 16 17 s' := by
  obtain ⟨st4, -, n2, n4, l4, -⟩ := rs_a r
  rw [h60] at n4
  have h1 := SH_I (a := 14) (k := 4) (x := 1) h
  obtain ⟨f1, m1⟩ := S_clear (MG_16 h1)
  have h2 := SH_I (a := 16) (k := 1) (x := 0) h1
  have fin : ∀ s'' l, ag (xMs 16 17) (e_I (e_I s 14 4 1) 16 1 0) s'' → MT s'' 16 17 l → RS true C s'' A0 ∧ sI s'' 14 4 = 1 := by
    intro s'' l g m
    have g' : ag (fun a k => (a == 14 && k == 4) || (a == 16 && k == 1) || a == 17) s s'' := ag_tr (ag_I (ag_I ag_rf rfl) rfl) (ag_mono g (fun a k hx => by simp [xMs] at hx ⊢; omega))
    have mm : SM s'' := by
      obtain ⟨⟨l1, m1⟩, -, ⟨l3, m3⟩, d⟩ := rs_m r
      exact ⟨⟨l1, MT_ag g' m1 rfl (fun _ => rfl)⟩, ⟨l, m⟩, ⟨l3, MT_ag g' m3 rfl (fun _ => rfl)⟩, SG_at d (funext fun k => g'.2 _ _ rfl) (funext fun k => g'.2 _ _ rfl)⟩
    refine ⟨⟨(have q := rs_d r; DS_ag g' q), (have q := rs_i r; SI_ag g' q (by decide) rfl), (have q := rs_o r; SO_ag g' q ⟨rfl, rfl⟩ (fun _ => rfl)), (have q := rs_x r; SXt_ag g' q ⟨rfl, rfl, rfl, rfl⟩ (fun _ => rfl)), (have q := rs_l r; SL_ag g' q ⟨rfl, rfl, rfl⟩), (have q := rs_p r; SP_ag g' (rs_d r).1 q rfl (fun a k hx => by simp <;> omega)), (have q := rs_c r; SC_ag g' (rs_d r).1 (rs_d r).2.1 q rfl (fun a k hx => by simp <;> omega)), (have q := rs_n r; SN_ag g' q ⟨rfl, rfl⟩ (fun _ => ⟨rfl, rfl⟩)), (have q := rs_e r; SE_ag g' (rs_d r).1 q ⟨rfl, rfl, rfl⟩ (fun a k hx => by simp <;> omega)), (have q := rs_a r; SA_ag g' (rs_d r).2.2.1 q ⟨rfl, rfl⟩ (fun a k hx => by simp <;> omega)), mm, (have q := rs_z r; q), (have q := rs_f r; q)⟩, ?_⟩
    rw [g.2 14 4 rfl, rII_ne (Or.inl (by decide)), rII_eq]
  refine ⟨e_I (e_I s 14 4 1) 16 1 0, ?_, h2, kS_I (kS_I (kS_rf h) rfl) rfl, MG_16 h2, m1, Or.inl ⟨rfl, rfl⟩, ⟨fun _ => rfl, fun _ => rfl⟩, ⟨A0, (fin _ [] ag_rf m1).1, e0⟩, fun s'' l g m => ?_⟩
  · unfold mX0_next mX0_next_16
    rw [gI_14 h, b1S, n4, if_neg (by decide), b1S, if_neg (by decide), pZ_14 h (Or.inr rfl), b1S, gP_14_1 h1, b1S, b1S, oK_16 h1, b1S, f1, b1S, gP_14_1 h2, b1S]
  · rw [hA l]
    obtain ⟨q1, q2⟩ := fin s'' l g m
    exact Or.inr ⟨q2, A0, q1, h60, rfl⟩
set_option maxRecDepth 100000 in
theorem S_room {C : Nat} {s : eS} (h : SH s) {A : aS} (r : RS true C s A) (h4 : sI s 14 4 = 0) (h7 : A.1 7 ≠ 0) (hl : (A.2.2 4).length < 60) : ∃ a rr s', mX0_next 14 s = some (some a, s') ∧ PUT C s A a rr s' := by
  have hA : ∀ l, a_wait A l = uq A 4 (A.2.2 4 ++ [l]) := fun l => by
    unfold a_wait
    rw [if_neg h7, if_neg (by omega)]
  -- from a store in which the place has a row
  have key : ∀ (s1 : eS) (st : Nat), SH s1 → RS true C s1 A → kS s s1 → sI s1 14 4 = 0 → (∀ p, pA s1 p = pA s p) → (∀ c, cA s1 c = cA s c) → st < 60 → sI s1 14 3 = nI (A.2.2 4).length → sI s1 14 2 = nI st → (∀ i, i < (A.2.2 4).length → ¬ sP s1 15 ((st + i) % 60) = none ∧ MT s1 (mA s1 ((st + i) % 60)) (rA s1 ((st + i) % 60)) ((A.2.2 4).getD i [])) → ¬ sP s1 15 ((st + (A.2.2 4).length) % 60) = none →
      ∃ a rr s', mX0_next_68 14 (nI ((st + (A.2.2 4).length) % 60)) s1 = some (some a, s') ∧ PUT C s A a rr s' := by
    intro s1 st h1 r1 k1 o1 hp hc hst e3 e2 hq hnn
    have d := rs_d r1
    have him : (st + (A.2.2 4).length) % 60 < 60 := Nat.mod_lt _ (by omega)
    generalize hpl : (st + (A.2.2 4).length) % 60 = i at *
    have h4' := DA_at d.2.2.1 him hnn
    have hi : ¬ nI i < 0 ∧ (nI i).toNatClampNeg < 60 := nIc (by omega) him
    have h2 := SH_I (a := 14) (k := 3) (x := nI ((A.2.2 4).length + 1)) h1
    have gm2 : MG (e_I s1 14 3 (nI ((A.2.2 4).length + 1))) (mA s1 i) (rA s1 i) := MG_I h4'.2.1
    obtain ⟨f1, m1⟩ := S_clear gm2
    have h3 := SH_I (a := mA s1 i) (k := 1) (x := 0) h2
    have gm3 := MG_I (b := mA s1 i) (k := 1) (x := 0) gm2
    have fin : ∀ s'' l, ag (xMs (mA s1 i) (rA s1 i)) (e_I (e_I s1 14 3 (nI ((A.2.2 4).length + 1))) (mA s1 i) 1 0) s'' → MT s'' (mA s1 i) (rA s1 i) l → RS true C s'' (uq A 4 (A.2.2 4 ++ [l])) ∧ sI s'' 14 4 = 0 := by
      intro s'' l g m
      have g0 : ag (xFl (mA s1 i) (rA s1 i)) s1 (e_I (e_I s1 14 3 (nI ((A.2.2 4).length + 1))) (mA s1 i) 1 0) := ag_I (ag_I ag_rf (by simp [xFl])) (by simp [xFl])
      have g' : ag (xFl (mA s1 i) (rA s1 i)) s1 s'' := ag_tr g0 (ag_mono g (fun a k hx => by simp [xMs, xFl] at hx ⊢; omega))
      have x14 : ∀ k, xMs (mA s1 i) (rA s1 i) 14 k = false := fun k => by have := h4'.2.2; simp [xMs]; omega
      have sa : SA s'' (A.2.2 4 ++ [l]) := by
        refine ⟨st, hst, ?_, ?_, by rw [List.length_append]; exact hl, fun j hj => ?_⟩
        · rw [g.2 _ _ (x14 2), rII_ne (Or.inl (by omega)), rII_ne (Or.inr (by decide))]; exact e2
        · rw [g.2 _ _ (x14 3), rII_ne (Or.inl (by omega)), rII_eq, List.length_append]; rfl
        · rw [ag_P g', mA_ag g', rA_ag g']
          rw [List.length_append] at hj
          by_cases c : j < (A.2.2 4).length
          · have q := hq j c
            have jm : (st + j) % 60 < 60 := Nat.mod_lt _ (by omega)
            have hji : (st + j) % 60 ≠ i := by omega
            have q4 := DA_at d.2.2.1 jm q.1
            have n1 : mA s1 ((st + j) % 60) ≠ mA s1 i := fun e => hji (d.2.2.1.2 _ _ jm him q.1 hnn (Or.inl e))
            have n2 : rA s1 ((st + j) % 60) ≠ rA s1 i := fun e => hji (d.2.2.1.2 _ _ jm him q.1 hnn (Or.inr e))
            have n3 := mg_mg q4.2.1 h4'.2.1
            have n4 := mg_mg h4'.2.1 q4.2.1
            rw [gD, List.getElem?_append_left c, ← gD]
            refine ⟨q.1, MT_ag g' q.2 ?_ (fun k => ?_)⟩
            · simp [xFl, n1, n3] <;> omega
            · simp [xFl, n2, Ne.symm n4] <;> omega
          · have e : j = (A.2.2 4).length := by simp at hj; omega
            subst e
            rw [hpl, gD, List.getElem?_append_right (Nat.le_refl _), Nat.sub_self]
            exact ⟨hnn, m⟩
      refine ⟨RS_fill r1 h4'.2.1 h4'.2.2 g' sa h7, ?_⟩
      rw [g.2 _ _ (x14 4), rII_ne (Or.inl (by omega)), rII_ne (Or.inr (by decide))]; exact o1
    refine ⟨_, _, _, ?_, h3, kS_tr k1 (kS_I (kS_I (kS_rf h1) rfl) (by have := h4'.2.2; simp <;> omega)), gm3, m1, Or.inr h4'.2.2, ⟨fun p => hp p, fun c => hc c⟩, ⟨_, (fin _ [] ag_rf m1).1, rfl, rfl, rfl⟩, fun s'' l g m => ?_⟩
    · unfold mX0_next_68
      rw [gI_14 h1, b1S, e3, nI_1, pI_14 h1, b1S, gP_14_0 h2, b1S, b1S, aP_15 h2 hi, b1S, nI_clamp (by omega), show sP (e_I s1 14 3 (nI ((A.2.2 4).length + 1))) 15 i = some (mA s1 i) from h4'.1, b1S, mgK gm2, b1S, f1, b1S, gP_14_0 h3, b1S, b1S, aP_15 h3 hi, b1S, nI_clamp (by omega), show sP (e_I (e_I s1 14 3 (nI ((A.2.2 4).length + 1))) (mA s1 i) 1 0) 15 i = some (mA s1 i) from h4'.1]
    · rw [hA l]
      obtain ⟨q1, q2⟩ := fin s'' l g m
      exact Or.inl ⟨q2, q1, h7⟩
  obtain ⟨st, hst, n2, n4, l4, hq⟩ := rs_a r
  have him : (st + (A.2.2 4).length) % 60 < 60 := Nat.mod_lt _ (by omega)
  have hi : ¬ nI ((st + (A.2.2 4).length) % 60) < 0 ∧ (nI ((st + (A.2.2 4).length) % 60)).toNatClampNeg < 60 := nIc (by omega) him
  have e60 : (nI st + nI (A.2.2 4).length) - (nI st + nI (A.2.2 4).length) / (60 : Int32) * (60 : Int32) = nI ((st + (A.2.2 4).length) % 60) := by
    rw [nI_add]; exact pk_rem (d := 60) (by omega) (by omega) (by omega)
  unfold mX0_next
  rw [gI_14 h, b1S, n4, if_neg (nI_pos (by omega)), b1S, if_pos (lt_c (c := 60) 60 hl), gI_14 h, b1S, b1S, gP_14_0 h, b1S, b1S, n2, e60, aP_15 h hi, b1S, nI_clamp (by omega)]
  by_cases c : sP s 15 ((st + (A.2.2 4).length) % 60) = none
  · rw [if_pos c, b1S]
    have hz := (rs_d r).2.2.2.2.2
    obtain ⟨s3, f3, h3, g3, p3, m3, z1, z2⟩ := S_newMsg h (by omega) him (fun s17 => mX0_next_68 14 (nI ((st + (A.2.2 4).length) % 60)) s17)
    rw [f3]
    have r3 := RS_newMsg h r him c g3 p3 m3 z1 z2
    have l14 : 14 < sn s := sh_lt h (by decide)
    have sq : ∀ j, ¬ sP s 15 j = none → j ≠ (st + (A.2.2 4).length) % 60 := fun j hj e => hj (by rw [e]; exact c)
    refine key s3 st h3 r3 (kS_ex g3 h h3 (fun a k hx => by simp at hx ⊢; omega)) ((exI g3 l14 rfl).trans h4) (fun p => pA_ex g3 h rfl) (fun p => cA_ex g3 h rfl) hst ((exI g3 l14 rfl).trans n4) ((exI g3 l14 rfl).trans n2) (fun i hi2 => ?_) (by rw [p3]; exact fun z => by cases z)
    have q := hq i hi2
    have jm : (st + i) % 60 < 60 := Nat.mod_lt _ (by omega)
    have nj := sq _ q.1
    have q4 := DA_at (rs_d r).2.2.1 jm q.1
    have ep : sP s3 15 ((st + i) % 60) = sP s 15 ((st + i) % 60) := exP g3 (sh_lt h (by decide)) (by simp [nj])
    have em : mA s3 ((st + i) % 60) = mA s ((st + i) % 60) := by unfold mA; rw [ep]
    have er : rA s3 ((st + i) % 60) = rA s ((st + i) % 60) := by
      unfold rA; rw [em, exP g3 q4.2.1.1.1 (by simp; intro e; omega)]
    rw [ep, em, er]
    exact ⟨q.1, MT_ex g3 q4.2.1.1.1 q4.2.1.2.2.1.1 q.2 (by simp; intro e; omega) (fun k => by simp; intro e; omega)⟩
  · rw [if_neg c]
    exact key s st h r (kS_rf h) h4 (fun _ => rfl) (fun _ => rfl) hst n4 n2 hq c
theorem S_put {C : Nat} {s : eS} (h : SH s) {A : aS} (r : RT C s A) : ∃ a rr s', mX0_next 14 s = some (some a, s') ∧ PUT C s A a rr s' := by
  rcases r with ⟨h4, r, h7⟩ | ⟨h4, A0, r, h60, rfl⟩
  · by_cases c : (A.2.2 4).length < 60
    · exact S_room h r h4 h7 c
    · obtain ⟨st4, -, -, -, l4, -⟩ := rs_a r
      have e60 : (A.2.2 4).length = 60 := by omega
      obtain ⟨s1, f1, p1⟩ := S_full h (A := A) r e60 (fun l => by unfold a_wait; rw [if_neg h7, if_pos e60]) ⟨rfl, rfl, rfl⟩
      exact ⟨16, 17, s1, f1, p1⟩
  · obtain ⟨s1, f1, p1⟩ := S_full h (A := a_close A0 7) r h60 (fun l => by unfold a_wait; exact if_pos rfl) ⟨rfl, rfl, rfl⟩
    exact ⟨16, 17, s1, f1, p1⟩
