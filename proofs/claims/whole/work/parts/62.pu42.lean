/-! ===== stores that came to hold more: cells that were there agree outside of P ===== -/
def EX (P : Nat → Nat → Bool) (s s' : eS) : Prop := sn s ≤ sn s' ∧ ∀ a, a < sn s → (sK s' a = sK s a ∧ sN s' a = sN s a) ∧ ∀ k, P a k = false → sI s' a k = sI s a k ∧ sL s' a k = sL s a k ∧ sP s' a k = sP s a k
section
variable {P : Nat → Nat → Bool} {s s' : eS}
theorem EX_rf : EX P s s := ⟨Nat.le_refl _, fun _ _ => ⟨⟨rfl, rfl⟩, fun _ _ => ⟨rfl, rfl, rfl⟩⟩⟩
theorem EX_ag (g : ag P s s') : EX P s s' := ⟨by rw [g.1.2.2.2.2.1]; exact Nat.le_refl _, fun a _ => ⟨⟨by rw [g.1.1], by rw [g.1.2.1]⟩, fun k hk => ⟨g.2 a k hk, by rw [g.1.2.2.1], by rw [g.1.2.2.2.1]⟩⟩⟩
theorem EX_tr {s'' : eS} (g : EX P s s') (g2 : EX P s' s'') : EX P s s'' := ⟨Nat.le_trans g.1 g2.1, fun a ha => by
  have h1 := g.2 a ha
  have h2 := g2.2 a (Nat.lt_of_lt_of_le ha g.1)
  exact ⟨⟨h2.1.1.trans h1.1.1, h2.1.2.trans h1.1.2⟩, fun k hk => ⟨(h2.2 k hk).1.trans (h1.2 k hk).1, (h2.2 k hk).2.1.trans (h1.2 k hk).2.1, (h2.2 k hk).2.2.trans (h1.2 k hk).2.2⟩⟩⟩
theorem EX_mono {Q : Nat → Nat → Bool} (g : EX P s s') (h : ∀ a k, Q a k = false → P a k = false) : EX Q s s' := ⟨g.1, fun a ha => ⟨(g.2 a ha).1, fun k hk => (g.2 a ha).2 k (h a k hk)⟩⟩
theorem EX_new (t n w : Nat) : EX P s (e_new s t n w) := ⟨Nat.le_succ _, fun a ha => by
  have hn : a ≠ sn s := by omega
  refine ⟨⟨if_neg hn, if_neg hn⟩, fun k _ => ⟨?_, ?_, ?_⟩⟩
  · show e_row (sI s) (sn s) (fun _ => 0) a k = _
    unfold e_row; rw [if_neg hn]
  · show e_row (sL s) (sn s) (fun _ => 0) a k = _
    unfold e_row; rw [if_neg hn]
  · show e_row (sP s) (sn s) (fun _ => none) a k = _
    unfold e_row; rw [if_neg hn]⟩
theorem eu_ne {α : Type} {f : Nat → Nat → α} {a k b j : Nat} {x : α} (h : ¬ (b = a ∧ j = k)) : e_u f a k x b j = f b j := by
  unfold e_u
  by_cases c : b = a
  · rw [if_pos c, if_neg (fun e => h ⟨c, e⟩)]
  · rw [if_neg c]
theorem eu_eq {α : Type} {f : Nat → Nat → α} {a k : Nat} {x : α} : e_u f a k x a k = x := by
  unfold e_u; rw [if_pos rfl, if_pos rfl]
theorem EX_P {a k : Nat} {x : Option Nat} (g : EX P s s') (hp : P a k = true ∨ sn s ≤ a) : EX P s (e_P s' a k x) := ⟨g.1, fun b hb => ⟨(g.2 b hb).1, fun j hj => by
  have h1 := (g.2 b hb).2 j hj
  refine ⟨h1.1, h1.2.1, ?_⟩
  show e_u (sP s') a k x b j = _
  rw [eu_ne]
  · exact h1.2.2
  · rintro ⟨rfl, rfl⟩
    rcases hp with c | c
    · rw [c] at hj; cases hj
    · omega⟩⟩
theorem EX_L {a k : Nat} {x : Int64} (g : EX P s s') (hp : P a k = true ∨ sn s ≤ a) : EX P s (e_L s' a k x) := ⟨g.1, fun b hb => ⟨(g.2 b hb).1, fun j hj => by
  have h1 := (g.2 b hb).2 j hj
  refine ⟨h1.1, ?_, h1.2.2⟩
  show e_u (sL s') a k x b j = _
  rw [eu_ne]
  · exact h1.2.1
  · rintro ⟨rfl, rfl⟩
    rcases hp with c | c
    · rw [c] at hj; cases hj
    · omega⟩⟩
theorem EX_I {a k : Nat} {x : Int32} (g : EX P s s') (hp : P a k = true ∨ sn s ≤ a) : EX P s (e_I s' a k x) := ⟨g.1, fun b hb => ⟨(g.2 b hb).1, fun j hj => by
  have h1 := (g.2 b hb).2 j hj
  refine ⟨?_, h1.2.1, h1.2.2⟩
  show e_u (sI s') a k x b j = _
  rw [eu_ne]
  · exact h1.1
  · rintro ⟨rfl, rfl⟩
    rcases hp with c | c
    · rw [c] at hj; cases hj
    · omega⟩⟩
theorem exI (g : EX P s s') {a k : Nat} (ha : a < sn s) (hp : P a k = false) : sI s' a k = sI s a k := ((g.2 a ha).2 k hp).1
theorem exL (g : EX P s s') {a k : Nat} (ha : a < sn s) (hp : P a k = false) : sL s' a k = sL s a k := ((g.2 a ha).2 k hp).2.1
theorem exP (g : EX P s s') {a k : Nat} (ha : a < sn s) (hp : P a k = false) : sP s' a k = sP s a k := ((g.2 a ha).2 k hp).2.2
theorem SH_ex (g : EX P s s') (h : SH s) (hn : sn s' ≤ 100000) (hp : ∀ q ∈ pL, P q.1 q.2 = false) : SH s' := by
  have hl : ∀ q ∈ pL, q.1 < 58 := by decide
  refine ⟨⟨Nat.le_trans h.1.1 g.1, hn⟩, fun a ha => ?_, fun q hq => ?_⟩
  · have := (g.2 a (sh_lt h ha)).1
    rw [this.1, this.2]; exact h.2.1 a ha
  · rw [exP g (sh_lt h (hl q hq)) (hp q hq)]; exact h.2.2 q hq
theorem pA_ex (g : EX P s s') (h : SH s) {p : Nat} (hp : P 3 p = false) : pA s' p = pA s p := by unfold pA; rw [exP g (sh_lt h (by decide)) hp]
theorem cA_ex (g : EX P s s') (h : SH s) {p : Nat} (hp : P 5 p = false) : cA s' p = cA s p := by unfold cA; rw [exP g (sh_lt h (by decide)) hp]
theorem mA_ex (g : EX P s s') (h : SH s) {p : Nat} (hp : P 15 p = false) : mA s' p = mA s p := by unfold mA; rw [exP g (sh_lt h (by decide)) hp]
theorem KO_ex (g : EX P s s') {t a : Nat} (k : KO s t a) : KO s' t a := ⟨⟨Nat.lt_of_lt_of_le k.1.1 g.1, ((g.2 a k.1.1).1.1).trans k.1.2⟩, k.2⟩
theorem MG_ex (g : EX P s s') {a r : Nat} (m : MG s a r) (hp : P a 0 = false) : MG s' a r :=
  ⟨⟨Nat.lt_of_lt_of_le m.1.1 g.1, ((g.2 a m.1.1).1.1).trans m.1.2⟩, (exP g m.1.1 hp).trans m.2.1, ⟨Nat.lt_of_lt_of_le m.2.2.1.1 g.1, ((g.2 r m.2.2.1.1).1.1).trans m.2.2.1.2⟩, ((g.2 r m.2.2.1.1).1.2).trans m.2.2.2⟩
theorem MT_ex (g : EX P s s') {a r : Nat} {l : List Int32} (ha : a < sn s) (hr : r < sn s) (t : MT s a r l) (h1 : P a 1 = false) (h2 : ∀ k, P r k = false) : MT s' a r l :=
  ⟨(exI g ha h1).trans t.1, t.2.1, fun i hi => by rw [exI g hr (h2 i)]; exact t.2.2 i hi⟩
theorem DP_ex {n : Nat} (g : EX P s s') (h : SH s) (d : DP s n) (hp : ∀ k, k < n → P 3 k = false) : DP s' n := by
  refine ⟨fun i hi => ?_, fun i j hi hj e => d.2 i j hi hj ?_⟩
  · rw [pA_ex g h (hp i hi), exP g (sh_lt h (by decide)) (hp i hi)]
    exact ⟨(d.1 i hi).1, KO_ex g (d.1 i hi).2⟩
  · rw [pA_ex g h (hp i hi), pA_ex g h (hp j hj)] at e; exact e
theorem DC_ex {n : Nat} (g : EX P s s') (h : SH s) (d : DC s n) (hp : ∀ k, k < n → P 5 k = false) : DC s' n := by
  refine ⟨fun i hi => ?_, fun i j hi hj e => d.2 i j hi hj ?_⟩
  · rw [cA_ex g h (hp i hi), exP g (sh_lt h (by decide)) (hp i hi)]
    exact ⟨(d.1 i hi).1, KO_ex g (d.1 i hi).2⟩
  · rw [cA_ex g h (hp i hi), cA_ex g h (hp j hj)] at e; exact e
theorem rA_ex (g : EX P s s') (h : SH s) (d : DA s) {i : Nat} (hi : i < 60) (hn : ¬ sP s 15 i = none) (hp : P 15 i = false) (h2 : ∀ a k, 58 ≤ a → P a k = false) : rA s' i = rA s i := by
  have h4 := DA_at d hi hn
  unfold rA
  rw [mA_ex g h hp, exP g h4.2.1.1.1 (h2 _ _ h4.2.2.1)]
theorem DA_ex (g : EX P s s') (h : SH s) (d : DA s) (hp : ∀ k, P 15 k = false) (h2 : ∀ a, 58 ≤ a → P a 0 = false) : DA s' := by
  have hr : ∀ i, i < 60 → ¬ sP s 15 i = none → rA s' i = rA s i := fun i hi hn => by
    have h4 := DA_at d hi hn
    unfold rA
    rw [mA_ex g h (hp i), exP g h4.2.1.1.1 (h2 _ h4.2.2.1)]
  refine ⟨fun i hi => ?_, fun i j hi hj c1 c2 e => ?_⟩
  · rw [exP g (sh_lt h (by decide)) (hp i)]
    rcases d.1 i hi with c | c
    · exact Or.inl c
    · have hn : ¬ sP s 15 i = none := by rw [c.1]; exact fun z => by cases z
      rw [mA_ex g h (hp i), hr i hi hn]
      exact Or.inr ⟨c.1, MG_ex g c.2.1 (h2 _ c.2.2.1), c.2.2⟩
  · rw [exP g (sh_lt h (by decide)) (hp _)] at c1 c2
    refine d.2 i j hi hj c1 c2 ?_
    rw [mA_ex g h (hp i), mA_ex g h (hp j), hr i hi c1, hr j hj c2] at e
    exact e
theorem SI_ex {A : aS} (g : EX P s s') (h : SH s) (i : SI s A) (h1 : ∀ k, k < 26 → k ≠ 17 → P (sc k).1 (sc k).2 = false) (h2 : P 18 3 = false) : SI s' A := by
  have hl : ∀ k, k < 26 → (sc k).1 < 58 := by decide
  exact ⟨fun k hk h17 => (exI g (sh_lt h (hl k hk)) (h1 k hk h17)).trans (i.1 k hk h17), (exI g (sh_lt h (by decide)) h2).trans i.2⟩
theorem SO_ex {l : List Int32} (g : EX P s s') (h : SH s) (o : SO_ s l) (h1 : P 24 1 = false ∧ P 24 2 = false) (h2 : ∀ k, P 25 k = false) : SO_ s' l := by
  obtain ⟨st, a, b, c, d, e⟩ := o
  exact ⟨st, a, (exI g (sh_lt h (by decide)) h1.1).trans b, (exI g (sh_lt h (by decide)) h1.2).trans c, d, fun i hi => by rw [exI g (sh_lt h (by decide)) (h2 _)]; exact e i hi⟩
theorem SXt_ex {t : Bool} {l : List Int32} (g : EX P s s') (h : SH s) (x : SXt t s l) (h1 : P 18 5 = false ∧ P 18 6 = false ∧ P 18 1 = false ∧ P 19 1 = false) (h2 : ∀ k, P 20 k = false) : SXt t s' l := by
  have l58 : ∀ {a : Nat}, a < 58 → a < sn s := fun ha => sh_lt h ha
  unfold SXt at *
  split
  · rename_i c; rw [if_pos c] at x; exact (exI g (l58 (by decide)) h1.1).trans x
  · rename_i c; rw [if_neg c] at x
    exact ⟨(exI g (l58 (by decide)) h1.1).trans x.1, x.2.1, fun h3 => ⟨(exI g (l58 (by decide)) h1.2.1).trans (x.2.2 h3).1, (exI g (l58 (by decide)) h1.2.2.1).trans (x.2.2 h3).2.1, MT_ex g (l58 (by decide)) (l58 (by decide)) (x.2.2 h3).2.2 h1.2.2.2 h2⟩⟩
theorem SL_ex {A : aS} (g : EX P s s') (h : SH s) (l : SL s A) (h1 : P 6 1 = false ∧ P 6 2 = false ∧ P 6 3 = false ∧ P 6 0 = false) (h2 : ∀ c, c < (A.2.2 1).length → P 5 c = false) : SL s' A := by
  have l6 : 6 < sn s := sh_lt h (by decide)
  unfold SL
  rw [exP g l6 h1.2.2.2, exI g l6 h1.1, exI g l6 h1.2.1, exI g l6 h1.2.2.1]
  rcases l with l | ⟨c, d, w, k, b, t, p1, p2, p3, p4⟩
  · exact Or.inl l
  · exact Or.inr ⟨c, d, w, k, b, t, p1, p2, by rw [cA_ex g h (h2 c p1.1)]; exact p3, p4⟩
theorem ptS_ex (g : EX P s s') (h : SH s) {p : Nat} (h3 : P 3 p = false) (hp : pA s p < sn s) (h2 : ∀ k, P (pA s p) k = false) : ptS s' p = ptS s p := by
  unfold ptS
  rw [pA_ex g h h3, exI g hp (h2 _), exI g hp (h2 _), exI g hp (h2 _), exI g hp (h2 _), exI g hp (h2 _), exI g hp (h2 _), exI g hp (h2 _)]
theorem SP_ex {q : List (List Int32)} (g : EX P s s') (h : SH s) (d : DP s q.length) (x : SP s q) (h1 : P 2 2 = false) (h3 : ∀ k, P 3 k = false ∧ P 4 k = false) (h2 : ∀ a k, 58 ≤ a → P a k = false) : SP s' q := by
  refine ⟨(exI g (sh_lt h (by decide)) h1).trans x.1, fun p hp => ?_, fun j hj => by rw [exP g (sh_lt h (by decide)) (h3 _).2, pA_ex g h (h3 _).1]; exact x.2.2 j hj⟩
  have d1 := (d.1 p hp).2
  have hx := fun k => h2 (pA s p) k d1.2
  rw [ptS_ex g h (h3 p).1 d1.1.1 hx]
  refine ⟨(x.2.1 p hp).1, ?_⟩
  unfold poS
  rw [pA_ex g h (h3 p).1, exI g d1.1.1 (hx _), exI g d1.1.1 (hx _), exI g d1.1.1 (hx _)]
  exact (x.2.1 p hp).2
theorem cmS_ex {n c : Nat} {e : List Int32} (g : EX P s s') (h : SH s) (dc : KO s 102 (cA s c)) (h5 : P 5 c = false) (hc : ∀ k, P (cA s c) k = false) (hp : ∀ p, p < n → KO s 106 (pA s p) ∧ P 3 p = false ∧ P (pA s p) 0 = false) (x : cmS s n c e) : cmS s' n c e := by
  obtain ⟨k, pt, h1, h2, h3, h4⟩ := x
  have hl := dc.1.1
  refine ⟨k, pt, h1, ?_, ?_, ?_⟩
  · rw [cA_ex g h h5, exI g hl (hc _), exI g hl (hc _), exI g hl (hc _)]; exact h2
  · rw [cA_ex g h h5, exI g hl (hc _)]; exact h3
  · rw [cA_ex g h h5, exP g hl (hc _)]
    rcases h4 with h4 | ⟨p, a, b, c, d⟩
    · exact Or.inl h4
    · have q := hp p a
      exact Or.inr ⟨p, a, b, by rw [pA_ex g h q.2.1]; exact c, by rw [pA_ex g h q.2.1, exI g q.1.1.1 q.2.2]; exact d⟩
theorem SC_ex {n : Nat} {q : List (List Int32)} (g : EX P s s') (h : SH s) (dp : DP s n) (dc : DC s q.length) (x : SC s n q) (h1 : P 0 3 = false) (h5 : ∀ k, k < q.length → P 5 k = false) (h3 : ∀ k, k < n → P 3 k = false) (h2 : ∀ a k, 58 ≤ a → P a k = false) : SC s' n q :=
  ⟨(exI g (sh_lt h (by decide)) h1).trans x.1, fun c hc => cmS_ex g h (dc.1 c hc).2 (h5 c hc) (fun k => h2 _ k (dc.1 c hc).2.2) (fun p hp => ⟨(dp.1 p hp).2, h3 p hp, h2 _ _ (dp.1 p hp).2.2⟩) (x.2.1 c hc), x.2.2⟩
theorem SN_ex {q : List (List Int32)} (g : EX P s s') (h : SH s) (x : SN s q) (h1 : P 21 2 = false ∧ P 21 3 = false) (h2 : ∀ k, P 22 k = false ∧ P 23 k = false) : SN s' q := by
  obtain ⟨st, a, b, c, d, e⟩ := x
  have l : ∀ {a : Nat}, a < 58 → a < sn s := fun ha => sh_lt h ha
  exact ⟨st, a, (exI g (l (by decide)) h1.1).trans b, (exI g (l (by decide)) h1.2).trans c, d, fun i hi => by rw [exI g (l (by decide)) (h2 _).1, exI g (l (by decide)) (h2 _).2]; exact e i hi⟩
theorem evS_ex {n pl : Nat} {e : List Int32} (g : EX P s s') (h : SH s) (h9 : P 9 pl = false ∧ P 10 pl = false ∧ P 11 pl = false) (hp : ∀ p, p < n → KO s 106 (pA s p) ∧ P 3 p = false ∧ P (pA s p) 0 = false ∧ P (pA s p) 1 = false) (x : evS s n pl e) : evS s' n pl e := by
  obtain ⟨p, k, v, q, t, a1, a2, a3, a4, a5, a6, a7, a8⟩ := x
  have z := hp p a3
  have l : ∀ {a : Nat}, a < 58 → a < sn s := fun ha => sh_lt h ha
  refine ⟨p, k, v, q, t, a1, a2, a3, ?_, a5, ?_, ?_, ?_⟩
  · rw [exP g (l (by decide)) h9.1, pA_ex g h z.2.1]; exact a4
  · rw [pA_ex g h z.2.1, exI g z.1.1.1 z.2.2.1]; exact a6
  · rw [pA_ex g h z.2.1, exI g z.1.1.1 z.2.2.2, exL g (l (by decide)) h9.2.1]; exact a7
  · rw [exL g (l (by decide)) h9.2.2]; exact a8
theorem SE_ex {n : Nat} {qs qw : List (List Int32)} (g : EX P s s') (h : SH s) (dp : DP s n) (x : SE s n qs qw) (h1 : P 8 4 = false ∧ P 8 5 = false ∧ P 8 6 = false) (h9 : ∀ k, P 9 k = false ∧ P 10 k = false ∧ P 11 k = false) (h3 : ∀ k, k < n → P 3 k = false) (h2 : ∀ a k, 58 ≤ a → P a k = false) : SE s' n qs qw := by
  obtain ⟨st, a, b, c, d, e, f⟩ := x
  have l : ∀ {a : Nat}, a < 58 → a < sn s := fun ha => sh_lt h ha
  exact ⟨st, a, (exI g (l (by decide)) h1.1).trans b, (exI g (l (by decide)) h1.2.1).trans c, (exI g (l (by decide)) h1.2.2).trans d, e, fun i hi => evS_ex g h (h9 _) (fun p hp => ⟨(dp.1 p hp).2, h3 p hp, h2 _ 0 (dp.1 p hp).2.2, h2 _ 1 (dp.1 p hp).2.2⟩) (f i hi)⟩
theorem SA_ex {q : List (List Int32)} (g : EX P s s') (h : SH s) (da : DA s) (x : SA s q) (h1 : P 14 2 = false ∧ P 14 3 = false) (h15 : ∀ k, ¬ sP s 15 k = none → P 15 k = false) (h2 : ∀ a k, 58 ≤ a → P a k = false) : SA s' q := by
  obtain ⟨st, a, b, c, d, e⟩ := x
  have l : ∀ {a : Nat}, a < 58 → a < sn s := fun ha => sh_lt h ha
  refine ⟨st, a, (exI g (l (by decide)) h1.1).trans b, (exI g (l (by decide)) h1.2).trans c, d, fun i hi => ?_⟩
  have h3 := e i hi
  have hm : (st + i) % 60 < 60 := Nat.mod_lt _ (by omega)
  have h4 := DA_at da hm h3.1
  have h5 := h15 _ h3.1
  rw [exP g (l (by decide)) h5, mA_ex g h h5, rA_ex g h da hm h3.1 h5 h2]
  exact ⟨h3.1, MT_ex g h4.2.1.1.1 h4.2.1.2.2.1.1 h3.2 (h2 _ _ h4.2.2.1) (fun k => h2 _ _ h4.2.2.2)⟩
theorem SM_ex (g : EX P s s') (h : SH s) (x : SM s) (h1 : P 12 1 = false ∧ P 16 1 = false ∧ P 19 1 = false) (h2 : ∀ k, P 13 k = false ∧ P 17 k = false ∧ P 20 k = false ∧ P 7 k = false ∧ P 1 k = false) : SM s' := by
  obtain ⟨⟨l1, a⟩, ⟨l2, b⟩, ⟨l3, c⟩, d⟩ := x
  have l : ∀ {a : Nat}, a < 58 → a < sn s := fun ha => sh_lt h ha
  exact ⟨⟨l1, MT_ex g (l (by decide)) (l (by decide)) a h1.1 (fun k => (h2 k).1)⟩, ⟨l2, MT_ex g (l (by decide)) (l (by decide)) b h1.2.1 (fun k => (h2 k).2.1)⟩, ⟨l3, MT_ex g (l (by decide)) (l (by decide)) c h1.2.2 (fun k => (h2 k).2.2.1)⟩, SG_at d (funext fun k => exI g (l (by decide)) (h2 k).2.2.2.2) (funext fun k => exI g (l (by decide)) (h2 k).2.2.2.1)⟩
theorem kS_ex (g : EX P s s') (h : SH s) (h' : SH s') (hp : ∀ a k, xK a k = true → P a k = false) : kS s s' := ⟨h', fun a k hx => exI g (by
  have : a < 58 := by simp at hx; omega
  exact sh_lt h this) (hp a k hx)⟩
end
