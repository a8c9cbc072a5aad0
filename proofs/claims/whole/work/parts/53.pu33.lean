/-! ===== what the station's cells stand for ===== -/
def pA (s : eS) (p : Nat) : Nat := (sP s 3 p).getD 0
def cA (s : eS) (c : Nat) : Nat := (sP s 5 c).getD 0
def mA (s : eS) (i : Nat) : Nat := (sP s 15 i).getD 0
def rA (s : eS) (i : Nat) : Nat := (sP s (mA s i) 0).getD 0
def KO (s : eS) (t a : Nat) : Prop := (a < sn s ∧ sK s a = t) ∧ 58 ≤ a
def nul (s : eS) : Nat := ((List.range 60).filter (fun i => (sP s 15 i).isNone)).length
def DP (s : eS) (n : Nat) : Prop := (∀ i, i < n → sP s 3 i = some (pA s i) ∧ KO s 106 (pA s i)) ∧ ∀ i j, i < n → j < n → pA s i = pA s j → i = j
def DC (s : eS) (m : Nat) : Prop := (∀ i, i < m → sP s 5 i = some (cA s i) ∧ KO s 102 (cA s i)) ∧ ∀ i j, i < m → j < m → cA s i = cA s j → i = j
def DA (s : eS) : Prop := (∀ i, i < 60 → sP s 15 i = none ∨ (sP s 15 i = some (mA s i) ∧ MG s (mA s i) (rA s i) ∧ 58 ≤ mA s i ∧ 58 ≤ rA s i)) ∧ ∀ i j, i < 60 → j < 60 → ¬ sP s 15 i = none → ¬ sP s 15 j = none → (mA s i = mA s j ∨ rA s i = rA s j) → i = j
def DZ (s : eS) (n m : Nat) : Prop := n ≤ 24 ∧ m ≤ 12 ∧ sn s + 2 * nul s + (24 - n) + (12 - m) ≤ 300 ∧ ss s + 300 * nul s + 10 * (24 - n) + 10 * (12 - m) ≤ 90000
def DS (s : eS) (n m : Nat) : Prop := DP s n ∧ DC s m ∧ DA s ∧ DZ s n m
/-! the ints: 17 (what is told) is kept as what is not told yet -/
def scL : List (Nat × Nat) := [(1, 0), (1, 1), (1, 2), (1, 3), (1, 4), (1, 5), (1, 6), (0, 11), (0, 12), (0, 13), (0, 14), (0, 15), (0, 16), (0, 17), (0, 18), (21, 4), (18, 2), (0, 0), (18, 4), (7, 0), (7, 1), (7, 2), (7, 3), (7, 4), (7, 5), (7, 6)]
def sc (k : Nat) : Nat × Nat := scL.getD k (0, 0)
def SI (s : eS) (A : aS) : Prop := (∀ k, k < 26 → k ≠ 17 → sI s (sc k).1 (sc k).2 = A.1 k) ∧ sI s 18 3 = A.1 16 - A.1 17
def SO_ (s : eS) (l : List Int32) : Prop := ∃ st, st < 4096 ∧ sI s 24 1 = nI st ∧ sI s 24 2 = nI l.length ∧ l.length ≤ 4096 ∧ ∀ i, i < l.length → l.getD i 0 = sI s 25 ((st + i) % 4096) &&& 255
/-- the four control bytes as one number, as far as k of them have come -/
def ctF (l : List Int32) : Nat → Int32
  | 0 => 0
  | k + 1 => ctF l k ||| (l.getD (2 + k) 0 <<< ((8 * nI k) &&& 31))
def ctN (l : List Int32) : Nat := if l.length ≤ 6 then l.length - 2 else 4
def SX (s : eS) (l : List Int32) : Prop := sI s 18 5 = nI l.length ∧ l.length ≤ 255 ∧ (2 ≤ l.length → sI s 18 6 = l.getD 1 0 ∧ sI s 18 1 = ctF l (ctN l) ∧ MT s 19 20 (l.drop 6))
/-- t: a FRAME is just being taken -/
def SXt (t : Bool) (s : eS) (l : List Int32) : Prop := if t = true then sI s 18 5 = 0 else SX s l
def slB (so : Int32) (d : Nat) : List Int32 := if so = 2 then bN d 3 else [nI d]
def SL (s : eS) (A : aS) : Prop := (A.2.1 2 = [] ∧ sP s 6 0 = none) ∨ ∃ (c d w k : Nat) (b t : Int32), (c < (A.2.2 1).length ∧ pg (A.2.2 1) c 3 ≠ 0) ∧ A.2.1 2 = nI c :: b :: t :: slB (pg (A.2.2 1) c 0) d ∧ sP s 6 0 = some (cA s c) ∧ sI s 6 2 = b ∧ sI s 6 1 = nI d ∧ d < 2 ^ 24 ∧ A.1 6 = nI k ∧ A.1 9 - t = nI w ∧ w < k ∧ k ≤ 1000 ∧ sI s 6 3 = nI (k - w)
def ptS (s : eS) (p : Nat) : List Int32 := [sI s (pA s p) 0, sI s (pA s p) 1, sI s (pA s p) 2, sI s (pA s p) 3, sI s (pA s p) 4, sI s (pA s p) 5, sI s (pA s p) 6]
def oL (q : List (List Int32)) : List Nat := (List.range q.length).mergeSort (fun a b => decide (pg q a 1 ≤ pg q b 1))
def poS (s : eS) (p : Nat) : Prop := (∃ k : Nat, k < 7 ∧ sI s (pA s p) 0 = nI k) ∧ (∃ d : Nat, d < 2 ^ 24 ∧ sI s (pA s p) 1 = nI d) ∧ vOK (sI s (pA s p) 0) (sI s (pA s p) 4)
def SP (s : eS) (q : List (List Int32)) : Prop := sI s 2 2 = nI q.length ∧ (∀ p, p < q.length → q.getD p [] = ptS s p ∧ poS s p) ∧ ∀ j, j < q.length → sP s 4 j = some (pA s ((oL q).getD j 0))
def cmS (s : eS) (n c : Nat) (e : List Int32) : Prop := ∃ (k : Nat) (pt : Int32), k < 3 ∧ e = [nI k, sI s (cA s c) 1, pt, sI s (cA s c) 3, sI s (cA s c) 4] ∧ sI s (cA s c) 0 = nI k ∧ ((pt = -1 ∧ sP s (cA s c) 2 = none) ∨ ∃ p, p < n ∧ pt = nI p ∧ sP s (cA s c) 2 = some (pA s p) ∧ sI s (pA s p) 0 = nI ([0, 1, 4].getD k 0))
/-- no two rows have one address -/
def UQ (q : List (List Int32)) : Prop := ∀ i j, i < q.length → j < q.length → pg q i 1 = pg q j 1 → i = j
def SC (s : eS) (n : Nat) (q : List (List Int32)) : Prop := sI s 0 3 = nI q.length ∧ (∀ c, c < q.length → cmS s n c (q.getD c [])) ∧ UQ q
def SN (s : eS) (q : List (List Int32)) : Prop := ∃ st, st < 12 ∧ sI s 21 2 = nI st ∧ sI s 21 3 = nI q.length ∧ q.length ≤ 12 ∧ ∀ i, i < q.length → q.getD i [] = [sI s 22 ((st + i) % 12), sI s 23 ((st + i) % 12)] ∧ (sI s 23 ((st + i) % 12) = 0 ∨ sI s 23 ((st + i) % 12) = 1)
def evS (s : eS) (n pl : Nat) (e : List Int32) : Prop := ∃ (p k : Nat) (v q : Int32) (t : List Int32), e = nI p :: v :: q :: t ∧ t.length = 7 ∧ p < n ∧ sP s 9 pl = some (pA s p) ∧ k < 6 ∧ sI s (pA s p) 0 = nI k ∧ (∀ fr, lb (sL s 10 pl) (obn k) = ob (nI k) (sI s (pA s p) 1) v q fr) ∧ lb (sL s 11 pl) 7 = t
def SE (s : eS) (n : Nat) (qs qw : List (List Int32)) : Prop := ∃ st, st < 52 ∧ sI s 8 4 = nI st ∧ sI s 8 5 = nI (qs.length + qw.length) ∧ sI s 8 6 = nI qs.length ∧ qs.length + qw.length ≤ 52 ∧ ∀ i, i < qs.length + qw.length → evS s n ((st + i) % 52) ((qs ++ qw).getD i [])
def SA (s : eS) (q : List (List Int32)) : Prop := ∃ st, st < 60 ∧ sI s 14 2 = nI st ∧ sI s 14 3 = nI q.length ∧ q.length ≤ 60 ∧ ∀ i, i < q.length → ¬ sP s 15 ((st + i) % 60) = none ∧ MT s (mA s ((st + i) % 60)) (rA s ((st + i) % 60)) (q.getD i [])
/-- the settings 0 and 6 are in their bounds, THE CLOCK shows a time -/
def SG (s : eS) : Prop := (∃ x : Nat, x < 65536 ∧ sI s 1 0 = nI x) ∧ (∃ x : Nat, 1 ≤ x ∧ x ≤ 1000 ∧ sI s 1 6 = nI x) ∧ ∃ ms mi ho da mo ye : Nat, (ms < 60000 ∧ sI s 7 0 = nI ms) ∧ (mi < 60 ∧ sI s 7 1 = nI mi) ∧ (ho < 24 ∧ sI s 7 2 = nI ho) ∧ (1 ≤ da ∧ da ≤ 31 ∧ nI da ≤ dF (nI mo) (nI ye) ∧ sI s 7 3 = nI da) ∧ (1 ≤ mo ∧ mo ≤ 12 ∧ sI s 7 4 = nI mo) ∧ (ye < 100 ∧ sI s 7 5 = nI ye)
theorem SG_at {s s' : eS} (h : SG s) (h1 : sI s' 1 = sI s 1) (h2 : sI s' 7 = sI s 7) : SG s' := by
  unfold SG
  rw [h1, h2]
  exact h
def SM (s : eS) : Prop := (∃ l, MT s 12 13 l) ∧ (∃ l, MT s 16 17 l) ∧ (∃ l, MT s 19 20 l) ∧ SG s
/-- what came is told but for u -/
def ST (A : aS) : Prop := ∃ u : Nat, A.1 16 - A.1 17 = nI u ∧ u ≤ uI (A.1 16)
theorem ST_0 {A : aS} (h : A.1 17 = A.1 16) : ST A := ⟨0, by rw [h, Int32.sub_self]; rfl, Nat.zero_le _⟩
def SZ (A : aS) : Prop := (A.1 7 = 0 → A.2.1 2 = [] ∧ A.2.2 2 = [] ∧ A.2.2 4 = [] ∧ A.2.2 5 = []) ∧ (A.2.2 2).length = evN (A.2.2 5) (A.2.2 5).length ∧ ST A ∧ (A.1 7 = 0 ∨ A.1 7 = 1 ∨ A.1 7 = 2 ∨ A.1 7 = 3)
def SF (C : Nat) (A : aS) : Prop := ∃ f, f ≤ C ∧ A.1 14 = nI f
def RS (t : Bool) (C : Nat) (s : eS) (A : aS) : Prop := DS s (A.2.2 0).length (A.2.2 1).length ∧ SI s A ∧ SO_ s (A.2.1 0) ∧ SXt t s (A.2.1 1) ∧ SL s A ∧ SP s (A.2.2 0) ∧ SC s (A.2.2 0).length (A.2.2 1) ∧ SN s (A.2.2 5) ∧ SE s (A.2.2 0).length (A.2.2 2) (A.2.2 3) ∧ SA s (A.2.2 4) ∧ SM s ∧ SZ A ∧ SF C A
section
variable {t : Bool} {C : Nat} {s : eS} {A : aS}
theorem rs_d (r : RS t C s A) : DS s (A.2.2 0).length (A.2.2 1).length := r.1
theorem rs_i (r : RS t C s A) : SI s A := r.2.1
theorem rs_o (r : RS t C s A) : SO_ s (A.2.1 0) := r.2.2.1
theorem rs_x (r : RS t C s A) : SXt t s (A.2.1 1) := r.2.2.2.1
theorem rs_l (r : RS t C s A) : SL s A := r.2.2.2.2.1
theorem rs_p (r : RS t C s A) : SP s (A.2.2 0) := r.2.2.2.2.2.1
theorem rs_c (r : RS t C s A) : SC s (A.2.2 0).length (A.2.2 1) := r.2.2.2.2.2.2.1
theorem rs_n (r : RS t C s A) : SN s (A.2.2 5) := r.2.2.2.2.2.2.2.1
theorem rs_e (r : RS t C s A) : SE s (A.2.2 0).length (A.2.2 2) (A.2.2 3) := r.2.2.2.2.2.2.2.2.1
theorem rs_a (r : RS t C s A) : SA s (A.2.2 4) := r.2.2.2.2.2.2.2.2.2.1
theorem rs_m (r : RS t C s A) : SM s := r.2.2.2.2.2.2.2.2.2.2.1
theorem rs_z (r : RS t C s A) : SZ A := r.2.2.2.2.2.2.2.2.2.2.2.1
theorem rs_f (r : RS t C s A) : SF C A := r.2.2.2.2.2.2.2.2.2.2.2.2
end
/-! what stays where only ints change -/
section
variable {X : Nat → Nat → Bool} {s s' : eS}
theorem ag_P (g : ag X s s') : sP s' = sP s := g.1.2.2.2.1
theorem pA_ag (g : ag X s s') (p : Nat) : pA s' p = pA s p := by unfold pA; rw [ag_P g]
theorem cA_ag (g : ag X s s') (p : Nat) : cA s' p = cA s p := by unfold cA; rw [ag_P g]
theorem mA_ag (g : ag X s s') (p : Nat) : mA s' p = mA s p := by unfold mA; rw [ag_P g]
theorem rA_ag (g : ag X s s') (p : Nat) : rA s' p = rA s p := by unfold rA; rw [mA_ag g, ag_P g]
theorem DS_ag {n m : Nat} (g : ag X s s') (h : DS s n m) : DS s' n m := by
  obtain ⟨h1, h2, h3, h4⟩ := h
  refine ⟨⟨fun i hi => ?_, fun i j hi hj e => h1.2 i j hi hj ?_⟩, ⟨fun i hi => ?_, fun i j hi hj e => h2.2 i j hi hj ?_⟩, ⟨fun i hi => ?_, fun i j hi hj c1 c2 e => h3.2 i j hi hj ?_ ?_ ?_⟩, ?_⟩
  · rw [pA_ag g, ag_P g]; unfold KO; rw [g.1.1, g.1.2.2.2.2.1]; exact h1.1 i hi
  · rw [pA_ag g, pA_ag g] at e; exact e
  · rw [cA_ag g, ag_P g]; unfold KO; rw [g.1.1, g.1.2.2.2.2.1]; exact h2.1 i hi
  · rw [cA_ag g, cA_ag g] at e; exact e
  · rw [mA_ag g, rA_ag g, ag_P g]
    rcases h3.1 i hi with h | ⟨a, b, c⟩
    · exact Or.inl h
    · exact Or.inr ⟨a, MG_ag g b, c⟩
  · rw [ag_P g] at c1; exact c1
  · rw [ag_P g] at c2; exact c2
  · rw [mA_ag g, mA_ag g, rA_ag g, rA_ag g] at e; exact e
  · unfold DZ nul
    rw [ag_P g, g.1.2.2.2.2.1, g.1.2.2.2.2.2]
    exact h4
theorem SI_ag {A : aS} (g : ag X s s') (h : SI s A) (h1 : ∀ k, k < 26 → k ≠ 17 → X (sc k).1 (sc k).2 = false) (h2 : X 18 3 = false) : SI s' A := ⟨fun k hk h17 => (g.2 _ _ (h1 k hk h17)).trans (h.1 k hk h17), (g.2 _ _ h2).trans h.2⟩
theorem SI_A {A B : aS} (h : SI s A) (e : A.1 = B.1) : SI s B := ⟨fun k hk h17 => by rw [← e]; exact h.1 k hk h17, by rw [← e]; exact h.2⟩
theorem SI_set {A : aS} (h : SI s A) (j : Nat) (hj : j < 26 ∧ j ≠ 16 ∧ j ≠ 17) (x : Int32) : SI (e_I s (sc j).1 (sc j).2 x) (ui A j x) := by
  have hinj : ∀ a, a < 26 → ∀ b, b < 26 → sc a = sc b → a = b := by decide +kernel
  have h18 : ∀ a, a < 26 → ¬ sc a = (18, 3) := by decide +kernel
  refine ⟨fun k hk h17 => ?_, ?_⟩
  · show _ = if k = j then x else A.1 k
    by_cases e : k = j
    · rw [if_pos e, e, rII_eq]
    · rw [if_neg e, rII_ne]
      · exact h.1 k hk h17
      · by_cases e1 : (sc k).1 = (sc j).1
        · refine Or.inr (fun e2 => e (hinj k hk j hj.1 (Prod.ext e1 e2)))
        · exact Or.inl e1
  · show _ = (if 16 = j then x else A.1 16) - (if 17 = j then x else A.1 17)
    rw [if_neg (Ne.symm hj.2.1), if_neg (Ne.symm hj.2.2), rII_ne]
    · exact h.2
    · by_cases e1 : 18 = (sc j).1
      · exact Or.inr (fun e2 => h18 j hj.1 (Prod.ext e1.symm e2.symm))
      · exact Or.inl e1
theorem SO_ag {l : List Int32} (g : ag X s s') (h : SO_ s l) (h1 : X 24 1 = false ∧ X 24 2 = false) (h2 : ∀ k, X 25 k = false) : SO_ s' l := by
  obtain ⟨st, a, b, c, d, e⟩ := h
  exact ⟨st, a, (g.2 _ _ h1.1).trans b, (g.2 _ _ h1.2).trans c, d, fun i hi => by rw [g.2 _ _ (h2 _)]; exact e i hi⟩
theorem SX_ag {l : List Int32} (g : ag X s s') (h : SX s l) (h1 : X 18 5 = false ∧ X 18 6 = false ∧ X 18 1 = false ∧ X 19 1 = false) (h2 : ∀ k, X 20 k = false) : SX s' l :=
  ⟨(g.2 _ _ h1.1).trans h.1, h.2.1, fun h3 => ⟨(g.2 _ _ h1.2.1).trans (h.2.2 h3).1, (g.2 _ _ h1.2.2.1).trans (h.2.2 h3).2.1, MT_ag g (h.2.2 h3).2.2 h1.2.2.2 h2⟩⟩
theorem SXt_ag {t : Bool} {l : List Int32} (g : ag X s s') (h : SXt t s l) (h1 : X 18 5 = false ∧ X 18 6 = false ∧ X 18 1 = false ∧ X 19 1 = false) (h2 : ∀ k, X 20 k = false) : SXt t s' l := by
  unfold SXt at *
  split
  · rename_i c; rw [if_pos c] at h; exact (g.2 _ _ h1.1).trans h
  · rename_i c; rw [if_neg c] at h; exact SX_ag g h h1 h2
theorem SXt_0 {t : Bool} (h : sI s 18 5 = 0) : SXt t s [] := by
  unfold SXt
  split
  · exact h
  · exact ⟨h, by decide, fun h2 => absurd h2 (by simp)⟩
theorem SL_ag {A : aS} (g : ag X s s') (h : SL s A) (h1 : X 6 1 = false ∧ X 6 2 = false ∧ X 6 3 = false) : SL s' A := by
  unfold SL
  rw [ag_P g, g.2 _ _ h1.1, g.2 _ _ h1.2.1, g.2 _ _ h1.2.2]
  simp only [cA_ag g]
  exact h
theorem SL_A {A B : aS} (h : SL s A) (e1 : B.2.1 2 = A.2.1 2) (e2 : B.2.2 1 = A.2.2 1) (e3 : B.1 6 = A.1 6) (e4 : B.1 9 = A.1 9) : SL s B := by
  unfold SL
  rw [e1, e2, e3, e4]
  exact h
theorem ptS_ag (g : ag X s s') {p : Nat} (h : ∀ k, X (pA s p) k = false) : ptS s' p = ptS s p := by
  unfold ptS
  rw [pA_ag g, g.2 _ _ (h _), g.2 _ _ (h _), g.2 _ _ (h _), g.2 _ _ (h _), g.2 _ _ (h _), g.2 _ _ (h _), g.2 _ _ (h _)]
theorem SP_ag {q : List (List Int32)} (g : ag X s s') (d : DP s q.length) (h : SP s q) (h1 : X 2 2 = false) (h2 : ∀ a k, 58 ≤ a → X a k = false) : SP s' q := by
  refine ⟨(g.2 _ _ h1).trans h.1, fun p hp => ?_, fun j hj => by rw [ag_P g, pA_ag g]; exact h.2.2 j hj⟩
  have hx := fun k => h2 (pA s p) k (d.1 p hp).2.2
  rw [ptS_ag g hx]
  refine ⟨(h.2.1 p hp).1, ?_⟩
  unfold poS
  rw [pA_ag g, g.2 _ _ (hx _), g.2 _ _ (hx _), g.2 _ _ (hx _)]
  exact (h.2.1 p hp).2
theorem cmS_ag {n c : Nat} {e : List Int32} (g : ag X s s') (hc : ∀ k, X (cA s c) k = false) (hp : ∀ p, p < n → X (pA s p) 0 = false) (h : cmS s n c e) : cmS s' n c e := by
  obtain ⟨k, pt, h1, h2, h3, h4⟩ := h
  refine ⟨k, pt, h1, ?_, ?_, ?_⟩
  · rw [cA_ag g, g.2 _ _ (hc _), g.2 _ _ (hc _), g.2 _ _ (hc _)]; exact h2
  · rw [cA_ag g, g.2 _ _ (hc _)]; exact h3
  · rw [ag_P g, cA_ag g]
    rcases h4 with h4 | ⟨p, a, b, c, d⟩
    · exact Or.inl h4
    · exact Or.inr ⟨p, a, b, by rw [pA_ag g]; exact c, by rw [pA_ag g, g.2 _ _ (hp p a)]; exact d⟩
theorem SC_ag {n : Nat} {q : List (List Int32)} (g : ag X s s') (dp : DP s n) (dc : DC s q.length) (h : SC s n q) (h1 : X 0 3 = false) (h2 : ∀ a k, 58 ≤ a → X a k = false) : SC s' n q :=
  ⟨(g.2 _ _ h1).trans h.1, fun c hc => cmS_ag g (fun k => h2 _ k (dc.1 c hc).2.2) (fun p hp => h2 _ 0 (dp.1 p hp).2.2) (h.2.1 c hc), h.2.2⟩
theorem SN_ag {q : List (List Int32)} (g : ag X s s') (h : SN s q) (h1 : X 21 2 = false ∧ X 21 3 = false) (h2 : ∀ k, X 22 k = false ∧ X 23 k = false) : SN s' q := by
  obtain ⟨st, a, b, c, d, e⟩ := h
  exact ⟨st, a, (g.2 _ _ h1.1).trans b, (g.2 _ _ h1.2).trans c, d, fun i hi => by rw [g.2 _ _ (h2 _).1, g.2 _ _ (h2 _).2]; exact e i hi⟩
theorem evS_ag {n pl : Nat} {e : List Int32} (g : ag X s s') (hp : ∀ p, p < n → X (pA s p) 0 = false ∧ X (pA s p) 1 = false) (h : evS s n pl e) : evS s' n pl e := by
  obtain ⟨p, k, v, q, t, a1, a2, a3, a4, a5, a6, a7, a8⟩ := h
  refine ⟨p, k, v, q, t, a1, a2, a3, ?_, a5, ?_, ?_, ?_⟩
  · rw [ag_P g, pA_ag g]; exact a4
  · rw [pA_ag g, g.2 _ _ (hp p a3).1]; exact a6
  · rw [pA_ag g, g.2 _ _ (hp p a3).2, g.1.2.2.1]; exact a7
  · rw [g.1.2.2.1]; exact a8
theorem SE_ag {n : Nat} {qs qw : List (List Int32)} (g : ag X s s') (dp : DP s n) (h : SE s n qs qw) (h1 : X 8 4 = false ∧ X 8 5 = false ∧ X 8 6 = false) (h2 : ∀ a k, 58 ≤ a → X a k = false) : SE s' n qs qw := by
  obtain ⟨st, a, b, c, d, e, f⟩ := h
  exact ⟨st, a, (g.2 _ _ h1.1).trans b, (g.2 _ _ h1.2.1).trans c, (g.2 _ _ h1.2.2).trans d, e, fun i hi => evS_ag g (fun p hp => ⟨h2 _ 0 (dp.1 p hp).2.2, h2 _ 1 (dp.1 p hp).2.2⟩) (f i hi)⟩
theorem DA_at (d : DA s) {i : Nat} (hi : i < 60) (h : ¬ sP s 15 i = none) : sP s 15 i = some (mA s i) ∧ MG s (mA s i) (rA s i) ∧ 58 ≤ mA s i ∧ 58 ≤ rA s i := by
  rcases d.1 i hi with h1 | h1
  · exact absurd h1 h
  · exact h1
theorem SA_ag {q : List (List Int32)} (g : ag X s s') (da : DA s) (h : SA s q) (h1 : X 14 2 = false ∧ X 14 3 = false) (h2 : ∀ a k, 58 ≤ a → X a k = false) : SA s' q := by
  obtain ⟨st, a, b, c, d, e⟩ := h
  refine ⟨st, a, (g.2 _ _ h1.1).trans b, (g.2 _ _ h1.2).trans c, d, fun i hi => ?_⟩
  have h3 := e i hi
  have h4 := DA_at da (Nat.mod_lt _ (by omega)) h3.1
  rw [ag_P g, mA_ag g, rA_ag g]
  exact ⟨h3.1, MT_ag g h3.2 (h2 _ _ h4.2.2.1) (fun k => h2 _ _ h4.2.2.2)⟩
theorem SM_ag (g : ag X s s') (h : SM s) (h1 : X 12 1 = false ∧ X 16 1 = false ∧ X 19 1 = false) (h2 : ∀ k, X 13 k = false ∧ X 17 k = false ∧ X 20 k = false ∧ X 7 k = false ∧ X 1 k = false) : SM s' := by
  obtain ⟨⟨l1, a⟩, ⟨l2, b⟩, ⟨l3, c⟩, d⟩ := h
  exact ⟨⟨l1, MT_ag g a h1.1 (fun k => (h2 k).1)⟩, ⟨l2, MT_ag g b h1.2.1 (fun k => (h2 k).2.1)⟩, ⟨l3, MT_ag g c h1.2.2 (fun k => (h2 k).2.2.1)⟩, SG_at d (funext fun k => g.2 _ _ (h2 k).2.2.2.2) (funext fun k => g.2 _ _ (h2 k).2.2.2.1)⟩
end
