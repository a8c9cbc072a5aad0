/-! ===== the abstract state: ints, rows of ints, rows of rows ===== -/
abbrev aS : Type := (Nat → Int32) × (Nat → List Int32) × (Nat → List (List Int32))
def ui (A : aS) (k : Nat) (x : Int32) : aS := (fun j => if j = k then x else A.1 j, A.2.1, A.2.2)
def ul (A : aS) (k : Nat) (x : List Int32) : aS := (A.1, fun j => if j = k then x else A.2.1 j, A.2.2)
def uq (A : aS) (k : Nat) (x : List (List Int32)) : aS := (A.1, A.2.1, fun j => if j = k then x else A.2.2 j)
/-! ints: 0 .. 6 settings, 7 link, 8 reason, 9 now, 10 latest frame, 11 test at, 12 test waits, 13 passed, 14 freezes, 15 sent, 16 came, 17 told, 18 first at, 19 .. 24 clock, 25 clock set; rows: 0 out, 1 frame, 2 selection; rows of rows: 0 points, 1 commands, 2 events sent, 3 events waiting, 4 answers, 5 frames sent -/
def mcL : List (Nat × Nat) := [(27, 0), (27, 1), (27, 2), (27, 3), (27, 4), (27, 5), (27, 6), (26, 35), (26, 36), (26, 20), (26, 41), (26, 43), (26, 42), (26, 44), (26, 19), (26, 37), (26, 38), (26, 39), (26, 40), (41, 0), (41, 1), (41, 2), (41, 3), (41, 4), (41, 5), (26, 22)]
def mc (k : Nat) : Nat × Nat := mcL.getD k (0, 0)
def MI (s : eS) (A : aS) : Prop := ∀ k, k < 26 → sI s (mc k).1 (mc k).2 = A.1 k
def MX (s : eS) (l : List Int32) : Prop := sI s 26 51 = nI l.length ∧ rd (sI s 55) l.length = l
def ML (s : eS) (l : List Int32) : Prop := (sI s 26 15 = -1 ∧ l = []) ∨ ∃ c, c < 12 ∧ sI s 26 15 = nI c ∧ l = [nI c, sI s 26 17, sI s 26 16] ++ rd (sI s 40) (if sI s 35 c = 2 then 3 else 1)
def ptM (s : eS) (i : Nat) : List Int32 := [sI s 28 i, sI s 29 i, sI s 30 i, sI s 31 i, sI s 32 i, sI s 33 i, sI s 34 i]
def MP (s : eS) (q : List (List Int32)) : Prop := sI s 26 1 = nI q.length ∧ q.length ≤ 24 ∧ rd (ptM s) q.length = q ∧ ∀ j, q.length ≤ j → sI s 32 j = 0 ∧ sI s 33 j = 0 ∧ sI s 34 j = 0
def cmM (s : eS) (i : Nat) : List Int32 := [sI s 35 i, sI s 36 i, sI s 37 i, sI s 38 i, sI s 39 i]
def MC (s : eS) (q : List (List Int32)) : Prop := sI s 26 9 = nI q.length ∧ q.length ≤ 12 ∧ rd (cmM s) q.length = q ∧ ∀ j, q.length ≤ j → sI s 39 j = 0
def ME (s : eS) (q : List (List Int32)) : Prop := sI s 26 23 = nI q.length ∧ rd (evM s) q.length = q
def esM (s : eS) (i : Nat) : List Int32 := [sI s 48 i, sI s 49 i, sI s 50 i] ++ rd (fun k => sI s 51 (7 * i + k)) 7
def esF (s : eS) : Nat → Nat → List (List Int32)
  | _, 0 => []
  | j, d + 1 => (if sI s 47 j = 0 then [] else [esM s j]) ++ esF s (j + 1) d
def snM (s : eS) (i : Nat) : List Int32 := [sI s 46 i, sI s 47 i]
def MS (s : eS) (q e : List (List Int32)) : Prop := sI s 26 28 = nI q.length ∧ q.length ≤ 12 ∧ rd (snM s) q.length = q ∧ esF s 0 q.length = e
def anM (s : eS) (i : Nat) : List Int32 := rd (fun k => sI s 53 (249 * i + k)) (sI s 52 i).toNatClampNeg
def MA (s : eS) (q : List (List Int32)) : Prop := sI s 26 45 = nI q.length ∧ q.length ≤ 60 ∧ rd (anM s) q.length = q ∧ ∀ i, i < q.length → ∃ n, n ≤ 249 ∧ sI s 52 i = nI n
def RM (s : eS) (A : aS) : Prop := MI s A ∧ OU s (A.2.1 0) ∧ MX s (A.2.1 1) ∧ ML s (A.2.1 2) ∧ MP s (A.2.2 0) ∧ MC s (A.2.2 1) ∧ MS s (A.2.2 5) (A.2.2 2) ∧ ME s (A.2.2 3) ∧ MA s (A.2.2 4)
abbrev xM : Nat → Nat → Bool := fun a _ => decide (26 ≤ a) && decide (a < 58) && !(a == 55) && !(a == 57)
/-! what isn't touched stays -/
section MF
variable {X : Nat → Nat → Bool} {s s' : eS}
theorem OU_ag {l : List Int32} (g : ag X s s') (h : OU s l) (h1 : X 26 49 = false) (h2 : ∀ k, X 54 k = false) : OU s' l := ⟨(g.2 _ _ h1).trans h.1, by rw [rd_congr (fun i _ => g.2 54 i (h2 i))]; exact h.2⟩
theorem MX_ag {l : List Int32} (g : ag X s s') (h : MX s l) (h1 : X 26 51 = false) (h2 : ∀ k, X 55 k = false) : MX s' l := ⟨(g.2 _ _ h1).trans h.1, by rw [rd_congr (fun i _ => g.2 55 i (h2 i))]; exact h.2⟩
theorem DR_ag {l : List Int32} (g : ag X s s') (h : DR s l) (h1 : X 26 53 = false) (h2 : ∀ k, X 56 k = false) : DR s' l := ⟨(g.2 _ _ h1).trans h.1, by rw [rd_congr (fun i _ => g.2 56 i (h2 i))]; exact h.2⟩
theorem ML_ag {l : List Int32} (g : ag X s s') (h : ML s l) (h1 : X 26 15 = false ∧ X 26 16 = false ∧ X 26 17 = false) (h2 : ∀ k, X 40 k = false ∧ X 35 k = false) : ML s' l := by
  rcases h with ⟨a, b⟩ | ⟨c, hc, a, b⟩
  · exact Or.inl ⟨(g.2 _ _ h1.1).trans a, b⟩
  · refine Or.inr ⟨c, hc, (g.2 _ _ h1.1).trans a, ?_⟩
    rw [g.2 26 17 h1.2.2, g.2 26 16 h1.2.1, g.2 35 c (h2 c).2, rd_congr (fun i _ => g.2 40 i (h2 i).1)]
    exact b
theorem MP_ag {q : List (List Int32)} (g : ag X s s') (h : MP s q) (h1 : X 26 1 = false) (h2 : ∀ k, X 28 k = false ∧ X 29 k = false ∧ X 30 k = false ∧ X 31 k = false ∧ X 32 k = false ∧ X 33 k = false ∧ X 34 k = false) : MP s' q := by
  refine ⟨(g.2 _ _ h1).trans h.1, h.2.1, ?_, fun j hj => by rw [g.2 _ _ (h2 j).2.2.2.2.1, g.2 _ _ (h2 j).2.2.2.2.2.1, g.2 _ _ (h2 j).2.2.2.2.2.2]; exact h.2.2.2 j hj⟩
  rw [rd_congr (g := ptM s) (fun i _ => ?_)]
  · exact h.2.2.1
  · obtain ⟨a1, a2, a3, a4, a5, a6, a7⟩ := h2 i
    unfold ptM
    rw [g.2 _ _ a1, g.2 _ _ a2, g.2 _ _ a3, g.2 _ _ a4, g.2 _ _ a5, g.2 _ _ a6, g.2 _ _ a7]
theorem MC_ag {q : List (List Int32)} (g : ag X s s') (h : MC s q) (h1 : X 26 9 = false) (h2 : ∀ k, X 35 k = false ∧ X 36 k = false ∧ X 37 k = false ∧ X 38 k = false ∧ X 39 k = false) : MC s' q := by
  refine ⟨(g.2 _ _ h1).trans h.1, h.2.1, ?_, fun j hj => by rw [g.2 _ _ (h2 j).2.2.2.2]; exact h.2.2.2 j hj⟩
  rw [rd_congr (g := cmM s) (fun i _ => ?_)]
  · exact h.2.2.1
  · obtain ⟨a1, a2, a3, a4, a5⟩ := h2 i
    unfold cmM
    rw [g.2 _ _ a1, g.2 _ _ a2, g.2 _ _ a3, g.2 _ _ a4, g.2 _ _ a5]
theorem ME_ag {q : List (List Int32)} (g : ag X s s') (h : ME s q) (h1 : X 26 23 = false) (h2 : ∀ k, X 42 k = false ∧ X 43 k = false ∧ X 44 k = false ∧ X 45 k = false) : ME s' q := by
  refine ⟨(g.2 _ _ h1).trans h.1, ?_⟩
  rw [rd_congr (g := evM s) (fun i _ => ?_)]
  · exact h.2
  · exact evM_congr (g.2 _ _ (h2 i).1) (g.2 _ _ (h2 i).2.1) (g.2 _ _ (h2 i).2.2.1) (fun k _ => g.2 _ _ (h2 _).2.2.2)
theorem esM_ag (g : ag X s s') (h2 : ∀ k, X 48 k = false ∧ X 49 k = false ∧ X 50 k = false ∧ X 51 k = false) (i : Nat) : esM s' i = esM s i := by
  unfold esM
  rw [g.2 _ _ (h2 i).1, g.2 _ _ (h2 i).2.1, g.2 _ _ (h2 i).2.2.1, rd_congr (fun k _ => g.2 51 _ (h2 (7 * i + k)).2.2.2)]
theorem esF_ag (g : ag X s s') (h2 : ∀ k, X 48 k = false ∧ X 49 k = false ∧ X 50 k = false ∧ X 51 k = false) (h3 : ∀ k, X 47 k = false) : ∀ (d j : Nat), esF s' j d = esF s j d
  | 0, _ => rfl
  | d + 1, j => by
    unfold esF
    rw [g.2 47 j (h3 j), esM_ag g h2, esF_ag g h2 h3 d (j + 1)]
theorem MS_ag {q e : List (List Int32)} (g : ag X s s') (h : MS s q e) (h1 : X 26 28 = false) (h2 : ∀ k, X 48 k = false ∧ X 49 k = false ∧ X 50 k = false ∧ X 51 k = false) (h3 : ∀ k, X 46 k = false ∧ X 47 k = false) : MS s' q e := by
  refine ⟨(g.2 _ _ h1).trans h.1, h.2.1, ?_, ?_⟩
  · rw [rd_congr (g := snM s) (fun i _ => by unfold snM; rw [g.2 _ _ (h3 i).1, g.2 _ _ (h3 i).2])]
    exact h.2.2.1
  · rw [esF_ag g h2 (fun k => (h3 k).2)]
    exact h.2.2.2
theorem MA_ag {q : List (List Int32)} (g : ag X s s') (h : MA s q) (h1 : X 26 45 = false) (h2 : ∀ k, X 52 k = false ∧ X 53 k = false) : MA s' q := by
  refine ⟨(g.2 _ _ h1).trans h.1, h.2.1, ?_, fun i hi => by rw [g.2 _ _ (h2 i).1]; exact h.2.2.2 i hi⟩
  rw [rd_congr (g := anM s) (fun i _ => by unfold anM; rw [g.2 _ _ (h2 i).1, rd_congr (fun k _ => g.2 53 _ (h2 _).2)])]
  exact h.2.2.1
theorem MI_ag {A : aS} (g : ag X s s') (h : MI s A) (h1 : ∀ k, k < 26 → X (mc k).1 (mc k).2 = false) : MI s' A := fun k hk => (g.2 _ _ (h1 k hk)).trans (h k hk)
theorem MI_set {A : aS} {a k j : Nat} {x : Int32} (h : MI s A) (hj : ∀ i, i < 26 → ((mc i = (a, k)) ↔ i = j)) : MI (e_I s a k x) (ui A j x) := by
  intro i hi
  show _ = if i = j then x else A.1 i
  by_cases hij : i = j
  · rw [if_pos hij]
    have := (hj i hi).mpr hij
    rw [this]
    exact rII_eq
  · rw [if_neg hij, ← h i hi]
    refine rII_ne ?_
    by_cases h1 : (mc i).1 = a
    · by_cases h2 : (mc i).2 = k
      · exact absurd ((hj i hi).mp (Prod.ext h1 h2)) hij
      · exact Or.inr h2
    · exact Or.inl h1
theorem MI_no {A : aS} {a k : Nat} {x : Int32} (h : MI s A) (hj : ∀ i, i < 26 → mc i ≠ (a, k)) : MI (e_I s a k x) A := by
  intro i hi
  rw [← h i hi]
  refine rII_ne ?_
  by_cases h1 : (mc i).1 = a
  · by_cases h2 : (mc i).2 = k
    · exact absurd (Prod.ext h1 h2) (hj i hi)
    · exact Or.inr h2
  · exact Or.inl h1
theorem MI_A {A B : aS} (h : MI s A) (e : A.1 = B.1) : MI s B := fun k hk => by rw [← e]; exact h k hk
end MF
