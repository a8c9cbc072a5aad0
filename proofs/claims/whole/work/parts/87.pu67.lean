/-! ===== point ===== -/
theorem oL_SO (q : List (List Int32)) : SO (fun i => pg q i 1) (oL q) := by
  have := List.pairwise_mergeSort (le := fun a b => decide (pg q a 1 ≤ pg q b 1)) (fun a b c h1 h2 => decide_eq_true (Int32.le_trans (of_decide_eq_true h1) (of_decide_eq_true h2))) (fun a b => by
      rcases Int32.le_total (pg q a 1) (pg q b 1) with z | z
      · rw [decide_eq_true z, Bool.true_or]
      · rw [decide_eq_true z, Bool.or_true]) (List.range q.length)
  have pw := this.imp (fun h => of_decide_eq_true h)
  rw [List.pairwise_iff_getElem] at pw
  intro j k hjk hk
  have := pw j k (Nat.lt_trans hjk hk) hk hjk
  show pg q ((oL q).getD j 0) 1 ≤ pg q ((oL q).getD k 0) 1
  rw [List.getD_eq_getElem?_getD, List.getD_eq_getElem?_getD, List.getElem?_eq_getElem (Nat.lt_trans hjk hk), List.getElem?_eq_getElem hk]
  exact this
theorem pg_app {q : List (List Int32)} {row : List Int32} {i : Nat} (h : i < q.length) (k : Nat) : pg (q ++ [row]) i k = pg q i k := by
  unfold pg
  rw [show (q ++ [row]).getD i [] = q.getD i [] by rw [List.getD_eq_getElem?_getD, List.getElem?_append_left h, ← List.getD_eq_getElem?_getD]]
theorem row_app {q : List (List Int32)} {row : List Int32} {i : Nat} (h : i < q.length) : (q ++ [row]).getD i [] = q.getD i [] := by
  rw [List.getD_eq_getElem?_getD, List.getElem?_append_left h, ← List.getD_eq_getElem?_getD]
theorem row_last {q : List (List Int32)} {row : List Int32} : (q ++ [row]).getD q.length [] = row := by
  rw [List.getD_eq_getElem?_getD, List.getElem?_append_right (Nat.le_refl _), Nat.sub_self]; rfl
theorem pg_last {q : List (List Int32)} {row : List Int32} (k : Nat) : pg (q ++ [row]) q.length k = row.getD k 0 := by
  unfold pg; rw [row_last]
theorem oL_get {q : List (List Int32)} {j : Nat} (h : j < q.length) : (oL q).getD j 0 < q.length := oL_lt (by
  rw [List.getD_eq_getElem?_getD, List.getElem?_eq_getElem (by rw [oL_len]; exact h)]
  exact List.getElem_mem _)
theorem oL_ins {q : List (List Int32)} {row : List Int32} (u : UQ (q ++ [row])) {p : Nat} (hp : p ≤ q.length) (h1 : ∀ j, p ≤ j → j < q.length → row.getD 1 0 ≤ pg q ((oL q).getD j 0) 1) (h2 : p = 0 ∨ ¬ row.getD 1 0 ≤ pg q ((oL q).getD (p - 1) 0) 1) : oL (q ++ [row]) = (oL q).take p ++ q.length :: (oL q).drop p := by
  have hl : (q ++ [row]).length = q.length + 1 := by rw [List.length_append]; rfl
  have so : SO (fun i => pg (q ++ [row]) i 1) (oL q) := fun j k hjk hk => by
    have := oL_SO q j k hjk hk
    rw [oL_len] at hk
    show pg (q ++ [row]) _ 1 ≤ pg (q ++ [row]) _ 1
    rw [pg_app (oL_get (by omega)), pg_app (oL_get hk)]
    exact this
  have si := SO_ins so (i := q.length) (p := p) (by rw [oL_len]; exact hp) (fun j hj hj2 z => by
    rw [oL_len] at hj2
    have z' : pg (q ++ [row]) ((oL q).getD j 0) 1 ≤ pg (q ++ [row]) q.length 1 := z
    have hg := oL_get (q := q) hj2
    have e : pg (q ++ [row]) ((oL q).getD j 0) 1 = pg (q ++ [row]) q.length 1 := Int32.le_antisymm z' (by rw [pg_last, pg_app hg]; exact h1 j hj hj2)
    have := u _ _ (by omega) (by omega) e
    omega) (by
    by_cases c : p = 0
    · exact Or.inl c
    · refine Or.inr ?_
      show pg (q ++ [row]) ((oL q).getD (p - 1) 0) 1 ≤ pg (q ++ [row]) q.length 1
      rw [pg_last, pg_app (oL_get (by omega))]
      exact (Int32.le_total _ _).resolve_right (h2.resolve_left c))
  have pm : ((oL q).take p ++ q.length :: (oL q).drop p).Perm (List.range (q ++ [row]).length) := by
    rw [hl, List.range_succ]
    refine (ins_perm _ _ _).trans ?_
    have p1 : (oL q).Perm (List.range q.length) := List.mergeSort_perm _ _
    exact (List.Perm.cons _ p1).trans (List.perm_append_singleton _ _).symm
  have p2 : (oL (q ++ [row])).Perm (List.range (q ++ [row]).length) := List.mergeSort_perm _ _
  refine List.Perm.eq_of_pairwise (le := fun a b => pg (q ++ [row]) a 1 ≤ pg (q ++ [row]) b 1) (fun a b ha hb g1 g2 => ?_) (SO_pw (oL_SO (q ++ [row]))) (SO_pw si) (p2.trans pm.symm)
  exact u a b (List.mem_range.mp (p2.mem_iff.mp ha)) (List.mem_range.mp (pm.mem_iff.mp hb)) (Int32.le_antisymm g1 g2)
theorem EX_Q4 {P : Nat → Nat → Bool} {s s1 s2 : eS} (g : EX P s s1) (q : Q4 s1 s2) (h4 : ∀ k, P 4 k = true) : EX P s s2 := by
  obtain ⟨⟨a1, a2, a3, a4, a5, a6⟩, a7⟩ := q
  refine ⟨by rw [a5]; exact g.1, fun a ha => ⟨by rw [a1, a2]; exact (g.2 a ha).1, fun k hk => ?_⟩⟩
  have h1 := (g.2 a ha).2 k hk
  rw [a3, a4, a7 a k (fun e => by rw [e, h4] at hk; cases hk)]
  exact h1
abbrev xNp (n : Nat) : Nat → Nat → Bool := fun a k => (a == 3 && k == n) || a == 4 || (a == 2 && k == 2)
/-- what holds behind the new POINT -/
theorem RS_newPt {D : Nat} {s s' : eS} (h : SH s) {A : aS} (r : RS false D s A) (g : EX (xNp (A.2.2 0).length) s s') (hn : (A.2.2 0).length < 24) {so ad : Nat} {gr ti : Int32} (hso : so < 7) (had : ad < 2 ^ 24) (u : UQ (A.2.2 0 ++ [[nI so, nI ad, gr, ti, 0, 0, 0]])) (z1 : sn s' = sn s + 1) (z2 : ss s' = ss s + 7) (k1 : sK s' (sn s) = 106) (e22 : sI s' 2 2 = nI ((A.2.2 0).length + 1)) (e3 : sP s' 3 (A.2.2 0).length = some (sn s)) (v0 : sI s' (sn s) 0 = nI so) (v1 : sI s' (sn s) 1 = nI ad) (v2 : sI s' (sn s) 2 = gr) (v3 : sI s' (sn s) 3 = ti) (v4 : sI s' (sn s) 4 = 0) (v5 : sI s' (sn s) 5 = 0) (v6 : sI s' (sn s) 6 = 0) {p : Nat} (hp : p ≤ (A.2.2 0).length) (o1 : ∀ j, j < p → sP s' 4 j = some (pA s ((oL (A.2.2 0)).getD j 0))) (o2 : sP s' 4 p = some (sn s)) (o3 : ∀ j, p ≤ j → j < (A.2.2 0).length → sP s' 4 (j + 1) = some (pA s ((oL (A.2.2 0)).getD j 0))) (o4 : ∀ j, p ≤ j → j < (A.2.2 0).length → nI ad ≤ pg (A.2.2 0) ((oL (A.2.2 0)).getD j 0) 1) (o5 : p = 0 ∨ ¬ nI ad ≤ pg (A.2.2 0) ((oL (A.2.2 0)).getD (p - 1) 0) 1) : RS false D s' (uq A 0 (A.2.2 0 ++ [[nI so, nI ad, gr, ti, 0, 0, 0]])) := by
  have d := rs_d r
  have h58 := h.1.1
  have hl : (A.2.2 0 ++ [[nI so, nI ad, gr, ti, 0, 0, 0]]).length = (A.2.2 0).length + 1 := by rw [List.length_append]; rfl
  generalize hrow : [nI so, nI ad, gr, ti, (0 : Int32), 0, 0] = row at *
  have r1 : row.getD 1 0 = nI ad := by rw [← hrow]; rfl
  have oi := oL_ins u hp (by rw [r1]; exact o4) (by rw [r1]; exact o5)
  generalize hq : A.2.2 0 = q at *
  have p3 : ∀ k, k < q.length → xNp q.length 3 k = false := fun k hk => by simp [xNp]; omega
  have big : ∀ a k, 58 ≤ a → xNp q.length a k = false := fun a k ha => by simp [xNp]; omega
  have pAn : pA s' q.length = sn s := by unfold pA; rw [e3]; rfl
  have pAo : ∀ i, i < q.length → pA s' i = pA s i := fun i hi => pA_ex g h (p3 i hi)
  have lt' : ∀ i, i < q.length → pA s i < sn s := fun i hi => (d.1.1 i hi).2.1.1
  have dp : DP s' (q.length + 1) := by
    have d0 := DP_ex g h d.1 p3
    refine ⟨fun i hi => ?_, fun i j hi hj e => ?_⟩
    · by_cases c : i < q.length
      · exact d0.1 i c
      · have e : i = q.length := by omega
        subst e
        rw [pAn]
        exact ⟨e3, ⟨by omega, k1⟩, by omega⟩
    · by_cases ci : i < q.length
      · by_cases cj : j < q.length
        · exact d0.2 i j ci cj e
        · have e2 : j = q.length := by omega
          rw [e2, pAn, pAo i ci] at e
          have := lt' i ci
          omega
      · have e1 : i = q.length := by omega
        by_cases cj : j < q.length
        · rw [e1, pAn, pAo j cj] at e
          have := lt' j cj
          omega
        · omega
  have nu : nul s' = nul s := by
    unfold nul
    congr 2
    funext i
    rw [exP g (sh_lt h (by decide)) (by simp [xNp])]
  have dz : DZ s' (q.length + 1) (A.2.2 1).length := by
    obtain ⟨y1, y2, y3, y4⟩ := d.2.2.2
    refine ⟨by omega, y2, ?_, ?_⟩ <;> rw [nu] <;> omega
  have dd : DS s' (q ++ [row]).length (A.2.2 1).length := by
    rw [hl]
    exact ⟨dp, DC_ex g h d.2.1 (fun k hk => by simp [xNp]), DA_ex g h d.2.2.1 (fun k => by simp [xNp]) (fun a ha => big a 0 ha), dz⟩
  have sp : SP s' (q ++ [row]) := by
    have sp0 := rs_p r
    rw [hq] at sp0
    refine ⟨by rw [e22, hl], fun i hi => ?_, fun j hj => ?_⟩
    · rw [hl] at hi
      by_cases c : i < q.length
      · have d1 := (d.1.1 i c).2
        have hx := fun k => big (pA s i) k d1.2
        rw [row_app c, ptS_ex g h (p3 i c) d1.1.1 hx]
        refine ⟨(sp0.2.1 i c).1, ?_⟩
        unfold poS
        rw [pAo i c, exI g d1.1.1 (hx _), exI g d1.1.1 (hx _), exI g d1.1.1 (hx _)]
        exact (sp0.2.1 i c).2
      · have e : i = q.length := by omega
        subst e
        rw [row_last]
        unfold ptS poS
        rw [pAn, v0, v1, v2, v3, v4, v5, v6]
        exact ⟨hrow.symm, ⟨so, hso, rfl⟩, ⟨ad, had, rfl⟩, fun _ => rfl, fun _ => rfl⟩
    · rw [hl] at hj
      rw [oi, ins_getD _ _ (by rw [oL_len]; exact hp)]
      by_cases c1 : j < p
      · rw [if_pos c1, o1 j c1, pAo _ (oL_get (by omega))]
      · rw [if_neg c1]
        by_cases c2 : j = p
        · subst c2
          rw [if_pos rfl, o2, pAn]
        · rw [if_neg c2, pAo _ (oL_get (by omega))]
          have := o3 (j - 1) (by omega) (by omega)
          rw [show j - 1 + 1 = j by omega] at this
          exact this
  have sc' : SC s' (q ++ [row]).length (A.2.2 1) := by
    have c0 := rs_c r
    rw [hq] at c0
    have c1 := SC_ex g h d.1 d.2.1 c0 (by simp [xNp]) (fun k hk => by simp [xNp]) p3 big
    rw [hl]
    refine ⟨c1.1, fun c hc => ?_, c1.2.2⟩
    obtain ⟨k, pt, y1, y2, y3, y4⟩ := c1.2.1 c hc
    refine ⟨k, pt, y1, y2, y3, ?_⟩
    rcases y4 with y | ⟨p, y5, y6⟩
    · exact Or.inl y
    · exact Or.inr ⟨p, by omega, y6⟩
  have se : SE s' (q ++ [row]).length (A.2.2 2) (A.2.2 3) := by
    have e0 := rs_e r
    rw [hq] at e0
    obtain ⟨st, a1, a2, a3, a4, a5, a6⟩ := SE_ex g h d.1 e0 (by simp [xNp]) (fun k => by simp [xNp]) p3 big
    rw [hl]
    refine ⟨st, a1, a2, a3, a4, a5, fun i hi => ?_⟩
    obtain ⟨p, k, v, q', t, b1', b2', b3', b4⟩ := a6 i hi
    exact ⟨p, k, v, q', t, b1', b2', by omega, b4⟩
  have i : SI s' A := SI_ex g h (rs_i r) (fun k hk _ => by
    have : ∀ k, k < 26 → (sc k).1 ≠ 3 ∧ (sc k).1 ≠ 4 ∧ (sc k).1 ≠ 2 := by decide
    have := this k hk
    simp [xNp, this]) (by simp [xNp])
  have o : SO_ s' (A.2.1 0) := SO_ex g h (rs_o r) (by simp [xNp]) (fun k => by simp [xNp])
  have x : SXt false s' (A.2.1 1) := SXt_ex g h (rs_x r) (by simp [xNp]) (fun k => by simp [xNp])
  have l : SL s' A := SL_ex g h (rs_l r) (by simp [xNp]) (fun c hc => by simp [xNp])
  have n : SN s' (A.2.2 5) := SN_ex g h (rs_n r) (by simp [xNp]) (fun k => by simp [xNp])
  have a : SA s' (A.2.2 4) := SA_ex g h d.2.2.1 (rs_a r) (by simp [xNp]) (fun k hk => by simp [xNp]) big
  have m : SM s' := SM_ex g h (rs_m r) (by simp [xNp]) (fun k => by simp [xNp])
  exact ⟨dd, i, o, x, l, sp, sc', n, se, a, m, (have z := rs_z r; z), (have f := rs_f r; f)⟩
