/-! ===== the model commands, whole ===== -/
def a_pick (A : aS) (F : List Int32) (c : Nat) (so v : Int32) : aS := if v = 0 then a_same A F 7 1 else if isT F = 0 then (if (a_same A F 7 0).1 7 = 0 then a_same A F 7 0 else ul (a_same A F 7 0) 2 ([nI c, (rb F).getD 3 0, (a_same A F 7 0).1 9] ++ obF F so)) else a_same A F 7 0
set_option maxRecDepth 100000 in
theorem M_pick {s : eS} (h : SH s) {A : aS} (r : RM s A) (w : W1 A) {F : List Int32} (fr : FR s F) {n : Nat} (f : fullF F n) {c : Nat} (hc : c < (A.2.2 1).length) {so : Int32} (hso : pg (A.2.2 1) c 0 = so) (v : Int32) (hn : if so = 2 then 12 ≤ n else 10 ≤ n) : ∃ s', mX12_commanded_233 26 (nI c) (if so = 2 then 11 else 9) v s = some s' ∧ SH s' ∧ ag xM s s' ∧ RM s' (a_pick A F c so v) := by
  have hn3 : 10 ≤ n := by split at hn <;> omega
  unfold mX12_commanded_233 mX12_commanded_248 mX12_commanded_299 a_pick
  by_cases cv : v = 0
  · rw [if_pos cv, if_pos cv]
    obtain ⟨s1, e1, h1, g1, r1⟩ := M_same h r w fr f (by omega) 7 1
    refine ⟨s1, ?_, h1, g1, r1⟩
    rw [b1S, oK_26 h, b1S, e1, b1S, if_pos cv]
  · rw [if_neg cv, if_neg cv]
    obtain ⟨s1, e1, h1, g1, r1⟩ := M_same h r w fr f (by omega) 7 0
    have fr1 := FR_M g1 fr
    have hc1 : c < ((a_same A F 7 0).2.2 1).length := by rw [same_q F 7 0 (Or.inr rfl)]; exact hc
    have hs1 : pg ((a_same A F 7 0).2.2 1) c 0 = so := by rw [same_q F 7 0 (Or.inr rfl)]; exact hso
    generalize a_same A F 7 0 = B at *
    have e7 : sI s1 26 35 = B.1 7 := r1.1 7 (by decide)
    have e9 : sI s1 26 20 = B.1 9 := r1.1 9 (by decide)
    rw [b1S, oK_26 h, b1S, e1, b1S, if_neg cv, oK_26 h1, b1S, M_isTest h1 fr1 f (by omega), b2S]
    by_cases ct : isT F = 0
    · rw [if_pos ct, if_pos ct, gI_26 h1, b1S, e7]
      by_cases c7 : B.1 7 = 0
      · rw [if_pos c7, if_pos c7]
        exact ⟨s1, rfl, h1, g1, r1⟩
      · rw [if_neg c7, if_neg c7, pI_26 h1, b1S]
        have h2 : SH (e_I s1 26 15 (nI c)) := SH_I h1
        have h3 : SH (e_I (e_I s1 26 15 (nI c)) 26 16 (B.1 9)) := SH_I h2
        have g3 : ag xM s1 (e_I (e_I s1 26 15 (nI c)) 26 16 (B.1 9)) := xM_I (xM_I ag_rf (by decide)) (by decide)
        have fr3 := FR_M g3 fr1
        rw [gI_26 h2, b1S, rII_ne (Or.inr (by decide)), e9, pI_26 h2, b1S, oK_26 h3, b1S, show mX12_at 26 3 _ = some ((rb F).getD 3 0, _) from M_at h3 fr3 f (k := 3) (by omega), b2S, pI_26 h3, b1S]
        have h4 : SH (e_I (e_I (e_I s1 26 15 (nI c)) 26 16 (B.1 9)) 26 17 ((rb F).getD 3 0)) := SH_I h3
        have g4 : ag xM s1 (e_I (e_I (e_I s1 26 15 (nI c)) 26 16 (B.1 9)) 26 17 ((rb F).getD 3 0)) := xM_I g3 (by decide)
        obtain ⟨s5, e5, h5, g5, k5⟩ := M_keep h4 (FR_M g4 fr1) f hn
        rw [oK_26 h4, b1S, e5, b1S]
        have G : ag xSL s1 s5 := ag_tr (ag_I (ag_I (ag_I ag_rf rfl) rfl) rfl) (ag_mono g5 (fun a k hx => by
          simp only [xSL, Bool.or_eq_false_iff] at hx
          exact hx.1))
        have hq : sI s1 35 c = so := by
          have := MC_get r1.2.2.2.2.2.1 hc1
          unfold pg at hs1
          rw [this] at hs1
          exact hs1
        refine ⟨s5, rfl, h5, ag_tr g1 (ag_tr g4 (ag_mono g5 (fun a k hx => ?_))), RM_sel G r1 (Or.inr ⟨c, Nat.lt_of_lt_of_le hc1 r1.2.2.2.2.2.1.2.1, ?_, ?_⟩)⟩
        · simp only [xM, Bool.and_eq_false_iff, decide_eq_false_iff_not, Bool.not_eq_false', beq_iff_eq] at hx
          simp only [beq_eq_false_iff_ne]
          omega
        · rw [g5.2 26 15 rfl, rII_ne (Or.inr (by decide)), rII_ne (Or.inr (by decide)), rII_eq]
        · rw [G.2 35 c rfl, hq, k5, g5.2 26 17 rfl, rII_eq, g5.2 26 16 rfl, rII_ne (Or.inr (by decide)), rII_eq]
    · rw [if_neg ct, if_neg ct]
      exact ⟨s1, rfl, h1, g1, r1⟩
/-- it may be carried out -/
def okX (A : aS) (F : List Int32) (c : Nat) (so : Int32) : Int32 := if pg (A.2.2 1) c 3 = 0 then 1 else if selI A = nI c then (if (A.2.1 2).getD 1 0 = (rb F).getD 3 0 then (if (A.2.1 2).drop 3 = obF F so then 1 else 0) else 0) else 0
/-- it may be selected -/
def okS (A : aS) (c : Nat) : Int32 := if pg (A.2.2 1) c 3 = 0 then 0 else if selI A = -1 then 1 else 0
def a_order (A : aS) (F : List Int32) (c : Nat) (so q : Int32) : aS := if q &&& 128 = 0 then a_exec A F c so q (okX A F c so) else a_pick A F c so (okS A c)
set_option maxRecDepth 100000 in
theorem M_order {s : eS} (h : SH s) {A : aS} (r : RM s A) (w : W1 A) (w3 : W3 A) {F : List Int32} (fr : FR s F) {n : Nat} (f : fullF F n) {c : Nat} (hc : c < (A.2.2 1).length) {so : Int32} (hso : pg (A.2.2 1) c 0 = so) (so3 : so = 0 ∨ so = 1 ∨ so = 2) (q : Int32) (hn : if so = 2 then 12 ≤ n else 10 ≤ n) : ∃ s', mX12_commanded_201 26 (nI c) so (if so = 2 then 11 else 9) q s = some s' ∧ SH s' ∧ ag xM s s' ∧ RM s' (a_order A F c so q) := by
  have hn' : if so = 0 ∨ so = 1 then 10 ≤ n else 12 ≤ n := by
    rcases so3 with rfl | rfl | rfl
    · exact hn
    · exact hn
    · exact hn
  have hn10 : 10 ≤ n := by split at hn <;> omega
  have hc12 : c < 12 := Nat.lt_of_lt_of_le hc r.2.2.2.2.2.1.2.1
  have hic : ¬ nI c < 0 ∧ (nI c).toNatClampNeg < 12 := nIc (by omega) hc12
  have hcm := MC_get r.2.2.2.2.2.1 hc
  have k3 : pg (A.2.2 1) c 3 = sI s 38 c := by unfold pg; rw [hcm]; rfl
  have k0 : sI s 35 c = so := by rw [← hso]; unfold pg; rw [hcm]; rfl
  unfold mX12_commanded_201 a_order
  by_cases cq : q &&& 128 = 0
  · rw [if_pos cq, if_pos cq, gP_26_13 h, b1S, b1S, aI_38 h hic, b1S, nI_clamp (by omega), ← k3]
    unfold mX12_commanded_340 mX12_commanded_344 okX
    by_cases c3 : pg (A.2.2 1) c 3 = 0
    · rw [if_pos c3, if_pos c3]
      exact M_exec h r w w3 fr f hc so q 1 hn'
    · rw [if_neg c3, if_neg c3, gI_26 h, b1S, RM_selI r]
      by_cases c4 : selI A = nI c
      · rw [if_pos c4, if_pos c4]
        have e17 : sI s 26 17 = (A.2.1 2).getD 1 0 ∧ rd (sI s 40) (if so = 2 then 3 else 1) = (A.2.1 2).drop 3 := by
          rcases r.2.2.2.1 with ⟨a, b⟩ | ⟨d, hd, a, b⟩
          · exfalso
            have : selI A = -1 := by unfold selI; rw [b]; rfl
            rw [this] at c4
            have := nI_pos (n := c) (by omega)
            rw [← c4] at this
            exact this (by decide)
          · have : selI A = nI d := by unfold selI; rw [b]; rfl
            rw [this] at c4
            have : d = c := (nI_eq (by omega) (by omega)).mp c4
            subst this
            rw [b, k0]
            exact ⟨rfl, rfl⟩
        rw [gI_26 h, b1S, e17.1, oK_26 h, b1S, show mX12_at 26 3 s = some ((rb F).getD 3 0, s) from M_at h fr f (k := 3) (by omega), b2S]
        by_cases c5 : (A.2.1 2).getD 1 0 = (rb F).getD 3 0
        · rw [if_pos c5, if_pos c5, oK_26 h, b1S, M_are h fr f hn, b2S, e17.2]
          by_cases c6 : (A.2.1 2).drop 3 = obF F so
          · rw [if_pos c6, if_neg (by decide)]
            exact M_exec h r w w3 fr f hc so q 1 hn'
          · rw [if_neg c6, if_pos rfl]
            exact M_exec h r w w3 fr f hc so q 0 hn'
        · rw [if_neg c5, if_neg c5]
          exact M_exec h r w w3 fr f hc so q 0 hn'
      · rw [if_neg c4, if_neg c4]
        exact M_exec h r w w3 fr f hc so q 0 hn'
  · rw [if_neg cq, if_neg cq, gP_26_13 h, b1S, b1S, aI_38 h hic, b1S, nI_clamp (by omega), ← k3]
    unfold mX12_commanded_232 okS
    by_cases c3 : pg (A.2.2 1) c 3 = 0
    · rw [if_pos c3, if_pos c3]
      exact M_pick h r w fr f hc hso 0 hn
    · rw [if_neg c3, if_neg c3, gI_26 h, b1S, RM_selI r]
      by_cases c4 : selI A = -1
      · rw [if_pos c4, if_pos c4]
        exact M_pick h r w fr f hc hso 1 hn
      · rw [if_neg c4, if_neg c4]
        exact M_pick h r w fr f hc hso 0 hn
/-- a value that no order can have -/
def badO (so q : Int32) : Int32 := if so = 0 then (if q &&& 2 = 0 then 0 else 1) else if so = 1 then (if q &&& 3 = 1 then 0 else if q &&& 3 = 2 then 0 else 1) else 0
def a_cmdAt (A : aS) (F : List Int32) (cause : Int32) (c : Nat) (so : Int32) : aS := if c = (A.2.2 1).length then a_same A F 47 1 else if cause = 8 then a_canc A F c else if badO so ((rb F).getD (if so = 2 then 11 else 9) 0) = 0 then a_order A F c so ((rb F).getD (if so = 2 then 11 else 9) 0) else a_same A F 7 1
def ixC (q : List (List Int32)) (x so : Int32) : Nat := q.findIdx (fun e => e.getD 1 0 == x && e.getD 0 0 == so)
theorem ixC_le (q : List (List Int32)) (x so : Int32) : ixC q x so ≤ q.length := List.findIdx_le_length
theorem M_149 {s : eS} (h : SH s) {A : aS} (r : RM s A) (w : W1 A) (w3 : W3 A) {F : List Int32} (fr : FR s F) {n : Nat} (f : fullF F n) {c : Nat} (hc : c < (A.2.2 1).length) {so : Int32} (hso : pg (A.2.2 1) c 0 = so) (so3 : so = 0 ∨ so = 1 ∨ so = 2) (hn : if so = 2 then 12 ≤ n else 10 ≤ n) : ∃ s', mX12_commanded_149 26 (nI c) so (if so = 2 then 11 else 9) s = some s' ∧ SH s' ∧ ag xM s s' ∧ RM s' (if badO so ((rb F).getD (if so = 2 then 11 else 9) 0) = 0 then a_order A F c so ((rb F).getD (if so = 2 then 11 else 9) 0) else a_same A F 7 1) := by
  have hn10 : 10 ≤ n := by split at hn <;> omega
  have eL : mX12_at 26 (if so = 2 then 11 else 9) s = some ((rb F).getD (if so = 2 then 11 else 9) 0, s) := by
    by_cases c2 : so = 2
    · rw [if_pos c2] at hn
      rw [if_pos c2, if_pos c2]
      exact M_at h fr f (k := 11) (by omega)
    · rw [if_neg c2] at hn
      rw [if_neg c2, if_neg c2]
      exact M_at h fr f (k := 9) (by omega)
  have ord := M_order h r w w3 fr f hc hso so3 ((rb F).getD (if so = 2 then 11 else 9) 0) hn
  have bad : ∃ s', mX12_commanded_193 26 s = some s' ∧ SH s' ∧ ag xM s s' ∧ RM s' (a_same A F 7 1) := by
    obtain ⟨s1, e1, h1, g1, r1⟩ := M_same h r w fr f (by omega) 7 1
    refine ⟨s1, ?_, h1, g1, r1⟩
    unfold mX12_commanded_193
    rw [oK_26 h, b1S, e1, b1S]
  unfold mX12_commanded_149 mX12_commanded_171
  rw [oK_26 h, b1S, eL, b2S]
  generalize (rb F).getD (if so = 2 then 11 else 9) 0 = q at *
  unfold badO
  by_cases s0 : so = 0
  · rw [if_pos s0, if_pos s0]
    by_cases c1 : q &&& 2 = 0
    · rw [if_pos c1, if_pos c1, if_pos rfl, if_neg (by rw [s0]; decide)]
      exact ord
    · rw [if_neg c1, if_neg c1, if_neg (by decide)]
      exact bad
  · rw [if_neg s0, if_neg s0]
    by_cases s1 : so = 1
    · rw [if_pos s1, if_pos s1]
      by_cases c1 : q &&& 3 = 1
      · rw [if_pos c1, if_pos c1, if_pos rfl]
        exact ord
      · rw [if_neg c1, if_neg c1]
        by_cases c2 : q &&& 3 = 2
        · rw [if_pos c2, if_pos c2, if_pos rfl]
          exact ord
        · rw [if_neg c2, if_neg c2, if_neg (by decide)]
          exact bad
    · rw [if_neg s1, if_neg s1, if_pos rfl]
      exact ord
theorem M_64 {s : eS} (h : SH s) {A : aS} (r : RM s A) (w : W1 A) (w3 : W3 A) {F : List Int32} (fr : FR s F) {n : Nat} (f : fullF F n) {c : Nat} (hc : c ≤ (A.2.2 1).length) {so : Int32} (hso : c < (A.2.2 1).length → pg (A.2.2 1) c 0 = so) (so3 : so = 0 ∨ so = 1 ∨ so = 2) (hn : if so = 2 then 12 ≤ n else 10 ≤ n) (cause : Int32) : ∃ s', mX12_commanded_64 26 cause (nI c) so s = some s' ∧ SH s' ∧ ag xM s s' ∧ RM s' (a_cmdAt A F cause c so) := by
  have hn10 : 10 ≤ n := by split at hn <;> omega
  obtain ⟨m1, m2, m3⟩ := r.2.2.2.2.2.1
  unfold mX12_commanded_64 a_cmdAt
  rw [gI_26 h, b1S, m1]
  by_cases c1 : c = (A.2.2 1).length
  · rw [if_pos c1, if_pos (congrArg nI c1)]
    obtain ⟨s1, e1, h1, g1, r1⟩ := M_same h r w fr f (by omega) 47 1
    refine ⟨s1, ?_, h1, g1, r1⟩
    rw [oK_26 h, b1S, e1, b1S]
  · rw [if_neg c1, if_neg (fun z => c1 ((nI_eq (by omega) (by omega)).mp z))]
    have hc' : c < (A.2.2 1).length := by omega
    by_cases c8 : cause = 8
    · rw [if_pos c8, if_pos c8, gI_26 h, b1S, RM_selI r]
      unfold a_canc
      by_cases c9 : selI A = nI c
      · rw [if_pos c9, if_pos c9]
        exact M_cancel h r w fr f (by omega) c 0
      · rw [if_neg c9, if_neg c9]
        exact M_cancel h r w fr f (by omega) c 1
    · rw [if_neg c8, if_neg c8]
      have := M_149 h r w w3 fr f hc' (hso hc') so3 hn
      by_cases c2 : so = 2
      · rw [if_pos c2] at this ⊢
        exact this
      · rw [if_neg c2] at this ⊢
        exact this
def soF (ty : Int32) : Int32 := if ty = 45 then 0 else if ty = 46 then 1 else 2
def a_cmd (A : aS) (F : List Int32) (ty cause x : Int32) : aS := a_cmdAt A F cause (ixC (A.2.2 1) x (soF ty)) (soF ty)
set_option maxRecDepth 100000 in
theorem M_commanded {s : eS} (h : SH s) {A : aS} (r : RM s A) (w : W1 A) (w3 : W3 A) {F : List Int32} (fr : FR s F) {n : Nat} (f : fullF F n) (ty cause x : Int32) (hn : if soF ty = 2 then 12 ≤ n else 10 ≤ n) : ∃ s', mX12_commanded 26 ty cause x s = some s' ∧ SH s' ∧ ag xM s s' ∧ RM s' (a_cmd A F ty cause x) := by
  obtain ⟨m1, m2, m3⟩ := r.2.2.2.2.2.1
  have hrow : ∀ i, i < (A.2.2 1).length → (A.2.2 1).getD i [] = cmM s i := fun i hi => MC_get r.2.2.2.2.2.1 hi
  have so3 : soF ty = 0 ∨ soF ty = 1 ∨ soF ty = 2 := by
    unfold soF
    split
    · exact Or.inl rfl
    · split
      · exact Or.inr (Or.inl rfl)
      · exact Or.inr (Or.inr rfl)
  have e0 : mX12_commanded 26 ty cause x s = mX12_commanded_26 100000 26 cause x 0 (soF ty) s := by
    unfold mX12_commanded mX12_commanded_24 soF
    split
    · rfl
    · split
      · rfl
      · rfl
  rw [e0]
  unfold a_cmd
  generalize soF ty = so at *
  have hle := ixC_le (A.2.2 1) x so
  have key : ∃ s', mX12_commanded_64 26 cause (nI (ixC (A.2.2 1) x so)) so s = some s' ∧ SH s' ∧ ag xM s s' ∧ RM s' (a_cmdAt A F cause (ixC (A.2.2 1) x so) so) := M_64 h r w w3 fr f hle (fun hlt => by
    have hx := List.findIdx_getElem (w := hlt)
    rw [Bool.and_eq_true, beq_iff_eq, beq_iff_eq] at hx
    unfold pg
    rw [show (A.2.2 1).getD (ixC (A.2.2 1) x so) [] = (A.2.2 1)[ixC (A.2.2 1) x so] from by rw [List.getD_eq_getElem?_getD, List.getElem?_eq_getElem hlt]; rfl]
    exact hx.2) so3 hn cause
  have srch : ∀ (d i m : Nat), i + d = ixC (A.2.2 1) x so → d < m → mX12_commanded_26 m 26 cause x (nI i) so s = mX12_commanded_64 26 cause (nI (ixC (A.2.2 1) x so)) so s := by
    intro d
    induction d with
    | zero =>
      intro i m hi hm
      obtain ⟨m, rfl⟩ : ∃ q, m = q + 1 := ⟨m - 1, by omega⟩
      unfold mX12_commanded_26
      rw [gI_26 h, b1S, m1]
      rw [Nat.add_zero] at hi
      by_cases c : (A.2.2 1).length ≤ i
      · rw [if_pos (nI_le c (by omega)), hi]
      · have hil : i < (A.2.2 1).length := by omega
        have hh : ixC (A.2.2 1) x so < (A.2.2 1).length := by omega
        have hx := List.findIdx_getElem (w := hh)
        rw [Bool.and_eq_true, beq_iff_eq, beq_iff_eq] at hx
        have e9 : (A.2.2 1).getD i [] = (A.2.2 1)[ixC (A.2.2 1) x so] := by
          subst hi
          rw [List.getD_eq_getElem?_getD, List.getElem?_eq_getElem hh]; rfl
        have f1 : sI s 36 i = x := by
          have q : ((A.2.2 1)[ixC (A.2.2 1) x so]).getD 1 0 = x := hx.1
          rw [← e9, hrow i hil] at q
          exact q
        have f2 : sI s 35 i = so := by
          have q : ((A.2.2 1)[ixC (A.2.2 1) x so]).getD 0 0 = so := hx.2
          rw [← e9, hrow i hil] at q
          exact q
        rw [if_neg (nI_ge (by omega) (by omega)), gP_26_11 h, b1S, b1S, aI_36 h (nIc (by omega) (by omega)), b1S, nI_clamp (by omega), if_pos f1, gP_26_10 h, b1S, b1S, aI_35 h (nIc (by omega) (by omega)), b1S, nI_clamp (by omega), if_pos f2, hi]
    | succ d ih =>
      intro i m hi hm
      obtain ⟨m, rfl⟩ : ∃ q, m = q + 1 := ⟨m - 1, by omega⟩
      have hil : i < (A.2.2 1).length := by omega
      have hnx : ¬ (sI s 36 i = x ∧ sI s 35 i = so) := by
        have := List.not_of_lt_findIdx (p := fun e : List Int32 => e.getD 1 0 == x && e.getD 0 0 == so) (xs := A.2.2 1) (i := i) (by show i < ixC (A.2.2 1) x so; omega)
        have e9 : (A.2.2 1)[i] = cmM s i := by
          rw [← hrow i hil, List.getD_eq_getElem?_getD, List.getElem?_eq_getElem hil]; rfl
        rw [e9] at this
        intro z
        have : (sI s 36 i == x && sI s 35 i == so) = false := this
        rw [z.1, z.2] at this
        simp at this
      have ih' := ih (i + 1) m (by omega) (by omega)
      unfold mX12_commanded_26 mX12_commanded_58
      rw [gI_26 h, b1S, m1, if_neg (nI_ge (by omega) (by omega)), gP_26_11 h, b1S, b1S, aI_36 h (nIc (by omega) (by omega)), b1S, nI_clamp (by omega)]
      by_cases c1 : sI s 36 i = x
      · rw [if_pos c1, gP_26_10 h, b1S, b1S, aI_35 h (nIc (by omega) (by omega)), b1S, nI_clamp (by omega), if_neg (fun z => hnx ⟨c1, z⟩), nI_1]
        exact ih'
      · rw [if_neg c1, nI_1]
        exact ih'
  rw [show mX12_commanded_26 100000 26 cause x 0 so s = _ from srch (ixC (A.2.2 1) x so) 0 100000 (by omega) (by omega)]
  exact key
