/-! ===== the other calls of the station ===== -/
theorem inLn (x : Int32) {n : Nat} (hn : n < 2 ^ 30) : (x < 0 ∧ inL x.toInt64 0 (nI n - 1).toInt64 = 0) ∨ ∃ k : Nat, k < 2 ^ 31 ∧ x = nI k ∧ inL x.toInt64 0 (nI n - 1).toInt64 = if k < n then 1 else 0 := by
  have eh : (nI n - 1).toInt64.toInt = (n : Int) - 1 := by
    rw [Int32.toInt_toInt64]
    exact pk_sub_toInt (b := 1) hn (by omega)
  by_cases c : x < 0
  · refine Or.inl ⟨c, ?_⟩
    unfold inL
    rw [if_pos]
    rw [lg_cmp_lt, Int64.lt_iff_toInt_lt, Int32.toInt_toInt64]
    rw [Int32.lt_iff_toInt_lt] at c
    exact c
  · obtain ⟨k, hk, rfl⟩ := nI_of c
    refine Or.inr ⟨k, hk, rfl, ?_⟩
    have ek : (nI k).toInt64.toInt = (k : Int) := by rw [Int32.toInt_toInt64, nI_toInt hk]
    have z0 : (0 : Int64).toInt = 0 := rfl
    unfold inL
    rw [if_neg (by rw [lg_cmp_lt, Int64.lt_iff_toInt_lt, ek, z0]; omega)]
    by_cases h : k < n
    · rw [if_neg (by rw [lg_cmp_gt, Int64.lt_iff_toInt_lt, ek, eh]; omega), if_pos h]
    · rw [if_pos (by rw [lg_cmp_gt, Int64.lt_iff_toInt_lt, ek, eh]; omega), if_neg h]
theorem S_close {D : Nat} {s : eS} (h : SH s) {A : aS} (r : RS false D s A) : ∃ s', mX11_close 0 s = some ((a_shut A).1, s') ∧ kO s s' ∧ RS false D s' (a_shut A).2 := by
  have e7 : sI s 0 11 = A.1 7 := (rs_i r).1 7 (by decide) (by decide)
  unfold mX11_close a_shut
  rw [gI_0 h, b1S, e7]
  by_cases c7 : A.1 7 = 0
  · rw [if_pos c7, if_pos c7]
    exact ⟨s, rfl, kO_rf h, r⟩
  · obtain ⟨s1, f1, k1, r1⟩ := k_shut h r 1
    rw [if_neg c7, if_neg c7, oK_0 h, b1S, f1, b1S]
    exact ⟨s1, rfl, k1, r1⟩
abbrev xOp : Nat → Nat → Bool := fun a k => (a == 0 && (k == 11 || k == 14)) || (a == 24 && (k == 1 || k == 2)) || (a == 21 && (k == 2 || k == 3 || k == 4)) || (a == 18 && (k == 2 || k == 3 || k == 5))
theorem RS_open {D : Nat} {s s' : eS} {A : aS} (r : RS false D s A) (h7 : A.1 7 = 0) (g : ag xOp s s') (v1 : sI s' 0 11 = 1) (v2 : sI s' 0 14 = A.1 9) (v3 : sI s' 24 1 = 0) (v4 : sI s' 24 2 = 0) (v5 : sI s' 21 2 = 0) (v6 : sI s' 21 3 = 0) (v7 : sI s' 21 4 = 0) (v8 : sI s' 18 2 = 0) (v9 : sI s' 18 3 = 0) (v10 : sI s' 18 5 = 0) : RS false D s' (ui (ul (ui (ui (ui (ul (ui A 7 1) 0 []) 15 0) 16 0) 17 0) 1 []) 10 (A.1 9)) := by
  obtain ⟨z1, z2, z3, z4⟩ := (rs_z r).1 h7
  have i : SI s' (ui (ul (ui (ui (ui (ul (ui A 7 1) 0 []) 15 0) 16 0) 17 0) 1 []) 10 (A.1 9)) := by
    refine ⟨fun k hk h17 => ?_, ?_⟩
    · show _ = if k = 10 then A.1 9 else if k = 17 then 0 else if k = 16 then 0 else if k = 15 then 0 else if k = 7 then 1 else A.1 k
      rw [if_neg h17]
      by_cases c10 : k = 10
      · subst c10; exact v2
      rw [if_neg c10]
      by_cases c16 : k = 16
      · subst c16; exact v8
      rw [if_neg c16]
      by_cases c15 : k = 15
      · subst c15; exact v7
      rw [if_neg c15]
      by_cases c7 : k = 7
      · subst c7; exact v1
      have hx : xOp (sc k).1 (sc k).2 = false := by
        rcases (by decide : ∀ k, k < 26 → (k = 17 ∨ k = 10 ∨ k = 16 ∨ k = 15 ∨ k = 7 ∨ xOp (sc k).1 (sc k).2 = false)) k hk with z | z | z | z | z | z
        · exact absurd z h17
        · exact absurd z c10
        · exact absurd z c16
        · exact absurd z c15
        · exact absurd z c7
        · exact z
      rw [if_neg c7, g.2 _ _ hx]
      exact (rs_i r).1 k hk h17
    · show _ = (0 : Int32) - 0
      rw [v9]; rfl
  have o : SO_ s' [] := ⟨0, by decide, v3, v4, Nat.zero_le _, fun i hi => absurd hi (Nat.not_lt_zero i)⟩
  have n : SN s' (A.2.2 5) := by
    rw [z4]
    exact ⟨0, by decide, v5, v6, Nat.zero_le _, fun i hi => absurd hi (Nat.not_lt_zero i)⟩
  have l : SL s' (ui (ul (ui (ui (ui (ul (ui A 7 1) 0 []) 15 0) 16 0) 17 0) 1 []) 10 (A.1 9)) := SL_A (SL_ag g (rs_l r) ⟨rfl, rfl, rfl⟩) rfl rfl rfl rfl
  have z : SZ (ui (ul (ui (ui (ui (ul (ui A 7 1) 0 []) 15 0) 16 0) 17 0) 1 []) 10 (A.1 9)) := ⟨fun h => absurd h (show ¬ (1 : Int32) = 0 by decide), (rs_z r).2.1, ST_0 rfl, Or.inr (Or.inl rfl)⟩
  exact ⟨(have q := rs_d r; DS_ag g q), i, o, SXt_0 v10, l, (have q := rs_p r; SP_ag g (rs_d r).1 q rfl (fun a k hx => by simp <;> omega)), (have q := rs_c r; SC_ag g (rs_d r).1 (rs_d r).2.1 q rfl (fun a k hx => by simp <;> omega)), n, (have q := rs_e r; SE_ag g (rs_d r).1 q ⟨rfl, rfl, rfl⟩ (fun a k hx => by simp <;> omega)), (have q := rs_a r; SA_ag g (rs_d r).2.2.1 q ⟨rfl, rfl⟩ (fun a k hx => by simp <;> omega)), (have q := rs_m r; SM_ag g q ⟨rfl, rfl, rfl⟩ (fun _ => ⟨rfl, rfl, rfl, rfl, rfl⟩)), z, (have q := rs_f r; q)⟩
set_option maxRecDepth 100000 in
theorem S_open {D : Nat} {s : eS} (h : SH s) {A : aS} (r : RS false D s A) : ∃ s', mX11_open 0 s = some ((a_open A).1, s') ∧ kM s s' ∧ RS false D s' (a_open A).2 ∧ (sI s 14 4 = 0 → sI s' 14 4 = 0) := by
  have e7 : sI s 0 11 = A.1 7 := (rs_i r).1 7 (by decide) (by decide)
  have e9 : sI s 0 13 = A.1 9 := (rs_i r).1 9 (by decide) (by decide)
  unfold mX11_open a_open mX5_clear mX10_restart mX10_forget mX8_restart mX8_forget
  rw [gI_0 h, b1S, e7]
  by_cases c7 : A.1 7 = 0
  case neg =>
    rw [if_neg c7, if_neg c7]
    exact ⟨s, rfl, kM_rf h, r, fun z => z⟩
  rw [if_pos c7, if_pos c7]
  have h1 := SH_I (a := 0) (k := 11) (x := 1) h
  have h2 := SH_I (a := 24) (k := 1) (x := 0) h1
  have h3 := SH_I (a := 24) (k := 2) (x := 0) h2
  have h4 := SH_I (a := 21) (k := 4) (x := 0) h3
  have h5 := SH_I (a := 21) (k := 2) (x := 0) h4
  have h6 := SH_I (a := 21) (k := 3) (x := 0) h5
  have h7 := SH_I (a := 18) (k := 2) (x := 0) h6
  have h8 := SH_I (a := 18) (k := 5) (x := 0) h7
  have h9 := SH_I (a := 18) (k := 3) (x := 0) h8
  rw [pI_0 h, b1S, gP_0_10 h1, b1S, b1S, oK_24 h1, b1S, pI_24 h1, b1S, pI_24 h2, b1S, b1S, gP_0_9 h3, b1S, b1S, oK_21 h3, b1S, pI_21 h3, b1S, oK_21 h4, b1S, pI_21 h4, b1S, pI_21 h5, b1S, b1S, b1S, gP_0_8 h6, b1S, b1S, oK_18 h6, b1S, pI_18 h6, b1S, oK_18 h7, b1S, pI_18 h7, b1S, pI_18 h8, b1S, b1S, b1S, gI_0 h9, b1S, pI_0 h9, b1S]
  have e9' : sI (e_I (e_I (e_I (e_I (e_I (e_I (e_I (e_I (e_I s 0 11 1) 24 1 0) 24 2 0) 21 4 0) 21 2 0) 21 3 0) 18 2 0) 18 5 0) 18 3 0) 0 13 = A.1 9 := by
    simp (disch := decide) only [rII_ne]
    exact e9
  rw [e9']
  have g : ag xOp s (e_I (e_I (e_I (e_I (e_I (e_I (e_I (e_I (e_I (e_I s 0 11 1) 24 1 0) 24 2 0) 21 4 0) 21 2 0) 21 3 0) 18 2 0) 18 5 0) 18 3 0) 0 14 (A.1 9)) := ag_I (ag_I (ag_I (ag_I (ag_I (ag_I (ag_I (ag_I (ag_I (ag_I ag_rf rfl) rfl) rfl) rfl) rfl) rfl) rfl) rfl) rfl) rfl
  refine ⟨_, rfl, kM_ag h g (fun a k h3 h4 => by simp <;> omega), RS_open r c7 g ?_ ?_ ?_ ?_ ?_ ?_ ?_ ?_ ?_ ?_, fun z => (g.2 _ _ rfl).trans z⟩ <;> simp (disch := decide) only [rII_eq, rII_ne]
/-! set -/
def loN (k : Nat) : Nat := [0, 1, 1, 1, 1, 1, 1].getD k 0
def hiN (k : Nat) : Nat := [65534, 12, 12, 1000, 1000, 1000, 1000].getD k 0
theorem tab0 : ∀ k, k < 7 → t_I tb_0 (nI k) = some (nI (loN k)) ∧ t_I tb_1 (nI k) = some (nI (hiN k)) ∧ loN k < 2 ^ 31 ∧ hiN k < 2 ^ 31 := by decide +kernel
theorem okSet_k {k : Nat} (hk : k < 7) (v : Int32) : okSet (nI k) v = 0 ↔ inL v.toInt64 (lN (loN k)) (lN (hiN k)) = 0 := by
  rcases (by omega : k = 0 ∨ k = 1 ∨ k = 2 ∨ k = 3 ∨ k = 4 ∨ k = 5 ∨ k = 6) with rfl | rfl | rfl | rfl | rfl | rfl | rfl
  · exact Iff.rfl
  · exact Iff.rfl
  · exact Iff.rfl
  all_goals
    show (if inL v.toInt64 1 1000 = 0 then (0 : Int32) else 1) = 0 ↔ inL v.toInt64 1 1000 = 0
    by_cases c : inL v.toInt64 1 1000 = 0
    · rw [if_pos c]; exact ⟨fun _ => c, fun _ => rfl⟩
    · rw [if_neg c]; exact ⟨fun z => absurd z (by decide), fun z => absurd z c⟩
theorem RS_set {D : Nat} {s : eS} {A : aS} (r : RS false D s A) (h7 : A.1 7 = 0) {k : Nat} (hk : k < 7) {v : Nat} (hv : loN k ≤ v ∧ v ≤ hiN k) : RS false D (e_I s 1 k (nI v)) (ui A k (nI v)) := by
  have g : ag (fun a j => a == 1) s (e_I s 1 k (nI v)) := ag_I ag_rf rfl
  have esc : ∀ k, k < 7 → sc k = (1, k) := by decide
  have i : SI (e_I s 1 k (nI v)) (ui A k (nI v)) := by
    have := SI_set (rs_i r) k ⟨by omega, by omega, by omega⟩ (nI v)
    rw [esc k hk] at this
    exact this
  have nk : ∀ j, j ≥ 7 → (ui A k (nI v)).1 j = A.1 j := fun j hj => if_neg (by omega)
  obtain ⟨z1, z2⟩ := (rs_z r).1 h7
  have l : SL (e_I s 1 k (nI v)) (ui A k (nI v)) := by
    rcases rs_l r with z | ⟨c, d, w, kk, b, tt, p1, p2, -⟩
    · exact Or.inl z
    · rw [z1] at p2; cases p2
  have z : SZ (ui A k (nI v)) := by
    refine ⟨fun _ => (rs_z r).1 h7, (rs_z r).2.1, ?_, ?_⟩
    · show ∃ u, (ui A k (nI v)).1 16 - (ui A k (nI v)).1 17 = nI u ∧ u ≤ uI ((ui A k (nI v)).1 16)
      rw [nk 16 (by omega), nk 17 (by omega)]
      exact (rs_z r).2.2.1
    · rw [nk 7 (by omega)]; exact (rs_z r).2.2.2
  have f : SF D (ui A k (nI v)) := by
    obtain ⟨f, hf, ef⟩ := rs_f r
    exact ⟨f, hf, (nk 14 (by omega)).trans ef⟩
  have mm : SM (e_I s 1 k (nI v)) := by
    obtain ⟨⟨l1, m1⟩, ⟨l2, m2⟩, ⟨l3, m3⟩, ⟨x0, hx0, ex0⟩, ⟨x6, hx6, hx6', ex6⟩, ck⟩ := rs_m r
    refine ⟨⟨l1, MT_ag g m1 rfl (fun _ => rfl)⟩, ⟨l2, MT_ag g m2 rfl (fun _ => rfl)⟩, ⟨l3, MT_ag g m3 rfl (fun _ => rfl)⟩, ?_, ?_, ?_⟩
    · by_cases c : k = 0
      · subst c
        exact ⟨v, Nat.lt_of_le_of_lt hv.2 (by decide), rII_eq⟩
      · exact ⟨x0, hx0, (rII_ne (Or.inr (Ne.symm c))).trans ex0⟩
    · by_cases c : k = 6
      · subst c
        exact ⟨v, hv.1, hv.2, rII_eq⟩
      · exact ⟨x6, hx6, hx6', (rII_ne (Or.inr (Ne.symm c))).trans ex6⟩
    · obtain ⟨ms, mi, ho, da, mo, ye, q0, q1, q2, q3, q4, q5⟩ := ck
      have n7 : ∀ j, sI (e_I s 1 k (nI v)) 7 j = sI s 7 j := fun j => rII_ne (Or.inl (by decide))
      exact ⟨ms, mi, ho, da, mo, ye, by rw [n7]; exact q0, by rw [n7]; exact q1, by rw [n7]; exact q2, by rw [n7]; exact q3, by rw [n7]; exact q4, by rw [n7]; exact q5⟩
  exact ⟨(have q := rs_d r; DS_ag g q), i, (have q := rs_o r; SO_ag g q ⟨rfl, rfl⟩ (fun _ => rfl)), (have q := rs_x r; SXt_ag g q ⟨rfl, rfl, rfl, rfl⟩ (fun _ => rfl)), l, (have q := rs_p r; SP_ag g (rs_d r).1 q rfl (fun a k hx => by simp <;> omega)), (have q := rs_c r; SC_ag g (rs_d r).1 (rs_d r).2.1 q rfl (fun a k hx => by simp <;> omega)), (have q := rs_n r; SN_ag g q ⟨rfl, rfl⟩ (fun _ => ⟨rfl, rfl⟩)), (have q := rs_e r; SE_ag g (rs_d r).1 q ⟨rfl, rfl, rfl⟩ (fun a k hx => by simp <;> omega)), (have q := rs_a r; SA_ag g (rs_d r).2.2.1 q ⟨rfl, rfl⟩ (fun a k hx => by simp <;> omega)), mm, z, f⟩
theorem okSet_no {i v : Int32} (h : i < 0 ∨ (7 : Int32) ≤ i) : okSet i v = 0 := by
  apply Classical.byContradiction
  intro z
  obtain ⟨k, hk, rfl⟩ := okSet_in z
  rcases h with h | h
  · exact nI_pos (by omega) h
  · exact absurd h (c_nle (c := 7) 7 hk)
set_option maxRecDepth 100000 in
theorem S_set {D : Nat} {s : eS} (h : SH s) {A : aS} (r : RS false D s A) (i v : Int32) : ∃ s', mX11_set 0 i v s = some ((a_set A i v).1, s') ∧ kO s s' ∧ RS false D s' (a_set A i v).2 := by
  have e7 : sI s 0 11 = A.1 7 := (rs_i r).1 7 (by decide) (by decide)
  unfold mX11_set mX11_set_28 a_set
  by_cases c0 : i < 0
  · rw [if_pos c0, if_pos (okSet_no (Or.inl c0))]
    exact ⟨s, rfl, kO_rf h, r⟩
  by_cases c7 : (7 : Int32) ≤ i
  · rw [if_neg c0, if_pos c7, if_pos (okSet_no (Or.inr c7))]
    exact ⟨s, rfl, kO_rf h, r⟩
  obtain ⟨k, hk31, rfl⟩ := nI_of c0
  have hk : k < 7 := by
    apply Classical.byContradiction
    intro z
    exact c7 (c_le (c := 7) 7 (by omega))
  obtain ⟨t0, t1, l0, l1⟩ := tab0 k hk
  rw [if_neg c0, if_neg c7, t0, b1S, t1, b1S, nI_clamp hk31]
  have esc : ∀ k, k < 7 → sc k = (1, k) := by decide
  have ek : sI s 1 k = A.1 k := by
    have := (rs_i r).1 k (by omega) (by omega)
    rw [esc k hk] at this
    exact this
  have hi : ¬ nI k < 0 ∧ (nI k).toNatClampNeg < 7 := nIc (by omega) hk
  rcases inL_cases v l0 l1 with ⟨c, e⟩ | ⟨n, hn, rfl, e⟩
  · rw [if_pos ((okSet_k hk v).mpr e), if_pos (Int32.lt_of_lt_of_le c (nI_pos' l0))]
    exact ⟨s, rfl, kO_rf h, r⟩
  · by_cases cl : n < loN k
    · rw [if_neg (show ¬ (loN k ≤ n ∧ n ≤ hiN k) by omega)] at e
      rw [if_pos ((okSet_k hk _).mpr e), if_pos (nI_lt cl (by omega))]
      exact ⟨s, rfl, kO_rf h, r⟩
    rw [if_neg (nI_nlt (by omega) (by omega))]
    by_cases ch : n ≤ hiN k
    · rw [if_pos (show loN k ≤ n ∧ n ≤ hiN k by omega)] at e
      rw [if_neg (show ¬ okSet (nI k) (nI n) = 0 from fun z => by rw [(okSet_k hk _).mp z] at e; cases e), if_pos (nI_le ch (by omega)), gI_0 h, b1S, e7]
      by_cases c : A.1 7 = 0
      · rw [if_pos c, if_pos c, gP_0_0 h, b1S, b1S, aI_1 h hi, b1S, b1S, b1S, sI_1 h hi, b1S, nI_clamp hk31, ek]
        exact ⟨_, rfl, kO_I (kO_rf h) (by simp) (Or.inl (by decide)), RS_set r c hk ⟨by omega, ch⟩⟩
      · rw [if_neg c, if_neg c]
        exact ⟨s, rfl, kO_rf h, r⟩
    · rw [if_neg (show ¬ (loN k ≤ n ∧ n ≤ hiN k) by omega)] at e
      rw [if_pos ((okSet_k hk _).mpr e), if_neg (nI_ge (by omega) (by omega))]
      exact ⟨s, rfl, kO_rf h, r⟩
