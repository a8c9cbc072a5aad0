set_option maxRecDepth 100000 in
/-- a POINT is made -/
theorem S_mkPt {s : eS} (h : SH s) (hs : sn s + 1 ≤ 100000) (so ad gr : Int32) {ti : Int32} (ht : ti = 0 ∨ ti = 1) : ∃ s1 s2, n_O s 106 7 = some (sn s, s1) ∧ mX6_init (sn s) so ad gr ti s1 = some s2 ∧ SH s2 ∧ EX (fun a k => false) s s2 ∧ sn s2 = sn s + 1 ∧ ss s2 = ss s + 7 ∧ sK s2 (sn s) = 106 ∧ sI s2 (sn s) 0 = so ∧ sI s2 (sn s) 1 = ad ∧ sI s2 (sn s) 2 = gr ∧ sI s2 (sn s) 3 = ti ∧ sI s2 (sn s) 4 = 0 ∧ sI s2 (sn s) 5 = 0 ∧ sI s2 (sn s) 6 = 0 := by
  have kk : sK (e_new s 106 0 7) (sn s) = 106 := if_pos rfl
  have g : EX (fun a k => false) s (e_new s 106 0 7) := EX_new _ _ _
  have h1 : SH (e_new s 106 0 7) := SH_ex g h hs (fun _ _ => rfl)
  have z0 : ∀ k, sI (e_new s 106 0 7) (sn s) k = 0 := fun k => by
    show e_row (sI s) (sn s) (fun _ => 0) (sn s) k = 0
    unfold e_row; rw [if_pos rfl]
  have pp : ∀ (s1 : eS) (k : Nat) (x : Int32), (sn s < sn s1 ∧ sK s1 (sn s) = 106) → p_I s1 106 k (sn s) x = some (e_I s1 (sn s) k x) := fun s1 k x hh => if_pos hh
  have hh : sn s < sn (e_new s 106 0 7) ∧ sK (e_new s 106 0 7) (sn s) = 106 := ⟨Nat.lt_succ_self _, kk⟩
  refine ⟨_, e_I (e_I (e_I (e_I (e_new s 106 0 7) (sn s) 0 so) (sn s) 1 ad) (sn s) 2 gr) (sn s) 3 ti, if_pos (by omega), ?_, SH_I (SH_I (SH_I (SH_I h1))), EX_I (EX_I (EX_I (EX_I g (Or.inr (Nat.le_refl _))) (Or.inr (Nat.le_refl _))) (Or.inr (Nat.le_refl _))) (Or.inr (Nat.le_refl _)), rfl, rfl, kk, ?_, ?_, ?_, rII_eq, ?_, ?_, ?_⟩
  · unfold mX6_init
    have p_Z' : p_Z (e_I (e_I (e_I (e_new s 106 0 7) (sn s) 0 so) (sn s) 1 ad) (sn s) 2 gr) 106 3 (sn s) ti = some (e_I (e_I (e_I (e_I (e_new s 106 0 7) (sn s) 0 so) (sn s) 1 ad) (sn s) 2 gr) (sn s) 3 ti) := if_pos ⟨hh, ht⟩
    rw [pp _ 0 so hh, b1S, pp (e_I (e_new s 106 0 7) (sn s) 0 so) 1 ad hh, b1S, pp (e_I (e_I (e_new s 106 0 7) (sn s) 0 so) (sn s) 1 ad) 2 gr hh, b1S, p_Z', b1S]
  · rw [rII_ne (Or.inr (by decide)), rII_ne (Or.inr (by decide)), rII_ne (Or.inr (by decide)), rII_eq]
  · rw [rII_ne (Or.inr (by decide)), rII_ne (Or.inr (by decide)), rII_eq]
  · rw [rII_ne (Or.inr (by decide)), rII_eq]
  · rw [rII_ne (Or.inr (by decide)), rII_ne (Or.inr (by decide)), rII_ne (Or.inr (by decide)), rII_ne (Or.inr (by decide)), z0]
  · rw [rII_ne (Or.inr (by decide)), rII_ne (Or.inr (by decide)), rII_ne (Or.inr (by decide)), rII_ne (Or.inr (by decide)), z0]
  · rw [rII_ne (Or.inr (by decide)), rII_ne (Or.inr (by decide)), rII_ne (Or.inr (by decide)), rII_ne (Or.inr (by decide)), z0]
theorem UQ_app {q : List (List Int32)} (u : UQ q) {row : List Int32} (h : ∀ j, j < q.length → ¬ pg q j 1 = row.getD 1 0) : UQ (q ++ [row]) := by
  have hl : (q ++ [row]).length = q.length + 1 := by rw [List.length_append]; rfl
  intro i j hi hj e
  rw [hl] at hi hj
  by_cases ci : i < q.length
  · rw [pg_app ci] at e
    by_cases cj : j < q.length
    · rw [pg_app cj] at e
      exact u i j ci cj e
    · have ej : j = q.length := by omega
      rw [ej, pg_last] at e
      exact absurd e (h i ci)
  · have ei : i = q.length := by omega
    by_cases cj : j < q.length
    · rw [ei, pg_last, pg_app cj] at e
      exact absurd e.symm (h j cj)
    · omega
set_option maxRecDepth 100000 in
theorem S_point {C D : Nat} {s : eS} (h : SH s) {A : aS} (r : RS false D s A) (w : WW C A) (so ad gr : Int32) {ti : Int32} (ht : ti = 0 ∨ ti = 1) : ∃ s', mX11_point 0 so ad gr ti s = some ((a_point A so ad gr ti).1, s') ∧ kM s s' ∧ RS false D s' (a_point A so ad gr ti).2 ∧ (sI s 14 4 = 0 → sI s' 14 4 = 0) := by
  obtain ⟨hf, hfd⟩ := S_isFree h r ad
  have d := rs_d r
  have h24 := d.2.2.2.1
  have bad : ∃ s', mX11_point_28 s = some ((-1 : Int32), s') ∧ kM s s' ∧ RS false D s' A ∧ (sI s 14 4 = 0 → sI s' 14 4 = 0) := ⟨s, rfl, kM_rf h, r, fun z => z⟩
  unfold mX11_point a_point ptOK
  rcases inL_cases so (lo := 0) (hi := 6) (by omega) (by omega) with ⟨c, e⟩ | ⟨ks, hks, rfl, e⟩
  · rw [if_pos c, show inL so.toInt64 0 6 = 0 from e, if_pos rfl, if_pos rfl]
    exact bad
  rw [if_neg (nI_pos hks), show inL (nI ks).toInt64 0 6 = _ from e]
  by_cases c7 : 7 ≤ ks
  · rw [if_pos (c_le (c := 7) 7 c7), if_neg (show ¬ (0 ≤ ks ∧ ks ≤ 6) by omega), if_pos rfl, if_pos rfl]
    exact bad
  rw [if_neg (c_nle (c := 7) 7 (by omega)), if_pos (show 0 ≤ ks ∧ ks ≤ 6 by omega), if_neg (by decide : ¬ (1 : Int32) = 0)]
  rcases inL_cases gr (lo := 0) (hi := 16) (by omega) (by omega) with ⟨c, e2⟩ | ⟨kg, hkg, rfl, e2⟩
  · rw [if_pos c, show inL gr.toInt64 0 16 = 0 from e2, if_pos rfl, if_pos rfl]
    exact bad
  rw [if_neg (nI_pos hkg), show inL (nI kg).toInt64 0 16 = _ from e2]
  by_cases c16 : 16 < kg
  · rw [if_pos (c_lt (c := 16) 16 c16), if_neg (show ¬ (0 ≤ kg ∧ kg ≤ 16) by omega), if_pos rfl, if_pos rfl]
    exact bad
  rw [if_neg (c_nlt (c := 16) 16 (by omega)), if_pos (show 0 ≤ kg ∧ kg ≤ 16 by omega), if_neg (by decide : ¬ (1 : Int32) = 0), oK_0 h, b1S, hf, b2S]
  by_cases cf : frF A ad = 0
  · rw [if_pos cf, if_pos cf, if_pos rfl]
    exact bad
  rw [if_neg cf, if_neg cf, if_neg (by decide : ¬ (1 : Int32) = 0), gP_0_1 h, b1S, b1S, gI_2 h, b1S, (rs_p r).1]
  by_cases cn : (A.2.2 0).length = 24
  · rw [if_neg (show ¬ nI (A.2.2 0).length < 24 by rw [cn]; decide), if_pos cn]
    exact ⟨s, rfl, kM_rf h, r, fun z => z⟩
  rw [if_pos (lt_c (c := 24) 24 (by omega)), if_neg cn]
  obtain ⟨dd, hdd, rfl⟩ := hfd cf
  have hfree := fun z => cf ((frF_0 A (nI dd)).mpr z)
  have hfr : ∀ j, j < (A.2.2 0).length → ¬ pg (A.2.2 0) j 1 = nI dd := (ix_len _ _).mp (Classical.byContradiction (fun z => hfree (fun y => z y.2.1)))
  have zs := d.2.2.2.2.2.1
  obtain ⟨s1, s2, f1, f2, h2, g2, z1, z2, kb, v0, v1, v2, v3, v4, v5, v6⟩ := S_mkPt h (by omega) (nI ks) (nI dd) (nI kg) ht
  have hsn := h.1.1
  -- by its number
  have hb2 : sn s < sn s2 ∧ sK s2 (sn s) = 106 := ⟨by omega, kb⟩
  have e22 : sI s2 2 2 = nI (A.2.2 0).length := (exI g2 (sh_lt h (by decide)) rfl).trans (rs_p r).1
  have h3 : SH (e_P s2 3 (A.2.2 0).length (some (sn s))) := SH_P h2 (by
    have : ∀ q ∈ pL, q.1 ≠ 3 := by decide
    exact fun hm => this _ hm rfl)
  have g3 : EX (xNp (A.2.2 0).length) s (e_P s2 3 (A.2.2 0).length (some (sn s))) := EX_P (EX_mono g2 (fun a k _ => rfl)) (Or.inl (by simp [xNp]))
  have hLs : ∀ j, j < (A.2.2 0).length → sP s2 4 j = some (pA s ((oL (A.2.2 0)).getD j 0)) := fun j hj => (exP g2 (sh_lt h (by decide)) rfl).trans ((rs_p r).2.2 j hj)
  have hL : ∀ j, j < (A.2.2 0).length → pA s ((oL (A.2.2 0)).getD j 0) < sn s2 ∧ sK s2 (pA s ((oL (A.2.2 0)).getD j 0)) = 106 := fun j hj => (KO_ex g2 (d.1.1 _ (oL_get hj)).2).1
  obtain ⟨p, s4, f4, hp, h4, q4, o1, o2, o3, o4, o5⟩ := S_ins (s0 := e_P s2 3 (A.2.2 0).length (some (sn s))) (n := (A.2.2 0).length) (b := sn s) (by omega) hb2 (fun j => pA s ((oL (A.2.2 0)).getD j 0)) hL e22 (A.2.2 0).length 100000 _ (Nat.le_refl _) (by omega) h3 Q4_rf (fun j hj => (rPP_ne (by omega)).trans (hLs j hj)) (fun j hj hj2 => by omega) (fun j hj hj2 => by omega)
  have g4 : EX (xNp (A.2.2 0).length) s (e_I s4 2 2 (nI ((A.2.2 0).length + 1))) := EX_I (EX_Q4 g3 q4 (fun k => by simp [xNp])) (Or.inl (by simp [xNp]))
  have sI4 : ∀ k, sI (e_I s4 2 2 (nI ((A.2.2 0).length + 1))) (sn s) k = sI s2 (sn s) k := fun k => by
    rw [rII_ne (Or.inl (by omega)), q4.1.2.2.1]; rfl
  have adr : ∀ j, j < (A.2.2 0).length → sI (e_P s2 3 (A.2.2 0).length (some (sn s))) (pA s ((oL (A.2.2 0)).getD j 0)) 1 = pg (A.2.2 0) ((oL (A.2.2 0)).getD j 0) 1 := fun j hj => by
    have dj := (d.1.1 _ (oL_get hj)).2
    show sI s2 _ 1 = _
    rw [exI g2 dj.1.1 rfl, pg_pt (rs_p r) (oL_get hj)]
    rfl
  have o4' : ∀ j, p ≤ j → j < (A.2.2 0).length → nI dd ≤ pg (A.2.2 0) ((oL (A.2.2 0)).getD j 0) 1 := fun j h1 h2' => by
    have := o4 j h1 h2'
    rw [adr j h2', show sI (e_P s2 3 (A.2.2 0).length (some (sn s))) (sn s) 1 = nI dd from v1] at this
    exact this
  have o5' : p = 0 ∨ ¬ nI dd ≤ pg (A.2.2 0) ((oL (A.2.2 0)).getD (p - 1) 0) 1 := by
    by_cases c : p = 0
    · exact Or.inl c
    · have := o5.resolve_left c
      rw [adr (p - 1) (by omega), show sI (e_P s2 3 (A.2.2 0).length (some (sn s))) (sn s) 1 = nI dd from v1] at this
      exact Or.inr this
  have rr := RS_newPt h r g4 (by omega) (so := ks) (ad := dd) (gr := nI kg) (ti := ti) (by omega) hdd (UQ_app w.2.2.2.1 (fun j hj => hfr j hj)) (by show sn s4 = _; rw [q4.1.2.2.2.2.1]; exact z1) (by show ss s4 = _; rw [q4.1.2.2.2.2.2]; exact z2) (by show sK s4 _ = _; rw [q4.1.1]; exact kb) rII_eq (by show sP s4 3 _ = _; rw [q4.2 3 _ (by decide)]; exact rPP_eq) ((sI4 0).trans v0) ((sI4 1).trans v1) ((sI4 2).trans v2) ((sI4 3).trans v3) ((sI4 4).trans v4) ((sI4 5).trans v5) ((sI4 6).trans v6) hp o1 o2 o3 o4' o5'
  have h5 := SH_I (a := 2) (k := 2) (x := nI ((A.2.2 0).length + 1)) h4
  refine ⟨e_I s4 2 2 (nI ((A.2.2 0).length + 1)), ?_, ⟨h5, fun a k h6 h7 => exI g4 (sh_lt h h7) (by simp [xNp]; omega)⟩, rr, fun z => (exI g4 (sh_lt h (by decide)) (by simp [xNp])).trans z⟩
  unfold mX7_add
  rw [b1S, f1, b2S, f2, b1S, b1S, oK_2 h2, b1S, gI_2 h2, b1S, e22, if_pos (lt_c (c := 24) 24 (by omega)), gP_2_0 h2, b1S, b1S, b1S, b1S, sP3 h2 (by omega) hb2, b1S, gI_2 h3, b1S, b1S, show sI (e_P s2 3 (A.2.2 0).length (some (sn s))) 2 2 = nI (A.2.2 0).length from e22, ← pk_e1, f4, b1S, gP_0_1 h5, b1S, b1S, gI_2 h5, b1S, rII_eq, nI_pred]
