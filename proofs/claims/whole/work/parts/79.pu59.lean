/-! ===== ticks: the SELECTION's time is one ahead until it goes on ===== -/
def shl : List Int32 → List Int32
  | c :: b :: t :: r => c :: b :: (t + 1) :: r
  | l => l
def shA (A : aS) : aS := ul A 2 (shl (A.2.1 2))
theorem ul_self (A : aS) (k : Nat) : ul A k (A.2.1 k) = A := by
  obtain ⟨a, b, c⟩ := A
  show (a, (fun j => if j = k then b k else b j), c) = (a, b, c)
  congr 2
  funext j
  by_cases e : j = k
  · rw [if_pos e, e]
  · rw [if_neg e]
theorem shA_nil {A : aS} (h : A.2.1 2 = []) : shA A = A := by
  unfold shA
  rw [h]
  show ul A 2 [] = A
  rw [← h]
  exact ul_self A 2
theorem close_shA (A : aS) (why : Int32) : a_close (shA A) why = a_close A why := by
  refine Prod.ext rfl (Prod.ext (funext fun k => ?_) rfl)
  show (if k = 2 then [] else if k = 1 then [] else if k = 2 then shl (A.2.1 2) else A.2.1 k) = if k = 2 then [] else if k = 1 then [] else A.2.1 k
  by_cases c : k = 2
  · simp only [if_pos c]
  · simp only [if_neg c]
theorem ul_20 (A : aS) (x y : List Int32) : ul (ul A 2 x) 0 y = ul (ul A 0 y) 2 x := by
  refine Prod.ext rfl (Prod.ext (funext fun k => ?_) rfl)
  show (if k = 0 then y else if k = 2 then x else A.2.1 k) = if k = 2 then x else if k = 0 then y else A.2.1 k
  by_cases c : k = 0
  · subst c; rfl
  · simp only [if_neg c]
theorem fr_shA (A : aS) (c bs : List Int32) : a_fr (shA A) c bs = ((a_fr A c bs).1, shA (a_fr A c bs).2) := by
  unfold a_fr
  show (if (A.2.1 0).length + 6 + bs.length ≤ 4096 then (1, ul (shA A) 0 (A.2.1 0 ++ ([104, 4 + nI bs.length] ++ c ++ bs))) else (0, a_close (shA A) 6)) = _
  by_cases h : (A.2.1 0).length + 6 + bs.length ≤ 4096
  · rw [if_pos h, if_pos h]
    show (1, ul (ul A 2 (shl (A.2.1 2))) 0 _) = (1, ul (ul A 0 _) 2 (shl (A.2.1 2)))
    rw [ul_20]
  · rw [if_neg h, if_neg h, close_shA]
    show (0, a_close A 6) = (0, shA (a_close A 6))
    rw [shA_nil rfl]
theorem tell_shA (A : aS) : a_tell (shA A) = shA (a_tell A) := by
  unfold a_tell
  rw [fr_shA]
  show (if (a_fr A ([1, 0] ++ kb (A.1 16)) []).1 = 0 then shA (a_fr A ([1, 0] ++ kb (A.1 16)) []).2 else ui (shA (a_fr A ([1, 0] ++ kb (A.1 16)) []).2) 17 ((a_fr A ([1, 0] ++ kb (A.1 16)) []).2.1 16)) = _
  by_cases h : (a_fr A ([1, 0] ++ kb (A.1 16)) []).1 = 0
  · rw [if_pos h, if_pos h]
  · rw [if_neg h, if_neg h]; rfl
theorem test_shA (A : aS) : a_test (shA A) = shA (a_test A) := by
  unfold a_test
  rw [fr_shA]
  by_cases h : (a_fr A [67, 0, 0, 0] []).1 = 0
  · rw [if_pos h, if_pos h]
  · rw [if_neg h, if_neg h]; rfl
theorem RS_now {t : Bool} {C : Nat} {s : eS} {A : aS} (r : RS t C s A) : RS t C (e_I s 0 13 (A.1 9 + 1)) (shA (ui A 9 (A.1 9 + 1))) := by
  have g : ag (fun a k => a == 0 && k == 13) s (e_I s 0 13 (A.1 9 + 1)) := ag_I ag_rf rfl
  have i : SI (e_I s 0 13 (A.1 9 + 1)) (ui A 9 (A.1 9 + 1)) := SI_set (rs_i r) 9 (by decide) (A.1 9 + 1)
  have l1 := SL_ag g (rs_l r) ⟨rfl, rfl, rfl⟩
  have l : SL (e_I s 0 13 (A.1 9 + 1)) (shA (ui A 9 (A.1 9 + 1))) := by
    rcases l1 with ⟨z1, z2⟩ | ⟨c, d, w, k, b, tt, p1, p2, p3, p4, p5, p6, p7, p8, p9⟩
    · refine Or.inl ⟨?_, z2⟩
      show shl (A.2.1 2) = []
      rw [z1]; rfl
    · refine Or.inr ⟨c, d, w, k, b, tt + 1, p1, ?_, p3, p4, p5, p6, p7, ?_, p9⟩
      · show shl (A.2.1 2) = _
        rw [p2]; rfl
      · show A.1 9 + 1 - (tt + 1) = nI w
        rw [← p8, Int32.sub_eq_add_neg, Int32.neg_add, Int32.sub_eq_add_neg, Int32.add_comm (-tt), ← Int32.add_assoc, Int32.add_assoc (A.1 9), Int32.add_right_neg, Int32.add_zero, Int32.sub_eq_add_neg]
  have z : SZ (shA (ui A 9 (A.1 9 + 1))) := ⟨fun h => ⟨by
    show shl (A.2.1 2) = []
    rw [((rs_z r).1 h).1]; rfl, ((rs_z r).1 h).2⟩, (rs_z r).2⟩
  exact ⟨(have q := rs_d r; DS_ag g q), i, (have q := rs_o r; SO_ag g q ⟨rfl, rfl⟩ (fun _ => rfl)), (have q := rs_x r; SXt_ag g q ⟨rfl, rfl, rfl, rfl⟩ (fun _ => rfl)), l, (have q := rs_p r; SP_ag g (rs_d r).1 q rfl (fun a k hx => by simp <;> omega)), (have q := rs_c r; SC_ag g (rs_d r).1 (rs_d r).2.1 q rfl (fun a k hx => by simp <;> omega)), (have q := rs_n r; SN_ag g q ⟨rfl, rfl⟩ (fun _ => ⟨rfl, rfl⟩)), (have q := rs_e r; SE_ag g (rs_d r).1 q ⟨rfl, rfl, rfl⟩ (fun a k hx => by simp <;> omega)), (have q := rs_a r; SA_ag g (rs_d r).2.2.1 q ⟨rfl, rfl⟩ (fun a k hx => by simp <;> omega)), (have q := rs_m r; SM_ag g q ⟨rfl, rfl, rfl⟩ (fun _ => ⟨rfl, rfl, rfl, rfl, rfl⟩)), z, (have q := rs_f r; q)⟩
def a_sel (A : aS) : aS := if selI A = -1 then A else if A.1 9 - (A.2.1 2).getD 2 0 < A.1 6 then A else ul A 2 []
theorem a_179_eq (A : aS) : a_179 A = a_sends 13 (a_sel A) := by
  unfold a_179 a_sel
  split
  · rfl
  · split <;> rfl
theorem uq_sh (X : aS) : ul (shA X) 2 [] = ul X 2 [] := by
  refine Prod.ext rfl (Prod.ext (funext fun k => ?_) rfl)
  show (if k = 2 then [] else if k = 2 then shl (X.2.1 2) else X.2.1 k) = if k = 2 then [] else X.2.1 k
  by_cases c : k = 2
  · simp only [if_pos c]
  · simp only [if_neg c]
set_option maxRecDepth 100000 in
theorem S_selGo {t : Bool} {C : Nat} {s : eS} (h : SH s) {X : aS} (r : RS t C s (shA X)) : ∃ s', mX11_runTimers_149 0 s = some s' ∧ kO s s' ∧ RS t C s' (a_sel X) := by
  have h12 := (rs_d r).2.2.2.2.1
  have h12' : (X.2.2 1).length ≤ 12 := h12
  have g6 : g_P s 109 0 6 = some (sP s 6 0) := gPv h (by decide) rfl
  unfold mX11_runTimers_149 mX9_goOn mX9_goOn_29
  rw [gP_0_4 h, b1S, b1S, oK_6 h, b1S, g6, b1S]
  rcases rs_l r with ⟨z1, z2⟩ | ⟨c, d, w, k, b, tt, p1, p2, p3, p4, p5, p6, p7, p8, p9, p10, p11⟩
  · -- none
    rw [if_pos z2, b1S]
    have e : X.2.1 2 = [] := by
      have z1' : shl (X.2.1 2) = [] := z1
      cases hx : X.2.1 2 with
      | nil => rfl
      | cons a l =>
        rw [hx] at z1'
        cases l with
        | nil => cases z1'
        | cons b l => cases l with
          | nil => cases z1'
          | cons c l => cases z1'
    refine ⟨s, rfl, kO_rf h, ?_⟩
    unfold a_sel selI
    rw [e, if_pos (show ([] : List Int32).getD 0 (-1) = -1 from rfl)]
    rw [shA_nil e] at r
    exact r
  · have h1 := p1.1
    have h1' : c < (X.2.2 1).length := h1
    -- the list of X
    obtain ⟨t0, ht0, hX⟩ : ∃ t0, tt = t0 + 1 ∧ X.2.1 2 = nI c :: b :: t0 :: slB (pg (X.2.2 1) c 0) d := by
      have p2' : shl (X.2.1 2) = nI c :: b :: tt :: slB (pg (X.2.2 1) c 0) d := p2
      cases hx : X.2.1 2 with
      | nil => rw [hx] at p2'; cases p2'
      | cons a1 l1 => cases l1 with
        | nil => rw [hx] at p2'; cases p2'
        | cons a2 l2 => cases l2 with
          | nil => rw [hx] at p2'; cases p2'
          | cons a3 l3 =>
            rw [hx] at p2'
            have q : a1 :: a2 :: (a3 + 1) :: l3 = nI c :: b :: tt :: slB (pg (X.2.2 1) c 0) d := p2'
            injection q with q1 q2
            injection q2 with q2 q3
            injection q3 with q3 q4
            exact ⟨a3, q3.symm, by rw [q1, q2, q4]⟩
    have e9 : X.1 9 - t0 = nI (w + 1) := by
      have p8' : X.1 9 - tt = nI w := p8
      rw [ht0] at p8'
      rw [← nI_1, ← p8', Int32.sub_eq_add_neg, Int32.sub_eq_add_neg, Int32.neg_add, Int32.add_assoc, Int32.sub_eq_add_neg, Int32.add_assoc (-t0), Int32.add_left_neg, Int32.add_zero]
    have e6 : X.1 6 = nI k := p7
    have ns : ¬ selI X = -1 := by
      unfold selI
      rw [hX]
      intro z
      have z' : nI c = -1 := z
      have := congrArg (· < (0 : Int32)) z'
      exact absurd (this.mpr (by decide)) (nI_pos (by omega))
    have g2 : (X.2.1 2).getD 2 0 = t0 := by rw [hX]; rfl
    have h2 := SH_I (a := 6) (k := 3) (x := nI (k - w - 1)) h
    have em : nI (k - w) - 1 = nI (k - w - 1) := by
      obtain ⟨n, hn⟩ : ∃ n, k - w = n + 1 := ⟨k - w - 1, by omega⟩
      rw [hn, nI_pred, Nat.add_sub_cancel]
    have g : ag (fun a j => a == 6 && j == 3) s (e_I s 6 3 (nI (k - w - 1))) := ag_I ag_rf rfl
    rw [if_neg (by rw [p3]; simp), gI_6 h, b1S, p11, em, pI_6 h, b1S, gI_6 h2, b1S, rII_eq]
    unfold a_sel
    rw [if_neg ns, g2, e9, e6]
    by_cases c1 : w + 1 < k
    · rw [if_pos (c_lt (c := 0) 0 (by omega)), b1S, if_pos (nI_lt c1 (by omega))]
      refine ⟨_, rfl, kO_I (kO_rf h) rfl (by decide), ?_⟩
      have l : SL (e_I s 6 3 (nI (k - w - 1))) X := Or.inr ⟨c, d, w + 1, k, b, t0, p1, hX, p3, by rw [rII_ne (Or.inr (by decide))]; exact p4, by rw [rII_ne (Or.inr (by decide))]; exact p5, p6, p7, e9, c1, p10, by rw [rII_eq]; rfl⟩
      have z : SZ X := by
        have z := rs_z r
        refine ⟨fun h7 => ?_, z.2⟩
        have := (z.1 h7).1
        rw [p2] at this
        cases this
      exact ⟨(have q := rs_d r; DS_ag g q), (have q := rs_i r; SI_ag g q (by decide) rfl), (have q := rs_o r; SO_ag g q ⟨rfl, rfl⟩ (fun _ => rfl)), (have q := rs_x r; SXt_ag g q ⟨rfl, rfl, rfl, rfl⟩ (fun _ => rfl)), l, (have q := rs_p r; SP_ag g (rs_d r).1 q rfl (fun a k hx => by simp <;> omega)), (have q := rs_c r; SC_ag g (rs_d r).1 (rs_d r).2.1 q rfl (fun a k hx => by simp <;> omega)), (have q := rs_n r; SN_ag g q ⟨rfl, rfl⟩ (fun _ => ⟨rfl, rfl⟩)), (have q := rs_e r; SE_ag g (rs_d r).1 q ⟨rfl, rfl, rfl⟩ (fun a k hx => by simp <;> omega)), (have q := rs_a r; SA_ag g (rs_d r).2.2.1 q ⟨rfl, rfl⟩ (fun a k hx => by simp <;> omega)), (have q := rs_m r; SM_ag g q ⟨rfl, rfl, rfl⟩ (fun _ => ⟨rfl, rfl, rfl, rfl, rfl⟩)), z, (have q := rs_f r; q)⟩
    · rw [if_neg (c_nlt (c := 0) 0 (by omega)), show p_P (e_I s 6 3 (nI (k - w - 1))) 109 0 6 none = some (e_P (e_I s 6 3 (nI (k - w - 1))) 6 0 none) from pP_s h2 (by decide) rfl, b1S, b1S, if_neg (nI_nlt (by omega) (by omega)), e_PI]
      refine ⟨_, rfl, kO_I ⟨kS_P (kS_rf h), fun z => z⟩ rfl (by decide), ?_⟩
      have r1 := RS_selNone r
      rw [uq_sh] at r1
      have g' : ag (fun a k => a == 6) (e_P s 6 0 none) (e_I (e_P s 6 0 none) 6 3 (nI (k - w - 1))) := ag_I ag_rf rfl
      exact RS_63 r1 g' rPP_eq
