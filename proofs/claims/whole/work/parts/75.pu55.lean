/-! ===== a byte comes to the station ===== -/
abbrev xRc : Nat → Nat → Bool := fun a k => (a == 18 && (k == 1 || k == 5 || k == 6)) || (a == 19 && k == 1) || a == 20
theorem RS_rc {D : Nat} {t t' : Bool} {s s' : eS} {A : aS} (r : RS t D s A) (g : ag xRc s s') {l : List Int32} (x : SXt t' s' l) (m : ∃ l, MT s' 19 20 l) : RS t' D s' (ul A 1 l) := by
  have mm : SM s' := by
    obtain ⟨⟨l1, m1⟩, ⟨l2, m2⟩, -, d⟩ := rs_m r
    exact ⟨⟨l1, MT_ag g m1 rfl (fun _ => rfl)⟩, ⟨l2, MT_ag g m2 rfl (fun _ => rfl)⟩, m, SG_at d (funext fun k => g.2 _ _ rfl) (funext fun k => g.2 _ _ rfl)⟩
  exact ⟨(have q := rs_d r; DS_ag g q), (have q := rs_i r; SI_ag g q (by decide) rfl), (have q := rs_o r; SO_ag g q ⟨rfl, rfl⟩ (fun _ => rfl)), x, (have q := rs_l r; SL_ag g q ⟨rfl, rfl, rfl⟩), (have q := rs_p r; SP_ag g (rs_d r).1 q rfl (fun a k hx => by simp <;> omega)), (have q := rs_c r; SC_ag g (rs_d r).1 (rs_d r).2.1 q rfl (fun a k hx => by simp <;> omega)), (have q := rs_n r; SN_ag g q ⟨rfl, rfl⟩ (fun _ => ⟨rfl, rfl⟩)), (have q := rs_e r; SE_ag g (rs_d r).1 q ⟨rfl, rfl, rfl⟩ (fun a k hx => by simp <;> omega)), (have q := rs_a r; SA_ag g (rs_d r).2.2.1 q ⟨rfl, rfl⟩ (fun a k hx => by simp <;> omega)), mm, (have q := rs_z r; q), (have q := rs_f r; q)⟩
theorem SX_f {D : Nat} {s : eS} {A : aS} (r : RS false D s A) : SX s (A.2.1 1) := by
  have := rs_x r
  unfold SXt at this
  rw [if_neg (by decide)] at this
  exact this
theorem SXt_f {s : eS} {l : List Int32} (h : SX s l) : SXt false s l := by
  unfold SXt
  rw [if_neg (by decide)]
  exact h
theorem SXt_t {s : eS} {l : List Int32} (h : sI s 18 5 = 0) : SXt true s l := by
  unfold SXt
  rw [if_pos rfl]
  exact h
theorem getD_app {l : List Int32} {b : Int32} {i : Nat} (h : i < l.length) : (l ++ [b]).getD i 0 = l.getD i 0 := by
  rw [gD, List.getElem?_append_left h, ← gD]
theorem getD_last {l : List Int32} {b : Int32} : (l ++ [b]).getD l.length 0 = b := by
  rw [gD, List.getElem?_append_right (Nat.le_refl _), Nat.sub_self]; rfl
theorem ctF_app {l : List Int32} {b : Int32} : ∀ k, 2 + k ≤ l.length → ctF (l ++ [b]) k = ctF l k
  | 0, _ => rfl
  | k + 1, h => by
    show ctF (l ++ [b]) k ||| ((l ++ [b]).getD (2 + k) 0 <<< ((8 * nI k) &&& 31)) = ctF l k ||| (l.getD (2 + k) 0 <<< ((8 * nI k) &&& 31))
    rw [ctF_app k (by omega), getD_app (by omega)]
set_option maxRecDepth 100000 in
theorem S_isControl {s : eS} (h : SH s) {l : List Int32} (bf : byF l) (e1 : sI s 18 1 = ctF l 4) (e6 : sI s 18 6 = l.getD 1 0) : mX8_isControl 18 s = some (cb6 l (l.getD 2 0) (if l.getD 4 0 &&& 1 = 0 then 1 else 0), s) := by
  obtain ⟨b1', h1, q1⟩ := bf 1
  obtain ⟨b2, h2, q2⟩ := bf 2
  obtain ⟨b3, h3, q3⟩ := bf 3
  obtain ⟨b4, h4, q4⟩ := bf 4
  obtain ⟨b5, h5, q5⟩ := bf 5
  have eN := ct_nat h2 h3 h4 h5 q2 q3 q4 q5
  have m1 : ∀ j, (h : j < 32) → (1 : Int32).toBitVec[j] = decide (j < 1) := by decide +kernel
  have m255 : ∀ j, (h : j < 32) → (255 : Int32).toBitVec[j] = decide (j < 8) := by decide +kernel
  have e16 : (ctF l 4 >>> ((16 : Int32) &&& 31)) &&& 1 = nI (b4 % 2) := by
    rw [shr_and _ _ _ 16 1 (by decide +kernel) (by omega) m1, eN]
    congr 1; omega
  have e8 : (ctF l 4 >>> ((8 : Int32) &&& 31)) &&& 255 = nI b3 := by
    rw [shr_and _ _ _ 8 8 (by decide +kernel) (by omega) m255, eN]
    congr 1; omega
  have e4 : nI b4 &&& 1 = nI (b4 % 2) := pk_andN (by omega) 1 rfl
  have ctE : ∀ c : Nat, c < 256 → (ctF l 4 = nI c ↔ (b2 = c ∧ b3 = 0 ∧ b4 = 0 ∧ b5 = 0)) := fun c hc => by
    constructor
    · intro z
      have := congrArg uI z
      rw [eN, uI_nI (by omega)] at this
      omega
    · rintro ⟨rfl, rfl, rfl, rfl⟩
      apply uI_ext
      rw [eN, uI_nI (by omega)]
      omega
  have q : ∀ x c : Nat, x < 256 → c < 256 → (nI x = nI c ↔ x = c) := fun x c hx hc => nI_eq (by omega) (by omega)
  unfold mX8_isControl mX8_isControl_26 mX8_isControl_72 mX8_isControl_73 mX8_isControl_136 cb6
  simp only [gI_18 h, b1S, e1, e6, oZ0, oZ1]
  rw [(F_num bf).2.2, e16, e8, q1, q2, q3, q4, q5, e4]
  -- by the two ways in which the ACK is even or odd
  have key : ∀ v : Int32, (v = 0 ∨ v = 1) → (if nI b2 &&& 1 = 0 then some (v, s) else if nI b1' = 4 then (if nI b2 = 1 then (if v = 0 then some (0, s) else if nI b3 = 0 then some (1, s) else some (0, s)) else (if ctF l 4 = 7 then some (1, s) else if ctF l 4 = 11 then some (1, s) else if ctF l 4 = 19 then some (1, s) else if ctF l 4 = 35 then some (1, s) else if ctF l 4 = 67 then some (1, s) else if ctF l 4 = 131 then some (1, s) else some (0, s))) else some (0, s)) = some ((if nI b2 &&& 1 = 0 then v else if nI b1' = 4 then (if nI b3 = 0 then (if nI b2 = 1 then v else if (nI b2 = 7 ∨ nI b2 = 11 ∨ nI b2 = 19 ∨ nI b2 = 35 ∨ nI b2 = 67 ∨ nI b2 = 131) then (if nI b4 = 0 then (if nI b5 = 0 then 1 else 0) else 0) else 0) else 0) else 0), s) := by
    intro v hv
    by_cases c0 : nI b2 &&& 1 = 0
    · rw [if_pos c0, if_pos c0]
    rw [if_neg c0, if_neg c0]
    by_cases c4 : nI b1' = 4
    case neg => rw [if_neg c4, if_neg c4]
    rw [if_pos c4, if_pos c4]
    by_cases c1 : nI b2 = 1
    · rw [if_pos c1, if_pos c1]
      rcases hv with rfl | rfl
      · rw [if_pos rfl]
        split <;> rfl
      · rw [if_neg (by decide)]
        by_cases c3 : nI b3 = 0
        · rw [if_pos c3, if_pos c3]
        · rw [if_neg c3, if_neg c3]
    rw [if_neg c1, if_neg c1]
    by_cases z : b3 = 0 ∧ b4 = 0 ∧ b5 = 0
    · have t : ∀ c : Nat, c < 256 → (ctF l 4 = nI c ↔ nI b2 = nI c) := fun c hc => by
        rw [ctE c hc, q b2 c h2 hc]
        exact ⟨fun y => y.1, fun y => ⟨y, z⟩⟩
      rw [if_pos (show nI b3 = 0 by rw [z.1]; rfl), if_pos (show nI b4 = 0 by rw [z.2.1]; rfl), if_pos (show nI b5 = 0 by rw [z.2.2]; rfl)]
      have t7 : (ctF l 4 = 7 ↔ nI b2 = 7) := t 7 (by omega)
      have t11 : (ctF l 4 = 11 ↔ nI b2 = 11) := t 11 (by omega)
      have t19 : (ctF l 4 = 19 ↔ nI b2 = 19) := t 19 (by omega)
      have t35 : (ctF l 4 = 35 ↔ nI b2 = 35) := t 35 (by omega)
      have t67 : (ctF l 4 = 67 ↔ nI b2 = 67) := t 67 (by omega)
      have t131 : (ctF l 4 = 131 ↔ nI b2 = 131) := t 131 (by omega)
      by_cases u7 : nI b2 = 7
      · rw [if_pos (t7.mpr u7), if_pos (Or.inl u7)]
      rw [if_neg (fun y => u7 (t7.mp y))]
      by_cases u11 : nI b2 = 11
      · rw [if_pos (t11.mpr u11), if_pos (Or.inr (Or.inl u11))]
      rw [if_neg (fun y => u11 (t11.mp y))]
      by_cases u19 : nI b2 = 19
      · rw [if_pos (t19.mpr u19), if_pos (Or.inr (Or.inr (Or.inl u19)))]
      rw [if_neg (fun y => u19 (t19.mp y))]
      by_cases u35 : nI b2 = 35
      · rw [if_pos (t35.mpr u35), if_pos (Or.inr (Or.inr (Or.inr (Or.inl u35))))]
      rw [if_neg (fun y => u35 (t35.mp y))]
      by_cases u67 : nI b2 = 67
      · rw [if_pos (t67.mpr u67), if_pos (Or.inr (Or.inr (Or.inr (Or.inr (Or.inl u67)))))]
      rw [if_neg (fun y => u67 (t67.mp y))]
      by_cases u131 : nI b2 = 131
      · rw [if_pos (t131.mpr u131), if_pos (Or.inr (Or.inr (Or.inr (Or.inr (Or.inr u131)))))]
      rw [if_neg (fun y => u131 (t131.mp y)), if_neg (by
        rintro (y | y | y | y | y | y)
        · exact u7 y
        · exact u11 y
        · exact u19 y
        · exact u35 y
        · exact u67 y
        · exact u131 y)]
    · have t : ∀ c : Nat, c < 256 → ¬ ctF l 4 = nI c := fun c hc y => z ((ctE c hc).mp y).2
      rw [if_neg (show ¬ ctF l 4 = 7 from t 7 (by omega)), if_neg (show ¬ ctF l 4 = 11 from t 11 (by omega)), if_neg (show ¬ ctF l 4 = 19 from t 19 (by omega)), if_neg (show ¬ ctF l 4 = 35 from t 35 (by omega)), if_neg (show ¬ ctF l 4 = 67 from t 67 (by omega)), if_neg (show ¬ ctF l 4 = 131 from t 131 (by omega))]
      by_cases c3 : nI b3 = 0
      · rw [if_pos c3]
        split
        · by_cases c4' : nI b4 = 0
          · rw [if_pos c4']
            by_cases c5 : nI b5 = 0
            · exact absurd ⟨(q b3 0 h3 (by omega)).mp c3, (q b4 0 h4 (by omega)).mp c4', (q b5 0 h5 (by omega)).mp c5⟩ z
            · rw [if_neg c5]
          · rw [if_neg c4']
        · rfl
      · rw [if_neg c3]
  by_cases cv : nI (b4 % 2) = 0
  · rw [if_pos cv, if_pos cv]
    exact key 1 (Or.inr rfl)
  · rw [if_neg cv, if_neg cv]
    exact key 0 (Or.inl rfl)
