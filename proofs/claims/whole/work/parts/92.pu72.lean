/-! ===== the station's change ===== -/
theorem evN_le (q : List (List Int32)) (m : Nat) : evN q m ≤ q.length := by
  unfold evN
  exact Nat.le_trans (List.length_filter_le _ _) (by rw [List.length_take]; omega)
theorem rs_12 {t : Bool} {D : Nat} {s : eS} {A : aS} (r : RS t D s A) : (A.2.2 2).length ≤ 12 := by
  obtain ⟨st, -, -, -, h, -⟩ := rs_n r
  have := evN_le (A.2.2 5) (A.2.2 5).length
  rw [(rs_z r).2.1]
  omega
set_option maxRecDepth 100000 in
theorem S_127 {C D : Nat} (hC : C + 12 < 2 ^ 30) {s0 s : eS} (h : SH s) (k : kO s0 s) {A : aS} (r : RS false D s A) (w : WW C A) : ∃ s', mX11_change_127 0 s = some (1, s') ∧ kO s0 s' ∧ RS false D s' (a_sends 13 A) := by
  obtain ⟨s', f, k', r'⟩ := S_sends hC h r w
  refine ⟨s', ?_, kO_tr k k', r'⟩
  unfold mX11_change_127
  rw [oK_0 h, b1S, f, b1S]
set_option maxRecDepth 100000 in
theorem S_84 {C D : Nat} (hC : C + 12 < 2 ^ 30) (hD : D < 2 ^ 30) {s : eS} (h : SH s) {A : aS} (r : RS false D s A) (w : WW C A) {p : Nat} (hp : p < (A.2.2 0).length) {k : Nat} (hk : k < 7) (e0 : sI s (pA s p) 0 = nI k) {v q : Int32} (hv : vOK (nI k) v) {c : Int32} (hc : k = 6 ∧ c = 0 ∨ k < 6 ∧ c = 1 ∧ (A.2.2 3).length < 40) : ∃ s', mX11_change_84 0 v q (some (pA s p)) c s = some (1, s') ∧ kO s s' ∧ RS false D s' (if k = 6 then a_sends 13 (a_chv A p v q) else a_sends 13 (uq (a_chv A p v q) 3 (A.2.2 3 ++ [nI p :: v :: q :: tmB A]))) := by
  have dp := ((rs_d r).1.1 p hp)
  have ko := dp.2
  have r2 : RS false D (e_I (e_I s (pA s p) 4 v) (pA s p) 5 q) (a_chv A p v q) := RS_chv r hp (by rw [e0]; exact hv)
  have xa : ∀ j, xK (pA s p) j = false := fun j => by have := ko.2; simp; omega
  have kk : kO s (e_I (e_I s (pA s p) 4 v) (pA s p) 5 q) := kO_I (kO_I (kO_rf h) (xa 4) (Or.inl (by have := ko.2; omega))) (xa 5) (Or.inr (by decide))
  have ko1 : KO (e_I s (pA s p) 4 v) 106 (pA s p) := ko
  have q0 : sI (e_I (e_I s (pA s p) 4 v) (pA s p) 5 q) (pA s p) 0 = nI k := by rw [rII_ne (Or.inr (by decide)), rII_ne (Or.inr (by decide)), e0]
  have q5 : sI (e_I (e_I s (pA s p) 4 v) (pA s p) 5 q) (pA s p) 5 = q := rII_eq
  obtain ⟨ad, had, q1⟩ : ∃ ad : Nat, ad < 2 ^ 24 ∧ sI (e_I (e_I s (pA s p) 4 v) (pA s p) 5 q) (pA s p) 1 = nI ad := by
    obtain ⟨d, a, b⟩ := ((rs_p r).2.1 p hp).2.2.1
    exact ⟨d, a, by rw [rII_ne (Or.inr (by decide)), rII_ne (Or.inr (by decide)), b]⟩
  have pe : pA (e_I (e_I s (pA s p) 4 v) (pA s p) 5 q) p = pA s p := rfl
  have ko2 : KO (e_I (e_I s (pA s p) 4 v) (pA s p) 5 q) 106 (pA s p) := ko
  unfold mX11_change_84
  rw [b1S, kop ko, b1S, kop ko1, b1S]
  revert r2 kk q0 q5 q1 pe ko2
  generalize e_I (e_I s (pA s p) 4 v) (pA s p) 5 q = s2
  intro r2 kk q0 q5 q1 pe ko2
  have h2 : SH s2 := kk.1.1
  rcases hc with ⟨c6, rfl⟩ | ⟨c6, rfl, hl⟩
  · rw [if_pos rfl, if_pos c6]
    exact S_127 hC h2 kk r2 (chv_W w p v q)
  · rw [if_neg (by decide), if_neg (by omega)]
    obtain ⟨f, hf, ef⟩ := rs_f r
    have e18 : sI s2 0 18 = nI f := ((rs_i r2).1 14 (by decide) (by decide)).trans ef
    obtain ⟨X, fX, lX⟩ := S_object ko2 hk q0 had q1 (v := v) (fr := nI f) hv (by omega) rfl
    obtain ⟨T, fT, lT⟩ := S_time h2 r2
    have hl' : ((a_chv A p v q).2.2 0).length = (A.2.2 0).length := by
      show (sg (sg (A.2.2 0) p 4 v) p 5 q).length = _
      rw [sg_len, sg_len]
    have h12 : (A.2.2 2).length ≤ 12 := rs_12 r
    obtain ⟨s3, f3, k3, r3⟩ := S_evAdd h2 r2 (p := p) (k := k) (v := v) (q := q) (X := X) (T := T) (tm := tmB A) (by show (A.2.2 2).length + (A.2.2 3).length < 52; omega) (by rw [hl']; exact hp) c6 (by rw [pe]; exact q0) rfl (fun fr => by rw [pe, q1]; exact (lX.trans (by rw [q5])).trans (ob_fr c6 _ _ _ _ _)) lT
    rw [pe] at f3
    rw [gP_0_6 h2, b1S, gI_0 h2, b1S, koK ko2, b1S, e18, fX, b2S, gP_0_5 h2, b1S, b1S, oK_7 h2, b1S, fT, b2S, b1S, oK_8 h2, b1S, f3, b1S]
    exact S_127 hC k3.1.1 (kO_tr kk k3) r3 (chE_W w hp v q hl h12)
set_option maxRecDepth 100000 in
theorem S_change {C D : Nat} (hC : C + 12 < 2 ^ 30) (hD : D < 2 ^ 30) {s : eS} (h : SH s) {A : aS} (r : RS false D s A) (w : WW C A) (x v q : Int32) : ∃ s', mX11_change 0 x v q s = some ((a_change A x v q).1, s') ∧ kO s s' ∧ RS false D s' (a_change A x v q).2 := by
  have h24 := (rs_d r).2.2.2.1
  unfold mX11_change mX11_change_25 a_change
  rw [gP_0_1 h, b1S, b1S, oK_2 h, b1S]
  rcases S_ptAt h r x with ⟨e, f⟩ | ⟨p, hp, rfl, e, f⟩
  · rw [f, b2S, e, if_pos rfl, if_pos rfl]
    exact ⟨s, rfl, kO_rf h, r⟩
  · have ko := ((rs_d r).1.1 p hp).2
    have qq : ∀ j, pg (A.2.2 0) p j = (ptS s p).getD j 0 := fun j => pg_pt (rs_p r) hp j
    obtain ⟨k, hk, e0⟩ := ((rs_p r).2.1 p hp).2.1
    have q0 : pg (A.2.2 0) p 0 = nI k := (qq 0).trans e0
    have q4 : pg (A.2.2 0) p 4 = sI s (pA s p) 4 := qq 4
    have q5 : pg (A.2.2 0) p 5 = sI s (pA s p) 5 := qq 5
    rw [f, b2S, e, if_neg (by simp), if_neg (by decide : ¬ (1 : Int32) = 0), nI_clamp (by omega), b1S, koK ko, b1S, S_fits ko hk e0, b2S, q0, q4, q5]
    by_cases c1 : valF (nI k) v = 0
    · rw [if_pos c1, if_pos rfl, if_pos c1]
      exact ⟨s, rfl, kO_rf h, r⟩
    rw [if_neg c1, if_neg c1]
    by_cases c2 : q &&& (mayF (nI k) ^^^ (-1)) = 0
    · rw [if_pos c2, if_pos c2, if_neg (by decide : ¬ (1 : Int32) = 0), koI ko, b1S]
      have key : ∃ s', mX11_change_47 0 v q (some (pA s p)) s = some ((a_chE A p v q).1, s') ∧ kO s s' ∧ RS false D s' (a_chE A p v q).2 := by
        unfold mX11_change_47 a_chE
        rw [b1S, koI ko, b1S, e0, q0]
        by_cases c6 : k = 6
        · have z : nI k = 6 := by rw [c6]; rfl
          rw [if_pos z, if_pos z]
          unfold mX11_change_62
          rw [if_pos rfl]
          obtain ⟨s', f', k', r'⟩ := S_84 hC hD h r w hp hk e0 (v := v) (q := q) (val_OK hk c1) (c := 0) (Or.inl ⟨c6, rfl⟩)
          rw [if_pos c6] at r'
          exact ⟨s', f', k', r'⟩
        · have z : ¬ nI k = 6 := fun z => c6 ((nI_eq (a := k) (b := 6) (by omega) (by omega)).mp z)
          rw [if_neg z, if_neg z]
          unfold mX11_change_62
          obtain ⟨st, hst, b1', b2', b3', b4', b5'⟩ := rs_e r
          rw [if_neg (by decide), gP_0_6 h, b1S, b1S, oK_8 h, b1S]
          unfold mX3_waiting
          rw [gI_8 h, b1S, gI_8 h, b1S, b2S, b2', b3', pk_sub (by omega), show (A.2.2 2).length + (A.2.2 3).length - (A.2.2 2).length = (A.2.2 3).length by omega]
          by_cases c4 : (A.2.2 3).length < 40
          · rw [if_pos (lt_c (c := 40) 40 c4), if_pos (lt_c (c := 40) 40 c4)]
            obtain ⟨s', f', k', r'⟩ := S_84 hC hD h r w hp hk e0 (v := v) (q := q) (val_OK hk c1) (c := 1) (Or.inr ⟨by omega, rfl, c4⟩)
            rw [if_neg c6] at r'
            exact ⟨s', f', k', r'⟩
          · have z : ¬ nI (A.2.2 3).length < 40 := Int32.not_lt.mpr (nI_le (a := 40) (b := (A.2.2 3).length) (by omega) (by omega))
            rw [if_neg z, if_neg z]
            exact ⟨s, rfl, kO_rf h, r⟩
      by_cases c4 : sI s (pA s p) 4 = v
      · rw [if_pos c4, if_pos c4, koI ko, b1S]
        by_cases c5 : sI s (pA s p) 5 = q
        · rw [if_pos c5, if_pos c5]
          exact ⟨s, rfl, kO_rf h, r⟩
        · rw [if_neg c5, if_neg c5]
          exact key
      · rw [if_neg c4, if_neg c4]
        exact key
    · rw [if_neg c2, if_neg c2, if_pos rfl]
      exact ⟨s, rfl, kO_rf h, r⟩
