/-- a state whose events, answers and windows are within their rows, and whose events are of points -/
def evW (A : aS) (e : List Int32) : Prop := ∃ (p : Nat) (v q : Int32) (t : List Int32), p < (A.2.2 0).length ∧ t.length = 7 ∧ e = nI p :: v :: q :: t
/-- the state behind an event that went out -/
def a_evGone (A : aS) (e : List Int32) (q : List (List Int32)) : aS := uq (uq (uq (a_gone A) 5 (A.2.2 5 ++ [[A.1 9, 1]])) 2 (A.2.2 2 ++ [e])) 3 q
theorem a_fr_ok {A : aS} {c bs : List Int32} (h : (a_fr A c bs).1 ≠ 0) : (a_fr A c bs).1 = 1 ∧ (a_fr A c bs).2.1 = A.1 ∧ (a_fr A c bs).2.2.2 = A.2.2 ∧ (a_fr A c bs).2.2.1 1 = A.2.1 1 ∧ (a_fr A c bs).2.2.1 2 = A.2.1 2 := by
  unfold a_fr at h ⊢
  split
  · exact ⟨rfl, rfl, rfl, rfl, rfl⟩
  · rename_i z
    rw [if_neg z] at h
    exact absurd rfl h
theorem evB_len {A : aS} {e : List Int32} (h : evW A e) : (evB A e).length ≤ 21 := by
  obtain ⟨p, v, q, t, h1, h2, rfl⟩ := h
  unfold evB hb
  have := ob_len (pg (A.2.2 0) ((nI p :: v :: q :: t).getD 0 0).toNatClampNeg 0) (pg (A.2.2 0) ((nI p :: v :: q :: t).getD 0 0).toNatClampNeg 1) ((nI p :: v :: q :: t).getD 1 0) ((nI p :: v :: q :: t).getD 2 0) (A.1 14)
  rw [List.length_append, List.length_append, List.length_append, nb_len]
  split <;> simp [h2] <;> simp at this <;> omega
set_option maxRecDepth 100000 in
/-- the draft of the first event that waits stands -/
theorem M_evDraft {s : eS} (h : SH s) {A : aS} (r : RM s A) {e : List Int32} {q : List (List Int32)} (he : A.2.2 3 = e :: q) (hw : evW A e) : ∃ s' p, p < 24 ∧ e.getD 0 0 = nI p ∧ mX12_sendsEvent 26 s = mX12_sendsEvent_94 26 (nI p) s' ∧ SH s' ∧ ag xDR s s' ∧ DR s' (evB A e) := by
  obtain ⟨p, v, u, t, hp, ht, ee⟩ := hw
  obtain ⟨a1, a2, a3, a4, a5, a6, a7, ⟨c1, c2⟩, a9⟩ := r
  have hp24 : p < 24 := Nat.lt_of_lt_of_le hp a5.2.1
  have hpt := MP_get a5 hp
  rw [he] at c2
  have c3 : evM s 0 = e := by
    have := (rd_cons (evM s) q.length).symm.trans c2
    exact (List.cons.inj this).1
  rw [ee] at c3
  have k1 : sI s 42 0 = nI p := (List.cons.inj c3).1
  have k2 : sI s 43 0 = v := (List.cons.inj (List.cons.inj c3).2).1
  have k3 : sI s 44 0 = u := (List.cons.inj (List.cons.inj (List.cons.inj c3).2).2).1
  have k4 : rd (fun k => sI s 45 (7 * 0 + k)) 7 = t := (List.cons.inj (List.cons.inj (List.cons.inj c3).2).2).2
  have k5 : rd (sI s 45) 7 = t := by
    rw [← k4]
    exact rd_congr (fun i _ => by rw [Nat.mul_zero, Nat.zero_add])
  have g0 : e.getD 0 0 = nI p := by rw [ee]; rfl
  have g1 : e.getD 1 0 = v := by rw [ee]; rfl
  have g2 : e.getD 2 0 = u := by rw [ee]; rfl
  have g3 : e.drop 3 = t := by rw [ee]; rfl
  have cp : (nI p).toNatClampNeg = p := nI_clamp (by omega)
  have f0 : pg (A.2.2 0) p 0 = sI s 28 p := by unfold pg; rw [hpt]; rfl
  have f1 : pg (A.2.2 0) p 1 = sI s 29 p := by unfold pg; rw [hpt]; rfl
  have f3 : pg (A.2.2 0) p 3 = sI s 31 p := by unfold pg; rw [hpt]; rfl
  have hip : ¬ nI p < 0 ∧ (nI p).toNatClampNeg < 24 := nIc (by omega) hp24
  have hi0 : ¬ (0 : Int32) < 0 ∧ (0 : Int32).toNatClampNeg < 60 := by decide
  have z0 : (0 : Int32).toNatClampNeg = 0 := rfl
  have hst : sI s 27 0 = A.1 0 := a1 0 (by decide)
  have hfz : sI s 26 19 = A.1 14 := a1 14 (by decide)
  -- from the type on
  have main : ∀ ty : Int32, ty = (if sI s 31 p = 0 then tyF (sI s 28 p) else ttF (sI s 28 p)) → ∃ s', mX12_sendsEvent_38 26 (nI p) ty (some 26) s = mX12_sendsEvent_94 26 (nI p) s' ∧ SH s' ∧ ag xDR s s' ∧ DR s' (evB A e) := by
    intro ty hty
    obtain ⟨s1, e1, y1, d1⟩ := M_head h ty 1 3 0
    have h1 := SH_ag h y1
    have l1 : (hb ty 1 3 0 (sI s 27 0)).length = 6 := by unfold hb; rw [List.length_append, nb_len]; rfl
    obtain ⟨s2, e2, y2, d2⟩ := M_object h1 d1 (by omega) hp24 v u
    have h2 := SH_ag h1 y2
    have y12 := ag_tr y1 y2
    rw [y1.2 28 p rfl, y1.2 29 p rfl, y1.2 26 19 rfl, hst, hfz] at d2
    unfold mX12_sendsEvent_38
    rw [b1S, oK_26 h, b1S, e1, b1S, gP_26_25 h1, b1S, b1S, aI_43 h1 hi0, b1S, z0, y1.2 43 0 rfl, k2, gP_26_26 h1, b1S, b1S, aI_44 h1 hi0, b1S, z0, y1.2 44 0 rfl, k3, oK_26 h1, b1S, e2, b1S]
    by_cases c : sI s 31 p = 0
    · refine ⟨s2, ?_, h2, y12, ?_⟩
      · conv => lhs; unfold mX12_sendsEvent_63
        rw [if_neg (by decide), gP_26_5 h2, b1S, b1S, aI_31 h2 hip, b1S, cp, y12.2 31 p rfl, if_pos c]
      · unfold evB
        rw [g0, cp, f0, f1, f3, g1, g2, if_pos c, if_pos c, List.append_nil]
        rw [if_pos c] at hty
        rw [hty] at d2
        exact d2
    · obtain ⟨s3, e3, h3, y3, d3⟩ := M_time_loop hp24 (s0 := s2) (by rw [y12.2 31 p rfl]; exact c) (l := hb ty 1 3 0 (A.1 0) ++ ob (sI s 28 p) (sI s 29 p) v u (A.1 14)) (by have := ob_len (sI s 28 p) (sI s 29 p) v u (A.1 14); rw [List.length_append]; rw [hst] at l1; omega) 7 0 100000 s2 (by omega) (by omega) h2 ag_rf (by rw [rd_0, List.append_nil]; exact d2)
      refine ⟨s3, e3, h3, ag_tr y12 y3, ?_⟩
      unfold evB
      rw [g0, cp, f0, f1, f3, g1, g2, g3, if_neg c, if_neg c]
      rw [if_neg c] at hty
      rw [rd_congr (fun i _ => y12.2 45 i rfl), k5, hty] at d3
      exact d3
  unfold mX12_sendsEvent
  rw [gP_26_24 h, b1S, b1S, aI_42 h hi0, b1S, z0, k1, gP_26_5 h, b1S, b1S, aI_31 h hip, b1S, cp]
  by_cases c : sI s 31 p = 0
  · obtain ⟨s', e', r'⟩ := main (tyF (sI s 28 p)) (by rw [if_pos c])
    refine ⟨s', p, hp24, g0, ?_, r'⟩
    rw [if_pos c, gP_26_2 h, b1S, b1S, aI_28 h hip, b1S, cp, M_typeOf, b2S, e']
  · obtain ⟨s', e', r'⟩ := main (ttF (sI s 28 p)) (by rw [if_neg c])
    refine ⟨s', p, hp24, g0, ?_, r'⟩
    rw [if_neg c, gP_26_2 h, b1S, b1S, aI_28 h hip, b1S, cp, M_timedTypeOf, b2S, e']
set_option maxRecDepth 100000 in
theorem M_sendsEvent {s : eS} (h : SH s) {A : aS} (r : RM s A) (hev : (A.2.2 3).length + (A.2.2 2).length ≤ 58) (hou : (A.2.1 0).length ≤ 4096) (hwn : (A.2.2 5).length < 12) {e : List Int32} {q : List (List Int32)} (he : A.2.2 3 = e :: q) (hw : evW A e) :
    ∃ s', mX12_sendsEvent 26 s = some ((a_fr A (kb (A.1 15) ++ kb (A.1 16)) (evB A e)).1, s') ∧ SH s' ∧ ag xM s s' ∧ ((a_fr A (kb (A.1 15) ++ kb (A.1 16)) (evB A e)).1 = 0 → RM s' (a_fr A (kb (A.1 15) ++ kb (A.1 16)) (evB A e)).2) ∧ ((a_fr A (kb (A.1 15) ++ kb (A.1 16)) (evB A e)).1 ≠ 0 → RM s' (a_evGone (a_fr A (kb (A.1 15) ++ kb (A.1 16)) (evB A e)).2 e q)) := by
  obtain ⟨s1, p, hp, ep, e1, h1, g1, d1⟩ := M_evDraft h r he hw
  have r1 := RM_DR g1 r
  have hlen := evB_len hw
  obtain ⟨s2, e2, h2, g2, f2, n2⟩ := M_sendsDraft h1 r1 hev hou hwn (by omega) d1
  rw [e1]
  unfold mX12_sendsEvent_94
  rw [oK_26 h1, b1S, e2, b2S]
  have fok : (a_fr A (kb (A.1 15) ++ kb (A.1 16)) (evB A e)).1 ≠ 0 → _ := a_fr_ok
  generalize a_fr A (kb (A.1 15) ++ kb (A.1 16)) (evB A e) = F at f2 n2 fok ⊢
  have gM := ag_tr (xM_DR g1) g2
  by_cases c : F.1 = 0
  · rw [if_pos c, oZ0, b1S, c]
    exact ⟨s2, rfl, h2, gM, fun _ => f2 c, fun z => absurd rfl z⟩
  · obtain ⟨k1, k2, k3, k4, k5⟩ := fok c
    obtain ⟨q1, q2, q3, q4⟩ := n2 c
    rw [if_neg c]
    have hn12 : (A.2.2 5).length < 12 := hwn
    have hin : ¬ nI (A.2.2 5).length < 0 ∧ (nI (A.2.2 5).length).toNatClampNeg < 12 := nIc (by omega) hwn
    have cn : (nI (A.2.2 5).length).toNatClampNeg = (A.2.2 5).length := nI_clamp (by omega)
    have hi0 : ¬ (0 : Int32) < 0 ∧ (0 : Int32).toNatClampNeg < 60 := by decide
    have z0 : (0 : Int32).toNatClampNeg = 0 := rfl
    -- what the events are in s2
    have hME : ME s2 (e :: q) := by
      have := q1.2.2.2.2.2.2.1
      show ME s2 (e :: q)
      have e9 : (a_gone F.2).2.2 3 = e :: q := by
        show F.2.2.2 3 = _
        rw [k3]; exact he
      rw [e9] at this
      exact this
    have hMS := r1.2.2.2.2.2.2.1
    obtain ⟨m1, m2, m3, m4⟩ := hMS
    obtain ⟨p0, v, u, t, hp0, ht, ee⟩ := hw
    have c3 : evM s2 0 = e := by
      have := (rd_cons (evM s2) q.length).symm.trans hME.2
      exact (List.cons.inj this).1
    have c3' := c3
    rw [ee] at c3'
    have y42 : sI s2 42 0 = nI p := by
      rw [← ep, ← c3]; rfl
    have h3 : SH (e_I s2 47 (A.2.2 5).length 1) := SH_I h2
    have h4 : SH (e_I (e_I s2 47 (A.2.2 5).length 1) 48 (A.2.2 5).length (nI p)) := SH_I h3
    have h5 : SH (e_I (e_I (e_I s2 47 (A.2.2 5).length 1) 48 (A.2.2 5).length (nI p)) 49 (A.2.2 5).length (sI s2 43 0)) := SH_I h4
    have h6 : SH (e_I (e_I (e_I (e_I s2 47 (A.2.2 5).length 1) 48 (A.2.2 5).length (nI p)) 49 (A.2.2 5).length (sI s2 43 0)) 50 (A.2.2 5).length (sI s2 44 0)) := SH_I h5
    have G6 : ag (fun a k => a == 47 && k == (A.2.2 5).length || a == 48 && k == (A.2.2 5).length || a == 49 && k == (A.2.2 5).length || a == 50 && k == (A.2.2 5).length) s2 (e_I (e_I (e_I (e_I s2 47 (A.2.2 5).length 1) 48 (A.2.2 5).length (nI p)) 49 (A.2.2 5).length (sI s2 43 0)) 50 (A.2.2 5).length (sI s2 44 0)) := ag_I (ag_I (ag_I (ag_I ag_rf (by simp)) (by simp)) (by simp)) (by simp)
    obtain ⟨s7, e7, h7, g7, d7, o7⟩ := M_senttime_loop hwn (s0 := e_I (e_I (e_I (e_I s2 47 (A.2.2 5).length 1) 48 (A.2.2 5).length (nI p)) 49 (A.2.2 5).length (sI s2 43 0)) 50 (A.2.2 5).length (sI s2 44 0)) 7 0 100000 _ (by omega) (by omega) h6 ag_rf (fun i hi => absurd hi (Nat.not_lt_zero i)) (fun _ _ => rfl)
    have c7 : sI s7 26 23 = nI (q.length + 1) := by
      rw [g7.2 26 23 rfl, G6.2 26 23 rfl]
      exact hME.1
    have h8 : SH (e_I s7 26 23 (nI q.length)) := SH_I h7
    have ev8 : ∀ i, evM (e_I s7 26 23 (nI q.length)) i = evM s2 i := fun i => by
      refine evM_congr ?_ ?_ ?_ (fun k hk => ?_)
      · rw [rII_ne (Or.inl (by decide)), g7.2 42 i rfl, G6.2 42 i rfl]
      · rw [rII_ne (Or.inl (by decide)), g7.2 43 i rfl, G6.2 43 i rfl]
      · rw [rII_ne (Or.inl (by decide)), g7.2 44 i rfl, G6.2 44 i rfl]
      · rw [rII_ne (Or.inl (by decide)), g7.2 45 _ rfl, G6.2 45 _ rfl]
    rw [he] at hev
    have hql : q.length < 58 := by
      have : (e :: q).length = q.length + 1 := rfl
      omega
    obtain ⟨s9, e9, h9, g9, d9⟩ := M_shiftDown (n := q.length) (by omega) (s0 := e_I s7 26 23 (nI q.length)) q.length 0 100000 _ (by omega) (by omega) h8 ag_rf rII_eq (fun j hj => absurd hj (Nat.not_lt_zero j)) (fun _ _ => rfl)
    have G9 : ag (fun a k => a == 42 || a == 43 || a == 44 || a == 45 || a == 51 || (a == 26 && k == 23) || a == 47 && k == (A.2.2 5).length || a == 48 && k == (A.2.2 5).length || a == 49 && k == (A.2.2 5).length || a == 50 && k == (A.2.2 5).length) s2 s9 := by
      refine ag_tr (ag_tr (ag_mono G6 ?_) (ag_mono g7 ?_)) (ag_tr (ag_I ag_rf rfl) (ag_mono g9 ?_)) <;>
      · intro a k hx
        simp only [xEV, Bool.or_eq_false_iff, Bool.and_eq_false_iff, beq_eq_false_iff_ne] at hx ⊢
        omega
    refine ⟨s9, ?_, h9, ag_tr gM (ag_mono G9 (fun a k hx => ?_)), fun z => absurd z c, fun _ => ?_⟩
    · rw [gI_26 h2, b1S, q3, nI_pred, gP_26_30 h2, b1S, b1S, sZ_47 h2 hin, b1S, cn, show ((1 : Int32) &&& 1) = 1 from by decide, gP_26_31 h3, b1S, b1S, sI_48 h3 hin, b1S, cn, gP_26_32 h4, b1S, gP_26_25 h4, b1S, b1S, aI_43 h4 hi0, b1S, b1S, z0, rII_ne (Or.inl (by decide)), rII_ne (Or.inl (by decide)), sI_49 h4 hin, b1S, cn, gP_26_33 h5, b1S, gP_26_26 h5, b1S, b1S, aI_44 h5 hi0, b1S, b1S, z0, rII_ne (Or.inl (by decide)), rII_ne (Or.inl (by decide)), rII_ne (Or.inl (by decide)), sI_50 h5 hin, b1S, cn]
      rw [show mX12_sendsEvent_150 100000 26 (nI (A.2.2 5).length) 0 _ = _ from e7, gI_26 h7, b1S, c7, nI_pred, pI_26 h7, b1S]
      rw [show mX12_sendsEvent_191 100000 26 0 (e_I s7 26 23 (nI q.length)) = _ from e9, k1]
    · simp only [xM, Bool.and_eq_false_iff, decide_eq_false_iff_not, Bool.not_eq_false', beq_iff_eq] at hx
      simp only [Bool.or_eq_false_iff, Bool.and_eq_false_iff, beq_eq_false_iff_ne]
      omega
    · obtain ⟨w1, w2, w3, w4, w5, w6, w8, w9⟩ := q1
      refine ⟨MI_A (MI_ag G9 w1 ?_) rfl, OU_ag G9 w2 rfl (fun k => rfl), MX_ag G9 w3 rfl (fun k => rfl), ML_ag G9 w4 ⟨rfl, rfl, rfl⟩ (fun k => ⟨rfl, rfl⟩), MP_ag G9 w5 rfl (fun k => ⟨rfl, rfl, rfl, rfl, rfl, rfl, rfl⟩), MC_ag G9 w6 rfl (fun k => ⟨rfl, rfl, rfl, rfl, rfl⟩), ?_, ?_, MA_ag G9 w9 rfl (fun k => ⟨rfl, rfl⟩)⟩
      · intro k hk
        have : ∀ i, i < 26 → (mc i).1 = 26 ∧ (mc i).2 ≠ 23 ∨ (mc i).1 = 27 ∨ (mc i).1 = 41 := by decide
        have := this k hk
        simp only [Bool.or_eq_false_iff, Bool.and_eq_false_iff, beq_eq_false_iff_ne]
        omega
      · -- the window
        show MS s9 (F.2.2.2 5 ++ [[F.2.1 9, 1]]) (F.2.2.2 2 ++ [e])
        rw [k2, k3]
        have e47 : ∀ i, i < (A.2.2 5).length → sI s9 47 i = sI s1 47 i := fun i hi => by
          rw [G9.2 47 i (by simp; omega), q2.2 47 i (by simp)]
        have e48 : ∀ i, i < (A.2.2 5).length → esM s9 i = esM s1 i := fun i hi => by
          unfold esM
          rw [G9.2 48 i (by simp; omega), G9.2 49 i (by simp; omega), G9.2 50 i (by simp; omega), q2.2 48 i (by simp), q2.2 49 i (by simp), q2.2 50 i (by simp)]
          congr 1
          apply rd_congr
          intro k hk
          rw [g9.2 51 _ rfl, rII_ne (Or.inl (by decide)), o7 _ (by omega), G6.2 51 _ (by simp), q2.2 51 _ (by simp)]
        have n47 : sI s9 47 (A.2.2 5).length = 1 := by
          rw [g9.2 47 _ rfl, rII_ne (Or.inl (by decide)), g7.2 47 _ rfl, rII_ne (Or.inl (by decide)), rII_ne (Or.inl (by decide)), rII_ne (Or.inl (by decide)), rII_eq]
        have nes : esM s9 (A.2.2 5).length = e := by
          rw [← c3]
          unfold esM evM
          rw [g9.2 48 _ rfl, rII_ne (Or.inl (by decide)), g7.2 48 _ rfl, rII_ne (Or.inl (by decide)), rII_ne (Or.inl (by decide)), rII_eq, g9.2 49 _ rfl, rII_ne (Or.inl (by decide)), g7.2 49 _ rfl, rII_ne (Or.inl (by decide)), rII_eq, g9.2 50 _ rfl, rII_ne (Or.inl (by decide)), g7.2 50 _ rfl, rII_eq, y42]
          congr 1
          apply rd_congr
          intro k hk
          rw [g9.2 51 _ rfl, rII_ne (Or.inl (by decide)), d7 k hk, G6.2 45 _ (by simp), Nat.mul_zero, Nat.zero_add]
        refine ⟨?_, ?_, ?_, ?_⟩
        · rw [G9.2 26 28 rfl, q3, List.length_append]; rfl
        · rw [List.length_append]; show (A.2.2 5).length + 1 ≤ 12; omega
        · rw [List.length_append]
          show rd (snM s9) ((A.2.2 5).length + 1) = _
          rw [rd_succ]
          congr 1
          · rw [rd_congr (g := snM s1) (fun i hi => ?_)]
            · exact m3
            · unfold snM
              rw [e47 i hi, G9.2 46 i rfl, q2.2 46 i (by simp; omega)]
          · unfold snM
            rw [n47, G9.2 46 _ rfl, q4]
        · rw [List.length_append]
          show esF s9 0 ((A.2.2 5).length + 1) = _
          rw [esF_snoc, Nat.zero_add, n47, if_neg (by decide), nes]
          congr 1
          rw [esF_congr (s := s1) _ _ (fun i _ hi => ⟨e47 i (by omega), e48 i (by omega)⟩)]
          exact m4
      · show ME s9 q
        refine ⟨?_, ?_⟩
        · rw [g9.2 26 23 rfl]; exact rII_eq
        · rw [rd_congr (g := fun i => evM s2 (i + 1)) (fun i hi => by rw [d9 i hi, ev8])]
          have := (rd_cons (evM s2) q.length).symm.trans hME.2
          exact (List.cons.inj this).2
