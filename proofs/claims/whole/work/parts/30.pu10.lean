/-! ===== the model sends what waits ===== -/
def W1 (A : aS) : Prop := (A.2.1 0).length ≤ 4096 ∧ (A.2.2 3).length + (A.2.2 2).length ≤ 52 ∧ (A.2.2 5).length ≤ 12 ∧ (∃ K, 1 ≤ K ∧ K ≤ 12 ∧ A.1 1 = nI K) ∧ (∀ e ∈ A.2.2 3, evW A e) ∧ (∀ e ∈ A.2.2 2, evW A e) ∧ (∀ x ∈ A.2.2 4, x.length ≤ 249)
theorem W1_close {A : aS} (h : W1 A) (why : Int32) : W1 (a_close A why) := by
  obtain ⟨h1, h2, h3, h4, h5, h6, h7⟩ := h
  refine ⟨h1, ?_, Nat.zero_le _, h4, fun e he => ?_, fun e he => (by cases he), fun e he => (by cases he)⟩
  · show (A.2.2 2 ++ A.2.2 3).length + 0 ≤ 52
    rw [List.length_append]
    omega
  · have he' : e ∈ A.2.2 2 ++ A.2.2 3 := he
    rcases List.mem_append.mp he' with z | z
    · exact h6 e z
    · exact h5 e z
theorem W1_fr {A : aS} (h : W1 A) (c bs : List Int32) (hc : c.length = 4) : W1 (a_fr A c bs).2 := by
  unfold a_fr
  split
  · rename_i z
    obtain ⟨h1, h2, h3, h4, h5, h6, h7⟩ := h
    refine ⟨?_, h2, h3, h4, h5, h6, h7⟩
    show (A.2.1 0 ++ ([104, 4 + nI bs.length] ++ c ++ bs)).length ≤ 4096
    rw [List.length_append, List.length_append, List.length_append, hc]
    show _ + (2 + 4 + _) ≤ _
    omega
  · exact W1_close h 6
def a_ansGone (A : aS) (q : List (List Int32)) : aS := uq (uq (a_gone A) 5 (A.2.2 5 ++ [[A.1 9, 0]])) 4 q
def a_sends : Nat → aS → aS
  | 0, A => A
  | n + 1, A => if A.1 7 = 2 then (if A.1 1 ≤ nI (A.2.2 5).length then A else match A.2.2 4 with
    | x :: q => if (a_fr A (kb (A.1 15) ++ kb (A.1 16)) x).1 = 0 then (a_fr A (kb (A.1 15) ++ kb (A.1 16)) x).2 else a_sends n (a_ansGone (a_fr A (kb (A.1 15) ++ kb (A.1 16)) x).2 q)
    | [] => match A.2.2 3 with
      | e :: q => if (a_fr A (kb (A.1 15) ++ kb (A.1 16)) (evB A e)).1 = 0 then (a_fr A (kb (A.1 15) ++ kb (A.1 16)) (evB A e)).2 else a_sends n (a_evGone (a_fr A (kb (A.1 15) ++ kb (A.1 16)) (evB A e)).2 e q)
      | [] => A) else A
set_option maxRecDepth 100000 in
/-- the first answer goes out -/
theorem M_sendsAnswer (k0 : Nat → eS → Option eS) {s : eS} (h : SH s) {A : aS} (r : RM s A) (w : W1 A) (hwn : (A.2.2 5).length < 12) {x : List Int32} {q : List (List Int32)} (hx : A.2.2 4 = x :: q) :
    ∃ s', SH s' ∧ ag xM s s' ∧ ((a_fr A (kb (A.1 15) ++ kb (A.1 16)) x).1 = 0 → mX12_sends_35 k0 26 s = some s' ∧ RM s' (a_fr A (kb (A.1 15) ++ kb (A.1 16)) x).2) ∧ ((a_fr A (kb (A.1 15) ++ kb (A.1 16)) x).1 ≠ 0 → mX12_sends_35 k0 26 s = k0 26 s' ∧ RM s' (a_ansGone (a_fr A (kb (A.1 15) ++ kb (A.1 16)) x).2 q)) := by
  have r0 := r
  obtain ⟨a1, a2, a3, a4, a5, a6, a7, a8, a9⟩ := r
  obtain ⟨b1', b2', b3', b4'⟩ := a9
  rw [hx] at b1' b2' b3' b4'
  have hxl : x.length ≤ 249 := w.2.2.2.2.2.2 x (by rw [hx]; exact List.mem_cons_self)
  have hln : (x :: q).length = q.length + 1 := rfl
  have x0 : anM s 0 = x := (List.cons.inj ((rd_cons (anM s) q.length).symm.trans b3')).1
  have xn : sI s 52 0 = nI x.length := by
    obtain ⟨n, hn, en⟩ := b4' 0 (by rw [hln]; omega)
    have : (anM s 0).length = n := by unfold anM; rw [rd_len, en, nI_clamp (by omega)]
    rw [en, ← this, x0]
  have xr : rd (sI s 53) x.length = x := by
    conv => rhs; rw [← x0]
    unfold anM
    rw [xn, nI_clamp (by omega)]
    exact rd_congr (fun i _ => by rw [Nat.mul_zero, Nat.zero_add])
  have hi0 : ¬ (0 : Int32) < 0 ∧ (0 : Int32).toNatClampNeg < 60 := by decide
  have z0 : (0 : Int32).toNatClampNeg = 0 := rfl
  have h1 : SH (e_I s 26 53 (nI x.length)) := SH_I h
  obtain ⟨s2, m', e2, h2, g2, d2⟩ := M_draft_loop k0 hxl (s0 := e_I s 26 53 (nI x.length)) (by rw [rd_congr (g := sI s 53) (fun i _ => rII_ne (Or.inl (by decide)))]; exact xr) x.length 0 100000 _ (by omega) (by omega) h1 ag_rf rII_eq rfl
  have G2 : ag xDR s s2 := by
    refine ag_tr (ag_I ag_rf rfl) (ag_mono g2 (fun a k hx => ?_))
    simp only [xDR, Bool.or_eq_false_iff, Bool.and_eq_false_iff, beq_eq_false_iff_ne] at hx ⊢
    omega
  have r2 := RM_DR G2 r0
  obtain ⟨s3, e3, h3, g3, f3, n3⟩ := M_sendsDraft h2 r2 (by have := w.2.1; omega) w.1 hwn (by omega) d2
  have ef : mX12_sends_35 k0 26 s = mX12_sends_54 k0 (m' + 1) 26 (nI x.length) s2 := by
    unfold mX12_sends_35
    rw [gI_26 h, b1S, b1', if_neg (show ¬ nI (x :: q).length ≤ 0 from nI_nle (by rw [hln]; omega) (by rw [hln]; omega)), gP_26_46 h, b1S, b1S, aI_52 h hi0, b1S, z0, xn, pI_26 h, b1S]
    exact e2
  have eg : mX12_sends_54 k0 (m' + 1) 26 (nI x.length) s2 = (b1 (o_K s2 112 26) fun u13 => (b2 (mX12_sendsDraft 26 s2) fun x4 s3 => (if x4 = 0 then (some s3) else (b1 (g_P s3 112 30 26) fun r6 => (b1 (g_I s3 112 28 26) fun x7 => (b1 r6 fun a8 => (b1 (s_Z s3 2 a8 (x7 - (1 : Int32)) (0 : Int32)) fun s9 => (b1 (o_K s9 112 26) fun u12 => (b1 (mX12_firstAnswerGoes 26 s9) fun s10 => (k0 26 s10)))))))))) := by
    conv => lhs; unfold mX12_sends_54
    rw [gI_26 h2, b1S, d2.1, if_pos (nI_le (Nat.le_refl _) (by omega))]
  rw [ef, eg, oK_26 h2, b1S, e3, b2S]
  have fok : (a_fr A (kb (A.1 15) ++ kb (A.1 16)) x).1 ≠ 0 → _ := a_fr_ok
  generalize a_fr A (kb (A.1 15) ++ kb (A.1 16)) x = F at f3 n3 fok ⊢
  have gM := ag_tr (xM_DR G2) g3
  by_cases c : F.1 = 0
  · rw [if_pos c]
    exact ⟨s3, h3, gM, fun _ => ⟨rfl, f3 c⟩, fun z => absurd c z⟩
  · obtain ⟨k1, k2, k3, k4, k5⟩ := fok c
    obtain ⟨q1, q2, q3, q4⟩ := n3 c
    rw [if_neg c]
    have hin : ¬ nI (A.2.2 5).length < 0 ∧ (nI (A.2.2 5).length).toNatClampNeg < 12 := nIc (by omega) hwn
    have cn : (nI (A.2.2 5).length).toNatClampNeg = (A.2.2 5).length := nI_clamp (by omega)
    have h4 : SH (e_I s3 47 (A.2.2 5).length 0) := SH_I h3
    have G4 : ag (fun a k => a == 47 && k == (A.2.2 5).length) s3 (e_I s3 47 (A.2.2 5).length 0) := ag_I ag_rf (by simp)
    have hMA3 : MA s3 (x :: q) := by
      have := q1.2.2.2.2.2.2.2
      have e9 : (a_gone F.2).2.2 4 = x :: q := by
        show F.2.2.2 4 = _
        rw [k3]; exact hx
      rw [e9] at this
      exact this
    have hMA : MA (e_I s3 47 (A.2.2 5).length 0) (x :: q) := MA_ag G4 hMA3 rfl (fun k => ⟨rfl, rfl⟩)
    obtain ⟨s5, e5, h5, g5, m5⟩ := M_firstAnswerGoes h4 hMA
    have G5 : ag (fun a k => a == 52 || a == 53 || (a == 26 && k == 45) || a == 47 && k == (A.2.2 5).length) s3 s5 := by
      refine ag_tr (ag_mono G4 ?_) (ag_mono g5 ?_) <;>
      · intro a k hx
        simp only [xAN, Bool.or_eq_false_iff, Bool.and_eq_false_iff, beq_eq_false_iff_ne] at hx ⊢
        omega
    refine ⟨s5, h5, ag_tr gM (ag_mono G5 (fun a k hx => ?_)), fun z => absurd z c, fun _ => ⟨?_, ?_⟩⟩
    · simp only [xM, Bool.and_eq_false_iff, decide_eq_false_iff_not, Bool.not_eq_false', beq_iff_eq] at hx
      simp only [Bool.or_eq_false_iff, Bool.and_eq_false_iff, beq_eq_false_iff_ne]
      omega
    · rw [gP_26_30 h3, b1S, gI_26 h3, b1S, q3, nI_pred, b1S, sZ_47 h3 hin, b1S, cn, show ((0 : Int32) &&& 1) = 0 from by decide, oK_26 h4, b1S, e5, b1S]
    · obtain ⟨w1, w2, w3, w4, w5, w6, w8, w9⟩ := q1
      refine ⟨MI_A (MI_ag G5 w1 ?_) rfl, OU_ag G5 w2 rfl (fun k => rfl), MX_ag G5 w3 rfl (fun k => rfl), ML_ag G5 w4 ⟨rfl, rfl, rfl⟩ (fun k => ⟨rfl, rfl⟩), MP_ag G5 w5 rfl (fun k => ⟨rfl, rfl, rfl, rfl, rfl, rfl, rfl⟩), MC_ag G5 w6 rfl (fun k => ⟨rfl, rfl, rfl, rfl, rfl⟩), ?_, ME_ag G5 w8 rfl (fun k => ⟨rfl, rfl, rfl, rfl⟩), m5⟩
      · intro k hk
        have : ∀ i, i < 26 → (mc i).1 = 26 ∧ (mc i).2 ≠ 45 ∨ (mc i).1 = 27 ∨ (mc i).1 = 41 := by decide
        have := this k hk
        simp only [Bool.or_eq_false_iff, Bool.and_eq_false_iff, beq_eq_false_iff_ne]
        omega
      · show MS s5 (F.2.2.2 5 ++ [[F.2.1 9, 0]]) (F.2.2.2 2)
        rw [k2, k3]
        obtain ⟨m1, m2, m3, m4⟩ := r2.2.2.2.2.2.2.1
        have e47 : ∀ i, i < (A.2.2 5).length → sI s5 47 i = sI s2 47 i := fun i hi => by
          rw [G5.2 47 i (by simp; omega), q2.2 47 i (by simp)]
        have e48 : ∀ i, esM s5 i = esM s2 i := fun i => by
          unfold esM
          rw [G5.2 48 i (by simp), G5.2 49 i (by simp), G5.2 50 i (by simp), q2.2 48 i (by simp), q2.2 49 i (by simp), q2.2 50 i (by simp)]
          congr 1
          apply rd_congr
          intro k hk
          rw [G5.2 51 _ (by simp), q2.2 51 _ (by simp)]
        have n47 : sI s5 47 (A.2.2 5).length = 0 := by
          rw [g5.2 47 _ rfl, rII_eq]
        refine ⟨?_, ?_, ?_, ?_⟩
        · rw [G5.2 26 28 rfl, q3, List.length_append]; rfl
        · rw [List.length_append]; show (A.2.2 5).length + 1 ≤ 12; omega
        · rw [List.length_append]
          show rd (snM s5) ((A.2.2 5).length + 1) = _
          rw [rd_succ]
          congr 1
          · rw [rd_congr (g := snM s2) (fun i hi => ?_)]
            · exact m3
            · unfold snM
              rw [e47 i hi, G5.2 46 i rfl, q2.2 46 i (by simp; omega)]
          · unfold snM
            rw [n47, G5.2 46 _ rfl, q4]
        · rw [List.length_append]
          show esF s5 0 ((A.2.2 5).length + 1) = _
          rw [esF_snoc, Nat.zero_add, n47, if_pos rfl, List.append_nil]
          rw [esF_congr (s := s2) _ _ (fun i _ hi => ⟨e47 i (by omega), e48 i⟩)]
          exact m4
theorem W1_ans {A F : aS} (h : W1 F) (e5 : F.2.2 = A.2.2) {x : List Int32} {q : List (List Int32)} (hx : A.2.2 4 = x :: q) (hn : (A.2.2 5).length < 12) : W1 (a_ansGone F q) := by
  obtain ⟨h1, h2, h3, h4, h5, h6, h7⟩ := h
  refine ⟨h1, h2, ?_, h4, h5, h6, fun y hy => h7 y ?_⟩
  · show (F.2.2 5 ++ [[F.1 9, 0]]).length ≤ 12
    rw [List.length_append, e5]
    show _ + 1 ≤ _
    omega
  · rw [e5, hx]
    exact List.mem_cons_of_mem _ hy
theorem W1_ev {A F : aS} (h : W1 F) (e5 : F.2.2 = A.2.2) {e : List Int32} {q : List (List Int32)} (he : A.2.2 3 = e :: q) (hn : (A.2.2 5).length < 12) : W1 (a_evGone F e q) := by
  obtain ⟨h1, h2, h3, h4, h5, h6, h7⟩ := h
  rw [e5, he] at h2 h5
  refine ⟨h1, ?_, ?_, h4, fun y hy => h5 y (List.mem_cons_of_mem _ hy), fun y hy => ?_, h7⟩
  · show q.length + (F.2.2 2 ++ [e]).length ≤ 52
    rw [List.length_append, e5]
    have : (e :: q).length = q.length + 1 := rfl
    show _ + (_ + 1) ≤ _
    omega
  · show (F.2.2 5 ++ [[F.1 9, 1]]).length ≤ 12
    rw [List.length_append, e5]
    show _ + 1 ≤ _
    omega
  · have hy' : y ∈ F.2.2 2 ++ [e] := hy
    rcases List.mem_append.mp hy' with z | z
    · exact h6 y z
    · rw [List.mem_singleton.mp z]
      exact h5 e List.mem_cons_self
set_option maxRecDepth 100000 in
theorem M_sends_loop : ∀ (d m n : Nat) (s : eS) (A : aS), 12 - (A.2.2 5).length ≤ d → d < m → d < n → SH s → RM s A → W1 A → ∃ s', mX12_sends_0 m 26 s = some s' ∧ SH s' ∧ ag xM s s' ∧ RM s' (a_sends n A) ∧ W1 (a_sends n A) := by
  intro d
  induction d with
  | zero =>
    intro m n s A hd hm hn h r w
    obtain ⟨m, rfl⟩ : ∃ q, m = q + 1 := ⟨m - 1, by omega⟩
    obtain ⟨n, rfl⟩ : ∃ q, n = q + 1 := ⟨n - 1, by omega⟩
    obtain ⟨K, hK1, hK2, eK⟩ := w.2.2.2.1
    have e7 : sI s 26 35 = A.1 7 := r.1 7 (by decide)
    have e1 : sI s 27 1 = A.1 1 := r.1 1 (by decide)
    have en : sI s 26 28 = nI (A.2.2 5).length := r.2.2.2.2.2.2.1.1
    have hc : A.1 1 ≤ nI (A.2.2 5).length := by rw [eK]; have := w.2.2.1; exact nI_le (by omega) (by omega)
    unfold mX12_sends_0 mX12_sends_115 a_sends
    rw [gI_26 h, b1S, e7]
    by_cases c2 : A.1 7 = 2
    · rw [if_pos c2, if_pos c2, gI_26 h, b1S, gP_26_0 h, b1S, b1S, aI_27 h (by decide), b1S, show (1 : Int32).toNatClampNeg = 1 from rfl, e1, en, if_pos hc, if_pos hc]
      exact ⟨s, rfl, h, ag_rf, r, w⟩
    · rw [if_neg c2, if_neg c2]
      exact ⟨s, rfl, h, ag_rf, r, w⟩
  | succ d ih =>
    intro m n s A hd hm hn h r w
    obtain ⟨m, rfl⟩ : ∃ q, m = q + 1 := ⟨m - 1, by omega⟩
    obtain ⟨n, rfl⟩ : ∃ q, n = q + 1 := ⟨n - 1, by omega⟩
    obtain ⟨K, hK1, hK2, eK⟩ := w.2.2.2.1
    have e7 : sI s 26 35 = A.1 7 := r.1 7 (by decide)
    have e1 : sI s 27 1 = A.1 1 := r.1 1 (by decide)
    have en : sI s 26 28 = nI (A.2.2 5).length := r.2.2.2.2.2.2.1.1
    have ea : sI s 26 45 = nI (A.2.2 4).length := r.2.2.2.2.2.2.2.2.1
    have ha60 : (A.2.2 4).length ≤ 60 := r.2.2.2.2.2.2.2.2.2.1
    have ee : sI s 26 23 = nI (A.2.2 3).length := r.2.2.2.2.2.2.2.1.1
    unfold mX12_sends_0 mX12_sends_115 a_sends
    rw [gI_26 h, b1S, e7]
    by_cases c2 : A.1 7 = 2
    · rw [if_pos c2, if_pos c2, gI_26 h, b1S, gP_26_0 h, b1S, b1S, aI_27 h (by decide), b1S, show (1 : Int32).toNatClampNeg = 1 from rfl, e1, en]
      by_cases c1 : A.1 1 ≤ nI (A.2.2 5).length
      · rw [if_pos c1, if_pos c1]
        exact ⟨s, rfl, h, ag_rf, r, w⟩
      · rw [if_neg c1, if_neg c1, gI_26 h, b1S, ea]
        have hlt : (A.2.2 5).length < 12 := by
          rw [eK] at c1
          rcases Nat.lt_or_ge (A.2.2 5).length K with z | z
          · omega
          · exact absurd (nI_le z (by have := w.2.2.1; omega)) c1
        cases hx : A.2.2 4 with
        | cons x q =>
          have hln : (x :: q).length = q.length + 1 := rfl
          rw [hx] at ha60
          rw [if_pos (show (0 : Int32) < nI (x :: q).length from nI_lt (a := 0) (by omega) (by omega))]
          obtain ⟨s1, h1, g1, f1, n1⟩ := M_sendsAnswer (mX12_sends_0 m) h r w hlt hx
          have wF := W1_fr w (kb (A.1 15) ++ kb (A.1 16)) x rfl
          have fok : (a_fr A (kb (A.1 15) ++ kb (A.1 16)) x).1 ≠ 0 → _ := a_fr_ok
          dsimp only
          generalize a_fr A (kb (A.1 15) ++ kb (A.1 16)) x = F at f1 n1 wF fok ⊢
          by_cases c : F.1 = 0
          · rw [if_pos c, (f1 c).1]
            exact ⟨s1, rfl, h1, g1, (f1 c).2, wF⟩
          · rw [if_neg c, (n1 c).1]
            obtain ⟨k1, k2, k3, -⟩ := fok c
            obtain ⟨s2, e2, h2, g2, r2, w2⟩ := ih m n s1 (a_ansGone F.2 q) (by
              show 12 - (F.2.2.2 5 ++ [[F.2.1 9, 0]]).length ≤ d
              rw [List.length_append, k3]
              show 12 - (_ + 1) ≤ d
              omega) (by omega) (by omega) h1 (n1 c).2 (W1_ans wF k3 hx hlt)
            exact ⟨s2, e2, h2, ag_tr g1 g2, r2, w2⟩
        | nil =>
          rw [if_neg (by decide), gI_26 h, b1S, ee]
          cases he : A.2.2 3 with
          | nil =>
            rw [if_pos (by decide)]
            exact ⟨s, rfl, h, ag_rf, r, w⟩
          | cons e q =>
            have hln : (e :: q).length = q.length + 1 := rfl
            have hle := w.2.1
            rw [he] at hle
            rw [if_neg (show ¬ nI (e :: q).length ≤ 0 from nI_nle (by omega) (by omega))]
            obtain ⟨s1, e1', h1, g1, f1, n1⟩ := M_sendsEvent h r (by have := w.2.1; omega) w.1 hlt he (w.2.2.2.2.1 e (by rw [he]; exact List.mem_cons_self))
            have wF := W1_fr w (kb (A.1 15) ++ kb (A.1 16)) (evB A e) rfl
            have fok : (a_fr A (kb (A.1 15) ++ kb (A.1 16)) (evB A e)).1 ≠ 0 → _ := a_fr_ok
            unfold mX12_sends_35
            rw [gI_26 h, b1S, ea, hx, if_pos (by decide), oK_26 h, b1S, e1', b2S]
            dsimp only
            generalize a_fr A (kb (A.1 15) ++ kb (A.1 16)) (evB A e) = F at f1 n1 wF fok ⊢
            by_cases c : F.1 = 0
            · rw [if_pos c, if_pos c]
              exact ⟨s1, rfl, h1, g1, f1 c, wF⟩
            · rw [if_neg c, if_neg c]
              obtain ⟨k1, k2, k3, -⟩ := fok c
              obtain ⟨s2, e2, h2, g2, r2, w2⟩ := ih m n s1 (a_evGone F.2 e q) (by
                show 12 - (F.2.2.2 5 ++ [[F.2.1 9, 1]]).length ≤ d
                rw [List.length_append, k3]
                show 12 - (_ + 1) ≤ d
                omega) (by omega) (by omega) h1 (n1 c) (W1_ev wF k3 he hlt)
              exact ⟨s2, e2, h2, ag_tr g1 g2, r2, w2⟩
    · rw [if_neg c2, if_neg c2]
      exact ⟨s, rfl, h, ag_rf, r, w⟩
theorem M_sends {s : eS} (h : SH s) {A : aS} (r : RM s A) (w : W1 A) : ∃ s', mX12_sends 26 s = some s' ∧ SH s' ∧ ag xM s s' ∧ RM s' (a_sends 13 A) ∧ W1 (a_sends 13 A) := M_sends_loop 12 100000 13 s A (by omega) (by omega) (by omega) h r w
