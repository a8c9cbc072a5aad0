/-! ===== the model carries out ===== -/
def isT (F : List Int32) : Int32 := if (rb F).getD 2 0 &&& 128 = 0 then 0 else 1
theorem M_isTest {s : eS} (h : SH s) {F : List Int32} (fr : FR s F) {n : Nat} (f : fullF F n) (hn : 3 ≤ n) : mX12_isTest 26 s = some (isT F, s) := by
  unfold mX12_isTest mX12_isTest_17 isT
  rw [oK_26 h, b1S, show mX12_at 26 2 s = some ((rb F).getD 2 0, s) from M_at h fr f (k := 2) (by omega), b2S]
  split
  · rw [oZ0, b1S]
  · rw [oZ1, b1S]
theorem rd_set {α : Type} {f g : Nat → α} {n c : Nat} {q : List α} (h : rd f n = q) (hc : c < n) {y : α} (h1 : g c = y) (h2 : ∀ i, i < n → i ≠ c → g i = f i) : rd g n = q.set c y := by
  subst h
  apply List.ext_getElem?
  intro i
  by_cases hi : i < n
  · rw [rd_get g hi]
    by_cases hic : i = c
    · subst hic
      rw [List.getElem?_set_self (by rw [rd_len]; exact hi), h1]
    · rw [List.getElem?_set_ne (Ne.symm hic), rd_get f hi, h2 i hi hic]
  · rw [List.getElem?_eq_none (by rw [rd_len]; omega), List.getElem?_eq_none (by rw [List.length_set, rd_len]; omega)]
/-- one number of one row of rows -/
def sg (q : List (List Int32)) (i k : Nat) (x : Int32) : List (List Int32) := q.set i ((q.getD i []).set k x)
theorem sg_len (q : List (List Int32)) (i k : Nat) (x : Int32) : (sg q i k x).length = q.length := List.length_set
/-- everything but points -/
theorem RM_pts {X : Nat → Nat → Bool} {s s' : eS} {A : aS} {q : List (List Int32)} (g : ag X s s') (r : RM s A) (hX : ∀ a k, X a k = true → a = 28 ∨ a = 29 ∨ a = 30 ∨ a = 31 ∨ a = 32 ∨ a = 33 ∨ a = 34 ∨ (a = 26 ∧ k = 1)) (p : MP s' q) : RM s' (uq A 0 q) := by
  have z : ∀ a k, ¬ (a = 28 ∨ a = 29 ∨ a = 30 ∨ a = 31 ∨ a = 32 ∨ a = 33 ∨ a = 34 ∨ (a = 26 ∧ k = 1)) → X a k = false := fun a k hn => by
    cases hx : X a k with
    | false => rfl
    | true => exact absurd (hX a k hx) hn
  obtain ⟨a1, a2, a3, a4, a5, a6, a7, a8, a9⟩ := r
  refine ⟨MI_A (MI_ag g a1 (fun k hk => z _ _ ?_)) rfl, OU_ag g a2 (z _ _ (by decide)) (fun k => z _ _ (by omega)), MX_ag g a3 (z _ _ (by decide)) (fun k => z _ _ (by omega)), ML_ag g a4 ⟨z _ _ (by decide), z _ _ (by decide), z _ _ (by decide)⟩ (fun k => ⟨z _ _ (by omega), z _ _ (by omega)⟩), p, MC_ag g a6 (z _ _ (by decide)) (fun k => ⟨z _ _ (by omega), z _ _ (by omega), z _ _ (by omega), z _ _ (by omega), z _ _ (by omega)⟩), MS_ag g a7 (z _ _ (by decide)) (fun k => ⟨z _ _ (by omega), z _ _ (by omega), z _ _ (by omega), z _ _ (by omega)⟩) (fun k => ⟨z _ _ (by omega), z _ _ (by omega)⟩), ME_ag g a8 (z _ _ (by decide)) (fun k => ⟨z _ _ (by omega), z _ _ (by omega), z _ _ (by omega), z _ _ (by omega)⟩), MA_ag g a9 (z _ _ (by decide)) (fun k => ⟨z _ _ (by omega), z _ _ (by omega)⟩)⟩
  have : ∀ i, i < 26 → (mc i).1 = 26 ∧ (mc i).2 ≠ 1 ∨ (mc i).1 = 27 ∨ (mc i).1 = 41 := by decide
  have := this k hk
  omega
/-- a number of a point -/
theorem MP_set {s : eS} {q : List (List Int32)} (h : MP s q) {p : Nat} (hp : p < q.length) {a k : Nat} (hk : k < 7 ∧ a = 28 + k) (x : Int32) : MP (e_I s a p x) (sg q p k x) := by
  obtain ⟨h1, h2, h3, h4⟩ := h
  have hg : q.getD p [] = ptM s p := MP_get ⟨h1, h2, h3, h4⟩ hp
  refine ⟨by rw [sg_len, rII_ne (Or.inl (by omega))]; exact h1, by rw [sg_len]; exact h2, ?_, fun j hj => by
    rw [sg_len] at hj
    have hne : j ≠ p := by omega
    rw [rII_ne (Or.inr hne), rII_ne (Or.inr hne), rII_ne (Or.inr hne)]
    exact h4 j hj⟩
  rw [sg_len]
  unfold sg
  refine rd_set h3 hp ?_ (fun i hi hne => ?_)
  · rw [hg]
    obtain ⟨hk, rfl⟩ := hk
    unfold ptM
    match k, hk with
    | 0, _ => simp [rII]
    | 1, _ => simp [rII]
    | 2, _ => simp [rII]
    | 3, _ => simp [rII]
    | 4, _ => simp [rII]
    | 5, _ => simp [rII]
    | 6, _ => simp [rII]
  · unfold ptM
    rw [rII_ne (Or.inr hne), rII_ne (Or.inr hne), rII_ne (Or.inr hne), rII_ne (Or.inr hne), rII_ne (Or.inr hne), rII_ne (Or.inr hne), rII_ne (Or.inr hne)]
theorem RM_pt {s : eS} {A : aS} (r : RM s A) {p : Nat} (hp : p < (A.2.2 0).length) {a k : Nat} (hk : k < 7 ∧ a = 28 + k) (x : Int32) : RM (e_I s a p x) (uq A 0 (sg (A.2.2 0) p k x)) :=
  RM_pts (X := fun b j => b == a && j == p) (ag_I ag_rf (by simp)) r (fun b j hb => by
    simp only [Bool.and_eq_true, beq_iff_eq] at hb
    omega) (MP_set r.2.2.2.2.1 hp hk x)
theorem MC_get {s : eS} {q : List (List Int32)} (h : MC s q) {p : Nat} (hp : p < q.length) : q.getD p [] = cmM s p := by
  have := rd_getD (cmM s) [] hp
  rw [h.2.2.1] at this
  exact this
/-- how often a command was carried out -/
theorem RM_carried {s : eS} {A : aS} (r : RM s A) {c : Nat} (hc : c < (A.2.2 1).length) (x : Int32) : RM (e_I s 39 c x) (uq A 1 (sg (A.2.2 1) c 4 x)) := by
  have g : ag (fun a k => a == 39 && k == c) s (e_I s 39 c x) := ag_I ag_rf (by simp)
  obtain ⟨a1, a2, a3, a4, a5, a6, a7, a8, a9⟩ := r
  have hg := MC_get a6 hc
  refine ⟨MI_A (MI_ag g a1 (fun k hk => ?_)) rfl, OU_ag g a2 rfl (fun k => rfl), MX_ag g a3 rfl (fun k => rfl), ML_ag g a4 ⟨rfl, rfl, rfl⟩ (fun k => ⟨rfl, rfl⟩), MP_ag g a5 rfl (fun k => ⟨rfl, rfl, rfl, rfl, rfl, rfl, rfl⟩), ?_, MS_ag g a7 rfl (fun k => ⟨rfl, rfl, rfl, rfl⟩) (fun k => ⟨rfl, rfl⟩), ME_ag g a8 rfl (fun k => ⟨rfl, rfl, rfl, rfl⟩), MA_ag g a9 rfl (fun k => ⟨rfl, rfl⟩)⟩
  · have : ∀ i, i < 26 → (mc i).1 ≠ 39 := by decide
    have := this k hk
    simp [this]
  · refine ⟨?_, ?_, ?_, fun j hj => ?_⟩
    · show _ = nI (sg (A.2.2 1) c 4 x).length
      rw [sg_len, rII_ne (Or.inl (by decide))]; exact a6.1
    · show (sg (A.2.2 1) c 4 x).length ≤ 12
      rw [sg_len]; exact a6.2.1
    · show rd _ (sg (A.2.2 1) c 4 x).length = sg (A.2.2 1) c 4 x
      rw [sg_len]
      unfold sg
      refine rd_set a6.2.2.1 hc ?_ (fun i hi hne => ?_)
      · rw [hg]
        unfold cmM
        simp [rII]
      · unfold cmM
        rw [rII_ne (Or.inr hne), rII_ne (Or.inr hne), rII_ne (Or.inr hne), rII_ne (Or.inr hne), rII_ne (Or.inr hne)]
    · have hj' : (sg (A.2.2 1) c 4 x).length ≤ j := hj
      rw [sg_len] at hj'
      rw [rII_ne (Or.inr (by omega))]
      exact a6.2.2.2 j hj'
def W3 (A : aS) : Prop := ∀ e ∈ A.2.2 1, e.getD 2 0 = -1 ∨ ∃ p, p < (A.2.2 0).length ∧ e.getD 2 0 = nI p
theorem W1_pts {A : aS} (w : W1 A) {q : List (List Int32)} (hq : q.length = (A.2.2 0).length) : W1 (uq A 0 q) := by
  obtain ⟨h1, h2, h3, h4, h5, h6, h7⟩ := w
  have z : ∀ e, evW A e → evW (uq A 0 q) e := fun e ⟨p, v, u, t, a, b, c⟩ => ⟨p, v, u, t, by show p < q.length; omega, b, c⟩
  exact ⟨h1, h2, h3, h4, fun e he => z e (h5 e he), fun e he => z e (h6 e he), h7⟩
theorem W1_cmd {A : aS} (w : W1 A) (q : List (List Int32)) : W1 (uq A 1 q) := w
/-- an OBJECT answers: of the point p, with a cause, to an originator -/
def a_obj (A : aS) (p : Nat) (cause by_ : Int32) : aS := a_wait A (hb (tyF (pg (A.2.2 0) p 0)) 1 cause by_ (A.1 0) ++ ob (pg (A.2.2 0) p 0) (pg (A.2.2 0) p 1) (pg (A.2.2 0) p 4) (pg (A.2.2 0) p 5) (A.1 14))
theorem hb_len (a b c d e : Int32) : (hb a b c d e).length = 6 := by unfold hb; rw [List.length_append, nb_len]; rfl
set_option maxRecDepth 100000 in
theorem M_objAnswer {s : eS} (h : SH s) {A : aS} (r : RM s A) (w : W1 A) {p : Nat} (hp : p < (A.2.2 0).length) (cause by_ : Int32) : ∃ s1 s2 x s3, mX12_head 26 (tyF (sI s 28 p)) 1 cause by_ s = some s1 ∧ SH s1 ∧ sI s1 32 p = pg (A.2.2 0) p 4 ∧ sI s1 33 p = pg (A.2.2 0) p 5 ∧ mX12_object 26 (nI p) (pg (A.2.2 0) p 4) (pg (A.2.2 0) p 5) s1 = some s2 ∧ SH s2 ∧ mX12_waits 26 s2 = some (x, s3) ∧ SH s3 ∧ ag xM s s3 ∧ RM s3 (a_obj A p cause by_) := by
  have hp24 : p < 24 := Nat.lt_of_lt_of_le hp r.2.2.2.2.1.2.1
  have hpt := MP_get r.2.2.2.2.1 hp
  have f0 : pg (A.2.2 0) p 0 = sI s 28 p := by unfold pg; rw [hpt]; rfl
  have f1 : pg (A.2.2 0) p 1 = sI s 29 p := by unfold pg; rw [hpt]; rfl
  have f4 : pg (A.2.2 0) p 4 = sI s 32 p := by unfold pg; rw [hpt]; rfl
  have f5 : pg (A.2.2 0) p 5 = sI s 33 p := by unfold pg; rw [hpt]; rfl
  obtain ⟨s1, e1, g1, d1⟩ := M_head h (tyF (sI s 28 p)) 1 cause by_
  have h1 := SH_ag h g1
  have hst : sI s 27 0 = A.1 0 := r.1 0 (by decide)
  have hfz : sI s 26 19 = A.1 14 := r.1 14 (by decide)
  rw [hst] at d1
  obtain ⟨s2, e2, g2, d2⟩ := M_object h1 d1 (by rw [hb_len]; omega) hp24 (pg (A.2.2 0) p 4) (pg (A.2.2 0) p 5)
  have h2 := SH_ag h1 g2
  have g12 := ag_tr g1 g2
  rw [g1.2 28 p rfl, g1.2 29 p rfl, g1.2 26 19 rfl, hfz] at d2
  have hol := ob_len (sI s 28 p) (sI s 29 p) (pg (A.2.2 0) p 4) (pg (A.2.2 0) p 5) (A.1 14)
  obtain ⟨x, s3, e3, h3, g3, r3⟩ := M_waits h2 (RM_DR g12 r) w (by rw [List.length_append, hb_len]; omega) d2
  refine ⟨s1, s2, x, s3, e1, h1, (g1.2 32 p rfl).trans f4.symm, (g1.2 33 p rfl).trans f5.symm, e2, h2, e3, h3, ag_tr (xM_DR g12) g3, ?_⟩
  unfold a_obj
  rw [f0, f1]
  exact r3
theorem W1_obj {A : aS} (w : W1 A) (p : Nat) (cause by_ : Int32) : W1 (a_obj A p cause by_) := W1_wait w (by
  have hol := ob_len (pg (A.2.2 0) p 0) (pg (A.2.2 0) p 1) (pg (A.2.2 0) p 4) (pg (A.2.2 0) p 5) (A.1 14)
  rw [List.length_append, hb_len]; omega)
/-- what is behind the carrying out -/
def a_end (A : aS) (F : List Int32) : aS := if A.1 7 = 0 then A else a_same A F 10 0
theorem M_end {s : eS} (h : SH s) {A : aS} (r : RM s A) (w : W1 A) {F : List Int32} (fr : FR s F) {n : Nat} (f : fullF F n) (hn : 3 ≤ n) : ∃ s', mX12_carriesOut_137 26 s = some s' ∧ SH s' ∧ ag xM s s' ∧ RM s' (a_end A F) := by
  have e7 : sI s 26 35 = A.1 7 := r.1 7 (by decide)
  unfold mX12_carriesOut_137 mX12_carriesOut_151 a_end
  rw [gI_26 h, b1S, e7]
  by_cases c : A.1 7 = 0
  · rw [if_pos c, if_pos c]
    exact ⟨s, rfl, h, ag_rf, r⟩
  · rw [if_neg c, if_neg c]
    obtain ⟨s1, e1, h1, g1, r1⟩ := M_same h r w fr f hn 10 0
    refine ⟨s1, ?_, h1, g1, r1⟩
    rw [oK_26 h, b1S, e1, b1S]
def a_setv (A : aS) (F : List Int32) (p : Nat) (v : Int32) : aS := a_obj (uq A 0 (sg (A.2.2 0) p 4 v)) p 11 ((rb F).getD 3 0)
set_option maxRecDepth 100000 in
theorem M_setv {s : eS} (h : SH s) {A : aS} (r : RM s A) (w : W1 A) {F : List Int32} (fr : FR s F) {n : Nat} (f : fullF F n) (hn : 9 ≤ n) {p : Nat} (hp : p < (A.2.2 0).length) (v : Int32) : ∃ s', mX12_carriesOut_88 26 (nI p) v (nI p) (some 32) s = some s' ∧ SH s' ∧ ag xM s s' ∧ RM s' (a_end (a_setv A F p v) F) := by
  have hp24 : p < 24 := Nat.lt_of_lt_of_le hp r.2.2.2.2.1.2.1
  have hip : ¬ nI p < 0 ∧ (nI p).toNatClampNeg < 24 := nIc (by omega) hp24
  have cp : (nI p).toNatClampNeg = p := nI_clamp (by omega)
  have h1 : SH (e_I s 32 p v) := SH_I h
  have r1 : RM (e_I s 32 p v) (uq A 0 (sg (A.2.2 0) p 4 v)) := RM_pt r hp (by decide) v
  have w1 := W1_pts w (sg_len (A.2.2 0) p 4 v)
  have g1 : ag xM s (e_I s 32 p v) := xM_I ag_rf (by decide)
  have fr1 := FR_M g1 fr
  obtain ⟨s2, s3, x, s4, e2, h2, q2, q3, e3, h3, e4, h4, g4, r4⟩ := M_objAnswer h1 r1 w1 (p := p) (by show p < (sg (A.2.2 0) p 4 v).length; rw [sg_len]; exact hp) 11 ((rb F).getD 3 0)
  have fr4 := FR_M g4 fr1
  obtain ⟨s5, e5, h5, g5, r5⟩ := M_end h4 r4 (W1_obj w1 p 11 _) fr4 f (by omega)
  refine ⟨s5, ?_, h5, ag_tr g1 (ag_tr g4 g5), r5⟩
  unfold mX12_carriesOut_88
  rw [b1S, sI_32 h hip, b1S, cp, gP_26_2 h1, b1S, b1S, aI_28 h1 hip, b1S, cp, M_typeOf, b2S, oK_26 h1, b1S, show mX12_at 26 3 (e_I s 32 p v) = some ((rb F).getD 3 0, e_I s 32 p v) from M_at h1 fr1 f (k := 3) (by omega), b2S, oK_26 h1, b1S, e2, b1S, gP_26_6 h2, b1S, b1S, aI_32 h2 hip, b1S, cp, q2, gP_26_7 h2, b1S, b1S, aI_33 h2 hip, b1S, cp, q3, oK_26 h2, b1S, e3, b1S, oK_26 h3, b1S, e4, b2S, e5]
/-- the value of an order -/
def ordV (F : List Int32) (so q : Int32) : Int32 := if so = 0 then q &&& 1 else if so = 1 then q &&& 3 else (((rb F).getD 9 0 + 256 * (rb F).getD 10 0) <<< ((16 : Int32) &&& 31)) >>> ((16 : Int32) &&& 31)
def a_carry (A : aS) (F : List Int32) (c : Nat) (so q : Int32) : aS :=
  if isT F = 0 then (if A.1 7 = 0 then a_end A F else if pg (A.2.2 1) c 2 = -1 then a_end (uq A 1 (sg (A.2.2 1) c 4 (pg (A.2.2 1) c 4 + 1))) F else a_end (a_setv (uq A 1 (sg (A.2.2 1) c 4 (pg (A.2.2 1) c 4 + 1))) F (pg (A.2.2 1) c 2).toNatClampNeg (ordV F so q)) F) else a_end A F
set_option maxRecDepth 100000 in
theorem M_carriesOut {s : eS} (h : SH s) {A : aS} (r : RM s A) (w : W1 A) (w3 : W3 A) {F : List Int32} (fr : FR s F) {n : Nat} (f : fullF F n) {c : Nat} (hc : c < (A.2.2 1).length) (so q : Int32) (hn : if so = 0 ∨ so = 1 then 10 ≤ n else 12 ≤ n) : ∃ s', mX12_carriesOut 26 (nI c) so q s = some s' ∧ SH s' ∧ ag xM s s' ∧ RM s' (a_carry A F c so q) := by
  have hn9 : 10 ≤ n := by split at hn <;> omega
  have hc12 : c < 12 := Nat.lt_of_lt_of_le hc r.2.2.2.2.2.1.2.1
  have hic : ¬ nI c < 0 ∧ (nI c).toNatClampNeg < 12 := nIc (by omega) hc12
  have cc : (nI c).toNatClampNeg = c := nI_clamp (by omega)
  have hcm := MC_get r.2.2.2.2.2.1 hc
  have k2 : pg (A.2.2 1) c 2 = sI s 37 c := by unfold pg; rw [hcm]; rfl
  have k4 : pg (A.2.2 1) c 4 = sI s 39 c := by unfold pg; rw [hcm]; rfl
  have e7 : sI s 26 35 = A.1 7 := r.1 7 (by decide)
  unfold mX12_carriesOut a_carry
  rw [oK_26 h, b1S, M_isTest h fr f (by omega), b2S]
  by_cases c0 : isT F = 0
  · rw [if_pos c0, if_pos c0, gI_26 h, b1S, e7]
    by_cases c7 : A.1 7 = 0
    · rw [if_pos c7, if_pos c7]
      exact M_end h r w fr f (by omega)
    · rw [if_neg c7, if_neg c7]
      have h1 : SH (e_I s 39 c (pg (A.2.2 1) c 4 + 1)) := SH_I h
      have r1 := RM_carried r hc (pg (A.2.2 1) c 4 + 1)
      have g1 : ag xM s (e_I s 39 c (pg (A.2.2 1) c 4 + 1)) := xM_I ag_rf (by decide)
      have fr1 := FR_M g1 fr
      have w1 : W1 (uq A 1 (sg (A.2.2 1) c 4 (pg (A.2.2 1) c 4 + 1))) := W1_cmd w _
      rw [gP_26_14 h, b1S, b1S, aI_39 h hic, b1S, cc, ← k4, sI_39 h hic, b1S, cc, gP_26_12 h1, b1S, b1S, aI_37 h1 hic, b1S, cc, rII_ne (Or.inl (by decide)), ← k2]
      by_cases cm : pg (A.2.2 1) c 2 = -1
      · rw [if_pos cm, if_pos cm]
        obtain ⟨s2, e2, h2, g2, r2⟩ := M_end h1 r1 w1 fr1 f (by omega)
        exact ⟨s2, e2, h2, ag_tr g1 g2, r2⟩
      · rw [if_neg cm, if_neg cm, gP_26_6 h1, b1S]
        obtain ⟨p, hp, ep⟩ : ∃ p, p < (A.2.2 0).length ∧ pg (A.2.2 1) c 2 = nI p := by
          have hm : (A.2.2 1).getD c [] ∈ A.2.2 1 := by
            rw [List.getD_eq_getElem?_getD, List.getElem?_eq_getElem hc]
            exact List.getElem_mem hc
          rcases w3 _ hm with z | z
          · exact absurd z cm
          · exact z
        have hp24 : p < 24 := Nat.lt_of_lt_of_le hp r.2.2.2.2.1.2.1
        rw [ep, nI_clamp (by omega)]
        obtain ⟨s2, e2, h2, g2, r2⟩ := M_setv h1 r1 w1 fr1 f (by omega) (p := p) hp (ordV F so q)
        refine ⟨s2, ?_, h2, ag_tr g1 g2, r2⟩
        unfold ordV at e2
        by_cases s0 : so = 0
        · rw [if_pos s0] at e2 ⊢
          exact e2
        · rw [if_neg s0] at e2 ⊢
          by_cases s1' : so = 1
          · rw [if_pos s1'] at e2 ⊢
            exact e2
          · rw [if_neg s1'] at e2 ⊢
            have hn12 : 12 ≤ n := by
              rw [if_neg (by simp [s0, s1'])] at hn
              exact hn
            rw [oK_26 h1, b1S, show mX12_at 26 9 _ = some ((rb F).getD 9 0, _) from M_at h1 fr1 f (k := 9) (by omega), b2S, oK_26 h1, b1S, show mX12_at 26 10 _ = some ((rb F).getD 10 0, _) from M_at h1 fr1 f (k := 10) (by omega), b2S]
            exact e2
  · rw [if_neg c0, if_neg c0]
    exact M_end h r w fr f (by omega)
/-! ===== the model reads ===== -/
/-- the place of the first row with this number at k, its length if there is none -/
def ixF (q : List (List Int32)) (k : Nat) (x : Int32) : Nat := q.findIdx (fun e => e.getD k 0 == x)
theorem ixF_le (q : List (List Int32)) (k : Nat) (x : Int32) : ixF q k x ≤ q.length := List.findIdx_le_length
def a_read (A : aS) (F : List Int32) (x : Int32) : aS := if ixF (A.2.2 0) 1 x = (A.2.2 0).length then a_same A F 47 1 else if isT F = 0 then a_obj A (ixF (A.2.2 0) 1 x) 5 ((rb F).getD 3 0) else A
set_option maxRecDepth 100000 in
theorem M_reads {s : eS} (h : SH s) {A : aS} (r : RM s A) (w : W1 A) {F : List Int32} (fr : FR s F) {n : Nat} (f : fullF F n) (hn : 9 ≤ n) (x : Int32) : ∃ s', mX12_reads 26 x s = some s' ∧ SH s' ∧ ag xM s s' ∧ RM s' (a_read A F x) := by
  obtain ⟨m1, m2, m3⟩ := r.2.2.2.2.1
  have hadr : ∀ i, i < (A.2.2 0).length → ((A.2.2 0).getD i []).getD 1 0 = sI s 29 i := fun i hi => by rw [MP_get r.2.2.2.2.1 hi]; rfl
  -- behind the search
  have key : ∃ s', mX12_reads_26 26 (nI (ixF (A.2.2 0) 1 x)) s = some s' ∧ SH s' ∧ ag xM s s' ∧ RM s' (a_read A F x) := by
    have hle := ixF_le (A.2.2 0) 1 x
    unfold mX12_reads_26 mX12_reads_93 a_read
    rw [gI_26 h, b1S, m1]
    by_cases c : ixF (A.2.2 0) 1 x = (A.2.2 0).length
    · rw [if_pos c, if_pos (by rw [c])]
      obtain ⟨s1, e1, h1, g1, r1⟩ := M_same h r w fr f (by omega) 47 1
      refine ⟨s1, ?_, h1, g1, r1⟩
      rw [oK_26 h, b1S, e1, b1S]
    · have hp : ixF (A.2.2 0) 1 x < (A.2.2 0).length := by omega
      rw [if_neg c, if_neg (fun z => c ((nI_eq (by omega) (by omega)).mp z)), oK_26 h, b1S, M_isTest h fr f (by omega), b2S]
      generalize ixF (A.2.2 0) 1 x = p at hp c
      have hip : ¬ nI p < 0 ∧ (nI p).toNatClampNeg < 24 := nIc (by omega) (by omega)
      have cp : (nI p).toNatClampNeg = p := nI_clamp (by omega)
      by_cases c0 : isT F = 0
      · rw [if_pos c0, if_pos c0]
        obtain ⟨s2, s3, y, s4, e2, h2, q2, q3, e3, h3, e4, h4, g4, r4⟩ := M_objAnswer h r w hp 5 ((rb F).getD 3 0)
        refine ⟨s4, ?_, h4, g4, r4⟩
        rw [gP_26_2 h, b1S, b1S, aI_28 h hip, b1S, cp, M_typeOf, b2S, oK_26 h, b1S, show mX12_at 26 3 s = some ((rb F).getD 3 0, s) from M_at h fr f (k := 3) (by omega), b2S, oK_26 h, b1S, e2, b1S, gP_26_6 h2, b1S, b1S, aI_32 h2 hip, b1S, cp, q2, gP_26_7 h2, b1S, b1S, aI_33 h2 hip, b1S, cp, q3, oK_26 h2, b1S, e3, b1S, oK_26 h3, b1S, e4, b2S]
      · rw [if_neg c0, if_neg c0]
        exact ⟨s, rfl, h, ag_rf, r⟩
  -- the search
  have srch : ∀ (d i m : Nat), i + d = ixF (A.2.2 0) 1 x → d < m → mX12_reads_2 m 26 x (nI i) s = mX12_reads_26 26 (nI (ixF (A.2.2 0) 1 x)) s := by
    intro d
    induction d with
    | zero =>
      intro i m hi hm
      obtain ⟨m, rfl⟩ : ∃ q, m = q + 1 := ⟨m - 1, by omega⟩
      have hle := ixF_le (A.2.2 0) 1 x
      unfold mX12_reads_2
      rw [gI_26 h, b1S, m1]
      rw [Nat.add_zero] at hi
      by_cases c : (A.2.2 0).length ≤ i
      · rw [if_pos (nI_le c (by omega)), hi]
      · have hil : i < (A.2.2 0).length := by omega
        rw [if_neg (nI_ge (by omega) (by omega)), gP_26_3 h, b1S, b1S, aI_29 h (nIc (by omega) (by omega)), b1S, nI_clamp (by omega)]
        have hh : (A.2.2 0).findIdx (fun e => e.getD 1 0 == x) < (A.2.2 0).length := by
          show ixF (A.2.2 0) 1 x < _
          omega
        have hx := List.findIdx_getElem (w := hh)
        have e9 : ((A.2.2 0).getD i []).getD 1 0 = x := by
          rw [show (A.2.2 0).getD i [] = (A.2.2 0)[i] from by rw [List.getD_eq_getElem?_getD, List.getElem?_eq_getElem hil]; rfl]
          have : (A.2.2 0)[i] = (A.2.2 0)[(A.2.2 0).findIdx (fun e => e.getD 1 0 == x)] := by congr 1
          show ((A.2.2 0)[i]).getD 1 0 = x
          rw [this]
          exact eq_of_beq hx
        rw [← hadr i hil, e9, if_pos rfl, hi]
    | succ d ih =>
      intro i m hi hm
      obtain ⟨m, rfl⟩ : ∃ q, m = q + 1 := ⟨m - 1, by omega⟩
      have hle := ixF_le (A.2.2 0) 1 x
      have hil : i < (A.2.2 0).length := by omega
      unfold mX12_reads_2
      rw [gI_26 h, b1S, m1, if_neg (nI_ge (by omega) (by omega)), gP_26_3 h, b1S, b1S, aI_29 h (nIc (by omega) (by omega)), b1S, nI_clamp (by omega), ← hadr i hil]
      have hnx : ¬ ((A.2.2 0).getD i []).getD 1 0 = x := by
        have := List.not_of_lt_findIdx (p := fun e : List Int32 => e.getD 1 0 == x) (xs := A.2.2 0) (i := i) (by show i < ixF (A.2.2 0) 1 x; omega)
        rw [show (A.2.2 0).getD i [] = (A.2.2 0)[i] from by rw [List.getD_eq_getElem?_getD, List.getElem?_eq_getElem hil]; rfl]
        intro z
        have z' : ((A.2.2 0)[i]).getD 1 0 = x := z
        rw [beq_iff_eq.mpr z'] at this
        cases this
      rw [if_neg hnx, nI_1]
      exact ih (i + 1) m (by omega) (by omega)
  unfold mX12_reads
  have hle := ixF_le (A.2.2 0) 1 x
  rw [show mX12_reads_2 100000 26 x 0 s = _ from srch (ixF (A.2.2 0) 1 x) 0 100000 (by omega) (by omega)]
  exact key
