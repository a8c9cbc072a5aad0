/-! ===== the model's points are sent in parts ===== -/
def cnt (f : Nat → Bool) : Nat → Nat → Nat
  | 0, c => c
  | d + 1, c => if f c = true then cnt f d (c + 1) else c
theorem cnt_ge (f : Nat → Bool) : ∀ (d c : Nat), c ≤ cnt f d c ∧ cnt f d c ≤ c + d
  | 0, c => ⟨Nat.le_refl _, Nat.le_refl _⟩
  | d + 1, c => by
    unfold cnt
    split
    · have := cnt_ge f d (c + 1)
      omega
    · omega
theorem cnt_le (f : Nat → Bool) {L : Nat} (hf : ∀ c, f c = true → c < L) : ∀ (d c : Nat), c ≤ L → cnt f d c ≤ L
  | 0, _, h => h
  | d + 1, c, h => by
    unfold cnt
    split
    · rename_i hc
      exact cnt_le f hf d (c + 1) (hf c hc)
    · exact h
def ckP (q : List (List Int32)) (l : List Nat) (c : Nat) : Bool := decide (c < l.length) && decide (pg q (l.getD c 0) 0 = pg q (l.getD 0 0) 0)
/-- how many points of one sort go in one part -/
def ckF (q : List (List Int32)) (l : List Nat) : Nat := cnt (ckP q l) 5 1
theorem ckF_in (q : List (List Int32)) {l : List Nat} (hl : 0 < l.length) : 1 ≤ ckF q l ∧ ckF q l ≤ 6 ∧ ckF q l ≤ l.length := by
  have := cnt_ge (ckP q l) 5 1
  refine ⟨this.1, this.2, cnt_le _ (fun c hc => ?_) 5 1 hl⟩
  unfold ckP at hc
  rw [Bool.and_eq_true] at hc
  exact of_decide_eq_true hc.1
def obP (A : aS) (ctr : Int32) (p : Nat) : List Int32 := ob (pg (A.2.2 0) p 0) (pg (A.2.2 0) p 1) (if ctr = 0 then pg (A.2.2 0) p 4 else pg (A.2.2 0) p 6) (pg (A.2.2 0) p 5) (A.1 14)
def bsO (A : aS) (ctr cause : Int32) (l : List Nat) : List Int32 := hb (tyF (pg (A.2.2 0) (l.getD 0 0) 0)) (nI (ckF (A.2.2 0) l)) cause 0 (A.1 0) ++ (l.take (ckF (A.2.2 0) l)).flatMap (obP A ctr)
def a_objs (ctr cause : Int32) : Nat → aS → List Nat → aS
  | 0, A, _ => A
  | e + 1, A, l => if l.length = 0 then A else if A.1 7 = 0 then A else a_objs ctr cause e (a_wait A (bsO A ctr cause l)) (l.drop (ckF (A.2.2 0) l))
theorem obs_len (A : aS) (ctr : Int32) : ∀ (l : List Nat), (l.flatMap (obP A ctr)).length ≤ 8 * l.length
  | [] => Nat.le_refl _
  | p :: t => by
    have h1 := obs_len A ctr t
    have h2 : (obP A ctr p).length ≤ 8 := ob_len _ _ _ _ _
    rw [List.flatMap_cons, List.length_append, List.length_cons]
    omega
theorem take_1 (l : List Nat) {c : Nat} (hc : c < l.length) : l.take (c + 1) = l.take c ++ [l.getD c 0] := by
  rw [List.take_add_one, List.getElem?_eq_getElem hc, List.getD_eq_getElem?_getD, List.getElem?_eq_getElem hc]
  rfl
theorem RW_ag {X : Nat → Nat → Bool} {s s' : eS} {l : List Nat} (g : ag X s s') (h : RW s l) (hx : ∀ k, X 57 k = false) : RW s' l := fun j hj => (g.2 57 j (hx j)).trans (h j hj)
theorem RM_57 {s s' : eS} {A : aS} (g : ag x57 s s') (r : RM s A) : RM s' A := RM_x g r (by decide) (by decide) (fun a k h1 h2 => by
  simp only [x57, beq_eq_false_iff_ne]
  omega)
set_option maxRecDepth 100000 in
/-- how many go -/
theorem M_cnt (k127 : Nat → Int32 → Int32 → Int32 → Int32 → eS → Option eS) (ctr cause : Int32) {s : eS} (h : SH s) {A : aS} (r : RM s A) {L : List Nat} (hL : ∀ j, j < L.length → L.getD j 0 < (A.2.2 0).length) (hLL : L.length ≤ 24) (hw : RW s L) {st : Nat} (hst : st < L.length) : ∀ (d c m : Nat), c + d = 6 → d < m → 1 ≤ c →
    mX12_objects_144 k127 m 26 ctr cause (nI L.length) (nI st) (nI c) s = mX12_objects_197 k127 26 ctr cause (nI L.length) (nI st) (nI (cnt (ckP (A.2.2 0) (L.drop st)) d c)) s := by
  have m2 := r.2.2.2.2.1.2.1
  have hrow : ∀ i, i < (A.2.2 0).length → pg (A.2.2 0) i 0 = sI s 28 i := fun i hi => by unfold pg; rw [MP_get r.2.2.2.2.1 hi]; rfl
  have hd : ∀ c, (L.drop st).getD c 0 = L.getD (st + c) 0 := fun c => by rw [List.getD_eq_getElem?_getD, List.getElem?_drop, ← List.getD_eq_getElem?_getD]
  intro d
  induction d with
  | zero =>
    intro c m hc hm h1
    obtain ⟨m, rfl⟩ : ∃ q, m = q + 1 := ⟨m - 1, by omega⟩
    conv => lhs; unfold mX12_objects_144
    unfold cnt
    rw [nI_add, if_pos (show (6 : Int32) ≤ nI c from nI_le (a := 6) (by omega) (by omega))]
    split
    · rfl
    · rfl
  | succ d ih =>
    intro c m hc hm h1
    obtain ⟨m, rfl⟩ : ∃ q, m = q + 1 := ⟨m - 1, by omega⟩
    conv => lhs; unfold mX12_objects_144
    unfold cnt
    have ep : ckP (A.2.2 0) (L.drop st) c = (decide (c < L.length - st) && decide (pg (A.2.2 0) (L.getD (st + c) 0) 0 = pg (A.2.2 0) (L.getD st 0) 0)) := by
      unfold ckP
      rw [hd, hd, List.length_drop, Nat.add_zero]
    rw [nI_add]
    by_cases c1 : L.length ≤ st + c
    · rw [if_pos (nI_le c1 (by omega)), if_neg]
      rw [ep, decide_eq_false (by omega)]
      simp
    · have l1 := hL (st + c) (by omega)
      have l0 := hL st hst
      rw [if_neg (nI_ge (by omega) (by omega)), if_neg (show ¬ (6 : Int32) ≤ nI c from nI_ge (b := 6) (by omega) (by decide)), gP_26_2 h, b1S, gP_26_54 h, b1S, b1S, aI_57 h (nIc (by omega) (by omega)), b1S, nI_clamp (by omega), hw _ (by omega), b1S, aI_28 h (nIc (by omega) (by omega)), b1S, nI_clamp (by omega), b1S, b1S, b1S, aI_57 h (nIc (by omega) (by omega)), b1S, nI_clamp (by omega), hw _ hst, b1S, aI_28 h (nIc (by omega) (by omega)), b1S, nI_clamp (by omega), ← hrow _ l1, ← hrow _ l0]
      by_cases c2 : pg (A.2.2 0) (L.getD (st + c) 0) 0 = pg (A.2.2 0) (L.getD st 0) 0
      · rw [if_pos c2, if_pos (by rw [ep, decide_eq_true c2, decide_eq_true (show c < L.length - st by omega)]; rfl), nI_1]
        exact ih (c + 1) m (by omega) (by omega) (by omega)
      · rw [if_neg c2, if_neg (by rw [ep, decide_eq_false c2, Bool.and_false]; decide)]
set_option maxRecDepth 100000 in
/-- one part -/
theorem M_part (k127 : Nat → Int32 → Int32 → Int32 → Int32 → eS → Option eS) (ctr cause : Int32) {A : aS} (w : W1 A) {L : List Nat} (hL : ∀ j, j < L.length → L.getD j 0 < (A.2.2 0).length) (hLL : L.length ≤ 24) {st ck : Nat} (hck : st + ck ≤ L.length) (hck6 : ck ≤ 6) {hd : List Int32} (hhd : hd.length = 6) {s0 : eS} : ∀ (d c m : Nat) (s : eS), c + d = ck → d < m → SH s → RM s A → RW s L → ag xM s0 s → DR s (hd ++ ((L.drop st).take c).flatMap (obP A ctr)) →
    ∃ s', mX12_objects_224 k127 m 26 ctr cause (nI L.length) (nI st) (nI ck) (nI (st + c)) s = k127 26 ctr cause (nI L.length) (nI (st + ck)) s' ∧ SH s' ∧ ag xM s0 s' ∧ RW s' L ∧ RM s' (a_wait A (hd ++ ((L.drop st).take ck).flatMap (obP A ctr))) := by
  intro d
  induction d with
  | zero =>
    intro c m s hc hm h r hw hg hdr
    obtain ⟨m, rfl⟩ : ∃ q, m = q + 1 := ⟨m - 1, by omega⟩
    rw [Nat.add_zero] at hc
    subst hc
    have hb8 := obs_len A ctr ((L.drop st).take c)
    have htl : ((L.drop st).take c).length ≤ c := by rw [List.length_take]; omega
    obtain ⟨x, s1, e1, h1, g1, r1⟩ := M_waits h r w (by rw [List.length_append]; omega) hdr
    refine ⟨s1, ?_, h1, ag_tr hg g1, RW_ag g1 hw (fun k => by simp [xM]), r1⟩
    conv => lhs; unfold mX12_objects_224
    rw [nI_add, if_pos (nI_le (Nat.le_refl _) (by omega)), oK_26 h, b1S, e1, b2S]
  | succ d ih =>
    intro c m s hc hm h r hw hg hdr
    obtain ⟨m, rfl⟩ : ∃ q, m = q + 1 := ⟨m - 1, by omega⟩
    have m2 := r.2.2.2.2.1.2.1
    have hlt : st + c < L.length := by omega
    have hp := hL (st + c) hlt
    have hb8 := obs_len A ctr ((L.drop st).take c)
    have htl : ((L.drop st).take c).length ≤ c := by rw [List.length_take]; omega
    have hpt := MP_get r.2.2.2.2.1 hp
    have ed : (L.drop st).getD c 0 = L.getD (st + c) 0 := by rw [List.getD_eq_getElem?_getD, List.getElem?_drop, ← List.getD_eq_getElem?_getD]
    have tk := take_1 (L.drop st) (c := c) (by rw [List.length_drop]; omega)
    rw [ed] at tk
    generalize L.getD (st + c) 0 = p at *
    have t0 : pg (A.2.2 0) p 0 = sI s 28 p := by unfold pg; rw [hpt]; rfl
    have t1 : pg (A.2.2 0) p 1 = sI s 29 p := by unfold pg; rw [hpt]; rfl
    have t4 : pg (A.2.2 0) p 4 = sI s 32 p := by unfold pg; rw [hpt]; rfl
    have t5 : pg (A.2.2 0) p 5 = sI s 33 p := by unfold pg; rw [hpt]; rfl
    have t6 : pg (A.2.2 0) p 6 = sI s 34 p := by unfold pg; rw [hpt]; rfl
    have e14 : sI s 26 19 = A.1 14 := r.1 14 (by decide)
    have hip : ¬ nI p < 0 ∧ (nI p).toNatClampNeg < 24 := nIc (by omega) (by omega)
    have cp : (nI p).toNatClampNeg = p := nI_clamp (by omega)
    have hw' : sI s 57 (st + c) = nI p := by
      have := hw (st + c) hlt
      rw [this, ← ed, List.getD_eq_getElem?_getD, List.getD_eq_getElem?_getD, List.getElem?_drop]
    have hiw : ¬ nI (st + c) < 0 ∧ (nI (st + c)).toNatClampNeg < 24 := nIc (by omega) (by omega)
    have key : ∀ v : Int32, v = (if ctr = 0 then pg (A.2.2 0) p 4 else pg (A.2.2 0) p 6) → ∃ s', mX12_objects_273 k127 (mX12_objects_224 k127 m) 26 ctr cause (nI L.length) (nI st) (nI ck) (nI (st + c)) v (nI p) (some 26) s = k127 26 ctr cause (nI L.length) (nI (st + ck)) s' ∧ SH s' ∧ ag xM s0 s' ∧ RW s' L ∧ RM s' (a_wait A (hd ++ ((L.drop st).take ck).flatMap (obP A ctr))) := by
      intro v hv
      obtain ⟨s1, e1, g1, d1⟩ := M_object h hdr (by rw [List.length_append]; omega) (p := p) (by omega) v (sI s 33 p)
      have h1 := SH_ag h g1
      obtain ⟨s2, e2, r2⟩ := ih (c + 1) m s1 (by omega) (by omega) h1 (RM_DR g1 r) (RW_ag g1 hw (fun k => rfl)) (ag_tr hg (xM_DR g1)) (by
        rw [tk, List.flatMap_append, ← List.append_assoc]
        rw [← t0, ← t1, ← t5, e14] at d1
        rw [hv] at d1
        have : [p].flatMap (obP A ctr) = obP A ctr p := by simp
        rw [this]
        exact d1)
      refine ⟨s2, ?_, r2⟩
      unfold mX12_objects_273
      rw [gP_26_7 h, b1S, gP_26_54 h, b1S, b1S, aI_57 h hiw, b1S, nI_clamp (by omega), hw', b1S, aI_33 h hip, b1S, cp, b1S, oK_26 h, b1S, e1, b1S, nI_1]
      exact e2
    unfold mX12_objects_224
    rw [nI_add, if_neg (nI_ge (by omega) (by omega)), gP_26_54 h, b1S, b1S, aI_57 h hiw, b1S, nI_clamp (by omega), hw']
    by_cases c0 : ctr = 0
    · rw [if_pos c0, gP_26_6 h, b1S, b1S, b1S, aI_57 h hiw, b1S, nI_clamp (by omega), hw', b1S, aI_32 h hip, b1S, cp, ← t4]
      exact key _ (by rw [if_pos c0])
    · rw [if_neg c0, gP_26_8 h, b1S, b1S, b1S, aI_57 h hiw, b1S, nI_clamp (by omega), hw', b1S, aI_34 h hip, b1S, cp, ← t6]
      exact key _ (by rw [if_neg c0])
set_option maxRecDepth 100000 in
theorem M_parts (ctr cause : Int32) {L : List Nat} (hLL : L.length ≤ 24) : ∀ (e st m : Nat) (s : eS) (A : aS), L.length ≤ st + e → st ≤ L.length → e < m → SH s → RM s A → W1 A → RW s L → (∀ j, j < L.length → L.getD j 0 < (A.2.2 0).length) →
    ∃ s', mX12_objects_127 m 26 ctr cause (nI L.length) (nI st) s = some s' ∧ SH s' ∧ ag xM s s' ∧ RM s' (a_objs ctr cause e A (L.drop st)) := by
  intro e
  induction e with
  | zero =>
    intro st m s A he hst hm h r w hw hL
    obtain ⟨m, rfl⟩ : ∃ q, m = q + 1 := ⟨m - 1, by omega⟩
    unfold mX12_objects_127 mX12_objects_310 a_objs
    rw [if_pos (nI_le (by omega) (by omega))]
    exact ⟨s, rfl, h, ag_rf, r⟩
  | succ e ih =>
    intro st m s A he hst hm h r w hw hL
    obtain ⟨m, rfl⟩ : ∃ q, m = q + 1 := ⟨m - 1, by omega⟩
    have e7 : sI s 26 35 = A.1 7 := r.1 7 (by decide)
    unfold mX12_objects_127 mX12_objects_310 a_objs
    by_cases c1 : L.length ≤ st
    · rw [if_pos (nI_le c1 (by omega)), if_pos (by rw [List.length_drop]; omega)]
      exact ⟨s, rfl, h, ag_rf, r⟩
    · have hlt : st < L.length := by omega
      rw [if_neg (nI_ge hlt (by omega)), if_neg (by rw [List.length_drop]; omega), gI_26 h, b1S, e7]
      by_cases c7 : A.1 7 = 0
      · rw [if_pos c7, if_pos c7]
        exact ⟨s, rfl, h, ag_rf, r⟩
      · rw [if_neg c7, if_neg c7]
        have ec := M_cnt (mX12_objects_127 m) ctr cause h r hL hLL hw hlt 5 1 100000 (by omega) (by omega) (by omega)
        rw [show mX12_objects_144 (mX12_objects_127 m) 100000 26 ctr cause (nI L.length) (nI st) 1 s = _ from ec]
        rw [show cnt (ckP (A.2.2 0) (L.drop st)) 5 1 = ckF (A.2.2 0) (L.drop st) from rfl]
        obtain ⟨k1, k6, kl⟩ := ckF_in (A.2.2 0) (l := L.drop st) (by rw [List.length_drop]; omega)
        rw [List.length_drop] at kl
        have m2 := r.2.2.2.2.1.2.1
        have hp0 := hL st hlt
        have e0 : (L.drop st).getD 0 0 = L.getD st 0 := by rw [List.getD_eq_getElem?_getD, List.getElem?_drop, ← List.getD_eq_getElem?_getD, Nat.add_zero]
        have ebs : bsO A ctr cause (L.drop st) = hb (tyF (pg (A.2.2 0) (L.getD st 0) 0)) (nI (ckF (A.2.2 0) (L.drop st))) cause 0 (A.1 0) ++ ((L.drop st).take (ckF (A.2.2 0) (L.drop st))).flatMap (obP A ctr) := by unfold bsO; rw [e0]
        have ed : (L.drop st).drop (ckF (A.2.2 0) (L.drop st)) = L.drop (st + ckF (A.2.2 0) (L.drop st)) := List.drop_drop
        rw [ed, ebs]
        generalize ckF (A.2.2 0) (L.drop st) = ck at *
        have t0 : pg (A.2.2 0) (L.getD st 0) 0 = sI s 28 (L.getD st 0) := by unfold pg; rw [MP_get r.2.2.2.2.1 hp0]; rfl
        have hst0 : sI s 27 0 = A.1 0 := r.1 0 (by decide)
        obtain ⟨s1, e1, g1, d1⟩ := M_head h (tyF (sI s 28 (L.getD st 0))) (nI ck) cause 0
        rw [hst0, ← t0] at d1
        have h1 := SH_ag h g1
        have hlen := hb_len (tyF (pg (A.2.2 0) (L.getD st 0) 0)) (nI ck) cause 0 (A.1 0)
        obtain ⟨s2, e2, h2, g2, w2, r2⟩ := M_part (mX12_objects_127 m) ctr cause w hL hLL (st := st) (ck := ck) (by omega) k6 hlen (s0 := s) ck 0 100000 s1 (by omega) (by omega) h1 (RM_DR g1 r) (RW_ag g1 hw (fun k => rfl)) (xM_DR g1) (by rw [List.take_zero, List.flatMap_nil, List.append_nil]; exact d1)
        have hbl := obs_len A ctr ((L.drop st).take ck)
        have htl : ((L.drop st).take ck).length ≤ ck := by rw [List.length_take]; omega
        obtain ⟨s3, e3, h3, g3, r3⟩ := ih (st + ck) m s2 _ (by omega) (by omega) (by omega) h2 r2 (W1_wait w (by rw [List.length_append, hlen]; omega)) w2 (fun j hj => by rw [wait_q _ (Or.inl rfl)]; exact hL j hj)
        refine ⟨s3, ?_, h3, ag_tr g2 g3, r3⟩
        unfold mX12_objects_197
        rw [gP_26_2 h, b1S, gP_26_54 h, b1S, b1S, aI_57 h (nIc (by omega) (by omega)), b1S, nI_clamp (by omega), hw st hlt, b1S, aI_28 h (nIc (by omega) (by omega)), b1S, nI_clamp (by omega), M_typeOf, b2S, oK_26 h, b1S, e1, b1S]
        rw [show mX12_objects_224 (mX12_objects_127 m) 100000 26 ctr cause (nI L.length) (nI st) (nI ck) (nI st) s1 = _ from e2]
        exact e3
/-- all cells of the model but the frame -/
abbrev xN : Nat → Nat → Bool := fun a _ => decide (26 ≤ a) && decide (a < 58) && !(a == 55)
theorem xN_M {s s' : eS} (g : ag xM s s') : ag xN s s' := ag_mono g (fun a k hx => by
  simp only [xN, Bool.and_eq_false_iff, decide_eq_false_iff_not, Bool.not_eq_false', beq_iff_eq] at hx
  simp only [xM, Bool.and_eq_false_iff, decide_eq_false_iff_not, Bool.not_eq_false', beq_iff_eq]
  omega)
theorem FR_N {s s' : eS} {F : List Int32} (g : ag xN s s') (h : FR s F) : FR s' F := FR_ag g h (fun k => by simp [xN])
theorem M_objects {s : eS} (h : SH s) {A : aS} (r : RM s A) (w : W1 A) (w4 : W4 A) (g ctr cause : Int32) : ∃ s', mX12_objects 26 g ctr cause s = some s' ∧ SH s' ∧ ag xN s s' ∧ RM s' (a_objs ctr cause 24 A (ordL (A.2.2 0) g ctr)) := by
  have m2 := r.2.2.2.2.1.2.1
  obtain ⟨s1, e1, h1, g1, w1⟩ := M_row g ctr cause r w4 (A.2.2 0).length 0 100000 s [] (by omega) (by omega) h ag_rf (fun j hj => absurd hj (Nat.not_lt_zero j)) (fun j k _ hk => absurd hk (Nat.not_lt_zero k)) (List.Perm.refl _)
  have hl := ordL_len (A.2.2 0) g ctr
  obtain ⟨s2, e2, h2, g2, r2⟩ := M_parts ctr cause (L := ordL (A.2.2 0) g ctr) (by omega) 24 0 100000 s1 A (by omega) (by omega) (by omega) h1 (RM_57 g1 r) w w1 (fun j hj => ordL_lt (by
    rw [List.getD_eq_getElem?_getD, List.getElem?_eq_getElem hj]
    exact List.getElem_mem hj))
  refine ⟨s2, ?_, h2, ag_tr (ag_mono g1 (fun a k hx => ?_)) (xN_M g2), r2⟩
  · unfold mX12_objects
    rw [show mX12_objects_6 100000 26 g ctr cause 0 0 s = _ from e1]
    exact e2
  · simp only [xN, Bool.and_eq_false_iff, decide_eq_false_iff_not, Bool.not_eq_false', beq_iff_eq] at hx
    simp only [x57, beq_eq_false_iff_ne]
    omega
