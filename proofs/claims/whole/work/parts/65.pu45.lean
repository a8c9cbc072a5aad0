/-! ===== POINTS that are asked for ===== -/
theorem cnt_next (f : Nat → Bool) : ∀ (d c j : Nat), c ≤ j → j ≤ cnt f d c → ((j < c + d ∧ f j = true) → j + 1 ≤ cnt f d c) ∧ ((j = c + d ∨ f j = false) → cnt f d c = j)
  | 0, c, j, h1, h2 => by
    have h2' : j ≤ c := h2
    refine ⟨fun z => by omega, fun _ => ?_⟩
    show c = j
    omega
  | d + 1, c, j, h1, h2 => by
    unfold cnt at *
    by_cases hc : f c = true
    · rw [if_pos hc] at *
      by_cases e : j = c
      · subst e
        refine ⟨fun _ => (cnt_ge f d (j + 1)).1, fun z => ?_⟩
        rcases z with z | z
        · omega
        · rw [hc] at z; cases z
      · have ih := cnt_next f d (c + 1) j (by omega) h2
        exact ⟨fun z => ih.1 ⟨by omega, z.2⟩, fun z => ih.2 (by rcases z with z | z; exact Or.inl (by omega); exact Or.inr z)⟩
    · rw [if_neg hc] at *
      have e : j = c := by omega
      subst e
      exact ⟨fun z => absurd z.2 hc, fun _ => rfl⟩
theorem ord_filter {A : aS} (w4 : W4 A) (g ctr : Int32) : (oL (A.2.2 0)).filter (chF (A.2.2 0) g ctr) = ordL (A.2.2 0) g ctr := by
  refine ord_eq w4 g ctr ((List.mergeSort_perm _ _).filter _) ?_
  have := List.pairwise_mergeSort (le := fun a b => decide (pg (A.2.2 0) a 1 ≤ pg (A.2.2 0) b 1)) (fun a b c h1 h2 => decide_eq_true (Int32.le_trans (of_decide_eq_true h1) (of_decide_eq_true h2))) (fun a b => by
      rcases Int32.le_total (pg (A.2.2 0) a 1) (pg (A.2.2 0) b 1) with z | z
      · rw [decide_eq_true z, Bool.true_or]
      · rw [decide_eq_true z, Bool.or_true]) (List.range (A.2.2 0).length)
  exact (this.imp (fun h => of_decide_eq_true h)).filter _
theorem oL_len (q : List (List Int32)) : (oL q).length = q.length := by unfold oL; rw [List.length_mergeSort, List.length_range]
theorem oL_lt {q : List (List Int32)} {x : Nat} (h : x ∈ oL q) : x < q.length := List.mem_range.mp ((List.mergeSort_perm _ _).mem_iff.mp h)
theorem RT_rs {C : Nat} {s : eS} {B : aS} (r : RT C s B) : ∃ A2, RS true C s A2 ∧ A2.2.2 0 = B.2.2 0 ∧ A2.2.2 1 = B.2.2 1 ∧ A2.1 0 = B.1 0 ∧ A2.1 14 = B.1 14 := by
  rcases r with ⟨-, r, -⟩ | ⟨-, A0, r, -, rfl⟩
  · exact ⟨B, r, rfl, rfl, rfl, rfl⟩
  · exact ⟨A0, r, rfl, rfl, rfl, rfl⟩
theorem wait_1 (A : aS) (l : List Int32) : (a_wait A l).1 0 = A.1 0 ∧ (a_wait A l).1 14 = A.1 14 ∧ (a_wait A l).2.2 0 = A.2.2 0 ∧ (a_wait A l).2.2 1 = A.2.2 1 := by
  unfold a_wait
  split
  · exact ⟨rfl, rfl, rfl, rfl⟩
  · split <;> exact ⟨rfl, rfl, rfl, rfl⟩
/-- what is asked by a cause -/
def askC (cause g ctr : Int32) : Prop := (cause = 37 ∧ g = 0 ∧ ctr = 1) ∨ (cause ≠ 37 ∧ ctr = 0 ∧ g = cause - 20)
theorem S_asked {s : eS} {a k : Nat} (ko : KO s 106 a) (hk : k < 7) (e0 : sI s a 0 = nI k) {q : List (List Int32)} {p : Nat} (h0 : pg q p 0 = nI k) (h2 : pg q p 2 = sI s a 2) {cause g ctr : Int32} (hc : askC cause g ctr) : mX6_isAskedBy a cause s = some (if chF q g ctr p = true then 1 else 0, s) := by
  unfold mX6_isAskedBy mX6_isAskedBy_15 mX6_isAskedBy_34 mX6_isAskedBy_35 mX6_isAskedBy_53 mX6_isAskedBy_58 chF
  rw [koI ko, b1S, e0, h0, h2]
  rcases hc with ⟨rfl, rfl, rfl⟩ | ⟨c37, rfl, rfl⟩
  · by_cases c6 : nI k = 6
    · simp [c6, b1S, oZ1]
    · simp [c6, b1S, oZ0, koI ko, e0]
  · by_cases c6 : nI k = 6
    · simp [c6, b1S, oZ0, koI ko, e0, c37]
    · by_cases c20 : cause = 20
      · subst c20
        simp [c6, b1S, oZ1]
      · have n20 : ¬ cause - 20 = 0 := fun z => c20 (sub0.mp z)
        by_cases cg : sI s a 2 = cause - 20
        · simp [c6, c20, c37, b1S, oZ1, koI ko, cg]
        · simp [c6, c20, c37, b1S, oZ0, koI ko, cg, n20]
/-- the place of a POINT by its address -/
theorem S_place {t : Bool} {C : Nat} {s : eS} (h : SH s) {A : aS} (r : RS t C s A) {i : Nat} (hi : i < (A.2.2 0).length) : mX7_atPlace 2 (nI i) s = some (some (pA s ((oL (A.2.2 0)).getD i 0)), s) := by
  have h24 := (rs_d r).2.2.2.1
  unfold mX7_atPlace mX7_atPlace_28
  rw [if_neg (nI_pos (by omega)), gI_2 h, b1S, (rs_p r).1, if_neg (nI_ge hi (by omega)), if_pos (lt_c (c := 24) 24 (by omega)), gP_2_1 h, b1S, b1S, aP_4 h (nIc (by omega) (by omega)), b1S, nI_clamp (by omega), (rs_p r).2.2 i hi]
/-- the ANSWER that is being filled: j POINTS of L are in it -/
def CH (C : Nat) (ctr cause m0 : Int32) (A : aS) (L : List Nat) (j : Nat) (s : eS) (a rr : Nat) : Prop := ∃ s0 s1, PUT C s0 A a rr s1 ∧ ag (xMs a rr) s1 s ∧ MT s a rr (hb (tyF (pg (A.2.2 0) (L.getD 0 0) 0)) m0 cause 0 (A.1 0) ++ (L.take j).flatMap (obP A ctr))
theorem CH_rt {C : Nat} {ctr cause m0 : Int32} {A : aS} {L : List Nat} {j : Nat} {s : eS} {a rr : Nat} (c : CH C ctr cause m0 A L j s a rr) : SH s ∧ MG s a rr ∧ ((a = 16 ∧ rr = 17) ∨ (58 ≤ a ∧ 58 ≤ rr)) ∧ RT C s (a_wait A (hb (tyF (pg (A.2.2 0) (L.getD 0 0) 0)) m0 cause 0 (A.1 0) ++ (L.take j).flatMap (obP A ctr))) := by
  obtain ⟨s0, s1, p, g, m⟩ := c
  exact ⟨SH_ag p.1 g, MG_ag g p.2.2.1, p.2.2.2.2.1, p.2.2.2.2.2.2.2 _ _ g m⟩
theorem xMs_K {a rr : Nat} (alt : (a = 16 ∧ rr = 17) ∨ (58 ≤ a ∧ 58 ≤ rr)) : ∀ b k, xMs a rr b k = true → xK b k = false := fun b k hx => by
  simp [xMs] at hx
  simp
  rcases alt with ⟨c1, c2⟩ | ⟨c1, c2⟩ <;> omega
set_option maxRecDepth 100000 in
/-- one more POINT into the ANSWER -/
theorem S_113 (k10 : Nat → Int32 → Option Nat → Int32 → Int32 → Int32 → eS → Option eS) {C : Nat} (hC : C < 2 ^ 30) {ctr cause m0 : Int32} {A : aS} {L : List Nat} {j : Nat} (hj : j < 6) (hjL : j < L.length) {s : eS} {a rr : Nat} (c : CH C ctr cause m0 A L j s a rr) {p : Nat} (hp : p < (A.2.2 0).length) (ep : L.getD j 0 = p) (hctr : ctr = if pg (A.2.2 0) p 0 = 6 then 1 else 0) (so : Int32) (hso : so = pg (A.2.2 0) p 0) (i : Nat) :
    ∃ s', mX11_answerPoints_113 k10 0 cause (some a) so (nI j) (nI i) (some (pA s p)) s = k10 0 cause (some a) so (nI (j + 1)) (nI (i + 1)) s' ∧ kY s s' ∧ CH C ctr cause (nI (j + 1)) A L (j + 1) s' a rr := by
  obtain ⟨h, gm, alt, rt⟩ := CH_rt c
  obtain ⟨s0, s1, pt, g1, m1⟩ := c
  obtain ⟨A2, r2, y1, -, y2, y3⟩ := RT_rs rt
  obtain ⟨v1, v2, v3, -⟩ := wait_1 A (hb (tyF (pg (A.2.2 0) (L.getD 0 0) 0)) m0 cause 0 (A.1 0) ++ (L.take j).flatMap (obP A ctr))
  rw [v3] at y1; rw [v1] at y2; rw [v2] at y3
  have hp2 : p < (A2.2.2 0).length := by rw [y1]; exact hp
  have ko := ((rs_d r2).1.1 p hp2).2
  obtain ⟨⟨k, hk, e0⟩, ⟨ad, had, e1⟩, hv⟩ := ((rs_p r2).2.1 p hp2).2
  obtain ⟨fz, hfz, ef⟩ := rs_f r2
  have e14 : sI s 0 18 = nI fz := ((rs_i r2).1 14 (by decide) (by decide)).trans ef
  have pgp : ∀ x, pg (A.2.2 0) p x = (ptS s p).getD x 0 := fun x => by rw [← y1]; exact pg_pt (rs_p r2) hp2 x
  have p0 : pg (A.2.2 0) p 0 = nI k := (pgp 0).trans e0
  -- the value that is shown
  have hval : ∀ v, v = (if ctr = 0 then pg (A.2.2 0) p 4 else pg (A.2.2 0) p 6) → ∃ s', mX11_answerPoints_132 k10 0 cause (some a) so (nI j) (nI i) (some (pA s p)) v s = k10 0 cause (some a) so (nI (j + 1)) (nI (i + 1)) s' ∧ kY s s' ∧ CH C ctr cause (nI (j + 1)) A L (j + 1) s' a rr := by
    intro v hv2
    have hvo : vOK (nI k) v := by
      rw [hv2, hctr, p0]
      by_cases c6 : nI k = 6
      · rw [if_pos c6, c6]
        exact ⟨fun z => absurd z (by decide), fun z => absurd z (by decide)⟩
      · rw [if_neg c6, if_pos rfl, pgp 4, ← e0]
        exact hv
    obtain ⟨ox, fo, lo⟩ := S_object ko hk e0 had e1 hvo (f := fz) (by omega) rfl
    have ob8 := (tab7 k hk).2.2
    have l8 := obs_len A ctr (L.take j)
    have lt : (L.take j).length = j := by rw [List.length_take]; omega
    obtain ⟨s2, f2, g2, m2⟩ := S_add gm m1 ox (n := obn k) (by rw [List.length_append, hb_len]; omega)
    have eob : ob (nI k) (nI ad) v (sI s (pA s p) 5) (nI fz) = obP A ctr p := by
      unfold obP
      rw [← hv2, p0, pgp 1, pgp 5, ← y3, ef]
      show _ = ob (nI k) (sI s (pA s p) 1) v (sI s (pA s p) 5) (nI fz)
      rw [e1]
    have el : hb (tyF (pg (A.2.2 0) (L.getD 0 0) 0)) m0 cause 0 (A.1 0) ++ (L.take j).flatMap (obP A ctr) ++ obP A ctr p = hb (tyF (pg (A.2.2 0) (L.getD 0 0) 0)) m0 cause 0 (A.1 0) ++ (L.take (j + 1)).flatMap (obP A ctr) := by
      rw [take_1 L hjL, ep, List.flatMap_append, List.append_assoc]
      simp
    rw [lo, eob, el] at m2
    have h2 := SH_ag h g2
    obtain ⟨f3, m3⟩ := S_replace (MG_ag g2 gm) m2 (i := 1) (by rw [List.length_append, hb_len]; omega) (nI j + 1)
    have g3 : ag (xMs a rr) s (e_I s2 rr 1 (nI j + 1).toInt8.toInt32) := ag_I g2 (by simp [xMs])
    have e255 : (nI j + 1) &&& 255 = nI (j + 1) := by rw [nI_1]; exact by_byte _ (by omega)
    rw [e255] at m3
    refine ⟨_, ?_, kY_ag h g3 (xMs_K alt), s0, s1, pt, ag_tr g1 g3, m3⟩
    have ko2 := KO_ag g2 ko
    have nz := ko_mg ko gm (by decide)
    unfold mX11_answerPoints_132 mX11_answerPoints_164
    rw [gI_0 h, b1S, b1S, koK ko, b1S, e14, fo, b2S, koK ko, b1S, S_objectBytes ko hk e0, b2S, b1S, mgK gm, b1S, f2, b1S, mgK (MG_ag g2 gm), b1S, show mX4_replace a 1 (nI j + 1) s2 = _ from f3, b1S, nI_1, nI_1]
  unfold mX11_answerPoints_113
  subst hso
  by_cases c6 : pg (A.2.2 0) p 0 = 6
  · rw [if_pos c6, b1S, koI ko, b1S]
    exact hval _ (by rw [hctr, if_pos c6, if_neg (by decide), pgp 6]; rfl)
  · rw [if_neg c6, b1S, koI ko, b1S]
    exact hval _ (by rw [hctr, if_neg c6, if_pos rfl, pgp 4]; rfl)
set_option maxRecDepth 100000 in
/-- an ANSWER is begun with a POINT -/
theorem S_70 (k10 : Nat → Int32 → Option Nat → Int32 → Int32 → Int32 → eS → Option eS) {C : Nat} (hC : C < 2 ^ 30) {ctr : Int32} {cn : Nat} (hcn : cn < 256) {A : aS} {L : List Nat} (hjL : 0 < L.length) {s : eS} (h : SH s) (rt : RT C s A) {p : Nat} (hp : p < (A.2.2 0).length) (ep : L.getD 0 0 = p) (hctr : ctr = if pg (A.2.2 0) p 0 = 6 then 1 else 0) (i : Nat) :
    ∃ a rr s', mX11_answerPoints_70 k10 0 (nI cn) (nI i) (some (pA s p)) s = k10 0 (nI cn) (some a) (pg (A.2.2 0) p 0) (nI 1) (nI (i + 1)) s' ∧ kY s s' ∧ CH C ctr (nI cn) (nI 1) A L 1 s' a rr := by
  obtain ⟨a, rr, s1, f1, pt⟩ := S_put h rt
  have h1 := pt.1
  have gm := pt.2.2.1
  obtain ⟨A2, r2, y1, y2, y3⟩ := pt.2.2.2.2.2.2.1
  have hp2 : p < (A2.2.2 0).length := by rw [y1]; exact hp
  have ko := ((rs_d r2).1.1 p hp2).2
  have epa := pt.2.2.2.2.2.1.1 p
  obtain ⟨⟨k, hk, e0⟩, -, -⟩ := ((rs_p r2).2.1 p hp2).2
  obtain ⟨x0, hx0, es⟩ := (rs_m r2).2.2.2.1
  have e00 : sI s1 1 0 = A2.1 0 := (rs_i r2).1 0 (by decide) (by decide)
  have p0 : pg (A.2.2 0) p 0 = nI k := by rw [← y1, pg_pt (rs_p r2) hp2]; exact e0
  have hhd := head_nat (ty := tyN k) (cause := cn) (by_ := 0) (st := x0) (tab9 k hk).2.2 hcn (by omega) (by omega)
  obtain ⟨s2, f2, g2, m2⟩ := S_add gm pt.2.2.2.1 (((((nI (tyN k) ||| (256 : Int32)) ||| (nI cn <<< ((16 : Int32) &&& 31)))).toInt64 ||| ((nI 0).toInt64 <<< ((24 : Int32).toInt64 &&& 63))) ||| ((nI x0).toInt64 <<< ((32 : Int32).toInt64 &&& 63))) (n := 6) (by simp)
  rw [List.nil_append, hhd] at m2
  have h2 := SH_ag h1 g2
  have nz := ko_mg ko gm (by decide)
  have k2 := put_k pt g2
  have ch : CH C ctr (nI cn) 1 A L 0 s2 a rr := by
    refine ⟨s, s1, pt, g2, ?_⟩
    rw [List.take_zero, ep, p0, (tab9 k hk).2.1, ← y2, ← e00, es]
    show MT s2 a rr (hb (nI (tyN k)) 1 (nI cn) 0 (nI x0) ++ [])
    rw [List.append_nil]
    exact m2
  have ep2 : pA s2 p = pA s p := k2.1.2.1 p
  have ep1 : pA s2 p = pA s1 p := ep2.trans epa.symm
  obtain ⟨s3, f3, k3, c3⟩ := S_113 k10 hC (by omega) hjL ch hp ep hctr (pg (A.2.2 0) p 0) rfl i
  refine ⟨a, rr, s3, ?_, kY_tr k2.1 k3, c3⟩
  have e02 : sI s2 (pA s p) 0 = nI k := by
    rw [← epa, g2.2 _ _ (by simp [xMs, nz.1, nz.2])]; exact e0
  have kos : KO s1 106 (pA s p) := by rw [← epa]; exact ko
  have e0s : sI s1 (pA s p) 0 = nI k := by rw [← epa]; exact e0
  unfold mX11_answerPoints_70 mX11_objectHead
  rw [gP_0_7 h, b1S, b1S, oK_14 h, b1S, f1, b2S, b1S, koI kos, b1S, e0s, (tab9 k hk).1, b1S, gP_0_0 h1, b1S, b1S, aI_1 h1 (by decide), b1S, show (0 : Int32).toNatClampNeg = 0 from rfl, es, b2S, b1S, mgK gm, b1S, show (6 : Int32) = nI 6 from rfl, show (0 : Int32) = nI 0 from rfl, f2, b1S, koI (KO_ag g2 kos), b1S, e02, ← p0, ← ep2, f3]
theorem objs_closed (ctr cause : Int32) (e : Nat) {A : aS} (h : A.1 7 = 0) (L : List Nat) : a_objs ctr cause e A L = A := by
  cases e with
  | zero => rfl
  | succ e =>
    unfold a_objs
    by_cases c : L.length = 0
    · rw [if_pos c]
    · rw [if_neg c, if_pos h]
theorem objs_nil (ctr cause : Int32) (e : Nat) (A : aS) : a_objs ctr cause e A [] = A := by
  cases e with
  | zero => rfl
  | succ e => unfold a_objs; exact if_pos rfl
theorem objs_step (ctr cause : Int32) (e : Nat) (A : aS) {L : List Nat} (h : L.length ≠ 0) : a_objs ctr cause (e + 1) A L = a_objs ctr cause e (a_wait A (bsO A ctr cause L)) (L.drop (ckF (A.2.2 0) L)) := by
  by_cases c : A.1 7 = 0
  · have : a_wait A (bsO A ctr cause L) = A := by unfold a_wait; rw [if_pos c]
    rw [this, objs_closed ctr cause _ c, objs_closed ctr cause _ c]
  · conv => lhs; unfold a_objs
    rw [if_neg h, if_neg c]
theorem chF_ctr {q : List (List Int32)} {g ctr : Int32} {p : Nat} (h : chF q g ctr p = true) : ctr = if pg q p 0 = 6 then 1 else 0 := by
  unfold chF at h
  rw [Bool.and_eq_true] at h
  exact (of_decide_eq_true h.1).symm
set_option maxRecDepth 100000 in
theorem S_points_loop {C : Nat} (hC : C < 2 ^ 30) {cn : Nat} (hcn : cn < 256) {g ctr : Int32} (ask : askC (nI cn) g ctr) (q : List (List Int32)) (hq : q.length ≤ 24) : ∀ (d i m e j : Nat) (s : eS) (A : aS) (L : List Nat) (pr2 : Option Nat) (pi3 pi4 : Int32), i + d = q.length → d < m → A.2.2 0 = q → ((oL q).drop i).filter (chF q g ctr) = L.drop j → L.length ≤ e →
    ((j = 0 ∧ pr2 = none ∧ SH s ∧ RT C s A) ∨ (1 ≤ j ∧ j ≤ ckF q L ∧ 0 < L.length ∧ (∃ a rr, pr2 = some a ∧ CH C ctr (nI cn) (nI j) A L j s a rr) ∧ pi3 = pg q (L.getD 0 0) 0 ∧ pi4 = nI j)) →
    ∃ s', mX11_answerPoints_10 m 0 (nI cn) pr2 pi3 pi4 (nI i) s = some s' ∧ kY s s' ∧ RT C s' (a_objs ctr (nI cn) e A L) := by
  intro d
  induction d with
  | zero =>
    intro i m e j s A L pr2 pi3 pi4 hi hm hA hrem he alt
    obtain ⟨m, rfl⟩ : ∃ q, m = q + 1 := ⟨m - 1, by omega⟩
    have hnil : L.drop j = [] := by
      rw [← hrem, List.drop_eq_nil_of_le (by rw [oL_len]; omega)]; rfl
    have hlen : L.length ≤ j := List.drop_eq_nil_iff.mp hnil
    have stop : SH s → ∀ B, RT C s B → B.2.2 0 = q → mX11_answerPoints_10 (m + 1) 0 (nI cn) pr2 pi3 pi4 (nI i) s = some s := fun h B rt hB => by
      obtain ⟨A2, r2, y1, -⟩ := RT_rs rt
      have e22 := (rs_p r2).1
      rw [y1, hB] at e22
      unfold mX11_answerPoints_10
      rw [gP_0_1 h, b1S, b1S, gI_2 h, b1S, e22, if_pos (nI_le (by omega) (by omega))]
    rcases alt with ⟨rfl, rfl, h, rt⟩ | ⟨j1, jc, hL, ⟨a, rr, rfl, ch⟩, -, -⟩
    · have hL : L = [] := List.eq_nil_of_length_eq_zero (by omega)
      subst hL
      rw [objs_nil]
      exact ⟨s, stop h A rt hA, kY_rf h, rt⟩
    · obtain ⟨h, -, -, rt⟩ := CH_rt ch
      have hck := ckF_in q hL
      have ej : ckF q L = j := by omega
      obtain ⟨e, rfl⟩ : ∃ q, e = q + 1 := ⟨e - 1, by omega⟩
      rw [objs_step _ _ _ _ (by omega), hA, ej, hnil, objs_nil]
      have eb : bsO A ctr (nI cn) L = hb (tyF (pg (A.2.2 0) (L.getD 0 0) 0)) (nI j) (nI cn) 0 (A.1 0) ++ (L.take j).flatMap (obP A ctr) := by unfold bsO; rw [hA, ej]
      rw [eb]
      exact ⟨s, stop h _ rt ((wait_1 _ _).2.2.1.trans hA), kY_rf h, rt⟩
  | succ d ih =>
    intro i m e j s A L pr2 pi3 pi4 hi hm hA hrem he alt
    obtain ⟨m, rfl⟩ : ∃ q, m = q + 1 := ⟨m - 1, by omega⟩
    have hiq : i < (oL q).length := by rw [oL_len]; omega
    -- what the store holds
    obtain ⟨h, B, rtB, hB⟩ : SH s ∧ ∃ B, RT C s B ∧ B.2.2 0 = q := by
      rcases alt with ⟨-, -, h, rt⟩ | ⟨-, -, -, ⟨a, rr, -, ch⟩, -, -⟩
      · exact ⟨h, A, rt, hA⟩
      · obtain ⟨h, -, -, rt⟩ := CH_rt ch
        exact ⟨h, _, rt, (wait_1 _ _).2.2.1.trans hA⟩
    obtain ⟨A2, r2, y1, -⟩ := RT_rs rtB
    have y1' : A2.2.2 0 = q := y1.trans hB
    have e22 := (rs_p r2).1
    rw [y1'] at e22
    have hpl := S_place h r2 (i := i) (by rw [y1']; omega)
    rw [y1'] at hpl
    have hp : (oL q).getD i 0 < q.length := oL_lt (by rw [List.getD_eq_getElem?_getD, List.getElem?_eq_getElem hiq]; exact List.getElem_mem hiq)
    have hdrop : (oL q).drop i = (oL q).getD i 0 :: (oL q).drop (i + 1) := by
      rw [List.drop_eq_getElem_cons hiq, List.getD_eq_getElem?_getD, List.getElem?_eq_getElem hiq]; rfl
    generalize (oL q).getD i 0 = p at *
    have hp2 : p < (A2.2.2 0).length := by rw [y1']; exact hp
    have ko := ((rs_d r2).1.1 p hp2).2
    obtain ⟨⟨k, hk, e0⟩, -, -⟩ := ((rs_p r2).2.1 p hp2).2
    have p0 : pg q p 0 = sI s (pA s p) 0 := by rw [← y1', pg_pt (rs_p r2) hp2]; rfl
    have p2 : pg q p 2 = sI s (pA s p) 2 := by rw [← y1', pg_pt (rs_p r2) hp2]; rfl
    have hask := S_asked ko hk e0 (p0.trans e0) p2 ask
    have head : mX11_answerPoints_10 (m + 1) 0 (nI cn) pr2 pi3 pi4 (nI i) s = (if (if chF q g ctr p = true then (1 : Int32) else 0) = 0 then (mX11_answerPoints_164 (mX11_answerPoints_10 m) 0 (nI cn) pr2 pi3 pi4 (nI i) s) else (if pr2 = none then (mX11_answerPoints_70 (mX11_answerPoints_10 m) 0 (nI cn) (nI i) (some (pA s p)) s) else (if pg q p 0 = pi3 then (if pi4 < (6 : Int32) then (mX11_answerPoints_113 (mX11_answerPoints_10 m) 0 (nI cn) pr2 pi3 pi4 (nI i) (some (pA s p)) s) else (mX11_answerPoints_70 (mX11_answerPoints_10 m) 0 (nI cn) (nI i) (some (pA s p)) s)) else (mX11_answerPoints_70 (mX11_answerPoints_10 m) 0 (nI cn) (nI i) (some (pA s p)) s)))) := by
      conv => lhs; unfold mX11_answerPoints_10
      rw [gP_0_1 h, b1S, b1S, gI_2 h, b1S, e22, if_neg (nI_ge (by omega) (by omega)), b1S, b1S, oK_2 h, b1S, hpl, b2S, if_neg (by simp), b1S, koK ko, b1S, hask, b2S, koI ko, b1S, ← p0]
    rw [head]
    rw [hdrop] at hrem
    by_cases ca : chF q g ctr p = true
    · rw [if_pos ca, if_neg (by decide)]
      rw [List.filter_cons_of_pos ca] at hrem
      have hjL : j < L.length := by
        have := congrArg List.length hrem
        rw [List.length_cons, List.length_drop] at this
        omega
      have hLj : L.getD j 0 = p := by
        have h2 := List.drop_eq_getElem_cons hjL
        rw [h2] at hrem
        rw [List.getD_eq_getElem?_getD, List.getElem?_eq_getElem hjL]
        exact (List.cons.inj hrem).1.symm
      have hnext : ((oL q).drop (i + 1)).filter (chF q g ctr) = L.drop (j + 1) := by
        have h2 := List.drop_eq_getElem_cons hjL
        rw [h2] at hrem
        exact (List.cons.inj hrem).2
      have hctr := chF_ctr ca
      -- a new ANSWER
      have anew : ∀ (A' : aS) (L' : List Nat) (e' : Nat), A'.2.2 0 = q → RT C s A' → 0 < L'.length → L'.getD 0 0 = p → ((oL q).drop (i + 1)).filter (chF q g ctr) = L'.drop 1 → L'.length ≤ e' → ∃ s', mX11_answerPoints_70 (mX11_answerPoints_10 m) 0 (nI cn) (nI i) (some (pA s p)) s = some s' ∧ kY s s' ∧ RT C s' (a_objs ctr (nI cn) e' A' L') := by
        intro A' L' e' hA' rt' hL' hp' hn' he'
        obtain ⟨a, rr, s1, f1, k1, c1⟩ := S_70 (ctr := ctr) (mX11_answerPoints_10 m) hC hcn hL' h rt' (p := p) (by rw [hA']; exact hp) hp' (by rw [hA']; exact hctr) i
        obtain ⟨s2, f2, k2, r3⟩ := ih (i + 1) m e' 1 s1 A' L' (some a) (pg (A'.2.2 0) p 0) (nI 1) (by omega) (by omega) hA' hn' he' (Or.inr ⟨Nat.le_refl _, (ckF_in q hL').1, hL', ⟨a, rr, rfl, c1⟩, by rw [hA', hp'], rfl⟩)
        exact ⟨s2, f1.trans f2, kY_tr k1 k2, r3⟩
      rcases alt with ⟨rfl, rfl, -, rt⟩ | ⟨j1, jc, hL, ⟨a, rr, rfl, ch⟩, rfl, rfl⟩
      · rw [if_pos rfl]
        exact anew A L e hA rt hjL hLj hnext he
      · rw [if_neg (by simp)]
        have hck := ckF_in q hL
        have hcn2 := cnt_next (ckP q L) 5 1 j j1 jc
        -- the ANSWER is full
        have full : ckF q L = j → ∃ s', mX11_answerPoints_70 (mX11_answerPoints_10 m) 0 (nI cn) (nI i) (some (pA s p)) s = some s' ∧ kY s s' ∧ RT C s' (a_objs ctr (nI cn) e A L) := by
          intro ej
          obtain ⟨e, rfl⟩ : ∃ q, e = q + 1 := ⟨e - 1, by omega⟩
          rw [objs_step _ _ _ _ (by omega), hA, ej]
          have eb : bsO A ctr (nI cn) L = hb (tyF (pg (A.2.2 0) (L.getD 0 0) 0)) (nI j) (nI cn) 0 (A.1 0) ++ (L.take j).flatMap (obP A ctr) := by unfold bsO; rw [hA, ej]
          obtain ⟨-, -, -, rt⟩ := CH_rt ch
          rw [← eb] at rt
          refine anew _ (L.drop j) e ((wait_1 _ _).2.2.1.trans hA) rt (by rw [List.length_drop]; omega) ?_ ?_ (by rw [List.length_drop]; omega)
          · rw [List.getD_eq_getElem?_getD, List.getElem?_drop, Nat.add_zero, ← List.getD_eq_getElem?_getD]; exact hLj
          · rw [List.drop_drop]; exact hnext
        by_cases cs : pg q p 0 = pg q (L.getD 0 0) 0
        · rw [if_pos cs]
          by_cases c6 : j < 6
          · rw [if_pos (lt_c (c := 6) 6 c6)]
            obtain ⟨s1, f1, k1, c1⟩ := S_113 (mX11_answerPoints_10 m) hC c6 hjL ch (p := p) (by rw [hA]; exact hp) hLj (by rw [hA]; exact hctr) (pg q (L.getD 0 0) 0) (by rw [hA]; exact cs.symm) i
            have hnx : j + 1 ≤ ckF q L := hcn2.1 ⟨by omega, by
              unfold ckP
              rw [decide_eq_true hjL, hLj, decide_eq_true cs]; rfl⟩
            obtain ⟨s2, f2, k2, r3⟩ := ih (i + 1) m e (j + 1) s1 A L (some a) (pg q (L.getD 0 0) 0) (nI (j + 1)) (by omega) (by omega) hA hnext he (Or.inr ⟨by omega, hnx, hL, ⟨a, rr, rfl, c1⟩, rfl, rfl⟩)
            exact ⟨s2, f1.trans f2, kY_tr k1 k2, r3⟩
          · rw [if_neg (nlt_c (c := 6) 6 (by omega))]
            exact full (hcn2.2 (Or.inl (by omega)))
        · rw [if_neg cs]
          exact full (hcn2.2 (Or.inr (by
            unfold ckP
            rw [hLj, decide_eq_false cs, Bool.and_false])))
    · rw [if_neg ca, if_pos rfl]
      rw [List.filter_cons_of_neg ca] at hrem
      unfold mX11_answerPoints_164
      rw [nI_1]
      exact ih (i + 1) m e j s A L pr2 pi3 pi4 (by omega) (by omega) hA hrem he alt
theorem S_points {C : Nat} (hC : C < 2 ^ 30) {cn : Nat} (hcn : cn < 256) {g ctr : Int32} (ask : askC (nI cn) g ctr) {s : eS} (h : SH s) {A : aS} (w4 : W4 A) (r : RT C s A) : ∃ s', mX11_answerPoints 0 (nI cn) s = some s' ∧ kY s s' ∧ RT C s' (a_objs ctr (nI cn) 24 A (ordL (A.2.2 0) g ctr)) := by
  obtain ⟨A2, r2, y1, -⟩ := RT_rs r
  have h24 := (rs_d r2).2.2.2.1
  rw [y1] at h24
  unfold mX11_answerPoints
  exact S_points_loop hC hcn ask (A.2.2 0) h24 (A.2.2 0).length 0 100000 24 0 s A _ none (-1) 0 (by omega) (by omega) rfl (by rw [List.drop_zero, List.drop_zero, ord_filter w4]) (Nat.le_trans (ordL_len _ _ _) h24) (Or.inl ⟨rfl, rfl, h, r⟩)
