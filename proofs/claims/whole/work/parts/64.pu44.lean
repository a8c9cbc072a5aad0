/-! ===== ANSWERS ===== -/
def kY (s s' : eS) : Prop := kS s s' ∧ (∀ p, pA s' p = pA s p) ∧ ∀ c, cA s' c = cA s c
theorem kY_rf {s : eS} (h : SH s) : kY s s := ⟨kS_rf h, fun _ => rfl, fun _ => rfl⟩
theorem kY_tr {s s' s'' : eS} (h : kY s s') (h2 : kY s' s'') : kY s s'' := ⟨kS_tr h.1 h2.1, fun p => (h2.2.1 p).trans (h.2.1 p), fun p => (h2.2.2 p).trans (h.2.2 p)⟩
theorem kY_ag {X : Nat → Nat → Bool} {s s' : eS} (h : SH s) (g : ag X s s') (hX : ∀ a k, X a k = true → xK a k = false) : kY s s' := ⟨kS_ag h g hX, pA_ag g, cA_ag g⟩
theorem RT_flag {C : Nat} {s : eS} {A : aS} (r : RT C s A) : (sI s 14 4 = 0 ∧ A.1 7 ≠ 0) ∨ (sI s 14 4 = 1 ∧ A.1 7 = 0) := by
  rcases r with ⟨a, -, b⟩ | ⟨a, A0, -, -, rfl⟩
  · exact Or.inl ⟨a, b⟩
  · exact Or.inr ⟨a, rfl⟩
theorem and255 {x : Int32} (h : uI x < 256) : x &&& 255 = x := by
  rw [pk_and x 8 rfl]
  show nI (uI x % 256) = x
  rw [Nat.mod_eq_of_lt h, nI_uI]
theorem put_k {C : Nat} {s s' s'' : eS} {A : aS} {a rr : Nat} (p : PUT C s A a rr s') (g : ag (xMs a rr) s' s'') : kY s s'' ∧ SH s'' := by
  obtain ⟨h', k, gm, m, alt, hp, -, -⟩ := p
  have k2 : kY s' s'' := kY_ag h' g (fun b j hx => by
    simp [xMs] at hx
    simp
    rcases alt with ⟨c1, c2⟩ | ⟨c1, c2⟩ <;> omega)
  exact ⟨kY_tr ⟨k, hp⟩ k2, k2.1.1⟩
theorem put_ne {C : Nat} {s s' : eS} {A : aS} {a rr : Nat} (p : PUT C s A a rr s') : a ≠ 19 ∧ rr ≠ 20 ∧ a ≠ 20 ∧ rr ≠ 19 := by
  rcases p.2.2.2.2.1 with ⟨c1, c2⟩ | ⟨c1, c2⟩ <;> omega
set_option maxRecDepth 100000 in
theorem S_same {C : Nat} {s : eS} (h : SH s) {A : aS} (r : RT C s A) {F : List Int32} (f : FS s F) (hn : 3 ≤ (rb F).length) {cause den cau : Int32} (hc : cause ||| (if den = 0 then 0 else 64) = cau) (h8 : uI cau < 256) :
    ∃ s', mX11_answerSame 0 cau s = some (if (a_same A F cause den).1 7 = 0 then 0 else 1, s') ∧ kY s s' ∧ RT C s' (a_same A F cause den) := by
  obtain ⟨a, rr, s1, f1, pt⟩ := S_put h r
  have nn := put_ne pt
  have h1 := pt.1
  have k1 := pt.2.1
  have gm := pt.2.2.1
  have fs1 := FS_k k1 f
  obtain ⟨s2, f2, g2, m2⟩ := S_copy gm (MG_19 h1) nn.1 nn.2.1 fs1.2
  have h2 := SH_ag h1 g2
  have m19 : MT s2 19 20 (rb F) := MT_ag g2 fs1.2 (by simp [xMs]; omega) (fun k => by simp [xMs]; omega)
  obtain ⟨f3, m3⟩ := S_replace (MG_ag g2 gm) m2 (i := 2) (by omega) (cau ||| ((rb F).getD 2 0 &&& 128))
  have g3 : ag (xMs a rr) s1 (e_I s2 rr 2 (cau ||| ((rb F).getD 2 0 &&& 128)).toInt8.toInt32) := ag_I g2 (by simp [xMs])
  have ea : (cau ||| ((rb F).getD 2 0 &&& 128)) &&& 255 = cau ||| ((rb F).getD 2 0 &&& 128) := and255 (by
    rw [uI_or]
    refine or_lt8 h8 (Nat.lt_of_le_of_lt (uI_le_of_and (m := 128) 128 rfl) (by omega)))
  rw [ea] at m3
  have r3 := pt.2.2.2.2.2.2.2 _ _ g3 m3
  have ew : a_wait A ((rb F).set 2 (cau ||| ((rb F).getD 2 0 &&& 128))) = a_same A F cause den := by unfold a_same; rw [hc]
  rw [ew] at r3
  have k3 := put_k pt g3
  refine ⟨_, ?_, k3.1, r3⟩
  unfold mX11_answerSame mX11_answerSame_56
  rw [gP_0_7 h, b1S, b1S, oK_14 h, b1S, f1, b2S, gP_0_8 h1, b1S, b1S, gP_18_0 h1, b1S, b1S, mgK gm, b1S, f2, b1S, gP_0_8 h2, b1S, b1S, gP_18_0 h2, b1S, b1S, oK_19 h2, b1S, show (2 : Int32) = nI 2 from rfl, S_at (MG_19 h2) m19 (by omega), b2S, mgK (MG_ag g2 gm), b1S, f3, b1S, gP_0_7 k3.2, b1S, b1S, gI_14 k3.2, b1S]
  rcases RT_flag r3 with ⟨c1, c2⟩ | ⟨c1, c2⟩
  · rw [c1, if_pos rfl, if_neg c2, oZ1, b1S]
  · rw [c1, if_neg (by decide), if_pos c2, oZ0, b1S]
theorem S_object {s : eS} {a k ad f : Nat} (g : KO s 106 a) (hk : k < 7) (e0 : sI s a 0 = nI k) (had : ad < 2 ^ 24) (e1 : sI s a 1 = nI ad) {v fr : Int32} (hv : vOK (nI k) v) (hf : f < 2 ^ 31) (ef : fr = nI f) : ∃ x, mX6_object a v fr s = some (x, s) ∧ lb x (obn k) = ob (nI k) (nI ad) v (sI s a 5) fr := by
  refine ⟨_, ?_, ob_all hk had v (sI s a 5) fr hv (fun _ => ⟨f, hf, ef⟩)⟩
  have t68 : ∀ y, mX6_object_68 a v y s = some ((nI ad).toInt64 ||| (((v.toInt64 &&& msk k) ||| ((y).toInt64 <<< (((8 : Int32) * nI (vbn k)).toInt64 &&& 63))) <<< ((24 : Int32).toInt64 &&& 63)), s) := fun y => by
    unfold mX6_object_68
    rw [koI g, b1S, e0, tab6 k hk, b1S, b1S, (tab7 k hk).1, b1S, koI g, b1S, e1]
  unfold mX6_object mX6_object_52 lastS
  rw [koI g, b1S, koI g, b1S, e0]
  by_cases c6 : nI k = 6
  · rw [if_pos c6, if_pos c6, b1S, t68]
  · rw [if_neg c6, if_neg c6, b1S]
    by_cases c0 : nI k = 0
    · rw [if_pos c0, if_pos c0, t68]
    · rw [if_neg c0, if_neg c0, b1S]
      by_cases c1 : nI k = 1
      · rw [if_pos c1, if_pos c1, t68]
      · rw [if_neg c1, if_neg c1, b1S, t68]
set_option maxRecDepth 100000 in
theorem S_obj {C : Nat} (hC : C < 2 ^ 30) {s : eS} (h : SH s) {A : aS} (r : RT C s A) {F : List Int32} (f : FS s F) (bf : byF F) {p : Nat} (hp : p < (A.2.2 0).length) {c : Nat} (hc : c < 256) :
    ∃ s', mX11_answerObject 0 (some (pA s p)) (nI c) s = some s' ∧ kY s s' ∧ RT C s' (a_obj A p (nI c) ((rb F).getD 3 0)) := by
  obtain ⟨a, rr, s1, f1, pt⟩ := S_put h r
  have h1 := pt.1
  have k1 := pt.2.1
  have gm := pt.2.2.1
  have fs1 := FS_k k1 f
  obtain ⟨A2, r2, y1, y2, y3⟩ := pt.2.2.2.2.2.2.1
  have hp2 : p < (A2.2.2 0).length := by rw [y1]; exact hp
  have ko := ((rs_d r2).1.1 p hp2).2
  have ep := pt.2.2.2.2.2.1.1 p
  obtain ⟨⟨k, hk, e0⟩, ⟨ad, had, e1⟩, hv⟩ := ((rs_p r2).2.1 p hp2).2
  obtain ⟨x0, hx0, es⟩ := (rs_m r2).2.2.2.1
  obtain ⟨fz, hfz, ef⟩ := rs_f r2
  have e14 : sI s1 0 18 = A2.1 14 := (rs_i r2).1 14 (by decide) (by decide)
  have e00 : sI s1 1 0 = A2.1 0 := (rs_i r2).1 0 (by decide) (by decide)
  obtain ⟨ob3, hob, eob⟩ := bf 9
  have eo : (rb F).getD 3 0 = nI ob3 := by rw [← eob]; unfold rb; rw [gD, gD, List.getElem?_drop]
  rw [ep] at ko e0 e1 hv
  -- the head
  have hhd := head_nat (ty := tyN k) (cause := c) (by_ := ob3) (st := x0) (tab9 k hk).2.2 hc hob (by omega)
  obtain ⟨s2, f2, g2, m2⟩ := S_add gm pt.2.2.2.1 (((((nI (tyN k) ||| (256 : Int32)) ||| (nI c <<< ((16 : Int32) &&& 31)))).toInt64 ||| ((nI ob3).toInt64 <<< ((24 : Int32).toInt64 &&& 63))) ||| ((nI x0).toInt64 <<< ((32 : Int32).toInt64 &&& 63))) (n := 6) (by simp)
  rw [List.nil_append, hhd] at m2
  have h2 := SH_ag h1 g2
  have ko2 := KO_ag g2 ko
  have nz := ko_mg ko gm (by decide)
  have same : ∀ j, sI s2 (pA s p) j = sI s1 (pA s p) j := fun j => g2.2 _ _ (by simp [xMs, nz.1, nz.2])
  have e14' : sI s2 0 18 = nI fz := by
    rw [g2.2 0 18 (by rcases pt.2.2.2.2.1 with ⟨c1, c2⟩ | ⟨c1, c2⟩ <;> simp [xMs] <;> omega), e14, ef]
  have hf2 : fz < 2 ^ 31 := by omega
  obtain ⟨ox, fo, lo⟩ := S_object ko2 hk ((same 0).trans e0) had ((same 1).trans e1) (v := sI s1 (pA s p) 4) (by rw [← e0]; exact hv) hf2 rfl
  have ob8 := (tab7 k hk).2.2
  obtain ⟨s3, f3, g3, m3⟩ := S_add (MG_ag g2 gm) m2 ox (n := obn k) (by rw [hb_len]; omega)
  rw [lo, same 5] at m3
  have r3 := pt.2.2.2.2.2.2.2 _ _ (ag_tr g2 g3) m3
  have ew : a_wait A (hb (nI (tyN k)) 1 (nI c) (nI ob3) (nI x0) ++ ob (nI k) (nI ad) (sI s1 (pA s p) 4) (sI s1 (pA s p) 5) (nI fz)) = a_obj A p (nI c) ((rb F).getD 3 0) := by
    unfold a_obj
    rw [eo, ← y2, ← y3, ← y1, pg_pt (rs_p r2) hp2, pg_pt (rs_p r2) hp2, pg_pt (rs_p r2) hp2, pg_pt (rs_p r2) hp2, ← e00, es, ef]
    show _ = a_wait A (hb (tyF (sI s1 (pA s1 p) 0)) 1 (nI c) (nI ob3) (nI x0) ++ ob (sI s1 (pA s1 p) 0) (sI s1 (pA s1 p) 1) (sI s1 (pA s1 p) 4) (sI s1 (pA s1 p) 5) (nI fz))
    rw [ep, e0, e1, (tab9 k hk).2.1]
  rw [ew] at r3
  refine ⟨s3, ?_, (put_k pt (ag_tr g2 g3)).1, r3⟩
  unfold mX11_answerObject mX11_objectHead
  rw [gP_0_7 h, b1S, b1S, oK_14 h, b1S, f1, b2S, b1S, koI ko, b1S, e0, (tab9 k hk).1, b1S, gP_0_8 h1, b1S, b1S, oK_18 h1, b1S, S_orig h1 fs1, b2S, gP_0_0 h1, b1S, b1S, aI_1 h1 (by decide), b1S, show (0 : Int32).toNatClampNeg = 0 from rfl, es, b2S, b1S, mgK gm, b1S, eo, show (6 : Int32) = nI 6 from rfl, f2, b1S, koI ko2, b1S, gI_0 h2, b1S, koK ko2, b1S, same 4, e14', fo, b2S, koK ko2, b1S, S_objectBytes ko2 hk ((same 0).trans e0), b2S, mgK (MG_ag g2 gm), b1S, f3, b1S]
/-! ===== look-ups by address ===== -/
theorem gDx {q : List (List Int32)} {i : Nat} (h : i < q.length) : q.getD i [] = q[i] := by
  rw [List.getD_eq_getElem?_getD, List.getElem?_eq_getElem h]; rfl
theorem ix_at {q : List (List Int32)} {x : Int32} (h : ixF q 1 x < q.length) : pg q (ixF q 1 x) 1 = x := by
  have hx := List.findIdx_getElem (p := fun e : List Int32 => e.getD 1 0 == x) (xs := q) (w := h)
  unfold pg
  rw [gDx h]
  exact eq_of_beq hx
theorem ix_ne {q : List (List Int32)} {x : Int32} {i : Nat} (h : i < ixF q 1 x) : ¬ pg q i 1 = x := by
  have hl := ixF_le q 1 x
  have := List.not_of_lt_findIdx (p := fun e : List Int32 => e.getD 1 0 == x) (xs := q) (i := i) h
  intro z
  unfold pg at z
  have hi : i < q.length := by omega
  rw [gDx hi] at z
  have z' : (q[i]).getD 1 0 = x := z
  rw [beq_iff_eq.mpr z'] at this
  cases this
theorem S_withAddr {t : Bool} {C : Nat} {s : eS} (h : SH s) {A : aS} (r : RS t C s A) (x : Int32) : mX7_withAddress 2 x s = some (if ixF (A.2.2 0) 1 x = (A.2.2 0).length then none else some (pA s (ixF (A.2.2 0) 1 x)), s) := by
  have d := (rs_d r).1
  have h24 := (rs_d r).2.2.2.1
  have sp := rs_p r
  have hle := ixF_le (A.2.2 0) 1 x
  have srch : ∀ (d i m : Nat), i + d = ixF (A.2.2 0) 1 x → d < m → mX7_withAddress_2 m 2 x (nI i) s = some (if ixF (A.2.2 0) 1 x = (A.2.2 0).length then none else some (pA s (ixF (A.2.2 0) 1 x)), s) := by
    intro dd
    induction dd with
    | zero =>
      intro i m hi hm
      obtain ⟨m, rfl⟩ : ∃ q, m = q + 1 := ⟨m - 1, by omega⟩
      rw [Nat.add_zero] at hi
      unfold mX7_withAddress_2 mX7_withAddress_43
      rw [gI_2 h, b1S, sp.1]
      by_cases c : ixF (A.2.2 0) 1 x = (A.2.2 0).length
      · rw [if_pos c, if_pos (nI_le (by omega) (by omega))]
      · have hlt : i < (A.2.2 0).length := by omega
        have dd := d.1 i hlt
        have ea : sI s (pA s i) 1 = x := by
          have := ix_at (show ixF (A.2.2 0) 1 x < (A.2.2 0).length by omega)
          rw [← hi, pg_pt sp hlt] at this
          exact this
        rw [if_neg c, if_neg (nI_ge hlt (by omega)), if_neg (c_nle (c := 24) 24 (by omega)), gP_2_0 h, b1S, b1S, aP_3 h (nIc (by omega) (by omega)), b1S, nI_clamp (by omega), dd.1, if_neg (by simp), b1S, koI dd.2, b1S, ea, if_pos rfl, hi]
    | succ dd ih =>
      intro i m hi hm
      obtain ⟨m, rfl⟩ : ∃ q, m = q + 1 := ⟨m - 1, by omega⟩
      have hlt : i < (A.2.2 0).length := by omega
      have d1 := d.1 i hlt
      have ea : ¬ sI s (pA s i) 1 = x := by
        have := ix_ne (q := A.2.2 0) (x := x) (i := i) (by omega)
        rw [pg_pt sp hlt] at this
        exact this
      unfold mX7_withAddress_2 mX7_withAddress_37
      rw [gI_2 h, b1S, sp.1, if_neg (nI_ge hlt (by omega)), if_neg (c_nle (c := 24) 24 (by omega)), gP_2_0 h, b1S, b1S, aP_3 h (nIc (by omega) (by omega)), b1S, nI_clamp (by omega), d1.1, if_neg (by simp), b1S, koI d1.2, b1S, if_neg ea, nI_1]
      exact ih (i + 1) m (by omega) (by omega)
  unfold mX7_withAddress
  exact srch (ixF (A.2.2 0) 1 x) 0 100000 (by omega) (by omega)
theorem pg_cm {s : eS} {n : Nat} {q : List (List Int32)} (x : SC s n q) {c : Nat} (hc : c < q.length) : ∃ k : Nat, k < 3 ∧ pg q c 0 = nI k ∧ sI s (cA s c) 0 = nI k ∧ pg q c 1 = sI s (cA s c) 1 ∧ pg q c 3 = sI s (cA s c) 3 ∧ pg q c 4 = sI s (cA s c) 4 ∧ ((pg q c 2 = -1 ∧ sP s (cA s c) 2 = none) ∨ ∃ p, p < n ∧ pg q c 2 = nI p ∧ sP s (cA s c) 2 = some (pA s p) ∧ sI s (pA s p) 0 = nI ([0, 1, 4].getD k 0)) := by
  obtain ⟨k, pt, h1, h2, h3, h4⟩ := x.2.1 c hc
  unfold pg
  rw [h2]
  exact ⟨k, h1, rfl, h3, rfl, rfl, rfl, h4⟩
theorem S_cmdWith {t : Bool} {C : Nat} {s : eS} (h : SH s) {A : aS} (r : RS t C s A) (x : Int32) : mX11_commandWith 0 x s = some (if ixF (A.2.2 1) 1 x = (A.2.2 1).length then none else some (cA s (ixF (A.2.2 1) 1 x)), s) := by
  have d := (rs_d r).2.1
  have h12 := (rs_d r).2.2.2.2.1
  have sp := rs_c r
  have hle := ixF_le (A.2.2 1) 1 x
  have srch : ∀ (d i m : Nat), i + d = ixF (A.2.2 1) 1 x → d < m → mX11_commandWith_2 m 0 x (nI i) s = some (if ixF (A.2.2 1) 1 x = (A.2.2 1).length then none else some (cA s (ixF (A.2.2 1) 1 x)), s) := by
    intro dd
    induction dd with
    | zero =>
      intro i m hi hm
      obtain ⟨m, rfl⟩ : ∃ q, m = q + 1 := ⟨m - 1, by omega⟩
      rw [Nat.add_zero] at hi
      unfold mX11_commandWith_2 mX11_commandWith_43
      rw [gI_0 h, b1S, sp.1]
      by_cases c : ixF (A.2.2 1) 1 x = (A.2.2 1).length
      · rw [if_pos c, if_pos (nI_le (by omega) (by omega))]
      · have hlt : i < (A.2.2 1).length := by omega
        have dd := d.1 i hlt
        have ea : sI s (cA s i) 1 = x := by
          have := ix_at (show ixF (A.2.2 1) 1 x < (A.2.2 1).length by omega)
          obtain ⟨k, -, -, -, e, -⟩ := pg_cm sp hlt
          rw [← hi, e] at this
          exact this
        rw [if_neg c, if_neg (nI_ge hlt (by omega)), if_neg (c_nle (c := 12) 12 (by omega)), gP_0_2 h, b1S, b1S, aP_5 h (nIc (by omega) (by omega)), b1S, nI_clamp (by omega), dd.1, if_neg (by simp), b1S, koI dd.2, b1S, ea, if_pos rfl, hi]
    | succ dd ih =>
      intro i m hi hm
      obtain ⟨m, rfl⟩ : ∃ q, m = q + 1 := ⟨m - 1, by omega⟩
      have hlt : i < (A.2.2 1).length := by omega
      have d1 := d.1 i hlt
      have ea : ¬ sI s (cA s i) 1 = x := by
        have := ix_ne (q := A.2.2 1) (x := x) (i := i) (by omega)
        obtain ⟨k, -, -, -, e, -⟩ := pg_cm sp hlt
        rw [e] at this
        exact this
      unfold mX11_commandWith_2 mX11_commandWith_37
      rw [gI_0 h, b1S, sp.1, if_neg (nI_ge hlt (by omega)), if_neg (c_nle (c := 12) 12 (by omega)), gP_0_2 h, b1S, b1S, aP_5 h (nIc (by omega) (by omega)), b1S, nI_clamp (by omega), d1.1, if_neg (by simp), b1S, koI d1.2, b1S, if_neg ea, nI_1]
      exact ih (i + 1) m (by omega) (by omega)
  unfold mX11_commandWith
  exact srch (ixF (A.2.2 1) 1 x) 0 100000 (by omega) (by omega)
