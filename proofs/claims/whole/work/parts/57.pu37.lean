/-! ===== ANSWERS and EVENTS that are sent ===== -/
abbrev xDF : Nat → Nat → Bool := fun a k => a == 14 && (k == 2 || k == 3)
set_option maxRecDepth 100000 in
theorem S_dropFirst {s : eS} (h : SH s) (da : DA s) {x : List Int32} {q : List (List Int32)} (a : SA s (x :: q)) : ∃ s', mX0_dropFirst 14 s = some s' ∧ ag xDF s s' ∧ SA s' q := by
  obtain ⟨st, hst, e1, e2, e4, e3⟩ := a
  have e2' : sI s 14 3 = nI (q.length + 1) := e2
  have e4' : q.length + 1 ≤ 60 := e4
  have base : ∀ (x : Int32) (st2 : Nat), x = nI st2 → st2 < 60 → (∀ i, i < q.length → (st2 + i) % 60 = (st + (i + 1)) % 60) → SA (e_I (e_I s 14 3 (nI q.length)) 14 2 x) q := by
    intro x st2 hx hs2 hp
    have g : ag xDF s (e_I (e_I s 14 3 (nI q.length)) 14 2 x) := ag_I (ag_I ag_rf rfl) rfl
    refine ⟨st2, hs2, by rw [rII_eq, hx], by rw [rII_ne (Or.inr (by decide)), rII_eq], by omega, fun i hi => ?_⟩
    have h3 := e3 (i + 1) (by show i + 1 < q.length + 1; omega)
    have h4 := DA_at da (Nat.mod_lt _ (by omega)) h3.1
    rw [hp i hi, ag_P g, mA_ag g, rA_ag g]
    exact ⟨h3.1, MT_ag g h3.2 (by simp <;> omega) (fun k => by simp <;> omega)⟩
  have h1 := SH_I (a := 14) (k := 3) (x := nI q.length) h
  unfold mX0_dropFirst mX0_dropFirst_31
  rw [gI_14 h, b1S, e2', nI_pred, pI_14 h, b1S, gI_14 h1, b1S, rII_eq]
  by_cases c : q.length = 0
  · rw [if_neg (c_nlt (c := 0) 0 (by omega)), b1S, pI_14 h1, b1S]
    exact ⟨_, rfl, ag_I (ag_I ag_rf rfl) rfl, base 0 0 rfl (by omega) (fun i hi => by omega)⟩
  · rw [if_pos (c_lt (c := 0) 0 (by omega)), gI_14 h1, b1S, b1S, rII_ne (Or.inr (by decide)), e1, nI_1, show (60 : Int32) = nI 60 from rfl, pk_rem (by omega) (by omega) (by omega), pI_14 h1, b1S]
    exact ⟨_, rfl, ag_I (ag_I ag_rf rfl) rfl, base _ ((st + 1) % 60) rfl (by omega) (fun i hi => by omega)⟩
theorem S_first {s : eS} (h : SH s) (da : DA s) {x : List Int32} {q : List (List Int32)} (a : SA s (x :: q)) : ∃ b rr, mX0_first 14 s = some (some b, s) ∧ MG s b rr ∧ MT s b rr x ∧ 58 ≤ b ∧ 58 ≤ rr := by
  obtain ⟨st, hst, e1, e2, e4, e3⟩ := a
  have h3 := e3 0 (by simp)
  rw [Nat.add_zero, Nat.mod_eq_of_lt hst] at h3
  have h4 := DA_at da hst h3.1
  have hi : ¬ nI st < 0 ∧ (nI st).toNatClampNeg < 60 := nIc (by omega) hst
  have e4' : q.length + 1 ≤ 60 := e4
  have e2' : sI s 14 3 = nI (q.length + 1) := e2
  refine ⟨_, _, ?_, h4.2.1, h3.2, h4.2.2⟩
  unfold mX0_first mX0_first_35
  rw [gI_14 h, b1S, e2', if_neg (nI_nle (by omega) (by omega)), gP_14_0 h, b1S, gI_14 h, b1S, b1S, e1, aP_15 h hi, b1S, nI_clamp (by omega), if_neg h3.1, b1S, b1S, b1S, aP_15 h hi, b1S, nI_clamp (by omega), h4.1]
/-! the tables -/
def tyN (k : Nat) : Nat := [1, 3, 5, 9, 11, 13, 15].getD k 0
def ttN (k : Nat) : Nat := [30, 31, 32, 34, 35, 36, 37].getD k 0
theorem tab9 : ∀ k, k < 7 → t_I tb_9 (nI k) = some (nI (tyN k)) ∧ tyF (nI k) = nI (tyN k) ∧ tyN k < 256 := by decide +kernel
theorem tab8 : ∀ k, k < 7 → t_I tb_8 (nI k) = some (nI (ttN k)) ∧ ttF (nI k) = nI (ttN k) ∧ ttN k < 256 := by decide +kernel
theorem tab7 : ∀ k, k < 7 → t_I tb_7 (nI k) = some (nI (vbn k)) ∧ (3 : Int32) + nI (vbn k) + 1 = nI (obn k) ∧ obn k ≤ 8 := by decide +kernel
theorem tab6 : ∀ k, k < 7 → t_L tb_6 (nI k) = some (msk k) := by decide +kernel
/-- a POINT of the station -/
theorem koI {s : eS} {t a k : Nat} (g : KO s t a) : g_I s t k a = some (sI s a k) := if_pos g.1
theorem koK {s : eS} {t a : Nat} (g : KO s t a) : o_K s t a = some () := if_pos g.1
theorem koP {s : eS} {t a k : Nat} (g : KO s t a) : g_P s t k a = some (sP s a k) := if_pos g.1
theorem kop {s : eS} {t a k : Nat} {x : Int32} (g : KO s t a) : p_I s t k a x = some (e_I s a k x) := if_pos g.1
theorem KO_ag {X : Nat → Nat → Bool} {s s' : eS} (hg : ag X s s') {t a : Nat} (g : KO s t a) : KO s' t a := by
  unfold KO
  rw [hg.1.1, hg.1.2.2.2.2.1]
  exact g
theorem S_objectBytes {s : eS} {a k : Nat} (g : KO s 106 a) (hk : k < 7) (e : sI s a 0 = nI k) : mX6_objectBytes a s = some (nI (obn k), s) := by
  unfold mX6_objectBytes
  rw [koI g, b1S, e, (tab7 k hk).1, b1S, (tab7 k hk).2.1]
theorem MG_12 {s : eS} (h : SH s) : MG s 12 13 := ⟨sh_k h (by decide) rfl, h.2.2 (12, 0) (by decide), sh_k h (by decide) rfl, (h.2.1 13 (by decide)).2⟩
theorem MG_16 {s : eS} (h : SH s) : MG s 16 17 := ⟨sh_k h (by decide) rfl, h.2.2 (16, 0) (by decide), sh_k h (by decide) rfl, (h.2.1 17 (by decide)).2⟩
theorem MG_19 {s : eS} (h : SH s) : MG s 19 20 := ⟨sh_k h (by decide) rfl, h.2.2 (19, 0) (by decide), sh_k h (by decide) rfl, (h.2.1 20 (by decide)).2⟩
theorem pg_pt {s : eS} {q : List (List Int32)} (h : SP s q) {p : Nat} (hp : p < q.length) (k : Nat) : pg q p k = (ptS s p).getD k 0 := by
  unfold pg
  rw [(h.2.1 p hp).1]
set_option maxRecDepth 100000 in
/-- the EVENT's rest -/
theorem S_next {t : Bool} {D : Nat} {s : eS} (h : SH s) {A : aS} (r : RS t D s A) {e : List Int32} {q : List (List Int32)} (he : A.2.2 3 = e :: q) : ∃ s', mX3_next 8 (A.1 0) s = some (some 12, s') ∧ ag (xMs 12 13) s s' ∧ MT s' 12 13 (evB A e) := by
  obtain ⟨st, hst, b1', b2', b3', b4', b5'⟩ := rs_e r
  have b6 := b5' (A.2.2 2).length (by rw [he]; simp)
  rw [he] at b6 b4'
  have b7 : (A.2.2 2 ++ e :: q).getD (A.2.2 2).length [] = e := by rw [gD, List.getElem?_append_right (Nat.le_refl _), Nat.sub_self]; rfl
  rw [b7] at b6
  obtain ⟨p, k, v, qq, tt, c1, c2, c3, c4, c5, c6, c7, c8⟩ := b6
  have b4'' : (A.2.2 2).length + (q.length + 1) ≤ 52 := b4'
  have dp := (rs_d r).1.1 p c3
  have sp := rs_p r
  obtain ⟨x0, hx0, e0⟩ := (rs_m r).2.2.2.1
  have eA0 : A.1 0 = nI x0 := ((rs_i r).1 0 (by decide) (by decide)).symm.trans e0
  have hk7 : k < 7 := by omega
  have hpl : (st + (A.2.2 2).length) % 52 < 52 := Nat.mod_lt _ (by omega)
  have hi : ¬ nI ((st + (A.2.2 2).length) % 52) < 0 ∧ (nI ((st + (A.2.2 2).length) % 52)).toNatClampNeg < 52 := nIc (by omega) hpl
  have hcl : (nI ((st + (A.2.2 2).length) % 52)).toNatClampNeg = (st + (A.2.2 2).length) % 52 := nI_clamp (by omega)
  generalize hpd : (st + (A.2.2 2).length) % 52 = pl at *
  -- the message is empty
  have gm := MG_12 h
  obtain ⟨f1, m1⟩ := S_clear gm
  have g1 : ag (xMs 12 13) s (e_I s 12 1 0) := ag_I ag_rf rfl
  have h1 := SH_ag h g1
  have ko1 := KO_ag g1 dp.2
  have p58 := dp.2.2
  have ne12 : ∀ {s' : eS}, ag (xMs 12 13) s s' → ∀ j, sI s' (pA s p) j = sI s (pA s p) j := fun g j => g.2 _ _ (by simp [xMs]; omega)
  -- what is put into it
  have tail : ∀ (ty : Nat), ty < 256 → ∃ s', mX3_next_62 8 (A.1 0) (nI pl) (some (pA s p)) (nI ty) (e_I s 12 1 0) = some (some 12, s') ∧ ag (xMs 12 13) s s' ∧ MT s' 12 13 (hb (nI ty) 1 3 0 (A.1 0) ++ ob (nI k) (sI s (pA s p) 1) v qq (A.1 14) ++ (if sI s (pA s p) 3 = 0 then [] else tt)) := by
    intro ty hty
    have hhd : lb (((((nI ty ||| (256 : Int32)) ||| ((3 : Int32) <<< ((16 : Int32) &&& 31)))).toInt64 ||| (((0 : Int32)).toInt64 <<< ((24 : Int32).toInt64 &&& 63))) ||| ((nI x0).toInt64 <<< ((32 : Int32).toInt64 &&& 63))) 6 = hb (nI ty) 1 3 0 (nI x0) := head_nat (cause := 3) (by_ := 0) hty (by omega) (by omega) (by omega)
    obtain ⟨s2, f2, g2, m2⟩ := S_add (MG_ag g1 gm) m1 (((((nI ty ||| (256 : Int32)) ||| ((3 : Int32) <<< ((16 : Int32) &&& 31)))).toInt64 ||| (((0 : Int32)).toInt64 <<< ((24 : Int32).toInt64 &&& 63))) ||| ((nI x0).toInt64 <<< ((32 : Int32).toInt64 &&& 63))) (n := 6) (by simp)
    rw [List.nil_append, hhd] at m2
    have h2 := SH_ag h1 g2
    have g12 := ag_tr g1 g2
    have ob8 := (tab7 k hk7).2.2
    obtain ⟨s3, f3, g3, m3⟩ := S_add (MG_ag g12 gm) m2 (sL s 10 pl) (n := obn k) (by rw [hb_len]; omega)
    rw [c7 (A.1 14)] at m3
    have h3 := SH_ag h2 g3
    have g13 := ag_tr g12 g3
    have ko2 := KO_ag g12 dp.2
    have ko3 := KO_ag g13 dp.2
    unfold mX3_next_62 mX11_objectHead mX3_next_120
    rw [eA0, gP_8_3 h1, b1S, b2S, b1S, oK_12 h1, b1S, show (6 : Int32) = nI 6 from rfl, f2, b1S, gP_8_3 h2, b1S, gP_8_1 h2, b1S, b1S, aL_10 h2 hi, b1S, hcl, g12.1.2.2.1, b1S, koK ko2, b1S, S_objectBytes ko2 hk7 ((ne12 g12 0).trans c6), b2S, b1S, oK_12 h2, b1S, f3, b1S, koI ko3, b1S, ne12 g13]
    by_cases c : sI s (pA s p) 3 = 0
    · rw [if_pos c, if_pos c, gP_8_3 h3, b1S, List.append_nil]
      exact ⟨s3, rfl, g13, m3⟩
    · obtain ⟨s4, f4, g4, m4⟩ := S_add (MG_ag g13 gm) m3 (sL s 11 pl) (n := 7) (by rw [List.length_append, hb_len]; have := ob_len (nI k) (sI s (pA s p) 1) v qq (A.1 14); omega)
      rw [c8] at m4
      have h4 := SH_ag h3 g4
      rw [if_neg c, if_neg c, gP_8_3 h3, b1S, gP_8_2 h3, b1S, b1S, aL_11 h3 hi, b1S, hcl, g13.1.2.2.1, b1S, oK_12 h3, b1S, show (7 : Int32) = nI 7 from rfl, f4, b1S, gP_8_3 h4, b1S]
      exact ⟨s4, rfl, ag_tr g13 g4, m4⟩
  have ee : evB A e = hb (if sI s (pA s p) 3 = 0 then tyF (nI k) else ttF (nI k)) 1 3 0 (A.1 0) ++ ob (nI k) (sI s (pA s p) 1) v qq (A.1 14) ++ (if sI s (pA s p) 3 = 0 then [] else tt) := by
    unfold evB
    rw [c1]
    show hb (if pg (A.2.2 0) (nI p).toNatClampNeg 3 = 0 then tyF (pg (A.2.2 0) (nI p).toNatClampNeg 0) else ttF (pg (A.2.2 0) (nI p).toNatClampNeg 0)) 1 3 0 (A.1 0) ++ ob (pg (A.2.2 0) (nI p).toNatClampNeg 0) (pg (A.2.2 0) (nI p).toNatClampNeg 1) v qq (A.1 14) ++ (if pg (A.2.2 0) (nI p).toNatClampNeg 3 = 0 then [] else tt) = _
    have hp24 := (rs_d r).2.2.2.1
    rw [nI_clamp (by omega), pg_pt sp c3, pg_pt sp c3, pg_pt sp c3, ← c6]
    rfl
  rw [ee]
  unfold mX3_next
  rw [gI_8 h, b1S, gI_8 h, b1S, gP_8_0 h, b1S, b1S, b1', b3', nI_add, show (52 : Int32) = nI 52 from rfl, pk_rem (by omega) (by omega) (by omega), hpd, aP_9 h hi, b1S, hcl, c4, gP_8_3 h, b1S, b1S, oK_12 h, b1S, f1, b1S, if_neg (by simp), b1S, koI ko1, b1S, ne12 g1]
  by_cases c : sI s (pA s p) 3 = 0
  · rw [if_pos c, if_pos c, koI ko1, b1S, ne12 g1, c6, (tab9 k hk7).1, b1S, (tab9 k hk7).2.1]
    have := tail (tyN k) (tab9 k hk7).2.2
    rw [if_pos c] at this ⊢
    exact this
  · rw [if_neg c, if_neg c, koI ko1, b1S, ne12 g1, c6, (tab8 k hk7).1, b1S, (tab8 k hk7).2.1]
    have := tail (ttN k) (tab8 k hk7).2.2
    rw [if_neg c] at this ⊢
    exact this
