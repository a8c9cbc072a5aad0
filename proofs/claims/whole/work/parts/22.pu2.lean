/-! ===== rows as lists ===== -/
def rd {α : Type} (f : Nat → α) (n : Nat) : List α := (List.range n).map f
theorem rd_len {α : Type} (f : Nat → α) (n : Nat) : (rd f n).length = n := by simp [rd]
theorem rd_0 {α : Type} (f : Nat → α) : rd f 0 = [] := rfl
theorem rd_succ {α : Type} (f : Nat → α) (n : Nat) : rd f (n + 1) = rd f n ++ [f n] := by simp [rd, List.range_succ]
theorem rd_congr {α : Type} {f g : Nat → α} {n : Nat} (h : ∀ i, i < n → f i = g i) : rd f n = rd g n := by
  unfold rd
  apply List.map_congr_left
  intro i hi
  exact h i (List.mem_range.mp hi)
theorem rd_get {α : Type} (f : Nat → α) {n i : Nat} (h : i < n) : (rd f n)[i]? = some (f i) := by simp [rd, h]
theorem rd_getD {α : Type} (f : Nat → α) {n i : Nat} (d : α) (h : i < n) : (rd f n).getD i d = f i := by rw [List.getD_eq_getElem?_getD, rd_get f h]; rfl
theorem rd_cons {α : Type} (f : Nat → α) (n : Nat) : rd f (n + 1) = f 0 :: rd (fun i => f (i + 1)) n := by
  simp [rd, List.range_succ_eq_map, Function.comp]
theorem rd_drop {α : Type} (f : Nat → α) (n m : Nat) : (rd f n).drop m = rd (fun i => f (m + i)) (n - m) := by
  induction m generalizing f n with
  | zero => simp
  | succ m ih =>
    cases n with
    | zero => simp [rd]
    | succ n =>
      rw [rd_cons, List.drop_succ_cons, ih, Nat.succ_sub_succ]
      apply rd_congr
      intro i _
      congr 1
      omega
theorem rd_app {α : Type} (f : Nat → α) (n m : Nat) : rd f (n + m) = rd f n ++ rd (fun i => f (n + i)) m := by
  induction m with
  | zero => simp [rd]
  | succ m ih => rw [← Nat.add_assoc, rd_succ, ih, rd_succ, List.append_assoc]
/-! ===== stores that agree outside of some cells: only ints change ===== -/
def ag (X : Nat → Nat → Bool) (s s' : eS) : Prop := (sK s' = sK s ∧ sN s' = sN s ∧ sL s' = sL s ∧ sP s' = sP s ∧ sn s' = sn s ∧ ss s' = ss s) ∧ ∀ a k, X a k = false → sI s' a k = sI s a k
theorem ag_rf {X : Nat → Nat → Bool} {s : eS} : ag X s s := ⟨⟨rfl, rfl, rfl, rfl, rfl, rfl⟩, fun _ _ _ => rfl⟩
theorem ag_I {X : Nat → Nat → Bool} {s s' : eS} (h : ag X s s') {a k : Nat} {x : Int32} (hx : X a k = true) : ag X s (e_I s' a k x) := by
  refine ⟨h.1, fun b j hb => ?_⟩
  rw [rII_ne, h.2 b j hb]
  by_cases h1 : b = a
  · by_cases h2 : j = k
    · subst h1; subst h2; rw [hx] at hb; cases hb
    · exact Or.inr h2
  · exact Or.inl h1
theorem ag_tr {X : Nat → Nat → Bool} {s s' s'' : eS} (h : ag X s s') (h2 : ag X s' s'') : ag X s s'' := by
  obtain ⟨⟨a1, a2, a3, a4, a5, a6⟩, a7⟩ := h
  obtain ⟨⟨b1, b2, b3, b4, b5, b6⟩, b7⟩ := h2
  exact ⟨⟨b1.trans a1, b2.trans a2, b3.trans a3, b4.trans a4, b5.trans a5, b6.trans a6⟩, fun a k hx => (b7 a k hx).trans (a7 a k hx)⟩
theorem ag_mono {X Y : Nat → Nat → Bool} {s s' : eS} (h : ag X s s') (hXY : ∀ a k, Y a k = false → X a k = false) : ag Y s s' := ⟨h.1, fun a k hy => h.2 a k (hXY a k hy)⟩
theorem SH_ag {X : Nat → Nat → Bool} {s s' : eS} (h : SH s) (hg : ag X s s') : SH s' := by
  obtain ⟨⟨a1, a2, a3, a4, a5, a6⟩, a7⟩ := hg
  unfold SH
  rw [a1, a2, a4, a5]
  exact h
/-! Int32 -/
theorem i8i8 (b : Int32) : b.toInt8.toInt32.toInt8.toInt32 = b.toInt8.toInt32 := pk_vb b
theorem nI_lit (n : Nat) : (OfNat.ofNat n : Int32) = nI n := rfl
/-! ===== the model's draft ===== -/
def DR (s : eS) (l : List Int32) : Prop := sI s 26 53 = nI l.length ∧ rd (sI s 56) l.length = l
abbrev xDR : Nat → Nat → Bool := fun a k => a == 56 || (a == 26 && k == 53)
set_option maxRecDepth 100000 in
theorem M_put {s : eS} (h : SH s) {l : List Int32} (hl : DR s l) (hlt : l.length < 260) (b : Int32) : ∃ s', mX12_put 26 b s = some s' ∧ ag xDR s s' ∧ DR s' (l ++ [b]) := by
  have hn := hl.1
  have hi : ¬ nI l.length < 0 ∧ (nI l.length).toNatClampNeg < 260 := nIc (by omega) hlt
  refine ⟨e_I (e_I s 56 l.length b) 26 53 (nI (l.length + 1)), ?_, ag_I (ag_I ag_rf rfl) rfl, ?_, ?_⟩
  · unfold mX12_put
    simp (disch := first | exact h | assumption | ((repeat apply SH_I); exact h) | decide | omega) only [b1S, b2S, gI_26, pI_26, pZ_26, oK_26, aI_27, sI_27, aI_28, sI_28, aI_29, sI_29, aI_30, sI_30, aI_31, sZ_31, aI_32, sI_32, aI_33, sI_33, aI_34, sI_34, aI_35, sI_35, aI_36, sI_36, aI_37, sI_37, aI_38, sZ_38, aI_39, sI_39, aI_40, sI_40, aI_41, sI_41, aI_42, sI_42, aI_43, sI_43, aI_44, sI_44, aI_45, sI_45, aI_46, sI_46, aI_47, sZ_47, aI_48, sI_48, aI_49, sI_49, aI_50, sI_50, aI_51, sI_51, aI_52, sI_52, aI_53, sI_53, aI_54, sI_54, aI_55, sI_55, aI_56, sI_56, aI_57, sI_57, gP_26_0, gP_26_2, gP_26_3, gP_26_4, gP_26_5, gP_26_6, gP_26_7, gP_26_8, gP_26_10, gP_26_11, gP_26_12, gP_26_13, gP_26_14, gP_26_18, gP_26_21, gP_26_24, gP_26_25, gP_26_26, gP_26_27, gP_26_29, gP_26_30, gP_26_31, gP_26_32, gP_26_33, gP_26_34, gP_26_46, gP_26_47, gP_26_48, gP_26_50, gP_26_52, gP_26_54, rII_ne, rII_eq, nI_clamp, oZ0, oZ1, hn, nI_1]
  · rw [rII_eq, List.length_append]
    rfl
  · rw [List.length_append]
    show rd _ (l.length + 1) = _
    rw [rd_succ]
    congr 1
    · rw [← hl.2]
      simp only [rd_len]
      apply rd_congr
      intro i hi
      rw [rII_ne (Or.inl (by decide)), rII_ne (Or.inr (by omega))]
    · rw [rII_ne (Or.inl (by decide)), rII_eq]
/-- the bytes of a number, the lowest first -/
def nb (v : Int32) (n : Nat) : List Int32 := rd (fun k => (v >>> ((8 * nI k) &&& 31)) &&& 255) n
theorem nb_len (v : Int32) (n : Nat) : (nb v n).length = n := rd_len _ _
theorem nb_succ (v : Int32) (n : Nat) : nb v (n + 1) = nb v n ++ [(v >>> ((8 * nI n) &&& 31)) &&& 255] := rd_succ _ _
set_option maxRecDepth 100000 in
theorem M_putNumber_loop (v : Int32) {n : Nat} (hn : n < 2 ^ 31) {s0 : eS} {l : List Int32} (hlt : l.length + n ≤ 260) : ∀ (d k m : Nat) (s : eS), k + d = n → d < m → SH s → ag xDR s0 s → DR s (l ++ nb v k) → ∃ s', mX12_putNumber_2 m 26 v (nI n) (nI k) s = some s' ∧ ag xDR s0 s' ∧ DR s' (l ++ nb v n) := by
  intro d
  induction d with
  | zero =>
    intro k m s hk hm h hg hd
    obtain ⟨m, rfl⟩ : ∃ q, m = q + 1 := ⟨m - 1, by omega⟩
    unfold mX12_putNumber_2
    rw [if_pos (nI_le (by omega) (by omega))]
    rw [show n = k by omega]
    exact ⟨s, rfl, hg, hd⟩
  | succ d ih =>
    intro k m s hk hm h hg hd
    obtain ⟨m, rfl⟩ : ∃ q, m = q + 1 := ⟨m - 1, by omega⟩
    unfold mX12_putNumber_2
    rw [if_neg (nI_ge (by omega) (by omega)), oK_26 h, b1S]
    obtain ⟨s1, e1, g1, d1⟩ := M_put h hd (by rw [List.length_append, nb_len]; omega) ((v >>> ((8 * nI k) &&& 31)) &&& 255)
    rw [e1, b1S, nI_1]
    refine ih (k + 1) m s1 (by omega) (by omega) (SH_ag h g1) (ag_tr hg g1) ?_
    rw [nb_succ, ← List.append_assoc]
    exact d1
theorem M_putNumber {s : eS} (h : SH s) {l : List Int32} (hl : DR s l) (v : Int32) {n : Nat} (hlt : l.length + n ≤ 260) : ∃ s', mX12_putNumber 26 v (nI n) s = some s' ∧ ag xDR s s' ∧ DR s' (l ++ nb v n) := by
  unfold mX12_putNumber
  exact M_putNumber_loop v (by omega) hlt n 0 100000 s (by omega) (by omega) h ag_rf (by rw [show nb v 0 = [] from rfl, List.append_nil]; exact hl)
/-- the six bytes ahead of OBJECTS -/
def hb (ty many cause by_ st : Int32) : List Int32 := [ty, many, cause, by_] ++ nb st 2
set_option maxRecDepth 100000 in
theorem M_head {s : eS} (h : SH s) (ty many cause by_ : Int32) : ∃ s', mX12_head 26 ty many cause by_ s = some s' ∧ ag xDR s s' ∧ DR s' (hb ty many cause by_ (sI s 27 0)) := by
  unfold mX12_head
  have h1 : SH (e_I s 26 53 0) := SH_I h
  have g1 : ag xDR s (e_I s 26 53 0) := ag_I ag_rf rfl
  have d1 : DR (e_I s 26 53 0) [] := ⟨rII_eq, rfl⟩
  obtain ⟨s2, e2, g2, d2⟩ := M_put h1 d1 (Nat.le_of_ble_eq_true rfl) ty
  have h2 := SH_ag h1 g2
  obtain ⟨s3, e3, g3, d3⟩ := M_put h2 d2 (Nat.le_of_ble_eq_true rfl) many
  have h3 := SH_ag h2 g3
  obtain ⟨s4, e4, g4, d4⟩ := M_put h3 d3 (Nat.le_of_ble_eq_true rfl) cause
  have h4 := SH_ag h3 g4
  obtain ⟨s5, e5, g5, d5⟩ := M_put h4 d4 (Nat.le_of_ble_eq_true rfl) by_
  have h5 := SH_ag h4 g5
  have gg := ag_tr g1 (ag_tr g2 (ag_tr g3 (ag_tr g4 g5)))
  obtain ⟨s6, e6, g6, d6⟩ := M_putNumber h5 d5 (sI s 27 0) (n := 2) (Nat.le_of_ble_eq_true rfl)
  have hst : sI s5 27 0 = sI s 27 0 := gg.2 27 0 rfl
  refine ⟨s6, ?_, ag_tr gg g6, d6⟩
  rw [pI_26 h, b1S, oK_26 h1, b1S, e2, b1S, oK_26 h2, b1S, e3, b1S, oK_26 h3, b1S, e4, b1S, oK_26 h4, b1S, e5, b1S, gP_26_0 h5, b1S, b1S, aI_27 h5 (by decide), b1S, show (0 : Int32).toNatClampNeg = 0 from rfl, hst, oK_26 h5, b1S]
  rw [show (2 : Int32) = nI 2 from rfl, e6, b1S]
/-- the bytes of an OBJECT: of a sort, an address, a VALUE, a QUALITY; and THE FREEZES -/
def ob (sort addr v q fr : Int32) : List Int32 :=
  nb addr 3 ++ (if 2 ≤ sort then nb (if sort = 2 then v &&& 127 else v) (if sort = 2 then 1 else if 5 ≤ sort then 4 else 2) ++ [if sort = 6 then (fr - fr / 32 * 32) ||| ((q <<< ((3 : Int32) &&& 31)) &&& 128) else (q &&& 1) ||| ((q <<< ((3 : Int32) &&& 31)) &&& 240)] else [v ||| ((q <<< ((3 : Int32) &&& 31)) &&& 240)])
theorem ob_len (sort addr v q fr : Int32) : (ob sort addr v q fr).length ≤ 8 := by
  unfold ob
  split
  · split
    · simp [nb_len]
    · split <;> simp [nb_len]
  · simp [nb_len]
set_option maxRecDepth 100000 in
theorem M_object {s : eS} (h : SH s) {l : List Int32} (hl : DR s l) (hlt : l.length + 8 ≤ 260) {p : Nat} (hp : p < 24) (v q : Int32) : ∃ s', mX12_object 26 (nI p) v q s = some s' ∧ ag xDR s s' ∧ DR s' (l ++ ob (sI s 28 p) (sI s 29 p) v q (sI s 26 19)) := by
  have hi : ¬ nI p < 0 ∧ (nI p).toNatClampNeg < 24 := nIc (by omega) hp
  obtain ⟨s1, e1, g1, d1⟩ := M_putNumber h hl (sI s 29 p) (n := 3) (by omega)
  have h1 := SH_ag h g1
  have hfr : sI s1 26 19 = sI s 26 19 := g1.2 26 19 rfl
  have l1 : (l ++ nb (sI s 29 p) 3).length = l.length + 3 := by rw [List.length_append, nb_len]
  unfold mX12_object
  rw [gP_26_2 h, b1S, b1S, aI_28 h hi, b1S, gP_26_3 h, b1S, b1S, aI_29 h hi, b1S, nI_clamp (by omega), oK_26 h, b1S, show mX12_putNumber 26 (sI s 29 p) 3 s = some s1 from e1, b1S]
  -- the bytes behind the address
  have key : ∀ (w : Int32) (n : Nat) (x : Int32), n ≤ 4 → ∃ s2 s3, mX12_putNumber 26 w (nI n) s1 = some s2 ∧ SH s2 ∧ sI s2 26 19 = sI s 26 19 ∧ mX12_put 26 x s2 = some s3 ∧ ag xDR s s3 ∧ DR s3 (l ++ (nb (sI s 29 p) 3 ++ (nb w n ++ [x]))) := by
    intro w n x hn
    obtain ⟨s2, e2, g2, d2⟩ := M_putNumber h1 d1 w (n := n) (by omega)
    have h2 := SH_ag h1 g2
    obtain ⟨s3, e3, g3, d3⟩ := M_put h2 d2 (by rw [List.length_append, nb_len]; omega) x
    refine ⟨s2, s3, e2, h2, (g2.2 26 19 rfl).trans hfr, e3, ag_tr g1 (ag_tr g2 g3), ?_⟩
    rw [List.append_assoc, List.append_assoc] at d3
    exact d3
  unfold ob
  by_cases c1 : (2 : Int32) ≤ sI s 28 p
  · rw [if_pos c1, if_pos c1]
    have tail : ∀ (w : Int32) (n : Nat), n ≤ 4 → ∃ s3, mX12_object_79 26 q (sI s 28 p) ((q <<< ((3 : Int32) &&& 31)) &&& 240) (nI n) w (some 26) s1 = some s3 ∧ ag xDR s s3 ∧ DR s3 (l ++ (nb (sI s 29 p) 3 ++ (nb w n ++ [if sI s 28 p = 6 then (sI s 26 19 - sI s 26 19 / 32 * 32) ||| ((q <<< ((3 : Int32) &&& 31)) &&& 128) else (q &&& 1) ||| ((q <<< ((3 : Int32) &&& 31)) &&& 240)]))) := by
      intro w n hn
      unfold mX12_object_79 mX12_object_114
      obtain ⟨s2, s3, e2, h2, f2, e3, g3, d3⟩ := key w n (if sI s 28 p = 6 then (sI s 26 19 - sI s 26 19 / 32 * 32) ||| ((q <<< ((3 : Int32) &&& 31)) &&& 128) else (q &&& 1) ||| ((q <<< ((3 : Int32) &&& 31)) &&& 240)) hn
      refine ⟨s3, ?_, g3, d3⟩
      rw [b1S, oK_26 h1, b1S, e2, b1S]
      by_cases c6 : sI s 28 p = 6
      · rw [if_pos c6] at e3
        rw [if_pos c6, gI_26 h2, b1S, f2, b1S, oK_26 h2, b1S, e3, b1S]
      · rw [if_neg c6] at e3
        rw [if_neg c6, b1S, oK_26 h2, b1S, e3, b1S]
    by_cases c2 : sI s 28 p = 2
    · rw [if_pos c2, if_pos c2, if_pos c2]
      unfold mX12_object_58
      rw [if_pos c2]
      exact tail (v &&& 127) 1 (by decide)
    · rw [if_neg c2, if_neg c2, if_neg c2]
      unfold mX12_object_58
      rw [if_neg c2]
      by_cases c5 : (5 : Int32) ≤ sI s 28 p
      · rw [if_pos c5, if_pos c5]
        exact tail v 4 (by decide)
      · rw [if_neg c5, if_neg c5]
        exact tail v 2 (by decide)
  · rw [if_neg c1, if_neg c1]
    obtain ⟨s2, e2, g2, d2⟩ := M_put h1 d1 (by omega) (v ||| ((q <<< ((3 : Int32) &&& 31)) &&& 240))
    refine ⟨s2, ?_, ag_tr g1 g2, ?_⟩
    · rw [oK_26 h1, b1S, e2, b1S]
    · rw [List.append_assoc] at d2
      exact d2
/-! ===== the model's out ===== -/
def OU (s : eS) (l : List Int32) : Prop := sI s 26 49 = nI l.length ∧ rd (sI s 54) l.length = l
abbrev xOU : Nat → Nat → Bool := fun a k => a == 54 || (a == 26 && k == 49)
set_option maxRecDepth 100000 in
theorem M_byteOut {s : eS} (h : SH s) {l : List Int32} (hl : OU s l) (hlt : l.length < 4096) (b : Int32) : ∃ s', mX12_byteOut 26 b s = some s' ∧ ag xOU s s' ∧ OU s' (l ++ [b]) := by
  have hn := hl.1
  have hi : ¬ nI l.length < 0 ∧ (nI l.length).toNatClampNeg < 4096 := nIc (by omega) hlt
  refine ⟨e_I (e_I s 54 l.length b) 26 49 (nI (l.length + 1)), ?_, ag_I (ag_I ag_rf rfl) rfl, ?_, ?_⟩
  · unfold mX12_byteOut
    simp (disch := first | exact h | assumption | ((repeat apply SH_I); exact h) | decide | omega) only [b1S, b2S, gI_26, pI_26, pZ_26, oK_26, aI_27, sI_27, aI_28, sI_28, aI_29, sI_29, aI_30, sI_30, aI_31, sZ_31, aI_32, sI_32, aI_33, sI_33, aI_34, sI_34, aI_35, sI_35, aI_36, sI_36, aI_37, sI_37, aI_38, sZ_38, aI_39, sI_39, aI_40, sI_40, aI_41, sI_41, aI_42, sI_42, aI_43, sI_43, aI_44, sI_44, aI_45, sI_45, aI_46, sI_46, aI_47, sZ_47, aI_48, sI_48, aI_49, sI_49, aI_50, sI_50, aI_51, sI_51, aI_52, sI_52, aI_53, sI_53, aI_54, sI_54, aI_55, sI_55, aI_56, sI_56, aI_57, sI_57, gP_26_0, gP_26_2, gP_26_3, gP_26_4, gP_26_5, gP_26_6, gP_26_7, gP_26_8, gP_26_10, gP_26_11, gP_26_12, gP_26_13, gP_26_14, gP_26_18, gP_26_21, gP_26_24, gP_26_25, gP_26_26, gP_26_27, gP_26_29, gP_26_30, gP_26_31, gP_26_32, gP_26_33, gP_26_34, gP_26_46, gP_26_47, gP_26_48, gP_26_50, gP_26_52, gP_26_54, rII_ne, rII_eq, nI_clamp, oZ0, oZ1, hn, nI_1]
  · rw [rII_eq, List.length_append]
    rfl
  · rw [List.length_append]
    show rd _ (l.length + 1) = _
    rw [rd_succ]
    congr 1
    · rw [← hl.2]
      simp only [rd_len]
      apply rd_congr
      intro i hi
      rw [rII_ne (Or.inl (by decide)), rII_ne (Or.inr (by omega))]
    · rw [rII_ne (Or.inl (by decide)), rII_eq]
