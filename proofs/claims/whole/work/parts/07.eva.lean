section EVA
variable {E : eE} {M : eM} {pc : Nat} {lv lv2 : List (Nat × eW)} {st st2 : List eW} {σ σ2 σ' : eS} {v : Option eW}
/-- which instruction reads and writes rows of a type -/
def e_ldi (ty : FieldType) : Instr := match ty with
  | .byte => .baload
  | .boolean => .baload
  | .long => .laload
  | .object _ => .aaload
  | _ => .iaload
def e_sti (ty : FieldType) : Instr := match ty with
  | .byte => .bastore
  | .boolean => .bastore
  | .long => .lastore
  | .object _ => .aastore
  | _ => .iastore
def e_at (t : Nat) (ty : FieldType) : Prop := aT[t]? = some ty ∧ (ty = .int ∨ ty = .byte ∨ ty = .boolean ∨ ty = .long ∨ ∃ C, ty = .object C)
theorem EV_ald {t a : Nat} {ty : FieldType} {i : Int32} {w : eW} (ht : e_at t ty) (hd : decode M.1 pc = .ok (e_ldi ty, 1)) (ha : a < sn σ) (hk : sK σ a = t) (hi : vp_in i (sN σ a)) (hw : e_v E ty σ a i.toNatClampNeg = e_w E w) (h : EV E M (pc + 1) lv (w :: st) σ v σ') : EV E M pc lv (VI i :: VR (some a) :: st) σ v σ' := EV_step h fun {p e R s m args below meth c H locs cells slots Q ls} hC hR hc hH hl kk => by
  obtain ⟨ht, hty⟩ := ht
  obtain ⟨q1, -⟩ := e_arr hH ha hk ht
  have hA := (hC.2.2.2.2.2.1.2.1 t ty ht).1 (sN σ a) (fun j => e_v E ty σ a j)
  have hlt : i.toNatClampNeg < sN σ a := Nat.not_le.mp fun q => hi (Or.inr q)
  have hin : ¬ (i < 0 ∨ (arrV (e_cA E t) (sN σ a) (fun j => e_v E ty σ a j)).slots.size ≤ i.toNatClampNeg) := by rw [arrV_size]; exact hi
  have hv : (arrV (e_cA E t) (sN σ a) (fun j => e_v E ty σ a j)).slots[i.toNatClampNeg]? = some (e_w E w) := by
    rw [arrV_read _ _ hlt]
    exact congrArg some hw
  have hkn : (arrV (e_cA E t) (sN σ a) (fun j => e_v E ty σ a j)).vm ≠ .unknown := fun q => by cases q
  show W p E.1 e R s m args below meth c H locs cells slots Q (F0 m pc ls (.int i :: .ref (e_f E a) :: st.map (e_w E)))
  rw [e_f_in hH ha]
  rcases hty with rfl | rfl | rfl | rfl | ⟨C, rfl⟩
  · exact W.iald hC.1 hC.2.1 q1 hA hkn hin hv rfl rfl hd (kk ls hl)
  · exact W.bald hC.1 hC.2.1 q1 hA hkn hin hv rfl rfl hd (kk ls hl)
  · exact W.zald hC.1 hC.2.1 q1 hA hkn hin hv rfl rfl hd (kk ls hl)
  · exact W.lald hC.1 hC.2.1 q1 hA hkn hin hv rfl rfl hd (kk ls hl)
  · exact W.aald hC.1 hC.2.1 q1 hA rfl hkn hin hv rfl rfl hd (kk ls hl)
theorem EV_alen {t a : Nat} {ty : FieldType} {x : Int32} (ht : aT[t]? = some ty) (hd : decode M.1 pc = .ok (.arraylength, 1)) (ha : a < sn σ) (hk : sK σ a = t) (hx : Nat.toInt32 (sN σ a) = x) (h : EV E M (pc + 1) lv (VI x :: st) σ v σ') : EV E M pc lv (VR (some a) :: st) σ v σ' := EV_step h fun {p e R s m args below meth c H locs cells slots Q ls} hC hR hc hH hl kk => by
  obtain ⟨q1, -⟩ := e_arr hH ha hk ht
  have hA := (hC.2.2.2.2.2.1.2.1 t ty ht).1 (sN σ a) (fun j => e_v E ty σ a j)
  show W p E.1 e R s m args below meth c H locs cells slots Q (F0 m pc ls (.ref (e_f E a) :: st.map (e_w E)))
  rw [e_f_in hH ha]
  exact W.alen hC.1 hC.2.1 q1 hA (by rw [arrV_size]; exact hx) rfl rfl hd (kk ls hl)
/-- a row's cell is written: what all kinds share -/
theorem e_ast {t a j : Nat} {ty : FieldType} {x : Value} {H H' : Heap} (hH : eH E σ H) (ha : a < sn σ) (hk : sK σ a = t) (ht : aT[t]? = some ty) (hs : e_same σ σ2 a) (hw : ∀ j', e_v E ty σ2 a j' = if j' = j then x else e_v E ty σ a j') (hfit : fits ty x = true) (e1 : H'[e_b E + a]? = some ((arrV (e_cA E t) (sN σ a) (fun j => e_v E ty σ a j)).setSlot j x)) (e2 : H'.size = H.size) (e3 : ∀ q, q ≠ e_b E + a → H'[q]? = H[q]?) : eH E σ2 H' := by
  obtain ⟨q1, q2⟩ := e_arr hH ha hk ht
  refine eH_put hH hs e2 e3 (Or.inl ⟨ty, ?_, ?_, ?_, fun j' => ?_⟩)
  · rw [hs.1, hk]; exact ht
  · rw [hs.1, hk]
    have := (List.getElem?_eq_some_iff.mp ht).1
    have e : aT.length < 100 := by decide
    omega
  · rw [hs.1, hs.2.1, hk, e1, arrV_store]
    congr 2
    funext j'
    rw [hw j']
    rfl
  · rw [hw j']
    split
    · exact hfit
    · exact q2 j'
theorem EV_astI {t a : Nat} {ty : FieldType} {i x y : Int32} (ht : aT[t]? = some ty) (hty : ty = .int ∨ ty = .byte ∨ ty = .boolean) (hd : decode M.1 pc = .ok (e_sti ty, 1)) (ha : a < sn σ) (hk : sK σ a = t) (hi : vp_in i (sN σ a)) (hx : narrow ty (.int x) = .int y) (h : EV E M (pc + 1) lv st (e_I σ a i.toNatClampNeg y) v σ') : EV E M pc lv (VI x :: VI i :: VR (some a) :: st) σ v σ' := EV_heap (c0 := 0) (d0 := 0) h rfl rfl fun {p e R s m args below meth c H locs cells slots Q ls} hC hR hc hH hL hl kk => by
  obtain ⟨q1, -⟩ := e_arr hH ha hk ht
  have hA := (hC.2.2.2.2.2.1.2.1 t ty ht).1 (sN σ a) (fun j => e_v E ty σ a j)
  have hin : ¬ (i < 0 ∨ (arrV (e_cA E t) (sN σ a) (fun j => e_v E ty σ a j)).slots.size ≤ i.toNatClampNeg) := by rw [arrV_size]; exact hi
  have hkn : (arrV (e_cA E t) (sN σ a) (fun j => e_v E ty σ a j)).vm ≠ .unknown := fun q => by cases q
  have hlocs : ∀ q ∈ locs ++ [⟨e_b E + a, i.toNatClampNeg⟩], e_b E ≤ q.base := by
    intro q hq
    rcases List.mem_append.mp hq with z | z
    · exact hL q z
    · rw [List.mem_singleton.mp z]
      exact Nat.le_add_right _ _
  have hfit : fits ty (.int y) = true := by
    rcases hty with rfl | rfl | rfl
    · rfl
    · rw [← hx]; exact pk_fb x
    · rw [← hx]
      show ((x &&& 1) == 0 || (x &&& 1) == 1) = true
      obtain ⟨j, hj, e⟩ := pk_andE x (m := 1) 1 (by decide)
      rw [e]
      rcases (show j = 0 ∨ j = 1 by omega) with rfl | rfl <;> decide
  have hw : ∀ j', e_v E ty (e_I σ a i.toNatClampNeg y) a j' = if j' = i.toNatClampNeg then .int y else e_v E ty σ a j' := by
    intro j'
    have e : sI (e_I σ a i.toNatClampNeg y) a j' = if j' = i.toNatClampNeg then y else sI σ a j' := by
      show e_u _ _ _ _ a j' = _
      unfold e_u
      rw [if_pos rfl]
    rcases hty with rfl | rfl | rfl <;> (show Value.int (sI _ a j') = _; rw [e]; split <;> rfl)
  show W p E.1 e R s m args below meth c H locs cells slots Q (F0 m pc ls (.int x :: .int i :: .ref (e_f E a) :: st.map (e_w E)))
  rw [e_f_in hH ha]
  rcases hty with rfl | rfl | rfl
  · cases hx
    exact W.iast hC.1 hC.2.1 q1 hA hkn hin rfl rfl hd fun H' e1 e2 e3 => kk H' _ (e_ast hH ha hk ht (e_same_I _ _ _ _) hw hfit e1 e2 e3) hlocs
  · exact W.bast hC.1 hC.2.1 q1 hA hkn hin rfl rfl hd fun H' e1 e2 e3 => kk H' _ (e_ast hH ha hk ht (e_same_I _ _ _ _) hw hfit (by rw [← hx]; exact e1) e2 e3) hlocs
  · exact W.zast hC.1 hC.2.1 q1 hA hkn hin rfl rfl hd fun H' e1 e2 e3 => kk H' _ (e_ast hH ha hk ht (e_same_I _ _ _ _) hw hfit (by rw [← hx]; exact e1) e2 e3) hlocs
theorem EV_astL {t a : Nat} {i : Int32} {x : Int64} (ht : aT[t]? = some .long) (hd : decode M.1 pc = .ok (.lastore, 1)) (ha : a < sn σ) (hk : sK σ a = t) (hi : vp_in i (sN σ a)) (h : EV E M (pc + 1) lv st (e_L σ a i.toNatClampNeg x) v σ') : EV E M pc lv (VL x :: VI i :: VR (some a) :: st) σ v σ' := EV_heap (c0 := 0) (d0 := 0) h rfl rfl fun {p e R s m args below meth c H locs cells slots Q ls} hC hR hc hH hL hl kk => by
  obtain ⟨q1, -⟩ := e_arr hH ha hk ht
  have hA := (hC.2.2.2.2.2.1.2.1 t _ ht).1 (sN σ a) (fun j => e_v E .long σ a j)
  have hin : ¬ (i < 0 ∨ (arrV (e_cA E t) (sN σ a) (fun j => e_v E .long σ a j)).slots.size ≤ i.toNatClampNeg) := by rw [arrV_size]; exact hi
  have hkn : (arrV (e_cA E t) (sN σ a) (fun j => e_v E .long σ a j)).vm ≠ .unknown := fun q => by cases q
  have hlocs : ∀ q ∈ locs ++ [⟨e_b E + a, i.toNatClampNeg⟩], e_b E ≤ q.base := by
    intro q hq
    rcases List.mem_append.mp hq with z | z
    · exact hL q z
    · rw [List.mem_singleton.mp z]
      exact Nat.le_add_right _ _
  have hw : ∀ j', e_v E .long (e_L σ a i.toNatClampNeg x) a j' = if j' = i.toNatClampNeg then .long x else e_v E .long σ a j' := by
    intro j'
    have e : sL (e_L σ a i.toNatClampNeg x) a j' = if j' = i.toNatClampNeg then x else sL σ a j' := by
      show e_u _ _ _ _ a j' = _
      unfold e_u
      rw [if_pos rfl]
    show Value.long (sL _ a j') = _
    rw [e]
    split <;> rfl
  show W p E.1 e R s m args below meth c H locs cells slots Q (F0 m pc ls (.long x :: .int i :: .ref (e_f E a) :: st.map (e_w E)))
  rw [e_f_in hH ha]
  exact W.last hC.1 hC.2.1 q1 hA hkn hin rfl rfl hd fun H' e1 e2 e3 => kk H' _ (e_ast hH ha hk ht (e_same_L _ _ _ _) hw rfl e1 e2 e3) hlocs
theorem EV_astP {t a b ci : Nat} {r : vw_C} {i : Int32} (hX : vwCl[ci]? = some r) (ht : aT[t]? = some (.object r.1)) (hd : decode M.1 pc = .ok (.aastore, 1)) (ha : a < sn σ) (hk : sK σ a = t) (hb : b < sn σ) (hkb : sK σ b = 100 + ci) (hi : vp_in i (sN σ a)) (h : EV E M (pc + 1) lv st (e_P σ a i.toNatClampNeg (some b)) v σ') : EV E M pc lv (VR (some b) :: VI i :: VR (some a) :: st) σ v σ' := EV_heap (c0 := 0) (d0 := 0) h rfl rfl fun {p e R s m args below meth c H locs cells slots Q ls} hC hR hc hH hL hl kk => by
  obtain ⟨q1, -⟩ := e_arr hH ha hk ht
  obtain ⟨cellV, g1, g2, g3, -⟩ := e_obj hH hb hkb hX
  have hlt : i.toNatClampNeg < sN σ a := Nat.not_le.mp fun q => hi (Or.inr q)
  have h0 : ¬ i < 0 := fun q => hi (Or.inl q)
  have hcls := (hC.2.2.2.2.2.1.1 ci r hX).2
  obtain ⟨kA, comp, k1, k2, k3, -⟩ := (hC.2.2.2.2.2.1.2.1 t _ ht).2
  have hcomp : comp = e_dC E ci := Option.some.inj (k3.symm.trans hcls.1)
  subst hcomp
  obtain ⟨kC, hkC, -⟩ := hcls.2
  have hlocs : ∀ q ∈ locs ++ [⟨e_b E + a, i.toNatClampNeg⟩], e_b E ≤ q.base := by
    intro q hq
    rcases List.mem_append.mp hq with z | z
    · exact hL q z
    · rw [List.mem_singleton.mp z]
      exact Nat.le_add_right _ _
  have hw : ∀ j', e_v E (.object r.1) (e_P σ a i.toNatClampNeg (some b)) a j' = if j' = i.toNatClampNeg then .ref (e_b E + b) else e_v E (.object r.1) σ a j' := by
    intro j'
    have e : sP (e_P σ a i.toNatClampNeg (some b)) a j' = if j' = i.toNatClampNeg then some b else sP σ a j' := by
      show e_u _ _ _ _ a j' = _
      unfold e_u
      rw [if_pos rfl]
    show e_r E (sP _ a j') = _
    rw [e]
    split
    · show Value.ref (e_f E b) = _
      rw [e_f_in hH hb]
    · rfl
  show W p E.1 e R s m args below meth c H locs cells slots Q (F0 m pc ls (.ref (e_f E b) :: .int i :: .ref (e_f E a) :: st.map (e_w E)))
  rw [e_f_in hH ha, e_f_in hH hb]
  exact W.aast hC.1 hC.2.1 q1 (fun q h => by cases h) (fun h => by cases h) k1 k2 rfl hkC ⟨h0, by rw [arrV_size]; exact hlt⟩ g1 (fun q h => by rw [g3] at h; cases h) (by rw [g2]; exact hkC) (by rw [g2]; exact va_assign hcls) rfl rfl hd fun H' e1 e2 e3 => kk H' _ (e_ast hH ha hk ht (e_same_P _ _ _ _) hw rfl e1 e2 e3) hlocs
/-! new cells -/
theorem e_new_old {σ : eS} {t n w b : Nat} (hb : b ≠ sn σ) : sK (e_new σ t n w) b = sK σ b ∧ sN (e_new σ t n w) b = sN σ b ∧ ∀ (ty : FieldType) (k : Nat), e_v E ty (e_new σ t n w) b k = e_v E ty σ b k := by
  refine ⟨if_neg hb, if_neg hb, fun ty k => ?_⟩
  have h1 : sI (e_new σ t n w) b k = sI σ b k := if_neg hb
  have h2 : sL (e_new σ t n w) b k = sL σ b k := if_neg hb
  have h3 : sP (e_new σ t n w) b k = sP σ b k := if_neg hb
  unfold e_v
  split <;> simp only [h1, h2, h3]
theorem e_new_v {σ : eS} {t n w : Nat} (ty : FieldType) (k : Nat) (hty : ty ≠ .float ∧ ty ≠ .double) : e_v E ty (e_new σ t n w) (sn σ) k = defaultValue ty := by
  have h1 : sI (e_new σ t n w) (sn σ) k = 0 := if_pos rfl
  have h2 : sL (e_new σ t n w) (sn σ) k = 0 := if_pos rfl
  have h3 : sP (e_new σ t n w) (sn σ) k = none := if_pos rfl
  cases ty <;> first | (exact absurd rfl hty.1) | (exact absurd rfl hty.2) | (simp only [e_v, h1, h2, h3]; rfl)
theorem eH_new {t n w : Nat} {H H' : Heap} (hH : eH E σ H) (hb : sn σ < 500000000) (z1 : H'.size = H.size + 1) (o1 : ∀ q, q < H.size → H'[q]? = H[q]?) (hc : e_c E (e_new σ t n w) (sn σ) H') : eH E (e_new σ t n w) H' := by
  obtain ⟨h1, h2, h3, h4⟩ := hH
  refine ⟨by rw [z1, h1]; rfl, by show sn σ + 1 ≤ _; omega, fun b hb2 => ?_, fun q hq => (o1 q (by omega)).trans (h4 q hq)⟩
  by_cases hbs : b = sn σ
  · rw [hbs]; exact hc
  · have hlt : b < sn σ := by
      have : b < sn σ + 1 := hb2
      omega
    obtain ⟨g1, g2, g3⟩ := e_new_old (E := E) (σ := σ) (t := t) (n := n) (w := w) hbs
    have hq : H'[e_b E + b]? = H[e_b E + b]? := o1 _ (by omega)
    unfold e_c
    rw [g1, g2]
    rcases h3 b hlt with ⟨ty, a1, a2, a3, a4⟩ | ⟨r, a1, a2, a3⟩
    · refine Or.inl ⟨ty, a1, a2, ?_, fun j => by rw [g3]; exact a4 j⟩
      rw [hq, a3]
      congr 2
      funext j
      exact (g3 ty j).symm
    · exact Or.inr ⟨r, a1, a2, (a3.kept hq).to (fun k _ => (g3 _ k).symm)⟩
theorem EV_newc {i ci : Nat} {r : vw_C} (hd : decode M.1 pc = .ok (.new i, 3)) (hX : eX ci r) (hcl : Cond.classLink M.2.1 i r.1 ∈ eT) (hin : Cond.instantiable r.1 r.2.2 ∈ eT) (hini : Cond.initialized r.1 ∈ eT) (hty : ∀ k, k < r.2.2 → tyC ci k ≠ .float ∧ tyC ci k ≠ .double) (hb : sn σ < 500000000) (h : EV E M (pc + 3) lv (VR (some (sn σ)) :: st) (e_new σ (100 + ci) 0 r.2.2) v σ') : EV E M pc lv st σ v σ' := EV_heap (c0 := 1) (d0 := r.2.2) h rfl rfl fun {p e R s m args below meth c H locs cells slots Q ls} hC hR hc hH hL hl kk => by
  have hKn := hC.2.2.2.2.2.1.1 ci _ hX.1
  have hT := hC.2.2.2.2.1
  refine W.newcK hC.1 hC.2.1 hC.2.2.2.1 (hT _ hcl) (hT _ hin) (hT _ hini) rfl hd hc.1 hc.2 hKn.2.1 rfl fun H1 kC hkC e1 z1 o1 => ?_
  have hz : H.size = e_b E + sn σ := hH.1
  have key : eH E (e_new σ (100 + ci) 0 r.2.2) H1 := by
    refine eH_new hH hb z1 o1 (Or.inr ?_)
    rw [show sK (e_new σ (100 + ci) 0 r.2.2) (sn σ) = 100 + ci from if_pos rfl, show 100 + ci - 100 = ci by omega]
    refine ⟨r, hX.1, by omega, ?_⟩
    rw [hz] at e1
    exact (u_born (tyC ci) hT hX.2.1 hKn hkC e1 hX.2.2.1).to (fun k hk => (e_new_v _ k (hty k hk)).symm)
  have hk2 := kk H1 locs key hL
  have e : (.ref (e_f E (sn σ)) : Value) = .ref H.size := by rw [hz, e_f_lt (by omega)]
  have e3 : (List.map (e_w E) (VR (some (sn σ)) :: st)) = .ref H.size :: st.map (e_w E) := by
    show (.ref (e_f E (sn σ)) : Value) :: _ = _
    rw [e]
  rw [e3] at hk2
  exact hk2
theorem EV_newa {t : Nat} {atype : ArrayType} {ty : FieldType} {n : Int32} (hd : decode M.1 pc = .ok (.newarray atype, 2)) (hty : newarray.typeOf atype = ty) (ht : aT[t]? = some ty) (hpr : ty = .int ∨ ty = .byte ∨ ty = .boolean ∨ ty = .long) (hw : Cond.arrayClass ty ∈ eT) (hn : ¬ n < 0) (hbytes : n.toNatClampNeg ≤ 60000000) (hb : sn σ < 500000000) (h : EV E M (pc + 2) lv (VR (some (sn σ)) :: st) (e_new σ t n.toNatClampNeg n.toNatClampNeg) v σ') : EV E M pc lv (VI n :: st) σ v σ' := EV_heap (c0 := 1) (d0 := n.toNatClampNeg) h rfl rfl fun {p e R s m args below meth c H locs cells slots Q ls} hC hR hc hH hL hl kk => by
  have hT := hC.2.2.2.2.1
  have hz : H.size = e_b E + sn σ := hH.1
  subst hty
  refine va_newaK hC.1 hC.2.1 (hT _ hw) rfl hd rfl hn rfl ?_ hc.1 hc.2 rfl fun H1 cA e1 z1 o1 hAr hNm => ?_
  · rcases hpr with q | q | q | q <;> rw [q] <;> (simp only [componentBytes]; omega)
  have hcA : cA = e_cA E t := by
    have h2 := (hC.2.2.2.2.2.1.2.1 t _ ht).2
    have h3 : s.vm.findClass ("[" ++ (newarray.typeOf atype).toString) = some (e_cA E t) := by
      rcases hpr with q | q | q | q <;> (rw [q] at h2 ⊢; exact h2)
    exact Option.some.inj (hNm.symm.trans h3)
  have key : eH E (e_new σ t n.toNatClampNeg n.toNatClampNeg) H1 := by
    refine eH_new hH hb z1 o1 (Or.inl ⟨newarray.typeOf atype, ?_, ?_, ?_, fun j => ?_⟩)
    · rw [show sK (e_new σ t n.toNatClampNeg n.toNatClampNeg) (sn σ) = t from if_pos rfl]; exact ht
    · rw [show sK (e_new σ t n.toNatClampNeg n.toNatClampNeg) (sn σ) = t from if_pos rfl]
      have := (List.getElem?_eq_some_iff.mp ht).1
      have e : aT.length < 100 := by decide
      omega
    · rw [show sK (e_new σ t n.toNatClampNeg n.toNatClampNeg) (sn σ) = t from if_pos rfl, show sN (e_new σ t n.toNatClampNeg n.toNatClampNeg) (sn σ) = n.toNatClampNeg from if_pos rfl, ← hz, e1, hcA]
      congr 2
      funext j
      exact (e_new_v _ j (by rcases hpr with q | q | q | q <;> rw [q] <;> exact ⟨(fun h => nomatch h), (fun h => nomatch h)⟩)).symm
    · rw [e_new_v _ j (by rcases hpr with q | q | q | q <;> rw [q] <;> exact ⟨(fun h => nomatch h), (fun h => nomatch h)⟩)]
      rcases hpr with q | q | q | q <;> rw [q] <;> decide
  have hk2 := kk H1 locs key hL
  have e3 : (List.map (e_w E) (VR (some (sn σ)) :: st)) = .ref H.size :: st.map (e_w E) := by
    show (.ref (e_f E (sn σ)) : Value) :: _ = _
    rw [hz, e_f_lt (by omega)]
  rw [e3] at hk2
  exact hk2
theorem EV_anew {t i : Nat} {C : String} {n : Int32} (hd : decode M.1 pc = .ok (.anewarray i, 3)) (ht : aT[t]? = some (.object C)) (hcl : Cond.classLink M.2.1 i C ∈ eT) (hov : Cond.arrayOver (.object C) ∈ lw_tbl) (hn : ¬ n < 0) (hbytes : n.toNatClampNeg ≤ 60000000) (hb : sn σ < 500000000) (h : EV E M (pc + 3) lv (VR (some (sn σ)) :: st) (e_new σ t n.toNatClampNeg n.toNatClampNeg) v σ') : EV E M pc lv (VI n :: st) σ v σ' := EV_heap (c0 := 1) (d0 := n.toNatClampNeg) h rfl rfl fun {p e R s m args below meth c H locs cells slots Q ls} hC hR hc hH hL hl kk => by
  have hT := hC.2.2.2.2.1
  have hz : H.size = e_b E + sn σ := hH.1
  refine W.anew hC.1 hC.2.1 hC.2.2.2.1 (hT _ hcl) (va_AO.use (hC.2.2.2.2.2.1.2.2.2.2.1 _ hov)) rfl hd rfl hn (by omega) hc.1 hc.2 fun cA kA comp h1 h2 h3 h4 => ?_
  have hcA : cA = e_cA E t := by
    obtain ⟨-, -, -, -, -, h5⟩ := (hC.2.2.2.2.2.1.2.1 t _ ht).2
    exact Option.some.inj (h1.symm.trans h5)
  have key : eH E (e_new σ t n.toNatClampNeg n.toNatClampNeg) (H.push { cls := cA, slots := Array.replicate n.toNatClampNeg .null, vm := .none }) := by
    refine eH_new hH hb (by simp) (fun q hq => by rw [Array.getElem?_push, if_neg (Nat.ne_of_lt hq)]) (Or.inl ⟨.object C, ?_, ?_, ?_, fun j => ?_⟩)
    · rw [show sK (e_new σ t n.toNatClampNeg n.toNatClampNeg) (sn σ) = t from if_pos rfl]; exact ht
    · rw [show sK (e_new σ t n.toNatClampNeg n.toNatClampNeg) (sn σ) = t from if_pos rfl]
      have := (List.getElem?_eq_some_iff.mp ht).1
      have e : aT.length < 100 := by decide
      omega
    · rw [show sK (e_new σ t n.toNatClampNeg n.toNatClampNeg) (sn σ) = t from if_pos rfl, show sN (e_new σ t n.toNatClampNeg n.toNatClampNeg) (sn σ) = n.toNatClampNeg from if_pos rfl, ← hz, ← hcA]
      rw [arrV_new]
      simp only [Array.getElem?_push, if_true]
      congr 2
      funext j
      exact (e_new_v (.object C) j ⟨(fun h => nomatch h), (fun h => nomatch h)⟩).symm
    · rw [e_new_v (.object C) j ⟨(fun h => nomatch h), (fun h => nomatch h)⟩]
      rfl
  have hk2 := kk _ locs key hL
  have e3 : (List.map (e_w E) (VR (some (sn σ)) :: st)) = .ref H.size :: st.map (e_w E) := by
    show (.ref (e_f E (sn σ)) : Value) :: _ = _
    rw [hz, e_f_lt (by omega)]
  rw [e3] at hk2
  exact hk2
end EVA
