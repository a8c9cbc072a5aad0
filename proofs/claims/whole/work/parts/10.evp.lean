section EVP
variable {E : eE} {M : eM} {pc : Nat} {lv lv2 : List (Nat × eW)} {st st2 : List eW} {σ σ2 σ' : eS} {v : Option eW}
theorem e_nn (z : Int32) (hz : ¬ z < 0) : z.toInt = (z.toNatClampNeg : Int) := by
  have hz0 : (0 : Int) ≤ z.toInt := by
    have := Int32.not_lt.mp hz
    simpa using Int32.le_iff_toInt_le.mp this
  show z.toInt = ((z.toInt.toNat : Nat) : Int)
  omega
theorem EV_copy {i t a0 a : Nat} {ty : FieldType} {sp dp n : Int32} (hd : decode M.1 pc = .ok (.invokestatic i, 3)) (hlk : Cond.methodLink M.2.1 i arraycopyName ∈ eT) (hna : Cond.native arraycopyName ∈ eT) (hst : Cond.static arraycopyName ∈ eT) (hini : Cond.initialized "java/lang/System" ∈ eT) (ht : aT[t]? = some ty) (hty : ty = .int ∨ ty = .byte ∨ ty = .boolean) (ha0 : a0 < sn σ) (hk0 : sK σ a0 = t) (ha : a < sn σ) (hk : sK σ a = t) (h1 : ¬ sp < 0) (h2 : ¬ dp < 0) (h3 : ¬ n < 0) (h4 : sp.toNatClampNeg + n.toNatClampNeg ≤ sN σ a0) (h5 : dp.toNatClampNeg + n.toNatClampNeg ≤ sN σ a) (hR0 : 1 ≤ M.2.2.2.2.1 ∧ 26 ≤ M.2.2.2.2.2.1) (hrest : e_rest st) (h : EV E M (pc + 3) lv st (e_IR σ a (va_cpy (sI σ a0) (sI σ a) sp.toNatClampNeg dp.toNatClampNeg n.toNatClampNeg)) v σ') : EV E M pc lv (VI n :: VI dp :: VR (some a) :: VI sp :: VR (some a0) :: st) σ v σ' := EV_heap (c0 := 0) (d0 := 0) h rfl rfl fun {p e R s m args below meth c H locs cells slots Q ls} hC hR hc hH hL hl kk => by
  have hT := hC.2.2.2.2.1
  have h8 := e_rest_ok (E := E) (m := m) (pc := pc) (ls := ls) (s0 := []) hrest
  have ev : ∀ (σ : eS) (b : Nat), (fun j => e_v E ty σ b j) = (fun j => Value.int (sI σ b j)) := fun σ b => by
    funext j
    rcases hty with rfl | rfl | rfl <;> rfl
  obtain ⟨q0, f0⟩ := e_arr hH ha0 hk0 ht
  obtain ⟨q1, f1⟩ := e_arr hH ha hk ht
  have hA := (hC.2.2.2.2.2.1.2.1 t ty ht).1
  have hA0 := hA (sN σ a0) (fun j => e_v E ty σ a0 j)
  have hA1 := hA (sN σ a) (fun j => e_v E ty σ a j)
  rw [ev] at q0 q1 hA0 hA1
  obtain ⟨-, k0, hk0', cm0, hkk0⟩ := hA0
  obtain ⟨-, k1, hk1', cm1, hkk1⟩ := hA1
  have e9 : nativeFrameWords "java/lang/System" "arraycopy" 5 = 7 := by decide +kernel
  have h8' : ((st.map (e_w E)).map fun v => v.category).sum ≤ 8 := Nat.le_trans (Nat.le_add_left _ _) h8
  have hprim : refKind ty = false := by rcases hty with rfl | rfl | rfl <;> rfl
  show W p E.1 e R s m args below meth c H locs cells slots Q (F0 m pc ls (.int n :: .int dp :: .ref (e_f E a) :: .int sp :: .ref (e_f E a0) :: st.map (e_w E)))
  rw [e_f_in hH ha, e_f_in hH ha0]
  intro T hT0 X
  obtain ⟨vm', X', step⟩ := X.arraycopy hC.1 hC.2.2.2.1 (hT _ hlk) (hT _ hna) (hT _ hst) (hT _ hini) (src := e_b E + a0) (dst := e_b E + a) (cs := arrV (e_cA E t) (sN σ a0) (fun j => .int (sI σ a0 j))) (cd := arrV (e_cA E t) (sN σ a) (fun j => .int (sI σ a j))) (srcPos := sp) (destPos := dp) (n := n) (by rw [hT0]; exact q0) (by rw [hT0]; exact q1)
    (fun _ h => by cases h) (fun _ h => by cases h) (fun h => by cases h) (fun h => by cases h) hk0' hk1' hkk0 hkk1 (by simp [hprim]) h1 h2 h3
    (by rw [e_nn sp h1, e_nn n h3, arrV_size]; omega)
    (by rw [e_nn dp h2, e_nn n h3, arrV_size]; omega)
    (fun vm₁ _ i hi => by
      have e : (arrV (e_cA E t) (sN σ a0) (fun j => Value.int (sI σ a0 j))).slots.getD (sp.toNatClampNeg + i) .null = .int (sI σ a0 (sp.toNatClampNeg + i)) := by
        rw [Array.getD_eq_getD_getElem?, arrV_read _ _ (by omega)]
        rfl
      refine ⟨?_, ?_⟩
      · rw [e]
        have := f0 (sp.toNatClampNeg + i)
        rcases hty with rfl | rfl | rfl <;> exact this
      · rw [e]
        exact trivial)
    (g := F0 m pc ls (.int n :: .int dp :: .ref (e_b E + a) :: .int sp :: .ref (e_b E + a0) :: st.map (e_w E))) rfl (by rw [hC.2.2.1]; exact hl.1) (rest := st.map (e_w E)) rfl (by rw [hC.2.1]; exact hd) (Nat.le_trans hR0.1 hR.1) (by show 2 * 0 + _ + (nativeFrameWords "java/lang/System" "arraycopy" 5 + 11) ≤ _; rw [e9]; have := hR.2; omega)
  have e1 : copied (arrV (e_cA E t) (sN σ a0) (fun j => Value.int (sI σ a0 j))) (arrV (e_cA E t) (sN σ a) (fun j => Value.int (sI σ a j))) sp dp n = arrV (e_cA E t) (sN σ a) (fun j => Value.int (va_cpy (sI σ a0) (sI σ a) sp.toNatClampNeg dp.toNatClampNeg n.toNatClampNeg j)) := va_copied (fun z => .int z) _ _ _ _ h4
  rw [e1] at X' step
  have hlt : e_b E + a < H.size := (Array.getElem?_eq_some_iff.mp q1).1
  have oq : ∀ q : Nat, q ≠ e_b E + a → (H.setIfInBounds (e_b E + a) (arrV (e_cA E t) (sN σ a) (fun j => Value.int (va_cpy (sI σ a0) (sI σ a) sp.toNatClampNeg dp.toNatClampNeg n.toNatClampNeg j))))[q]? = H[q]? := fun q hq => by simp [Array.getElem?_setIfInBounds, Ne.symm hq]
  have key : eH E (e_IR σ a (va_cpy (sI σ a0) (sI σ a) sp.toNatClampNeg dp.toNatClampNeg n.toNatClampNeg)) (H.setIfInBounds (e_b E + a) (arrV (e_cA E t) (sN σ a) (fun j => Value.int (va_cpy (sI σ a0) (sI σ a) sp.toNatClampNeg dp.toNatClampNeg n.toNatClampNeg j)))) := by
    refine eH_put hH (e_same_IR _ _ _) (by simp) oq (Or.inl ⟨ty, ?_, ?_, ?_, fun j => ?_⟩)
    · show aT[sK σ a]? = _
      rw [hk]; exact ht
    · show sK σ a < 100
      rw [hk]
      have := (List.getElem?_eq_some_iff.mp ht).1
      have e : aT.length < 100 := by decide
      omega
    · rw [ev]
      show _ = some (arrV (e_cA E (sK σ a)) (sN σ a) _)
      rw [hk, Array.getElem?_setIfInBounds, if_pos rfl, if_pos hlt]
      congr 2
      funext j
      show _ = Value.int (e_row _ _ _ a j)
      unfold e_row
      rw [if_pos rfl]
    · have e0 : e_v E ty (e_IR σ a (va_cpy (sI σ a0) (sI σ a) sp.toNatClampNeg dp.toNatClampNeg n.toNatClampNeg)) a j = .int (va_cpy (sI σ a0) (sI σ a) sp.toNatClampNeg dp.toNatClampNeg n.toNatClampNeg j) := by
        rw [show e_v E ty _ a j = (fun j => e_v E ty (e_IR σ a (va_cpy (sI σ a0) (sI σ a) sp.toNatClampNeg dp.toNatClampNeg n.toNatClampNeg)) a j) j from rfl, ev]
        show Value.int (e_row _ _ _ a j) = _
        unfold e_row
        rw [if_pos rfl]
      rw [e0]
      unfold va_cpy
      have ev1 : ∀ (b j : Nat), e_v E ty σ b j = Value.int (sI σ b j) := fun b j => congrFun (ev σ b) j
      split
      · have := f0 (sp.toNatClampNeg + (j - dp.toNatClampNeg))
        rw [ev1] at this
        exact this
      · have := f1 j
        rw [ev1] at this
        exact this
  obtain ⟨t, a1, b1⟩ := kk _ _ key (fun q hq => by
      rcases List.mem_append.mp hq with h | h
      · exact hL q h
      · obtain ⟨z, -, hz⟩ := List.mem_map.mp h
        rw [← hz]
        exact Nat.le_add_right _ _) _ (by rw [← hT0]; rfl) X'
  exact ⟨t, step t a1, b1⟩
/-! ===== the operations of the methods' own functions, and their rules ===== -/
def g_I (σ : eS) (t k a : Nat) : Option Int32 := if a < sn σ ∧ sK σ a = t then some (sI σ a k) else none
def g_P (σ : eS) (t k a : Nat) : Option (Option Nat) := if a < sn σ ∧ sK σ a = t then some (sP σ a k) else none
def p_I (σ : eS) (t k a : Nat) (x : Int32) : Option eS := if a < sn σ ∧ sK σ a = t then some (e_I σ a k x) else none
def p_Z (σ : eS) (t k a : Nat) (x : Int32) : Option eS := if (a < sn σ ∧ sK σ a = t) ∧ (x = 0 ∨ x = 1) then some (e_I σ a k x) else none
def p_P (σ : eS) (t k a : Nat) (x : Option Nat) : Option eS := if a < sn σ ∧ sK σ a = t then some (e_P σ a k x) else none
def a_I (σ : eS) (t a : Nat) (i : Int32) : Option Int32 := if (a < sn σ ∧ sK σ a = t) ∧ ¬ i < 0 ∧ i.toNatClampNeg < sN σ a then some (sI σ a i.toNatClampNeg) else none
def a_L (σ : eS) (t a : Nat) (i : Int32) : Option Int64 := if (a < sn σ ∧ sK σ a = t) ∧ ¬ i < 0 ∧ i.toNatClampNeg < sN σ a then some (sL σ a i.toNatClampNeg) else none
def a_P (σ : eS) (t a : Nat) (i : Int32) : Option (Option Nat) := if (a < sn σ ∧ sK σ a = t) ∧ ¬ i < 0 ∧ i.toNatClampNeg < sN σ a then some (sP σ a i.toNatClampNeg) else none
def s_I (σ : eS) (t a : Nat) (i x : Int32) : Option eS := if (a < sn σ ∧ sK σ a = t) ∧ ¬ i < 0 ∧ i.toNatClampNeg < sN σ a then some (e_I σ a i.toNatClampNeg x) else none
def s_B (σ : eS) (t a : Nat) (i x : Int32) : Option eS := s_I σ t a i x.toInt8.toInt32
def s_Z (σ : eS) (t a : Nat) (i x : Int32) : Option eS := s_I σ t a i (x &&& 1)
def s_L (σ : eS) (t a : Nat) (i : Int32) (x : Int64) : Option eS := if (a < sn σ ∧ sK σ a = t) ∧ ¬ i < 0 ∧ i.toNatClampNeg < sN σ a then some (e_L σ a i.toNatClampNeg x) else none
def s_P (σ : eS) (t tb a : Nat) (i : Int32) (b : Nat) : Option eS := if (a < sn σ ∧ sK σ a = t) ∧ (¬ i < 0 ∧ i.toNatClampNeg < sN σ a) ∧ (b < sn σ ∧ sK σ b = tb) then some (e_P σ a i.toNatClampNeg (some b)) else none
def n_O (σ : eS) (t w : Nat) : Option (Nat × eS) := if sn σ < 500000000 then some (sn σ, e_new σ t 0 w) else none
def n_A (σ : eS) (t : Nat) (n : Int32) : Option (Nat × eS) := if sn σ < 500000000 ∧ ¬ n < 0 ∧ n.toNatClampNeg ≤ 60000000 then some (sn σ, e_new σ t n.toNatClampNeg n.toNatClampNeg) else none
def c_I (σ : eS) (t a0 : Nat) (sp : Int32) (a : Nat) (dp n : Int32) : Option eS := if (a0 < sn σ ∧ sK σ a0 = t) ∧ (a < sn σ ∧ sK σ a = t) ∧ (¬ sp < 0 ∧ ¬ dp < 0 ∧ ¬ n < 0) ∧ sp.toNatClampNeg + n.toNatClampNeg ≤ sN σ a0 ∧ dp.toNatClampNeg + n.toNatClampNeg ≤ sN σ a then some (e_IR σ a (va_cpy (sI σ a0) (sI σ a) sp.toNatClampNeg dp.toNatClampNeg n.toNatClampNeg)) else none
def o_K (σ : eS) (t a : Nat) : Option Unit := if a < sn σ ∧ sK σ a = t then some () else none
def l_A (σ : eS) (t a : Nat) : Option Int32 := if a < sn σ ∧ sK σ a = t then some (Nat.toInt32 (sN σ a)) else none
theorem e_if {c : Prop} [Decidable c] {α : Type} {x y : α} (h : (if c then some x else none) = some y) : c ∧ x = y := by
  by_cases hc : c
  · rw [if_pos hc] at h
    exact ⟨hc, Option.some.inj h⟩
  · rw [if_neg hc] at h
    cases h
theorem e_vin {i : Int32} {n : Nat} (h : ¬ i < 0 ∧ i.toNatClampNeg < n) : vp_in i n := fun z => z.elim h.1 (fun q => by omega)
def e_isI (ty : FieldType) : Bool := match ty with
  | .int => true
  | .byte => true
  | .boolean => true
  | _ => false
def e_isP (ty : FieldType) : Bool := match ty with
  | .object _ => true
  | .array _ => true
  | _ => false
theorem e_vI {ty : FieldType} (h : e_isI ty = true) (σ : eS) (a k : Nat) : e_v E ty σ a k = .int (sI σ a k) := by
  cases ty <;> first | (cases h; done) | rfl
theorem e_vP {ty : FieldType} (h : e_isP ty = true) (σ : eS) (a k : Nat) : e_v E ty σ a k = e_r E (sP σ a k) := by
  cases ty <;> first | (cases h; done) | rfl
theorem EV_getI {i ci k a : Nat} {x : Int32} (hd : decode M.1 pc = .ok (.getfield i, 3)) (hf : eF M.2.1 i ci k) (hty : e_isI (tyC ci k) = true) (hg : g_I σ (100 + ci) k a = some x) (h : EV E M (pc + 3) lv (VI x :: st) σ v σ') : EV E M pc lv (VR (some a) :: st) σ v σ' := by
  obtain ⟨⟨h1, h2⟩, h3⟩ := e_if hg
  exact EV_getf hd hf h1 h2 (by rw [e_vI hty, h3]; rfl) h
theorem EV_getP {i ci k a : Nat} {x : Option Nat} (hd : decode M.1 pc = .ok (.getfield i, 3)) (hf : eF M.2.1 i ci k) (hty : e_isP (tyC ci k) = true) (hg : g_P σ (100 + ci) k a = some x) (h : EV E M (pc + 3) lv (VR x :: st) σ v σ') : EV E M pc lv (VR (some a) :: st) σ v σ' := by
  obtain ⟨⟨h1, h2⟩, h3⟩ := e_if hg
  exact EV_getf hd hf h1 h2 (by rw [e_vP hty, h3]; rfl) h
theorem e_wI {a k : Nat} {x : Int32} {ci : Nat} (hty : e_isI (tyC ci k) = true) (j : Nat) : e_v E (tyC ci j) (e_I σ a k x) a j = if j = k then e_w E (VI x) else e_v E (tyC ci j) σ a j := by
  by_cases hj : j = k
  · subst hj
    rw [if_pos rfl, e_vI hty]
    show Value.int (e_u _ _ _ _ a j) = _
    unfold e_u
    rw [if_pos rfl, if_pos rfl]
    rfl
  · rw [if_neg hj]
    have e1 : sI (e_I σ a k x) a j = sI σ a j := by
      show e_u _ _ _ _ a j = _
      unfold e_u
      rw [if_pos rfl, if_neg hj]
    unfold e_v
    split <;> first | rfl | (rw [e1])
theorem e_wP {a k : Nat} {x : Option Nat} {ci : Nat} (hty : e_isP (tyC ci k) = true) (j : Nat) : e_v E (tyC ci j) (e_P σ a k x) a j = if j = k then e_w E (VR x) else e_v E (tyC ci j) σ a j := by
  by_cases hj : j = k
  · subst hj
    rw [if_pos rfl, e_vP hty]
    show e_r E (e_u _ _ _ _ a j) = _
    unfold e_u
    rw [if_pos rfl, if_pos rfl]
    rfl
  · rw [if_neg hj]
    have e1 : sP (e_P σ a k x) a j = sP σ a j := by
      show e_u _ _ _ _ a j = _
      unfold e_u
      rw [if_pos rfl, if_neg hj]
    unfold e_v
    split <;> first | rfl | (rw [e1])
theorem EV_putI {i ci k a : Nat} {x : Int32} (hd : decode M.1 pc = .ok (.putfield i, 3)) (hf : eFp M.2.1 M.2.2.2.1 i ci k) (hty : tyC ci k = .int) (hg : p_I σ (100 + ci) k a x = some σ2) (h : EV E M (pc + 3) lv st σ2 v σ') : EV E M pc lv (VI x :: VR (some a) :: st) σ v σ' := by
  obtain ⟨⟨h1, h2⟩, h3⟩ := e_if hg
  subst h3
  exact EV_putf hd hf h1 h2 (e_same_I _ _ _ _) (fun j => e_wI (by rw [hty]; rfl) j) (by rw [hty]; rfl) (by rw [hty]; rfl) h
theorem EV_putZ {i ci k a : Nat} {x : Int32} (hd : decode M.1 pc = .ok (.putfield i, 3)) (hf : eFp M.2.1 M.2.2.2.1 i ci k) (hty : tyC ci k = .boolean) (hg : p_Z σ (100 + ci) k a x = some σ2) (h : EV E M (pc + 3) lv st σ2 v σ') : EV E M pc lv (VI x :: VR (some a) :: st) σ v σ' := by
  obtain ⟨⟨⟨h1, h2⟩, h4⟩, h3⟩ := e_if hg
  subst h3
  exact EV_putf hd hf h1 h2 (e_same_I _ _ _ _) (fun j => e_wI (by rw [hty]; rfl) j) (by rw [hty]; rcases h4 with rfl | rfl <;> rfl) (by rw [hty]; rcases h4 with rfl | rfl <;> rfl) h
theorem EV_putP {i ci k a : Nat} {x : Option Nat} (hd : decode M.1 pc = .ok (.putfield i, 3)) (hf : eFp M.2.1 M.2.2.2.1 i ci k) (hty : e_isP (tyC ci k) = true) (hg : p_P σ (100 + ci) k a x = some σ2) (h : EV E M (pc + 3) lv st σ2 v σ') : EV E M pc lv (VR x :: VR (some a) :: st) σ v σ' := by
  obtain ⟨⟨h1, h2⟩, h3⟩ := e_if hg
  subst h3
  refine EV_putf hd hf h1 h2 (e_same_P _ _ _ _) (fun j => e_wP hty j) ?_ ?_ h
  · cases hq : tyC ci k <;> (rw [hq] at hty; first | (cases hty; done) | (cases x <;> rfl))
  · cases hq : tyC ci k <;> (rw [hq] at hty; first | (cases hty; done) | (cases x <;> rfl))
theorem EV_aI {t a : Nat} {ty : FieldType} {i x : Int32} (ht : aT[t]? = some ty) (hty : ty = .int ∨ ty = .byte ∨ ty = .boolean) (hd : decode M.1 pc = .ok (e_ldi ty, 1)) (hg : a_I σ t a i = some x) (h : EV E M (pc + 1) lv (VI x :: st) σ v σ') : EV E M pc lv (VI i :: VR (some a) :: st) σ v σ' := by
  obtain ⟨⟨⟨h1, h2⟩, h4⟩, h3⟩ := e_if hg
  exact EV_ald ⟨ht, by rcases hty with q | q | q <;> simp [q]⟩ hd h1 h2 (e_vin h4) (by rw [e_vI (by rcases hty with q | q | q <;> rw [q] <;> rfl), h3]; rfl) h
theorem EV_aL {t a : Nat} {i : Int32} {x : Int64} (ht : aT[t]? = some .long) (hd : decode M.1 pc = .ok (.laload, 1)) (hg : a_L σ t a i = some x) (h : EV E M (pc + 1) lv (VL x :: st) σ v σ') : EV E M pc lv (VI i :: VR (some a) :: st) σ v σ' := by
  obtain ⟨⟨⟨h1, h2⟩, h4⟩, h3⟩ := e_if hg
  exact EV_ald (ty := .long) ⟨ht, by simp⟩ hd h1 h2 (e_vin h4) (by rw [← h3]; rfl) h
theorem EV_aP {t a : Nat} {C : String} {i : Int32} {x : Option Nat} (ht : aT[t]? = some (.object C)) (hd : decode M.1 pc = .ok (.aaload, 1)) (hg : a_P σ t a i = some x) (h : EV E M (pc + 1) lv (VR x :: st) σ v σ') : EV E M pc lv (VI i :: VR (some a) :: st) σ v σ' := by
  obtain ⟨⟨⟨h1, h2⟩, h4⟩, h3⟩ := e_if hg
  exact EV_ald (ty := .object C) ⟨ht, by simp⟩ hd h1 h2 (e_vin h4) (by rw [← h3]; rfl) h
theorem EV_sI {t a : Nat} {i x : Int32} (ht : aT[t]? = some .int) (hd : decode M.1 pc = .ok (.iastore, 1)) (hg : s_I σ t a i x = some σ2) (h : EV E M (pc + 1) lv st σ2 v σ') : EV E M pc lv (VI x :: VI i :: VR (some a) :: st) σ v σ' := by
  obtain ⟨⟨⟨h1, h2⟩, h4⟩, h3⟩ := e_if hg
  subst h3
  exact EV_astI ht (Or.inl rfl) hd h1 h2 (e_vin h4) rfl h
theorem EV_sB {t a : Nat} {i x : Int32} (ht : aT[t]? = some .byte) (hd : decode M.1 pc = .ok (.bastore, 1)) (hg : s_B σ t a i x = some σ2) (h : EV E M (pc + 1) lv st σ2 v σ') : EV E M pc lv (VI x :: VI i :: VR (some a) :: st) σ v σ' := by
  obtain ⟨⟨⟨h1, h2⟩, h4⟩, h3⟩ := e_if hg
  subst h3
  exact EV_astI ht (Or.inr (Or.inl rfl)) hd h1 h2 (e_vin h4) rfl h
theorem EV_sZ {t a : Nat} {i x : Int32} (ht : aT[t]? = some .boolean) (hd : decode M.1 pc = .ok (.bastore, 1)) (hg : s_Z σ t a i x = some σ2) (h : EV E M (pc + 1) lv st σ2 v σ') : EV E M pc lv (VI x :: VI i :: VR (some a) :: st) σ v σ' := by
  obtain ⟨⟨⟨h1, h2⟩, h4⟩, h3⟩ := e_if hg
  subst h3
  exact EV_astI ht (Or.inr (Or.inr rfl)) hd h1 h2 (e_vin h4) rfl h
theorem EV_sL {t a : Nat} {i : Int32} {x : Int64} (ht : aT[t]? = some .long) (hd : decode M.1 pc = .ok (.lastore, 1)) (hg : s_L σ t a i x = some σ2) (h : EV E M (pc + 1) lv st σ2 v σ') : EV E M pc lv (VL x :: VI i :: VR (some a) :: st) σ v σ' := by
  obtain ⟨⟨⟨h1, h2⟩, h4⟩, h3⟩ := e_if hg
  subst h3
  exact EV_astL ht hd h1 h2 (e_vin h4) h
theorem EV_sP {t a b ci : Nat} {r : vw_C} {i : Int32} (hX : vwCl[ci]? = some r) (ht : aT[t]? = some (.object r.1)) (hd : decode M.1 pc = .ok (.aastore, 1)) (hg : s_P σ t (100 + ci) a i b = some σ2) (h : EV E M (pc + 1) lv st σ2 v σ') : EV E M pc lv (VR (some b) :: VI i :: VR (some a) :: st) σ v σ' := by
  obtain ⟨⟨⟨h1, h2⟩, h4, h5, h6⟩, h3⟩ := e_if hg
  subst h3
  exact EV_astP hX ht hd h1 h2 h5 h6 (e_vin h4) h
theorem EV_nO {i ci q w : Nat} {r : vw_C} (hd : decode M.1 pc = .ok (.new i, 3)) (hX : eX ci r) (hN : r.2.2 = w) (hcl : Cond.classLink M.2.1 i r.1 ∈ eT) (hin : Cond.instantiable r.1 r.2.2 ∈ eT) (hini : Cond.initialized r.1 ∈ eT) (hty : ∀ k, k < r.2.2 → tyC ci k ≠ .float ∧ tyC ci k ≠ .double) (hg : n_O σ (100 + ci) w = some (q, σ2)) (h : EV E M (pc + 3) lv (VR (some q) :: st) σ2 v σ') : EV E M pc lv st σ v σ' := by
  obtain ⟨h1, h3⟩ := e_if hg
  cases h3
  subst hN
  exact EV_newc hd hX hcl hin hini hty h1 h
theorem EV_nA {t q : Nat} {atype : ArrayType} {ty : FieldType} {n : Int32} (hd : decode M.1 pc = .ok (.newarray atype, 2)) (hty : newarray.typeOf atype = ty) (ht : aT[t]? = some ty) (hpr : ty = .int ∨ ty = .byte ∨ ty = .boolean ∨ ty = .long) (hw : Cond.arrayClass ty ∈ eT) (hg : n_A σ t n = some (q, σ2)) (h : EV E M (pc + 2) lv (VR (some q) :: st) σ2 v σ') : EV E M pc lv (VI n :: st) σ v σ' := by
  obtain ⟨⟨h1, h2, h4⟩, h3⟩ := e_if hg
  cases h3
  exact EV_newa hd hty ht hpr hw h2 h4 h1 h
theorem EV_nR {t i q : Nat} {C : String} {n : Int32} (hd : decode M.1 pc = .ok (.anewarray i, 3)) (ht : aT[t]? = some (.object C)) (hcl : Cond.classLink M.2.1 i C ∈ eT) (hov : Cond.arrayOver (.object C) ∈ lw_tbl) (hg : n_A σ t n = some (q, σ2)) (h : EV E M (pc + 3) lv (VR (some q) :: st) σ2 v σ') : EV E M pc lv (VI n :: st) σ v σ' := by
  obtain ⟨⟨h1, h2, h4⟩, h3⟩ := e_if hg
  cases h3
  exact EV_anew hd ht hcl hov h2 h4 h1 h
theorem EV_cI {i t a0 a : Nat} {ty : FieldType} {sp dp n : Int32} (hd : decode M.1 pc = .ok (.invokestatic i, 3)) (hlk : Cond.methodLink M.2.1 i arraycopyName ∈ eT) (hna : Cond.native arraycopyName ∈ eT) (hst : Cond.static arraycopyName ∈ eT) (hini : Cond.initialized "java/lang/System" ∈ eT) (ht : aT[t]? = some ty) (hty : ty = .int ∨ ty = .byte ∨ ty = .boolean) (hR0 : 1 ≤ M.2.2.2.2.1 ∧ 26 ≤ M.2.2.2.2.2.1) (hrest : e_rest st) (hg : c_I σ t a0 sp a dp n = some σ2) (h : EV E M (pc + 3) lv st σ2 v σ') : EV E M pc lv (VI n :: VI dp :: VR (some a) :: VI sp :: VR (some a0) :: st) σ v σ' := by
  obtain ⟨⟨⟨h1, h2⟩, ⟨h3, h4⟩, ⟨h5, h6, h7⟩, h8, h9⟩, h10⟩ := e_if hg
  subst h10
  exact EV_copy hd hlk hna hst hini ht hty h1 h2 h3 h4 h5 h6 h7 h8 h9 hR0 hrest h
def b1 {α β : Type} (o : Option α) (k : α → Option β) : Option β := match o with
  | none => none
  | some x => k x
def b2 {α β : Type} (o : Option (α × eS)) (k : α → eS → Option β) : Option β := match o with
  | none => none
  | some q => k q.1 q.2
theorem b1_some {α β : Type} {o : Option α} {k : α → Option β} {y : β} (h : b1 o k = some y) : ∃ x, o = some x ∧ k x = some y := by
  cases o with
  | none => cases h
  | some x => exact ⟨x, rfl, h⟩
theorem b2_some {α β : Type} {o : Option (α × eS)} {k : α → eS → Option β} {y : β} (h : b2 o k = some y) : ∃ x σ, o = some (x, σ) ∧ k x σ = some y := by
  cases o with
  | none => cases h
  | some q => exact ⟨q.1, q.2, rfl, h⟩
def o_Z (x : Int32) : Option Unit := if x = 0 ∨ x = 1 then some () else none
def o_N (x : Int32) : Option Unit := if x = 0 then none else some ()
def o_R (x y : Option Nat) : Option Unit := if x.getD 0 < 1000000000 ∧ y.getD 0 < 1000000000 then some () else none
theorem o_N_ne {x : Int32} {u : Unit} (h : o_N x = some u) : ¬ x = 0 := fun z => by
  unfold o_N at h
  rw [if_pos z] at h
  cases h
theorem o_Z_n {x : Int32} {u : Unit} (h : o_Z x = some u) : narrow .boolean (.int x) = .int x := by
  obtain ⟨z, -⟩ := e_if h
  rcases z with rfl | rfl <;> rfl
theorem EV_pick (ks : List Nat) (hl : ks.filterMap (fun k => lv[k]?) = lv2) (h : EV E M pc lv2 st σ v σ') : EV E M pc lv st σ v σ' := EV_lv h fun q hq => by
  subst hl
  obtain ⟨i, -, hi⟩ := List.mem_filterMap.mp hq
  exact List.mem_of_getElem? hi
end EVP
