section EVH
variable {E : eE} {M : eM} {pc : Nat} {lv lv2 : List (Nat × eW)} {st st2 : List eW} {σ σ2 σ' : eS} {v : Option eW}
/-- a step that changes the store, c0 cells of d0 slots come -/
theorem EV_heap {pc2 c0 d0 : Nat} (h : EV E M pc2 lv st2 σ2 v σ') (hc0 : sn σ2 = sn σ + c0) (hd0 : ss σ2 = ss σ + d0) (go : ∀ {p : Program} {e : Env} {R : Room} {s : State} {m : MethodId} {args : Array Value} {below : List Frame} {meth : Method} {c : Code} {H : Heap} {locs : List Loc} {cells slots : Nat} {Q : State → Prop} {ls : Array Slot}, eC E M p s m args meth c → (M.2.2.2.2.1 ≤ R.frames ∧ M.2.2.2.2.2.1 ≤ R.locals) → (cells + c0 ≤ R.cells ∧ slots + d0 ≤ R.slots) → eH E σ H → (∀ q ∈ locs, e_b E ≤ q.base) → lv_has ls M.2.2.1 (e_lv E lv) →
    (∀ (H' : Heap) (locs' : List Loc), eH E σ2 H' → (∀ q ∈ locs', e_b E ≤ q.base) → W p E.1 e R s m args below meth c H' locs' (cells + c0) (slots + d0) Q (F0 m pc2 ls (st2.map (e_w E)))) → W p E.1 e R s m args below meth c H locs cells slots Q (F0 m pc ls (st.map (e_w E)))) : EV E M pc lv st σ v σ' := by
  obtain ⟨⟨h1, h2⟩, h3⟩ := h
  refine ⟨⟨by omega, by omega⟩, fun p e R s m args below meth c H locs cells slots Q ls hC hR hc hH hL hl k => go hC hR ⟨by omega, by omega⟩ hH hL hl (fun H' locs' hH' hL' => ?_)⟩
  have e1 : cells + c0 + (sn σ' - sn σ2) = cells + (sn σ' - sn σ) := by omega
  have e2 : slots + d0 + (ss σ' - ss σ2) = slots + (ss σ' - ss σ) := by omega
  refine h3 p e R s m args below meth c H' locs' (cells + c0) (slots + d0) Q ls hC hR ⟨by omega, by omega⟩ hH' hL' hl (fun H2 locs2 ls2 pc3 a1 a2 a3 => ?_)
  rw [e1, e2]
  exact k H2 locs2 ls2 pc3 a1 a2 a3
def e_same (σ σ2 : eS) (a : Nat) : Prop := sK σ2 = sK σ ∧ sN σ2 = sN σ ∧ sn σ2 = sn σ ∧ ss σ2 = ss σ ∧ ∀ b, b ≠ a → sI σ2 b = sI σ b ∧ sL σ2 b = sL σ b ∧ sP σ2 b = sP σ b
theorem e_same_I (σ : eS) (a k : Nat) (x : Int32) : e_same σ (e_I σ a k x) a := ⟨rfl, rfl, rfl, rfl, fun b hb => ⟨by funext j; show e_u _ _ _ _ b j = _; unfold e_u; rw [if_neg hb], rfl, rfl⟩⟩
theorem e_same_L (σ : eS) (a k : Nat) (x : Int64) : e_same σ (e_L σ a k x) a := ⟨rfl, rfl, rfl, rfl, fun b hb => ⟨rfl, by funext j; show e_u _ _ _ _ b j = _; unfold e_u; rw [if_neg hb], rfl⟩⟩
theorem e_same_P (σ : eS) (a k : Nat) (x : Option Nat) : e_same σ (e_P σ a k x) a := ⟨rfl, rfl, rfl, rfl, fun b hb => ⟨rfl, rfl, by funext j; show e_u _ _ _ _ b j = _; unfold e_u; rw [if_neg hb]⟩⟩
theorem e_same_IR (σ : eS) (a : Nat) (g : Nat → Int32) : e_same σ (e_IR σ a g) a := ⟨rfl, rfl, rfl, rfl, fun b hb => ⟨by funext j; show e_row _ _ _ b j = _; unfold e_row; rw [if_neg hb], rfl, rfl⟩⟩
theorem e_v_same {a : Nat} (hs : e_same σ σ2 a) (ty : FieldType) {b : Nat} (hb : b ≠ a) (k : Nat) : e_v E ty σ2 b k = e_v E ty σ b k := by
  obtain ⟨-, -, -, -, h⟩ := hs
  obtain ⟨h1, h2, h3⟩ := h b hb
  unfold e_v
  split <;> simp only [h1, h2, h3]
theorem e_c_kept {a : Nat} (hs : e_same σ σ2 a) {b : Nat} (hb : b ≠ a) {H H' : Heap} (h : e_c E σ b H) (hq : H'[e_b E + b]? = H[e_b E + b]?) : e_c E σ2 b H' := by
  have hv : ∀ ty : FieldType, (fun j => e_v E ty σ2 b j) = (fun j => e_v E ty σ b j) := fun ty => funext (fun j => e_v_same hs ty hb j)
  unfold e_c
  rw [hs.1, hs.2.1]
  rcases h with ⟨ty, h1, h2, h3, h4⟩ | ⟨r, h1, h2, h3⟩
  · refine Or.inl ⟨ty, h1, h2, ?_, fun j => by rw [e_v_same hs ty hb j]; exact h4 j⟩
    rw [hv ty, hq]
    exact h3
  · refine Or.inr ⟨r, h1, h2, ?_⟩
    exact (h3.kept hq).to (fun k _ => (e_v_same hs _ hb k).symm)
theorem eH_put {a : Nat} {H H' : Heap} (hH : eH E σ H) (hs : e_same σ σ2 a) (hz : H'.size = H.size) (ho : ∀ q, q ≠ e_b E + a → H'[q]? = H[q]?) (hc : e_c E σ2 a H') : eH E σ2 H' := by
  obtain ⟨h1, h2, h3, h4⟩ := hH
  refine ⟨by rw [hz, h1, hs.2.2.1], by rw [hs.2.2.1]; exact h2, fun b hb => ?_, fun q hq => (ho q (by omega)).trans (h4 q hq)⟩
  rw [hs.2.2.1] at hb
  by_cases hba : b = a
  · rw [hba]; exact hc
  · exact e_c_kept hs hba (h3 b hb) (ho _ (by omega))
theorem e_f_lt {a : Nat} (h : a < 1000000000) : e_f E a = e_b E + a := by unfold e_f; rw [if_pos h]
theorem e_f_in {a : Nat} {H : Heap} (hH : eH E σ H) (h : a < sn σ) : e_f E a = e_b E + a := e_f_lt (by have := hH.2.1; omega)
/-! objects -/
def eX (ci : Nat) (r : vw_C) : Prop := vwCl[ci]? = some r ∧ (∀ w ∈ u_ws r.1 r.2.1 r.2.2, w ∈ eT) ∧ (∀ k, k < r.2.2 → parseFieldDescriptor (r.2.1 k).2.2.1 = some (tyC ci k)) ∧ ∀ a, a < r.2.2 → ∀ b, b < r.2.2 → a ≠ b → (r.2.1 a).2.1 ≠ (r.2.1 b).2.1
def eF (own : String) (i ci k : Nat) : Prop := ∃ r, eX ci r ∧ k < r.2.2 ∧ Cond.fieldLink own i r.1 (r.2.1 k).2.1 (r.2.1 k).2.2.1 ∈ eT ∧ (r.2.1 k).1 = r.1
def eFp (own : String) (ini : Bool) (i ci k : Nat) : Prop := ∃ r, eX ci r ∧ k < r.2.2 ∧ Cond.fieldLink own i r.1 (r.2.1 k).2.1 (r.2.1 k).2.2.1 ∈ eT ∧ (r.2.1 k).1 = r.1 ∧ ((r.2.1 k).2.2.2 = false ∨ ((r.2.1 k).2.2.2 = true ∧ ini = true ∧ r.1 = own))
theorem e_obj {a ci : Nat} {r : vw_C} {H : Heap} (hH : eH E σ H) (ha : a < sn σ) (hk : sK σ a = 100 + ci) (hX : vwCl[ci]? = some r) : t_OB (e_b E + a) (e_dC E ci) r.2.2 (e_dI E ci) H (fun k => e_v E (tyC ci k) σ a k) := by
  rcases hH.2.2.1 a ha with ⟨ty, h1, h2, h3⟩ | ⟨r', h1, h2, h3⟩
  · omega
  · have e : sK σ a - 100 = ci := by omega
    rw [e] at h1 h3
    cases h1.symm.trans hX
    exact h3
theorem e_arr {a t : Nat} {ty : FieldType} {H : Heap} (hH : eH E σ H) (ha : a < sn σ) (hk : sK σ a = t) (ht : aT[t]? = some ty) : H[e_b E + a]? = some (arrV (e_cA E t) (sN σ a) (fun j => e_v E ty σ a j)) ∧ ∀ j, fits ty (e_v E ty σ a j) = true := by
  have hlt : t < 100 := by
    have := (List.getElem?_eq_some_iff.mp ht).1
    have e : aT.length < 100 := by decide
    omega
  rcases hH.2.2.1 a ha with ⟨ty', h1, h2, h3, h4⟩ | ⟨r', h1, h2, h3⟩
  · rw [hk] at h1 h3
    cases h1.symm.trans ht
    exact ⟨h3, h4⟩
  · omega
/-- a field's value is read -/
theorem EV_getf {i ci k a : Nat} {w : eW} (hd : decode M.1 pc = .ok (.getfield i, 3)) (hf : eF M.2.1 i ci k) (ha : a < sn σ) (hk : sK σ a = 100 + ci) (hw : e_v E (tyC ci k) σ a k = e_w E w) (h : EV E M (pc + 3) lv (w :: st) σ v σ') : EV E M pc lv (VR (some a) :: st) σ v σ' := EV_step h fun {p e R s m args below meth c H locs cells slots Q ls} hC hR hc hH hl kk => by
  obtain ⟨r, ⟨hX, hin, -, -⟩, hkN, hlk, hdec⟩ := hf
  obtain ⟨cell, q1, q2, q3, q4⟩ := e_obj hH ha hk hX
  obtain ⟨hS, hfc, kC, hkC, hkind⟩ := hC.2.2.2.2.2.1.1 ci _ hX
  obtain ⟨cf, kf, fi, f, hi, hsl⟩ := hS k hkN
  rw [hdec] at hi
  have hl2 := u_lays hC.2.2.2.2.1 hin hkN
  rw [hdec] at hl2
  show W p E.1 e R s m args below meth c H locs cells slots Q (F0 m pc ls (.ref (e_f E a) :: st.map (e_w E)))
  rw [e_f_in hH ha]
  refine W.getf hC.1 hC.2.1 hC.2.2.2.1 (hC.2.2.2.2.1 _ hlk) hi (u_facts hfc hkC hl2 hi).1 q1 (by rw [q3]; exact fun h => by cases h) (v := e_w E w) ?_ rfl rfl hd (kk ls hl)
  rw [hsl, q4 k hkN]
  exact congrArg some hw
/-- a field's value is written -/
theorem EV_putf {i ci k a : Nat} {w : eW} (hd : decode M.1 pc = .ok (.putfield i, 3)) (hf : eFp M.2.1 M.2.2.2.1 i ci k) (ha : a < sn σ) (hk : sK σ a = 100 + ci) (hs : e_same σ σ2 a) (hw : ∀ j, e_v E (tyC ci j) σ2 a j = if j = k then e_w E w else e_v E (tyC ci j) σ a j) (hn : narrow (tyC ci k) (e_w E w) = e_w E w) (hfit : fits (tyC ci k) (e_w E w) = true) (h : EV E M (pc + 3) lv st σ2 v σ') : EV E M pc lv (w :: VR (some a) :: st) σ v σ' := EV_heap (c0 := 0) (d0 := 0) h hs.2.2.1 hs.2.2.2.1 fun {p e R s m args below meth c H locs cells slots Q ls} hC hR hc hH hL hl kk => by
  obtain ⟨r, ⟨hX, hin, hty, hnm⟩, hkN, hlk, hdec, hfin⟩ := hf
  obtain ⟨cell, q1, q2, q3, q4⟩ := e_obj hH ha hk hX
  have hK : va_K (e_dC E, e_dI E) vwCl [] s := ⟨hC.2.2.2.2.2.1.1, fun k q h => by simp at h⟩
  have hap := va_apart (own := M.2.1) hC.2.2.2.2.1 hin (tyC ci) hty hnm hK hX
  obtain ⟨hS, hfc, kC, hkC, hkind⟩ := hC.2.2.2.2.2.1.1 ci _ hX
  obtain ⟨cf, kf, fi, f, hi, hsl⟩ := hS k hkN
  have hi0 := hi
  rw [hdec] at hi
  have hl2 := u_lays hC.2.2.2.2.1 hin hkN
  have hst := (u_facts hfc hkC hl2 hi0).1
  have hlay := hC.2.2.2.2.1 _ (hin _ (u_in_lay hkN))
  have fin : ∀ H' : Heap, H'[e_b E + a]? = some (cell.setSlot f.slot (e_w E w)) → H'.size = H.size → (∀ q, q ≠ e_b E + a → H'[q]? = H[q]?) → eH E σ2 H' := by
    intro H' e1 e2 e3
    refine eH_put hH hs e2 e3 (Or.inr ?_)
    rw [hs.1, hk, show 100 + ci - 100 = ci by omega]
    refine ⟨r, hX, by omega, ?_⟩
    rw [hsl] at e1
    refine t_OB.to (V := updV (fun k => e_v E (tyC ci k) σ a k) k (e_w E w)) ⟨_, e1, q2, q3, t_set q4 hap hkN (e_w E w)⟩ (fun j _ => ?_)
    rw [hw j]
    rfl
  have hlocs : ∀ q ∈ locs ++ [⟨e_b E + a, f.slot⟩], e_b E ≤ q.base := by
    intro q hq
    rcases List.mem_append.mp hq with z | z
    · exact hL q z
    · rw [List.mem_singleton.mp z]
      exact Nat.le_add_right _ _
  show W p E.1 e R s m args below meth c H locs cells slots Q (F0 m pc ls (e_w E w :: .ref (e_f E a) :: st.map (e_w E)))
  rw [e_f_in hH ha]
  rcases hfin with hfin | ⟨hfin, hini, hro⟩
  · unfold u_lay at hlay
    rw [if_neg (by rw [hfin]; decide)] at hlay
    have h6 := u_store hfc hkC hkind hlay hi0 (hty k hkN) hn hfit
    refine W.putK hC.1 hC.2.1 (f := f) ⟨hC.2.2.2.1, hC.2.2.2.2.1 _ hlk, ⟨_, _, _, hi⟩, hst⟩ (by rw [q2]; exact h6) q1 q3 (by rw [hsl]; exact k2_hasslot (q4 k hkN)) rfl rfl hd fun H' e1 e2 e3 => ?_
    exact kk H' _ (fin H' e1 e2 e3) hlocs
  · unfold u_lay at hlay
    rw [if_pos hfin] at hlay
    have hcf : m.cls = cf := by
      obtain ⟨_, _, c', _, _, _, -, -, hf', -, -, -, hown2, -⟩ := Cond.laysFinal_spec hlay
      have e1 : c' = cf := by have := hi0.symm.trans hf'; simp at this; exact this.1.symm
      rw [hdec, hro] at hown2
      rw [← e1]; exact Option.some.inj (hC.2.2.2.1.symm.trans hown2)
    have h6 := u_fits hfc hkC hkind (Or.inr hlay) hi0 (hty k hkN) hn hfit
    refine W.putFinK hC.1 hC.2.1 hC.2.2.2.1 (hC.2.2.2.2.1 _ hlk) hi hst hcf (hC.2.2.2.2.2.2 hini) (by rw [q2]; exact h6) q1 q3 (by rw [hsl]; exact k2_hasslot (q4 k hkN)) rfl rfl hd fun H' e1 e2 e3 => ?_
    exact kk H' _ (fin H' e1 e2 e3) hlocs
end EVH
