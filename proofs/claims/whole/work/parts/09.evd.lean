section EVD
variable {E : eE} {M : eM} {pc : Nat} {lv lv2 : List (Nat × eW)} {st st2 : List eW} {σ σ2 σ' : eS} {v : Option eW}
/-! static tables: their addresses are 1000000000 and what follows -/
theorem EV_gets {i j : Nat} {r : eTab} (hd : decode M.1 pc = .ok (.getstatic i, 3)) (hj : sT[j]? = some r) (hl : Cond.fieldLink M.2.1 i r.1 r.2.1 r.2.2.1 ∈ eT) (h : EV E M (pc + 3) lv (VR (some (1000000000 + j)) :: st) σ v σ') : EV E M pc lv st σ v σ' := EV_step h fun {p e R s m args below meth c H locs cells slots Q ls} hC hR hc hH hl0 kk => by
  obtain ⟨⟨cf, kf, fi, f, a, cell, h1, h2, h3, h4, h5, h6, h7, h8⟩, -⟩ := hC.2.2.2.2.2.1.2.2.1 j r hj
  have hk := kk ls hl0
  have e1 : (List.map (e_w E) (VR (some (1000000000 + j)) :: st)) = .ref (e_ta E j) :: st.map (e_w E) := by
    show (.ref (e_f E (1000000000 + j)) : Value) :: _ = _
    have : e_f E (1000000000 + j) = e_ta E j := by
      unfold e_f
      rw [if_neg (by omega), show 1000000000 + j - 1000000000 = j by omega]
    rw [this]
  rw [e1] at hk
  exact W.gets hC.1 hC.2.1 hC.2.2.2.1 (hC.2.2.2.2.1 _ hl) h1 h2 h3 h4 (by rw [hH.2.2.2 a (Nat.not_le.mp h8)]; exact h5) (fun e => by rw [e] at h6; cases h6) h7 rfl hd hk
theorem EV_getsN {i j : Nat} {host : String} {r : eTab} (hd : decode M.1 pc = .ok (.getstatic i, 3)) (hj : sT[j]? = some r) (hl : Cond.fieldLinkNest M.2.1 i r.1 r.2.1 r.2.2.1 host ∈ eN) (h : EV E M (pc + 3) lv (VR (some (1000000000 + j)) :: st) σ v σ') : EV E M pc lv st σ v σ' := EV_step h fun {p e R s m args below meth c H locs cells slots Q ls} hC hR hc hH hl0 kk => by
  obtain ⟨⟨cf, kf, fi, f, a, cell, h1, h2, h3, h4, h5, h6, h7, h8⟩, -⟩ := hC.2.2.2.2.2.1.2.2.1 j r hj
  have hk := kk ls hl0
  have e1 : (List.map (e_w E) (VR (some (1000000000 + j)) :: st)) = .ref (e_ta E j) :: st.map (e_w E) := by
    show (.ref (e_f E (1000000000 + j)) : Value) :: _ = _
    have : e_f E (1000000000 + j) = e_ta E j := by
      unfold e_f
      rw [if_neg (by omega), show 1000000000 + j - 1000000000 = j by omega]
    rw [this]
  rw [e1] at hk
  exact va_WgetsN hC.1 hC.2.1 hC.2.2.2.1 (va_Nw.use rfl (hC.2.2.2.2.2.1.2.2.2.1 _ hl)) h1 h2 h3 h4 (by rw [hH.2.2.2 a (Nat.not_le.mp h8)]; exact h5) (fun e => by rw [e] at h6; cases h6) h7 rfl hd hk
def t_I (l : List Int32) (i : Int32) : Option Int32 := if i < 0 then none else l[i.toNatClampNeg]?
def t_L (l : List Int64) (i : Int32) : Option Int64 := if i < 0 then none else l[i.toNatClampNeg]?
theorem EV_tabI {j : Nat} {r : eTab} {l : List Int32} {i x : Int32} (hd : decode M.1 pc = .ok (.iaload, 1)) (hj : sT[j]? = some r) (hr : r.2.2.2 = .inl l) (hx : t_I l i = some x) (h : EV E M (pc + 1) lv (VI x :: st) σ v σ') : EV E M pc lv (VI i :: VR (some (1000000000 + j)) :: st) σ v σ' := EV_step h fun {p e R s m args below meth c H locs cells slots Q ls} hC hR hc hH hl0 kk => by
  obtain ⟨-, cell, h1, h2, h3, h4, h5, h6, h7⟩ := hC.2.2.2.2.2.1.2.2.1 j r hj
  rw [hr] at h2 h4 h6
  unfold t_I at hx
  split at hx
  · cases hx
  · rename_i h0
    obtain ⟨hlt, hxe⟩ := List.getElem?_eq_some_iff.mp hx
    have e0 : e_f E (1000000000 + j) = e_ta E j := by
      unfold e_f
      rw [if_neg (by omega), show 1000000000 + j - 1000000000 = j by omega]
    show W p E.1 e R s m args below meth c H locs cells slots Q (F0 m pc ls (.int i :: .ref (e_f E (1000000000 + j)) :: st.map (e_w E)))
    rw [e0]
    have h4' : l.length ≤ cell.slots.size := h4
    refine W.iald (v := .int x) hC.1 hC.2.1 (by rw [hH.2.2.2 _ (Nat.not_le.mp h7)]; exact h1) h2 h3 (fun q => ?_) ?_ rfl rfl hd (kk ls hl0)
    · rcases q with q | q
      · exact h0 q
      · omega
    · rw [h6 _ hlt]
      show some (Value.int (l.getD _ 0)) = _
      rw [List.getD_eq_getElem?_getD, hx]
      rfl
theorem EV_tabL {j : Nat} {r : eTab} {l : List Int64} {i : Int32} {x : Int64} (hd : decode M.1 pc = .ok (.laload, 1)) (hj : sT[j]? = some r) (hr : r.2.2.2 = .inr l) (hx : t_L l i = some x) (h : EV E M (pc + 1) lv (VL x :: st) σ v σ') : EV E M pc lv (VI i :: VR (some (1000000000 + j)) :: st) σ v σ' := EV_step h fun {p e R s m args below meth c H locs cells slots Q ls} hC hR hc hH hl0 kk => by
  obtain ⟨-, cell, h1, h2, h3, h4, h5, h6, h7⟩ := hC.2.2.2.2.2.1.2.2.1 j r hj
  rw [hr] at h2 h4 h6
  unfold t_L at hx
  split at hx
  · cases hx
  · rename_i h0
    obtain ⟨hlt, hxe⟩ := List.getElem?_eq_some_iff.mp hx
    have e0 : e_f E (1000000000 + j) = e_ta E j := by
      unfold e_f
      rw [if_neg (by omega), show 1000000000 + j - 1000000000 = j by omega]
    show W p E.1 e R s m args below meth c H locs cells slots Q (F0 m pc ls (.int i :: .ref (e_f E (1000000000 + j)) :: st.map (e_w E)))
    rw [e0]
    have h4' : l.length ≤ cell.slots.size := h4
    refine W.lald (v := .long x) hC.1 hC.2.1 (by rw [hH.2.2.2 _ (Nat.not_le.mp h7)]; exact h1) h2 h3 (fun q => ?_) ?_ rfl rfl hd (kk ls hl0)
    · rcases q with q | q
      · exact h0 q
      · omega
    · rw [h6 _ hlt]
      show some (Value.long (l.getD _ 0)) = _
      rw [List.getD_eq_getElem?_getD, hx]
      rfl
/-! the script, at 1000000999 -/
def sc_I (L : Nat) (xs : Nat → Int32) (i : Int32) : Option Int32 := if ¬ i < 0 ∧ i.toNatClampNeg < L then some (xs i.toNatClampNeg) else none
theorem e_f_scr : e_f E 1000000999 = e_ta E 999 := by
  unfold e_f
  rw [if_neg (by decide)]
theorem EV_scrI {i x : Int32} (hd : decode M.1 pc = .ok (.iaload, 1)) (hx : sc_I (e_N E) (e_xs E) i = some x) (h : EV E M (pc + 1) lv (VI x :: st) σ v σ') : EV E M pc lv (VI i :: VR (some 1000000999) :: st) σ v σ' := EV_step h fun {p e R s m args below meth c H locs cells slots Q ls} hC hR hc hH hl0 kk => by
  obtain ⟨scr, h1, h2, h3, h4, h5⟩ := hC.2.2.2.2.2.1.2.2.2.2.2
  unfold sc_I at hx
  split at hx
  · rename_i h0
    cases hx
    show W p E.1 e R s m args below meth c H locs cells slots Q (F0 m pc ls (.int i :: .ref (e_f E 1000000999) :: st.map (e_w E)))
    rw [e_f_scr]
    refine W.iald (v := .int (e_xs E i.toNatClampNeg)) hC.1 hC.2.1 (by rw [hH.2.2.2 _ (Array.getElem?_eq_some_iff.mp h1).1]; exact h1) h2 h3 (fun q => ?_) (h5 _ h0.2) rfl rfl hd (kk ls hl0)
    rcases q with q | q
    · exact h0.1 q
    · omega
  · cases hx
theorem EV_scrL {x : Int32} (hd : decode M.1 pc = .ok (.arraylength, 1)) (hx : Nat.toInt32 (e_N E) = x) (h : EV E M (pc + 1) lv (VI x :: st) σ v σ') : EV E M pc lv (VR (some 1000000999) :: st) σ v σ' := EV_step h fun {p e R s m args below meth c H locs cells slots Q ls} hC hR hc hH hl0 kk => by
  obtain ⟨scr, h1, h2, h3, h4, h5⟩ := hC.2.2.2.2.2.1.2.2.2.2.2
  show W p E.1 e R s m args below meth c H locs cells slots Q (F0 m pc ls (.ref (e_f E 1000000999) :: st.map (e_w E)))
  rw [e_f_scr]
  exact W.alen hC.1 hC.2.1 (by rw [hH.2.2.2 _ (Array.getElem?_eq_some_iff.mp h1).1]; exact h1) h2 (by rw [h4]; exact hx) rfl rfl hd (kk ls hl0)
/-! switches: the place to go to, out of a list of keys -/
def e_sw (dflt : Nat) : List (Int32 × Nat) → Int32 → Nat
  | [], _ => dflt
  | (k, t) :: r, x => if x = k then t else e_sw dflt r x
theorem EV_table {dflt lo hi : Int} {offs : Array Int} {len : Nat} {x : Int32} {tgt : Nat} (hd : decode M.1 pc = .ok (.tableswitch dflt lo hi offs, len)) (ht : (x.toInt < lo ∨ hi < x.toInt) ∧ (pc : Int) + dflt = (tgt : Int) ∨ ¬ x.toInt < lo ∧ ¬ hi < x.toInt ∧ ∃ off, offs[(x.toInt - lo).toNat]? = some off ∧ (pc : Int) + off = (tgt : Int)) (h : EV E M tgt lv st σ v σ') : EV E M pc lv (VI x :: st) σ v σ' := EV_step h fun hC hR hc hH hl kk => by
  rcases ht with ⟨h1, h2⟩ | ⟨h1, h2, off, h3, h4⟩
  · exact lv_tableOut hC.1 hC.2.1 hd h1 h2 (kk _ hl)
  · exact lv_tableIn hC.1 hC.2.1 hd h1 h2 h3 h4 (kk _ hl)
theorem EV_lookup {dflt : Int} {ps : Array (Int × Int)} {len : Nat} {x : Int32} {off : Int} {tgt : Nat} (hd : decode M.1 pc = .ok (.lookupswitch dflt ps, len)) (hp : (ps.toList.zip (ps.toList.drop 1)).all (fun (a, next) => a.1 < next.1) = true) (ho : Op.lookupswitch.offset ps.toList dflt x.toInt = off) (ht : (pc : Int) + off = (tgt : Int)) (h : EV E M tgt lv st σ v σ') : EV E M pc lv (VI x :: st) σ v σ' := EV_step h fun hC hR hc hH hl kk => lv_lookup hC.1 hC.2.1 hd hp ho ht (kk _ hl)
/-! two references -/
theorem e_f_inj {a b : Nat} (ha : a < 1000000000) (hb : b < 1000000000) (h : e_f E a = e_f E b) : a = b := by
  rw [e_f_lt ha, e_f_lt hb] at h
  omega
theorem e_m_inj {x y : Option Nat} (hx : x.getD 0 < 1000000000) (hy : y.getD 0 < 1000000000) : (x.map (e_f E) = y.map (e_f E)) ↔ x = y := by
  refine ⟨fun h => ?_, fun h => by rw [h]⟩
  cases x with
  | none => cases y with
    | none => rfl
    | some b => cases h
  | some a => cases y with
    | none => cases h
    | some b => exact congrArg some (e_f_inj hx hy (Option.some.inj h))
theorem EV_acmp_ne {x y : Option Nat} {off : Int} {tgt : Nat} (hd : decode M.1 pc = .ok (.if_acmp .ne off, 3)) (ht : (pc : Int) + off = (tgt : Int)) (hx : x.getD 0 < 1000000000) (hy : y.getD 0 < 1000000000) (h1 : x = y → EV E M (pc + 3) lv st σ v σ') (h2 : ¬ x = y → EV E M tgt lv st σ v σ') : EV E M pc lv (VR y :: VR x :: st) σ v σ' := EV_two h1 h2 fun hC hH hl k1 k2 => lv_acmp_ne (rx := x.map (e_f E)) (ry := y.map (e_f E)) hC.1 hC.2.1 hd ht (fun z => k2 (fun q => z ((e_m_inj hx hy).mpr q))) (fun z => k1 ((e_m_inj hx hy).mp z))
theorem EV_acmp_eq {x y : Option Nat} {off : Int} {tgt : Nat} (hd : decode M.1 pc = .ok (.if_acmp .eq off, 3)) (ht : (pc : Int) + off = (tgt : Int)) (hx : x.getD 0 < 1000000000) (hy : y.getD 0 < 1000000000) (h1 : x = y → EV E M tgt lv st σ v σ') (h2 : ¬ x = y → EV E M (pc + 3) lv st σ v σ') : EV E M pc lv (VR y :: VR x :: st) σ v σ' := EV_two h1 h2 fun hC hH hl k1 k2 => lv_acmp_eq (rx := x.map (e_f E)) (ry := y.map (e_f E)) hC.1 hC.2.1 hd ht (fun z => k1 ((e_m_inj hx hy).mp z)) (fun z => k2 (fun q => z ((e_m_inj hx hy).mpr q)))
/-! Math.max, Math.min, System.arraycopy of bytes -/
theorem EV_max {i : Nat} {x y : Int32} (hd : decode M.1 pc = .ok (.invokestatic i, 3)) (hl : Cond.methodLink M.2.1 i Lib.Math.max.name ∈ eT) (hs : Cond.static Lib.Math.max.name ∈ eT) (hi : Cond.initialized "java/lang/Math" ∈ eT) (hco : Cond.code Lib.Math.max.name Lib.Math.max.code 2 (some .int) ∈ eT) (hR0 : 1 ≤ M.2.2.2.2.1 ∧ 21 ≤ M.2.2.2.2.2.1) (hrest : e_rest st) (h : EV E M (pc + 3) lv (VI (if x < y then y else x) :: st) σ v σ') : EV E M pc lv (VI y :: VI x :: st) σ v σ' := EV_step h fun {p e R s m args below meth c H locs cells slots Q ls} hC hR hc hH hl0 kk => by
  have hT := hC.2.2.2.2.1
  have h8 := e_rest_ok (E := E) (m := m) (pc := pc) (ls := ls) (s0 := []) hrest
  exact va_mmax hC.1 hC.2.1 (by rw [hC.2.2.1]; exact hl0.1.symm) hC.2.2.2.1 (hT _ hl) (hT _ hs) (hT _ hi) (hT _ hco) (Nat.le_trans hR0.1 hR.1) (by have := hR.2; omega) hc.1 hc.2 hd (kk ls hl0)
theorem EV_min {i : Nat} {x y : Int32} (hd : decode M.1 pc = .ok (.invokestatic i, 3)) (hl : Cond.methodLink M.2.1 i Lib.Math.min.name ∈ eT) (hs : Cond.static Lib.Math.min.name ∈ eT) (hi : Cond.initialized "java/lang/Math" ∈ eT) (hco : Cond.code Lib.Math.min.name Lib.Math.min.code 2 (some .int) ∈ eT) (hR0 : 1 ≤ M.2.2.2.2.1 ∧ 21 ≤ M.2.2.2.2.2.1) (hrest : e_rest st) (h : EV E M (pc + 3) lv (VI (if y < x then y else x) :: st) σ v σ') : EV E M pc lv (VI y :: VI x :: st) σ v σ' := EV_step h fun {p e R s m args below meth c H locs cells slots Q ls} hC hR hc hH hl0 kk => by
  have hT := hC.2.2.2.2.1
  have h8 := e_rest_ok (E := E) (m := m) (pc := pc) (ls := ls) (s0 := []) hrest
  exact va_mmin hC.1 hC.2.1 (by rw [hC.2.2.1]; exact hl0.1.symm) hC.2.2.2.1 (hT _ hl) (hT _ hs) (hT _ hi) (hT _ hco) (Nat.le_trans hR0.1 hR.1) (by have := hR.2; omega) hc.1 hc.2 hd (kk ls hl0)
end EVD
