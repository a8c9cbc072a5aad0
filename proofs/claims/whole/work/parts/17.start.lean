def R_law : String := "ControlledStationLaw"
def lw_P (b : Addr) (xs : List Int32) (args : Array Value) (s : State) : Prop := args = #[.ref b] ∧ s.IntsAt b xs ∧ xs.length ≤ 2560 ∧ (Jvm.Cond.and given_1 narrow_1).before args s = true
def lw_Q (_ : Array Value) (s : State) (o : Outcome) (t : State) : Prop := o = .returned (some (.int 1)) ∧ Framed s o t [] 600000 7302250
def lw_Z (below : List Frame) (a : Array Value) (s : State) : State → Prop := fun t => ∃ o, t.status = .running ∧ Ended t below o ∧ lw_Q a s o t
/-- the law's own end, with 1 on the stack, nothing written that was there before, its room as the claim has it -/
theorem lw_ret {p : Program} {l : Launch} {e : Env} {s : State} {m : MethodId} {below : List Frame} {meth : Method} {c : Code} {b : Nat} (hx : p.tables.exec = Jvm.exec) (hb : c.code = code) (hr : meth.sig.returnType = ret) (hlocks : meth.locks = false) {pc : Nat} {H : Heap} {ls : Array Slot} (hdg : decode code pc = .ok (.ireturn, 1)) : W p l e room_1 s m #[Value.ref b] below meth c H [] 600000 7302250 (lw_Z below #[Value.ref b] s) (F0 m pc ls [.int 1]) := by
  intro T hT X
  obtain ⟨fs, hret, hrun, hended, hW, hframe⟩ := X.leave (v := some (.int 1)) (hlocks := hlocks) (fun h => by rw [hr] at h; cases h)
  have hmeth' : T.vm.method? m = some meth := X.method'
  refine ⟨T.setFrames fs, ?_, .returned (some (.int 1)), hrun, hended, rfl, ⟨_, rfl⟩, hW, hframe⟩
  jvm_step X.here [X.here.top, hx, hb, hdg, hmeth', hr, ret, narrow_b1]
  (try refine ⟨rfl, ?_⟩); (try refine ⟨rfl, ?_⟩)
  first | (intro acts; rw [hret _ acts rfl rfl rfl]) | rw [hret _ _ rfl rfl rfl]
  exact Steps.refl _
/-- what holds at the law's entry: the machine, the code, the tables' words (any of lw_tbl by 'hts w (by decide +kernel)'), the script of L ints xs at the cell b, what the Statement gives of the start (any of its parts by flat_of_before) -/
def lw_At (p : Program) (s : State) (m : MethodId) (meth : Method) (c : Code) (b L : Nat) (xs : Nat → Int32) : Prop :=
  p.tables.exec = Jvm.exec ∧ c.code = code ∧ meth.sig.returnType = ret ∧ c.maxLocals = 4 ∧ s.vm.findClass R_law = some m.cls ∧ (∀ w ∈ lw_tbl, w.before #[Value.ref b] s = true) ∧ va_X b L xs s s.heap ∧ b < s.heap.size ∧ meth.locks = false ∧ (Jvm.Cond.and given_1 narrow_1).before #[Value.ref b] s = true
/-! ===== from the pure fact to the claim ===== -/
def e_te (r : eTab) (j : Nat) : Cond := match r.2.2.2 with
  | .inl l => Cond.eq (.elem (.static r.1 r.2.1 r.2.2.1) (.int (Int32.ofNat j))) (.int (l.getD j 0))
  | .inr l => Cond.eq (.elem (.static r.1 r.2.1 r.2.2.1) (.int (Int32.ofNat j))) (.long (l.getD j 0))
def e_G : List Cond := flatC (Jvm.Cond.and given_1 narrow_1)
def e_tabw (r : eTab) : Prop := Cond.arrayOf (.static r.1 r.2.1 r.2.2.1) (e_tt r.2.2.2) ∈ e_G ∧ Cond.eq (.length (.static r.1 r.2.1 r.2.2.1)) (.int (Int32.ofNat (e_tn r.2.2.2))) ∈ e_G ∧ (∀ j, j < e_tn r.2.2.2 → e_te r j ∈ e_G) ∧ e_tn r.2.2.2 < 2 ^ 31 ∧ Cond.laysStatic r.1 r.2.1 r.2.2.1 ∈ lw_tbl ∧ Cond.initialized r.1 ∈ lw_tbl
theorem e_tab {args : Array Value} {s : State} {r : eTab} (hs : ∀ c ∈ e_G, c.before args s = true) (ht : ∀ w ∈ lw_tbl, w.before args s = true) (h : e_tabw r) : ∃ t : Nat, va_Z r.1 r.2.1 r.2.2.1 (.ref t) (fun q => s.heap.size ≤ q) s s.heap ∧ va_T (e_tt r.2.2.2) t (e_tn r.2.2.2) (e_tf r.2.2.2) (fun q => s.heap.size ≤ q) s s.heap := by
  obtain ⟨h1, h2, h3, h4, h5, h6⟩ := h
  obtain ⟨C, n, d, l⟩ := r
  obtain ⟨t, ht1, ht2⟩ := va_Tof (A := fun q => s.heap.size ≤ q) (f := e_tf l) h4 (hs _ h1) (va_eqt (hs _ h2)) (fun j hj => by
    have := hs _ (h3 j hj)
    cases l with
    | inl l => exact va_eqt this
    | inr l => exact va_eqtl this) (fun a ha => Nat.not_le.mpr ha)
  exact ⟨t, va_Zref (ht _ h5) (ht _ h6) ht1 (fun a ha => Nat.not_le.mpr ha), ht2⟩
theorem e_all {n : Nat} {P : Nat → Prop} [DecidablePred P] (h : (List.range n).all (fun j => decide (P j)) = true) : ∀ j, j < n → P j := fun j hj => of_decide_eq_true (List.all_eq_true.mp h j (List.mem_range.mpr hj))
theorem tbw_0 : e_tabw st_0 := ⟨by decide +kernel, by decide +kernel, e_all (by decide +kernel), by decide, by decide +kernel, by decide +kernel⟩
theorem tbw_1 : e_tabw st_1 := ⟨by decide +kernel, by decide +kernel, e_all (by decide +kernel), by decide, by decide +kernel, by decide +kernel⟩
theorem tbw_2 : e_tabw st_2 := ⟨by decide +kernel, by decide +kernel, e_all (by decide +kernel), by decide, by decide +kernel, by decide +kernel⟩
theorem tbw_3 : e_tabw st_3 := ⟨by decide +kernel, by decide +kernel, e_all (by decide +kernel), by decide, by decide +kernel, by decide +kernel⟩
theorem tbw_4 : e_tabw st_4 := ⟨by decide +kernel, by decide +kernel, e_all (by decide +kernel), by decide, by decide +kernel, by decide +kernel⟩
theorem tbw_5 : e_tabw st_5 := ⟨by decide +kernel, by decide +kernel, e_all (by decide +kernel), by decide, by decide +kernel, by decide +kernel⟩
theorem tbw_6 : e_tabw st_6 := ⟨by decide +kernel, by decide +kernel, e_all (by decide +kernel), by decide, by decide +kernel, by decide +kernel⟩
theorem tbw_7 : e_tabw st_7 := ⟨by decide +kernel, by decide +kernel, e_all (by decide +kernel), by decide, by decide +kernel, by decide +kernel⟩
theorem tbw_8 : e_tabw st_8 := ⟨by decide +kernel, by decide +kernel, e_all (by decide +kernel), by decide, by decide +kernel, by decide +kernel⟩
theorem tbw_9 : e_tabw st_9 := ⟨by decide +kernel, by decide +kernel, e_all (by decide +kernel), by decide, by decide +kernel, by decide +kernel⟩
theorem tbw_10 : e_tabw st_10 := ⟨by decide +kernel, by decide +kernel, e_all (by decide +kernel), by decide, by decide +kernel, by decide +kernel⟩
theorem tbw_11 : e_tabw st_11 := ⟨by decide +kernel, by decide +kernel, e_all (by decide +kernel), by decide, by decide +kernel, by decide +kernel⟩
theorem tbw_12 : e_tabw st_12 := ⟨by decide +kernel, by decide +kernel, e_all (by decide +kernel), by decide, by decide +kernel, by decide +kernel⟩
theorem e_tabs : ∀ (j : Nat) (r : eTab), sT[j]? = some r → e_tabw r := by
  intro j r h
  match j, h with
  | 0, h => cases h; exact tbw_0
  | 1, h => cases h; exact tbw_1
  | 2, h => cases h; exact tbw_2
  | 3, h => cases h; exact tbw_3
  | 4, h => cases h; exact tbw_4
  | 5, h => cases h; exact tbw_5
  | 6, h => cases h; exact tbw_6
  | 7, h => cases h; exact tbw_7
  | 8, h => cases h; exact tbw_8
  | 9, h => cases h; exact tbw_9
  | 10, h => cases h; exact tbw_10
  | 11, h => cases h; exact tbw_11
  | 12, h => cases h; exact tbw_12
  | j + 13, h => simp [sT] at h
theorem e_arrP {args : Array Value} {s : State} {ty : FieldType} (h : (Cond.arrayClass ty).before args s = true) (hp : ty = .int ∨ ty = .byte ∨ ty = .boolean ∨ ty = .long) : ∃ cA : ClassId, ArrOfT s cA ty ∧ va_RA s cA ty := by
  obtain ⟨cA, kA, comp, h1, h2, h3⟩ := Cond.arrayClass_spec h
  refine ⟨cA, fun n z => ⟨fun k h => (by cases h), kA, h2, comp, h3⟩, ?_⟩
  rcases hp with rfl | rfl | rfl | rfl <;> exact h1
theorem e_arrO {args : Array Value} {s : State} {C : String} (h : (Cond.arrayOver (.object C)).before args s = true) : ∃ cA : ClassId, ArrOfT s cA (.object C) ∧ va_RA s cA (.object C) := by
  obtain ⟨comp, c, k, h1, h2, h3, h4, h5⟩ := Cond.arrayOver_spec h
  exact ⟨c, fun n z => ⟨fun k h => (by cases h), k, h3, comp, h4⟩, k, comp, h3, h4, h1, h5⟩
theorem e_K0 {s : State} {b L : Nat} {xs : Nat → Int32} (l : Launch) (hts : ∀ w ∈ lw_tbl, w.before #[Value.ref b] s = true) (hX : va_X b L xs s s.heap) (hgv : (Jvm.Cond.and given_1 narrow_1).before #[Value.ref b] s = true) : ∃ E : eE, E.1 = l ∧ e_HB E = s.heap ∧ e_N E = L ∧ e_xs E = xs ∧ e_ta E 999 = b ∧ eK E s := by
  have hs : ∀ c ∈ e_G, c.before #[Value.ref b] s = true := flat_of_before _ hgv
  have h1 : ∀ c : Nat, ∃ x : ClassId × (Nat → Nat), ∀ q, vwCl[c]? = some q → u_Kn s q.1 q.2.1 q.2.2 x.1 x.2 := by
    intro c
    match c with
    | 0 => obtain ⟨cC, iS, h⟩ := u_known (C := RX0) (T := TX0) (N := 5) (n := 5) hts iX_0 (hts _ (by decide +kernel)); exact ⟨(cC, iS), fun q hq => by cases hq; exact h⟩
    | 1 => obtain ⟨cC, iS, h⟩ := u_known (C := RX1) (T := TX1) (N := 7) (n := 7) hts iX_1 (hts _ (by decide +kernel)); exact ⟨(cC, iS), fun q hq => by cases hq; exact h⟩
    | 2 => obtain ⟨cC, iS, h⟩ := u_known (C := RX2) (T := TX2) (N := 5) (n := 5) hts iX_2 (hts _ (by decide +kernel)); exact ⟨(cC, iS), fun q hq => by cases hq; exact h⟩
    | 3 => obtain ⟨cC, iS, h⟩ := u_known (C := RX3) (T := TX3) (N := 7) (n := 7) hts iX_3 (hts _ (by decide +kernel)); exact ⟨(cC, iS), fun q hq => by cases hq; exact h⟩
    | 4 => obtain ⟨cC, iS, h⟩ := u_known (C := RX4) (T := TX4) (N := 2) (n := 2) hts iX_4 (hts _ (by decide +kernel)); exact ⟨(cC, iS), fun q hq => by cases hq; exact h⟩
    | 5 => obtain ⟨cC, iS, h⟩ := u_known (C := RX5) (T := TX5) (N := 3) (n := 3) hts iX_5 (hts _ (by decide +kernel)); exact ⟨(cC, iS), fun q hq => by cases hq; exact h⟩
    | 6 => obtain ⟨cC, iS, h⟩ := u_known (C := RX6) (T := TX6) (N := 7) (n := 7) hts iX_6 (hts _ (by decide +kernel)); exact ⟨(cC, iS), fun q hq => by cases hq; exact h⟩
    | 7 => obtain ⟨cC, iS, h⟩ := u_known (C := RX7) (T := TX7) (N := 3) (n := 3) hts iX_7 (hts _ (by decide +kernel)); exact ⟨(cC, iS), fun q hq => by cases hq; exact h⟩
    | 8 => obtain ⟨cC, iS, h⟩ := u_known (C := RX8) (T := TX8) (N := 7) (n := 7) hts iX_8 (hts _ (by decide +kernel)); exact ⟨(cC, iS), fun q hq => by cases hq; exact h⟩
    | 9 => obtain ⟨cC, iS, h⟩ := u_known (C := RX9) (T := TX9) (N := 4) (n := 4) hts iX_9 (hts _ (by decide +kernel)); exact ⟨(cC, iS), fun q hq => by cases hq; exact h⟩
    | 10 => obtain ⟨cC, iS, h⟩ := u_known (C := RX10) (T := TX10) (N := 5) (n := 5) hts iX_10 (hts _ (by decide +kernel)); exact ⟨(cC, iS), fun q hq => by cases hq; exact h⟩
    | 11 => obtain ⟨cC, iS, h⟩ := u_known (C := RX11) (T := TX11) (N := 19) (n := 19) hts iX_11 (hts _ (by decide +kernel)); exact ⟨(cC, iS), fun q hq => by cases hq; exact h⟩
    | 12 => obtain ⟨cC, iS, h⟩ := u_known (C := RX12) (T := TX12) (N := 55) (n := 55) hts iX_12 (hts _ (by decide +kernel)); exact ⟨(cC, iS), fun q hq => by cases hq; exact h⟩
    | c + 13 => exact ⟨(0, fun _ => 0), fun q hq => by simp [vwCl] at hq⟩
  have h2 : ∀ t : Nat, ∃ cA : ClassId, ∀ ty, aT[t]? = some ty → ArrOfT s cA ty ∧ va_RA s cA ty := by
    intro t
    match t with
    | 0 => obtain ⟨cA, h⟩ := e_arrP (s := s) (ty := .int) (hts _ (by decide +kernel)) (by decide); exact ⟨cA, fun q hq => by cases hq; exact h⟩
    | 1 => obtain ⟨cA, h⟩ := e_arrP (s := s) (ty := .byte) (hts _ (by decide +kernel)) (by decide); exact ⟨cA, fun q hq => by cases hq; exact h⟩
    | 2 => obtain ⟨cA, h⟩ := e_arrP (s := s) (ty := .boolean) (hts _ (by decide +kernel)) (by decide); exact ⟨cA, fun q hq => by cases hq; exact h⟩
    | 3 => obtain ⟨cA, h⟩ := e_arrP (s := s) (ty := .long) (hts _ (by decide +kernel)) (by decide); exact ⟨cA, fun q hq => by cases hq; exact h⟩
    | 4 => obtain ⟨cA, h⟩ := e_arrO (s := s) (C := "ControlledStation$Point") (hts _ (by decide +kernel)); exact ⟨cA, fun q hq => by cases hq; exact h⟩
    | 5 => obtain ⟨cA, h⟩ := e_arrO (s := s) (C := "ControlledStation$Command") (hts _ (by decide +kernel)); exact ⟨cA, fun q hq => by cases hq; exact h⟩
    | 6 => obtain ⟨cA, h⟩ := e_arrO (s := s) (C := "ControlledStation$Message") (hts _ (by decide +kernel)); exact ⟨cA, fun q hq => by cases hq; exact h⟩
    | t + 7 => exact ⟨0, fun q hq => by simp [aT] at hq⟩
  have h3 : ∀ j : Nat, ∃ t : Nat, (j = 999 → t = b) ∧ ∀ r, sT[j]? = some r → va_Z r.1 r.2.1 r.2.2.1 (.ref t) (fun q => s.heap.size ≤ q) s s.heap ∧ va_T (e_tt r.2.2.2) t (e_tn r.2.2.2) (e_tf r.2.2.2) (fun q => s.heap.size ≤ q) s s.heap := by
    intro j
    by_cases hj : j = 999
    · subst hj
      exact ⟨b, fun _ => rfl, fun r hr => by simp [sT] at hr⟩
    · cases hr : sT[j]? with
      | none => exact ⟨0, fun h => absurd h hj, fun r h => by cases h⟩
      | some r =>
        obtain ⟨t, ht⟩ := e_tab hs hts (e_tabs j r hr)
        exact ⟨t, fun h => absurd h hj, fun r' h => by cases h; exact ht⟩
  obtain ⟨f1, hf1⟩ := Classical.axiomOfChoice h1
  obtain ⟨f2, hf2⟩ := Classical.axiomOfChoice h2
  obtain ⟨f3, hf3⟩ := Classical.axiomOfChoice h3
  refine ⟨(l, fun c => (f1 c).1, fun c => (f1 c).2, f2, f3, s.heap, L, xs), rfl, rfl, rfl, rfl, (hf3 999).1 rfl, ⟨fun c q hq => hf1 c q hq, fun t ty ht => hf2 t ty ht, fun j r hj => (hf3 j).2 r hj, fun w hw => ?_, fun C hC => va_AO.of (hts _ hC), ?_⟩⟩
  · obtain ⟨g1, g2⟩ := List.mem_filter.mp hw
    have h9 := hts w g1
    cases w with
    | fieldLinkNest a i b n d x => exact va_Nw.of rfl h9
    | methodLinkNest a i x y => exact va_Nw.of rfl h9
    | _ => cases g2
  · show va_X (f3 999) L xs s s.heap
    rw [(hf3 999).1 rfl]
    exact hX
/-- the empty store -/
def e_0 : eS := (fun _ => 0, fun _ => 0, fun _ _ => 0, fun _ _ => 0, fun _ _ => none, 0, 0)
/-- THE PURE FACT: on every script the law's function answers 1, within its room -/
def Pure : Prop := ∀ (L : Nat) (xs : Nat → Int32), L ≤ 2560 → ∃ s' : eS, mL_law L xs e_0 = some (1, s') ∧ sn s' ≤ 600000 ∧ ss s' ≤ 7302250
set_option maxHeartbeats 4000000 in
theorem whole_open (hpure : Pure) {p : Program} {e : Env} {s : State} {m : MethodId} {below : List Frame} {meth : Method} {c : Code} (l : Launch) {b L : Nat} {xs : Nat → Int32} (hL : L ≤ 2560) (C0 : lw_At p s m meth c b L xs) : W p l e room_1 s m #[Value.ref b] below meth c s.heap [] 0 0 (lw_Z below #[Value.ref b] s) (entryFrame m ([Value.ref b] : List Value).toArray 4) := by
  obtain ⟨hx, hb, hr, hml, hown, hts, hX, hbl, hlocks, hgv⟩ := C0
  obtain ⟨E, rfl, hHB, hN, hxs, hta, hK⟩ := e_K0 l hts hX hgv
  obtain ⟨s', h1, h2, h3⟩ := hpure L xs hL
  rw [← hN, ← hxs] at h1
  have hev := zL_law E h1
  have hl := lv_entry ([.ref b]) (n := 4) (Nat.le_of_ble_eq_true rfl)
  rw [lg_entry_eq]
  generalize (lg_sl ([.ref b]) ++ List.replicate (4 - (lg_sl ([.ref b])).length) Slot.unset).toArray = ls at hl ⊢
  have hl : lv_has ls 4 (e_lv E [(0, VR (some 1000000999))]) := by
    show lv_has ls 4 [(0, .ref (e_f E 1000000999))]
    rw [e_f_scr, hta]
    exact hl
  have hH : eH E e_0 s.heap := ⟨by show _ = e_b E + 0; unfold e_b; rw [hHB]; rfl, Nat.zero_le _, fun a ha => absurd ha (Nat.not_lt_zero a), fun q _ => by rw [hHB]⟩
  refine hev.2 p e room_1 s m #[Value.ref b] below meth c s.heap [] 0 0 _ ls ⟨hx, hb, hml, hown, fun w hw => hts w (List.mem_filter.mp hw).1, hK, fun z => nomatch z⟩ ⟨Nat.le_of_ble_eq_true rfl, Nat.le_of_ble_eq_true rfl⟩ ⟨?_, ?_⟩ hH (fun _ z => by cases z) hl ?_
  · show 0 + (sn s' - 0) ≤ 600000
    omega
  · show 0 + (ss s' - 0) ≤ 7302250
    omega
  · intro H' locs' ls' pc' hH' hL' hret
    have e1 : (0 + (sn s' - sn e_0)) ≤ 600000 := by show 0 + (sn s' - 0) ≤ _; omega
    have e2 : (0 + (ss s' - ss e_0)) ≤ 7302250 := by show 0 + (ss s' - 0) ≤ _; omega
    refine va_forget (fun q hq => by have := hL' q hq; unfold e_b at this; rw [hHB] at this; exact this) ?_
    refine W.widen (k := 600000) (n := 7302250) e1 e2 ?_
    exact lw_ret hx hb hr hlocks hret.1
