section EVC
variable {E : eE} {M : eM} {pc : Nat} {lv lv2 : List (Nat × eW)} {st st2 : List eW} {σ σ2 σ' : eS} {v : Option eW}
/-- a whole method: name, bytes, locals, answer's type, frames and locals below it -/
abbrev eY : Type := MethodName × ByteArray × Nat × Option FieldType × Nat × Nat
def eQ (E : eE) (v : Option eW) (σ' : eS) : Array Value → State → Outcome → State → Prop := fun _ _ o t => o = .returned (v.map (e_w E)) ∧ eH E σ' t.heap
def ePc (E : eE) (as : List eW) (σ : eS) : Array Value → State → Prop := va_Pc (as.map (e_w E)) (fun U => eH E σ U.heap ∧ eK E U)
abbrev eRm (Y : eY) (σ σ' : eS) : Room := { frames := Y.2.2.2.2.1, cells := sn σ' - sn σ, slots := ss σ' - ss σ, locals := Y.2.2.2.2.2 }
abbrev eWs (Y : eY) : List Cond := Cond.code Y.1 Y.2.1 Y.2.2.1 Y.2.2.2.1 :: eT
/-- the method Y, called with 'as' over σ, answers v and leaves σ' -/
def EM (E : eE) (Y : eY) (as : List eW) (σ : eS) (v : Option eW) (σ' : eS) : Prop :=
  (sn σ ≤ sn σ' ∧ ss σ ≤ ss σ') ∧ Met E.1 Y.1 (eWs Y) (eRm Y σ σ') (ePc E as σ) (eQ E v σ') (sn σ' - sn σ) (ss σ' - ss σ) (e_A E)
def e_la0 : Nat → List eW → List (Nat × eW)
  | _, [] => []
  | i, w :: r => (i, w) :: e_la0 (if e_cat w = 2 then i + 2 else i + 1) r
theorem e_la (E : eE) : ∀ (as : List eW) (i : Nat), lv_args i (as.map (e_w E)) = e_lv E (e_la0 i as)
  | [], i => by rfl
  | w :: r, i => by
    show (i, e_w E w) :: lv_args (if (e_w E w).category = 2 then i + 2 else i + 1) (r.map (e_w E)) = (i, e_w E w) :: e_lv E (e_la0 (if e_cat w = 2 then i + 2 else i + 1) r)
    rw [e_w_cat, e_la E r]
theorem e_sl (E : eE) : ∀ (as : List eW), (lg_sl (as.map (e_w E))).length = (as.map e_cat).sum
  | [] => rfl
  | w :: r => by
    show (((if (e_w E w).category = 2 then [Slot.val (e_w E w), Slot.second] else [Slot.val (e_w E w)]) ++ lg_sl (r.map (e_w E))).length) = e_cat w + (r.map e_cat).sum
    rw [List.length_append, e_sl E r, e_w_cat]
    rcases w with x | x | x <;> rfl
theorem EM_of {Y : eY} {as : List eW} {own : String} {ini : Bool} (hM : M = (Y.2.1, own, Y.2.2.1, ini, Y.2.2.2.2.1, Y.2.2.2.2.2, Y.2.2.2.1)) (hpl : plainName Y.1.cls = true) (hown : Y.1.cls = own) (hini : ini = true → Y.1.name = "<init>") (hlen : (as.map e_cat).sum ≤ Y.2.2.1) (h : EV E M 0 (e_la0 0 as) [] σ v σ') : EM E Y as σ v σ' := by
  obtain ⟨h0, h⟩ := h
  subst hM
  refine ⟨h0, Met.ofW (cc := Y.2.1) (maxL := Y.2.2.1) (ret := Y.2.2.2.1) hpl rfl ?_⟩
  intro p e s m args below meth c s₁ B hml hv
  obtain ⟨rfl, hH, hK⟩ := hv
  have hts := atoms_spec (ws := eWs Y) B.pre
  have hl := lv_entry (as.map (e_w E)) (n := Y.2.2.1) (by rw [e_sl]; exact hlen)
  rw [lg_entry_eq]
  generalize (lg_sl (as.map (e_w E)) ++ List.replicate (Y.2.2.1 - (lg_sl (as.map (e_w E))).length) Slot.unset).toArray = ls at hl ⊢
  rw [e_la] at hl
  have hnm := findClass_of_methodNamed B.named
  have hr := B.returns
  have hlocks := B.notSynchronized
  have hC : eC E (Y.2.1, own, Y.2.2.1, ini, Y.2.2.2.2.1, Y.2.2.2.2.2, Y.2.2.2.1) p s m (as.map (e_w E)).toArray meth c := ⟨B.exec, B.bytes, hml, by rw [← hown]; exact hnm, fun w hw => hts w (List.mem_cons_of_mem _ hw), hK, fun z => by rw [(name_of_methodNamed B.named B.method).1]; exact hini z⟩
  refine h p e _ s m _ below meth c s.heap [] 0 0 _ ls hC ⟨Nat.le_refl _, Nat.le_refl _⟩ ⟨by rw [Nat.zero_add]; exact Nat.le_refl _, by rw [Nat.zero_add]; exact Nat.le_refl _⟩ hH (fun _ z => by cases z) hl ?_
  intro H' locs' ls' pc' hH' hL' hret
  rw [Nat.zero_add, Nat.zero_add]
  obtain ⟨hret, hok⟩ := hret
  match v, hok, hret with
  | none, hok, hret => exact W.vret (free := e_A E) B.exec B.bytes (hr.trans hok) (fun t ht hW => ⟨rfl, by rw [ht]; exact hH'⟩) hL' hret
  | some (.inl x), ⟨ty, hty, hn⟩, hret => exact W.zret (free := e_A E) B.exec B.bytes (hr.trans hty) hn (fun t ht hW => ⟨rfl, by rw [ht]; exact hH'⟩) hL' hret
  | some (.inr (.inl x)), hok, hret => exact W.lret (free := e_A E) B.exec B.bytes (hr.trans hok) (fun t ht hW => ⟨rfl, by rw [ht]; exact hH'⟩) hL' hret
  | some (.inr (.inr r)), ⟨n, hn⟩, hret => exact W.aret (free := e_A E) B.exec B.bytes (hr.trans hn) (Or.inl ⟨n, rfl⟩) (by cases r with | none => exact Or.inl rfl | some a => exact Or.inr ⟨_, rfl⟩) (fun t ht hW => ⟨rfl, by rw [ht]; exact hH'⟩) hL' hret
/-! returns -/
theorem EV_ret (h : eR M pc v) (hs : st = v.toList) : EV E M pc lv st σ v σ := by
  subst hs
  refine ⟨⟨Nat.le_refl _, Nat.le_refl _⟩, fun p e R s m args below meth c H locs cells slots Q ls hC hR hc hH hL hl k => ?_⟩
  have hk := k H locs ls pc hH hL h
  rw [Nat.sub_self, Nat.sub_self] at hk
  exact hk
/-! calls -/
theorem e_blind {as : List eW} : FrameBlind (ePc E as σ) := fun a U g mk q => ⟨q.1, q.2.1, eK_vm (u := U) (U := U.calling g mk a) rfl q.2.2⟩
theorem EV_run {as : List eW} {s0 : List Value} {R : Room} {H : Heap} {locs : List Loc} {cells slots : Nat} {p : Program} {e : Env} {s : State} {m : MethodId} {args : Array Value} {below : List Frame} {meth : Method} {c : Code} {Q : State → Prop} {ls : Array Slot} {u : Option eW}
    (hr : va_Run p E.1 e R s m args below meth c H locs cells slots (sn σ2 - sn σ) (ss σ2 - ss σ) (F0 m pc ls s0) (st.map (e_w E)) (eQ E u σ2 (as.map (e_w E)).toArray) (e_A E)) (hL : ∀ q ∈ locs, e_b E ≤ q.base)
    (kk : ∀ (H' : Heap) (locs' : List Loc), eH E σ2 H' → (∀ q ∈ locs', e_b E ≤ q.base) → W p E.1 e R s m args below meth c H' locs' (cells + (sn σ2 - sn σ)) (slots + (ss σ2 - ss σ)) Q (F0 m (pc + 3) ls ((u.toList ++ st).map (e_w E)))) : W p E.1 e R s m args below meth c H locs cells slots Q (F0 m pc ls s0) := by
  intro T hT X
  obtain ⟨v0, st₀, t, T', L, h0, X', hL', e1, e2, ⟨hv, hH2⟩, stp⟩ := hr T hT X
  have hv2 : v0 = u.map (e_w E) := Outcome.returned.inj hv
  subst hv2
  obtain ⟨t2, a1, b1⟩ := kk T'.heap (locs ++ L) (by rw [e1]; exact hH2) (fun q hq => by
    rcases List.mem_append.mp hq with z | z
    · exact hL q z
    · exact hL' q z) T' rfl X'
  refine ⟨t2, stp t2 ?_, b1⟩
  cases u with
  | none => exact a1
  | some w => exact a1
def eCw (Y : eY) (n : Nat) : Prop := (Cond.code Y.1 Y.2.1 Y.2.2.1 Y.2.2.2.1 ∈ eT) ∧ Cond.initialized Y.1.cls ∈ eT ∧ (Y.1.cls ≠ "java/lang/invoke/MethodHandle" ∧ Y.1.cls ≠ "java/lang/invoke/VarHandle" ∧ (parseMethodDescriptor Y.1.desc).map (fun d => d.parameters.length) = some n)
theorem e_goodY {Y : eY} (h : Cond.code Y.1 Y.2.1 Y.2.2.1 Y.2.2.2.1 ∈ eT) : GoodIn eT (eWs Y) := fun w hw => by
  rcases List.mem_cons.mp hw with z | z
  · rw [z]; exact eT_good _ h
  · exact eT_good _ z
def e_rest (st : List eW) : Prop := (st.map e_cat).sum ≤ 8
theorem e_rest_ok {m : MethodId} {pc : Nat} {ls : Array Slot} {s0 : List Value} (h : e_rest st) : 2 * (F0 m pc ls s0).monitorRoom + ((st.map (e_w E)).map fun v => v.category).sum ≤ 8 := by
  refine lv_room ?_
  rw [List.map_map]
  have : ((fun v => v.category) ∘ e_w E : eW → Nat) = e_cat := by funext w; exact e_w_cat E w
  rw [this]
  exact h
def e_roomY (M : eM) (Y : eY) : Prop := Y.2.2.2.2.1 + 1 ≤ M.2.2.2.2.1 ∧ 8 + (Y.2.2.1 + 11) + Y.2.2.2.2.2 ≤ M.2.2.2.2.2.1
theorem EV_call {Y : eY} {as : List eW} {u : Option eW} {s0 : List eW} (hm : EM E Y as σ u σ2) (h : EV E M (pc + 3) lv (u.toList ++ st) σ2 v σ') (go : ∀ {p : Program} {e : Env} {R : Room} {s : State} {m : MethodId} {args : Array Value} {below : List Frame} {meth : Method} {c : Code} {H : Heap} {locs : List Loc} {cells slots : Nat} {ls : Array Slot}, eC E M p s m args meth c → (M.2.2.2.2.1 ≤ R.frames ∧ M.2.2.2.2.2.1 ≤ R.locals) → (cells + (sn σ2 - sn σ) ≤ R.cells ∧ slots + (ss σ2 - ss σ) ≤ R.slots) → eH E σ H → ls.size = M.2.2.1 →
    va_Run p E.1 e R s m args below meth c H locs cells slots (sn σ2 - sn σ) (ss σ2 - ss σ) (F0 m pc ls (s0.map (e_w E))) (st.map (e_w E)) (eQ E u σ2 (as.map (e_w E)).toArray) (e_A E)) : EV E M pc lv s0 σ v σ' :=
  EV_heap (c0 := sn σ2 - sn σ) (d0 := ss σ2 - ss σ) h (by have := hm.1; omega) (by have := hm.1; omega) fun hC hR hc hH hL hl kk => EV_run (as := as) (go hC hR hc hH hl.1) hL kk
theorem e_pre {s : State} {H : Heap} {as : List eW} (hK : eK E s) (hH : eH E σ H) : ∀ U : State, U.heap = H → s.WarmedH U.vm → ePc E as σ (as.map (e_w E)).toArray U := fun U hU hW => ⟨rfl, by rw [hU]; exact hH, eK_warm hW hK⟩
theorem e_stk {as : List eW} : ((as.reverse ++ st).map (e_w E)) = (as.map (e_w E)).reverse ++ st.map (e_w E) := by
  rw [List.map_append, List.map_reverse]
theorem EV_callV {Y : eY} {as : List eW} {u : Option eW} {i a ci n : Nat} {r : vw_C} {s0 : List eW} (hd : decode M.1 pc = .ok (.invokevirtual i, 3)) (hm : EM E Y (VR (some a) :: as) σ u σ2) (hs : s0 = as.reverse ++ VR (some a) :: st) (hw : eCw Y n) (hn : as.length = n) (hl : Cond.methodLink M.2.1 i Y.1 ∈ eT) (hin : Cond.instanceMethod Y.1 ∈ eT) (hse : Cond.selects r.1 Y.1 Y.1 ∈ eT) (hX : vwCl[ci]? = some r) (ha : a < sn σ) (hk : sK σ a = 100 + ci) (hR0 : e_roomY M Y) (hrest : e_rest st) (h3 : u.toList ++ st = st2) (h : EV E M (pc + 3) lv st2 σ2 v σ') : EV E M pc lv s0 σ v σ' := EV_call hm (by rw [h3]; exact h) fun {p e R s m args below meth c H locs cells slots ls} hC hR hc hH hz => by
  subst hs
  have hT := hC.2.2.2.2.1
  obtain ⟨cell, q1, q2, q3, -⟩ := e_obj hH ha hk hX
  have hK := hC.2.2.2.2.2.1
  have cw : CallW R s args M.2.1 r.1 i Y.1 Y.2.1 Y.2.2.1 Y.2.2.2.1 (eWs Y) (eRm Y σ σ2) (sn σ2 - sn σ) (ss σ2 - ss σ) n := ⟨callB_of n hT (e_goodY hw.1) rfl rfl rfl (hT _ hw.2.1) (hT _ hl) hw.2.2 ⟨Nat.le_trans hR0.1 hR.1, Nat.le_trans hR0.2 hR.2⟩, hT _ hin, hT _ hse⟩
  have hpre := e_pre (as := VR (some a) :: as) hK hH
  have key := va_runV (locs := locs) (e := e) (below := below) (meth := meth) (As := as.map (e_w E)) (rest := st.map (e_w E)) (b := e_b E + a) (g := F0 m pc ls (((as.reverse ++ VR (some a) :: st)).map (e_w E))) ⟨hC.1, hC.2.1, hC.2.2.1, hC.2.2.2.1, hT⟩ hm.2 cw ⟨e_blind, ⟨cell, q1, by rw [q3]; rfl, by rw [q2]; exact (hK.1 ci r hX).2.1⟩, fun U hU hW => by rw [← e_f_in hH ha]; exact hpre U hU hW⟩ rfl (by rw [List.length_map]; exact hn) hz (by rw [e_stk, ← e_f_in hH ha]; rfl) (e_rest_ok hrest) hd hc
  rw [← e_f_in hH ha] at key
  exact key
theorem EV_callS {Y : eY} {as : List eW} {u : Option eW} {i n : Nat} {s0 : List eW} (hd : decode M.1 pc = .ok (.invokestatic i, 3)) (hm : EM E Y as σ u σ2) (hs : s0 = as.reverse ++ st) (hw : eCw Y n) (hn : as.length = n) (hl : Cond.methodLink M.2.1 i Y.1 ∈ eT) (hin : Cond.static Y.1 ∈ eT) (hR0 : e_roomY M Y) (hrest : e_rest st) (h3 : u.toList ++ st = st2) (h : EV E M (pc + 3) lv st2 σ2 v σ') : EV E M pc lv s0 σ v σ' := EV_call hm (by rw [h3]; exact h) fun {p e R s m args below meth c H locs cells slots ls} hC hR hc hH hz => by
  subst hs
  have hT := hC.2.2.2.2.1
  have hK := hC.2.2.2.2.2.1
  exact va_runS (As := as.map (e_w E)) ⟨hC.1, hC.2.1, hC.2.2.1, hC.2.2.2.1, hT⟩ hm.2 ⟨callB_of n hT (e_goodY hw.1) rfl rfl rfl (hT _ hw.2.1) (hT _ hl) hw.2.2 ⟨Nat.le_trans hR0.1 hR.1, Nat.le_trans hR0.2 hR.2⟩, hT _ hin⟩ ⟨e_blind, e_pre hK hH⟩ rfl (by rw [List.length_map]; exact hn) hz e_stk (e_rest_ok hrest) hd hc
theorem EV_callSN {Y : eY} {as : List eW} {u : Option eW} {i n : Nat} {host : String} {s0 : List eW} (hd : decode M.1 pc = .ok (.invokestatic i, 3)) (hm : EM E Y as σ u σ2) (hs : s0 = as.reverse ++ st) (hw : eCw Y n) (hn : as.length = n) (hl : Cond.methodLinkNest M.2.1 i Y.1 host ∈ eN) (hin : Cond.static Y.1 ∈ eT) (hR0 : e_roomY M Y) (hrest : e_rest st) (h3 : u.toList ++ st = st2) (h : EV E M (pc + 3) lv st2 σ2 v σ') : EV E M pc lv s0 σ v σ' := EV_call hm (by rw [h3]; exact h) fun {p e R s m args below meth c H locs cells slots ls} hC hR hc hH hz => by
  subst hs
  have hT := hC.2.2.2.2.1
  have hK := hC.2.2.2.2.2.1
  exact va_runSN (As := as.map (e_w E)) ⟨hC.1, hC.2.1, hC.2.2.1, hC.2.2.2.1, hT⟩ hm.2 ⟨va_cnB n hT (e_goodY hw.1) rfl rfl rfl (hK.2.2.2.1 _ hl) (hT _ hw.2.1) hw.2.2 ⟨Nat.le_trans hR0.1 hR.1, Nat.le_trans hR0.2 hR.2⟩, hT _ hin, trivial⟩ ⟨e_blind, e_pre hK hH⟩ rfl (by rw [List.length_map]; exact hn) hz e_stk (e_rest_ok hrest) hd hc
theorem EV_callI {Y : eY} {as : List eW} {i a n : Nat} {s0 : List eW} (hd : decode M.1 pc = .ok (.invokespecial i, 3)) (hm : EM E Y (VR (some a) :: as) σ none σ2) (hs : s0 = as.reverse ++ VR (some a) :: st) (hret : Y.2.2.2.1 = none) (hw : eCw Y n) (hn : as.length = n) (hl : Cond.methodLink M.2.1 i Y.1 ∈ eT) (hin : Cond.instanceMethod Y.1 ∈ eT) (hy : Y.1.name = "<init>") (hR0 : e_roomY M Y) (hrest : e_rest st) (h : EV E M (pc + 3) lv st σ2 v σ') : EV E M pc lv s0 σ v σ' := EV_call (st := st) (u := none) hm h fun {p e R s m args below meth c H locs cells slots ls} hC hR hc hH hz => by
  subst hs
  have hT := hC.2.2.2.2.1
  have hK := hC.2.2.2.2.2.1
  have cb := callB_of (own := M.2.1) (index := i) (R := R) (rm := eRm Y σ σ2) n hT (e_goodY hw.1) rfl rfl rfl (hT _ hw.2.1) (hT _ hl) hw.2.2 ⟨Nat.le_trans hR0.1 hR.1, Nat.le_trans hR0.2 hR.2⟩
  rw [hret] at cb
  exact va_runI (As := as.map (e_w E)) (b := e_f E a) ⟨hC.1, hC.2.1, hC.2.2.1, hC.2.2.2.1, hT⟩ hm.2 ⟨cb, hy, hT _ hin⟩ ⟨e_blind, e_pre (as := VR (some a) :: as) hK hH⟩ rfl (by rw [List.length_map]; exact hn) hz (by rw [e_stk]; rfl) (e_rest_ok hrest) hd hc
theorem EV_callIN {Y : eY} {as : List eW} {i a n : Nat} {host : String} {s0 : List eW} (hd : decode M.1 pc = .ok (.invokespecial i, 3)) (hm : EM E Y (VR (some a) :: as) σ none σ2) (hs : s0 = as.reverse ++ VR (some a) :: st) (hret : Y.2.2.2.1 = none) (hw : eCw Y n) (hn : as.length = n) (hl : Cond.methodLinkNest M.2.1 i Y.1 host ∈ eN) (hin : Cond.instanceMethod Y.1 ∈ eT) (hy : Y.1.name = "<init>") (hR0 : e_roomY M Y) (hrest : e_rest st) (h : EV E M (pc + 3) lv st σ2 v σ') : EV E M pc lv s0 σ v σ' := EV_call (st := st) (u := none) hm h fun {p e R s m args below meth c H locs cells slots ls} hC hR hc hH hz => by
  subst hs
  have hT := hC.2.2.2.2.1
  have hK := hC.2.2.2.2.2.1
  have cb := va_cnB (own := M.2.1) (index := i) (R := R) (rm := eRm Y σ σ2) n hT (e_goodY hw.1) rfl rfl rfl (hK.2.2.2.1 _ hl) (hT _ hw.2.1) hw.2.2 ⟨Nat.le_trans hR0.1 hR.1, Nat.le_trans hR0.2 hR.2⟩
  rw [hret] at cb
  exact va_runIN (As := as.map (e_w E)) (b := e_f E a) ⟨hC.1, hC.2.1, hC.2.2.1, hC.2.2.2.1, hT⟩ hm.2 ⟨cb, hy, hT _ hin⟩ ⟨e_blind, e_pre (as := VR (some a) :: as) hK hH⟩ rfl (by rw [List.length_map]; exact hn) hz (by rw [e_stk]; rfl) (e_rest_ok hrest) hd hc
theorem EV_objInit {i : Nat} {r : Option Nat} (hd : decode M.1 pc = .ok (.invokespecial i, 3)) (hr : ∃ a, r = some a) (hl : Cond.methodLink M.2.1 i Lib.objectInit ∈ eT) (hin : Cond.instanceMethod Lib.objectInit ∈ eT) (hco : Cond.code Lib.objectInit ⟨#[0xb1]⟩ 1 none ∈ eT) (hR0 : 1 ≤ M.2.2.2.2.1 ∧ 20 ≤ M.2.2.2.2.2.1) (hrest : e_rest st) (h : EV E M (pc + 3) lv st σ v σ') : EV E M pc lv (VR r :: st) σ v σ' := EV_step h fun {p e R s m args below meth c H locs cells slots Q ls} hC hR hc hH hl0 kk => by
  obtain ⟨a, rfl⟩ := hr
  have hT := hC.2.2.2.2.1
  have h8 := e_rest_ok (E := E) (m := m) (pc := pc) (ls := ls) (s0 := .ref (e_f E a) :: st.map (e_w E)) hrest
  exact W.objInit hC.1 hC.2.1 hC.2.2.2.1 (hT _ hl) (hT _ hin) (hT _ hco) (g := F0 m pc ls (.ref (e_f E a) :: st.map (e_w E))) rfl (by rw [hC.2.2.1]; exact hl0.1) rfl hd (Nat.le_trans hR0.1 hR.1) (by have := hR.2; omega) (kk ls hl0)
end EVC
