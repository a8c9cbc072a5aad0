def aT : List FieldType := [.int, .byte, .boolean, .long, .object "ControlledStation$Point", .object "ControlledStation$Command", .object "ControlledStation$Message"]
def tyC : Nat → Nat → FieldType := fun ci => match ci with
  | 0 => tyX0
  | 1 => tyX1
  | 2 => tyX2
  | 3 => tyX3
  | 4 => tyX4
  | 5 => tyX5
  | 6 => tyX6
  | 7 => tyX7
  | 8 => tyX8
  | 9 => tyX9
  | 10 => tyX10
  | 11 => tyX11
  | _ => tyX12
abbrev eTab : Type := String × String × String × (List Int32 ⊕ List Int64)
def sT : List eTab := [
  ("ControlledStation", "LEAST", "[I", .inl [0, 1, 1, 1, 1, 1, 1]),
  ("ControlledStation", "MOST", "[I", .inl [65534, 12, 12, 1000, 1000, 1000, 1000]),
  ("ControlledStation", "COMMAND_POINTS", "[I", .inl [0, 1, 4]),
  ("ControlledStation", "LEAST_VALUES", "[I", .inl [0, 0, -64, -32768, -32768, -2147483648, -2147483648]),
  ("ControlledStation", "MOST_VALUES", "[I", .inl [1, 3, 63, 32767, 32767, 2147483647, 2147483647]),
  ("ControlledStation", "QUALITIES", "[I", .inl [30, 30, 31, 31, 31, 31, 16]),
  ("ControlledStation", "VALUE_MASKS", "[J", .inr [0, 0, 127, 65535, 65535, 4294967295, 4294967295]),
  ("ControlledStation", "VALUE_BYTES", "[I", .inl [0, 0, 1, 2, 2, 4, 4]),
  ("ControlledStation", "TIMED_TYPES", "[I", .inl [30, 31, 32, 34, 35, 36, 37]),
  ("ControlledStation", "TYPES", "[I", .inl [1, 3, 5, 9, 11, 13, 15]),
  ("ControlledStation", "COMMAND_TYPES", "[I", .inl [45, 46, 49]),
  ("ControlledStation", "DAYS", "[I", .inl [31, 28, 31, 30, 31, 30, 31, 31, 30, 31, 30, 31]),
  ("ControlledStation", "COMMAND_BYTES", "[I", .inl [1, 1, 3])]
/-! ===== the store: what lies in the cells that came since the law's entry ===== -/
abbrev eS : Type := (Nat → Nat) × (Nat → Nat) × (Nat → Nat → Int32) × (Nat → Nat → Int64) × (Nat → Nat → Option Nat) × Nat × Nat
def sK (σ : eS) : Nat → Nat := σ.1
def sN (σ : eS) : Nat → Nat := σ.2.1
def sI (σ : eS) : Nat → Nat → Int32 := σ.2.2.1
def sL (σ : eS) : Nat → Nat → Int64 := σ.2.2.2.1
def sP (σ : eS) : Nat → Nat → Option Nat := σ.2.2.2.2.1
def sn (σ : eS) : Nat := σ.2.2.2.2.2.1
def ss (σ : eS) : Nat := σ.2.2.2.2.2.2
def e_u {α : Type} (f : Nat → Nat → α) (a k : Nat) (x : α) : Nat → Nat → α := fun b j => if b = a then (if j = k then x else f b j) else f b j
def e_row {α : Type} (f : Nat → Nat → α) (a : Nat) (g : Nat → α) : Nat → Nat → α := fun b j => if b = a then g j else f b j
def e_I (σ : eS) (a k : Nat) (x : Int32) : eS := (sK σ, sN σ, e_u (sI σ) a k x, sL σ, sP σ, sn σ, ss σ)
def e_L (σ : eS) (a k : Nat) (x : Int64) : eS := (sK σ, sN σ, sI σ, e_u (sL σ) a k x, sP σ, sn σ, ss σ)
def e_P (σ : eS) (a k : Nat) (x : Option Nat) : eS := (sK σ, sN σ, sI σ, sL σ, e_u (sP σ) a k x, sn σ, ss σ)
def e_IR (σ : eS) (a : Nat) (g : Nat → Int32) : eS := (sK σ, sN σ, e_row (sI σ) a g, sL σ, sP σ, sn σ, ss σ)
def e_new (σ : eS) (t n w : Nat) : eS := (fun b => if b = sn σ then t else sK σ b, fun b => if b = sn σ then n else sN σ b, e_row (sI σ) (sn σ) (fun _ => 0), e_row (sL σ) (sn σ) (fun _ => 0), e_row (sP σ) (sn σ) (fun _ => none), sn σ + 1, ss σ + w)
/-! values -/
abbrev eW : Type := Int32 ⊕ Int64 ⊕ Option Nat
abbrev VI (x : Int32) : eW := .inl x
abbrev VL (x : Int64) : eW := .inr (.inl x)
abbrev VR (r : Option Nat) : eW := .inr (.inr r)
def e_cat : eW → Nat
  | .inr (.inl _) => 2
  | _ => 1
/-! the surroundings: launch, classes' numbers, slots, array classes, addresses of the static tables, heap at the law's entry -/
abbrev eE : Type := Launch × (Nat → ClassId) × (Nat → Nat → Nat) × (Nat → ClassId) × (Nat → Nat) × Heap × Nat × (Nat → Int32)
def e_dC (E : eE) : Nat → ClassId := E.2.1
def e_dI (E : eE) : Nat → Nat → Nat := E.2.2.1
def e_cA (E : eE) : Nat → ClassId := E.2.2.2.1
def e_ta (E : eE) : Nat → Nat := E.2.2.2.2.1
def e_HB (E : eE) : Heap := E.2.2.2.2.2.1
/-- the script: its length, its ints; its address is e_ta E 999 -/
def e_N (E : eE) : Nat := E.2.2.2.2.2.2.1
def e_xs (E : eE) : Nat → Int32 := E.2.2.2.2.2.2.2
def e_b (E : eE) : Nat := (e_HB E).size
def e_f (E : eE) (a : Nat) : Nat := if a < 1000000000 then e_b E + a else e_ta E (a - 1000000000)
def e_r (E : eE) (r : Option Nat) : Value := va_rf (r.map (e_f E))
def e_w (E : eE) (w : eW) : Value := match w with
  | .inl x => .int x
  | .inr (.inl x) => .long x
  | .inr (.inr r) => e_r E r
def e_v (E : eE) (ty : FieldType) (σ : eS) (a k : Nat) : Value := match ty with
  | .long => .long (sL σ a k)
  | .object _ => e_r E (sP σ a k)
  | .array _ => e_r E (sP σ a k)
  | _ => .int (sI σ a k)
theorem e_w_cat (E : eE) (w : eW) : (e_w E w).category = e_cat w := by
  rcases w with x | x | r
  · rfl
  · rfl
  · cases r <;> rfl
/-- the cell a as the heap has it -/
def e_c (E : eE) (σ : eS) (a : Nat) (H : Heap) : Prop :=
  (∃ ty, aT[sK σ a]? = some ty ∧ sK σ a < 100 ∧ H[e_b E + a]? = some (arrV (e_cA E (sK σ a)) (sN σ a) (fun j => e_v E ty σ a j)) ∧ ∀ j, fits ty (e_v E ty σ a j) = true) ∨
  (∃ r, vwCl[sK σ a - 100]? = some r ∧ 100 ≤ sK σ a ∧ t_OB (e_b E + a) (e_dC E (sK σ a - 100)) r.2.2 (e_dI E (sK σ a - 100)) H (fun k => e_v E (tyC (sK σ a - 100) k) σ a k))
def eH (E : eE) (σ : eS) (H : Heap) : Prop := H.size = e_b E + sn σ ∧ sn σ ≤ 500000000 ∧ (∀ a, a < sn σ → e_c E σ a H) ∧ ∀ q, q < e_b E → H[q]? = (e_HB E)[q]?
/-! the static tables -/
def e_tf : (List Int32 ⊕ List Int64) → Nat → Value
  | .inl l, j => .int (l.getD j 0)
  | .inr l, j => .long (l.getD j 0)
def e_tn : (List Int32 ⊕ List Int64) → Nat
  | .inl l => l.length
  | .inr l => l.length
def e_tt : (List Int32 ⊕ List Int64) → FieldType
  | .inl _ => .int
  | .inr _ => .long
abbrev e_A (E : eE) : Nat → Prop := fun q => e_b E ≤ q
def eK (E : eE) (U : State) : Prop :=
  (∀ (c : Nat) (q : vw_C), vwCl[c]? = some q → u_Kn U q.1 q.2.1 q.2.2 (e_dC E c) (e_dI E c)) ∧
  (∀ (t : Nat) (ty : FieldType), aT[t]? = some ty → ArrOfT U (e_cA E t) ty ∧ va_RA U (e_cA E t) ty) ∧
  (∀ (j : Nat) (r : eTab), sT[j]? = some r → va_Z r.1 r.2.1 r.2.2.1 (.ref (e_ta E j)) (e_A E) U (e_HB E) ∧ va_T (e_tt r.2.2.2) (e_ta E j) (e_tn r.2.2.2) (e_tf r.2.2.2) (e_A E) U (e_HB E)) ∧
  (∀ w ∈ eN, va_Nw w U) ∧ (∀ C : String, Cond.arrayOver (.object C) ∈ lw_tbl → va_AO C U) ∧ va_X (e_ta E 999) (e_N E) (e_xs E) U (e_HB E)
theorem eK_warm {E : eE} {s U : State} (hW : s.WarmedH U.vm) (h : eK E s) : eK E U := by
  have ha := hW.alike
  refine ⟨fun c q hq => u_Kn_moved ha (h.1 c q hq), fun t ty ht => ⟨arrOfT_moved ha (h.2.1 t ty ht).1, (h.2.1 t ty ht).2.moved ha⟩, fun j r hj => ⟨(h.2.2.1 j r hj).1.moved ha, (h.2.2.1 j r hj).2.moved ha⟩, fun w hw => ?_, fun C hC => (h.2.2.2.2.1 C hC).moved ha, h.2.2.2.2.2.moved ha⟩
  have h1 := h.2.2.2.1 w hw
  have h2 := (List.mem_filter.mp hw).2
  cases w with
  | fieldLinkNest a i b n d x => exact va_Nw.warmF hW h1
  | methodLinkNest a i x y => exact va_Nw.warmM hW h1
  | _ => cases h2
theorem eK_vm {E : eE} {u U : State} (hvm : u.vm = U.vm) (h : eK E u) : eK E U := by
  have ha : u.vm.Alike U.vm := hvm ▸ Vm.Alike.refl u.vm
  refine ⟨fun c q hq => u_Kn_moved ha (h.1 c q hq), fun t ty ht => ⟨arrOfT_moved ha (h.2.1 t ty ht).1, (h.2.1 t ty ht).2.moved ha⟩, fun j r hj => ⟨(h.2.2.1 j r hj).1.moved ha, (h.2.2.1 j r hj).2.moved ha⟩, fun w hw => ?_, fun C hC => (h.2.2.2.2.1 C hC).moved ha, h.2.2.2.2.2.moved ha⟩
  have h1 := h.2.2.2.1 w hw
  have h2 := (List.mem_filter.mp hw).2
  cases w with
  | fieldLinkNest a i b n d x => exact va_tabs rfl hvm h1
  | methodLinkNest a i x y => exact va_tabs rfl hvm h1
  | _ => cases h2
/-! a method: its bytes, its class, its locals, whether it is a constructor, frames and locals below it -/
abbrev eM : Type := ByteArray × String × Nat × Bool × Nat × Nat × Option FieldType
def eC (E : eE) (M : eM) (p : Program) (s : State) (m : MethodId) (args : Array Value) (meth : Method) (c : Code) : Prop :=
  p.tables.exec = Jvm.exec ∧ c.code = M.1 ∧ c.maxLocals = M.2.2.1 ∧ s.vm.findClass M.2.1 = some m.cls ∧ (∀ w ∈ eT, w.before args s = true) ∧ eK E s ∧ (M.2.2.2.1 = true → meth.name = "<init>")
abbrev e_lv (E : eE) (lv : List (Nat × eW)) : List (Nat × Value) := lv.map (fun q => (q.1, e_w E q.2))
/-- the answer is of its type -/
def e_ok (ret : Option FieldType) (v : Option eW) : Prop := match v with
  | none => ret = none
  | some (.inl x) => ∃ ty, ret = some ty ∧ narrow ty (.int x) = .int x
  | some (.inr (.inl _)) => ret = some .long
  | some (.inr (.inr _)) => ∃ n, ret = some (.object n)
def e_ri (v : Option eW) : Instr := match v with
  | none => .return_
  | some (.inl _) => .ireturn
  | some (.inr (.inl _)) => .lreturn
  | some (.inr (.inr _)) => .areturn
def eR (M : eM) (pc : Nat) (v : Option eW) : Prop := decode M.1 pc = .ok (e_ri v, 1) ∧ e_ok M.2.2.2.2.2.2 v
/-- from (pc, locals, stack) over the store σ the method comes to its return, with v, over the store σ' -/
def EV (E : eE) (M : eM) (pc : Nat) (lv : List (Nat × eW)) (st : List eW) (σ : eS) (v : Option eW) (σ' : eS) : Prop :=
  (sn σ ≤ sn σ' ∧ ss σ ≤ ss σ') ∧ ∀ (p : Program) (e : Env) (R : Room) (s : State) (m : MethodId) (args : Array Value) (below : List Frame) (meth : Method) (c : Code) (H : Heap) (locs : List Loc) (cells slots : Nat) (Q : State → Prop) (ls : Array Slot),
    eC E M p s m args meth c → (M.2.2.2.2.1 ≤ R.frames ∧ M.2.2.2.2.2.1 ≤ R.locals) → (cells + (sn σ' - sn σ) ≤ R.cells ∧ slots + (ss σ' - ss σ) ≤ R.slots) → eH E σ H → (∀ q ∈ locs, e_b E ≤ q.base) → lv_has ls M.2.2.1 (e_lv E lv) →
    (∀ (H' : Heap) (locs' : List Loc) (ls' : Array Slot) (pc' : Nat), eH E σ' H' → (∀ q ∈ locs', e_b E ≤ q.base) → eR M pc' v → W p E.1 e R s m args below meth c H' locs' (cells + (sn σ' - sn σ)) (slots + (ss σ' - ss σ)) Q (F0 m pc' ls' (v.toList.map (e_w E)))) →
    W p E.1 e R s m args below meth c H locs cells slots Q (F0 m pc ls (st.map (e_w E)))
section EVR
variable {E : eE} {M : eM} {pc : Nat} {lv lv2 : List (Nat × eW)} {st st2 : List eW} {σ σ' : eS} {v : Option eW}
/-- a step that leaves the store -/
theorem EV_step {pc2 : Nat} (h : EV E M pc2 lv2 st2 σ v σ') (go : ∀ {p : Program} {e : Env} {R : Room} {s : State} {m : MethodId} {args : Array Value} {below : List Frame} {meth : Method} {c : Code} {H : Heap} {locs : List Loc} {cells slots : Nat} {Q : State → Prop} {ls : Array Slot}, eC E M p s m args meth c → (M.2.2.2.2.1 ≤ R.frames ∧ M.2.2.2.2.2.1 ≤ R.locals) → (cells ≤ R.cells ∧ slots ≤ R.slots) → eH E σ H → lv_has ls M.2.2.1 (e_lv E lv) →
    (∀ ls2 : Array Slot, lv_has ls2 M.2.2.1 (e_lv E lv2) → W p E.1 e R s m args below meth c H locs cells slots Q (F0 m pc2 ls2 (st2.map (e_w E)))) → W p E.1 e R s m args below meth c H locs cells slots Q (F0 m pc ls (st.map (e_w E)))) : EV E M pc lv st σ v σ' :=
  ⟨h.1, fun p e R s m args below meth c H locs cells slots Q ls hC hR hc hH hL hl k => go hC hR ⟨Nat.le_trans (Nat.le_add_right _ _) hc.1, Nat.le_trans (Nat.le_add_right _ _) hc.2⟩ hH hl (fun ls2 hl2 => h.2 p e R s m args below meth c H locs cells slots Q ls2 hC hR hc hH hL hl2 k)⟩
/-- a branch -/
theorem EV_two {c0 : Prop} {p1 p2 : Nat} {st1 : List eW} (h1 : c0 → EV E M p1 lv st1 σ v σ') (h2 : ¬ c0 → EV E M p2 lv st1 σ v σ') (go : ∀ {p : Program} {e : Env} {R : Room} {s : State} {m : MethodId} {args : Array Value} {below : List Frame} {meth : Method} {c : Code} {H : Heap} {locs : List Loc} {cells slots : Nat} {Q : State → Prop} {ls : Array Slot}, eC E M p s m args meth c → eH E σ H → lv_has ls M.2.2.1 (e_lv E lv) →
    (c0 → W p E.1 e R s m args below meth c H locs cells slots Q (F0 m p1 ls (st1.map (e_w E)))) → (¬ c0 → W p E.1 e R s m args below meth c H locs cells slots Q (F0 m p2 ls (st1.map (e_w E)))) → W p E.1 e R s m args below meth c H locs cells slots Q (F0 m pc ls (st.map (e_w E)))) : EV E M pc lv st σ v σ' := by
  refine ⟨?_, fun p e R s m args below meth c H locs cells slots Q ls hC hR hc hH hL hl k => go hC hH hl (fun z => (h1 z).2 p e R s m args below meth c H locs cells slots Q ls hC hR hc hH hL hl k) (fun z => (h2 z).2 p e R s m args below meth c H locs cells slots Q ls hC hR hc hH hL hl k)⟩
  by_cases z : c0
  · exact (h1 z).1
  · exact (h2 z).1
theorem EV_lv (h : EV E M pc lv2 st σ v σ') (hs : ∀ q ∈ lv2, q ∈ lv) : EV E M pc lv st σ v σ' :=
  EV_step h fun hC hR hc hH hl k => k _ ⟨hl.1, hl.2.1, fun q hq => by
    obtain ⟨q0, h1, h2⟩ := List.mem_map.mp hq
    exact hl.2.2 q (List.mem_map.mpr ⟨q0, hs q0 h1, h2⟩)⟩
def e_lk (lv : List (Nat × eW)) (i : Nat) : Option eW := match lv with
  | [] => none
  | q :: r => if q.1 = i then some q.2 else e_lk r i
theorem e_lk_mem : ∀ {lv : List (Nat × eW)} {i : Nat} {w : eW}, e_lk lv i = some w → (i, w) ∈ lv
  | q :: r, i, w, h => by
    unfold e_lk at h
    by_cases hq : q.1 = i
    · rw [if_pos hq] at h
      cases h
      rw [← hq]
      exact List.mem_cons_self
    · rw [if_neg hq] at h
      exact List.mem_cons_of_mem _ (e_lk_mem h)
theorem e_lk_at {ls : Array Slot} {nL : Nat} {i : Nat} {w : eW} (hl : lv_has ls nL (e_lv E lv)) (h : e_lk lv i = some w) : ls[i]? = some (.val (e_w E w)) := hl.2.2 (i, e_w E w) (List.mem_map.mpr ⟨(i, w), e_lk_mem h, rfl⟩)
def e_s1 (lv : List (Nat × eW)) (i : Nat) : List (Nat × eW) := lv.filter (fun q => !(q.1 == i) && !(q.1 + 1 == i && e_cat q.2 == 2))
def e_s2 (lv : List (Nat × eW)) (i : Nat) : List (Nat × eW) := lv.filter (fun q => !(q.1 == i) && (!(q.1 == i + 1) && !(q.1 + 1 == i && e_cat q.2 == 2)))
theorem e_s1_map (i : Nat) : (e_lv E lv).filter (fun q => !(q.1 == i) && !(q.1 + 1 == i && q.2.category == 2)) = e_lv E (e_s1 lv i) := by
  unfold e_lv e_s1
  rw [List.filter_map]
  congr 1
  apply List.filter_congr
  intro q _
  simp only [Function.comp, e_w_cat]
theorem e_s2_map (i : Nat) : (e_lv E lv).filter (fun q => !(q.1 == i) && (!(q.1 == i + 1) && !(q.1 + 1 == i && q.2.category == 2))) = e_lv E (e_s2 lv i) := by
  unfold e_lv e_s2
  rw [List.filter_map]
  congr 1
  apply List.filter_congr
  intro q _
  simp only [Function.comp, e_w_cat]
theorem EV_iconst {n : Int} {x : Int32} (hd : decode M.1 pc = .ok (.iconst n, 1)) (hv : Int32.ofInt n = x) (h : EV E M (pc + 1) lv (VI x :: st) σ v σ') : EV E M pc lv st σ v σ' := EV_step h fun hC hR hc hH hl k => lv_iconst hC.1 hC.2.1 hd hv (k _ hl)
theorem EV_bipush {n : Int} {x : Int32} (hd : decode M.1 pc = .ok (.bipush n, 2)) (hv : (Int8.ofInt n).toInt32 = x) (h : EV E M (pc + 2) lv (VI x :: st) σ v σ') : EV E M pc lv st σ v σ' := EV_step h fun hC hR hc hH hl k => lv_bipush hC.1 hC.2.1 hd hv (k _ hl)
theorem EV_sipush {n : Int} {x : Int32} (hd : decode M.1 pc = .ok (.sipush n, 3)) (hv : (Int16.ofInt n).toInt32 = x) (h : EV E M (pc + 3) lv (VI x :: st) σ v σ') : EV E M pc lv st σ v σ' := EV_step h fun hC hR hc hH hl k => lv_sipush hC.1 hC.2.1 hd hv (k _ hl)
theorem EV_lconst {n : Fin 2} {x : Int64} (hd : decode M.1 pc = .ok (.lconst n, 1)) (hv : Int64.ofNat (n : Nat) = x) (h : EV E M (pc + 1) lv (VL x :: st) σ v σ') : EV E M pc lv st σ v σ' := EV_step h fun hC hR hc hH hl k => lv_lconst hC.1 hC.2.1 hd hv (k _ hl)
theorem EV_iload_n {k0 : Fin 4} {x : Int32} (hd : decode M.1 pc = .ok (.iload_n k0, 1)) (hv : e_lk lv k0 = some (VI x)) (h : EV E M (pc + 1) lv (VI x :: st) σ v σ') : EV E M pc lv st σ v σ' := EV_step h fun hC hR hc hH hl k => lv_iload_n hC.1 hC.2.1 hd rfl (e_lk_at hl hv) (k _ hl)
theorem EV_iload {i : Nat} {x : Int32} (hd : decode M.1 pc = .ok (.iload i, 2)) (hv : e_lk lv i = some (VI x)) (h : EV E M (pc + 2) lv (VI x :: st) σ v σ') : EV E M pc lv st σ v σ' := EV_step h fun hC hR hc hH hl k => lv_iload hC.1 hC.2.1 hd (e_lk_at hl hv) (k _ hl)
theorem EV_lload_n {k0 : Fin 4} {x : Int64} (hd : decode M.1 pc = .ok (.lload_n k0, 1)) (hv : e_lk lv k0 = some (VL x)) (h : EV E M (pc + 1) lv (VL x :: st) σ v σ') : EV E M pc lv st σ v σ' := EV_step h fun hC hR hc hH hl k => lv_lload_n hC.1 hC.2.1 hd rfl (e_lk_at hl hv) (k _ hl)
theorem EV_lload {i : Nat} {x : Int64} (hd : decode M.1 pc = .ok (.lload i, 2)) (hv : e_lk lv i = some (VL x)) (h : EV E M (pc + 2) lv (VL x :: st) σ v σ') : EV E M pc lv st σ v σ' := EV_step h fun hC hR hc hH hl k => lv_lload hC.1 hC.2.1 hd (e_lk_at hl hv) (k _ hl)
theorem EV_aload_n {k0 : Fin 4} {r : Option Nat} (hd : decode M.1 pc = .ok (.aload_n k0, 1)) (hv : e_lk lv k0 = some (VR r)) (h : EV E M (pc + 1) lv (VR r :: st) σ v σ') : EV E M pc lv st σ v σ' := EV_step h fun hC hR hc hH hl k => by
  have hz := e_lk_at hl hv
  cases r with
  | none => exact lv_aload_nN hC.1 hC.2.1 hd rfl hz (k _ hl)
  | some a => exact lv_aload_n hC.1 hC.2.1 hd rfl hz (k _ hl)
theorem EV_aload {k0 : Nat} {r : Option Nat} (hd : decode M.1 pc = .ok (.aload k0, 2)) (hv : e_lk lv k0 = some (VR r)) (h : EV E M (pc + 2) lv (VR r :: st) σ v σ') : EV E M pc lv st σ v σ' := EV_step h fun hC hR hc hH hl k => by
  have hz := e_lk_at hl hv
  cases r with
  | none => exact lv_aloadN hC.1 hC.2.1 hd  hz (k _ hl)
  | some a => exact lv_aload hC.1 hC.2.1 hd  hz (k _ hl)
theorem EV_istore_n {k0 : Fin 4} {x : Int32} (hd : decode M.1 pc = .ok (.istore_n k0, 1)) (hn : (k0 : Nat) < M.2.2.1) (hv : (↑k0, VI x) :: e_s1 lv k0 = lv2) (h : EV E M (pc + 1) lv2 st σ v σ') : EV E M pc lv (VI x :: st) σ v σ' := EV_step h fun hC hR hc hH hl k => lv_istore_n hC.1 hC.2.1 hd rfl hl hn (by rw [← hv]; exact congrArg _ (e_s1_map _)) (fun ls2 h2 => k ls2 h2)
theorem EV_istore {k0 : Nat} {x : Int32} (hd : decode M.1 pc = .ok (.istore k0, 2)) (hn : k0 < M.2.2.1) (hv : (k0, VI x) :: e_s1 lv k0 = lv2) (h : EV E M (pc + 2) lv2 st σ v σ') : EV E M pc lv (VI x :: st) σ v σ' := EV_step h fun hC hR hc hH hl k => lv_istore hC.1 hC.2.1 hd hl hn (by rw [← hv]; exact congrArg _ (e_s1_map _)) (fun ls2 h2 => k ls2 h2)
theorem EV_lstore_n {k0 : Fin 4} {x : Int64} (hd : decode M.1 pc = .ok (.lstore_n k0, 1)) (hn : (k0 : Nat) + 1 < M.2.2.1) (hv : (↑k0, VL x) :: e_s2 lv k0 = lv2) (h : EV E M (pc + 1) lv2 st σ v σ') : EV E M pc lv (VL x :: st) σ v σ' := EV_step h fun hC hR hc hH hl k => lv_lstore_n hC.1 hC.2.1 hd rfl hl hn (by rw [← hv]; exact congrArg _ (e_s2_map _)) (fun ls2 h2 => k ls2 h2)
theorem EV_lstore {k0 : Nat} {x : Int64} (hd : decode M.1 pc = .ok (.lstore k0, 2)) (hn : k0 + 1 < M.2.2.1) (hv : (k0, VL x) :: e_s2 lv k0 = lv2) (h : EV E M (pc + 2) lv2 st σ v σ') : EV E M pc lv (VL x :: st) σ v σ' := EV_step h fun hC hR hc hH hl k => lv_lstore hC.1 hC.2.1 hd hl hn (by rw [← hv]; exact congrArg _ (e_s2_map _)) (fun ls2 h2 => k ls2 h2)
theorem EV_astore_n {k0 : Fin 4} {r : Option Nat} (hd : decode M.1 pc = .ok (.astore_n k0, 1)) (hn : (k0 : Nat) < M.2.2.1) (hv : (↑k0, VR r) :: e_s1 lv k0 = lv2) (h : EV E M (pc + 1) lv2 st σ v σ') : EV E M pc lv (VR r :: st) σ v σ' := EV_step h fun hC hR hc hH hl k => by
  cases r with
  | none => exact lv_astore_nN hC.1 hC.2.1 hd rfl hl hn (by rw [← hv]; exact congrArg _ (e_s1_map _)) (fun ls2 h2 => k ls2 h2)
  | some a => exact lv_astore_n hC.1 hC.2.1 hd rfl hl hn (by rw [← hv]; exact congrArg _ (e_s1_map _)) (fun ls2 h2 => k ls2 h2)
theorem EV_astore {k0 : Nat} {r : Option Nat} (hd : decode M.1 pc = .ok (.astore k0, 2)) (hn : (k0 : Nat) < M.2.2.1) (hv : (k0, VR r) :: e_s1 lv k0 = lv2) (h : EV E M (pc + 2) lv2 st σ v σ') : EV E M pc lv (VR r :: st) σ v σ' := EV_step h fun hC hR hc hH hl k => by
  cases r with
  | none => exact lv_astoreN hC.1 hC.2.1 hd  hl hn (by rw [← hv]; exact congrArg _ (e_s1_map _)) (fun ls2 h2 => k ls2 h2)
  | some a => exact lv_astore hC.1 hC.2.1 hd  hl hn (by rw [← hv]; exact congrArg _ (e_s1_map _)) (fun ls2 h2 => k ls2 h2)
theorem EV_iinc {i : Nat} {n : Int} {x y : Int32} (hd : decode M.1 pc = .ok (.iinc i n, 3)) (hx : e_lk lv i = some (VI x)) (hy : Int32.ofInt n = y) (hn : i < M.2.2.1) (hv : (i, VI (x + y)) :: e_s1 lv i = lv2) (h : EV E M (pc + 3) lv2 st σ v σ') : EV E M pc lv st σ v σ' := EV_step h fun hC hR hc hH hl k => by
  obtain ⟨j, hj⟩ := List.getElem?_of_mem (List.mem_map.mpr ⟨(i, VI x), e_lk_mem hx, rfl⟩ : (i, e_w _ (VI x)) ∈ e_lv _ lv)
  exact lv_iinc (v := x + y) hC.1 hC.2.1 hd hl hj (by rw [hy]) hn (by rw [← hv]; exact congrArg _ (e_s1_map _)) (fun ls2 h2 => k ls2 h2)
theorem EV_iadd {x y : Int32} (hd : decode M.1 pc = .ok (.iadd, 1)) (h : EV E M (pc + 1) lv (VI (x + y) :: st) σ v σ') : EV E M pc lv (VI y :: VI x :: st) σ v σ' := EV_step h fun hC hR hc hH hl k => lv_iadd hC.1 hC.2.1 hd (k _ hl)
theorem EV_isub {x y : Int32} (hd : decode M.1 pc = .ok (.isub, 1)) (h : EV E M (pc + 1) lv (VI (x - y) :: st) σ v σ') : EV E M pc lv (VI y :: VI x :: st) σ v σ' := EV_step h fun hC hR hc hH hl k => lv_isub hC.1 hC.2.1 hd (k _ hl)
theorem EV_imul {x y : Int32} (hd : decode M.1 pc = .ok (.imul, 1)) (h : EV E M (pc + 1) lv (VI (x * y) :: st) σ v σ') : EV E M pc lv (VI y :: VI x :: st) σ v σ' := EV_step h fun hC hR hc hH hl k => lv_imul hC.1 hC.2.1 hd (k _ hl)
theorem EV_iand {x y : Int32} (hd : decode M.1 pc = .ok (.iand, 1)) (h : EV E M (pc + 1) lv (VI (x &&& y) :: st) σ v σ') : EV E M pc lv (VI y :: VI x :: st) σ v σ' := EV_step h fun hC hR hc hH hl k => lv_iand hC.1 hC.2.1 hd (k _ hl)
theorem EV_ior {x y : Int32} (hd : decode M.1 pc = .ok (.ior, 1)) (h : EV E M (pc + 1) lv (VI (x ||| y) :: st) σ v σ') : EV E M pc lv (VI y :: VI x :: st) σ v σ' := EV_step h fun hC hR hc hH hl k => lv_ior hC.1 hC.2.1 hd (k _ hl)
theorem EV_ixor {x y : Int32} (hd : decode M.1 pc = .ok (.ixor, 1)) (h : EV E M (pc + 1) lv (VI (x ^^^ y) :: st) σ v σ') : EV E M pc lv (VI y :: VI x :: st) σ v σ' := EV_step h fun hC hR hc hH hl k => lv_ixor hC.1 hC.2.1 hd (k _ hl)
theorem EV_ishl {x y : Int32} (hd : decode M.1 pc = .ok (.ishl, 1)) (h : EV E M (pc + 1) lv (VI (x <<< (y &&& 31)) :: st) σ v σ') : EV E M pc lv (VI y :: VI x :: st) σ v σ' := EV_step h fun hC hR hc hH hl k => lv_ishl hC.1 hC.2.1 hd (k _ hl)
theorem EV_ishr {x y : Int32} (hd : decode M.1 pc = .ok (.ishr, 1)) (h : EV E M (pc + 1) lv (VI (x >>> (y &&& 31)) :: st) σ v σ') : EV E M pc lv (VI y :: VI x :: st) σ v σ' := EV_step h fun hC hR hc hH hl k => lv_ishr hC.1 hC.2.1 hd (k _ hl)
theorem EV_ladd {x y : Int64} (hd : decode M.1 pc = .ok (.ladd, 1)) (h : EV E M (pc + 1) lv (VL (x + y) :: st) σ v σ') : EV E M pc lv (VL y :: VL x :: st) σ v σ' := EV_step h fun hC hR hc hH hl k => lv_ladd hC.1 hC.2.1 hd (k _ hl)
theorem EV_lsub {x y : Int64} (hd : decode M.1 pc = .ok (.lsub, 1)) (h : EV E M (pc + 1) lv (VL (x - y) :: st) σ v σ') : EV E M pc lv (VL y :: VL x :: st) σ v σ' := EV_step h fun hC hR hc hH hl k => lv_lsub hC.1 hC.2.1 hd (k _ hl)
theorem EV_land {x y : Int64} (hd : decode M.1 pc = .ok (.land, 1)) (h : EV E M (pc + 1) lv (VL (x &&& y) :: st) σ v σ') : EV E M pc lv (VL y :: VL x :: st) σ v σ' := EV_step h fun hC hR hc hH hl k => lv_land hC.1 hC.2.1 hd (k _ hl)
theorem EV_lor {x y : Int64} (hd : decode M.1 pc = .ok (.lor, 1)) (h : EV E M (pc + 1) lv (VL (x ||| y) :: st) σ v σ') : EV E M pc lv (VL y :: VL x :: st) σ v σ' := EV_step h fun hC hR hc hH hl k => lv_lor hC.1 hC.2.1 hd (k _ hl)
theorem EV_lxor {x y : Int64} (hd : decode M.1 pc = .ok (.lxor, 1)) (h : EV E M (pc + 1) lv (VL (x ^^^ y) :: st) σ v σ') : EV E M pc lv (VL y :: VL x :: st) σ v σ' := EV_step h fun hC hR hc hH hl k => lv_lxor hC.1 hC.2.1 hd (k _ hl)
theorem EV_lshl {x : Int64} {y : Int32} (hd : decode M.1 pc = .ok (.lshl, 1)) (h : EV E M (pc + 1) lv (VL (x <<< (y.toInt64 &&& 63)) :: st) σ v σ') : EV E M pc lv (VI y :: VL x :: st) σ v σ' := EV_step h fun hC hR hc hH hl k => lv_lshl hC.1 hC.2.1 hd rfl (k _ hl)
theorem EV_lshr {x : Int64} {y : Int32} (hd : decode M.1 pc = .ok (.lshr, 1)) (h : EV E M (pc + 1) lv (VL (x >>> (y.toInt64 &&& 63)) :: st) σ v σ') : EV E M pc lv (VI y :: VL x :: st) σ v σ' := EV_step h fun hC hR hc hH hl k => lv_lshr hC.1 hC.2.1 hd rfl (k _ hl)
theorem EV_idiv {x y : Int32} (hd : decode M.1 pc = .ok (.idiv, 1)) (hne : ¬ y = 0) (h : EV E M (pc + 1) lv (VI (x / y) :: st) σ v σ') : EV E M pc lv (VI y :: VI x :: st) σ v σ' := EV_step h fun hC hR hc hH hl k => lv_idiv hC.1 hC.2.1 hd hne (k _ hl)
theorem EV_irem {x y : Int32} (hd : decode M.1 pc = .ok (.irem, 1)) (hne : ¬ y = 0) (h : EV E M (pc + 1) lv (VI (x - x / y * y) :: st) σ v σ') : EV E M pc lv (VI y :: VI x :: st) σ v σ' := EV_step h fun hC hR hc hH hl k => lv_irem hC.1 hC.2.1 hd hne (k _ hl)
theorem EV_ineg {x : Int32} (hd : decode M.1 pc = .ok (.ineg, 1)) (h : EV E M (pc + 1) lv (VI (-x) :: st) σ v σ') : EV E M pc lv (VI x :: st) σ v σ' := EV_step h fun hC hR hc hH hl k => lv_ineg hC.1 hC.2.1 hd (k _ hl)
theorem EV_i2l {x : Int32} (hd : decode M.1 pc = .ok (.i2l, 1)) (h : EV E M (pc + 1) lv (VL (x.toInt64) :: st) σ v σ') : EV E M pc lv (VI x :: st) σ v σ' := EV_step h fun hC hR hc hH hl k => lv_i2l hC.1 hC.2.1 hd rfl (k _ hl)
theorem EV_l2i {x : Int64} (hd : decode M.1 pc = .ok (.l2i, 1)) (h : EV E M (pc + 1) lv (VI (x.toInt32) :: st) σ v σ') : EV E M pc lv (VL x :: st) σ v σ' := EV_step h fun hC hR hc hH hl k => lv_l2i hC.1 hC.2.1 hd rfl (k _ hl)
theorem EV_i2b {x : Int32} (hd : decode M.1 pc = .ok (.i2b, 1)) (h : EV E M (pc + 1) lv (VI (x.toInt8.toInt32) :: st) σ v σ') : EV E M pc lv (VI x :: st) σ v σ' := EV_step h fun hC hR hc hH hl k => lv_i2b hC.1 hC.2.1 hd rfl (k _ hl)
theorem EV_i2s {x : Int32} (hd : decode M.1 pc = .ok (.i2s, 1)) (h : EV E M (pc + 1) lv (VI (x.toInt16.toInt32) :: st) σ v σ') : EV E M pc lv (VI x :: st) σ v σ' := EV_step h fun hC hR hc hH hl k => lv_i2s hC.1 hC.2.1 hd rfl (k _ hl)
theorem EV_lcmp {x y : Int64} (hd : decode M.1 pc = .ok (.lcmp, 1)) (h : EV E M (pc + 1) lv (VI (lg_cmp x y) :: st) σ v σ') : EV E M pc lv (VL y :: VL x :: st) σ v σ' := EV_step h fun hC hR hc hH hl k => W.lcmp hC.1 hC.2.1 hd (k _ hl)
theorem EV_dup {w : eW} (hd : decode M.1 pc = .ok (.dup, 1)) (hw : e_cat w = 1) (h : EV E M (pc + 1) lv (w :: w :: st) σ v σ') : EV E M pc lv (w :: st) σ v σ' := EV_step h fun hC hR hc hH hl k => lv_dup hC.1 hC.2.1 hd ((e_w_cat _ w).trans hw) (k _ hl)
theorem EV_pop {w : eW} (hd : decode M.1 pc = .ok (.pop, 1)) (hw : e_cat w = 1) (h : EV E M (pc + 1) lv st σ v σ') : EV E M pc lv (w :: st) σ v σ' := EV_step h fun hC hR hc hH hl k => lv_pop hC.1 hC.2.1 hd ((e_w_cat _ w).trans hw) (k _ hl)
theorem EV_dup_x1 {w u : eW} (hd : decode M.1 pc = .ok (.dup_x1, 1)) (hw : e_cat w = 1) (hu : e_cat u = 1) (h : EV E M (pc + 1) lv (w :: u :: w :: st) σ v σ') : EV E M pc lv (w :: u :: st) σ v σ' := EV_step h fun hC hR hc hH hl k => lv_dup_x1 hC.1 hC.2.1 hd ((e_w_cat _ w).trans hw) ((e_w_cat _ u).trans hu) (k _ hl)
theorem EV_dup2 {w u : eW} (hd : decode M.1 pc = .ok (.dup2, 1)) (hw : e_cat w = 1) (hu : e_cat u = 1) (h : EV E M (pc + 1) lv (w :: u :: w :: u :: st) σ v σ') : EV E M pc lv (w :: u :: st) σ v σ' := EV_step h fun hC hR hc hH hl k => lv_dup2_11 hC.1 hC.2.1 hd ((e_w_cat _ w).trans hw) ((e_w_cat _ u).trans hu) (k _ hl)
theorem EV_goto {off : Int} {tgt : Nat} (hd : decode M.1 pc = .ok (.goto off, 3)) (ht : (pc : Int) + off = (tgt : Int)) (h : EV E M tgt lv st σ v σ') : EV E M pc lv st σ v σ' := EV_step h fun hC hR hc hH hl k => lv_goto hC.1 hC.2.1 hd ht (k _ hl)
theorem EV_null (hd : decode M.1 pc = .ok (.aconst_null, 1)) (h : EV E M (pc + 1) lv (VR none :: st) σ v σ') : EV E M pc lv st σ v σ' := EV_step h fun hC hR hc hH hl k => lv_null hC.1 hC.2.1 hd (k _ hl)
theorem EV_if_eq {x : Int32} {off : Int} {tgt : Nat} (hd : decode M.1 pc = .ok (.ifCond .eq off, 3)) (ht : (pc : Int) + off = (tgt : Int)) (h1 : x = 0 → EV E M tgt lv st σ v σ') (h2 : ¬ (x = 0) → EV E M (pc + 3) lv st σ v σ') : EV E M pc lv (VI x :: st) σ v σ' := EV_two h1 h2 fun hC hH hl k1 k2 => lv_if_eq hC.1 hC.2.1 hd ht k1 k2
theorem EV_icmp_eq {x y : Int32} {off : Int} {tgt : Nat} (hd : decode M.1 pc = .ok (.if_icmp .eq off, 3)) (ht : (pc : Int) + off = (tgt : Int)) (h1 : x = y → EV E M tgt lv st σ v σ') (h2 : ¬ (x = y) → EV E M (pc + 3) lv st σ v σ') : EV E M pc lv (VI y :: VI x :: st) σ v σ' := EV_two h1 h2 fun hC hH hl k1 k2 => lv_icmp_eq hC.1 hC.2.1 hd ht k1 k2
theorem EV_if_lt {x : Int32} {off : Int} {tgt : Nat} (hd : decode M.1 pc = .ok (.ifCond .lt off, 3)) (ht : (pc : Int) + off = (tgt : Int)) (h1 : x < 0 → EV E M tgt lv st σ v σ') (h2 : ¬ (x < 0) → EV E M (pc + 3) lv st σ v σ') : EV E M pc lv (VI x :: st) σ v σ' := EV_two h1 h2 fun hC hH hl k1 k2 => lv_if_lt hC.1 hC.2.1 hd ht k1 k2
theorem EV_icmp_lt {x y : Int32} {off : Int} {tgt : Nat} (hd : decode M.1 pc = .ok (.if_icmp .lt off, 3)) (ht : (pc : Int) + off = (tgt : Int)) (h1 : x < y → EV E M tgt lv st σ v σ') (h2 : ¬ (x < y) → EV E M (pc + 3) lv st σ v σ') : EV E M pc lv (VI y :: VI x :: st) σ v σ' := EV_two h1 h2 fun hC hH hl k1 k2 => lv_icmp_lt hC.1 hC.2.1 hd ht k1 k2
theorem EV_if_ge {x : Int32} {off : Int} {tgt : Nat} (hd : decode M.1 pc = .ok (.ifCond .ge off, 3)) (ht : (pc : Int) + off = (tgt : Int)) (h1 : 0 ≤ x → EV E M tgt lv st σ v σ') (h2 : ¬ (0 ≤ x) → EV E M (pc + 3) lv st σ v σ') : EV E M pc lv (VI x :: st) σ v σ' := EV_two h1 h2 fun hC hH hl k1 k2 => lv_if_ge hC.1 hC.2.1 hd ht k1 k2
theorem EV_icmp_ge {x y : Int32} {off : Int} {tgt : Nat} (hd : decode M.1 pc = .ok (.if_icmp .ge off, 3)) (ht : (pc : Int) + off = (tgt : Int)) (h1 : y ≤ x → EV E M tgt lv st σ v σ') (h2 : ¬ (y ≤ x) → EV E M (pc + 3) lv st σ v σ') : EV E M pc lv (VI y :: VI x :: st) σ v σ' := EV_two h1 h2 fun hC hH hl k1 k2 => lv_icmp_ge hC.1 hC.2.1 hd ht k1 k2
theorem EV_if_gt {x : Int32} {off : Int} {tgt : Nat} (hd : decode M.1 pc = .ok (.ifCond .gt off, 3)) (ht : (pc : Int) + off = (tgt : Int)) (h1 : 0 < x → EV E M tgt lv st σ v σ') (h2 : ¬ (0 < x) → EV E M (pc + 3) lv st σ v σ') : EV E M pc lv (VI x :: st) σ v σ' := EV_two h1 h2 fun hC hH hl k1 k2 => lv_if_gt hC.1 hC.2.1 hd ht k1 k2
theorem EV_icmp_gt {x y : Int32} {off : Int} {tgt : Nat} (hd : decode M.1 pc = .ok (.if_icmp .gt off, 3)) (ht : (pc : Int) + off = (tgt : Int)) (h1 : y < x → EV E M tgt lv st σ v σ') (h2 : ¬ (y < x) → EV E M (pc + 3) lv st σ v σ') : EV E M pc lv (VI y :: VI x :: st) σ v σ' := EV_two h1 h2 fun hC hH hl k1 k2 => lv_icmp_gt hC.1 hC.2.1 hd ht k1 k2
theorem EV_if_le {x : Int32} {off : Int} {tgt : Nat} (hd : decode M.1 pc = .ok (.ifCond .le off, 3)) (ht : (pc : Int) + off = (tgt : Int)) (h1 : x ≤ 0 → EV E M tgt lv st σ v σ') (h2 : ¬ (x ≤ 0) → EV E M (pc + 3) lv st σ v σ') : EV E M pc lv (VI x :: st) σ v σ' := EV_two h1 h2 fun hC hH hl k1 k2 => lv_if_le hC.1 hC.2.1 hd ht k1 k2
theorem EV_icmp_le {x y : Int32} {off : Int} {tgt : Nat} (hd : decode M.1 pc = .ok (.if_icmp .le off, 3)) (ht : (pc : Int) + off = (tgt : Int)) (h1 : x ≤ y → EV E M tgt lv st σ v σ') (h2 : ¬ (x ≤ y) → EV E M (pc + 3) lv st σ v σ') : EV E M pc lv (VI y :: VI x :: st) σ v σ' := EV_two h1 h2 fun hC hH hl k1 k2 => lv_icmp_le hC.1 hC.2.1 hd ht k1 k2
theorem EV_if_ne {x : Int32} {off : Int} {tgt : Nat} (hd : decode M.1 pc = .ok (.ifCond .ne off, 3)) (ht : (pc : Int) + off = (tgt : Int)) (h1 : x = 0 → EV E M (pc + 3) lv st σ v σ') (h2 : ¬ (x = 0) → EV E M tgt lv st σ v σ') : EV E M pc lv (VI x :: st) σ v σ' := EV_two h1 h2 fun hC hH hl k1 k2 => lv_if_ne hC.1 hC.2.1 hd ht k2 k1
theorem EV_icmp_ne {x y : Int32} {off : Int} {tgt : Nat} (hd : decode M.1 pc = .ok (.if_icmp .ne off, 3)) (ht : (pc : Int) + off = (tgt : Int)) (h1 : x = y → EV E M (pc + 3) lv st σ v σ') (h2 : ¬ (x = y) → EV E M tgt lv st σ v σ') : EV E M pc lv (VI y :: VI x :: st) σ v σ' := EV_two h1 h2 fun hC hH hl k1 k2 => lv_icmp_ne hC.1 hC.2.1 hd ht k2 k1
theorem EV_ifnull {r : Option Nat} {off : Int} {tgt : Nat} (hd : decode M.1 pc = .ok (.ifnull off, 3)) (ht : (pc : Int) + off = (tgt : Int)) (h1 : r = none → EV E M tgt lv st σ v σ') (h2 : ¬ r = none → EV E M (pc + 3) lv st σ v σ') : EV E M pc lv (VR r :: st) σ v σ' := EV_two h1 h2 fun hC hH hl k1 k2 => by
  cases r with
  | none => exact lv_ifnullN hC.1 hC.2.1 hd ht (k1 rfl)
  | some a => exact lv_ifnull hC.1 hC.2.1 hd (k2 (fun z => by cases z))
theorem EV_ifnonnull {r : Option Nat} {off : Int} {tgt : Nat} (hd : decode M.1 pc = .ok (.ifnonnull off, 3)) (ht : (pc : Int) + off = (tgt : Int)) (h1 : r = none → EV E M (pc + 3) lv st σ v σ') (h2 : ¬ r = none → EV E M tgt lv st σ v σ') : EV E M pc lv (VR r :: st) σ v σ' := EV_two h1 h2 fun hC hH hl k1 k2 => by
  cases r with
  | none => exact lv_ifnonnullN hC.1 hC.2.1 hd (k1 rfl)
  | some a => exact lv_ifnonnull hC.1 hC.2.1 hd ht (k2 (fun z => by cases z))
theorem EV_ldc {i : Nat} {x : Int32} (hd : decode M.1 pc = .ok (.ldc i, 2)) (hw : Jvm.Cond.constant M.2.1 i x ∈ eT) (h : EV E M (pc + 2) lv (VI x :: st) σ v σ') : EV E M pc lv st σ v σ' := EV_step h fun hC hR hc hH hl k => lv_ldc hC.1 hC.2.1 hC.2.2.2.1 (hC.2.2.2.2.1 _ hw) hd (k _ hl)
theorem EV_ldcw {i : Nat} {x : Int32} (hd : decode M.1 pc = .ok (.ldc_w i, 3)) (hw : Jvm.Cond.constant M.2.1 i x ∈ eT) (h : EV E M (pc + 3) lv (VI x :: st) σ v σ') : EV E M pc lv st σ v σ' := EV_step h fun hC hR hc hH hl k => lv_ldcw hC.1 hC.2.1 hC.2.2.2.1 (hC.2.2.2.2.1 _ hw) hd (k _ hl)
theorem EV_ldc2 {i : Nat} {x : Int64} (hd : decode M.1 pc = .ok (.ldc2_w i, 3)) (hw : Jvm.Cond.constantLong M.2.1 i x ∈ eT) (h : EV E M (pc + 3) lv (VL x :: st) σ v σ') : EV E M pc lv st σ v σ' := EV_step h fun hC hR hc hH hl k => lv_ldc2 hC.1 hC.2.1 hC.2.2.2.1 (hC.2.2.2.2.1 _ hw) hd (k _ hl)
end EVR
