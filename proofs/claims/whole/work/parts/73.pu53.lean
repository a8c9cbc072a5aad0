/-! ===== TYPES that are told ===== -/
def kn (ty : Int32) : Prop := ty = 45 ∨ ty = 46 ∨ ty = 49 ∨ ty = 100 ∨ ty = 101 ∨ ty = 102 ∨ ty = 103 ∨ ty = 104
theorem kn_or : ∀ b, b < 256 → (b = 45 ∨ b = 46 ∨ b = 49 ∨ b = 100 ∨ b = 101 ∨ b = 102 ∨ b = 103 ∨ b = 104) ∨ (rlN (nI b) = 0 ∧ orF (nI b) = 0 ∧ inL (nI b).toInt64 100 104 = 0) := by decide +kernel
theorem kn_ln {ty : Int32} (h : kn ty) : rlN ty = lnF ty ∧ rlN ty ≠ 0 ∧ (orF ty = 0 → inL ty.toInt64 100 104 ≠ 0 ∧ ¬ ty < 100) ∧ (orF ty ≠ 0 → ty < 100) := by
  rcases h with rfl | rfl | rfl | rfl | rfl | rfl | rfl | rfl <;> decide +kernel
theorem kn_cau {ty : Int32} (h : kn ty) (cause : Int32) (s : eS) : mX11_isCauseOf ty cause s = some (cauV ty cause, s) := by
  unfold mX11_isCauseOf mX11_isCauseOf_16 mX11_isCauseOf_35 mX11_isCauseOf_39 mX11_isCauseOf_40 cauV
  rw [oZ0, oZ1, b1S, b1S]
  rcases h with rfl | rfl | rfl | rfl | rfl | rfl | rfl | rfl
  · exact it2 (it2 rfl rfl) (it2 rfl (it2 rfl rfl))
  · exact it2 (it2 rfl rfl) (it2 rfl (it2 rfl rfl))
  · exact it2 (it2 rfl rfl) (it2 rfl (it2 rfl rfl))
  · exact it2 (it2 rfl rfl) (it2 rfl (it2 rfl rfl))
  · exact it2 (it2 rfl rfl) (it2 rfl (it2 rfl rfl))
  · exact it2 (it2 rfl rfl) (it2 rfl (it2 rfl rfl))
  · exact it2 (it2 rfl rfl) (it2 rfl (it2 rfl rfl))
  · exact it2 (it2 rfl rfl) (it2 rfl (it2 rfl rfl))
theorem ixC_at {q : List (List Int32)} {x so : Int32} (h : ixC q x so < q.length) : pg q (ixC q x so) 1 = x ∧ pg q (ixC q x so) 0 = so := by
  have hx := List.findIdx_getElem (p := fun e : List Int32 => e.getD 1 0 == x && e.getD 0 0 == so) (xs := q) (w := h)
  rw [Bool.and_eq_true] at hx
  unfold pg
  rw [gDx h]
  exact ⟨eq_of_beq hx.1, eq_of_beq hx.2⟩
theorem ixC_ne {q : List (List Int32)} {x so : Int32} {i : Nat} (h : i < ixC q x so) : ¬ (pg q i 1 = x ∧ pg q i 0 = so) := by
  have hl := ixC_le q x so
  have := List.not_of_lt_findIdx (p := fun e : List Int32 => e.getD 1 0 == x && e.getD 0 0 == so) (xs := q) (i := i) h
  intro z
  unfold pg at z
  have hi : i < q.length := by omega
  rw [gDx hi] at z
  have z1 : (q[i]).getD 1 0 = x := z.1
  have z2 : (q[i]).getD 0 0 = so := z.2
  rw [beq_iff_eq.mpr z1, beq_iff_eq.mpr z2] at this
  cases this
theorem ixC_ixF {q : List (List Int32)} (u : UQ q) (x so : Int32) : (ixF q 1 x < q.length ∧ pg q (ixF q 1 x) 0 = so → ixC q x so = ixF q 1 x) ∧ (¬ (ixF q 1 x < q.length ∧ pg q (ixF q 1 x) 0 = so) → ixC q x so = q.length) := by
  have hl := ixC_le q x so
  have hf := ixF_le q 1 x
  have same : ixC q x so < q.length → ixC q x so = ixF q 1 x := fun h => by
    have h1 := ixC_at h
    have h2 : ixF q 1 x ≤ ixC q x so := by
      apply Nat.le_of_not_lt
      intro z
      exact ix_ne z h1.1
    exact u _ _ h (by omega) (h1.1.trans (ix_at (by omega)).symm)
  constructor
  · intro h
    have h2 : ixC q x so ≤ ixF q 1 x := by
      apply Nat.le_of_not_lt
      intro z
      exact ixC_ne z ⟨ix_at h.1, h.2⟩
    exact same (by omega)
  · intro h
    apply Classical.byContradiction
    intro z
    have hlt : ixC q x so < q.length := by omega
    have e := same hlt
    exact h ⟨by omega, by rw [← e]; exact (ixC_at hlt).2⟩
theorem S_193 {D : Nat} {s : eS} (h : SH s) {B : aS} (r : RT D s B) : ∃ s', mX11_takeRest_193 0 s = some s' ∧ kS s s' ∧ RS true D s' B ∧ sI s' 14 4 = 0 := by
  unfold mX11_takeRest_193 mX11_takeRest_209
  rw [gP_0_7 h, b1S, b1S, gI_14 h, b1S]
  rcases r with ⟨o, r, -⟩ | ⟨o, A0, r, -, rfl⟩
  · rw [if_pos o]
    exact ⟨s, rfl, kS_rf h, r, o⟩
  · obtain ⟨s1, f1, k1, r1, c1⟩ := S_shut h r 7
    rw [if_neg (by rw [o]; decide), oK_0 h, b1S, f1, b1S]
    exact ⟨s1, rfl, k1, r1, c1⟩
/-- the command that is meant, as the station looks it up -/
theorem so_ty : ∀ k, k < 3 → (∀ ty, ty = 45 ∨ ty = 46 ∨ ty = 49 → (nI (if k = 2 then 49 else 45 + k) = nI ty ↔ nI k = soF (nI ty))) := by
  intro k hk ty h
  rcases (by omega : k = 0 ∨ k = 1 ∨ k = 2) with rfl | rfl | rfl <;> rcases h with rfl | rfl | rfl <;> decide +kernel
set_option maxRecDepth 100000 in
theorem S_isAddr {t : Bool} {C : Nat} {s : eS} (h : SH s) {A : aS} (r : RS t C s A) {ty : Nat} (hk : ty = 45 ∨ ty = 46 ∨ ty = 49 ∨ ty = 100 ∨ ty = 101 ∨ ty = 102 ∨ ty = 103 ∨ ty = 104) (x : Int32) : mX11_isAddressOf 0 (nI ty) x s = some (if ty = 102 then (if ixF (A.2.2 0) 1 x = (A.2.2 0).length then 0 else 1) else if ty < 100 then (if ixC (A.2.2 1) x (soF (nI ty)) = (A.2.2 1).length then 0 else 1) else if x = 0 then 1 else 0, s) := by
  unfold mX11_isAddressOf mX11_isAddressOf_22 mX11_isAddressOf_65 mX11_isAddressOf_66 mX11_isAddressOf_38
  rw [oZ0, oZ1, b1S, b1S]
  by_cases c102 : ty = 102
  · rw [if_pos (show nI ty = 102 by rw [c102]; rfl), if_pos c102, gP_0_1 h, b1S, b1S, oK_2 h, b1S, S_withAddr h r x, b2S]
    by_cases c : ixF (A.2.2 0) 1 x = (A.2.2 0).length
    · rw [if_pos c, if_pos c, if_pos rfl, b1S]
    · rw [if_neg c, if_neg c, if_neg (by simp), b1S]
  · rw [if_neg (show ¬ nI ty = 102 from fun z => c102 ((nI_eq (a := ty) (b := 102) (by omega) (by omega)).mp z)), if_neg c102]
    by_cases c100 : ty < 100
    · rw [if_pos (lt_c (c := 100) 100 c100), if_pos c100, oK_0 h, b1S, S_cmdWith h r x, b2S]
      have hx := ixC_ixF (rs_c r).2.2 x (soF (nI ty))
      have hle := ixF_le (A.2.2 1) 1 x
      by_cases c : ixF (A.2.2 1) 1 x = (A.2.2 1).length
      · rw [if_pos c, if_pos (hx.2 (fun z => by omega)), if_pos rfl, b1S]
      · have hlt : ixF (A.2.2 1) 1 x < (A.2.2 1).length := by omega
        have ko := ((rs_d r).2.1.1 _ hlt).2
        obtain ⟨k, hk3, q0, i0, -⟩ := pg_cm (rs_c r) hlt
        rw [if_neg c, if_neg (by simp), b1S, koI ko, b1S, i0, tab10 k hk3, b1S]
        have st := so_ty k hk3 ty (by omega)
        by_cases cs : nI k = soF (nI ty)
        · rw [if_pos (st.mpr cs), if_neg (by rw [hx.1 ⟨hlt, q0.trans cs⟩]; exact c), b1S]
        · rw [if_neg (fun z => cs (st.mp z)), if_pos (hx.2 (fun z => cs (q0.symm.trans z.2))), b1S]
    · rw [if_neg (nlt_c (c := 100) 100 (by omega)), if_neg c100]
      by_cases c : x = 0
      · rw [if_pos c, if_pos c]
      · rw [if_neg c, if_neg c]
