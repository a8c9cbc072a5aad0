/-! ===== the two beside each other ===== -/
theorem RM_k {s s' : eS} {A : aS} (k : kM s s') (r : RM s A) : RM s' A := by
  have g : ag (fun a _ => !(decide (26 ≤ a) && decide (a < 58))) s (sK s, sN s, sI s', sL s, sP s, sn s, ss s) := ⟨⟨rfl, rfl, rfl, rfl, rfl, rfl⟩, fun a j hx => by
    simp only [Bool.not_eq_false', Bool.and_eq_true, decide_eq_true_eq] at hx
    exact k.2 a j hx.1 hx.2⟩
  obtain ⟨a1, a2, a3, a4, a5, a6, a7, a8, a9⟩ := r
  have r' : RM (sK s, sN s, sI s', sL s, sP s, sn s, ss s) A := ⟨MI_ag g a1 (by decide), OU_ag g a2 rfl (fun k => rfl), MX_ag g a3 rfl (fun k => rfl), ML_ag g a4 ⟨rfl, rfl, rfl⟩ (fun k => ⟨rfl, rfl⟩), MP_ag g a5 rfl (fun k => ⟨rfl, rfl, rfl, rfl, rfl, rfl, rfl⟩), MC_ag g a6 rfl (fun k => ⟨rfl, rfl, rfl, rfl, rfl⟩), MS_ag g a7 rfl (fun k => ⟨rfl, rfl, rfl, rfl⟩) (fun k => ⟨rfl, rfl⟩), ME_ag g a8 rfl (fun k => ⟨rfl, rfl, rfl, rfl⟩), MA_ag g a9 rfl (fun k => ⟨rfl, rfl⟩)⟩
  have e : sI (sK s, sN s, sI s', sL s, sP s, sn s, ss s) = sI s' := rfl
  obtain ⟨a1, a2, a3, a4, a5, a6, a7, a8, a9⟩ := r'
  refine ⟨a1, a2, a3, a4, ?_, ?_, ?_, ?_, ?_⟩
  · exact a5
  · exact a6
  · refine ⟨a7.1, a7.2.1, a7.2.2.1, ?_⟩
    have h := a7.2.2.2
    have es : ∀ (d j : Nat), esF (sK s, sN s, sI s', sL s, sP s, sn s, ss s) j d = esF s' j d := by
      intro d
      induction d with
      | zero => intro j; rfl
      | succ d ih =>
        intro j
        show (if sI s' 47 j = 0 then [] else [esM s' j]) ++ esF (sK s, sN s, sI s', sL s, sP s, sn s, ss s) (j + 1) d = (if sI s' 47 j = 0 then [] else [esM s' j]) ++ esF s' (j + 1) d
        rw [ih]
    rw [es] at h
    exact h
  · exact a8
  · exact a9
theorem RS_m {D : Nat} {s s' : eS} {A : aS} (g : ag xA s s') (r : RS false D s A) : RS false D s' A := ⟨(have q := rs_d r; DS_ag g q), (have q := rs_i r; SI_ag g q (by decide) rfl), (have q := rs_o r; SO_ag g q ⟨rfl, rfl⟩ (fun _ => rfl)), (have q := rs_x r; SXt_ag g q ⟨rfl, rfl, rfl, rfl⟩ (fun _ => rfl)), (have q := rs_l r; SL_ag g q ⟨rfl, rfl, rfl⟩), (have q := rs_p r; SP_ag g (rs_d r).1 q rfl (fun a k hx => by simp <;> omega)), (have q := rs_c r; SC_ag g (rs_d r).1 (rs_d r).2.1 q rfl (fun a k hx => by simp <;> omega)), (have q := rs_n r; SN_ag g q ⟨rfl, rfl⟩ (fun _ => ⟨rfl, rfl⟩)), (have q := rs_e r; SE_ag g (rs_d r).1 q ⟨rfl, rfl, rfl⟩ (fun a k hx => by simp <;> omega)), (have q := rs_a r; SA_ag g (rs_d r).2.2.1 q ⟨rfl, rfl⟩ (fun a k hx => by simp <;> omega)), (have q := rs_m r; SM_ag g q ⟨rfl, rfl, rfl⟩ (fun _ => ⟨rfl, rfl, rfl, rfl, rfl⟩)), (have q := rs_z r; q), (have q := rs_f r; q)⟩
/-- what stands before and behind every call -/
def IV (c : Nat) (s : eS) (A : aS) : Prop := SH s ∧ RM s A ∧ RS false (8 * c) s A ∧ sI s 14 4 = 0 ∧ WW (13000 * c) A ∧ RX A
theorem IV_mk {c : Nat} {s1 s2 : eS} {B : aS} (o1 : sI s1 14 4 = 0) (rs : RS false (8 * c + 8) s1 B) (h2 : SH s2) (g : ag xA s1 s2) (rm : RM s2 B) (w : WW (13000 * c + 13000) B) (x : RX B) : IV (c + 1) s2 B :=
  ⟨h2, rm, by rw [Nat.mul_add]; exact RS_m g rs, (g.2 14 4 rfl).trans o1, by rw [Nat.mul_add]; exact w, x⟩
theorem kM_O {s s' : eS} (k : kO s s') : kM s s' := kM_S k.1
theorem IV_mono {c : Nat} {s : eS} {A : aS} (v : IV c s A) : IV (c + 1) s A := ⟨v.1, v.2.1, RS_mono v.2.2.1 (by omega), v.2.2.2.1, WW_mono v.2.2.2.2.1 (by omega), v.2.2.2.2.2⟩
section
variable {c : Nat} {s : eS} {A : aS}
theorem B_set (v : IV c s A) (a b : Int32) : ∃ x s1 s2 B, mX11_set 0 a b s = some (x, s1) ∧ SH s1 ∧ mX12_set 26 a b s1 = some (x, s2) ∧ IV (c + 1) s2 B := by
  obtain ⟨h, rm, rs, o, w, x⟩ := v
  obtain ⟨s1, f1, k1, r1⟩ := S_set h rs a b
  obtain ⟨s2, f2, h2, g2, r2⟩ := M_set k1.1.1 (RM_k (kM_O k1) rm) a b
  exact ⟨_, s1, s2, _, f1, k1.1.1, f2, IV_mk (k1.2 o) (RS_mono r1 (by omega)) h2 g2 r2 (WW_mono (set_W w a b) (by omega)) (set_X x a b)⟩
theorem B_point (v : IV c s A) (a b d : Int32) {t : Int32} (ht : t = 0 ∨ t = 1) : ∃ x s1 s2 B, mX11_point 0 a b d t s = some (x, s1) ∧ SH s1 ∧ mX12_point 26 a b d t s1 = some (x, s2) ∧ IV (c + 1) s2 B := by
  obtain ⟨h, rm, rs, o, w, x⟩ := v
  obtain ⟨s1, f1, k1, r1, o1⟩ := S_point h rs w a b d ht
  obtain ⟨s2, f2, h2, g2, r2⟩ := M_point k1.1 (RM_k k1 rm) a b d ht
  exact ⟨_, s1, s2, _, f1, k1.1, f2, IV_mk (o1 o) (RS_mono r1 (by omega)) h2 g2 r2 (WW_mono (point_W w a b d t) (by omega)) (point_X x a b d t)⟩
theorem B_command (v : IV c s A) (a b d : Int32) {t : Int32} (ht : t = 0 ∨ t = 1) : ∃ x s1 s2 B, mX11_command 0 a b d t s = some (x, s1) ∧ SH s1 ∧ mX12_command 26 a b d t s1 = some (x, s2) ∧ IV (c + 1) s2 B := by
  obtain ⟨h, rm, rs, o, w, x⟩ := v
  obtain ⟨s1, f1, k1, r1, o1⟩ := S_cmd h rs a b d ht
  have hsel : A.2.1 2 = [] ∨ ∃ c, c < (A.2.2 1).length ∧ (A.2.1 2).getD 0 (-1) = nI c := by
    rcases rs_l rs with ⟨e, -⟩ | ⟨c, _, _, _, _, _, e1, e2, -⟩
    · exact Or.inl e
    · exact Or.inr ⟨c, e1.1, by rw [e2]; rfl⟩
  obtain ⟨s2, f2, h2, g2, r2⟩ := M_command k1.1 (RM_k k1 rm) hsel a b d ht
  exact ⟨_, s1, s2, _, f1, k1.1, f2, IV_mk (o1 o) (RS_mono r1 (by omega)) h2 g2 r2 (WW_mono (command_W w (rs_d rs).2.2.2.1 a b d t) (by omega)) (command_X x a b d t)⟩
theorem B_change (hc : c ≤ 600) (v : IV c s A) (a b d : Int32) : ∃ x s1 s2 B, mX11_change 0 a b d s = some (x, s1) ∧ SH s1 ∧ mX12_change 26 a b d s1 = some (x, s2) ∧ IV (c + 1) s2 B := by
  obtain ⟨h, rm, rs, o, w, x⟩ := v
  obtain ⟨s1, f1, k1, r1⟩ := S_change (by omega) (by omega) h rs w a b d
  obtain ⟨s2, f2, h2, g2, r2⟩ := M_change k1.1.1 (RM_k (kM_O k1) rm) w (rs_12 rs) a b d
  exact ⟨_, s1, s2, _, f1, k1.1.1, f2, IV_mk (k1.2 o) (RS_mono r1 (by omega)) h2 g2 r2 (WW_mono (change_W w (rs_d rs).2.2.2.1 (rs_12 rs) (by have := w.1.2.1; omega) a b d) (by omega)) (change_X x a b d)⟩
theorem B_open (v : IV c s A) : ∃ x s1 s2 B, mX11_open 0 s = some (x, s1) ∧ SH s1 ∧ mX12_open 26 s1 = some (x, s2) ∧ IV (c + 1) s2 B := by
  obtain ⟨h, rm, rs, o, w, x⟩ := v
  obtain ⟨s1, f1, k1, r1, o1⟩ := S_open h rs
  obtain ⟨s2, f2, h2, g2, r2⟩ := M_open k1.1 (RM_k k1 rm)
  exact ⟨_, s1, s2, _, f1, k1.1, f2, IV_mk (o1 o) (RS_mono r1 (by omega)) h2 g2 r2 (WW_mono (open_W w (fun z => ((rs_z rs).1 z).2.2.2)) (by omega)) (open_X x)⟩
theorem B_close (v : IV c s A) : ∃ x s1 s2 B, mX11_close 0 s = some (x, s1) ∧ SH s1 ∧ mX12_close 26 s1 = some (x, s2) ∧ IV (c + 1) s2 B := by
  obtain ⟨h, rm, rs, o, w, x⟩ := v
  obtain ⟨s1, f1, k1, r1⟩ := S_close h rs
  obtain ⟨s2, f2, h2, g2, r2⟩ := M_close k1.1.1 (RM_k (kM_O k1) rm) w
  exact ⟨_, s1, s2, _, f1, k1.1.1, f2, IV_mk (k1.2 o) (RS_mono r1 (by omega)) h2 g2 r2 (WW_mono (shut_W w) (by omega)) (shut_X x)⟩
theorem B_come (hc : c ≤ 600) (v : IV c s A) (a : Int32) (b : Int64) : ∃ x s1 s2 B, mX11_come 0 a b s = some (x, s1) ∧ SH s1 ∧ mX12_come 26 a b s1 = some (x, s2) ∧ IV (c + 1) s2 B := by
  obtain ⟨h, rm, rs, o, w, x⟩ := v
  obtain ⟨s1, f1, k1, r1, o1⟩ := S_come (by omega) (by omega) h rs o w x a b
  obtain ⟨s2, f2, h2, g2, r2, w2, x2⟩ := M_come (by omega) k1.1 (RM_k k1 rm) w x a b
  exact ⟨_, s1, s2, _, f1, k1.1, f2, IV_mk o1 r1 h2 g2 r2 (WW_mono w2 (by omega)) x2⟩
theorem B_tick (hc : c ≤ 600) (v : IV c s A) (a : Int32) : ∃ x s1 s2 B, mX11_tick 0 a s = some (x, s1) ∧ SH s1 ∧ mX12_tick 26 a s1 = some (x, s2) ∧ IV (c + 1) s2 B := by
  obtain ⟨h, rm, rs, o, w, x⟩ := v
  obtain ⟨s1, f1, k1, r1⟩ := S_tick (by omega) h rs w a
  obtain ⟨s2, f2, h2, g2, r2, w2⟩ := M_tick k1.1.1 (RM_k (kM_O k1) rm) w a
  exact ⟨_, s1, s2, _, f1, k1.1.1, f2, IV_mk (k1.2 o) (RS_mono r1 (by omega)) h2 g2 r2 w2 (tick_X x a)⟩
theorem B_take (v : IV c s A) (a : Int32) : ∃ x s1 s2 B, mX11_take 0 a s = some (x, s1) ∧ SH s1 ∧ mX12_take 26 a s1 = some (x, s2) ∧ IV (c + 1) s2 B := by
  obtain ⟨h, rm, rs, o, w, x⟩ := v
  obtain ⟨s1, f1, k1, r1⟩ := S_take h rs a
  obtain ⟨s2, f2, h2, g2, r2⟩ := M_take k1.1.1 (RM_k (kM_O k1) rm) w a
  exact ⟨_, s1, s2, _, f1, k1.1.1, f2, IV_mk (k1.2 o) (RS_mono r1 (by omega)) h2 g2 r2 (WW_mono (take_W w a) (by omega)) (take_X x a)⟩
theorem B_out (v : IV c s A) (a : Int32) : ∃ x s1 s2 B, mX11_out 0 a s = some (x, s1) ∧ SH s1 ∧ mX12_out 26 a s1 = some (x, s2) ∧ IV (c + 1) s2 B :=
  ⟨_, s, s, A, S_out v.1 v.2.2.1 a, v.1, M_out v.1 v.2.1 v.2.2.2.2.1 a, IV_mono v⟩
theorem B_told (v : IV c s A) (a b : Int32) : ∃ x s1 s2 B, mX11_told 0 a b s = some (x, s1) ∧ SH s1 ∧ mX12_told 26 a b s1 = some (x, s2) ∧ IV (c + 1) s2 B :=
  ⟨_, s, s, A, S_told v.1 v.2.2.1 a b, v.1, M_told v.1 v.2.1 a b, IV_mono v⟩
theorem B_ordered (v : IV c s A) (a b : Int32) : ∃ x s1 s2 B, mX11_ordered 0 a b s = some (x, s1) ∧ SH s1 ∧ mX12_ordered 26 a b s1 = some (x, s2) ∧ IV (c + 1) s2 B :=
  ⟨_, s, s, A, S_ordered v.1 v.2.2.1 a b, v.1, M_ordered v.1 v.2.1 a b, IV_mono v⟩
theorem B_clock (v : IV c s A) (a : Int32) : ∃ x s1 s2 B, mX11_clock 0 a s = some (x, s1) ∧ SH s1 ∧ mX12_clock 26 a s1 = some (x, s2) ∧ IV (c + 1) s2 B :=
  ⟨_, s, s, A, S_clock v.1 v.2.2.1 a, v.1, M_clock v.1 v.2.1 a, IV_mono v⟩
theorem B_count (v : IV c s A) (a : Int32) : ∃ x s1 s2 B, mX11_count 0 a s = some (x, s1) ∧ SH s1 ∧ mX12_count 26 a s1 = some (x, s2) ∧ IV (c + 1) s2 B :=
  ⟨_, s, s, A, S_count' v.1 v.2.2.1 a, v.1, M_count v.1 v.2.1 a, IV_mono v⟩
end
