/-! ===== the model sends frames ===== -/
theorem RM_OU {s s' : eS} {A : aS} {l : List Int32} (g : ag xOU s s') (r : RM s A) (o : OU s' l) : RM s' (ul A 0 l) := by
  obtain ⟨a1, a2, a3, a4, a5, a6, a7, a8, a9⟩ := r
  exact ⟨MI_ag g a1 (by decide), o, MX_ag g a3 rfl (fun k => rfl), ML_ag g a4 ⟨rfl, rfl, rfl⟩ (fun k => ⟨rfl, rfl⟩), MP_ag g a5 rfl (fun k => ⟨rfl, rfl, rfl, rfl, rfl, rfl, rfl⟩), MC_ag g a6 rfl (fun k => ⟨rfl, rfl, rfl, rfl, rfl⟩), MS_ag g a7 rfl (fun k => ⟨rfl, rfl, rfl, rfl⟩) (fun k => ⟨rfl, rfl⟩), ME_ag g a8 rfl (fun k => ⟨rfl, rfl, rfl, rfl⟩), MA_ag g a9 rfl (fun k => ⟨rfl, rfl⟩)⟩
theorem xM_OU {s s' : eS} (g : ag xOU s s') : ag xM s s' := ag_mono g (fun a k hx => by
  simp only [xM, Bool.and_eq_false_iff, decide_eq_false_iff_not, Bool.not_eq_false', beq_iff_eq] at hx
  simp only [xOU, Bool.or_eq_false_iff, Bool.and_eq_false_iff, beq_eq_false_iff_ne]
  omega)
set_option maxRecDepth 100000 in
theorem M_frames_loop {bs : List Int32} (hbl : bs.length ≤ 260) {s0 : eS} {l : List Int32} (hlt : l.length + bs.length ≤ 4096) : ∀ (d k m : Nat) (s : eS), k + d = bs.length → d < m → SH s → ag xOU s0 s → rd (sI s 56) bs.length = bs → OU s (l ++ bs.take k) →
    ∃ s', mX12_frames_62 m 26 (nI bs.length) (nI k) s = some (1, s') ∧ SH s' ∧ ag xOU s0 s' ∧ OU s' (l ++ bs) := by
  intro d
  induction d with
  | zero =>
    intro k m s hk hm h hg hb ho
    obtain ⟨m, rfl⟩ : ∃ q, m = q + 1 := ⟨m - 1, by omega⟩
    unfold mX12_frames_62
    rw [if_pos (nI_le (by omega) (by omega)), oZ1, b1S]
    rw [show k = bs.length by omega, List.take_length] at ho
    exact ⟨s, rfl, h, hg, ho⟩
  | succ d ih =>
    intro k m s hk hm h hg hb ho
    obtain ⟨m, rfl⟩ : ∃ q, m = q + 1 := ⟨m - 1, by omega⟩
    have hi : ¬ nI k < 0 ∧ (nI k).toNatClampNeg < 260 := nIc (by omega) (by omega)
    have hk2 : k < bs.length := by omega
    have hv : bs[k]? = some (sI s 56 k) := by have := rd_get (sI s 56) hk2; rw [hb] at this; exact this
    obtain ⟨s1, e1, g1, o1⟩ := M_byteOut h ho (by rw [List.length_append, List.length_take]; omega) (sI s 56 k)
    unfold mX12_frames_62
    rw [if_neg (nI_ge (by omega) (by omega)), gP_26_52 h, b1S, b1S, aI_56 h hi, b1S, nI_clamp (by omega), oK_26 h, b1S, e1, b1S, nI_1]
    refine ih (k + 1) m s1 (by omega) (by omega) (SH_ag h g1) (ag_tr hg g1) ?_ ?_
    · rw [rd_congr (fun i _ => g1.2 56 i rfl)]; exact hb
    · rw [List.take_add_one, hv]
      rw [List.append_assoc] at o1
      exact o1
def a_fr (A : aS) (c bs : List Int32) : Int32 × aS := if (A.2.1 0).length + 6 + bs.length ≤ 4096 then (1, ul A 0 (A.2.1 0 ++ ([104, 4 + nI bs.length] ++ c ++ bs))) else (0, a_close A 6)
set_option maxRecDepth 100000 in
theorem M_frames {s : eS} (h : SH s) {A : aS} (r : RM s A) (hev : (A.2.2 3).length + (A.2.2 2).length ≤ 58) (hou : (A.2.1 0).length ≤ 4096) {bs : List Int32} (hbl : bs.length ≤ 260) (hb : rd (sI s 56) bs.length = bs) (c0 c1 c2 c3 : Int32) :
    ∃ s', mX12_frames 26 c0 c1 c2 c3 (nI bs.length) s = some ((a_fr A [c0, c1, c2, c3] bs).1, s') ∧ SH s' ∧ ag xM s s' ∧ RM s' (a_fr A [c0, c1, c2, c3] bs).2 ∧ ((a_fr A [c0, c1, c2, c3] bs).1 ≠ 0 → ag xOU s s') := by
  have r0 := r
  obtain ⟨-, ⟨ho, ho2⟩, -⟩ := r
  have e0 : sI s 26 49 + 6 + nI bs.length = nI ((A.2.1 0).length + 6 + bs.length) := by rw [ho, show (6 : Int32) = nI 6 from rfl, nI_add, nI_add]
  unfold mX12_frames a_fr
  rw [gI_26 h, b1S, e0]
  by_cases hc : (A.2.1 0).length + 6 + bs.length ≤ 4096
  · rw [if_pos hc, if_pos (show nI ((A.2.1 0).length + 6 + bs.length) ≤ 4096 from nI_le (b := 4096) hc (by decide))]
    obtain ⟨s1, e1, g1, o1⟩ := M_byteOut h ⟨ho, ho2⟩ (by omega) 104
    have h1 := SH_ag h g1
    obtain ⟨s2, e2, g2, o2⟩ := M_byteOut h1 o1 (by simp; omega) (4 + nI bs.length)
    have h2 := SH_ag h1 g2
    obtain ⟨s3, e3, g3, o3⟩ := M_byteOut h2 o2 (by simp; omega) c0
    have h3 := SH_ag h2 g3
    obtain ⟨s4, e4, g4, o4⟩ := M_byteOut h3 o3 (by simp; omega) c1
    have h4 := SH_ag h3 g4
    obtain ⟨s5, e5, g5, o5⟩ := M_byteOut h4 o4 (by simp; omega) c2
    have h5 := SH_ag h4 g5
    obtain ⟨s6, e6, g6, o6⟩ := M_byteOut h5 o5 (by simp; omega) c3
    have h6 := SH_ag h5 g6
    have G := ag_tr g1 (ag_tr g2 (ag_tr g3 (ag_tr g4 (ag_tr g5 g6))))
    obtain ⟨s7, e7, h7, g7, o7⟩ := M_frames_loop hbl (s0 := s6) (l := A.2.1 0 ++ [104] ++ [4 + nI bs.length] ++ [c0] ++ [c1] ++ [c2] ++ [c3]) (by simp; omega) bs.length 0 100000 s6 (by omega) (by omega) h6 ag_rf (by rw [rd_congr (fun i _ => G.2 56 i rfl)]; exact hb) (by rw [List.take_zero, List.append_nil]; exact o6)
    refine ⟨s7, ?_, h7, xM_OU (ag_tr G g7), ?_, fun _ => ag_tr G g7⟩
    · rw [oK_26 h, b1S, e1, b1S, oK_26 h1, b1S, e2, b1S, oK_26 h2, b1S, e3, b1S, oK_26 h3, b1S, e4, b1S, oK_26 h4, b1S, e5, b1S, oK_26 h5, b1S, e6, b1S]
      exact e7
    · refine RM_OU (ag_tr G g7) r0 ?_
      have : A.2.1 0 ++ ([104, 4 + nI bs.length] ++ [c0, c1, c2, c3] ++ bs) = A.2.1 0 ++ [104] ++ [4 + nI bs.length] ++ [c0] ++ [c1] ++ [c2] ++ [c3] ++ bs := by simp
      show OU s7 (A.2.1 0 ++ ([104, 4 + nI bs.length] ++ [c0, c1, c2, c3] ++ bs))
      rw [this]
      exact o7
  · rw [if_neg hc, if_neg (show ¬ nI ((A.2.1 0).length + 6 + bs.length) ≤ 4096 from nI_ge (a := 4096) (by omega) (by omega))]
    obtain ⟨s1, e1, h1, g1, r1⟩ := M_closes h r0 hev 6
    refine ⟨s1, ?_, h1, g1, r1, fun z => absurd rfl z⟩
    rw [oK_26 h, b1S, e1, b1S, oZ0, b1S]
/-- the two bytes of a number of frames, modulo 32768, and a bit more -/
def kb (x : Int32) : List Int32 := [((x - x / 32768 * 32768) * 2) &&& 255, (x - x / 32768 * 32768) >>> ((7 : Int32) &&& 31)]
def a_tell (A : aS) : aS := if (a_fr A ([1, 0] ++ kb (A.1 16)) []).1 = 0 then (a_fr A ([1, 0] ++ kb (A.1 16)) []).2 else ui (a_fr A ([1, 0] ++ kb (A.1 16)) []).2 17 ((a_fr A ([1, 0] ++ kb (A.1 16)) []).2.1 16)
theorem RM_set {s : eS} {A : aS} (r : RM s A) {k j : Nat} {x : Int32} (hj : ∀ i, i < 26 → ((mc i = (26, k)) ↔ i = j)) (hk : k ≠ 49 ∧ k ≠ 51 ∧ k ≠ 15 ∧ k ≠ 16 ∧ k ≠ 17 ∧ k ≠ 1 ∧ k ≠ 9 ∧ k ≠ 28 ∧ k ≠ 23 ∧ k ≠ 45) : RM (e_I s 26 k x) (ui A j x) := by
  obtain ⟨a1, a2, a3, a4, a5, a6, a7, a8, a9⟩ := r
  have g : ag (fun a i => a == 26 && i == k) s (e_I s 26 k x) := ag_I ag_rf (by simp)
  have z : ∀ i, i ≠ k → (26 == 26 && i == k) = false := fun i hi => by simp [hi]
  obtain ⟨k1, k2, k3, k4, k5, k6, k7, k8, k9, k10⟩ := hk
  exact ⟨MI_set a1 hj, OU_ag g a2 (z _ k1.symm) (fun k => rfl), MX_ag g a3 (z _ k2.symm) (fun k => rfl), ML_ag g a4 ⟨z _ k3.symm, z _ k4.symm, z _ k5.symm⟩ (fun k => ⟨rfl, rfl⟩), MP_ag g a5 (z _ k6.symm) (fun k => ⟨rfl, rfl, rfl, rfl, rfl, rfl, rfl⟩), MC_ag g a6 (z _ k7.symm) (fun k => ⟨rfl, rfl, rfl, rfl, rfl⟩), MS_ag g a7 (z _ k8.symm) (fun k => ⟨rfl, rfl, rfl, rfl⟩) (fun k => ⟨rfl, rfl⟩), ME_ag g a8 (z _ k9.symm) (fun k => ⟨rfl, rfl, rfl, rfl⟩), MA_ag g a9 (z _ k10.symm) (fun k => ⟨rfl, rfl⟩)⟩
theorem xM_I {s s' : eS} (g : ag xM s s') {a k : Nat} {x : Int32} (ha : 26 ≤ a ∧ a < 58 ∧ a ≠ 55 ∧ a ≠ 57) : ag xM s (e_I s' a k x) := ag_I g (by simp [xM, ha])
set_option maxRecDepth 100000 in
theorem M_tells {s : eS} (h : SH s) {A : aS} (r : RM s A) (hev : (A.2.2 3).length + (A.2.2 2).length ≤ 58) (hou : (A.2.1 0).length ≤ 4096) : ∃ s', mX12_tells 26 s = some s' ∧ SH s' ∧ ag xM s s' ∧ RM s' (a_tell A) := by
  have hc : sI s 26 38 = A.1 16 := r.1 16 (by decide)
  obtain ⟨s1, e1, h1, g1, r1, -⟩ := M_frames h r hev hou (bs := []) (Nat.zero_le _) rfl 1 0 (((A.1 16 - A.1 16 / 32768 * 32768) * 2) &&& 255) ((A.1 16 - A.1 16 / 32768 * 32768) >>> ((7 : Int32) &&& 31))
  unfold mX12_tells mX12_ackLow mX12_ackHigh mX12_tells_26 a_tell
  have ek : [1, 0] ++ kb (A.1 16) = [1, 0, ((A.1 16 - A.1 16 / 32768 * 32768) * 2) &&& 255, (A.1 16 - A.1 16 / 32768 * 32768) >>> ((7 : Int32) &&& 31)] := rfl
  rw [oK_26 h, b1S, gI_26 h, b1S, b2S, oK_26 h, b1S, gI_26 h, b1S, b2S, oK_26 h, b1S, hc, ek]
  rw [show mX12_frames 26 1 0 (((A.1 16 - A.1 16 / 32768 * 32768) * 2) &&& 255) ((A.1 16 - A.1 16 / 32768 * 32768) >>> ((7 : Int32) &&& 31)) 0 s = _ from e1, b2S]
  generalize a_fr A [1, 0, ((A.1 16 - A.1 16 / 32768 * 32768) * 2) &&& 255, (A.1 16 - A.1 16 / 32768 * 32768) >>> ((7 : Int32) &&& 31)] [] = F at r1
  by_cases c : F.1 = 0
  · rw [if_pos c, if_pos c]
    exact ⟨s1, rfl, h1, g1, r1⟩
  · rw [if_neg c, if_neg c, gI_26 h1, b1S, pI_26 h1, b1S]
    have hc1 : sI s1 26 38 = F.2.1 16 := r1.1 16 (by decide)
    rw [hc1]
    exact ⟨_, rfl, SH_I h1, xM_I g1 (by decide), RM_set r1 (by decide) (by decide)⟩
/-! ===== the model's windows ===== -/
def RN (s : eS) (A : aS) : Prop := MI s A ∧ OU s (A.2.1 0) ∧ MX s (A.2.1 1) ∧ ML s (A.2.1 2) ∧ MP s (A.2.2 0) ∧ MC s (A.2.2 1) ∧ ME s (A.2.2 3) ∧ MA s (A.2.2 4)
theorem RM_RN {s : eS} {A : aS} (r : RM s A) : RN s A := ⟨r.1, r.2.1, r.2.2.1, r.2.2.2.1, r.2.2.2.2.1, r.2.2.2.2.2.1, r.2.2.2.2.2.2.2.1, r.2.2.2.2.2.2.2.2⟩
theorem RN_set {s : eS} {A : aS} (r : RN s A) {k j : Nat} {x : Int32} (hj : ∀ i, i < 26 → ((mc i = (26, k)) ↔ i = j)) (hk : k ≠ 49 ∧ k ≠ 51 ∧ k ≠ 15 ∧ k ≠ 16 ∧ k ≠ 17 ∧ k ≠ 1 ∧ k ≠ 9 ∧ k ≠ 23 ∧ k ≠ 45) : RN (e_I s 26 k x) (ui A j x) := by
  obtain ⟨a1, a2, a3, a4, a5, a6, a8, a9⟩ := r
  have g : ag (fun a i => a == 26 && i == k) s (e_I s 26 k x) := ag_I ag_rf (by simp)
  have z : ∀ i, i ≠ k → (26 == 26 && i == k) = false := fun i hi => by simp [hi]
  obtain ⟨k1, k2, k3, k4, k5, k6, k7, k9, k10⟩ := hk
  exact ⟨MI_set a1 hj, OU_ag g a2 (z _ k1.symm) (fun k => rfl), MX_ag g a3 (z _ k2.symm) (fun k => rfl), ML_ag g a4 ⟨z _ k3.symm, z _ k4.symm, z _ k5.symm⟩ (fun k => ⟨rfl, rfl⟩), MP_ag g a5 (z _ k6.symm) (fun k => ⟨rfl, rfl, rfl, rfl, rfl, rfl, rfl⟩), MC_ag g a6 (z _ k7.symm) (fun k => ⟨rfl, rfl, rfl, rfl, rfl⟩), ME_ag g a8 (z _ k9.symm) (fun k => ⟨rfl, rfl, rfl, rfl⟩), MA_ag g a9 (z _ k10.symm) (fun k => ⟨rfl, rfl⟩)⟩
theorem RN_ag {X : Nat → Nat → Bool} {s s' : eS} {A : aS} (g : ag X s s') (r : RN s A) (h1 : ∀ k, k < 26 → X (mc k).1 (mc k).2 = false) (h2 : X 26 49 = false ∧ X 26 51 = false ∧ X 26 15 = false ∧ X 26 16 = false ∧ X 26 17 = false ∧ X 26 1 = false ∧ X 26 9 = false ∧ X 26 23 = false ∧ X 26 45 = false) (h3 : ∀ a k, 28 ≤ a → a < 56 → (a < 46 ∨ 52 ≤ a) → X a k = false) : RN s' A := by
  obtain ⟨a1, a2, a3, a4, a5, a6, a8, a9⟩ := r
  obtain ⟨b1, b2, b3, b4, b5, b6, b7, b9, b10⟩ := h2
  have z : ∀ a, 28 ≤ a ∧ a < 56 ∧ (a < 46 ∨ 52 ≤ a) → ∀ k, X a k = false := fun a ha k => h3 a k ha.1 ha.2.1 ha.2.2
  exact ⟨MI_ag g a1 h1, OU_ag g a2 b1 (z 54 (by decide)), MX_ag g a3 b2 (z 55 (by decide)), ML_ag g a4 ⟨b3, b4, b5⟩ (fun k => ⟨z 40 (by decide) k, z 35 (by decide) k⟩), MP_ag g a5 b6 (fun k => ⟨z 28 (by decide) k, z 29 (by decide) k, z 30 (by decide) k, z 31 (by decide) k, z 32 (by decide) k, z 33 (by decide) k, z 34 (by decide) k⟩), MC_ag g a6 b7 (fun k => ⟨z 35 (by decide) k, z 36 (by decide) k, z 37 (by decide) k, z 38 (by decide) k, z 39 (by decide) k⟩), ME_ag g a8 b9 (fun k => ⟨z 42 (by decide) k, z 43 (by decide) k, z 44 (by decide) k, z 45 (by decide) k⟩), MA_ag g a9 b10 (fun k => ⟨z 52 (by decide) k, z 53 (by decide) k⟩)⟩
/-- the state behind a frame with a number that went out, its window apart -/
def a_gone (A : aS) : aS := ui (ui A 17 (A.1 16)) 15 (A.1 15 + 1)
abbrev xSD (n : Nat) : Nat → Nat → Bool := fun a k => a == 54 || (a == 46 && k == n) || (a == 26 && (k == 49 || k == 39 || k == 37 || k == 28))
set_option maxRecDepth 100000 in
theorem M_sendsDraft {s : eS} (h : SH s) {A : aS} (r : RM s A) (hev : (A.2.2 3).length + (A.2.2 2).length ≤ 58) (hou : (A.2.1 0).length ≤ 4096) (hw : (A.2.2 5).length < 12) {bs : List Int32} (hbl : bs.length ≤ 260) (hb : DR s bs) :
    ∃ s', mX12_sendsDraft 26 s = some ((a_fr A (kb (A.1 15) ++ kb (A.1 16)) bs).1, s') ∧ SH s' ∧ ag xM s s' ∧ ((a_fr A (kb (A.1 15) ++ kb (A.1 16)) bs).1 = 0 → RM s' (a_fr A (kb (A.1 15) ++ kb (A.1 16)) bs).2) ∧
      ((a_fr A (kb (A.1 15) ++ kb (A.1 16)) bs).1 ≠ 0 → RN s' (a_gone (a_fr A (kb (A.1 15) ++ kb (A.1 16)) bs).2) ∧ ag (xSD (A.2.2 5).length) s s' ∧ sI s' 26 28 = nI ((A.2.2 5).length + 1) ∧ sI s' 46 (A.2.2 5).length = A.1 9) := by
  have hc : sI s 26 38 = A.1 16 := r.1 16 (by decide)
  have hsn : sI s 26 37 = A.1 15 := r.1 15 (by decide)
  obtain ⟨s1, e1, h1, g1, r1, o1⟩ := M_frames h r hev hou hbl hb.2 (((A.1 15 - A.1 15 / 32768 * 32768) * 2) &&& 255) ((A.1 15 - A.1 15 / 32768 * 32768) >>> ((7 : Int32) &&& 31)) (((A.1 16 - A.1 16 / 32768 * 32768) * 2) &&& 255) ((A.1 16 - A.1 16 / 32768 * 32768) >>> ((7 : Int32) &&& 31))
  have ek : kb (A.1 15) ++ kb (A.1 16) = [((A.1 15 - A.1 15 / 32768 * 32768) * 2) &&& 255, (A.1 15 - A.1 15 / 32768 * 32768) >>> ((7 : Int32) &&& 31), ((A.1 16 - A.1 16 / 32768 * 32768) * 2) &&& 255, (A.1 16 - A.1 16 / 32768 * 32768) >>> ((7 : Int32) &&& 31)] := rfl
  rw [ek]
  have fA : (a_fr A [((A.1 15 - A.1 15 / 32768 * 32768) * 2) &&& 255, (A.1 15 - A.1 15 / 32768 * 32768) >>> ((7 : Int32) &&& 31), ((A.1 16 - A.1 16 / 32768 * 32768) * 2) &&& 255, (A.1 16 - A.1 16 / 32768 * 32768) >>> ((7 : Int32) &&& 31)] bs).1 ≠ 0 → (a_fr A [((A.1 15 - A.1 15 / 32768 * 32768) * 2) &&& 255, (A.1 15 - A.1 15 / 32768 * 32768) >>> ((7 : Int32) &&& 31), ((A.1 16 - A.1 16 / 32768 * 32768) * 2) &&& 255, (A.1 16 - A.1 16 / 32768 * 32768) >>> ((7 : Int32) &&& 31)] bs).1 = 1 ∧ (a_fr A [((A.1 15 - A.1 15 / 32768 * 32768) * 2) &&& 255, (A.1 15 - A.1 15 / 32768 * 32768) >>> ((7 : Int32) &&& 31), ((A.1 16 - A.1 16 / 32768 * 32768) * 2) &&& 255, (A.1 16 - A.1 16 / 32768 * 32768) >>> ((7 : Int32) &&& 31)] bs).2.1 = A.1 ∧ (a_fr A [((A.1 15 - A.1 15 / 32768 * 32768) * 2) &&& 255, (A.1 15 - A.1 15 / 32768 * 32768) >>> ((7 : Int32) &&& 31), ((A.1 16 - A.1 16 / 32768 * 32768) * 2) &&& 255, (A.1 16 - A.1 16 / 32768 * 32768) >>> ((7 : Int32) &&& 31)] bs).2.2.2 = A.2.2 := by
    unfold a_fr
    split
    · exact fun _ => ⟨rfl, rfl, rfl⟩
    · exact fun z => absurd rfl z
  unfold mX12_sendsDraft mX12_ackLow mX12_ackHigh
  rw [gI_26 h, b1S, oK_26 h, b1S, gI_26 h, b1S, b2S, oK_26 h, b1S, gI_26 h, b1S, b2S, gI_26 h, b1S, oK_26 h, b1S, hc, hsn, hb.1, e1, b2S]
  generalize a_fr A [((A.1 15 - A.1 15 / 32768 * 32768) * 2) &&& 255, (A.1 15 - A.1 15 / 32768 * 32768) >>> ((7 : Int32) &&& 31), ((A.1 16 - A.1 16 / 32768 * 32768) * 2) &&& 255, (A.1 16 - A.1 16 / 32768 * 32768) >>> ((7 : Int32) &&& 31)] bs = F at r1 o1 fA
  by_cases c : F.1 = 0
  · rw [if_pos c, oZ0, b1S, c]
    exact ⟨s1, rfl, h1, g1, fun _ => r1, fun z => absurd rfl z⟩
  · obtain ⟨f1, f2, f3⟩ := fA c
    have o := o1 c
    rw [if_neg c]
    have hc1 : sI s1 26 38 = F.2.1 16 := r1.1 16 (by decide)
    have hn1 : sI s1 26 28 = nI (A.2.2 5).length := (o.2 26 28 rfl).trans r.2.2.2.2.2.2.1.1
    have ht1 : sI s1 26 20 = A.1 9 := (o.2 26 20 rfl).trans (r.1 9 (by decide))
    have hs1 : sI s1 26 37 = F.2.1 15 := r1.1 15 (by decide)
    have hi : ¬ nI (A.2.2 5).length < 0 ∧ (nI (A.2.2 5).length).toNatClampNeg < 12 := nIc (by omega) hw
    have h2 : SH (e_I s1 26 39 (F.2.1 16)) := SH_I h1
    have h3 : SH (e_I (e_I s1 26 39 (F.2.1 16)) 26 37 (F.2.1 15 + 1)) := SH_I h2
    have h4 : SH (e_I (e_I (e_I s1 26 39 (F.2.1 16)) 26 37 (F.2.1 15 + 1)) 46 (A.2.2 5).length (A.1 9)) := SH_I h3
    have G : ag (xSD (A.2.2 5).length) s (e_I (e_I (e_I (e_I s1 26 39 (F.2.1 16)) 26 37 (F.2.1 15 + 1)) 46 (A.2.2 5).length (A.1 9)) 26 28 (nI ((A.2.2 5).length + 1))) := by
      refine ag_I (ag_I (ag_I (ag_I (ag_mono o (fun a k hx => ?_)) rfl) rfl) (by simp [xSD])) rfl
      simp only [xSD, xOU, Bool.or_eq_false_iff, Bool.and_eq_false_iff, beq_eq_false_iff_ne] at hx ⊢
      omega
    refine ⟨e_I (e_I (e_I (e_I s1 26 39 (F.2.1 16)) 26 37 (F.2.1 15 + 1)) 46 (A.2.2 5).length (A.1 9)) 26 28 (nI ((A.2.2 5).length + 1)), ?_, SH_I h4, xM_I (xM_I (xM_I (xM_I g1 (by decide)) (by decide)) (by decide)) (by decide), fun z => absurd z c, fun _ => ⟨?_, G, rII_eq, ?_⟩⟩
    · rw [gI_26 h1, b1S, hc1, pI_26 h1, b1S, gI_26 h2, b1S, rII_ne (Or.inr (by decide)), hs1, pI_26 h2, b1S, gP_26_29 h3, b1S, gI_26 h3, b1S, rII_ne (Or.inr (by decide)), rII_ne (Or.inr (by decide)), hn1, gI_26 h3, b1S, rII_ne (Or.inr (by decide)), rII_ne (Or.inr (by decide)), ht1, b1S, sI_46 h3 hi, b1S, nI_clamp (by omega), gI_26 h4, b1S, rII_ne (Or.inl (by decide)), rII_ne (Or.inr (by decide)), rII_ne (Or.inr (by decide)), hn1, nI_1, pI_26 h4, b1S, oZ1, b1S, f1]
    · have q1 : RN (e_I (e_I s1 26 39 (F.2.1 16)) 26 37 (F.2.1 15 + 1)) (a_gone F.2) := RN_set (RN_set (RM_RN r1) (by decide) (by decide)) (by decide) (by decide)
      have q2 : ag (fun a k => a == 46 || (a == 26 && k == 28)) (e_I (e_I s1 26 39 (F.2.1 16)) 26 37 (F.2.1 15 + 1)) (e_I (e_I (e_I (e_I s1 26 39 (F.2.1 16)) 26 37 (F.2.1 15 + 1)) 46 (A.2.2 5).length (A.1 9)) 26 28 (nI ((A.2.2 5).length + 1))) := ag_I (ag_I ag_rf rfl) rfl
      exact RN_ag q2 q1 (by decide) (by decide) (fun a k _ _ hz => by
        simp only [Bool.or_eq_false_iff, Bool.and_eq_false_iff, beq_eq_false_iff_ne]
        omega)
    · rw [rII_ne (Or.inl (by decide)), rII_eq]
