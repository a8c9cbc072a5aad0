/-! ===== what the station leaves alone, and 'no ANSWER had no room' ===== -/
def kO (s s' : eS) : Prop := kS s s' ∧ (sI s 14 4 = 0 → sI s' 14 4 = 0)
theorem kO_rf {s : eS} (h : SH s) : kO s s := ⟨kS_rf h, fun z => z⟩
theorem kO_tr {s s' s'' : eS} (h : kO s s') (h2 : kO s' s'') : kO s s'' := ⟨kS_tr h.1 h2.1, fun z => h2.2 (h.2 z)⟩
theorem kO_ag {X : Nat → Nat → Bool} {s s' : eS} (h : SH s) (g : ag X s s') (hX : ∀ a k, X a k = true → xK a k = false) (h4 : X 14 4 = false) : kO s s' := ⟨kS_ag h g hX, fun z => (g.2 _ _ h4).trans z⟩
theorem kO_I {s s' : eS} (h : kO s s') {a k : Nat} {x : Int32} (hx : xK a k = false) (h4 : a ≠ 14 ∨ k ≠ 4) : kO s (e_I s' a k x) := ⟨kS_I h.1 hx, fun z => by
  rw [rII_ne]
  · exact h.2 z
  · rcases h4 with c | c
    · exact Or.inl (Ne.symm c)
    · exact Or.inr (Ne.symm c)⟩
/-! ===== a FRAME is sent ===== -/
theorem app1 {α : Type} (l : List α) (a b : α) (m : List α) : l ++ [a] ++ [b] ++ m = l ++ ([a, b] ++ m) := by simp
set_option maxRecDepth 100000 in
theorem S_fr61 (ctl n : Int32) (rest : Option Nat) {s0 : eS} {l : List Int32} (hl : l.length + 4 ≤ 4096) : ∀ (d k m : Nat) (s : eS), k + d = 4 → d < m → SH s → ag xO s0 s → SO_ s (l ++ nb ctl k) → ∃ s', mX11_sendFrame_61 m 0 ctl rest n (nI k) s = mX11_sendFrame_90 100000 0 rest n 0 s' ∧ SH s' ∧ ag xO s0 s' ∧ SO_ s' (l ++ nb ctl 4) := by
  intro d
  induction d with
  | zero =>
    intro k m s hk hm h hg ho
    obtain ⟨m, rfl⟩ : ∃ q, m = q + 1 := ⟨m - 1, by omega⟩
    unfold mX11_sendFrame_61
    rw [if_pos (c_le (c := 4) 4 (by omega))]
    rw [show k = 4 by omega] at ho
    exact ⟨s, rfl, h, hg, ho⟩
  | succ d ih =>
    intro k m s hk hm h hg ho
    obtain ⟨m, rfl⟩ : ∃ q, m = q + 1 := ⟨m - 1, by omega⟩
    unfold mX11_sendFrame_61
    obtain ⟨s1, e1, g1, o1⟩ := S_outAdd h ho (by rw [List.length_append, nb_len]; omega) (ctl >>> (((8 : Int32) * nI k) &&& 31))
    rw [if_neg (c_nle (c := 4) 4 (by omega)), gP_0_10 h, b1S, b1S, oK_24 h, b1S, e1, b1S, nI_1]
    refine ih (k + 1) m s1 (by omega) (by omega) (SH_ag h g1) (ag_tr hg g1) ?_
    rw [nb_succ, ← List.append_assoc]
    exact o1
set_option maxRecDepth 100000 in
theorem S_fr90 {a rr : Nat} (ha : a ≠ 24 ∧ a ≠ 25 ∧ rr ≠ 25 ∧ rr ≠ 24) {bs : List Int32} {s0 : eS} (hg0 : MG s0 a rr) (ht : MT s0 a rr bs) {l : List Int32} (hl : l.length + bs.length ≤ 4096) : ∀ (d k m : Nat) (s : eS), k + d = bs.length → d < m → SH s → ag xO s0 s → SO_ s (l ++ bs.take k) → ∃ s', mX11_sendFrame_90 m 0 (some a) (nI bs.length) (nI k) s = some (1, s') ∧ ag xO s0 s' ∧ SO_ s' (l ++ bs) := by
  have hb := ht.2.1
  intro d
  induction d with
  | zero =>
    intro k m s hk hm h hg ho
    obtain ⟨m, rfl⟩ : ∃ q, m = q + 1 := ⟨m - 1, by omega⟩
    unfold mX11_sendFrame_90
    rw [if_pos (nI_le (by omega) (by omega)), oZ1, b1S]
    rw [show k = bs.length by omega, List.take_length] at ho
    exact ⟨s, rfl, hg, ho⟩
  | succ d ih =>
    intro k m s hk hm h hg ho
    obtain ⟨m, rfl⟩ : ∃ q, m = q + 1 := ⟨m - 1, by omega⟩
    unfold mX11_sendFrame_90
    have g := MG_ag hg hg0
    have t := MT_ag hg ht (by simp [xO, ha]) (fun j => by simp [xO, ha])
    have hk2 : k < bs.length := by omega
    obtain ⟨s1, e1, g1, o1⟩ := S_outAdd h ho (by rw [List.length_append, List.length_take]; omega) (bs.getD k 0)
    rw [if_neg (nI_ge (by omega) (by omega)), gP_0_10 h, b1S, b1S, mgK g, b1S, S_at g t (by omega), b2S, b1S, oK_24 h, b1S, e1, b1S, nI_1]
    refine ih (k + 1) m s1 (by omega) (by omega) (SH_ag h g1) (ag_tr hg g1) ?_
    have e2 : bs.getD k 0 &&& 255 = bs.getD k 0 := by rw [ht.2.2 k hk2, by_by]
    rw [e2, List.append_assoc] at o1
    rw [List.take_add_one, gD] at *
    rw [List.getElem?_eq_getElem hk2] at *
    exact o1
set_option maxRecDepth 100000 in
theorem S_frame {t : Bool} {C : Nat} {s : eS} (h : SH s) {A : aS} (r : RS t C s A) (ctl : Int32) {c bs : List Int32} (hc : nb ctl 4 = c) (hbl : bs.length ≤ 249) {rest : Option Nat} (hr : (rest = none ∧ bs = []) ∨ ∃ a rr, rest = some a ∧ MG s a rr ∧ MT s a rr bs ∧ a ≠ 24 ∧ a ≠ 25 ∧ rr ≠ 25 ∧ rr ≠ 24) :
    ∃ s', mX11_sendFrame 0 ctl rest s = some ((a_fr A c bs).1, s') ∧ kO s s' ∧ RS t C s' (a_fr A c bs).2 ∧ ((a_fr A c bs).1 ≠ 0 → ag xO s s') := by
  have o := rs_o r
  obtain ⟨st, b1', b2', b3', b4', b5'⟩ := o
  have e0 : nI (A.2.1 0).length + (6 : Int32) + nI bs.length = nI ((A.2.1 0).length + 6 + bs.length) := by rw [show (6 : Int32) = nI 6 from rfl, nI_add, nI_add]
  have h12 : mX11_sendFrame 0 ctl rest s = mX11_sendFrame_12 0 ctl rest (nI bs.length) s := by
    unfold mX11_sendFrame
    rcases hr with ⟨rfl, rfl⟩ | ⟨a, rr, rfl, g, t2, -⟩
    · rw [if_pos rfl]; rfl
    · rw [if_neg (by simp), b1S, mgI g, b1S, t2.1]
  rw [h12]
  unfold mX11_sendFrame_12 a_fr
  rw [gP_0_10 h, b1S, b1S, gI_24 h, b1S, b3', e0]
  by_cases hcc : (A.2.1 0).length + 6 + bs.length ≤ 4096
  · rw [if_pos hcc, if_pos (show nI ((A.2.1 0).length + 6 + bs.length) ≤ 4096 from nI_le (b := 4096) hcc (by decide)), b1S, b1S, oK_24 h, b1S]
    obtain ⟨s1, e1, g1, o1⟩ := S_outAdd h (rs_o r) (by omega) 104
    have h1 := SH_ag h g1
    obtain ⟨s2, e2, g2, o2⟩ := S_outAdd h1 o1 (by simp; omega) (4 + nI bs.length)
    have h2 := SH_ag h1 g2
    obtain ⟨s3, e3, h3, g3, o3⟩ := S_fr61 ctl (nI bs.length) rest (l := A.2.1 0 ++ [104 &&& 255] ++ [(4 + nI bs.length) &&& 255]) (by simp; omega) 4 0 100000 s2 (by omega) (by omega) h2 (ag_tr g1 g2) (by rw [show nb ctl 0 = [] from rfl, List.append_nil]; exact o2)
    have el : ((4 : Int32) + nI bs.length) &&& 255 = 4 + nI bs.length := by
      rw [show (4 : Int32) = nI 4 from rfl, nI_add]; exact by_byte _ (by omega)
    rw [el, show (104 : Int32) &&& 255 = 104 from rfl] at o3
    rw [e1, b1S, gP_0_10 h1, b1S, b1S, oK_24 h1, b1S, e2, b1S, show (0 : Int32) = nI 0 from rfl, e3]
    have fin : ∀ (s' : eS), ag xO s s' → SO_ s' (A.2.1 0 ++ [104] ++ [4 + nI bs.length] ++ nb ctl 4 ++ bs) → kO s s' ∧ RS t C s' (ul A 0 (A.2.1 0 ++ ([104, 4 + nI bs.length] ++ c ++ bs))) ∧ ((1 : Int32) ≠ 0 → ag xO s s') := fun s' g o => ⟨kO_ag h g xO_K rfl, RS_out r g (by rw [← hc]; simpa using o), fun _ => g⟩
    rcases hr with ⟨rfl, rfl⟩ | ⟨a, rr, rfl, g, t2, ha⟩
    · refine ⟨s3, ?_, fin s3 g3 (by rw [List.append_nil]; exact o3)⟩
      unfold mX11_sendFrame_90
      rw [if_pos (by decide), oZ1, b1S]
    · obtain ⟨s4, e4, g4, o4⟩ := S_fr90 ha (MG_ag g3 g) (MT_ag g3 t2 (by simp [xO, ha]) (fun j => by simp [xO, ha])) (l := A.2.1 0 ++ [104] ++ [4 + nI bs.length] ++ nb ctl 4) (by simp [nb_len]; omega) bs.length 0 100000 s3 (by omega) (by omega) h3 ag_rf (by rw [List.take_zero, List.append_nil]; exact o3)
      exact ⟨s4, e4, fin s4 (ag_tr g3 g4) o4⟩
  · rw [if_neg hcc, if_neg (show ¬ nI ((A.2.1 0).length + 6 + bs.length) ≤ 4096 from nI_ge (a := 4096) (by omega) (by omega)), oK_0 h, b1S]
    obtain ⟨s1, e1, k1, r1, c1⟩ := S_shut h r 6
    rw [e1, b1S, oZ0, b1S]
    exact ⟨s1, rfl, ⟨k1, fun _ => c1⟩, r1, fun z => absurd rfl z⟩
/-! ===== numbers in a FRAME ===== -/
theorem ctl_nat {a m : Nat} (ha : a < 65536) (hm : m < 32768) : nb (nI a ||| (nI m <<< ((17 : Int32) &&& 31))) 4 = [nI (a % 256), nI (a / 256), nI (m * 2 % 256), nI (m / 128)] := by
  rw [nb_nat _ (by omega), uI_or, pk_shlN _ 17 (by decide +kernel) (by omega), uI_nI (by omega), uI_nI (by omega), or_add (a := a) (b := m) (k := 17) (by omega)]
  show [nI ((a + m * 131072) / 1 % 256), nI ((a + m * 131072) / 256 % 256), nI ((a + m * 131072) / 65536 % 256), nI ((a + m * 131072) / 16777216 % 256)] = _
  rw [show (a + m * 131072) / 1 % 256 = a % 256 by omega, show (a + m * 131072) / 256 % 256 = a / 256 by omega, show (a + m * 131072) / 65536 % 256 = m * 2 % 256 by omega, show (a + m * 131072) / 16777216 % 256 = m / 128 by omega]
theorem kb_nat {b : Nat} (hb : b < 2 ^ 31) : kb (nI b) = [nI (b % 32768 * 2 % 256), nI (b % 32768 / 128)] := by
  unfold kb
  rw [show (32768 : Int32) = nI 32768 from rfl, pk_rem hb (by omega) (by omega), show (2 : Int32) = nI 2 from rfl, pk_mul, pk_andN (by omega) 8 rfl, pk_shrN (by omega) _ 7 (by decide +kernel)]
theorem m15 {b : Nat} (hb : b < 2 ^ 31) : nI b &&& 32767 = nI (b % 32768) := pk_andN (by omega) 15 rfl
theorem ctl_ack {b : Nat} (hb : b < 2 ^ 31) : nb ((1 : Int32) ||| ((nI b &&& 32767) <<< ((17 : Int32) &&& 31))) 4 = [1, 0] ++ kb (nI b) := by
  rw [m15 hb, show (1 : Int32) = nI 1 from rfl, ctl_nat (by omega) (by omega), kb_nat hb]
  rfl
theorem ctl_data {a b : Nat} (ha : a < 2 ^ 31) (hb : b < 2 ^ 31) : nb (((nI a &&& 32767) <<< ((1 : Int32) &&& 31)) ||| ((nI b &&& 32767) <<< ((17 : Int32) &&& 31))) 4 = kb (nI a) ++ kb (nI b) := by
  rw [m15 ha, m15 hb, pk_shlN _ 1 (by decide +kernel) (by omega), ctl_nat (by omega) (by omega), kb_nat ha, kb_nat hb]
  rw [show a % 32768 * 2 ^ 1 = a % 32768 * 2 from rfl, show a % 32768 * 2 / 256 = a % 32768 / 128 by omega]
  rfl
theorem W5_n {C : Nat} (hC : C < 2 ^ 30) {A : aS} (w : WW C A) : ∃ a b : Nat, A.1 15 = nI a ∧ A.1 16 = nI b ∧ a < 2 ^ 31 ∧ b < 2 ^ 31 := by
  obtain ⟨a, b, h1, h2, h3, h4, h5⟩ := w.2.2.2.2
  exact ⟨a, b, h1, h4, by omega, by omega⟩
/-- S: what came is told -/
theorem SI_told {s : eS} {A : aS} (i : SI s A) : SI (e_I s 18 3 0) (ui A 17 (A.1 16)) := by
  refine ⟨fun k hk h17 => ?_, ?_⟩
  · rw [rII_ne (by
      have : ∀ k, k < 26 → (sc k).1 ≠ 18 ∨ (sc k).2 ≠ 3 := by decide +kernel
      exact this k hk), i.1 k hk h17]
    show _ = if k = 17 then _ else _
    rw [if_neg h17]
  · rw [rII_eq]
    show (0 : Int32) = A.1 16 - A.1 16
    rw [Int32.sub_self]
abbrev x183 : Nat → Nat → Bool := fun a k => a == 18 && k == 3
theorem RS_told {t : Bool} {C : Nat} {s : eS} {A : aS} (r : RS t C s A) : RS t C (e_I s 18 3 0) (ui A 17 (A.1 16)) := by
  have g : ag x183 s (e_I s 18 3 0) := ag_I ag_rf rfl
  exact ⟨(have q := rs_d r; DS_ag g q), SI_told (rs_i r), (have q := rs_o r; SO_ag g q ⟨rfl, rfl⟩ (fun _ => rfl)), (have q := rs_x r; SXt_ag g q ⟨rfl, rfl, rfl, rfl⟩ (fun _ => rfl)), (have q := rs_l r; SL_ag g q ⟨rfl, rfl, rfl⟩), (have q := rs_p r; SP_ag g (rs_d r).1 q rfl (fun a k hx => by simp <;> omega)), (have q := rs_c r; SC_ag g (rs_d r).1 (rs_d r).2.1 q rfl (fun a k hx => by simp <;> omega)), (have q := rs_n r; SN_ag g q ⟨rfl, rfl⟩ (fun _ => ⟨rfl, rfl⟩)), (have q := rs_e r; SE_ag g (rs_d r).1 q ⟨rfl, rfl, rfl⟩ (fun a k hx => by simp <;> omega)), (have q := rs_a r; SA_ag g (rs_d r).2.2.1 q ⟨rfl, rfl⟩ (fun a k hx => by simp <;> omega)), (have q := rs_m r; SM_ag g q ⟨rfl, rfl, rfl⟩ (fun _ => ⟨rfl, rfl, rfl, rfl, rfl⟩)), ⟨(rs_z r).1, (rs_z r).2.1, ST_0 rfl, (rs_z r).2.2.2⟩, (have q := rs_f r; q)⟩
theorem S_sendAck {t : Bool} {D C : Nat} (hC : C < 2 ^ 30) {s : eS} (h : SH s) {A : aS} (r : RS t D s A) (w : WW C A) : ∃ s', mX11_sendAck 0 s = some s' ∧ kO s s' ∧ RS t D s' (a_tell A) := by
  obtain ⟨a, b, -, eb, -, hb⟩ := W5_n hC w
  have e16 : sI s 18 2 = A.1 16 := (rs_i r).1 16 (by decide) (by decide)
  obtain ⟨s1, e1, k1, r1, g1⟩ := S_frame h r ((1 : Int32) ||| ((nI b &&& 32767) <<< ((17 : Int32) &&& 31))) (ctl_ack hb) (bs := []) (by decide) (Or.inl ⟨rfl, rfl⟩)
  rw [← eb] at r1 g1 e1
  unfold mX11_sendAck mX8_ackToTell a_tell
  rw [gP_0_8 h, b1S, b1S, oK_18 h, b1S, gI_18 h, b1S, b2S, oK_0 h, b1S, e16, e1, b2S]
  by_cases c : (a_fr A ([1, 0] ++ kb (A.1 16)) []).1 = 0
  · rw [if_pos c, if_pos c]
    exact ⟨s1, rfl, k1, r1⟩
  · rw [if_neg c, if_neg c]
    have h1 := k1.1.1
    rw [gP_0_8 h1, b1S, b1S, pI_18 h1, b1S]
    exact ⟨_, rfl, kO_I k1 rfl (by decide), RS_told r1⟩
