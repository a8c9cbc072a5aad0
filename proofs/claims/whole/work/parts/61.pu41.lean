/-! ===== a FRAME is taken: what is ahead of its rest ===== -/
theorem k_shut {t : Bool} {C : Nat} {s : eS} (h : SH s) {A : aS} (r : RS t C s A) (why : Int32) : ∃ s', mX11_shut 0 why s = some s' ∧ kO s s' ∧ RS t C s' (a_close A why) := by
  obtain ⟨s1, e1, k1, r1, c1⟩ := S_shut h r why
  exact ⟨s1, e1, ⟨k1, fun _ => c1⟩, r1⟩
def a_cnt (A : aS) (F : List Int32) : aS := ui (ui (a_ackF A F).2 18 (if (a_ackF A F).2.1 16 = (a_ackF A F).2.1 17 then (a_ackF A F).2.1 9 else (a_ackF A F).2.1 18)) 16 ((a_ackF A F).2.1 16 + 1)
theorem ack_1 {A : aS} {F : List Int32} (h : (a_ackF A F).1 ≠ 0) : (a_ackF A F).2.1 = A.1 := by
  unfold a_ackF a_ack at *
  split
  · rfl
  · rename_i c; rw [if_neg c] at h; exact absurd rfl h
set_option maxRecDepth 100000 in
theorem S_data {t : Bool} {D C : Nat} (hC : C < 2 ^ 30) {s : eS} (h : SH s) {A : aS} (r : RS t D s A) (w : WW C A) {F : List Int32} (bf : byF F) (f : FS s F) (n : Nat) (h7 : A.1 7 ≠ 0) :
    ∃ x s' B, mX11_acceptData 0 s = some (x, s') ∧ kO s s' ∧ RS t D s' B ∧ ((x = 0 ∧ a_data A F n = B ∧ WW (C + 1) B) ∨ (x = 1 ∧ a_data A F n = a_rest B F n ∧ WW (C + 1) B ∧ B.1 7 ≠ 0)) := by
  have e7 : sI s 0 11 = A.1 7 := (rs_i r).1 7 (by decide) (by decide)
  have e16 : sI s 18 2 = A.1 16 := (rs_i r).1 16 (by decide) (by decide)
  obtain ⟨xn, b, -, eb, -, hb⟩ := W5_n hC w
  have em : A.1 16 - A.1 16 / 32768 * 32768 = nI (b % 32768) := by rw [eb]; exact pk_rem (d := 32768) hb (by omega) (by omega)
  have d54 : ∃ s', mX11_acceptData_54 0 s = some (0, s') ∧ kO s s' ∧ RS t D s' (a_close A 3) := by
    obtain ⟨s1, f1, k1, r1⟩ := k_shut h r 3
    unfold mX11_acceptData_54
    rw [oK_0 h, b1S, f1, b1S, oZ0, b1S]
    exact ⟨s1, rfl, k1, r1⟩
  have d23 : ∃ x s' B, mX11_acceptData_23 0 s = some (x, s') ∧ kO s s' ∧ RS t D s' B ∧ ((x = 0 ∧ a_data44 A F n (F.getD 2 0 / 2 + 128 * F.getD 3 0) = B ∧ WW (C + 1) B) ∨ (x = 1 ∧ a_data44 A F n (F.getD 2 0 / 2 + 128 * F.getD 3 0) = a_rest B F n ∧ WW (C + 1) B ∧ B.1 7 ≠ 0)) := by
    unfold mX11_acceptData_23 mX8_ackToTell a_data44
    rw [gP_0_8 h, b1S, b1S, oK_18 h, b1S, (S_number19 h bf f).1, b2S, gP_0_8 h, b1S, b1S, oK_18 h, b1S, gI_18 h, b1S, b2S, e16, em, eb, m15 hb]
    by_cases c : F.getD 2 0 / 2 + 128 * F.getD 3 0 = nI (b % 32768)
    · rw [if_pos c, if_pos c, gP_0_8 h, b1S, b1S, oK_18 h, b1S, (S_number19 h bf f).2, b2S, oK_0 h, b1S]
      obtain ⟨s1, f1, k1, c0, c1⟩ := S_ack hC h r w bf h7
      rw [f1, b2S]
      by_cases ca : (a_ackF A F).1 = 0
      · rw [if_pos ca, if_pos ca]
        obtain ⟨q1, q2⟩ := c0 ca
        obtain ⟨s2, f2, k2, r2⟩ := d54
        rw [q1, q2]
        exact ⟨0, s2, _, f2, k2, r2, Or.inl ⟨rfl, rfl, WW_mono (WW_close w 3) (by omega)⟩⟩
      · rw [if_neg ca, if_neg ca]
        have r1 := c1 ca
        have h1 := k1.1.1
        have w1 : WW C (a_ackF A F).2 := WW_ack w _
        have e9 : sI s1 0 13 = (a_ackF A F).2.1 9 := (rs_i r1).1 9 (by decide) (by decide)
        obtain ⟨s2, f2, k2, r2⟩ := S_count hC h1 r1 w1
        rw [gP_0_8 h1, b1S, gI_0 h1, b1S, b1S, oK_18 h1, b1S, e9, f2, b1S, oZ1, b1S]
        refine ⟨1, s2, _, rfl, kO_tr k1 k2, r2, Or.inr ⟨rfl, rfl, WW_came (A := ui (a_ackF A F).2 18 _) (WW_ui w1 (by decide) _), ?_⟩⟩
        show (a_ackF A F).2.1 7 ≠ 0
        rw [ack_1 ca]; exact h7
    · rw [if_neg c, if_neg c]
      obtain ⟨s2, f2, k2, r2⟩ := d54
      exact ⟨0, s2, _, f2, k2, r2, Or.inl ⟨rfl, rfl, WW_mono (WW_close w 3) (by omega)⟩⟩
  unfold mX11_acceptData a_data
  rw [gI_0 h, b1S, e7]
  by_cases c2 : A.1 7 = 2
  · rw [if_pos c2, if_pos c2]; exact d23
  · rw [if_neg c2, if_neg c2, b1S]
    by_cases c3 : A.1 7 = 3
    · rw [if_pos c3, if_pos c3]; exact d23
    · rw [if_neg c3, if_neg c3, oK_0 h, b1S]
      obtain ⟨s1, f1, k1, r1⟩ := k_shut h r 5
      rw [f1, b1S, oZ0, b1S]
      exact ⟨0, s1, _, rfl, k1, r1, Or.inl ⟨rfl, rfl, WW_mono (WW_close w 5) (by omega)⟩⟩
set_option maxRecDepth 100000 in
theorem S_accept {t : Bool} {D C : Nat} (hC : C < 2 ^ 30) {s : eS} (h : SH s) {A : aS} (r : RS t D s A) (w : WW C A) {F : List Int32} (bf : byF F) (f : FS s F) (n : Nat) (h7 : A.1 7 ≠ 0) :
    ∃ x s' B, mX11_acceptFrame 0 s = some (x, s') ∧ kO s s' ∧ RS t D s' B ∧ ((x = 0 ∧ a_takes A F n = a_46 B ∧ WW (C + 1) B) ∨ (x = 1 ∧ a_takes A F n = a_46 (a_rest B F n) ∧ WW (C + 1) B ∧ B.1 7 ≠ 0)) := by
  have e9 : sI s 0 13 = A.1 9 := (rs_i r).1 9 (by decide) (by decide)
  have h1 := SH_I (a := 0) (k := 14) (x := A.1 9) h
  have r1 := RS_lat r (A.1 9)
  have k1 : kO s (e_I s 0 14 (A.1 9)) := kO_I (kO_rf h) rfl (by decide)
  have f1 := FS_O k1 f
  have w1 : WW C (ui A 10 (A.1 9)) := WW_ui w (by decide) _
  have h71 : (ui A 10 (A.1 9)).1 7 ≠ 0 := h7
  unfold mX11_acceptFrame mX11_acceptFrame_63 a_takes
  rw [gI_0 h, b1S, e9, pI_0 h, b1S, gP_0_8 h1, b1S, b1S, gI_18 h1, b1S, f1.1, (F_num bf).2.2]
  by_cases c0 : F.getD 2 0 &&& 1 = 0
  · rw [if_pos c0, if_pos c0, oK_0 h1, b1S]
    obtain ⟨x, s2, B, f2, k2, r2, alt⟩ := S_data hC h1 r1 w1 bf f1 n h71
    rw [f2, b2S]
    rcases alt with ⟨rfl, e, wB⟩ | ⟨rfl, e, wB, hB⟩
    · rw [oZ0, b1S]
      exact ⟨0, s2, B, rfl, kO_tr k1 k2, r2, Or.inl ⟨rfl, by rw [e], wB⟩⟩
    · rw [oZ1, b1S]
      exact ⟨1, s2, B, rfl, kO_tr k1 k2, r2, Or.inr ⟨rfl, by rw [e], wB, hB⟩⟩
  · rw [if_neg c0, if_neg c0]
    by_cases c1 : F.getD 2 0 = 1
    · rw [if_pos c1, if_pos c1, b1S, b1S, oK_18 h1, b1S, (S_number19 h1 bf f1).2, b2S, oK_0 h1, b1S]
      obtain ⟨s2, f2, k2, q0, q1⟩ := S_ack hC h1 r1 w1 bf h71
      rw [f2, b2S]
      by_cases ca : (a_ackF (ui A 10 (A.1 9)) F).1 = 0
      · obtain ⟨y1, y2⟩ := q0 ca
        subst y1
        obtain ⟨s3, f3, k3, r3⟩ := k_shut h1 r1 3
        rw [if_pos ca, oK_0 h1, b1S, f3, b1S, oZ0, b1S]
        refine ⟨0, s3, _, rfl, kO_tr k1 k3, r3, Or.inl ⟨rfl, by rw [y2], WW_mono (WW_close w1 3) (by omega)⟩⟩
      · rw [if_neg ca, oZ0, b1S]
        exact ⟨0, s2, _, rfl, kO_tr k1 k2, q1 ca, Or.inl ⟨rfl, rfl, WW_mono (WW_ack w1 _) (by omega)⟩⟩
    · rw [if_neg c1, if_neg c1, oK_0 h1, b1S]
      obtain ⟨s2, f2, k2, r2⟩ := S_control hC h1 r1 w1 h71 (F.getD 2 0)
      rw [f2, b1S, oZ0, b1S]
      exact ⟨0, s2, _, rfl, kO_tr k1 k2, r2, Or.inl ⟨rfl, rfl, WW_mono (WW_ordr w1 _) (by omega)⟩⟩
theorem S_b31 {t : Bool} {D C : Nat} (hC : C + 13 < 2 ^ 30) {s : eS} (h : SH s) {A : aS} (r : RS t D s A) (w : WW C A) : ∃ s', mX11_behindFrame_31 0 s = some s' ∧ kO s s' ∧ RS t D s' (a_77 A) := by
  obtain ⟨s1, f1, k1, r1⟩ := S_sends (by omega) h r w
  have w1 := WW_sends 13 C A w
  have h1 := k1.1.1
  have e7 : sI s1 0 11 = (a_sends 13 A).1 7 := (rs_i r1).1 7 (by decide) (by decide)
  have e2 : sI s1 1 2 = (a_sends 13 A).1 2 := (rs_i r1).1 2 (by decide) (by decide)
  unfold mX11_behindFrame_31 mX11_behindFrame_62 a_77
  rw [oK_0 h, b1S, f1, b1S, gI_0 h1, b1S, e7]
  by_cases c : (a_sends 13 A).1 7 = 0
  · rw [if_pos c, if_pos c]
    exact ⟨s1, rfl, k1, r1⟩
  · rw [if_neg c, if_neg c, gP_0_8 h1, b1S, b1S, gI_18 h1, b1S, (rs_i r1).2, gP_0_0 h1, b1S, b1S, aI_1 h1 (by decide), b1S, show (2 : Int32).toNatClampNeg = 2 from rfl, e2]
    by_cases c2 : (a_sends 13 A).1 16 - (a_sends 13 A).1 17 < (a_sends 13 A).1 2
    · rw [if_pos c2, if_pos c2]
      exact ⟨s1, rfl, k1, r1⟩
    · rw [if_neg c2, if_neg c2, oK_0 h1, b1S]
      obtain ⟨s2, f2, k2, r2⟩ := S_sendAck hC h1 r1 w1
      rw [f2, b1S]
      exact ⟨s2, rfl, kO_tr k1 k2, r2⟩
theorem S_behind {t : Bool} {D C : Nat} (hC : C + 13 < 2 ^ 30) {s : eS} (h : SH s) {A : aS} (r : RS t D s A) (w : WW C A) : ∃ s', mX11_behindFrame 0 s = some s' ∧ kO s s' ∧ RS t D s' (a_46 A) := by
  have e7 : sI s 0 11 = A.1 7 := (rs_i r).1 7 (by decide) (by decide)
  have h12 := w.1.2.2.1
  obtain ⟨st5, -, -, n5, -⟩ := rs_n r
  unfold mX11_behindFrame a_46
  rw [gI_0 h, b1S, e7]
  by_cases c : A.1 7 = 3
  · rw [if_pos c, if_pos c, gP_0_9 h, b1S, b1S, gI_21 h, b1S, n5]
    by_cases c5 : (A.2.2 5).length = 0
    · have h1 := SH_I (a := 0) (k := 11) (x := 1) h
      obtain ⟨s2, f2, k2, r2⟩ := S_u h1 (RS_link r 1 (by decide)) 35 (by decide +kernel)
      rw [if_pos c5, if_pos (by rw [c5]; rfl), pI_0 h, b1S, oK_0 h1, b1S, f2, b2S]
      obtain ⟨s3, f3, k3, r3⟩ := S_b31 hC k2.1.1 r2 (WW_fr0 (WW_ui w (by decide) _) _)
      exact ⟨s3, f3, kO_tr (kO_I (kO_rf h) rfl (by decide)) (kO_tr k2 k3), r3⟩
    · rw [if_neg c5, if_neg (nI_ne0 (by omega) (by omega))]
      exact S_b31 hC h r w
  · rw [if_neg c, if_neg c]
    exact S_b31 hC h r w
