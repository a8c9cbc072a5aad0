theorem unsel_q (A : aS) (F : List Int32) (c : Nat) : (a_unsel A F c).1 = A.1 ∧ (a_unsel A F c).2.2 = A.2.2 := by
  unfold a_unsel
  split
  · split <;> exact ⟨rfl, rfl⟩
  · exact ⟨rfl, rfl⟩
theorem unsel_free {t : Bool} {C : Nat} {s : eS} {A : aS} (r : RS t C s A) {c : Nat} (hc : c < (A.2.2 1).length) (hm : pg (A.2.2 1) c 3 = 0) (F : List Int32) : a_unsel A F c = A := by
  have h12 := (rs_d r).2.2.2.2.1
  unfold a_unsel
  rw [if_neg (fun cs => ?_)]
  rcases rs_l r with ⟨z1, z2⟩ | ⟨c2, dd, w, kk, b, tt, p1, p2, -⟩
  · unfold selI at cs
    rw [z1] at cs
    have z' : (-1 : Int32) = nI c := cs
    have := congrArg (· < (0 : Int32)) z'
    exact absurd (this.mp (by decide)) (nI_pos (by omega))
  · have h1 := p1.1
    unfold selI at cs
    rw [p2] at cs
    have e : c2 = c := (nI_eq (by omega) (by omega)).mp cs
    rw [e] at p1
    exact p1.2 hm
set_option maxRecDepth 100000 in
theorem S_command {C : Nat} (hC : C < 2 ^ 30) {s : eS} (h : SH s) {A : aS} (r : RS true C s A) (o : sI s 14 4 = 0) (h7 : A.1 7 ≠ 0) {F : List Int32} (f : FS s F) (bf : byF F) (hn : 3 ≤ (rb F).length) {c k : Nat} (hc : c < (A.2.2 1).length) (hk : k < 3) (e0 : pg (A.2.2 1) c 0 = nI k) (cause : Int32) : ∃ s', mX11_commandCame 0 (some (cA s c)) cause s = some s' ∧ kY s s' ∧ RT C s' (a_cmdAt A F cause c (nI k)) := by
  have h12 := (rs_d r).2.2.2.2.1
  have ko := ((rs_d r).2.1.1 c hc).2
  obtain ⟨k2, hk2, q0, i0, -, e3, -, -⟩ := pg_cm (rs_c r) hc
  have ek : k2 = k := ((nI_eq (by omega) (by omega)).mp (e0.symm.trans q0)).symm
  subst ek
  have rt : RT C s A := Or.inl ⟨o, r, h7⟩
  unfold mX11_commandCame mX11_commandCame_182 a_cmdAt
  rw [if_neg (by simp), if_neg (by omega), gP_0_8 h, b1S, b1S, oK_18 h, b1S, S_trial h f, b2S]
  by_cases c8 : cause = 8
  · rw [if_pos c8, if_pos c8, gP_0_4 h, b1S, b1S, oK_6 h, b1S, S_isOf h r hc, b2S]
    unfold a_canc mX11_commandCame_45 mX11_commandCame_58
    by_cases cs : selI A = nI c
    · rw [if_pos cs, if_pos cs, if_neg (by decide : ¬ (1 : Int32) = 0)]
      obtain ⟨s1, f1, k1, r1, o1⟩ := S_unsel (F := F) h r cs (fun s15 => if (1 : Int32) = 0 then (b1 (some 0) fun a1 => (b1 (o_K s15 111 a1) fun u4 => (b2 (mX11_answerSame a1 73 s15) fun x3 s2 => (some s2)))) else (b1 (some 0) fun a1 => (b1 (o_K s15 111 a1) fun u4 => (b2 (mX11_answerSame a1 9 s15) fun x3 s2 => (some s2)))))
      have h1 := k1.1.1
      obtain ⟨u1, u2⟩ := unsel_q A F c
      obtain ⟨s2, f2, k2', r2⟩ := S_same h1 (Or.inl ⟨o1.trans o, r1, by rw [u1]; exact h7⟩) (FS_Y k1 f) hn (cause := 9) (den := 0) (cau := 9) rfl (by decide)
      rw [f1, if_neg (by decide : ¬ (1 : Int32) = 0), b1S, oK_0 h1, b1S, f2, b2S]
      refine ⟨s2, rfl, kY_tr k1 k2', ?_⟩
      have e : a_same (a_unsel A F c) F 9 0 = a_unsel (a_same A F 9 0) F c := wait_unsel A F (by omega) _
      rw [← e]
      exact r2
    · rw [if_neg cs, if_neg cs, if_pos rfl, if_pos rfl]
      obtain ⟨s2, f2, k2', r2⟩ := S_same h rt f hn (cause := 9) (den := 1) (cau := 73) rfl (by decide)
      rw [b1S, oK_0 h, b1S, f2, b2S]
      refine ⟨s2, rfl, k2', ?_⟩
      have e : a_same (a_unsel A F c) F 9 1 = a_unsel (a_same A F 9 1) F c := wait_unsel A F (by omega) _
      rw [← e]
      have e2 : a_unsel A F c = A := by unfold a_unsel; rw [if_neg cs]
      rw [e2]
      exact r2
  · rw [if_neg c8, if_neg c8]
    obtain ⟨D, d, fn, cd⟩ := S_cdata h f bf hk2
    have ord := S_isOrder r hc hk2 i0 cd
    rw [b1S, koI ko, b1S, i0, tab12 k2 hk2, b1S, gP_0_8 h, b1S, b1S, gP_18_0 h, b1S, b1S, oK_19 h, b1S, fn, b2S, koK ko, b1S, lN_i, ord, b2S]
    by_cases cb : badO (nI k2) ((rb F).getD (if nI k2 = 2 then 11 else 9) 0) = 0
    · rw [if_pos cb, if_pos cb, if_neg (by decide)]
      unfold a_order
      by_cases cq : (rb F).getD (if nI k2 = 2 then 11 else 9) 0 &&& 128 = 0
      · rw [if_pos cq, if_pos (cd.2.2.1.mpr cq), koI ko, b1S, ← e3]
        have dD : d = D := cd.2.2.2.2.2.1 cq
        have hdd : slB (nI k2) D = obF F (nI k2) := by rw [← dD]; exact cd.2.2.2.2.1
        unfold a_exec mX11_commandCame_174
        by_cases cm : pg (A.2.2 1) c 3 = 0
        · have eu := unsel_free r hc cm F
          have ox : okX A F c (nI k2) = 1 := by unfold okX; rw [if_pos cm]
          obtain ⟨s1, f1, k1, r1⟩ := S_carry hC h rt f bf hn hc hk2 e0 cd
          rw [if_pos cm, oK_0 h, b1S, f1, b1S, ox, if_neg (by decide), eu]
          exact ⟨s1, rfl, k1, r1⟩
        · obtain ⟨s1, f1, k1, r1, o1⟩ := S_endSel h r f hc e0 cm cd.1 hdd
          have h1 := k1.1.1
          obtain ⟨u1, u2⟩ := unsel_q A F c
          have rt1 : RT C s1 (a_unsel A F c) := Or.inl ⟨o1.trans o, r1, by rw [u1]; exact h7⟩
          rw [if_neg cm, oK_0 h, b1S, f1, b2S]
          by_cases cv : okX A F c (nI k2) = 0
          · obtain ⟨s2, f2, k2', r2⟩ := S_same h1 rt1 (FS_Y k1 f) hn (cause := 7) (den := 1) (cau := 71) rfl (by decide)
            rw [if_pos cv, if_pos cv, oK_0 h1, b1S, f2, b2S]
            exact ⟨s2, rfl, kY_tr k1 k2', r2⟩
          · obtain ⟨s2, f2, k2', r2⟩ := S_carry hC h1 rt1 (FS_Y k1 f) bf hn (c := c) (by rw [u2]; exact hc) hk2 (by rw [u2]; exact e0) cd
            rw [k1.2.2 c] at f2
            rw [if_neg cv, if_neg cv, oK_0 h1, b1S, f2, b1S]
            exact ⟨s2, rfl, kY_tr k1 k2', r2⟩
      · obtain ⟨s1, f1, k1, r1⟩ := S_select h r o h7 f hn hc e0 cd.2.1 cd.2.2.2.2.1
        rw [if_neg cq, if_neg (fun z => cq (cd.2.2.1.mp z)), oK_0 h, b1S, cd.2.2.2.1, f1, b1S]
        exact ⟨s1, rfl, k1, r1⟩
    · obtain ⟨s1, f1, k1, r1⟩ := S_same h rt f hn (cause := 7) (den := 1) (cau := 71) rfl (by decide)
      rw [if_neg cb, if_neg cb, if_pos rfl, oK_0 h, b1S, f1, b2S]
      exact ⟨s1, rfl, k1, r1⟩
/-! ===== the rest of an I FRAME ===== -/
theorem S_addr {s : eS} (h : SH s) {F : List Int32} (f : FS s F) (bf : byF F) : mX4_address 19 s = some ((rb F).getD 6 0 + 256 * (rb F).getD 7 0 + 65536 * (rb F).getD 8 0, s) := by
  obtain ⟨b0, h0, e0⟩ := rb_by bf 6
  obtain ⟨b1', h1, e1⟩ := rb_by bf 7
  obtain ⟨b2', h2, e2⟩ := rb_by bf 8
  have := S_number (MG_19 h) f.2 6 3 (by omega) (by omega) (fun i => if i = 0 then b0 else if i = 1 then b1' else b2') (fun i hi => by
        rcases (by omega : i = 0 ∨ i = 1 ∨ i = 2) with rfl | rfl | rfl
        · exact ⟨h0, e0⟩
        · exact ⟨h1, e1⟩
        · exact ⟨h2, e2⟩)
  unfold mX4_address
  rw [oK_19 h, b1S, show (6 : Int32) = nI 6 from rfl, show (3 : Int32) = nI 3 from rfl, this, b2S, lN_i, e0, e1, e2, show (256 : Int32) * nI b1' = nI (256 * b1') from pk_mul 256 _, show (65536 : Int32) * nI b2' = nI (65536 * b2') from pk_mul 65536 _, nI_add, nI_add]
  congr 2
  show nI (((0 * 256 + b2') * 256 + b1') * 256 + b0) = _
  congr 1; omega
theorem S_stat {s : eS} (h : SH s) {F : List Int32} (f : FS s F) (bf : byF F) : ∃ N : Nat, N < 65536 ∧ mX4_number 19 4 2 s = some (lN N, s) ∧ (rb F).getD 4 0 + 256 * (rb F).getD 5 0 = nI N := by
  obtain ⟨b0, h0, e0⟩ := rb_by bf 4
  obtain ⟨b1', h1, e1⟩ := rb_by bf 5
  have := S_number (MG_19 h) f.2 4 2 (by omega) (by omega) (fun i => if i = 0 then b0 else b1') (fun i hi => by
        rcases (by omega : i = 0 ∨ i = 1) with rfl | rfl
        · exact ⟨h0, e0⟩
        · exact ⟨h1, e1⟩)
  refine ⟨b0 + 256 * b1', by omega, ?_, ?_⟩
  · rw [show (4 : Int32) = nI 4 from rfl, show (2 : Int32) = nI 2 from rfl, this]
    congr 2
    show lN ((0 * 256 + b1') * 256 + b0) = _
    congr 1; omega
  · rw [e0, e1, show (256 : Int32) * nI b1' = nI (256 * b1') from pk_mul 256 _, nI_add]
def rlN (ty : Int32) : Int32 := if ty = 45 then 10 else if ty = 46 then 10 else if ty = 49 then 12 else if ty = 100 then 10 else if ty = 101 then 10 else if ty = 102 then 9 else if ty = 103 then 16 else if ty = 104 then 11 else 0
theorem S_restLength (ty : Int32) (s : eS) : mX11_restLength ty s = some (rlN ty, s) := by
  unfold mX11_restLength mX11_restLength_79 rlN
  exact it2 rfl (it2 rfl (it2 rfl (it2 rfl (it2 rfl (it2 rfl (it2 rfl (it2 rfl rfl)))))))
