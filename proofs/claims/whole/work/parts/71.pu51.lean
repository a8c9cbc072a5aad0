/-! ===== a COMMAND comes ===== -/
theorem RT_1 {C : Nat} {s : eS} {A : aS} (r : RT C s A) (h7 : A.1 7 ≠ 0) : sI s 14 4 = 0 ∧ RS true C s A := by
  rcases r with ⟨a, r, b⟩ | ⟨a, A0, r, b, rfl⟩
  · exact ⟨a, r⟩
  · exact absurd rfl h7
theorem end_closed {A : aS} {F : List Int32} (h : A.1 7 = 0) : a_end A F = A := by unfold a_end; rw [if_pos h]
theorem S_53 {C : Nat} {s : eS} (h : SH s) {A : aS} (r : RT C s A) {F : List Int32} (f : FS s F) (hn : 3 ≤ (rb F).length) : ∃ s', mX11_carryOut_53 0 s = some s' ∧ kY s s' ∧ RT C s' (a_end A F) := by
  obtain ⟨x, s1, e1, k1, r1⟩ := S_end h r f hn
  unfold mX11_carryOut_53
  rw [oK_0 h, b1S, e1, b2S]
  exact ⟨s1, rfl, k1, r1⟩
set_option maxRecDepth 100000 in
theorem S_carry {C : Nat} (hC : C < 2 ^ 30) {s : eS} (h : SH s) {A : aS} (r : RT C s A) {F : List Int32} (f : FS s F) (bf : byF F) (hn : 3 ≤ (rb F).length) {c k D d : Nat} (hc : c < (A.2.2 1).length) (hk : k < 3) (e0 : pg (A.2.2 1) c 0 = nI k) (cd : CD F k D d) : ∃ s', mX11_carryOut 0 (some (cA s c)) (nI D) (isT F) s = some s' ∧ kY s s' ∧ RT C s' (a_carry (a_same A F 7 0) F c (nI k) ((rb F).getD (if nI k = 2 then 11 else 9) 0)) := by
  obtain ⟨s1, f1, k1, r1⟩ := S_same h r f hn (cause := 7) (den := 0) (cau := 7) rfl (by decide)
  have h1 := k1.1.1
  have fs1 := FS_Y k1 f
  have eq1 : (a_same A F 7 0).2.2 1 = A.2.2 1 := same_q F 7 0 (Or.inr rfl)
  have ec : cA s1 c = cA s c := k1.2.2 c
  unfold mX11_carryOut a_carry
  rw [oK_0 h, b1S, f1, b2S]
  by_cases c7 : (a_same A F 7 0).1 7 = 0
  · rw [if_pos c7, if_pos rfl, end_closed c7]
    refine ⟨s1, rfl, k1, ?_⟩
    by_cases ct : isT F = 0
    · rw [if_pos ct, if_pos c7]; exact r1
    · rw [if_neg ct]; exact r1
  · rw [if_neg c7, if_neg (by decide)]
    obtain ⟨o1, rs1⟩ := RT_1 r1 c7
    generalize a_same A F 7 0 = A1 at *
    have hc1 : c < (A1.2.2 1).length := by rw [eq1]; exact hc
    by_cases ct : isT F = 0
    · rw [if_pos ct, if_pos ct, if_neg c7, b1S]
      have ko := ((rs_d rs1).2.1.1 c hc1).2
      obtain ⟨k2, hk2, q0, i0, -, -, q4, q2⟩ := pg_cm (rs_c rs1) hc1
      have ek : k2 = k := by
        rw [eq1, e0] at q0
        exact ((nI_eq (by omega) (by omega)).mp q0).symm
      subst ek
      rw [← ec, koI ko, b1S, kop ko, b1S, ← q4]
      have r2 := RS_carried rs1 hc1 (pg (A1.2.2 1) c 4 + 1)
      have h2 := SH_I (a := cA s1 c) (k := 4) (x := pg (A1.2.2 1) c 4 + 1) h1
      have k2' : kY s1 (e_I s1 (cA s1 c) 4 (pg (A1.2.2 1) c 4 + 1)) := kY_I (kY_rf h1) (by have := ko.2; simp <;> omega)
      have o2 : sI (e_I s1 (cA s1 c) 4 (pg (A1.2.2 1) c 4 + 1)) 14 4 = 0 := by
        rw [rII_ne (Or.inl (by have := ko.2; omega))]; exact o1
      have ko2 : KO (e_I s1 (cA s1 c) 4 (pg (A1.2.2 1) c 4 + 1)) 102 (cA s1 c) := ko
      have fs2 := FS_Y k2' fs1
      rw [koP ko2, b1S]
      rcases q2 with ⟨n1, n2⟩ | ⟨p, hp, p1, p2, p3⟩
      · rw [if_pos n1]
        rw [show sP (e_I s1 (cA s1 c) 4 (pg (A1.2.2 1) c 4 + 1)) (cA s1 c) 2 = none from n2, if_pos rfl]
        obtain ⟨s3, f3, k3, r3⟩ := S_53 h2 (Or.inl ⟨o2, r2, c7⟩) fs2 hn
        exact ⟨s3, f3, kY_tr k1 (kY_tr k2' k3), r3⟩
      · have hp24 := (rs_d rs1).2.2.2.1
        have npm : ¬ pg (A1.2.2 1) c 2 = -1 := by
          rw [p1]
          intro z
          have := congrArg (· < (0 : Int32)) z
          exact absurd (this.mpr (by decide)) (nI_pos (by omega))
        rw [if_neg npm, p1, nI_clamp (by omega), show sP (e_I s1 (cA s1 c) 4 (pg (A1.2.2 1) c 4 + 1)) (cA s1 c) 2 = some (pA s1 p) from p2, if_neg (by simp), koK ko2, b1S]
        have i02 : sI (e_I s1 (cA s1 c) 4 (pg (A1.2.2 1) c 4 + 1)) (cA s1 c) 0 = nI k2 := (rII_ne (Or.inr (by decide))).trans i0
        rw [S_valueOf ko2 hk2 i02 cd, b2S, b1S]
        have kop' : KO (e_I s1 (cA s1 c) 4 (pg (A1.2.2 1) c 4 + 1)) 106 (pA s1 p) := ((rs_d rs1).1.1 p hp).2
        rw [kop kop', b1S]
        have pz : sI (e_I s1 (cA s1 c) 4 (pg (A1.2.2 1) c 4 + 1)) (pA (e_I s1 (cA s1 c) 4 (pg (A1.2.2 1) c 4 + 1)) p) 0 = nI ([0, 1, 4].getD k2 0) := (rII_ne (Or.inr (by decide))).trans p3
        have r3 := RS_val r2 (p := p) hp (v := ordV F (nI k2) ((rb F).getD (if nI k2 = 2 then 11 else 9) 0)) (by rw [pz]; exact ordV_ok hk2 _)
        have h3 := SH_I (a := pA s1 p) (k := 4) (x := ordV F (nI k2) ((rb F).getD (if nI k2 = 2 then 11 else 9) 0)) h2
        have h58 := kop'.2
        have k3' : kY (e_I s1 (cA s1 c) 4 (pg (A1.2.2 1) c 4 + 1)) (e_I (e_I s1 (cA s1 c) 4 (pg (A1.2.2 1) c 4 + 1)) (pA s1 p) 4 (ordV F (nI k2) ((rb F).getD (if nI k2 = 2 then 11 else 9) 0))) := kY_I (kY_rf h2) (by simp <;> omega)
        have o3 : sI (e_I (e_I s1 (cA s1 c) 4 (pg (A1.2.2 1) c 4 + 1)) (pA s1 p) 4 (ordV F (nI k2) ((rb F).getD (if nI k2 = 2 then 11 else 9) 0))) 14 4 = 0 := by
          rw [rII_ne (Or.inl (by omega))]; exact o2
        obtain ⟨s4, f4, k4, r4⟩ := S_obj hC h3 (Or.inl ⟨o3, r3, c7⟩) (FS_Y k3' fs2) bf (p := p) (by show p < (sg (A1.2.2 0) p 4 _).length; rw [sg_len]; exact hp) (c := 11) (by omega)
        rw [oK_0 h3, b1S, show mX11_answerObject 0 (some (pA s1 p)) 11 (e_I (e_I s1 (cA s1 c) 4 (pg (A1.2.2 1) c 4 + 1)) (pA s1 p) 4 (ordV F (nI k2) ((rb F).getD (if nI k2 = 2 then 11 else 9) 0))) = _ from f4, b1S]
        obtain ⟨s5, f5, k5, r5⟩ := S_53 k4.1.1 r4 (FS_Y k4 (FS_Y k3' fs2)) hn
        exact ⟨s5, f5, kY_tr k1 (kY_tr k2' (kY_tr k3' (kY_tr k4 k5))), r5⟩
    · rw [if_neg ct, if_neg ct]
      obtain ⟨s3, f3, k3, r3⟩ := S_53 h1 r1 fs1 hn
      exact ⟨s3, f3, kY_tr k1 k3, r3⟩
set_option maxRecDepth 100000 in
theorem S_endSel {C : Nat} {s : eS} (h : SH s) {A : aS} (r : RS true C s A) {F : List Int32} (f : FS s F) {c k D : Nat} (hc : c < (A.2.2 1).length) (e0 : pg (A.2.2 1) c 0 = nI k) (hm : pg (A.2.2 1) c 3 ≠ 0) (hD : D < 2 ^ 24) (hd : slB (nI k) D = obF F (nI k)) : ∃ s', mX11_endSelection 0 (some (cA s c)) (nI D) (isT F) s = some (okX A F c (nI k), s') ∧ kY s s' ∧ RS true C s' (a_unsel A F c) ∧ sI s' 14 4 = sI s 14 4 := by
  have h12 := (rs_d r).2.2.2.2.1
  unfold mX11_endSelection mX11_endSelection_45 mX11_endSelection_46 mX11_endSelection_59 okX
  rw [if_neg hm, gP_0_4 h, b1S, b1S, oK_6 h, b1S, S_isOf h r hc, b2S]
  by_cases cs : selI A = nI c
  · rw [if_pos cs, if_pos cs, if_neg (by decide), gP_0_4 h, b1S, b1S, gI_6 h, b1S, b1S, b1S, gI_6 h, b1S, gP_0_8 h, b1S, b1S, oK_18 h, b1S, S_orig h f, b2S, gP_0_4 h]
    rcases rs_l r with ⟨z1, z2⟩ | ⟨c2, dd, w, kk, b, tt, p1, p2, p3, p4, p5, p6, -⟩
    · unfold selI at cs
      rw [z1] at cs
      have z' : (-1 : Int32) = nI c := cs
      have := congrArg (· < (0 : Int32)) z'
      exact absurd (this.mp (by decide)) (nI_pos (by omega))
    · have h1 := p1.1
      have ec : c2 = c := by
        unfold selI at cs
        rw [p2] at cs
        exact (nI_eq (by omega) (by omega)).mp cs
      subst ec
      have g1 : (A.2.1 2).getD 1 0 = b := by rw [p2]; rfl
      have g3 : (A.2.1 2).drop 3 = slB (nI k) dd := by rw [p2, e0]; rfl
      rw [g1, g3, ← hd, p4, p5]
      have un : ∀ v : Int32, o_Z v = some () → ∃ s', (if isT F = 0 then (b1 (some (some 6)) fun r13 => (b1 r13 fun a14 => (b1 (o_K s 109 a14) fun u17 => (b1 (mX9_end a14 s) fun s15 => (b1 (o_Z v) fun u1 => some (v, s15)))))) else (b1 (o_Z v) fun u1 => some (v, s))) = some (v, s') ∧ kY s s' ∧ RS true C s' (a_unsel A F c2) ∧ sI s' 14 4 = sI s 14 4 := fun v hv => by
        obtain ⟨s1, f1, k1, r1, o1⟩ := S_unsel (F := F) h r cs (fun s15 => (b1 (o_Z v) fun u1 => some (v, s15)))
        rw [gP_0_4 h] at f1
        refine ⟨s1, ?_, k1, r1, o1⟩
        rw [f1, hv, b1S]
      by_cases cd : dd = D
      · rw [if_pos (show nI dd = nI D by rw [cd])]
        by_cases cb : b = (rb F).getD 3 0
        · rw [if_pos cb, if_pos cb, if_pos (show slB (nI k) dd = slB (nI k) D by rw [cd])]
          exact un 1 oZ1
        · rw [if_neg cb, if_neg cb]
          exact un 0 oZ0
      · rw [if_neg (fun z => cd ((nI_eq (by omega) (by omega)).mp z)), if_neg (fun z => cd (slB_inj p6 hD z))]
        have e : (if b = (rb F).getD 3 0 then (0 : Int32) else 0) = 0 := by split <;> rfl
        rw [e]
        exact un 0 oZ0
  · rw [if_neg cs, if_neg cs, if_pos rfl, oZ0, b1S]
    refine ⟨s, rfl, kY_rf h, ?_, rfl⟩
    unfold a_unsel
    rw [if_neg cs]
    exact r
set_option maxRecDepth 100000 in
theorem S_select {C : Nat} {s : eS} (h : SH s) {A : aS} (r : RS true C s A) (o : sI s 14 4 = 0) (h7 : A.1 7 ≠ 0) {F : List Int32} (f : FS s F) (hn : 3 ≤ (rb F).length) {c k d : Nat} (hc : c < (A.2.2 1).length) (e0 : pg (A.2.2 1) c 0 = nI k) (hd : d < 2 ^ 24) (ed : slB (nI k) d = obF F (nI k)) : ∃ s', mX11_selectCame 0 (some (cA s c)) (nI d) (isT F) s = some s' ∧ kY s s' ∧ RT C s' (a_pick A F c (nI k) (okS A c)) := by
  have h12 := (rs_d r).2.2.2.2.1
  have ko := ((rs_d r).2.1.1 c hc).2
  obtain ⟨-, -, -, -, -, e3, -, -⟩ := pg_cm (rs_c r) hc
  have g6 : g_P s 109 0 6 = some (sP s 6 0) := gPv h (by decide) rfl
  have e17 : ∃ s', mX11_selectCame_17 0 s = some s' ∧ kY s s' ∧ RT C s' (a_same A F 7 1) := by
    obtain ⟨s1, f1, k1, r1⟩ := S_same h (Or.inl ⟨o, r, h7⟩) f hn (cause := 7) (den := 1) (cau := 71) rfl (by decide)
    unfold mX11_selectCame_17
    rw [oK_0 h, b1S, f1, b2S]
    exact ⟨s1, rfl, k1, r1⟩
  unfold mX11_selectCame mX11_selectCame_61 mX9_isOfSome mX9_isOfSome_12 a_pick okS
  rw [b1S, koI ko, b1S, ← e3]
  by_cases cm : pg (A.2.2 1) c 3 = 0
  · rw [if_pos cm, if_pos cm, if_pos rfl]
    exact e17
  · rw [if_neg cm, if_neg cm, gP_0_4 h, b1S, b1S, oK_6 h, b1S, g6, b1S, oZ0, oZ1, b1S, b1S]
    by_cases cs : sP s 6 0 = none
    · rw [if_pos cs, if_pos ((sel_none (rs_l r) h12).mp cs), if_neg (by decide), b2S, if_pos rfl, oK_0 h, b1S]
      obtain ⟨s1, f1, k1, r1⟩ := S_same h (Or.inl ⟨o, r, h7⟩) f hn (cause := 7) (den := 0) (cau := 7) rfl (by decide)
      have h1 := k1.1.1
      have fs1 := FS_Y k1 f
      have eq1 : (a_same A F 7 0).2.2 1 = A.2.2 1 := same_q F 7 0 (Or.inr rfl)
      rw [f1, b2S]
      by_cases c7 : (a_same A F 7 0).1 7 = 0
      · rw [if_pos c7, if_pos rfl]
        refine ⟨s1, rfl, k1, ?_⟩
        rw [if_pos c7]
        have e : (if isT F = 0 then a_same A F 7 0 else a_same A F 7 0) = a_same A F 7 0 := by split <;> rfl
        rw [e]; exact r1
      · rw [if_neg c7, if_neg (by decide), if_neg c7]
        by_cases ct : isT F = 0
        · rw [if_pos ct, if_pos ct]
          obtain ⟨o1, rs1⟩ := RT_1 r1 c7
          have hsel : (a_same A F 7 0).2.1 2 = A.2.1 2 := by
            unfold a_same a_wait
            rw [if_neg h7]
            split
            · rename_i z
              exact absurd (by unfold a_same a_wait; rw [if_neg h7, if_pos z]; rfl) c7
            · rfl
          have ns : sP s1 6 0 = none := by
            have l1 := rs_l rs1
            rw [sel_none l1 (by rw [eq1]; exact h12)]
            unfold selI
            rw [hsel]
            exact (sel_none (rs_l r) h12).mp cs
          have hm : pg ((a_same A F 7 0).2.2 1) c 3 ≠ 0 := by rw [eq1]; exact cm
          have hc1 : c < ((a_same A F 7 0).2.2 1).length := by rw [eq1]; exact hc
          have ek1 : pg ((a_same A F 7 0).2.2 1) c 0 = nI k := by rw [eq1]; exact e0
          generalize a_same A F 7 0 = A1 at *
          have e6 : sI s1 1 6 = A1.1 6 := (rs_i rs1).1 6 (by decide) (by decide)
          have r2 := RS_begin rs1 ns hc1 hm hd ((rb F).getD 3 0) c7
          rw [ek1, ed, k1.2.2 c] at r2
          have hP := SH_P (r := some (cA s c)) h1 (show (6, 0) ∉ pL by decide)
          unfold mX9_begin
          rw [gP_0_4 h1, b1S, gP_0_8 h1, b1S, b1S, oK_18 h1, b1S, S_orig h1 fs1, b2S, gP_0_0 h1, b1S, b1S, aI_1 h1 (by decide), b1S, show (6 : Int32).toNatClampNeg = 6 from rfl, e6, b1S, oK_6 h1, b1S, show p_P s1 109 0 6 (some (cA s c)) = some (e_P s1 6 0 (some (cA s c))) from pP_s h1 (by decide) rfl, b1S, pI_6 hP, b1S, pI_6 (SH_I hP), b1S, pI_6 (SH_I (SH_I hP)), b1S, b1S]
          rw [e_PI, e_PI, e_PI] at r2
          refine ⟨_, rfl, kY_tr k1 ⟨kS_I (kS_I (kS_I (kS_P (kS_rf h1)) rfl) rfl) rfl, fun _ => rfl, fun _ => rfl⟩, Or.inl ⟨?_, r2, c7⟩⟩
          rw [rII_ne (Or.inl (by decide)), rII_ne (Or.inl (by decide)), rII_ne (Or.inl (by decide))]
          exact o1
        · rw [if_neg ct, if_neg ct]
          exact ⟨s1, rfl, k1, r1⟩
    · rw [if_neg cs, if_neg (fun z => cs ((sel_none (rs_l r) h12).mpr z)), if_pos rfl, b2S, if_neg (by decide)]
      exact e17
