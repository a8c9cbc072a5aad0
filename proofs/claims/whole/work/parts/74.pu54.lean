/-! ===== the rest is taken ===== -/
theorem RS_more {t : Bool} {C : Nat} {s : eS} {A : aS} (r : RS t C s A) : RS t C (e_I s 0 17 (A.1 13 + 1)) (a_more A) := by
  have g : ag (fun a k => a == 0 && k == 17) s (e_I s 0 17 (A.1 13 + 1)) := ag_I ag_rf rfl
  have i := SI_set (rs_i r) 13 (by decide) (A.1 13 + 1)
  exact ⟨(have q := rs_d r; DS_ag g q), i, (have q := rs_o r; SO_ag g q ⟨rfl, rfl⟩ (fun _ => rfl)), (have q := rs_x r; SXt_ag g q ⟨rfl, rfl, rfl, rfl⟩ (fun _ => rfl)), (have q := rs_l r; SL_ag g q ⟨rfl, rfl, rfl⟩), (have q := rs_p r; SP_ag g (rs_d r).1 q rfl (fun a k hx => by simp <;> omega)), (have q := rs_c r; SC_ag g (rs_d r).1 (rs_d r).2.1 q rfl (fun a k hx => by simp <;> omega)), (have q := rs_n r; SN_ag g q ⟨rfl, rfl⟩ (fun _ => ⟨rfl, rfl⟩)), (have q := rs_e r; SE_ag g (rs_d r).1 q ⟨rfl, rfl, rfl⟩ (fun a k hx => by simp <;> omega)), (have q := rs_a r; SA_ag g (rs_d r).2.2.1 q ⟨rfl, rfl⟩ (fun a k hx => by simp <;> omega)), (have q := rs_m r; SM_ag g q ⟨rfl, rfl, rfl⟩ (fun _ => ⟨rfl, rfl, rfl, rfl, rfl⟩)), (have q := rs_z r; q), (have q := rs_f r; q)⟩
set_option maxRecDepth 100000 in
/-- what is wrong with a rest of a TYPE that is told -/
theorem S_fault71 {C : Nat} {s : eS} (h : SH s) {A : aS} (r : RS true C s A) {F : List Int32} (f : FS s F) (bf : byF F) {n : Nat} (ff : fullF F n) {ty : Nat} (hk : ty = 45 ∨ ty = 46 ∨ ty = 49 ∨ ty = 100 ∨ ty = 101 ∨ ty = 102 ∨ ty = 103 ∨ ty = 104) : mX11_faultOf_71 0 (some 19) (nI ty) s = some (if nI n = rlN (nI ty) then (if (rb F).getD 1 0 = 1 then (if (if ty = 102 then (if ixF (A.2.2 0) 1 ((rb F).getD 6 0 + 256 * (rb F).getD 7 0 + 65536 * (rb F).getD 8 0) = (A.2.2 0).length then (0 : Int32) else 1) else if ty < 100 then (if ixC (A.2.2 1) ((rb F).getD 6 0 + 256 * (rb F).getD 7 0 + 65536 * (rb F).getD 8 0) (soF (nI ty)) = (A.2.2 1).length then 0 else 1) else if (rb F).getD 6 0 + 256 * (rb F).getD 7 0 + 65536 * (rb F).getD 8 0 = 0 then 1 else 0) = 0 then 47 else 0) else -1) else -1, s) := by
  have e1 : sI s 19 1 = nI n := by rw [f.2.1, rb_len ff]
  unfold mX11_faultOf_71 mX11_faultOf_91 mX11_faultOf_111
  rw [b1S, gI_19 h, b1S, e1, S_restLength, b2S, oK_19 h, b1S, show mX4_at 19 1 s = some ((rb F).getD 1 0, s) from S_at19 h f (i := 1) (by omega), b2S, oK_19 h, b1S, S_addr h f bf, b2S, oK_0 h, b1S, S_isAddr h r hk, b2S]
  exact it2 (it2 (it2 rfl rfl) rfl) rfl
set_option maxRecDepth 100000 in
theorem S_rest {C W : Nat} (hC : C < 2 ^ 30) {s : eS} (h : SH s) {A : aS} (r : RS true C s A) (o : sI s 14 4 = 0) (h7 : A.1 7 ≠ 0) (w : WW W A) {F : List Int32} (f : FS s F) (bf : byF F) {n : Nat} (ff : fullF F n) : ∃ s', mX11_takeRest 0 (some 19) s = some s' ∧ kO s s' ∧ RS true (C + 1) s' (a_rest A F n) := by
  have rt : RT C s A := Or.inl ⟨o, r, h7⟩
  have w4 := w.2.2.2.1
  have e1 : sI s 19 1 = nI n := by rw [f.2.1, rb_len ff]
  have hn249 := ff.2.1
  -- the end of it
  have fin : ∀ (D : Nat) (s1 : eS) (B : aS), D ≤ C + 1 → kY s s1 → RT D s1 B → ∃ s', mX11_takeRest_193 0 s1 = some s' ∧ kO s s' ∧ RS true (C + 1) s' B := by
    intro D s1 B hD k1 r1
    obtain ⟨s2, f2, k2, r2, o2⟩ := S_193 k1.1.1 r1
    exact ⟨s2, f2, ⟨kS_tr k1.1 k2, fun _ => o2⟩, RS_mono r2 hD⟩
  have more : ∃ s', (b1 (g_I s 111 17 0) fun x9 => (b1 (p_I s 111 17 0 (x9 + (1 : Int32))) fun s10 => (mX11_takeRest_193 0 s10))) = some s' ∧ kO s s' ∧ RS true (C + 1) s' (a_more A) := by
    have e13 : sI s 0 17 = A.1 13 := (rs_i r).1 13 (by decide) (by decide)
    rw [gI_0 h, b1S, e13, pI_0 h, b1S]
    exact fin C _ _ (by omega) (kY_I (kY_rf h) rfl) (Or.inl ⟨by rw [rII_ne (Or.inl (by decide))]; exact o, RS_more r, h7⟩)
  have deny : 9 ≤ n → ∀ (cause cau : Int32), cause ||| 64 = cau → uI cau < 256 → ∃ s', (b1 (o_K s 111 0) fun u12 => (b2 (mX11_answerSame 0 cau s) fun x11 s10 => (mX11_takeRest_193 0 s10))) = some s' ∧ kO s s' ∧ RS true (C + 1) s' (a_same A F cause 1) := by
    intro h9 cause cau hcau h8
    obtain ⟨s1, f1, k1, r1⟩ := S_same h rt f (by rw [rb_len ff]; omega) (cause := cause) (den := 1) (cau := cau) (by rw [if_neg (by decide)]; exact hcau) h8
    rw [oK_0 h, b1S, f1, b2S]
    exact fin C s1 _ (by omega) k1 r1
  obtain ⟨ty, hty, ety⟩ := rb_by bf 0
  obtain ⟨N, hN, fN, eN⟩ := S_stat h f bf
  obtain ⟨x0, hx0, es⟩ := (rs_m r).2.2.2.1
  have eA0 : A.1 0 = nI x0 := ((rs_i r).1 0 (by decide) (by decide)).symm.trans es
  unfold mX11_takeRest a_rest
  rw [b1S, oK_19 h, b1S, show mX4_at 19 0 s = some ((rb F).getD 0 0, s) from S_at19 h f (i := 0) (by omega), b2S, oK_19 h, b1S, show mX4_at 19 2 s = some ((rb F).getD 2 0, s) from S_at19 h f (i := 2) (by omega), b2S, oK_0 h, b1S, ety, eN]
  unfold mX11_faultOf
  rw [b1S, gI_19 h, b1S, e1]
  by_cases h9 : 9 ≤ n
  case neg =>
    rw [if_neg (show ¬ (9 : Int32) ≤ nI n from c_nle (c := 9) 9 (by omega)), if_neg h9, b2S, if_pos rfl]
    exact more
  rw [if_pos (show (9 : Int32) ≤ nI n from c_le (c := 9) 9 h9), if_pos h9, S_restLength, b2S]
  rcases kn_or ty hty with hk | ⟨u1, u2, u3⟩
  case inr =>
    unfold a_typed
    rw [if_pos u1, if_pos u2, if_pos u3, b2S, if_neg (by decide), if_neg (by decide)]
    exact deny h9 44 _ rfl (by decide)
  have kk : kn (nI ty) := by rcases hk with rfl | rfl | rfl | rfl | rfl | rfl | rfl | rfl <;> (unfold kn; decide +kernel)
  obtain ⟨k1, k2, k3, k4⟩ := kn_ln kk
  have etyp : a_typed A F n (nI ty) ((rb F).getD 2 0 &&& 63) (nI N) ((rb F).getD 6 0 + 256 * (rb F).getD 7 0 + 65536 * (rb F).getD 8 0) (cauV (nI ty) ((rb F).getD 2 0 &&& 63)) = a_known A F n (nI ty) ((rb F).getD 2 0 &&& 63) (nI N) ((rb F).getD 6 0 + 256 * (rb F).getD 7 0 + 65536 * (rb F).getD 8 0) (cauV (nI ty) ((rb F).getD 2 0 &&& 63)) := by
    unfold a_typed
    by_cases c : orF (nI ty) = 0
    · rw [if_pos c, if_neg (k3 c).1]
    · rw [if_neg c]
  rw [etyp, if_neg k2, kn_cau kk, b2S]
  unfold a_known
  by_cases cv : cauV (nI ty) ((rb F).getD 2 0 &&& 63) = 0
  · rw [if_pos cv, if_pos cv, b2S, if_neg (by decide), if_neg (by decide)]
    exact deny h9 45 _ rfl (by decide)
  rw [if_neg cv, if_neg cv, oK_19 h, b1S, fN, b2S, gP_0_0 h, b1S, b1S, aI_1 h (by decide), b1S, show (0 : Int32).toNatClampNeg = 0 from rfl, es, nI_l (n := x0) (by omega)]
  generalize hcz : (rb F).getD 2 0 &&& 63 = cz at *
  -- it is as told: done
  have f71 := S_fault71 h r f bf ff hk
  generalize hx : (rb F).getD 6 0 + 256 * (rb F).getD 7 0 + 65536 * (rb F).getD 8 0 = x at *
  have doit : ∃ s', (b2 (mX11_faultOf_71 0 (some 19) (nI ty) s) fun x7 s6 => (if x7 = (-1 : Int32) then (b1 (g_I s6 111 17 0) fun x9 => (b1 (p_I s6 111 17 0 (x9 + (1 : Int32))) fun s10 => (mX11_takeRest_193 0 s10))) else (if x7 = 0 then (if nI ty = (102 : Int32) then (b1 (g_P s6 111 1 0) fun r11 => (b1 (o_K s6 104 19) fun u21 => (b2 (mX4_address 19 s6) fun x13 s12 => (b1 r11 fun a14 => (b1 (o_K s12 107 a14) fun u20 => (b2 (mX7_withAddress a14 x13 s12) fun r16 s15 => (b1 (o_K s15 111 0) fun u19 => (b1 (mX11_readCame 0 r16 s15) fun s17 => (mX11_takeRest_193 0 s17))))))))) else (if nI ty = (100 : Int32) then (b1 (o_K s6 104 19) fun u17 => (b2 (mX4_at 19 (9 : Int32) s6) fun x13 s12 => (b1 (o_K s12 111 0) fun u16 => (b1 (mX11_interrogationCame 0 cz x13 s12) fun s14 => (mX11_takeRest_193 0 s14))))) else (if nI ty = (101 : Int32) then (b1 (o_K s6 104 19) fun u18 => (b2 (mX4_at 19 (9 : Int32) s6) fun x14 s13 => (b1 (o_K s13 111 0) fun u17 => (b1 (mX11_countersOrderCame 0 x14 s13) fun s15 => (mX11_takeRest_193 0 s15))))) else (if nI ty = (103 : Int32) then (b1 (o_K s6 104 19) fun u19 => (b2 (mX4_number 19 (9 : Int32) (7 : Int32) s6) fun x15 s14 => (b1 (o_K s14 111 0) fun u18 => (b1 (mX11_clockOrderCame 0 x15 s14) fun s16 => (mX11_takeRest_193 0 s16))))) else (if nI ty = (104 : Int32) then (b1 (o_K s6 104 19) fun u18 => (b2 (mX4_number 19 (9 : Int32) (2 : Int32) s6) fun x16 s15 => (if (lg_cmp x16 (21930 : Int64)) = 0 then (mX11_takeRest_173 0 (7 : Int32) (some 0) s15) else (mX11_takeRest_173 0 (71 : Int32) (some 0) s15)))) else (b1 (o_K s6 104 19) fun u23 => (b2 (mX4_address 19 s6) fun x16 s15 => (b1 (o_K s15 111 0) fun u22 => (b2 (mX11_commandWith 0 x16 s15) fun r18 s17 => (b1 (o_K s17 111 0) fun u21 => (b1 (mX11_commandCame 0 r18 cz s17) fun s19 => (mX11_takeRest_193 0 s19)))))))))))) else (b1 (o_K s6 111 0) fun u12 => (b2 (mX11_answerSame 0 (x7 ||| (64 : Int32)) s6) fun x11 s10 => (mX11_takeRest_193 0 s10)))))) = some s' ∧ kO s s' ∧ RS true (C + 1) s' (a_doit A F n (nI ty) cz x) := by
    rw [f71, b2S, k1]
    unfold a_doit
    by_cases cl : nI n = lnF (nI ty)
    case neg =>
      rw [if_neg cl, if_neg cl, if_pos rfl]
      exact more
    rw [if_pos cl, if_pos cl]
    by_cases c1 : (rb F).getD 1 0 = 1
    case neg =>
      rw [if_neg c1, if_neg c1, if_pos rfl]
      exact more
    rw [if_pos c1, if_pos c1]
    have n3 : 3 ≤ (rb F).length := by rw [rb_len ff]; omega
    have a19 : ∀ i, i < 2 ^ 31 → mX4_at 19 (nI i) s = some ((rb F).getD i 0, s) := fun i hi => S_at19 h f hi
    have ad : mX4_address 19 s = some (x, s) := by rw [S_addr h f bf, hx]
    have q : ∀ c : Nat, c < 256 → (nI ty = nI c ↔ ty = c) := fun c hc => nI_eq (by omega) (by omega)
    by_cases c102 : ty = 102
    · subst c102
      rw [if_pos rfl, if_pos (show orF (nI 102) = 0 by decide), if_pos (show nI 102 = 102 from rfl)]
      unfold a_read
      by_cases ci : ixF (A.2.2 0) 1 x = (A.2.2 0).length
      · rw [if_pos ci, if_pos ci, if_pos rfl, if_neg (by decide), if_neg (by decide)]
        exact deny h9 47 _ rfl (by decide)
      · rw [if_neg ci, if_neg (by decide : ¬ (1 : Int32) = 0), if_neg (by decide), if_pos rfl, if_pos (show nI 102 = 102 from rfl), gP_0_1 h, b1S, oK_19 h, b1S, ad, b2S, b1S, oK_2 h, b1S, S_withAddr h r x, b2S, oK_0 h, b1S, if_neg ci]
        obtain ⟨s1, g1, y1, z1⟩ := S_read hC h rt f bf ci
        unfold a_read at z1
        rw [g1, b1S]
        exact fin C s1 _ (by omega) y1 z1
    rw [if_neg c102, if_neg (show ¬ nI ty = 102 from fun z => c102 ((q 102 (by omega)).mp z)), if_neg (show ¬ nI ty = 102 from fun z => c102 ((q 102 (by omega)).mp z))]
    by_cases c100 : ty < 100
    · have ho : orF (nI ty) ≠ 0 := fun z => absurd (lt_c (c := 100) 100 c100) (k3 z).2
      rw [if_pos c100, if_neg ho]
      unfold a_cmd
      have u := ixC_ixF (rs_c r).2.2 x (soF (nI ty))
      by_cases ci : ixC (A.2.2 1) x (soF (nI ty)) = (A.2.2 1).length
      · rw [if_pos ci, if_pos rfl, if_neg (by decide), if_neg (by decide)]
        unfold a_cmdAt
        rw [if_pos ci]
        exact deny h9 47 _ rfl (by decide)
      · have hfx : ixF (A.2.2 1) 1 x < (A.2.2 1).length ∧ pg (A.2.2 1) (ixF (A.2.2 1) 1 x) 0 = soF (nI ty) := Classical.byContradiction (fun z => ci (u.2 z))
        have eu := u.1 hfx
        rw [if_neg ci, if_neg (by decide : ¬ (1 : Int32) = 0), if_neg (by decide), if_pos rfl, if_neg (show ¬ nI ty = 100 from fun z => by have := (q 100 (by omega)).mp z; omega), if_neg (show ¬ nI ty = 101 from fun z => by have := (q 101 (by omega)).mp z; omega), if_neg (show ¬ nI ty = 103 from fun z => by have := (q 103 (by omega)).mp z; omega), if_neg (show ¬ nI ty = 104 from fun z => by have := (q 104 (by omega)).mp z; omega), oK_19 h, b1S, ad, b2S, oK_0 h, b1S, S_cmdWith h r x, b2S, oK_0 h, b1S, if_neg (by omega), eu]
        obtain ⟨k, hk3, q0, -⟩ := pg_cm (rs_c r) hfx.1
        obtain ⟨s1, g1, y1, z1⟩ := S_command hC h r o h7 f bf n3 hfx.1 hk3 q0 cz
        rw [g1, b1S, ← hfx.2, q0]
        exact fin C s1 _ (by omega) y1 z1
    · have ho : orF (nI ty) = 0 := Classical.byContradiction (fun z => absurd (k4 z) (nlt_c (c := 100) 100 (by omega)))
      rw [if_neg c100, if_pos ho]
      by_cases cx : x = 0
      case neg =>
        rw [if_neg cx, if_neg cx, if_pos rfl, if_neg (by decide), if_neg (by decide)]
        exact deny h9 47 _ rfl (by decide)
      rw [if_pos cx, if_pos cx, if_neg (by decide : ¬ (1 : Int32) = 0), if_neg (by decide), if_pos rfl]
      by_cases d100 : ty = 100
      · subst d100
        obtain ⟨s1, g1, y1, z1⟩ := S_ask100 hC h w4 rt f bf n3 cz
        rw [if_pos (show nI 100 = 100 from rfl), oK_19 h, b1S, show mX4_at 19 9 s = some ((rb F).getD 9 0, s) from a19 9 (by omega), b2S, oK_0 h, b1S, g1, b1S]
        exact fin C s1 _ (by omega) y1 z1
      rw [if_neg (show ¬ nI ty = 100 from fun z => d100 ((q 100 (by omega)).mp z))]
      by_cases d101 : ty = 101
      · subst d101
        obtain ⟨s1, g1, y1, z1⟩ := S_ask101 hC h w4 rt f bf n3 cz
        rw [if_pos (show nI 101 = 101 from rfl), oK_19 h, b1S, show mX4_at 19 9 s = some ((rb F).getD 9 0, s) from a19 9 (by omega), b2S, oK_0 h, b1S, g1, b1S]
        exact fin (C + 1) s1 _ (by omega) y1 z1
      rw [if_neg (show ¬ nI ty = 101 from fun z => d101 ((q 101 (by omega)).mp z))]
      by_cases d103 : ty = 103
      · subst d103
        obtain ⟨b9, h9', e9⟩ := rb_by bf 9
        obtain ⟨b10, h10', e10⟩ := rb_by bf 10
        obtain ⟨b11, h11', e11⟩ := rb_by bf 11
        obtain ⟨b12, h12', e12⟩ := rb_by bf 12
        obtain ⟨b13, h13', e13⟩ := rb_by bf 13
        obtain ⟨b14, h14', e14⟩ := rb_by bf 14
        obtain ⟨b15, h15', e15⟩ := rb_by bf 15
        have hB : ∀ i, i < 7 → [b9, b10, b11, b12, b13, b14, b15].getD i 0 < 256 ∧ (rb F).getD (9 + i) 0 = nI ([b9, b10, b11, b12, b13, b14, b15].getD i 0) := fun i hi => by
          rcases (by omega : i = 0 ∨ i = 1 ∨ i = 2 ∨ i = 3 ∨ i = 4 ∨ i = 5 ∨ i = 6) with rfl | rfl | rfl | rfl | rfl | rfl | rfl
          · exact ⟨h9', e9⟩
          · exact ⟨h10', e10⟩
          · exact ⟨h11', e11⟩
          · exact ⟨h12', e12⟩
          · exact ⟨h13', e13⟩
          · exact ⟨h14', e14⟩
          · exact ⟨h15', e15⟩
        have num := S_number (MG_19 h) f.2 9 7 (by omega) (by omega) (fun i => [b9, b10, b11, b12, b13, b14, b15].getD i 0) hB
        obtain ⟨s1, g1, y1, z1⟩ := S_ask103 h rt f n3 hB cz
        rw [if_pos (show nI 103 = 103 from rfl), oK_19 h, b1S, show mX4_number 19 9 7 s = _ from num, b2S, oK_0 h, b1S, g1, b1S]
        exact fin C s1 _ (by omega) y1 z1
      rw [if_neg (show ¬ nI ty = 103 from fun z => d103 ((q 103 (by omega)).mp z))]
      have d104 : ty = 104 := by omega
      subst d104
      obtain ⟨b9, h9', e9⟩ := rb_by bf 9
      obtain ⟨b10, h10', e10⟩ := rb_by bf 10
      have num := S_number (MG_19 h) f.2 9 2 (by omega) (by omega) (fun i => if i = 0 then b9 else b10) (fun i hi => by
        rcases (by omega : i = 0 ∨ i = 1) with rfl | rfl
        · exact ⟨h9', e9⟩
        · exact ⟨h10', e10⟩)
      have en : numB (fun i => if i = 0 then b9 else b10) 2 0 = b9 + 256 * b10 := by
        show (0 * 256 + b10) * 256 + b9 = _
        omega
      rw [en] at num
      have ans : ∀ (den cau : Int32), (7 : Int32) ||| (if den = 0 then 0 else 64) = cau → uI cau < 256 → ∃ s', mX11_takeRest_173 0 cau (some 0) s = some s' ∧ kO s s' ∧ RS true (C + 1) s' (a_same A F 7 den) := fun den cau hcau h8 => by
        obtain ⟨s1, g1, y1, z1⟩ := S_same h rt f n3 (cause := 7) (den := den) hcau h8
        unfold mX11_takeRest_173
        rw [b1S, oK_0 h, b1S, g1, b2S]
        exact fin C s1 _ (by omega) y1 z1
      rw [if_pos (show nI 104 = 104 from rfl), oK_19 h, b1S, show mX4_number 19 9 2 s = _ from num, b2S]
      unfold a_ask
      rw [if_neg (by decide : ¬ nI 104 = 100), if_neg (by decide : ¬ nI 104 = 101), if_neg (by decide : ¬ nI 104 = 103), e9, e10]
      have cmp : lg_cmp (lN (b9 + 256 * b10)) 21930 = 0 ↔ (b9 = 170 ∧ b10 = 85) := by
        rw [lg_cmp_eq, show (21930 : Int64) = lN 21930 from rfl, pk_lEQ (by omega) (by omega)]
        omega
      by_cases q9 : b9 = 170
      · rw [if_pos (show nI b9 = 170 by rw [q9]; rfl)]
        by_cases q10 : b10 = 85
        · rw [if_pos (show nI b10 = 85 by rw [q10]; rfl), if_pos (cmp.mpr ⟨q9, q10⟩)]
          exact ans 0 7 rfl (by decide)
        · rw [if_neg (show ¬ nI b10 = 85 from fun z => q10 ((nI_eq (a := b10) (b := 85) (by omega) (by omega)).mp z)), if_neg (fun z => q10 (cmp.mp z).2)]
          exact ans 1 71 rfl (by decide)
      · rw [if_neg (show ¬ nI b9 = 170 from fun z => q9 ((nI_eq (a := b9) (b := 170) (by omega) (by omega)).mp z)), if_neg (fun z => q9 (cmp.mp z).1)]
        exact ans 1 71 rfl (by decide)
  have st46 : ∃ s', (b2 (mX11_faultOf_68 s) fun x7 s6 => (if x7 = (-1 : Int32) then (b1 (g_I s6 111 17 0) fun x9 => (b1 (p_I s6 111 17 0 (x9 + (1 : Int32))) fun s10 => (mX11_takeRest_193 0 s10))) else (if x7 = 0 then (some s6) else (b1 (o_K s6 111 0) fun u12 => (b2 (mX11_answerSame 0 (x7 ||| (64 : Int32)) s6) fun x11 s10 => (mX11_takeRest_193 0 s10)))))) = some s' ∧ kO s s' ∧ RS true (C + 1) s' (a_same A F 46 1) := by
    unfold mX11_faultOf_68
    rw [b2S, if_neg (by decide), if_neg (by decide)]
    exact deny h9 46 _ rfl (by decide)
  have d46 := deny h9 46 ((46 : Int32) ||| 64) rfl (by decide)
  unfold mX11_faultOf_68
  by_cases cst : N = x0
  · rw [if_pos (show nI N = A.1 0 by rw [eA0, cst]), if_pos (by rw [lg_cmp_eq, cst])]
    exact doit
  rw [if_neg (show ¬ nI N = A.1 0 by rw [eA0]; exact fun z => cst ((nI_eq (by omega) (by omega)).mp z)), if_neg (by rw [lg_cmp_eq, pk_lEQ (by omega) (by omega)]; exact cst)]
  by_cases co : orF (nI ty) = 0
  · rw [if_pos co, if_neg (k3 co).2]
    by_cases cN : N = 65535
    · rw [if_pos (show nI N = 65535 by rw [cN]; rfl), if_pos (by rw [lg_cmp_eq, cN]; rfl)]
      exact doit
    · rw [if_neg (show ¬ nI N = 65535 from fun z => cN ((nI_eq (a := N) (b := 65535) (by omega) (by omega)).mp z)), if_neg (by rw [lg_cmp_eq, show (65535 : Int64) = lN 65535 from rfl, pk_lEQ (by omega) (by omega)]; exact cN), b2S, if_neg (by decide), if_neg (by decide)]
      exact d46
  · rw [if_neg co, if_pos (k4 co), b2S, if_neg (by decide), if_neg (by decide)]
    exact d46
