/-! ===== COMMANDS ===== -/
abbrev xCm (s : eS) (c : Nat) : Nat → Nat → Bool := fun a k => a == cA s c && k == 4
theorem pg_sg1 (q : List (List Int32)) (c : Nat) (x : Int32) {j : Nat} (hj : j ≠ 4) (i : Nat) : pg (sg q c 4 x) i j = pg q i j := pg_sg q c 4 x hj i
theorem UQ_sg {q : List (List Int32)} (h : UQ q) (c : Nat) (x : Int32) : UQ (sg q c 4 x) := fun i j hi hj e => by
  rw [sg_len] at hi hj
  rw [pg_sg1 q c x (by decide), pg_sg1 q c x (by decide)] at e
  exact h i j hi hj e
theorem sg_row {q : List (List Int32)} {c k : Nat} {x : Int32} {i : Nat} (hi : i < q.length) : (sg q c k x).getD i [] = if i = c then (q.getD c []).set k x else q.getD i [] := by
  unfold sg
  rw [gD, List.getElem?_set]
  by_cases e : c = i
  · subst e
    rw [if_pos rfl, if_pos hi, if_pos rfl]
    rfl
  · rw [if_neg e, if_neg (fun z => e z.symm), ← gD]
set_option maxRecDepth 100000 in
theorem RS_carried {t : Bool} {C : Nat} {s : eS} {A : aS} (r : RS t C s A) {c : Nat} (hc : c < (A.2.2 1).length) (x : Int32) : RS t C (e_I s (cA s c) 4 x) (uq A 1 (sg (A.2.2 1) c 4 x)) := by
  have d := rs_d r
  have dc := d.2.1.1 c hc
  have h58 := dc.2.2
  have g : ag (xCm s c) s (e_I s (cA s c) 4 x) := ag_I ag_rf (by simp [xCm])
  have lo : ∀ {a k : Nat}, a < 58 → xCm s c a k = false := fun ha => by simp [xCm]; intro e; omega
  have px : ∀ p, p < (A.2.2 0).length → ∀ k, xCm s c (pA s p) k = false := fun p hp k => by
    have h1 := (d.1.1 p hp).2.1.2
    have h2 := dc.2.1.2
    simp [xCm]
    intro e
    rw [e, h2] at h1
    cases h1
  have i : SI (e_I s (cA s c) 4 x) A := SI_ag g (rs_i r) (fun k hk _ => lo ((by decide : ∀ k, k < 26 → (sc k).1 < 58) k hk)) (lo (by decide))
  have o : SO_ (e_I s (cA s c) 4 x) (A.2.1 0) := SO_ag g (rs_o r) ⟨lo (by decide), lo (by decide)⟩ (fun _ => lo (by decide))
  have xx : SXt t (e_I s (cA s c) 4 x) (A.2.1 1) := SXt_ag g (rs_x r) ⟨lo (by decide), lo (by decide), lo (by decide), lo (by decide)⟩ (fun _ => lo (by decide))
  have l : SL (e_I s (cA s c) 4 x) (uq A 1 (sg (A.2.2 1) c 4 x)) := by
    have l1 := SL_ag g (rs_l r) ⟨lo (by decide), lo (by decide), lo (by decide)⟩
    rcases l1 with z | ⟨c2, dd, w, k, b, tt, ⟨p1, p1'⟩, p2, p3⟩
    · exact Or.inl z
    · refine Or.inr ⟨c2, dd, w, k, b, tt, ⟨?_, ?_⟩, ?_, p3⟩
      · show c2 < (sg (A.2.2 1) c 4 x).length
        rw [sg_len]; exact p1
      · show pg (sg (A.2.2 1) c 4 x) c2 3 ≠ 0
        rw [pg_sg1 _ _ _ (by decide)]; exact p1'
      · show A.2.1 2 = nI c2 :: b :: tt :: slB (pg (sg (A.2.2 1) c 4 x) c2 0) dd
        rw [pg_sg1 _ _ _ (by decide)]; exact p2
  have p : SP (e_I s (cA s c) 4 x) (A.2.2 0) := SP_agp g (rs_p r) (lo (by decide)) px
  have sc' : SC (e_I s (cA s c) 4 x) (A.2.2 0).length (sg (A.2.2 1) c 4 x) := by
    refine ⟨by rw [g.2 _ _ (lo (by decide)), sg_len]; exact (rs_c r).1, fun j hj => ?_, UQ_sg (rs_c r).2.2 c x⟩
    rw [sg_len] at hj
    obtain ⟨k, pt, h1, h2, h3, h4⟩ := (rs_c r).2.1 j hj
    have dj := d.2.1.1 j hj
    have nx : ∀ k, k ≠ 4 → sI (e_I s (cA s c) 4 x) (cA s j) k = sI s (cA s j) k := fun k hk => rII_ne (Or.inr hk)
    refine ⟨k, pt, h1, ?_, (nx 0 (by decide)).trans h3, ?_⟩
    · rw [sg_row hj]
      show _ = [nI k, sI (e_I s (cA s c) 4 x) (cA s j) 1, pt, sI (e_I s (cA s c) 4 x) (cA s j) 3, sI (e_I s (cA s c) 4 x) (cA s j) 4]
      rw [nx 1 (by decide), nx 3 (by decide)]
      by_cases e : j = c
      · subst e
        rw [if_pos rfl, h2, rII_eq]
        rfl
      · rw [if_neg e, h2, rII_ne (Or.inl (fun z => e (d.2.1.2 j c hj hc z)))]
    · rcases h4 with h4 | ⟨p, a, b, c', d'⟩
      · exact Or.inl h4
      · exact Or.inr ⟨p, a, b, c', by rw [show pA (e_I s (cA s c) 4 x) p = pA s p from rfl, g.2 _ _ (px p a 0)]; exact d'⟩
  have n : SN (e_I s (cA s c) 4 x) (A.2.2 5) := SN_ag g (rs_n r) ⟨lo (by decide), lo (by decide)⟩ (fun _ => ⟨lo (by decide), lo (by decide)⟩)
  have e : SE (e_I s (cA s c) 4 x) (A.2.2 0).length (A.2.2 2) (A.2.2 3) := SE_agp g (rs_e r) ⟨lo (by decide), lo (by decide), lo (by decide)⟩ (fun p hp => ⟨px p hp 0, px p hp 1⟩)
  have m : SM (e_I s (cA s c) 4 x) := SM_ag g (rs_m r) ⟨lo (by decide), lo (by decide), lo (by decide)⟩ (fun _ => ⟨lo (by decide), lo (by decide), lo (by decide), lo (by decide), lo (by decide)⟩)
  have a : SA (e_I s (cA s c) 4 x) (A.2.2 4) := by
    obtain ⟨st, b1', b2', b3', b4', b5'⟩ := rs_a r
    refine ⟨st, b1', (g.2 _ _ (lo (by decide))).trans b2', (g.2 _ _ (lo (by decide))).trans b3', b4', fun i hi => ?_⟩
    have h3 := b5' i hi
    have h4 := DA_at d.2.2.1 (Nat.mod_lt _ (by omega)) h3.1
    have nn := ko_mg dc.2 h4.2.1 (by decide)
    rw [ag_P g, mA_ag g, rA_ag g]
    exact ⟨h3.1, MT_ag g h3.2 (by simp [xCm]) (fun k => by simp [xCm]; intro e; exact absurd e.symm nn.2)⟩
  have dd : DS (e_I s (cA s c) 4 x) (A.2.2 0).length (sg (A.2.2 1) c 4 x).length := by rw [sg_len]; exact DS_ag g d
  exact ⟨dd, i, o, xx, l, p, sc', n, e, a, m, (have z := rs_z r; z), (have f := rs_f r; f)⟩
theorem RS_val {t : Bool} {C : Nat} {s : eS} {A : aS} (r : RS t C s A) {p : Nat} (hp : p < (A.2.2 0).length) {v : Int32} (hv : vOK (sI s (pA s p) 0) v) : RS t C (e_I s (pA s p) 4 v) (uq A 0 (sg (A.2.2 0) p 4 v)) := by
  have d := (rs_d r).1
  have dp := d.1 p hp
  refine RS_pts r (xPt_I ag_rf dp.2 (by decide)) (sg_len ..) (fun j hj => ?_) (fun j hj => ?_)
  · rw [sg_len] at hj
    rw [sg_row hj]
    have nx : ∀ k, k ≠ 4 → sI (e_I s (pA s p) 4 v) (pA s j) k = sI s (pA s j) k := fun k hk => rII_ne (Or.inr hk)
    show _ = [sI (e_I s (pA s p) 4 v) (pA s j) 0, sI (e_I s (pA s p) 4 v) (pA s j) 1, sI (e_I s (pA s p) 4 v) (pA s j) 2, sI (e_I s (pA s p) 4 v) (pA s j) 3, sI (e_I s (pA s p) 4 v) (pA s j) 4, sI (e_I s (pA s p) 4 v) (pA s j) 5, sI (e_I s (pA s p) 4 v) (pA s j) 6]
    rw [nx 0 (by decide), nx 1 (by decide), nx 2 (by decide), nx 3 (by decide), nx 5 (by decide), nx 6 (by decide)]
    by_cases e : j = p
    · subst e
      rw [if_pos rfl, ((rs_p r).2.1 j hj).1, rII_eq]
      rfl
    · rw [if_neg e, ((rs_p r).2.1 j hj).1, rII_ne (Or.inl (fun z => e (d.2 j p hj hp z)))]
      rfl
  · rw [sg_len] at hj
    by_cases e : j = p
    · subst e
      rw [rII_eq]; exact hv
    · rw [rII_ne (Or.inl (fun z => e (d.2 j p hj hp z)))]
      exact ((rs_p r).2.1 j hj).2.2.2
/-! the SELECTION -/
theorem RS_63 {t : Bool} {C : Nat} {s s' : eS} {A : aS} (r : RS t C s A) (g : ag (fun a k => a == 6) s s') (hn : sP s 6 0 = none) : RS t C s' A := by
  have l : SL s' A := by
    rcases rs_l r with z | ⟨c, d, w, k, b, tt, p1, p2, p3, p4⟩
    · exact Or.inl ⟨z.1, by rw [ag_P g]; exact hn⟩
    · rw [hn] at p3; cases p3
  exact ⟨(have q := rs_d r; DS_ag g q), (have q := rs_i r; SI_ag g q (by decide) rfl), (have q := rs_o r; SO_ag g q ⟨rfl, rfl⟩ (fun _ => rfl)), (have q := rs_x r; SXt_ag g q ⟨rfl, rfl, rfl, rfl⟩ (fun _ => rfl)), l, (have q := rs_p r; SP_ag g (rs_d r).1 q rfl (fun a k hx => by simp <;> omega)), (have q := rs_c r; SC_ag g (rs_d r).1 (rs_d r).2.1 q rfl (fun a k hx => by simp <;> omega)), (have q := rs_n r; SN_ag g q ⟨rfl, rfl⟩ (fun _ => ⟨rfl, rfl⟩)), (have q := rs_e r; SE_ag g (rs_d r).1 q ⟨rfl, rfl, rfl⟩ (fun a k hx => by simp <;> omega)), (have q := rs_a r; SA_ag g (rs_d r).2.2.1 q ⟨rfl, rfl⟩ (fun a k hx => by simp <;> omega)), (have q := rs_m r; SM_ag g q ⟨rfl, rfl, rfl⟩ (fun _ => ⟨rfl, rfl, rfl, rfl, rfl⟩)), (have q := rs_z r; q), (have q := rs_f r; q)⟩
theorem S_selEnd {C : Nat} {s : eS} (h : SH s) {A : aS} (r : RS true C s A) : ∃ s', mX9_end 6 s = some s' ∧ kY s s' ∧ RS true C s' (ul A 2 []) ∧ sI s' 14 4 = sI s 14 4 := by
  have h1 := SH_P (r := none) h (show (6, 0) ∉ pL by decide)
  have r1 := RS_selNone r
  have g : ag (fun a k => a == 6) (e_P s 6 0 none) (e_I (e_P s 6 0 none) 6 3 0) := ag_I ag_rf rfl
  unfold mX9_end
  rw [show p_P s 109 0 6 none = some (e_P s 6 0 none) from pP_s h (by decide) rfl, b1S, pI_6 h1, b1S]
  refine ⟨_, rfl, ⟨kS_I (kS_P (kS_rf h)) rfl, fun _ => rfl, fun _ => rfl⟩, RS_63 r1 g rPP_eq, rII_ne (Or.inl (by decide))⟩
theorem RS_begin {C : Nat} {s : eS} {A : aS} (r : RS true C s A) (hn : sP s 6 0 = none) {c d : Nat} (hc : c < (A.2.2 1).length) (hm : pg (A.2.2 1) c 3 ≠ 0) (hd : d < 2 ^ 24) (b : Int32) (h7 : A.1 7 ≠ 0) : RS true C (e_P (e_I (e_I (e_I s 6 1 (nI d)) 6 2 b) 6 3 (A.1 6)) 6 0 (some (cA s c))) (ul A 2 (nI c :: b :: A.1 9 :: slB (pg (A.2.2 1) c 0) d)) := by
  have g : ag (fun a k => a == 6) s (e_I (e_I (e_I s 6 1 (nI d)) 6 2 b) 6 3 (A.1 6)) := ag_I (ag_I (ag_I ag_rf rfl) rfl) rfl
  have r1 := RS_63 r g hn
  obtain ⟨k, hk1, hk2, ek⟩ := (rs_m r).2.2.2.2.1
  have e6 : A.1 6 = nI k := ((rs_i r).1 6 (by decide) (by decide)).symm.trans ek
  refine RS_sel r1 (Or.inr ⟨c, d, 0, k, b, A.1 9, ⟨hc, hm⟩, rfl, rPP_eq, ?_, ?_, hd, e6, by show A.1 9 - A.1 9 = _; rw [Int32.sub_self]; rfl, by omega, hk2, ?_⟩) rfl ⟨rfl, rfl⟩ rfl ⟨fun z => absurd z h7, (rs_z r).2⟩
  · show sI (e_I (e_I (e_I s 6 1 (nI d)) 6 2 b) 6 3 (A.1 6)) 6 2 = b
    rw [rII_ne (Or.inr (by decide)), rII_eq]
  · show sI (e_I (e_I (e_I s 6 1 (nI d)) 6 2 b) 6 3 (A.1 6)) 6 1 = nI d
    rw [rII_ne (Or.inr (by decide)), rII_ne (Or.inr (by decide)), rII_eq]
  · show sI (e_I (e_I (e_I s 6 1 (nI d)) 6 2 b) 6 3 (A.1 6)) 6 3 = nI (k - 0)
    rw [rII_eq, e6, Nat.sub_zero]
theorem sel_none {s : eS} {A : aS} (l : SL s A) (h12 : (A.2.2 1).length ≤ 12) : sP s 6 0 = none ↔ selI A = -1 := by
  rcases l with ⟨z1, z2⟩ | ⟨c, d, w, k, b, tt, p1, p2, p3, -⟩
  · unfold selI
    rw [z1, z2]
    exact ⟨fun _ => rfl, fun _ => rfl⟩
  · unfold selI
    rw [p2, p3]
    constructor
    · intro z; cases z
    · intro z
      have z' : nI c = -1 := z
      have := congrArg (· < (0 : Int32)) z'
      have h1 := p1.1
      exact absurd (this.mpr (by decide)) (nI_pos (by omega))
theorem sel_eq {t : Bool} {C : Nat} {s : eS} {A : aS} (r : RS t C s A) {c : Nat} (hc : c < (A.2.2 1).length) : sP s 6 0 = some (cA s c) ↔ selI A = nI c := by
  have h12 := (rs_d r).2.2.2.2.1
  rcases rs_l r with ⟨z1, z2⟩ | ⟨c2, d, w, k, b, tt, p1, p2, p3, -⟩
  · unfold selI
    rw [z1, z2]
    constructor
    · intro z; cases z
    · intro z
      have z' : (-1 : Int32) = nI c := z
      have := congrArg (· < (0 : Int32)) z'
      exact absurd (this.mp (by decide)) (nI_pos (by omega))
  · have h1 := p1.1
    unfold selI
    rw [p2, p3]
    constructor
    · intro z
      have := (rs_d r).2.1.2 c2 c h1 hc (Option.some.inj z)
      rw [this]; rfl
    · intro z
      have z' : nI c2 = nI c := z
      rw [(nI_eq (by omega) (by omega)).mp z']
theorem S_isOf {t : Bool} {C : Nat} {s : eS} (h : SH s) {A : aS} (r : RS t C s A) {c : Nat} (hc : c < (A.2.2 1).length) : mX9_isOf 6 (some (cA s c)) s = some (if selI A = nI c then 1 else 0, s) := by
  have h12 := (rs_d r).2.2.2.2.1
  have hx := sel_eq r hc
  have dc := ((rs_d r).2.1.1 c hc).2.1.1
  have hs := h.1.2
  have g6 : g_P s 109 0 6 = some (sP s 6 0) := gPv h (by decide) rfl
  have oR : ∀ x, (x = none ∨ ∃ c2, c2 < (A.2.2 1).length ∧ x = some (cA s c2)) → o_R x (some (cA s c)) = some () := fun x hx => by
    unfold o_R
    rcases hx with rfl | ⟨c2, h2, rfl⟩
    · exact if_pos ⟨by show 0 < 1000000000; omega, by show cA s c < 1000000000; omega⟩
    · have := ((rs_d r).2.1.1 c2 h2).2.1.1
      exact if_pos ⟨by show cA s c2 < 1000000000; omega, by show cA s c < 1000000000; omega⟩
  have hsel : sP s 6 0 = none ∨ ∃ c2, c2 < (A.2.2 1).length ∧ sP s 6 0 = some (cA s c2) := by
    rcases rs_l r with ⟨-, z2⟩ | ⟨c2, d, w, k, b, tt, p1, -, p3, -⟩
    · exact Or.inl z2
    · exact Or.inr ⟨c2, p1.1, p3⟩
  unfold mX9_isOf mX9_isOf_19 mX9_isOf_20
  rw [g6, b1S, b1S, oR _ hsel, b1S, oZ0, oZ1, b1S, b1S]
  by_cases c0 : sP s 6 0 = none
  · rw [if_pos c0, if_neg (fun z => by rw [hx.mpr z] at c0; cases c0)]
  · rw [if_neg c0]
    by_cases c1 : sP s 6 0 = some (cA s c)
    · rw [if_pos c1, if_pos (hx.mp c1)]
    · rw [if_neg c1, if_neg (fun z => c1 (hx.mpr z))]
/-- the SELECTION ends, if it is of this COMMAND -/
theorem S_unsel {C : Nat} {s : eS} (h : SH s) {A : aS} (r : RS true C s A) {c : Nat} (hs : selI A = nI c) {F : List Int32} {β : Type} (k : eS → Option β) : ∃ s', (if isT F = 0 then (b1 (g_P s 111 4 0) fun r13 => (b1 r13 fun a14 => (b1 (o_K s 109 a14) fun u17 => (b1 (mX9_end a14 s) fun s15 => k s15)))) else k s) = k s' ∧ kY s s' ∧ RS true C s' (a_unsel A F c) ∧ sI s' 14 4 = sI s 14 4 := by
  unfold a_unsel
  rw [if_pos hs]
  by_cases ct : isT F = 0
  · obtain ⟨s1, f1, k1, r1, o1⟩ := S_selEnd h r
    rw [if_pos ct, if_pos ct, gP_0_4 h, b1S, b1S, oK_6 h, b1S, f1, b1S]
    exact ⟨s1, rfl, k1, r1, o1⟩
  · rw [if_neg ct, if_neg ct]
    exact ⟨s, rfl, kY_rf h, r, rfl⟩
theorem close_ul (A : aS) (why : Int32) : a_close (ul A 2 []) why = a_close A why := by
  refine Prod.ext rfl (Prod.ext (funext fun k => ?_) rfl)
  show (if k = 2 then [] else if k = 1 then [] else if k = 2 then [] else A.2.1 k) = if k = 2 then [] else if k = 1 then [] else A.2.1 k
  by_cases c : k = 2
  · simp only [if_pos c]
  · simp only [if_neg c]
theorem wait_unsel (A : aS) (F : List Int32) {c : Nat} (hc : c < 2 ^ 31) (l : List Int32) : a_wait (a_unsel A F c) l = a_unsel (a_wait A l) F c := by
  have hcl : ∀ B : aS, a_unsel (a_close B 7) F c = a_close B 7 := fun B => by
    unfold a_unsel
    rw [if_neg (fun z => by
      have z' : (-1 : Int32) = nI c := z
      have := congrArg (· < (0 : Int32)) z'
      exact absurd (this.mp (by decide)) (nI_pos hc))]
  have h7 : (a_unsel A F c).1 = A.1 := by
    unfold a_unsel
    split
    · split <;> rfl
    · rfl
  have h4 : (a_unsel A F c).2.2 = A.2.2 := by
    unfold a_unsel
    split
    · split <;> rfl
    · rfl
  have hcc : a_close (a_unsel A F c) 7 = a_close A 7 := by
    unfold a_unsel
    split
    · split
      · exact close_ul A 7
      · rfl
    · rfl
  unfold a_wait
  rw [h7, h4]
  by_cases c7 : A.1 7 = 0
  · rw [if_pos c7, if_pos c7]
  · rw [if_neg c7, if_neg c7]
    by_cases c60 : (A.2.2 4).length = 60
    · rw [if_pos c60, if_pos c60, hcl, hcc]
    · rw [if_neg c60, if_neg c60]
      unfold a_unsel
      show _ = if selI A = nI c then _ else _
      by_cases cs : selI A = nI c
      · rw [if_pos cs, if_pos cs]
        by_cases ct : isT F = 0
        · rw [if_pos ct, if_pos ct]; rfl
        · rw [if_neg ct, if_neg ct]
      · rw [if_neg cs, if_neg cs]
