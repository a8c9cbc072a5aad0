/-! ===== the model commands ===== -/
theorem e_I_self (s : eS) (a k : Nat) : e_I s a k (sI s a k) = s := by
  have : e_u (sI s) a k (sI s a k) = sI s := by
    funext b j
    unfold e_u
    by_cases hb : b = a
    · rw [if_pos hb]
      by_cases hj : j = k
      · rw [if_pos hj, hb, hj]
      · rw [if_neg hj]
    · rw [if_neg hb]
  unfold e_I
  rw [this]
  rfl
def kbF (F : List Int32) (L i : Nat) : Int32 := if i = L then (rb F).getD i 0 &&& 127 else (rb F).getD i 0
theorem M_keep_step {s : eS} (h : SH s) {F : List Int32} (fr : FR s F) {n : Nat} (f : fullF F n) {L i : Nat} (hi : 9 ≤ i) (hiL : i ≤ L) (hL : L ≤ 11) (hn : L < n) (m : Nat) : mX12_keepBytes_3 (m + 1) 26 (nI L) (nI i) s = mX12_keepBytes_3 m 26 (nI L) (nI (i + 1)) (e_I s 40 (i - 9) (kbF F L i)) := by
  have e9 : nI i - 9 = nI (i - 9) := pk_sub (b := 9) hi
  have hq : ¬ nI (i - 9) < 0 ∧ (nI (i - 9)).toNatClampNeg < 3 := nIc (by omega) (by omega)
  conv => lhs; unfold mX12_keepBytes_3
  unfold mX12_keepBytes_37 kbF
  rw [if_neg (nI_nlt hiL (by omega)), gP_26_18 h, b1S]
  by_cases c : i = L
  · rw [if_pos (congrArg nI c), if_pos c, oK_26 h, b1S, M_at h fr f (by omega), b2S, b1S, e9, sI_40 h hq, b1S, nI_clamp (by omega), nI_1]
  · rw [if_neg (fun z => c ((nI_eq (by omega) (by omega)).mp z)), if_neg c, oK_26 h, b1S, M_at h fr f (by omega), b2S, b1S, e9, sI_40 h hq, b1S, nI_clamp (by omega), nI_1]
theorem M_keep_end {s : eS} {L : Nat} (hL : L ≤ 11) (m : Nat) : mX12_keepBytes_3 (m + 1) 26 (nI L) (nI (L + 1)) s = some s := by
  unfold mX12_keepBytes_3
  rw [if_pos (nI_lt (Nat.lt_succ_self L) (by omega))]
theorem M_keep1 {s : eS} (h : SH s) {F : List Int32} (fr : FR s F) {n : Nat} (f : fullF F n) (hn : 9 < n) (m : Nat) : mX12_keepBytes_3 (m + 2) 26 (nI 9) (nI 9) s = some (e_I s 40 0 ((rb F).getD 9 0 &&& 127)) := by
  rw [show m + 2 = m + 1 + 1 from rfl, M_keep_step h fr f (by omega) (by omega) (by omega) hn, M_keep_end (by omega)]
  rfl
theorem M_keep3 {s : eS} (h : SH s) {F : List Int32} (fr : FR s F) {n : Nat} (f : fullF F n) (hn : 11 < n) (m : Nat) : mX12_keepBytes_3 (m + 4) 26 (nI 11) (nI 9) s = some (e_I (e_I (e_I s 40 0 ((rb F).getD 9 0)) 40 1 ((rb F).getD 10 0)) 40 2 ((rb F).getD 11 0 &&& 127)) := by
  have g : ∀ (s : eS) (k : Nat) (x : Int32), ag xM s (e_I s 40 k x) := fun s k x => xM_I ag_rf (by decide)
  rw [show m + 4 = m + 1 + 1 + 1 + 1 from rfl, M_keep_step h fr f (by omega) (by omega) (by omega) hn, M_keep_step (SH_I h) (FR_M (g _ _ _) fr) f (by omega) (by omega) (by omega) hn, M_keep_step (SH_I (SH_I h)) (FR_M (g _ _ _) (FR_M (g _ _ _) fr)) f (by omega) (by omega) (by omega) hn, M_keep_end (by omega)]
  rfl
def obF (F : List Int32) (so : Int32) : List Int32 := if so = 2 then [(rb F).getD 9 0, (rb F).getD 10 0, (rb F).getD 11 0 &&& 127] else [(rb F).getD 9 0 &&& 127]
/-- the bytes are kept -/
theorem M_keep {s : eS} (h : SH s) {F : List Int32} (fr : FR s F) {n : Nat} (f : fullF F n) {so : Int32} (hn : if so = 2 then 12 ≤ n else 10 ≤ n) : ∃ s', mX12_keepBytes 26 (if so = 2 then 11 else 9) s = some s' ∧ SH s' ∧ ag (fun a _ => a == 40) s s' ∧ rd (sI s' 40) (if so = 2 then 3 else 1) = obF F so := by
  unfold mX12_keepBytes obF
  by_cases c : so = 2
  · rw [if_pos c] at hn
    rw [if_pos c, if_pos c, if_pos c]
    refine ⟨_, M_keep3 h fr f (by omega) 99996, SH_I (SH_I (SH_I h)), ag_I (ag_I (ag_I ag_rf rfl) rfl) rfl, ?_⟩
    show [_, _, _] = [_, _, _]
    rw [rII_ne (Or.inr (by decide)), rII_ne (Or.inr (by decide)), rII_eq, rII_ne (Or.inr (by decide)), rII_eq, rII_eq]
  · rw [if_neg c] at hn
    rw [if_neg c, if_neg c, if_neg c]
    refine ⟨_, M_keep1 h fr f (by omega) 99998, SH_I h, ag_I ag_rf rfl, ?_⟩
    show [_] = [_]
    rw [rII_eq]
theorem M_are_step {s : eS} (h : SH s) {F : List Int32} (fr : FR s F) {n : Nat} (f : fullF F n) {L i : Nat} (hi : 9 ≤ i) (hiL : i ≤ L) (hL : L ≤ 11) (hn : L < n) (m : Nat) (x : Int32) : mX12_areBytes_5 (m + 1) 26 (nI L) x (nI i) s = mX12_areBytes_5 m 26 (nI L) (if x = 0 then 0 else if sI s 40 (i - 9) = kbF F L i then 1 else 0) (nI (i + 1)) s := by
  have e9 : nI i - 9 = nI (i - 9) := pk_sub (b := 9) hi
  have hq : ¬ nI (i - 9) < 0 ∧ (nI (i - 9)).toNatClampNeg < 3 := nIc (by omega) (by omega)
  conv => lhs; unfold mX12_areBytes_5
  rw [if_neg (nI_nlt hiL (by omega))]
  by_cases c : x = 0
  · rw [if_pos c, if_pos c]
    unfold mX12_areBytes_51 mX12_areBytes_52
    rw [nI_1]
  · rw [if_neg c, if_neg c, gP_26_18 h, b1S, b1S, e9, aI_40 h hq, b1S, nI_clamp (by omega)]
    unfold kbF
    by_cases d : i = L
    · rw [if_pos (congrArg nI d), if_pos d, oK_26 h, b1S, M_at h fr f (by omega), b2S]
      unfold mX12_areBytes_44 mX12_areBytes_51 mX12_areBytes_52
      by_cases e : sI s 40 (i - 9) = (rb F).getD i 0 &&& 127
      · rw [if_pos e, if_pos e, nI_1]
      · rw [if_neg e, if_neg e, nI_1]
    · rw [if_neg (fun z => d ((nI_eq (by omega) (by omega)).mp z)), if_neg d, oK_26 h, b1S, M_at h fr f (by omega), b2S]
      unfold mX12_areBytes_44 mX12_areBytes_51 mX12_areBytes_52
      by_cases e : sI s 40 (i - 9) = (rb F).getD i 0
      · rw [if_pos e, if_pos e, nI_1]
      · rw [if_neg e, if_neg e, nI_1]
theorem M_are_end {s : eS} {L : Nat} (hL : L ≤ 11) (m : Nat) {x : Int32} (hx : o_Z x = some ()) : mX12_areBytes_5 (m + 1) 26 (nI L) x (nI (L + 1)) s = some (x, s) := by
  unfold mX12_areBytes_5
  rw [if_pos (nI_lt (Nat.lt_succ_self L) (by omega)), hx, b1S]
theorem eq3 (x0 x1 x2 y0 y1 y2 : Int32) : (if (if (if (1 : Int32) = 0 then (0 : Int32) else if x0 = y0 then 1 else 0) = 0 then (0 : Int32) else if x1 = y1 then 1 else 0) = 0 then (0 : Int32) else if x2 = y2 then 1 else 0) = if [x0, x1, x2] = [y0, y1, y2] then 1 else 0 := by
  by_cases c1 : x0 = y0 <;> by_cases c2 : x1 = y1 <;> by_cases c3 : x2 = y2 <;> simp [c1, c2, c3]
theorem oZif {p : Prop} [Decidable p] {x : Int32} (h : o_Z x = some ()) : o_Z (if p then 0 else x) = some () := by
  split
  · exact oZ0
  · exact h
theorem oZi1 {p : Prop} [Decidable p] : o_Z (if p then 1 else 0) = some () := by
  split
  · exact oZ1
  · exact oZ0
/-- the bytes are those that were kept -/
theorem M_are {s : eS} (h : SH s) {F : List Int32} (fr : FR s F) {n : Nat} (f : fullF F n) {so : Int32} (hn : if so = 2 then 12 ≤ n else 10 ≤ n) : mX12_areBytes 26 (if so = 2 then 11 else 9) s = some (if rd (sI s 40) (if so = 2 then 3 else 1) = obF F so then 1 else 0, s) := by
  unfold mX12_areBytes obF
  by_cases c : so = 2
  · rw [if_pos c] at hn
    rw [if_pos c, if_pos c, if_pos c]
    have e : ∀ m, mX12_areBytes_5 (m + 4) 26 (nI 11) 1 (nI 9) s = some (if rd (sI s 40) 3 = [(rb F).getD 9 0, (rb F).getD 10 0, (rb F).getD 11 0 &&& 127] then 1 else 0, s) := fun m => by
      rw [show m + 4 = m + 1 + 1 + 1 + 1 from rfl, M_are_step h fr f (by omega) (by omega) (by omega) (by omega), M_are_step h fr f (by omega) (by omega) (by omega) (by omega), M_are_step h fr f (by omega) (by omega) (by omega) (by omega), M_are_end (by omega)]
      · show some (_, s) = some (if [sI s 40 0, sI s 40 1, sI s 40 2] = _ then 1 else 0, s)
        rw [show kbF F 11 9 = (rb F).getD 9 0 from rfl, show kbF F 11 (9 + 1) = (rb F).getD 10 0 from rfl, show kbF F 11 (9 + 1 + 1) = (rb F).getD 11 0 &&& 127 from rfl]
        congr 2
        exact eq3 _ _ _ _ _ _
      · exact oZif oZi1
    exact e 99996
  · rw [if_neg c] at hn
    rw [if_neg c, if_neg c, if_neg c]
    have e : ∀ m, mX12_areBytes_5 (m + 2) 26 (nI 9) 1 (nI 9) s = some (if rd (sI s 40) 1 = [(rb F).getD 9 0 &&& 127] then 1 else 0, s) := fun m => by
      rw [show m + 2 = m + 1 + 1 from rfl, M_are_step h fr f (by omega) (by omega) (by omega) (by omega), M_are_end (by omega)]
      · show some (_, s) = some (if [sI s 40 0] = _ then 1 else 0, s)
        rw [show kbF F 9 9 = (rb F).getD 9 0 &&& 127 from rfl]
        congr 2
        by_cases c1 : sI s 40 0 = (rb F).getD 9 0 &&& 127 <;> simp [c1]
      · exact oZif oZi1
    exact e 99998
abbrev xSL : Nat → Nat → Bool := fun a k => a == 40 || (a == 26 && (k == 15 || k == 16 || k == 17))
theorem RM_sel {s s' : eS} {A : aS} {l : List Int32} (g : ag xSL s s') (r : RM s A) (ml : ML s' l) : RM s' (ul A 2 l) := by
  obtain ⟨a1, a2, a3, a4, a5, a6, a7, a8, a9⟩ := r
  exact ⟨MI_A (MI_ag g a1 (by decide)) rfl, OU_ag g a2 rfl (fun k => rfl), MX_ag g a3 rfl (fun k => rfl), ml, MP_ag g a5 rfl (fun k => ⟨rfl, rfl, rfl, rfl, rfl, rfl, rfl⟩), MC_ag g a6 rfl (fun k => ⟨rfl, rfl, rfl, rfl, rfl⟩), MS_ag g a7 rfl (fun k => ⟨rfl, rfl, rfl, rfl⟩) (fun k => ⟨rfl, rfl⟩), ME_ag g a8 rfl (fun k => ⟨rfl, rfl, rfl, rfl⟩), MA_ag g a9 rfl (fun k => ⟨rfl, rfl⟩)⟩
def selI (A : aS) : Int32 := (A.2.1 2).getD 0 (-1)
theorem ML_sel {s : eS} {l : List Int32} (m : ML s l) : sI s 26 15 = l.getD 0 (-1) := by
  rcases m with ⟨a, b⟩ | ⟨c, hc, a, b⟩
  · rw [a, b]; rfl
  · rw [a, b]; rfl
theorem RM_selI {s : eS} {A : aS} (r : RM s A) : sI s 26 15 = selI A := ML_sel r.2.2.2.1
theorem wait_q {A : aS} (bs : List Int32) {k : Nat} (hk : k = 0 ∨ k = 1) : (a_wait A bs).2.2 k = A.2.2 k := by
  unfold a_wait a_close
  split
  · rfl
  · split
    · rcases hk with rfl | rfl <;> rfl
    · rcases hk with rfl | rfl <;> rfl
theorem same_q {A : aS} (F : List Int32) (cause den : Int32) {k : Nat} (hk : k = 0 ∨ k = 1) : (a_same A F cause den).2.2 k = A.2.2 k := wait_q _ hk
theorem W1_same {A : aS} (w : W1 A) {F : List Int32} {n : Nat} (f : fullF F n) (cause den : Int32) : W1 (a_same A F cause den) := W1_wait w (by rw [List.length_set, rb_len f]; exact f.2.1)
theorem W3_same {A : aS} (w : W3 A) (F : List Int32) (cause den : Int32) : W3 (a_same A F cause den) := by
  unfold W3
  rw [same_q F cause den (Or.inr rfl), same_q F cause den (Or.inl rfl)]
  exact w
theorem W1_ul2 {A : aS} (w : W1 A) (l : List Int32) : W1 (ul A 2 l) := w
theorem W3_ul {A : aS} (w : W3 A) (k : Nat) (l : List Int32) : W3 (ul A k l) := w
def a_unsel (A : aS) (F : List Int32) (c : Nat) : aS := if selI A = nI c then (if isT F = 0 then ul A 2 [] else A) else A
/-- cancelled -/
def a_canc (A : aS) (F : List Int32) (c : Nat) : aS := a_unsel (a_same A F 9 (if selI A = nI c then 0 else 1)) F c
theorem M_cancel {s : eS} (h : SH s) {A : aS} (r : RM s A) (w : W1 A) {F : List Int32} (fr : FR s F) {n : Nat} (f : fullF F n) (hn : 3 ≤ n) (c : Nat) (den : Int32) : ∃ s', mX12_commanded_104 26 (nI c) den 9 (some 26) s = some s' ∧ SH s' ∧ ag xM s s' ∧ RM s' (a_unsel (a_same A F 9 den) F c) := by
  obtain ⟨s1, e1, h1, g1, r1⟩ := M_same h r w fr f hn 9 den
  have fr1 := FR_M g1 fr
  unfold mX12_commanded_104 mX12_commanded_128 mX12_commanded_132 a_unsel
  rw [b1S, oK_26 h, b1S, e1, b1S, gI_26 h1, b1S, RM_selI r1]
  by_cases c1 : selI (a_same A F 9 den) = nI c
  · rw [if_pos c1, if_pos c1, oK_26 h1, b1S, M_isTest h1 fr1 f hn, b2S]
    by_cases c2 : isT F = 0
    · rw [if_pos c2, if_pos c2, b1S, pI_26 h1, b1S]
      exact ⟨_, rfl, SH_I h1, xM_I g1 (by decide), RM_sel (ag_I ag_rf rfl) r1 (Or.inl ⟨rII_eq, rfl⟩)⟩
    · rw [if_neg c2, if_neg c2, gI_26 h1, b1S, b1S, pI_26 h1, b1S, e_I_self]
      exact ⟨_, rfl, h1, g1, r1⟩
  · rw [if_neg c1, if_neg c1, b1S, b1S, pI_26 h1, b1S, ← RM_selI r1, e_I_self]
    exact ⟨_, rfl, h1, g1, r1⟩
/-- carried out, or not -/
def a_exec (A : aS) (F : List Int32) (c : Nat) (so q v : Int32) : aS := if v = 0 then a_same (a_unsel A F c) F 7 1 else a_carry (a_same (a_unsel A F c) F 7 0) F c so q
theorem M_388 {s : eS} (h : SH s) {A : aS} (r : RM s A) (w : W1 A) (w3 : W3 A) {F : List Int32} (fr : FR s F) {n : Nat} (f : fullF F n) {c : Nat} (hc : c < (A.2.2 1).length) (so q v : Int32) (hn : if so = 0 ∨ so = 1 then 10 ≤ n else 12 ≤ n) : ∃ s', mX12_commanded_388 26 (nI c) so q v (if v = 0 then 1 else 0) 7 (some 26) s = some s' ∧ SH s' ∧ ag xM s s' ∧ RM s' (if v = 0 then a_same A F 7 1 else a_carry (a_same A F 7 0) F c so q) := by
  have hn3 : 3 ≤ n := by split at hn <;> omega
  unfold mX12_commanded_388 mX12_commanded_406
  by_cases cv : v = 0
  · rw [if_pos cv, if_pos cv]
    obtain ⟨s1, e1, h1, g1, r1⟩ := M_same h r w fr f hn3 7 1
    refine ⟨s1, ?_, h1, g1, r1⟩
    rw [b1S, oK_26 h, b1S, e1, b1S, if_pos cv]
  · rw [if_neg cv, if_neg cv]
    obtain ⟨s1, e1, h1, g1, r1⟩ := M_same h r w fr f hn3 7 0
    have fr1 := FR_M g1 fr
    obtain ⟨s2, e2, h2, g2, r2⟩ := M_carriesOut h1 r1 (W1_same w f 7 0) (W3_same w3 F 7 0) fr1 f (c := c) (by rw [same_q F 7 0 (Or.inr rfl)]; exact hc) so q hn
    refine ⟨s2, ?_, h2, ag_tr g1 g2, r2⟩
    rw [b1S, oK_26 h, b1S, e1, b1S, if_neg cv, oK_26 h1, b1S, e2, b1S]
theorem M_372 {s : eS} (h : SH s) (c so q v x : Int32) : mX12_commanded_372 26 c so q v x (some 26) s = mX12_commanded_388 26 c so q v (if v = 0 then 1 else 0) 7 (some 26) (e_I s 26 15 x) := by
  unfold mX12_commanded_372
  rw [b1S, pI_26 h, b1S]
  by_cases cv : v = 0
  · rw [if_pos cv, if_pos cv]
  · rw [if_neg cv, if_neg cv]
theorem M_exec {s : eS} (h : SH s) {A : aS} (r : RM s A) (w : W1 A) (w3 : W3 A) {F : List Int32} (fr : FR s F) {n : Nat} (f : fullF F n) {c : Nat} (hc : c < (A.2.2 1).length) (so q v : Int32) (hn : if so = 0 ∨ so = 1 then 10 ≤ n else 12 ≤ n) : ∃ s', mX12_commanded_345 26 (nI c) so q v s = some s' ∧ SH s' ∧ ag xM s s' ∧ RM s' (a_exec A F c so q v) := by
  have hn3 : 3 ≤ n := by split at hn <;> omega
  unfold mX12_commanded_345 mX12_commanded_368 a_exec a_unsel
  rw [gI_26 h, b1S, RM_selI r]
  by_cases c1 : selI A = nI c
  · rw [if_pos c1, if_pos c1, oK_26 h, b1S, M_isTest h fr f hn3, b2S]
    by_cases c2 : isT F = 0
    · rw [if_pos c2, if_pos c2, M_372 h]
      have g1 : ag xM s (e_I s 26 15 (-1)) := xM_I ag_rf (by decide)
      have r1 : RM (e_I s 26 15 (-1)) (ul A 2 []) := RM_sel (ag_I ag_rf rfl) r (Or.inl ⟨rII_eq, rfl⟩)
      obtain ⟨s2, e2, h2, g2, r2⟩ := M_388 (SH_I h) r1 (W1_ul2 w []) (W3_ul w3 2 []) (FR_M g1 fr) f hc so q v hn
      exact ⟨s2, e2, h2, ag_tr g1 g2, r2⟩
    · rw [if_neg c2, if_neg c2, gI_26 h, b1S, M_372 h, e_I_self]
      exact M_388 h r w w3 fr f hc so q v hn
  · rw [if_neg c1, if_neg c1, b1S, M_372 h, ← RM_selI r, e_I_self]
    exact M_388 h r w w3 fr f hc so q v hn
