/-! ===== what stays well formed ===== -/
/-- how many frames went and came, C at most -/
def W5 (C : Nat) (A : aS) : Prop := ∃ a b : Nat, A.1 15 = nI a ∧ (A.2.2 5).length ≤ a ∧ a ≤ C ∧ A.1 16 = nI b ∧ b ≤ C
def WW (C : Nat) (A : aS) : Prop := W1 A ∧ W2 A ∧ W3 A ∧ W4 A ∧ W5 C A
section WWC
variable {C : Nat}
theorem W5_close {A : aS} (w : W5 C A) (why : Int32) : W5 C (a_close A why) := by
  obtain ⟨a, b, h1, h2, h3, h4, h5⟩ := w
  exact ⟨a, b, h1, Nat.zero_le _, h3, h4, h5⟩
theorem W5_wait {A : aS} (w : W5 C A) (bs : List Int32) : W5 C (a_wait A bs) := by
  unfold a_wait
  split
  · exact w
  · split
    · exact W5_close w 7
    · exact w
theorem WW_close {A : aS} (w : WW C A) (why : Int32) : WW C (a_close A why) := ⟨W1_close w.1 why, fun e he => absurd he List.not_mem_nil, w.2.2.1, w.2.2.2.1, W5_close w.2.2.2.2 why⟩
theorem W2_wait {A : aS} (w : W2 A) (bs : List Int32) : W2 (a_wait A bs) := by
  unfold a_wait
  split
  · exact w
  · split
    · exact fun e he => absurd he List.not_mem_nil
    · exact w
theorem WW_wait {A : aS} (w : WW C A) {bs : List Int32} (hbs : bs.length ≤ 249) : WW C (a_wait A bs) := by
  refine ⟨W1_wait w.1 hbs, W2_wait w.2.1 bs, ?_, ?_, W5_wait w.2.2.2.2 bs⟩
  · unfold W3
    rw [wait_q bs (Or.inr rfl), wait_q bs (Or.inl rfl)]
    exact w.2.2.1
  · unfold W4
    rw [wait_q bs (Or.inl rfl)]
    exact w.2.2.2.1
theorem WW_same {A : aS} (w : WW C A) {F : List Int32} {n : Nat} (f : fullF F n) (cause den : Int32) : WW C (a_same A F cause den) := WW_wait w (by rw [List.length_set, rb_len f]; exact f.2.1)
theorem WW_ul2 {A : aS} (w : WW C A) (l : List Int32) : WW C (ul A 2 l) := w
theorem WW_ui {A : aS} (w : WW C A) {k : Nat} (hk : k ≠ 1 ∧ k ≠ 15 ∧ k ≠ 16) (x : Int32) : WW C (ui A k x) := by
  obtain ⟨⟨h1, h2, h3, ⟨K, k1, k2, k3⟩, h5, h6, h7⟩, w2, w3, w4, ⟨a, b, q1, q2, q3, q4, q5⟩⟩ := w
  refine ⟨⟨h1, h2, h3, ⟨K, k1, k2, ?_⟩, h5, h6, h7⟩, w2, w3, w4, ⟨a, b, ?_, q2, q3, ?_, q5⟩⟩
  · show (if 1 = k then x else A.1 1) = nI K
    rw [if_neg (Ne.symm hk.1)]
    exact k3
  · show (if 15 = k then x else A.1 15) = nI a
    rw [if_neg (Ne.symm hk.2.1)]
    exact q1
  · show (if 16 = k then x else A.1 16) = nI b
    rw [if_neg (Ne.symm hk.2.2)]
    exact q4
theorem WW_ite {p : Prop} [Decidable p] {A B : aS} (a : WW C A) (b : WW C B) : WW C (if p then A else B) := by
  split
  · exact a
  · exact b
theorem gD {α : Type} (l : List α) (i : Nat) (d : α) : l.getD i d = l[i]?.getD d := List.getD_eq_getElem?_getD ..
theorem pg_sg (q : List (List Int32)) (p k : Nat) (x : Int32) {j : Nat} (hj : j ≠ k) (i : Nat) : pg (sg q p k x) i j = pg q i j := by
  unfold pg sg
  rw [gD (q.set p _) i [], gD q i []]
  by_cases hip : p = i
  · subst hip
    by_cases hl : p < q.length
    · rw [List.getElem?_set_self hl, List.getElem?_eq_getElem hl]
      show ((q.getD p []).set k x).getD j 0 = (q[p]).getD j 0
      rw [gD ((q.getD p []).set k x) j 0, List.getElem?_set_ne (Ne.symm hj), ← gD (q.getD p []) j 0]
      rw [show q.getD p [] = q[p] from by rw [gD, List.getElem?_eq_getElem hl]; rfl]
    · rw [List.set_eq_of_length_le (by omega)]
  · rw [List.getElem?_set_ne hip]
theorem WW_sg0 {A : aS} (w : WW C A) (p : Nat) (v : Int32) : WW C (uq A 0 (sg (A.2.2 0) p 4 v)) := by
  obtain ⟨w1, w2, w3, w4, w5⟩ := w
  refine ⟨W1_pts w1 (sg_len _ _ _ _), w2, ?_, ?_, w5⟩
  · intro e he
    rcases w3 e he with z | ⟨k, hk, z⟩
    · exact Or.inl z
    · exact Or.inr ⟨k, by show k < (sg (A.2.2 0) p 4 v).length; rw [sg_len]; exact hk, z⟩
  · intro i j hi hj
    show pg (sg (A.2.2 0) p 4 v) i 1 = pg (sg (A.2.2 0) p 4 v) j 1 → i = j
    rw [pg_sg _ _ _ _ (by decide), pg_sg _ _ _ _ (by decide)]
    have hi' : i < (sg (A.2.2 0) p 4 v).length := hi
    have hj' : j < (sg (A.2.2 0) p 4 v).length := hj
    rw [sg_len] at hi' hj'
    exact w4 i j hi' hj'
theorem WW_sg1 {A : aS} (w : WW C A) (c : Nat) (v : Int32) : WW C (uq A 1 (sg (A.2.2 1) c 4 v)) := by
  obtain ⟨w1, w2, w3, w4, w5⟩ := w
  refine ⟨W1_cmd w1 _, w2, ?_, w4, w5⟩
  intro e he
  have he' : e ∈ (A.2.2 1).set c (((A.2.2 1).getD c []).set 4 v) := he
  show e.getD 2 0 = -1 ∨ ∃ p, p < (A.2.2 0).length ∧ e.getD 2 0 = nI p
  by_cases hc : c < (A.2.2 1).length
  · rcases List.mem_or_eq_of_mem_set he' with z | z
    · exact w3 e z
    · rw [z, List.getD_eq_getElem?_getD (i := 2), List.getElem?_set_ne (by decide), ← List.getD_eq_getElem?_getD]
      exact w3 _ (by
        rw [List.getD_eq_getElem?_getD, List.getElem?_eq_getElem hc]
        exact List.getElem_mem hc)
  · rw [List.set_eq_of_length_le (by omega)] at he'
    exact w3 e he'
theorem WW_obj {A : aS} (w : WW C A) (p : Nat) (cause by_ : Int32) : WW C (a_obj A p cause by_) := WW_wait w (by
  have hol := ob_len (pg (A.2.2 0) p 0) (pg (A.2.2 0) p 1) (pg (A.2.2 0) p 4) (pg (A.2.2 0) p 5) (A.1 14)
  rw [List.length_append, hb_len]; omega)
section WWF
variable {F : List Int32} {n : Nat}
theorem WW_end {A : aS} (w : WW C A) (f : fullF F n) : WW C (a_end A F) := WW_ite w (WW_same w f 10 0)
theorem WW_carry {A : aS} (w : WW C A) (f : fullF F n) (c : Nat) (so q : Int32) : WW C (a_carry A F c so q) :=
  WW_ite (WW_ite (WW_end w f) (WW_ite (WW_end (WW_sg1 w c _) f) (WW_end (WW_obj (WW_sg0 (WW_sg1 w c _) _ _) _ _ _) f))) (WW_end w f)
theorem WW_unsel {A : aS} (w : WW C A) (c : Nat) : WW C (a_unsel A F c) := WW_ite (WW_ite (WW_ul2 w []) w) w
theorem WW_canc {A : aS} (w : WW C A) (f : fullF F n) (c : Nat) : WW C (a_canc A F c) := WW_unsel (WW_same w f _ _) c
theorem WW_exec {A : aS} (w : WW C A) (f : fullF F n) (c : Nat) (so q v : Int32) : WW C (a_exec A F c so q v) :=
  WW_ite (WW_same (WW_unsel w c) f _ _) (WW_carry (WW_same (WW_unsel w c) f _ _) f c so q)
theorem WW_pick {A : aS} (w : WW C A) (f : fullF F n) (c : Nat) (so v : Int32) : WW C (a_pick A F c so v) :=
  WW_ite (WW_same w f _ _) (WW_ite (WW_ite (WW_same w f _ _) (WW_ul2 (WW_same w f _ _) _)) (WW_same w f _ _))
theorem WW_cmd {A : aS} (w : WW C A) (f : fullF F n) (ty cause x : Int32) : WW C (a_cmd A F ty cause x) :=
  WW_ite (WW_same w f _ _) (WW_ite (WW_canc w f _) (WW_ite (WW_ite (WW_exec w f _ _ _ _) (WW_pick w f _ _ _)) (WW_same w f _ _)))
theorem WW_read {A : aS} (w : WW C A) (f : fullF F n) (x : Int32) : WW C (a_read A F x) :=
  WW_ite (WW_same w f _ _) (WW_ite (WW_obj w _ _ _) w)
theorem WW_objs (ctr cause : Int32) : ∀ (e : Nat) (A : aS) (l : List Nat), WW C A → WW C (a_objs ctr cause e A l)
  | 0, _, _, w => w
  | e + 1, A, l, w => by
    unfold a_objs
    split
    · exact w
    · rename_i hl
      split
      · exact w
      · obtain ⟨k1, k6, kl⟩ := ckF_in (A.2.2 0) (l := l) (by omega)
        refine WW_objs ctr cause e _ _ (WW_wait w ?_)
        unfold bsO
        have h1 := obs_len A ctr (l.take (ckF (A.2.2 0) l))
        have h2 : (l.take (ckF (A.2.2 0) l)).length ≤ ckF (A.2.2 0) l := by rw [List.length_take]; omega
        rw [List.length_append, hb_len]
        omega
theorem fz_1 (k : Int32) (e : List Int32) : (fz k e).getD 1 0 = e.getD 1 0 := by
  unfold fz
  split
  · rfl
  · rfl
theorem pg_fz (q : List (List Int32)) (k : Int32) (i : Nat) : pg (q.map (fz k)) i 1 = pg q i 1 := by
  unfold pg
  rw [gD (q.map (fz k)) i [], List.getElem?_map, gD q i []]
  cases q[i]? with
  | none => rfl
  | some e => exact fz_1 k e
theorem WW_freeze {A : aS} (w : WW C A) (k : Int32) : WW C (a_freeze A k) := by
  obtain ⟨w1, w2, w3, w4, w5⟩ := w
  refine ⟨W1_freeze w1 k, w2, ?_, ?_, w5⟩
  · intro e he
    rcases w3 e he with z | ⟨p, hp, z⟩
    · exact Or.inl z
    · exact Or.inr ⟨p, by show p < ((A.2.2 0).map (fz k)).length; rw [List.length_map]; exact hp, z⟩
  · intro i j hi hj
    show pg ((A.2.2 0).map (fz k)) i 1 = pg ((A.2.2 0).map (fz k)) j 1 → i = j
    rw [pg_fz, pg_fz]
    have hi' : i < ((A.2.2 0).map (fz k)).length := hi
    have hj' : j < ((A.2.2 0).map (fz k)).length := hj
    rw [List.length_map] at hi' hj'
    exact w4 i j hi' hj'
theorem WW_clk {A : aS} (w : WW C A) : WW C (a_clk A F) := WW_ui (WW_ui (WW_ui (WW_ui (WW_ui (WW_ui (WW_ui w (by decide) _) (by decide) _) (by decide) _) (by decide) _) (by decide) _) (by decide) _) (by decide) _
theorem WW_ask {A : aS} (w : WW C A) (f : fullF F n) (ty cause : Int32) : WW C (a_ask A F ty cause) :=
  WW_ite (WW_ite (WW_same w f _ _) (WW_ite (WW_same w f _ _) (WW_end (WW_ite (WW_ite (WW_same w f _ _) (WW_objs _ _ _ _ _ (WW_same w f _ _))) (WW_same w f _ _)) f)))
    (WW_ite (WW_ite (WW_same w f _ _) (WW_end (WW_ite (WW_ite (WW_same w f _ _) (WW_ite (WW_objs _ _ _ _ _ (WW_same w f _ _)) (WW_freeze (WW_same w f _ _) _))) (WW_same w f _ _)) f))
      (WW_ite (WW_ite (WW_same w f _ _) (WW_ite (WW_ite (WW_same w f _ _) (WW_clk (WW_same w f _ _))) (WW_same w f _ _)))
        (WW_ite (WW_ite (WW_same w f _ _) (WW_same w f _ _)) (WW_same w f _ _))))
theorem WW_more {A : aS} (w : WW C A) : WW C (a_more A) := WW_ui w (by decide) _
theorem WW_doit {A : aS} (w : WW C A) (f : fullF F n) (ty cause x : Int32) : WW C (a_doit A F n ty cause x) :=
  WW_ite (WW_ite (WW_ite (WW_ite (WW_read w f x) (WW_ite (WW_ask w f ty cause) (WW_same w f _ _))) (WW_cmd w f ty cause x)) (WW_more w)) (WW_more w)
theorem WW_known {A : aS} (w : WW C A) (f : fullF F n) (ty cause st x v : Int32) : WW C (a_known A F n ty cause st x v) :=
  WW_ite (WW_same w f _ _) (WW_ite (WW_doit w f _ _ _) (WW_ite (WW_ite (WW_doit w f _ _ _) (WW_same w f _ _)) (WW_same w f _ _)))
theorem WW_rest {A : aS} (w : WW C A) (f : fullF F n) : WW C (a_rest A F n) :=
  WW_ite (WW_ite (WW_ite (WW_same w f _ _) (WW_known w f _ _ _ _ _)) (WW_known w f _ _ _ _ _)) (WW_more w)
end WWF
end WWC
