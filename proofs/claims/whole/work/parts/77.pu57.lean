/-! ===== come ===== -/
/-- the model's cells stay -/
def kM (s s' : eS) : Prop := SH s' ∧ ∀ a k, 26 ≤ a → a < 58 → sI s' a k = sI s a k
theorem kM_rf {s : eS} (h : SH s) : kM s s := ⟨h, fun _ _ _ _ => rfl⟩
theorem kM_tr {s s' s'' : eS} (h : kM s s') (h2 : kM s' s'') : kM s s'' := ⟨h2.1, fun a k h3 h4 => (h2.2 a k h3 h4).trans (h.2 a k h3 h4)⟩
theorem kM_S {s s' : eS} (k : kS s s') : kM s s' := ⟨k.1, fun a j h3 h4 => k.2 a j (by simp; omega)⟩
theorem kM_ag {X : Nat → Nat → Bool} {s s' : eS} (h : SH s) (g : ag X s s') (hX : ∀ a k, 26 ≤ a → a < 58 → X a k = false) : kM s s' := ⟨SH_ag h g, fun a k h3 h4 => g.2 a k (hX a k h3 h4)⟩
theorem byte_W {C : Nat} {A : aS} (w : WW C A) (rx : rxW (A.2.1 1)) {b : Nat} (hb : b < 256) : WW (C + 14) (a_byte A (nI b)).2 ∧ rxW ((a_byte A (nI b)).2.2.1 1) ∧ (cbF (A.2.1 1 ++ [nI b]) ≠ 0 → ¬ (A.2.1 1 ++ [nI b]).length ≤ 5 → nI (A.2.1 1 ++ [nI b]).length = 2 + (A.2.1 1 ++ [nI b]).getD 1 0 → fullF (A.2.1 1 ++ [nI b]) ((A.2.1 1 ++ [nI b]).length - 6)) := by
  have bf : byF (A.2.1 1 ++ [nI b]) := byF_app rx.1 hb
  have rxl := rx.2
  have w1 : ∀ l, WW C (ul A 1 l) := fun l => WW_ul1 w l
  unfold a_byte
  generalize A.2.1 1 = l0 at *
  have hll : (l0 ++ [nI b]).length = l0.length + 1 := by rw [List.length_append]; rfl
  have hk : cbF (l0 ++ [nI b]) ≠ 0 → 2 ≤ (l0 ++ [nI b]).length → ∃ k : Nat, 4 ≤ k ∧ k ≤ 253 ∧ (l0 ++ [nI b]).getD 1 0 = nI k ∧ (l0 ++ [nI b]).length ≤ k + 2 := by
    intro cb h2
    by_cases c : l0.length = 1
    · have gd : (l0 ++ [nI b]).getD 1 0 = nI b := by
        have := getD_last (l := l0) (b := nI b)
        rw [c] at this
        exact this
      unfold cbF at cb
      rw [if_neg (by omega), if_pos (by omega), gd] at cb
      have := rx_4 b hb cb
      exact ⟨b, this.1, this.2, gd, by omega⟩
    · obtain ⟨k, k1, k2, k3, k4⟩ := rxl (by omega)
      exact ⟨k, k1, k2, by rw [getD_app (by omega)]; exact k3, by omega⟩
  have full : cbF (l0 ++ [nI b]) ≠ 0 → ¬ (l0 ++ [nI b]).length ≤ 5 → nI (l0 ++ [nI b]).length = 2 + (l0 ++ [nI b]).getD 1 0 → fullF (l0 ++ [nI b]) ((l0 ++ [nI b]).length - 6) := by
    intro cb h5 he
    obtain ⟨k, k1, k2, k3, k4⟩ := hk cb (by omega)
    rw [k3, show (2 : Int32) = nI 2 from rfl, nI_add] at he
    have e := (nI_eq (by omega) (by omega)).mp he
    refine ⟨by omega, by omega, ?_⟩
    rw [k3]
    congr 1
    omega
  have part : cbF (l0 ++ [nI b]) ≠ 0 → ((l0 ++ [nI b]).length ≤ 5 ∨ ¬ nI (l0 ++ [nI b]).length = 2 + (l0 ++ [nI b]).getD 1 0) → rxW (l0 ++ [nI b]) := by
    intro cb h5
    refine ⟨bf, fun h2 => ?_⟩
    obtain ⟨k, k1, k2, k3, k4⟩ := hk cb h2
    refine ⟨k, k1, k2, k3, ?_⟩
    rcases h5 with h5 | h5
    · omega
    · apply Nat.lt_of_le_of_ne k4
      intro e
      apply h5
      rw [k3, e, show (2 : Int32) = nI 2 from rfl, nI_add, Nat.add_comm]
  refine ⟨?_, ?_, full⟩
  · by_cases cb : cbF (l0 ++ [nI b]) = 0
    · rw [if_pos cb]; exact WW_mono (WW_close (w1 _) 2) (by omega)
    rw [if_neg cb]
    by_cases c5 : (l0 ++ [nI b]).length ≤ 5
    · rw [if_pos c5]; exact WW_mono (w1 _) (by omega)
    rw [if_neg c5]
    by_cases ce : nI (l0 ++ [nI b]).length = 2 + (l0 ++ [nI b]).getD 1 0
    · rw [if_pos ce]
      exact WW_ul1 (WW_takes (w1 _) (full cb c5 ce)) []
    · rw [if_neg ce]; exact WW_mono (w1 _) (by omega)
  · by_cases cb : cbF (l0 ++ [nI b]) = 0
    · rw [if_pos cb]; exact rxW_nil
    rw [if_neg cb]
    by_cases c5 : (l0 ++ [nI b]).length ≤ 5
    · rw [if_pos c5]; exact part cb (Or.inl c5)
    rw [if_neg c5]
    by_cases ce : nI (l0 ++ [nI b]).length = 2 + (l0 ++ [nI b]).getD 1 0
    · rw [if_pos ce]; exact rxW_nil
    · rw [if_neg ce]; exact part cb (Or.inr ce)
theorem RS_unt {D : Nat} {s : eS} {B : aS} (r : RS true D s B) : RS false D s (ul B 1 []) := by
  obtain ⟨d, i, o, x, l, p, c, n, e, a, m, z, f⟩ := r
  have x0 : sI s 18 5 = 0 := by
    unfold SXt at x
    rw [if_pos rfl] at x
    exact x
  exact ⟨d, i, o, SXt_0 x0, l, p, c, n, e, a, m, z, f⟩
theorem byt_lb (y : Int64) (k : Nat) : byt y k = ((y >>> (((8 : Int32) * nI k).toInt64 &&& 63)).toInt32) &&& 255 := by
  unfold byt
  rw [Int64.toInt32_and]
  rfl
set_option maxRecDepth 100000 in
/-- a FRAME is taken -/
theorem S_takes {D C : Nat} (hC : C + 14 < 2 ^ 30) (hD : D < 2 ^ 30) {s : eS} (h : SH s) {A : aS} (r : RS true D s A) (o : sI s 14 4 = 0) (w : WW C A) {F : List Int32} (bf : byF F) (f : FS s F) {n : Nat} (ff : fullF F n) (h7 : A.1 7 ≠ 0) (k31 : Nat → Int64 → Int32 → Int32 → eS → Option (Int32 × eS)) (y : Int64) (cnt pi5 : Int32) :
    ∃ s', (b1 (o_K s 111 0) fun u19 => (b2 (mX11_acceptFrame 0 s) fun x11 s10 => (if x11 = 0 then (mX11_come_102 k31 0 y cnt pi5 s10) else (b1 (g_P s10 111 8 0) fun r13 => (b1 r13 fun a14 => (b1 (g_P s10 108 0 a14) fun r15 => (b1 (o_K s10 111 0) fun u18 => (b1 (mX11_takeRest 0 r15 s10) fun s16 => (mX11_come_102 k31 0 y cnt pi5 s16))))))))) = k31 0 y (cnt + (if (a_takes A F n).1 7 = 0 then 0 else 1)) (pi5 + (-1)) s' ∧ kO s s' ∧ RS true (D + 1) s' (a_takes A F n) := by
  have beh : ∀ (s1 : eS) (B : aS) (E : Nat), SH s1 → RS true E s1 B → WW (C + 1) B → ∃ s', mX11_come_102 k31 0 y cnt pi5 s1 = k31 0 y (cnt + (if (a_46 B).1 7 = 0 then 0 else 1)) (pi5 + (-1)) s' ∧ kO s1 s' ∧ RS true E s' (a_46 B) := by
    intro s1 B E h1 r1 w1
    obtain ⟨s2, f2, k2, r2⟩ := S_behind (show C + 1 + 13 < 2 ^ 30 by omega) h1 r1 w1
    have h2 := k2.1.1
    have e7 : sI s2 0 11 = (a_46 B).1 7 := (rs_i r2).1 7 (by decide) (by decide)
    refine ⟨s2, ?_, k2, r2⟩
    unfold mX11_come_102 mX11_come_120 mX11_come_123
    rw [oK_0 h1, b1S, f2, b1S, gI_0 h2, b1S, e7]
    by_cases c : (a_46 B).1 7 = 0
    · rw [if_pos c, if_pos c]
    · rw [if_neg c, if_neg c]
  obtain ⟨x, s1, B, f1, k1, r1, alt⟩ := S_accept (show C < 2 ^ 30 by omega) h r w bf f n h7
  have h1 := k1.1.1
  rw [oK_0 h, b1S, f1, b2S]
  rcases alt with ⟨rfl, e, wB⟩ | ⟨rfl, e, wB, hB⟩
  · obtain ⟨s2, f2, k2, r2⟩ := beh s1 B D h1 r1 wB
    rw [if_pos rfl, e]
    exact ⟨s2, f2, kO_tr k1 k2, RS_mono r2 (Nat.le_succ D)⟩
  · obtain ⟨s2, f2, k2, r2⟩ := S_rest hD h1 r1 (k1.2 o) hB wB (FS_O k1 f) bf ff
    obtain ⟨s3, f3, k3, r3⟩ := beh s2 (a_rest B F n) (D + 1) k2.1.1 r2 (WW_rest wB ff)
    rw [if_neg (by decide), gP_0_8 h1, b1S, b1S, gP_18_0 h1, b1S, oK_0 h1, b1S, f2, b1S, e]
    exact ⟨s3, f3, kO_tr k1 (kO_tr k2 k3), r3⟩
set_option maxRecDepth 100000 in
theorem S_come_loop (y : Int64) : ∀ (k m : Nat) (s : eS) (A : aS) (cnt : Int32) (C D : Nat), k < m → k ≤ 8 → SH s → RS false D s A → sI s 14 4 = 0 → WW C A → rxW (A.2.1 1) → C + 14 * k < 2 ^ 30 → D + k < 2 ^ 30 →
    ∃ s', mX11_come_31 m 0 y cnt (nI k + (-1)) s = some ((a_bytes A cnt (bsL y k)).1, s') ∧ kM s s' ∧ RS false (D + k) s' (a_bytes A cnt (bsL y k)).2 ∧ sI s' 14 4 = 0 := by
  intro k
  induction k with
  | zero =>
    intro m s A cnt C D hm hk h r o w rx hC hD
    obtain ⟨m, rfl⟩ : ∃ q, m = q + 1 := ⟨m - 1, by omega⟩
    refine ⟨s, ?_, kM_rf h, r, o⟩
    unfold mX11_come_31 mX11_come_129
    rw [if_pos (by decide)]
    rfl
  | succ k ih =>
    intro m s A cnt C D hm hk h r o w rx hC hD
    obtain ⟨m, rfl⟩ : ∃ q, m = q + 1 := ⟨m - 1, by omega⟩
    have e7 : sI s 0 11 = A.1 7 := (rs_i r).1 7 (by decide) (by decide)
    unfold mX11_come_31 mX11_come_129
    rw [pk_m1, if_neg (nI_pos (by omega)), gI_0 h, b1S, e7]
    show ∃ s', _ = some ((if A.1 7 = 0 then (cnt, A) else a_bytes (a_byte A (byt y k)).2 (cnt + (a_byte A (byt y k)).1) (bsL y k)).1, s') ∧ _ ∧ RS false _ s' (if A.1 7 = 0 then (cnt, A) else a_bytes (a_byte A (byt y k)).2 (cnt + (a_byte A (byt y k)).1) (bsL y k)).2 ∧ _
    by_cases c7 : A.1 7 = 0
    · rw [if_pos c7, if_pos c7]
      exact ⟨s, rfl, kM_rf h, RS_mono r (by omega), o⟩
    rw [if_neg c7, if_neg c7, ← byt_lb]
    obtain ⟨b, hb, eb⟩ := byte_of (y >>> (((8 : Int32) * nI k).toInt64 &&& 63))
    have ebt : byt y k = nI b := eb
    rw [ebt]
    obtain ⟨bw1, bw2, bw3⟩ := byte_W w rx hb
    obtain ⟨c, s1, f1, g1, alt⟩ := S_byte h r rx hb
    have h1 := SH_ag h g1
    have km1 : kM s s1 := kM_ag h g1 (fun a j h3 h4 => by simp <;> omega)
    have o1 : sI s1 14 4 = 0 := (g1.2 _ _ rfl).trans o
    rw [gP_0_8 h, b1S, b1S, oK_18 h, b1S, f1, b2S]
    -- the next byte
    have nxt : ∀ (s2 : eS) (E : Nat), E ≤ D + 1 → kM s s2 → sI s2 14 4 = 0 → RS false E s2 (a_byte A (nI b)).2 → ∃ s', mX11_come_31 m 0 y (cnt + (a_byte A (nI b)).1) (nI k + (-1)) s2 = some ((a_bytes (a_byte A (nI b)).2 (cnt + (a_byte A (nI b)).1) (bsL y k)).1, s') ∧ kM s s' ∧ RS false (D + (k + 1)) s' (a_bytes (a_byte A (nI b)).2 (cnt + (a_byte A (nI b)).1) (bsL y k)).2 ∧ sI s' 14 4 = 0 := by
      intro s2 E hE km2 o2 r2
      obtain ⟨s3, f3, k3, r3, o3⟩ := ih m s2 (a_byte A (nI b)).2 (cnt + (a_byte A (nI b)).1) (C + 14) E (by omega) (by omega) km2.1 r2 o2 bw1 bw2 (by omega) (by omega)
      exact ⟨s3, f3, kM_tr km2 k3, RS_mono r3 (by omega), o3⟩
    rcases alt with ⟨rfl, cb, r1⟩ | ⟨rfl, cb, r1, c5⟩ | ⟨rfl, cb, c5, ce, r1, fs⟩
    · obtain ⟨s2, f2, k2, r2, o2⟩ := S_shut h1 r1 2
      have e : a_byte A (nI b) = (0, a_close (ul A 1 (A.2.1 1 ++ [nI b])) 2) := by unfold a_byte; rw [if_pos cb]
      unfold mX11_come_123
      rw [if_pos rfl, oK_0 h1, b1S, f2, b1S]
      have := nxt s2 D (by omega) (kM_tr km1 (kM_S k2)) o2 (by rw [e]; exact r2)
      rw [e] at this ⊢
      rw [show cnt + 0 = cnt from Int32.add_zero _] at this ⊢
      exact this
    · have e : a_byte A (nI b) = (0, ul A 1 (A.2.1 1 ++ [nI b])) := by
        unfold a_byte
        rw [if_neg cb]
        rcases c5 with c5 | c5
        · rw [if_pos c5]
        · by_cases c5' : (A.2.1 1 ++ [nI b]).length ≤ 5
          · rw [if_pos c5']
          · rw [if_neg c5', if_neg c5]
      unfold mX11_come_123
      rw [if_neg (by decide), if_neg (by decide)]
      have := nxt s1 D (by omega) km1 o1 (by rw [e]; exact r1)
      rw [e] at this ⊢
      rw [show cnt + 0 = cnt from Int32.add_zero _] at this ⊢
      exact this
    · have ff := bw3 cb c5 ce
      have e : a_byte A (nI b) = (if (a_takes (ul A 1 (A.2.1 1 ++ [nI b])) (A.2.1 1 ++ [nI b]) ((A.2.1 1 ++ [nI b]).length - 6)).1 7 = 0 then 0 else 1, ul (a_takes (ul A 1 (A.2.1 1 ++ [nI b])) (A.2.1 1 ++ [nI b]) ((A.2.1 1 ++ [nI b]).length - 6)) 1 []) := by
        unfold a_byte
        rw [if_neg cb, if_neg c5, if_pos ce]
      rw [if_neg (by decide), if_pos rfl]
      obtain ⟨s2, f2, k2, r2⟩ := S_takes (show C + 14 < 2 ^ 30 by omega) (show D < 2 ^ 30 by omega) h1 r1 o1 (WW_ul1 w _) (byF_app rx.1 hb) fs ff c7 (mX11_come_31 m) y cnt (nI k)
      rw [f2]
      have := nxt s2 (D + 1) (by omega) (kM_tr km1 (kM_S k2.1)) (k2.2 o1) (by rw [e]; exact RS_unt r2)
      rw [e] at this ⊢
      exact this
