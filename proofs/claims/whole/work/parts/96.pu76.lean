/-! ===== the beginning ===== -/
def ini : Option (Nat × Nat × eS) := b2 (n_O e_0 111 19) fun q1 s2 => b1 (mX11_init q1 s2) fun s3 => b2 (n_O s3 112 55) fun q5 s6 => b1 (mX12_init q5 s6) fun s7 => some (q1, q5, s7)
theorem ini_law {L : Nat} {xs : Nat → Int32} {a b : Nat} {s : eS} (h : ini = some (a, b, s)) : mL_law L xs e_0 = mL_law_18 L xs 100000 (some a) (some b) 0 s := by
  unfold ini at h
  unfold mL_law
  cases h1 : n_O e_0 111 19 with
  | none => rw [h1] at h; cases h
  | some q =>
    rw [h1, b2S] at h
    rw [b2S]
    cases h2 : mX11_init q.1 q.2 with
    | none => rw [h2] at h; cases h
    | some s3 =>
      rw [h2, b1S] at h
      rw [b1S]
      cases h3 : n_O s3 112 55 with
      | none => rw [h3] at h; cases h
      | some q5 =>
        rw [h3, b2S] at h
        rw [b2S]
        cases h4 : mX12_init q5.1 q5.2 with
        | none => rw [h4] at h; cases h
        | some s7 =>
          rw [h4, b1S] at h
          rw [b1S]
          cases h
          rfl
def iniS : eS := match ini with
  | none => e_0
  | some x => x.2.2
theorem ini_at : ini.map (fun x => (x.1, x.2.1)) = some (0, 26) := by decide +kernel
theorem ini_eq : ini = some (0, 26, iniS) := by
  have h := ini_at
  unfold iniS
  cases e : ini with
  | none => rw [e] at h; cases h
  | some x =>
    rw [e] at h
    obtain ⟨a, b, s⟩ := x
    have h' : some (a, b) = some (0, 26) := h
    cases h'
    rfl
