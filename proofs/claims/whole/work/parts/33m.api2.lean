theorem sitting_loop {P nb d : Nat} {C u : zM} (h : CR P nb d C (u 2)) (t : Nat) : ∀ (n n' i : Nat) (x : Int32), i + t = nb → t < n → t < n' → ∃ y, f_X0_sitting_4 n C x (Int32.ofNat i) = some y ∧ f_X7_sitting_4 n' u x (Int32.ofNat i) = some y := by
  have hn6 := h.2.1
  induction t with
  | zero =>
    intro n n' i x hi hn hn'
    obtain ⟨n, rfl⟩ : ∃ m, n = m + 1 := ⟨n - 1, by omega⟩
    obtain ⟨n', rfl⟩ : ∃ m, n' = m + 1 := ⟨n' - 1, by omega⟩
    have hi : i = nb := by omega
    subst hi
    rw [f_X0_sitting_4, f_X7_sitting_4, if_pos (show z_in 34 61 = true by decide), show Int32.toNatClampNeg 34 = 34 from rfl, h.2.2.2.2.1, h.2.2.2.2.2.1, if_pos (Int32.le_refl _), if_pos (Int32.le_refl _)]
    exact ⟨x, rfl, rfl⟩
  | succ t ih =>
    intro n n' i x hi hn hn'
    obtain ⟨n, rfl⟩ : ∃ m, n = m + 1 := ⟨n - 1, by omega⟩
    obtain ⟨n', rfl⟩ : ∃ m, n' = m + 1 := ⟨n' - 1, by omega⟩
    have hB := h.2.2.2.2.2.2.2.2.2.1 i (by omega)
    have hle : ¬ Int32.ofNat nb ≤ Int32.ofNat i := fun q => absurd ((o_le (by omega) (by omega)).mp q) (by omega)
    rw [f_X0_sitting_4, f_X7_sitting_4, if_pos (show z_in 34 61 = true by decide), show Int32.toNatClampNeg 34 = 34 from rfl, h.2.2.2.2.1, h.2.2.2.2.2.1, if_neg hle, if_neg hle]
    rw [show f_X7_of u (Int32.ofNat i) 4 = _ from of_eq u (by omega) (show 4 < 5 by decide), show 4 + 5 * i + 4 = 8 + 5 * i by omega]
    unfold f_X0_sits f_X7_flag
    rw [if_pos (z_inN (show i < 6 by omega) (by decide)), o_cl (show i < 2 ^ 31 by omega), hB.2.2.2.2.2.2.1, o_1]
    by_cases h4 : u 2 (8 + 5 * i) = -4
    · rw [if_pos h4]
      simp only [Option.bind_some, if_pos h4, ↓reduceIte, Bool.false_eq_true]
      rw [show x + 0 = x from Int32.add_zero x]
      exact ih n n' (i + 1) x (by omega) (by omega) (by omega)
    · rw [if_neg h4]
      simp only [Option.bind_some, if_neg h4, ↓reduceIte]
      exact ih n n' (i + 1) (x + 1) (by omega) (by omega) (by omega)
