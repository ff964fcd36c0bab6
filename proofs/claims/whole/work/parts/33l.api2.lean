/-- a beetle's place: in the air its own, else its sitter's -/
def plK (C : zM) (b : Nat) : Int32 := if C 5 b = -4 then C 6 b else C 1 (C 5 b).toNatClampNeg
theorem placeOfC {P nb d : Nat} {C : zM} {v : Nat → Int32} (h : CR P nb d C v) {b : Nat} (hb : b < nb) : f_X0_placeOf C (Int32.ofNat b) = some (plK C b) := by
  have hn6 := h.2.1
  have hP4 := h.1
  have hb6 : b < 6 := by omega
  have hB := h.2.2.2.2.2.2.2.2.2.1 b hb
  unfold f_X0_placeOf f_X0_sits plK
  simp only [if_pos (z_inN hb6 (by decide)), o_cl (show b < 2 ^ 31 by omega)]
  by_cases h4 : C 5 b = -4
  · simp only [if_pos h4, Option.bind_some, Bool.false_eq_true, ↓reduceIte]
  · rcases hB.2.2.2.2.2.2.2 with ⟨q, -⟩ | ⟨p, hp, q⟩
    · rw [hB.2.2.2.2.2.2.1] at h4
      exact absurd q h4
    · have e : C 5 b = Int32.ofNat p := hB.2.2.2.2.2.2.1.trans q
      simp only [if_neg h4, Option.bind_some, ↓reduceIte]
      rw [e, if_pos (z_inN (show p < 4 by omega) (by decide))]
theorem placeOfM {P nb d : Nat} {C u : zM} (h : CR P nb d C (u 2)) {b : Nat} (hb : b < nb) : f_X7_placeOf u (Int32.ofNat b) = some (plK C b) := by
  have hn6 := h.2.1
  have hP4 := h.1
  have hb6 : b < 6 := by omega
  have hB := h.2.2.2.2.2.2.2.2.2.1 b hb
  unfold f_X7_placeOf plK
  rw [show f_X7_of u (Int32.ofNat b) 4 = _ from of_eq u hb6 (show 4 < 5 by decide), show f_X7_of u (Int32.ofNat b) 3 = _ from of_eq u hb6 (show 3 < 5 by decide), show 4 + 5 * b + 4 = 8 + 5 * b by omega, show 4 + 5 * b + 3 = 7 + 5 * b by omega, hB.2.2.2.2.2.2.1]
  simp only [Option.bind_some]
  rcases hB.2.2.2.2.2.2.2 with ⟨q, q2, -⟩ | ⟨p, hp, q⟩
  · rw [if_pos q, if_pos q, q2]
  · have hne : ¬ u 2 (8 + 5 * b) = -4 := by
      rw [q]
      intro e
      have := congrArg Int32.toInt e
      rw [o_toInt (by omega), show (-4 : Int32).toInt = -4 from rfl] at this
      omega
    rw [if_neg hne, if_neg hne, q, if_pos (z_inN (show p < 61 by omega) (by decide)), o_cl (by omega), (h.2.2.2.2.2.2.2.2.1 p hp).1]
