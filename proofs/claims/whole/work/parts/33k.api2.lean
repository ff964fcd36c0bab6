theorem of_eq (u : zM) {j w : Nat} (hj : j < 6) (hw : w < 5) : f_X7_of u (Int32.ofNat j) (Int32.ofNat w) = some (u 2 (4 + 5 * j + w)) := by
  unfold f_X7_of
  rw [at_b, if_pos (z_inN (by omega) (by decide)), o_cl (by omega)]
/-- a beetle's weight out of its kind and its spots -/
def wtK (k s : Int32) : Int32 := if k = 1 then (s + 1) / 2 else if k = 2 then (s + 1) / 2 + 1 else if k = 3 then 2 * s else s
theorem weightC (C : zM) {b : Nat} (hb : b < 6) : f_X0_weight C (Int32.ofNat b) = some (wtK (C 2 b) (C 3 b)) := by
  unfold f_X0_weight wtK
  simp only [if_pos (z_inN hb (by decide)), o_cl (show b < 2 ^ 31 by omega)]
  split
  · rfl
  · split
    · rfl
    · split <;> rfl
theorem weightM (u : zM) {j : Nat} (hj : j < 6) : f_X7_weight u (Int32.ofNat j) = some (wtK (u 2 (4 + 5 * j)) (u 2 (5 + 5 * j))) := by
  unfold f_X7_weight wtK
  rw [show f_X7_of u (Int32.ofNat j) 1 = _ from of_eq u hj (show 1 < 5 by decide), show f_X7_of u (Int32.ofNat j) 0 = _ from of_eq u hj (show 0 < 5 by decide), show 4 + 5 * j + 1 = 5 + 5 * j by omega, show 4 + 5 * j + 0 = 4 + 5 * j by omega]
  simp only [Option.bind_some]
  split
  · rfl
  · split
    · rfl
    · split <;> rfl
