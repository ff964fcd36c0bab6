theorem api_text {S : Nat → zM} {u : zM} (h : Rel S u) : ∃ (r : Int32) (S' : Nat → zM) (u' : zM), f_X6_text S  = some (r, S') ∧ f_X7_text u  = some (r, u') ∧ Rel S' u' := sorry
