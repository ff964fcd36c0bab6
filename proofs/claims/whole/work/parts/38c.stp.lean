/-! text: numbers and signs, step by step -/
def stS (S : Nat → zM) (f : Int32) : Nat → zM := va_up S 2 (zU (zU (S 2) 0 5 f) 0 6 (S 1 0 3))
theorem stops_eq (S : Nat → zM) (f : Int32) : f_X5_stopsBy S f = some (false, stS S f) := by
  unfold f_X5_stopsBy stS
  simp only [zlet_eq, va_up_eq, upup]
  rw [va_up_neq _ _ (show 1 ≠ 2 by decide)]
theorem tokOf4 {S : Nat → zM} (h : S 1 0 2 = 4) (v : Int32) : f_X5_isTokenOf S v = some (false, stS S 1) := by
  unfold f_X5_isTokenOf
  rw [if_pos h, stops_eq]
  rfl
theorem tokOfT {S : Nat → zM} {v : Int32} (h4 : ¬ v = 4) (h : S 1 0 2 = v) : f_X5_isTokenOf S v = some (true, S) := by
  unfold f_X5_isTokenOf
  rw [if_neg (by rw [h]; exact h4), if_pos h]
theorem tokOfF {S : Nat → zM} {v : Int32} (h4 : ¬ S 1 0 2 = 4) (h : ¬ S 1 0 2 = v) : f_X5_isTokenOf S v = some (false, stS S 2) := by
  unfold f_X5_isTokenOf
  rw [if_neg h4, if_neg h, stops_eq]
  rfl
/-- the reference has met a fault -/
def DD (f q : Nat) (u : zM) : Prop := 1 ≤ f ∧ f ≤ 6 ∧ u 0 14 = Int32.ofNat f ∧ u 0 15 = Int32.ofNat q
theorem dd_n {f q : Nat} {u : zM} (h : DD f q u) : ¬ u 0 14 = 0 ∧ ¬ u 0 14 ≤ 0 := by
  obtain ⟨h1, h2, h3, -⟩ := h
  rw [h3]
  exact ⟨o_ne (b := 0) (by omega) (by omega) (by decide), nle (b := 0) (by omega) (by omega)⟩
theorem dd_takes {f q : Nat} {u : zM} (h : DD f q u) : f_X7_takes u = some u := by
  unfold f_X7_takes
  rw [if_neg (dd_n h).2]
theorem dd_needs {f q : Nat} {u : zM} (h : DD f q u) (g c : Int32) : f_X7_needs u g c = some u := by
  unfold f_X7_needs
  rw [if_neg (dd_n h).1]
  by_cases hg : g = 0
  · rw [if_pos hg]
  · rw [if_neg hg]
theorem dd_looked {f q : Nat} {u : zM} (h : DD f q u) (lo hi : Int32) : f_X7_looked u lo hi = some (0, u) := by
  unfold f_X7_looked f_X7_looked_25
  rw [if_neg (dd_n h).1, if_neg (dd_n h).1, if_neg (dd_n h).1]
theorem dd_num {f q : Nat} {u : zM} (h : DD f q u) (lo hi : Int32) : f_X7_readNumber u lo hi = some (0, u) := by
  unfold f_X7_readNumber
  rw [dd_looked h]
  simp only [Option.bind_some, zlet_eq]
  rw [dd_takes h]
  rfl
theorem DD.keep {f q : Nat} {u u' : zM} (h : DD f q u) (a : u' 0 14 = u 0 14) (b : u' 0 15 = u 0 15) : DD f q u' := ⟨h.1, h.2.1, a.trans h.2.2.1, b.trans h.2.2.2⟩
/-- both have met the same fault -/
def BO (S : Nat → zM) (u : zM) : Prop := ∃ f q, DD f q u ∧ S 2 0 5 = Int32.ofNat f ∧ S 2 0 6 = Int32.ofNat q
theorem needs_bad {u : zM} {b f : Nat} (h14 : u 0 14 = 0) (h11 : u 0 11 = Int32.ofNat b) (hf : 1 ≤ f) (hf6 : f ≤ 6) : ∃ u', f_X7_needs u 0 (Int32.ofNat f) = some u' ∧ DD f b u' ∧ Fk u u' ∧ u' 0 11 = u 0 11 := by
  unfold f_X7_needs
  rw [if_pos rfl, if_pos h14]
  simp only [zlet_eq]
  refine ⟨_, rfl, ⟨hf, hf6, ?_, ?_⟩, (Fk.u u (by decide) _).tr (Fk.u _ (by decide) _), ?_⟩
  · rw [zu_j _ _ _ _ (by decide), zu_eq]
  · rw [zu_eq, zu_j _ _ _ _ (by decide)]; exact h11
  · rw [zu_j _ _ _ _ (by decide), zu_j _ _ _ _ (by decide)]
theorem needs_ok {u : zM} {g : Int32} (hg : ¬ g = 0) (c : Int32) : f_X7_needs u g c = some u := by
  unfold f_X7_needs
  rw [if_neg hg]
noncomputable def wcont (S4 : Nat → zM) (v1 v2 : Int32) : Option (Bool × (Nat → zM)) := if v1 = 5 then if v2 = 0 then if ((((S4 2) 0 3) >>> ((((S4 1) 0 5) : Int32) &&& 31)) &&& 1) = 1 then (f_X5_stopsBy S4 4).bind fun r8 => zlet r8.2 fun S9 => some (r8.1, S9) else if z_in v2 3 = true then zlet (va_up S4 2 (zU (S4 2) 1 (Int32.toNatClampNeg v2) ((S4 1) 0 5))) (fun S10 => some (true, S10)) else none else if z_in v2 3 = true then zlet (va_up S4 2 (zU (S4 2) 1 (Int32.toNatClampNeg v2) ((S4 1) 0 5))) (fun S11 => some (true, S11)) else none else if z_in v2 3 = true then zlet (va_up S4 2 (zU (S4 2) 1 (Int32.toNatClampNeg v2) ((S4 1) 0 5))) (fun S12 => some (true, S12)) else none
theorem s1 {S : Nat → zM} {T : zM} : va_up S 1 T 1 = T := va_up_eq _ _ _
/-- a token is looked at as a number within bounds -/
theorem num_chk {t b e lo hi : Nat} {S : Nat → zM} {T1 u : zM} (hlo : lo < 1000) (hhi : hi < 1000) (hr : f_X4_readToken (S 1) = some T1) (hB : TB t T1 u) (hK : TK t b e T1 u) {L I : Int32} (hL : f_X5_leastOf L I = some (Int32.ofNat lo)) (hM : f_X5_mostOf L I = some (Int32.ofNat hi)) :
    (∃ v, lo ≤ v ∧ v ≤ hi ∧ T1 0 5 = Int32.ofNat v ∧ f_X7_looked u (Int32.ofNat lo) (Int32.ofNat hi) = some (Int32.ofNat v, u) ∧ u 0 14 = 0 ∧ b < e ∧ f_X5_takeNumber S L I = wcont (va_up S 1 T1) L I) ∨
    (∃ f u', f_X7_looked u (Int32.ofNat lo) (Int32.ofNat hi) = some (0, u') ∧ DD f b u' ∧ Fk u u' ∧ f_X5_takeNumber S L I = some (false, stS (va_up S 1 T1) (Int32.ofNat f))) := by
  obtain ⟨hbe, het, h3, h11, h4, h10, hs⟩ := hK
  unfold f_X5_takeNumber
  rw [hr]
  simp only [Option.bind_some, zlet_eq]
  rcases hs with ⟨q1, q2, q3, q4⟩ | ⟨q1, s, hs3, q2, q3, q4, q5, q6⟩
  · have hd : DD 1 b u := ⟨by decide, by decide, q2, q3⟩
    refine Or.inr ⟨1, u, dd_looked hd _ _, hd, Fk.rf u, ?_⟩
    rw [tokOf4 (by rw [s1]; exact q1)]
    rfl
  · by_cases h2 : s = 2
    · subst h2
      obtain ⟨v, hv, v1, v2⟩ := q6 rfl
      have q2 : T1 0 2 = 2 := q2
      have q3 : u 0 12 = 2 := q3
      rw [tokOfT (S := va_up S 1 T1) (v := 2) (by decide) (by rw [s1]; exact q2)]
      simp only [Option.bind_some, ↓reduceIte]
      rw [hL, hM]
      simp only [Option.bind_some]
      rw [within_g, s1, v1]
      have el : f_X7_looked u (Int32.ofNat lo) (Int32.ofNat hi) = f_X7_looked_25 u (Int32.ofNat lo) (Int32.ofNat hi) := by
        unfold f_X7_looked
        rw [if_pos q1, if_pos q3, needs_ok (by decide)]
        rfl
      have e25 : ∀ z, zw (Int32.ofNat v) (Int32.ofNat lo).toInt (Int32.ofNat hi).toInt = z → f_X7_looked_25 u (Int32.ofNat lo) (Int32.ofNat hi) = (f_X7_needs u (zb z) 3).bind fun r4 => zlet r4 fun u5 => if (u5 0 14) = 0 then some ((u5 0 13), u5) else some (0, u5) := by
        intro z hz
        unfold f_X7_looked_25
        rw [if_pos q1, v2, in_32, Int32.toInt_toInt64, Int32.toInt_toInt64, hz]
        rfl
      cases hz : zw (Int32.ofNat v) (Int32.ofNat lo).toInt (Int32.ofNat hi).toInt with
      | true =>
        have hw := of_decide_eq_true hz
        rw [o_toInt (by omega), o_toInt (by omega), o_toInt (by omega)] at hw
        refine Or.inl ⟨v, by omega, by omega, rfl, ?_, q1, q5 (by decide), ?_⟩
        · rw [el, e25 true hz, show zb true = 1 from rfl, needs_ok (by decide)]
          simp only [Option.bind_some, zlet_eq]
          rw [if_pos q1, v2]
        · unfold wcont
          rw [s1, v1]
          rfl
      | false =>
        obtain ⟨u', n1, n2, n3, -⟩ := needs_bad (f := 3) q1 h11 (by decide) (by decide)
        have n1 : f_X7_needs u 0 3 = some u' := n1
        refine Or.inr ⟨3, u', ?_, n2, n3, ?_⟩
        · rw [el, e25 false hz, show zb false = 0 from rfl, n1]
          simp only [Option.bind_some, zlet_eq]
          rw [if_neg (dd_n n2).1]
        · simp only [Option.bind_some, Bool.false_eq_true, ↓reduceIte]
          rw [stops_eq]
          rfl
    · have hn4 : ¬ T1 0 2 = 4 := by rw [q2]; exact o_ne (b := 4) (by omega) (by omega) (by decide)
      have hn2 : ¬ T1 0 2 = 2 := by rw [q2]; exact o_ne (b := 2) (by omega) (by omega) (by decide)
      have hn2' : ¬ u 0 12 = 2 := by rw [q3]; exact o_ne (b := 2) (by omega) (by omega) (by decide)
      obtain ⟨u', n1, n2, n3, -⟩ := needs_bad (f := 2) q1 h11 (by decide) (by decide)
      have n1 : f_X7_needs u 0 2 = some u' := n1
      refine Or.inr ⟨2, u', ?_, n2, n3, ?_⟩
      · unfold f_X7_looked f_X7_looked_25
        rw [if_pos q1, if_neg hn2', n1]
        simp only [Option.bind_some, zlet_eq]
        rw [if_neg (dd_n n2).1, if_neg (dd_n n2).1]
      · rw [tokOfF (S := va_up S 1 T1) (v := 2) (by rw [s1]; exact hn4) (by rw [s1]; exact hn2)]
        rfl
/-- the class is about to read the token that the reference has read -/
def PN (t q : Nat) (S : Nat → zM) (u : zM) : Prop := ∃ T1 b e, f_X4_readToken (S 1) = some T1 ∧ TB t T1 u ∧ TK t b e T1 u ∧ q ≤ b
theorem PN.keep {t q : Nat} {S S' : Nat → zM} {u u' : zM} (h : PN t q S u) (hS : S' 1 = S 1) (h0 : ∀ k, 9 ≤ k → k ≤ 15 → u' 0 k = u 0 k) (h5 : u' 5 = u 5) : PN t q S' u' := by
  obtain ⟨T1, b, e, f1, ⟨b1, b2, b3, b4⟩, ⟨k1, k2, k3, k4, k5, k6, k7⟩, f4⟩ := h
  refine ⟨T1, b, e, by rw [hS]; exact f1, ⟨b1, b2, (h0 9 (by decide) (by decide)).trans b3, fun i hi => by rw [h5]; exact b4 i hi⟩, ⟨k1, k2, k3, (h0 11 (by decide) (by decide)).trans k4, k5, (h0 10 (by decide) (by decide)).trans k6, ?_⟩, f4⟩
  rw [h0 12 (by decide) (by decide), h0 13 (by decide) (by decide), h0 14 (by decide) (by decide), h0 15 (by decide) (by decide)]
  exact k7
theorem pn_next {t b e : Nat} {T1 u : zM} (hB : TB t T1 u) (hK : TK t b e T1 u) (h14 : u 0 14 = 0) (hbe : b < e) : ∃ u', f_X7_takes u = some u' ∧ Fk u u' ∧ ∀ (S : Nat → zM) (q : Nat), S 1 = T1 → q ≤ b → PN t (q + 1) S u' := by
  obtain ⟨-, het, -, -, h4, h10, -⟩ := hK
  obtain ⟨T2, u2, b2, e2, f1, f2, f3, f4, f5, f6, f7⟩ := tok hB h4 h10 het h14
  exact ⟨u2, f2, f4, fun S q hS hq => ⟨T2, b2, e2, by rw [hS]; exact f1, f5, f6, by omega⟩⟩
theorem num_step {t q lo hi i : Nat} {S : Nat → zM} {u : zM} (h : PN t q S u) (hlo : lo < 1000) (hhi : hi < 1000) {L : Int32} (hi3 : i < 3) (hw : ¬ (L = 5 ∧ Int32.ofNat i = 0)) (hL : f_X5_leastOf L (Int32.ofNat i) = some (Int32.ofNat lo)) (hM : f_X5_mostOf L (Int32.ofNat i) = some (Int32.ofNat hi)) :
    (∃ v S' u', lo ≤ v ∧ v ≤ hi ∧ f_X5_takeNumber S L (Int32.ofNat i) = some (true, S') ∧ f_X7_readNumber u (Int32.ofNat lo) (Int32.ofNat hi) = some (Int32.ofNat v, u') ∧ PN t (q + 1) S' u' ∧ S' 2 = zU (S 2) 1 i (Int32.ofNat v) ∧ (∀ j, j ≠ 1 → j ≠ 2 → S' j = S j) ∧ Fk u u') ∨
    (∃ S' u', f_X5_takeNumber S L (Int32.ofNat i) = some (false, S') ∧ f_X7_readNumber u (Int32.ofNat lo) (Int32.ofNat hi) = some (0, u') ∧ BO S' u' ∧ (∀ j, j ≠ 1 → j ≠ 2 → S' j = S j) ∧ Fk u u') := by
  obtain ⟨T1, b, e, f1, hB, hK, hq⟩ := h
  rcases num_chk hlo hhi f1 hB hK hL hM with ⟨v, g1, g2, g3, g4, g5, g6, g7⟩ | ⟨f, u', g1, g2, g3, g4⟩
  · obtain ⟨u2, k1, k2, k3⟩ := pn_next hB hK g5 g6
    have ew : wcont (va_up S 1 T1) L (Int32.ofNat i) = some (true, va_up (va_up S 1 T1) 2 (zU (S 2) 1 i (Int32.ofNat v))) := by
      unfold wcont
      simp only [z_inN hi3 (show 3 < 2 ^ 31 by decide), o_cl (show i < 2 ^ 31 by omega), ↓reduceIte, zlet_eq, s1, g3, va_up_neq S T1 (show 2 ≠ 1 by decide)]
      by_cases h5 : L = 5
      · rw [if_pos h5, if_neg (fun a => hw ⟨h5, a⟩)]
      · rw [if_neg h5]
    refine Or.inl ⟨v, _, u2, g1, g2, g7.trans ew, ?_, k3 _ q (by rw [va_up_neq _ _ (by decide), s1]) hq, va_up_eq _ _ _, fun j a c => by rw [va_up_neq _ _ c, va_up_neq _ _ a], k2⟩
    unfold f_X7_readNumber
    rw [g4]
    simp only [Option.bind_some, zlet_eq]
    rw [k1]
    rfl
  · refine Or.inr ⟨_, u', g4, ?_, ⟨f, b, g2, ?_, ?_⟩, fun j a c => ?_, g3⟩
    · unfold f_X7_readNumber
      rw [g1]
      simp only [Option.bind_some, zlet_eq]
      rw [dd_takes g2]
      rfl
    · unfold stS
      rw [va_up_eq, zu_j _ _ _ _ (by decide), zu_eq]
    · unfold stS
      rw [va_up_eq, zu_eq, s1]
      exact hK.2.2.1
    · unfold stS
      rw [va_up_neq _ _ c, va_up_neq _ _ a]
/-- the sign at a line's end, and the token behind it -/
noncomputable def lineE (u9 : zM) : Option zM := if (u9 0 14) = 0 then if (u9 0 12) = 3 then f_X7_readLine_115 u9 true else f_X7_readLine_115 u9 false else (f_X7_takes u9).bind fun r14 => zlet r14 fun u15 => some u15
theorem dd_line {f q : Nat} {u : zM} (h : DD f q u) : lineE u = some u := by
  unfold lineE
  rw [if_neg (dd_n h).1, dd_takes h]
  rfl
theorem sgn_step {t q : Nat} {S : Nat → zM} {u : zM} (h : PN t q S u) : ∃ T1, f_X4_readToken (S 1) = some T1 ∧
    ((∃ u', f_X5_isTokenOf (va_up S 1 T1) 3 = some (true, va_up S 1 T1) ∧ lineE u = some u' ∧ PN t (q + 1) (va_up S 1 T1) u' ∧ Fk u u') ∨
    (∃ S' u', f_X5_isTokenOf (va_up S 1 T1) 3 = some (false, S') ∧ lineE u = some u' ∧ BO S' u' ∧ (∀ j, j ≠ 1 → j ≠ 2 → S' j = S j) ∧ Fk u u')) := by
  obtain ⟨T1, b, e, f1, hB, hK, hq⟩ := h
  refine ⟨T1, f1, ?_⟩
  obtain ⟨hbe, het, h3, h11, h4, h10, hs⟩ := id hK
  have bo : ∀ (f : Nat) (u' : zM), DD f b u' → BO (stS (va_up S 1 T1) (Int32.ofNat f)) u' := by
    intro f u' hd
    refine ⟨f, b, hd, ?_, ?_⟩
    · unfold stS
      rw [va_up_eq, zu_j _ _ _ _ (by decide), zu_eq]
    · unfold stS
      rw [va_up_eq, zu_eq, s1]
      exact h3
  have fr : ∀ (f : Int32) (j : Nat), j ≠ 1 → j ≠ 2 → stS (va_up S 1 T1) f j = S j := by
    intro f j a c
    unfold stS
    rw [va_up_neq _ _ c, va_up_neq _ _ a]
  rcases hs with ⟨q1, q2, q3, q4⟩ | ⟨q1, s, hs3, q2, q3, q4, q5, q6⟩
  · have hd : DD 1 b u := ⟨by decide, by decide, q2, q3⟩
    exact Or.inr ⟨_, u, tokOf4 (by rw [s1]; exact q1) 3, dd_line hd, bo 1 u hd, fr 1, Fk.rf u⟩
  · by_cases h2 : s = 3
    · subst h2
      obtain ⟨u2, k1, k2, k3⟩ := pn_next hB hK q1 (q5 (by decide))
      refine Or.inl ⟨u2, tokOfT (by decide) (by rw [s1]; exact q2), ?_, k3 _ q s1 hq, k2⟩
      unfold lineE f_X7_readLine_115
      rw [if_pos q1, if_pos (show u 0 12 = 3 from q3), show zb true = 1 from rfl, needs_ok (by decide)]
      simp only [Option.bind_some, zlet_eq]
      rw [k1]
      rfl
    · have hn4 : ¬ T1 0 2 = 4 := by rw [q2]; exact o_ne (b := 4) (by omega) (by omega) (by decide)
      have hn2 : ¬ T1 0 2 = 3 := by rw [q2]; exact o_ne (b := 3) (by omega) (by omega) (by decide)
      have hn2' : ¬ u 0 12 = 3 := by rw [q3]; exact o_ne (b := 3) (by omega) (by omega) (by decide)
      obtain ⟨u', n1, n2, n3, -⟩ := needs_bad (f := 2) q1 h11 (by decide) (by decide)
      have n1 : f_X7_needs u 0 2 = some u' := n1
      refine Or.inr ⟨_, u', tokOfF (by rw [s1]; exact hn4) (by rw [s1]; exact hn2), ?_, bo 2 u' n2, fr 2, n3⟩
      unfold lineE f_X7_readLine_115
      rw [if_pos q1, if_neg hn2', show zb false = 0 from rfl, n1]
      simp only [Option.bind_some, zlet_eq]
      rw [dd_takes n2]
      rfl
