/-! text: the names of lines -/
def nm (v : Nat → Int32) (b e i : Nat) : Prop := e - b = zLen.getD i 0 ∧ ∀ q, q < zLen.getD i 0 → v (b + q) = zCh i (Int32.ofNat q)
def cdN (i : Nat) : Nat := [4, 0, 1, 2, 3, 5].getD i 0
theorem len_key : ∀ i : Nat, i < 6 → zLenV i = Int32.ofNat (zLen.getD i 0) ∧ zLen.getD i 0 < 7 ∧ 0 < zLen.getD i 0 ∧ ∀ j : Nat, j < 7 → j < zLen.getD i 0 → f_charAt i (Int32.ofNat j) = some () := by decide +kernel
theorem nm_key : ∀ i : Nat, i < 6 → ∀ j : Nat, j < 6 → zLen.getD i 0 = zLen.getD j 0 → zCh i (Int32.ofNat 0) = zCh j (Int32.ofNat 0) → i = j := by decide +kernel
theorem nm_inj {v : Nat → Int32} {b e i j : Nat} (hi : i < 6) (hj : j < 6) (h : nm v b e i) (h' : nm v b e j) : i = j := by
  obtain ⟨-, -, p1, -⟩ := len_key i hi
  obtain ⟨-, -, p2, -⟩ := len_key j hj
  exact nm_key i hi j hj (h.1.symm.trans h'.1) ((h.2 0 p1).symm.trans (h'.2 0 p2))
theorem isn28 {i b : Nat} {T : zM} (hi : i < 6) (hT3 : T 0 3 = Int32.ofNat b) (hb : b + zLen.getD i 0 ≤ 160) (t : Nat) : ∀ (m j : Nat), j + t = zLen.getD i 0 → t < m → ∃ r, f_X4_isName_28 i m T (Int32.ofNat j) = some r ∧ (r = true ↔ ∀ q, j ≤ q → q < zLen.getD i 0 → T 1 (b + q) = zCh i (Int32.ofNat q)) := by
  obtain ⟨l1, l2, l3, l4⟩ := len_key i hi
  induction t with
  | zero =>
    intro m j hj hm
    obtain ⟨m, rfl⟩ : ∃ q, m = q + 1 := ⟨m - 1, by omega⟩
    rw [f_X4_isName_28, l1, if_pos ((o_le (by omega) (by omega)).mpr (by omega))]
    exact ⟨true, rfl, fun _ q h1 h2 => by omega, fun _ => rfl⟩
  | succ t ih =>
    intro m j hj hm
    obtain ⟨m, rfl⟩ : ∃ q, m = q + 1 := ⟨m - 1, by omega⟩
    rw [f_X4_isName_28, l1, if_neg (nle (by omega) (by omega)), hT3, o_add, if_pos (z_inN (show b + j < 160 by omega) (by decide)), l4 j (by omega) (by omega), o_cl (show b + j < 2 ^ 31 by omega), o_1]
    simp only [Option.bind_some]
    by_cases hc : T 1 (b + j) = zCh i (Int32.ofNat j)
    · rw [if_pos hc]
      obtain ⟨r, f1, f2⟩ := ih m (j + 1) (by omega) (by omega)
      refine ⟨r, f1, fun a q h1 h2 => ?_, fun a => f2.mpr (fun q h1 h2 => a q (by omega) h2)⟩
      by_cases hq : q = j
      · rw [hq]; exact hc
      · exact f2.mp a q (by omega) h2
    · rw [if_neg hc]
      exact ⟨false, rfl, fun a => absurd a (by decide), fun a => absurd (a j (Nat.le_refl _) (by omega)) hc⟩
theorem isn_eq {i b e : Nat} {T : zM} (hi : i < 6) (hbe : b ≤ e) (he : e ≤ 160) (hT2 : T 0 2 = 1) (hT3 : T 0 3 = Int32.ofNat b) (hT4 : T 0 4 = Int32.ofNat e) : ∃ r, f_X4_isName T i = some r ∧ (r = true ↔ nm (T 1) b e i) := by
  obtain ⟨l1, l2, l3, l4⟩ := len_key i hi
  unfold f_X4_isName
  rw [if_pos hT2, hT4, hT3, show Int32.ofNat e - Int32.ofNat b = Int32.ofNat (e - b) from pk_sub hbe, l1]
  by_cases hl : e - b = zLen.getD i 0
  · rw [if_pos (congrArg Int32.ofNat hl)]
    obtain ⟨r, f1, f2⟩ := isn28 hi hT3 (by omega) (zLen.getD i 0) FU 0 (by omega) (FU_pos (by omega))
    exact ⟨r, f1, fun a => ⟨hl, fun q h => f2.mp a q (Nat.zero_le _) h⟩, fun a => f2.mpr (fun q _ h => a.2 q h)⟩
  · rw [if_neg (o_ne hl (by omega) (by omega))]
    exact ⟨false, rfl, fun a => absurd a (by decide), fun a => absurd a.1 hl⟩
theorem named {S : Nat → zM} {b e : Nat} (hbe : b ≤ e) (he : e ≤ 160) (hT2 : S 1 0 2 = 1) (hT3 : S 1 0 3 = Int32.ofNat b) (hT4 : S 1 0 4 = Int32.ofNat e) : ∃ c, f_X5_lineNamed S = some c ∧ ((∃ i, i < 6 ∧ nm (S 1 1) b e i ∧ c = Int32.ofNat (cdN i)) ∨ (∀ i, i < 6 → ¬ nm (S 1 1) b e i) ∧ c = 6) := by
  obtain ⟨r0, f0, g0⟩ := isn_eq (i := 0) (by decide) hbe he hT2 hT3 hT4
  obtain ⟨r1, f1, g1⟩ := isn_eq (i := 1) (by decide) hbe he hT2 hT3 hT4
  obtain ⟨r2, f2, g2⟩ := isn_eq (i := 2) (by decide) hbe he hT2 hT3 hT4
  obtain ⟨r3, f3, g3⟩ := isn_eq (i := 3) (by decide) hbe he hT2 hT3 hT4
  obtain ⟨r4, f4, g4⟩ := isn_eq (i := 4) (by decide) hbe he hT2 hT3 hT4
  obtain ⟨r5, f5, g5⟩ := isn_eq (i := 5) (by decide) hbe he hT2 hT3 hT4
  unfold f_X5_lineNamed
  rw [f0, f1, f2, f3, f4, f5]
  simp only [Option.bind_some]
  cases r0 with
  | true => exact ⟨_, rfl, Or.inl ⟨0, by decide, g0.mp rfl, rfl⟩⟩
  | false =>
  cases r1 with
  | true => exact ⟨_, rfl, Or.inl ⟨1, by decide, g1.mp rfl, rfl⟩⟩
  | false =>
  cases r2 with
  | true => exact ⟨_, rfl, Or.inl ⟨2, by decide, g2.mp rfl, rfl⟩⟩
  | false =>
  cases r3 with
  | true => exact ⟨_, rfl, Or.inl ⟨3, by decide, g3.mp rfl, rfl⟩⟩
  | false =>
  cases r4 with
  | true => exact ⟨_, rfl, Or.inl ⟨4, by decide, g4.mp rfl, rfl⟩⟩
  | false =>
  cases r5 with
  | true => exact ⟨_, rfl, Or.inl ⟨5, by decide, g5.mp rfl, rfl⟩⟩
  | false =>
    refine ⟨_, rfl, Or.inr ⟨fun i hi a => ?_, rfl⟩⟩
    rcases (show i = 0 ∨ i = 1 ∨ i = 2 ∨ i = 3 ∨ i = 4 ∨ i = 5 by omega) with rfl | rfl | rfl | rfl | rfl | rfl
    · exact absurd (g0.mpr a) (by decide)
    · exact absurd (g1.mpr a) (by decide)
    · exact absurd (g2.mpr a) (by decide)
    · exact absurd (g3.mpr a) (by decide)
    · exact absurd (g4.mpr a) (by decide)
    · exact absurd (g5.mpr a) (by decide)
/-! the reference's look at a name -/
theorem is_eq {t b e n : Nat} {T u : zM} (h : TB t T u) (hbe : b ≤ e) (he : e ≤ t) (h11 : u 0 11 = Int32.ofNat b) (h10 : u 0 10 = Int32.ofNat e) (hn : 3 ≤ n) (hn2 : n < 1000) (c0 c1 c2 : Int32) : ∃ r, f_X7_is u (Int32.ofNat n) c0 c1 c2 = some r ∧ (r = true ↔ e - b = n ∧ u 5 b = c0 ∧ u 5 (b + 1) = c1 ∧ u 5 (b + 2) = c2) := by
  have h1 := h.1
  unfold f_X7_is
  rw [h10, h11, show Int32.ofNat e - Int32.ofNat b = Int32.ofNat (e - b) from pk_sub hbe]
  by_cases hl : e - b = n
  · rw [if_pos (congrArg Int32.ofNat hl), byteAt_in h (show b < t by omega), o_1, byteAt_in h (show b + 1 < t by omega), show Int32.ofNat b + 2 = Int32.ofNat (b + 2) from o_add b 2, byteAt_in h (show b + 2 < t by omega)]
    simp only [Option.bind_some]
    by_cases a0 : u 5 b = c0
    · rw [if_pos a0]
      by_cases a1 : u 5 (b + 1) = c1
      · rw [if_pos a1]
        by_cases a2 : u 5 (b + 2) = c2
        · rw [if_pos a2]
          exact ⟨true, rfl, fun _ => ⟨hl, a0, a1, a2⟩, fun _ => rfl⟩
        · rw [if_neg a2]
          exact ⟨false, rfl, fun q => absurd q (by decide), fun q => absurd q.2.2.2 a2⟩
      · rw [if_neg a1]
        exact ⟨false, rfl, fun q => absurd q (by decide), fun q => absurd q.2.2.1 a1⟩
    · rw [if_neg a0]
      exact ⟨false, rfl, fun q => absurd q (by decide), fun q => absurd q.2.1 a0⟩
  · rw [if_neg (o_ne hl (by omega) (by omega))]
    exact ⟨false, rfl, fun q => absurd q (by decide), fun q => absurd q.1 hl⟩
theorem ends6 {t b e : Nat} {T u : zM} (h : TB t T u) (he : e ≤ t) (h11 : u 0 11 = Int32.ofNat b) (hl : e - b = 6) (c0 c1 c2 : Int32) (n1 : ¬ c1 = 0) (n2 : ¬ c2 = 0) : ∃ r, f_X7_ends u c0 c1 c2 = some r ∧ (r = true ↔ u 5 (b + 3) = c0 ∧ u 5 (b + 4) = c1 ∧ u 5 (b + 5) = c2) := by
  have h1 := h.1
  unfold f_X7_ends f_X7_ends_32
  rw [h11, show Int32.ofNat b + 3 = Int32.ofNat (b + 3) from o_add b 3, show Int32.ofNat b + 4 = Int32.ofNat (b + 4) from o_add b 4, show Int32.ofNat b + 5 = Int32.ofNat (b + 5) from o_add b 5, byteAt_in h (show b + 3 < t by omega), byteAt_in h (show b + 4 < t by omega), byteAt_in h (show b + 5 < t by omega), if_neg n1, if_neg n2]
  simp only [Option.bind_some]
  by_cases a0 : u 5 (b + 3) = c0
  · rw [if_pos a0]
    by_cases a1 : u 5 (b + 4) = c1
    · rw [if_pos a1]
      by_cases a2 : u 5 (b + 5) = c2
      · rw [if_pos a2]
        exact ⟨true, rfl, fun _ => ⟨a0, a1, a2⟩, fun _ => rfl⟩
      · rw [if_neg a2]
        exact ⟨false, rfl, fun q => absurd q (by decide), fun q => absurd q.2.2 a2⟩
    · rw [if_neg a1]
      exact ⟨false, rfl, fun q => absurd q (by decide), fun q => absurd q.2.1 a1⟩
  · rw [if_neg a0]
    exact ⟨false, rfl, fun q => absurd q (by decide), fun q => absurd q.1 a0⟩
theorem ends4 {t b e : Nat} {T u : zM} (h : TB t T u) (he : e ≤ t) (h11 : u 0 11 = Int32.ofNat b) (hl : e - b = 4) (c0 : Int32) : ∃ r, f_X7_ends u c0 0 0 = some r ∧ (r = true ↔ u 5 (b + 3) = c0) := by
  have h1 := h.1
  unfold f_X7_ends f_X7_ends_32
  rw [h11, show Int32.ofNat b + 3 = Int32.ofNat (b + 3) from o_add b 3, byteAt_in h (show b + 3 < t by omega), if_pos rfl, if_pos rfl]
  simp only [Option.bind_some]
  by_cases a0 : u 5 (b + 3) = c0
  · rw [if_pos a0]
    exact ⟨true, rfl, fun _ => a0, fun _ => rfl⟩
  · rw [if_neg a0]
    exact ⟨false, rfl, fun q => absurd q (by decide), fun q => absurd q a0⟩
theorem nm3 {v : Nat → Int32} {b e i : Nat} {c0 c1 c2 : Int32} (hl : zLen.getD i 0 = 3) (h0 : zCh i (Int32.ofNat 0) = c0) (h1 : zCh i (Int32.ofNat 1) = c1) (h2 : zCh i (Int32.ofNat 2) = c2) : nm v b e i ↔ e - b = 3 ∧ v b = c0 ∧ v (b + 1) = c1 ∧ v (b + 2) = c2 := by
  unfold nm
  rw [hl]
  constructor
  · intro ⟨a, f⟩
    exact ⟨a, (f 0 (by decide)).trans h0, (f 1 (by decide)).trans h1, (f 2 (by decide)).trans h2⟩
  · intro ⟨a, f0, f1, f2⟩
    refine ⟨a, fun q hq => ?_⟩
    rcases (show q = 0 ∨ q = 1 ∨ q = 2 by omega) with rfl | rfl | rfl
    · exact f0.trans h0.symm
    · exact f1.trans h1.symm
    · exact f2.trans h2.symm
theorem nm4 {v : Nat → Int32} {b e i : Nat} {c0 c1 c2 c3 : Int32} (hl : zLen.getD i 0 = 4) (h0 : zCh i (Int32.ofNat 0) = c0) (h1 : zCh i (Int32.ofNat 1) = c1) (h2 : zCh i (Int32.ofNat 2) = c2) (h3 : zCh i (Int32.ofNat 3) = c3) : nm v b e i ↔ (e - b = 4 ∧ v b = c0 ∧ v (b + 1) = c1 ∧ v (b + 2) = c2) ∧ v (b + 3) = c3 := by
  unfold nm
  rw [hl]
  constructor
  · intro ⟨a, f⟩
    exact ⟨⟨a, (f 0 (by decide)).trans h0, (f 1 (by decide)).trans h1, (f 2 (by decide)).trans h2⟩, (f 3 (by decide)).trans h3⟩
  · intro ⟨⟨a, f0, f1, f2⟩, f3⟩
    refine ⟨a, fun q hq => ?_⟩
    rcases (show q = 0 ∨ q = 1 ∨ q = 2 ∨ q = 3 by omega) with rfl | rfl | rfl | rfl
    · exact f0.trans h0.symm
    · exact f1.trans h1.symm
    · exact f2.trans h2.symm
    · exact f3.trans h3.symm
theorem nm6 {v : Nat → Int32} {b e i : Nat} {c0 c1 c2 c3 c4 c5 : Int32} (hl : zLen.getD i 0 = 6) (h0 : zCh i (Int32.ofNat 0) = c0) (h1 : zCh i (Int32.ofNat 1) = c1) (h2 : zCh i (Int32.ofNat 2) = c2) (h3 : zCh i (Int32.ofNat 3) = c3) (h4 : zCh i (Int32.ofNat 4) = c4) (h5 : zCh i (Int32.ofNat 5) = c5) : nm v b e i ↔ (e - b = 6 ∧ v b = c0 ∧ v (b + 1) = c1 ∧ v (b + 2) = c2) ∧ v (b + 3) = c3 ∧ v (b + 4) = c4 ∧ v (b + 5) = c5 := by
  unfold nm
  rw [hl]
  constructor
  · intro ⟨a, f⟩
    exact ⟨⟨a, (f 0 (by decide)).trans h0, (f 1 (by decide)).trans h1, (f 2 (by decide)).trans h2⟩, (f 3 (by decide)).trans h3, (f 4 (by decide)).trans h4, (f 5 (by decide)).trans h5⟩
  · intro ⟨⟨a, f0, f1, f2⟩, f3, f4, f5⟩
    refine ⟨a, fun q hq => ?_⟩
    rcases (show q = 0 ∨ q = 1 ∨ q = 2 ∨ q = 3 ∨ q = 4 ∨ q = 5 by omega) with rfl | rfl | rfl | rfl | rfl | rfl
    · exact f0.trans h0.symm
    · exact f1.trans h1.symm
    · exact f2.trans h2.symm
    · exact f3.trans h3.symm
    · exact f4.trans h4.symm
    · exact f5.trans h5.symm
theorem nowN {t b e : Nat} {T u : zM} (h : TB t T u) (hbe : b ≤ e) (he : e ≤ t) (h11 : u 0 11 = Int32.ofNat b) (h10 : u 0 10 = Int32.ofNat e) : ∃ c, f_X7_lineNow u = some c ∧ ((∃ i, i < 6 ∧ nm (u 5) b e i ∧ c = Int32.ofNat (cdN i)) ∨ (∀ i, i < 6 → ¬ nm (u 5) b e i) ∧ c = -4) := by
  have k1 : nm (u 5) b e 1 ↔ _ := nm3 (c0 := 114) (c1 := 101) (c2 := 100) rfl (by decide +kernel) (by decide +kernel) (by decide +kernel)
  have k4 : nm (u 5) b e 4 ↔ _ := nm3 (c0 := 112) (c1 := 105) (c2 := 110) rfl (by decide +kernel) (by decide +kernel) (by decide +kernel)
  have k0 : nm (u 5) b e 0 ↔ _ := nm3 (c0 := 111) (c1 := 110) (c2 := 101) rfl (by decide +kernel) (by decide +kernel) (by decide +kernel)
  have k2 : nm (u 5) b e 2 ↔ _ := nm6 (c0 := 121) (c1 := 101) (c2 := 108) (c3 := 108) (c4 := 111) (c5 := 119) rfl (by decide +kernel) (by decide +kernel) (by decide +kernel) (by decide +kernel) (by decide +kernel) (by decide +kernel)
  have k3 : nm (u 5) b e 3 ↔ _ := nm6 (c0 := 111) (c1 := 114) (c2 := 112) (c3 := 104) (c4 := 97) (c5 := 110) rfl (by decide +kernel) (by decide +kernel) (by decide +kernel) (by decide +kernel) (by decide +kernel) (by decide +kernel)
  have k5 : nm (u 5) b e 5 ↔ _ := nm4 (c0 := 119) (c1 := 105) (c2 := 110) (c3 := 100) rfl (by decide +kernel) (by decide +kernel) (by decide +kernel) (by decide +kernel)
  obtain ⟨r1, f1, g1⟩ := is_eq h hbe he h11 h10 (n := 3) (by decide) (by decide) 114 101 100
  obtain ⟨r2, f2, g2⟩ := is_eq h hbe he h11 h10 (n := 6) (by decide) (by decide) 121 101 108
  obtain ⟨r3, f3, g3⟩ := is_eq h hbe he h11 h10 (n := 6) (by decide) (by decide) 111 114 112
  obtain ⟨r4, f4, g4⟩ := is_eq h hbe he h11 h10 (n := 3) (by decide) (by decide) 112 105 110
  obtain ⟨r0, f0, g0⟩ := is_eq h hbe he h11 h10 (n := 3) (by decide) (by decide) 111 110 101
  obtain ⟨r5, f5, g5⟩ := is_eq h hbe he h11 h10 (n := 4) (by decide) (by decide) 119 105 110
  have f1 : f_X7_is u 3 114 101 100 = some r1 := f1
  have f2 : f_X7_is u 6 121 101 108 = some r2 := f2
  have f3 : f_X7_is u 6 111 114 112 = some r3 := f3
  have f4 : f_X7_is u 3 112 105 110 = some r4 := f4
  have f0 : f_X7_is u 3 111 110 101 = some r0 := f0
  have f5 : f_X7_is u 4 119 105 110 = some r5 := f5
  have e76 : ¬ nm (u 5) b e 1 → ¬ nm (u 5) b e 2 → ¬ nm (u 5) b e 3 → ∃ c, f_X7_lineNow_76 u = some c ∧ ((∃ i, i < 6 ∧ nm (u 5) b e i ∧ c = Int32.ofNat (cdN i)) ∨ (∀ i, i < 6 → ¬ nm (u 5) b e i) ∧ c = -4) := by
    intro n1 n2 n3
    unfold f_X7_lineNow_76
    rw [f4, f0, f5]
    simp only [Option.bind_some]
    cases r4 with
    | true => exact ⟨_, rfl, Or.inl ⟨4, by decide, k4.mpr (g4.mp rfl), rfl⟩⟩
    | false =>
    have n4 : ¬ nm (u 5) b e 4 := fun a => absurd (g4.mpr (k4.mp a)) (by decide)
    cases r0 with
    | true => exact ⟨_, rfl, Or.inl ⟨0, by decide, k0.mpr (g0.mp rfl), rfl⟩⟩
    | false =>
    have n0 : ¬ nm (u 5) b e 0 := fun a => absurd (g0.mpr (k0.mp a)) (by decide)
    have fin : ¬ nm (u 5) b e 5 → ∀ i, i < 6 → ¬ nm (u 5) b e i := by
      intro n5 i hi
      rcases (show i = 0 ∨ i = 1 ∨ i = 2 ∨ i = 3 ∨ i = 4 ∨ i = 5 by omega) with rfl | rfl | rfl | rfl | rfl | rfl <;> assumption
    cases r5 with
    | false =>
      have n5 : ¬ nm (u 5) b e 5 := fun a => absurd (g5.mpr (k5.mp a).1) (by decide)
      exact ⟨_, rfl, Or.inr ⟨fin n5, rfl⟩⟩
    | true =>
      have w := g5.mp rfl
      obtain ⟨r, q1, q2⟩ := ends4 h he h11 w.1 100
      simp only [Bool.false_eq_true, ↓reduceIte]
      rw [q1]
      simp only [Option.bind_some]
      cases r with
      | true => exact ⟨_, rfl, Or.inl ⟨5, by decide, k5.mpr ⟨w, q2.mp rfl⟩, rfl⟩⟩
      | false =>
        have n5 : ¬ nm (u 5) b e 5 := fun a => absurd (q2.mpr (k5.mp a).2) (by decide)
        exact ⟨_, rfl, Or.inr ⟨fin n5, rfl⟩⟩
  have e46 : ¬ nm (u 5) b e 1 → ¬ nm (u 5) b e 2 → ∃ c, f_X7_lineNow_46 u = some c ∧ ((∃ i, i < 6 ∧ nm (u 5) b e i ∧ c = Int32.ofNat (cdN i)) ∨ (∀ i, i < 6 → ¬ nm (u 5) b e i) ∧ c = -4) := by
    intro n1 n2
    unfold f_X7_lineNow_46
    rw [f3]
    simp only [Option.bind_some]
    cases r3 with
    | false =>
      have n3 : ¬ nm (u 5) b e 3 := fun a => absurd (g3.mpr (k3.mp a).1) (by decide)
      exact e76 n1 n2 n3
    | true =>
      have w := g3.mp rfl
      obtain ⟨r, q1, q2⟩ := ends6 h he h11 w.1 104 97 110 (by decide) (by decide)
      simp only [↓reduceIte]
      rw [q1]
      simp only [Option.bind_some]
      cases r with
      | true => exact ⟨_, rfl, Or.inl ⟨3, by decide, k3.mpr ⟨w, q2.mp rfl⟩, rfl⟩⟩
      | false =>
        have n3 : ¬ nm (u 5) b e 3 := fun a => absurd (q2.mpr (k3.mp a).2) (by decide)
        exact e76 n1 n2 n3
  unfold f_X7_lineNow
  rw [f1, f2]
  simp only [Option.bind_some]
  cases r1 with
  | true => exact ⟨_, rfl, Or.inl ⟨1, by decide, k1.mpr (g1.mp rfl), rfl⟩⟩
  | false =>
  have n1 : ¬ nm (u 5) b e 1 := fun a => absurd (g1.mpr (k1.mp a)) (by decide)
  cases r2 with
  | false =>
    have n2 : ¬ nm (u 5) b e 2 := fun a => absurd (g2.mpr (k2.mp a).1) (by decide)
    exact e46 n1 n2
  | true =>
    have w := g2.mp rfl
    obtain ⟨r, q1, q2⟩ := ends6 h he h11 w.1 108 111 119 (by decide) (by decide)
    simp only [Bool.false_eq_true, ↓reduceIte]
    rw [q1]
    simp only [Option.bind_some]
    cases r with
    | true => exact ⟨_, rfl, Or.inl ⟨2, by decide, k2.mpr ⟨w, q2.mp rfl⟩, rfl⟩⟩
    | false =>
      have n2 : ¬ nm (u 5) b e 2 := fun a => absurd (q2.mpr (k2.mp a).2) (by decide)
      exact e46 n1 n2
/-- both read the same name -/
theorem line_eq {t b e : Nat} {S : Nat → zM} {u : zM} (h : TB t (S 1) u) (hbe : b ≤ e) (he : e ≤ t) (hT2 : S 1 0 2 = 1) (hT3 : S 1 0 3 = Int32.ofNat b) (hT4 : S 1 0 4 = Int32.ofNat e) (h11 : u 0 11 = Int32.ofNat b) (h10 : u 0 10 = Int32.ofNat e) : (∃ k, k < 6 ∧ f_X5_lineNamed S = some (Int32.ofNat k) ∧ f_X7_lineNow u = some (Int32.ofNat k)) ∨ (f_X5_lineNamed S = some 6 ∧ f_X7_lineNow u = some (-4)) := by
  have h1 := h.1
  have hv : ∀ i, i < 6 → (nm (S 1 1) b e i ↔ nm (u 5) b e i) := by
    intro i hi
    unfold nm
    refine and_congr_right (fun hl => ?_)
    have hq : ∀ q, q < zLen.getD i 0 → S 1 1 (b + q) = u 5 (b + q) := by
      intro q hq
      obtain ⟨x, -, e1, e2⟩ := h.2.2.2 (b + q) (by omega)
      rw [e1, e2]
    exact ⟨fun f q h => (hq q h).symm.trans (f q h), fun f q h => (hq q h).trans (f q h)⟩
  obtain ⟨c, f1, f2⟩ := named hbe (by omega) hT2 hT3 hT4
  obtain ⟨c', g1, g2⟩ := nowN h hbe he h11 h10
  rcases f2 with ⟨i, hi, n1, rfl⟩ | ⟨n1, rfl⟩
  · rcases g2 with ⟨j, hj, n2, rfl⟩ | ⟨n2, rfl⟩
    · have e := nm_inj hi hj ((hv i hi).mp n1) n2
      subst e
      refine Or.inl ⟨cdN i, ?_, f1, g1⟩
      rcases (show i = 0 ∨ i = 1 ∨ i = 2 ∨ i = 3 ∨ i = 4 ∨ i = 5 by omega) with rfl | rfl | rfl | rfl | rfl | rfl <;> decide
    · exact absurd ((hv i hi).mp n1) (n2 i hi)
  · rcases g2 with ⟨j, hj, n2, rfl⟩ | ⟨n2, rfl⟩
    · exact absurd ((hv j hj).mpr n2) (n1 j hj)
    · exact Or.inr ⟨f1, g1⟩
