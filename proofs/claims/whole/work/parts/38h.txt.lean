theorem clear_eq (C : zM) : ∃ D, f_X0_clear C = some D ∧ D 0 0 = 0 ∧ D 0 1 = 0 ∧ D 0 2 = 0 ∧ ∀ k, k < 6 → D 7 k = 0 := by
  unfold f_X0_clear
  simp only [zlet_eq]
  rw [fill_eq (n := 6) (by decide)]
  simp only [Option.bind_some]
  refine ⟨_, rfl, ?_, ?_, ?_, fun k hk => ?_⟩
  · simp (disch := decide) only [va_up_neq, zu_j, zu_eq]
  · simp (disch := decide) only [va_up_neq, zu_j, zu_eq]
  · simp (disch := decide) only [va_up_neq, zu_j, zu_eq]
  · rw [va_up_eq]
    exact if_pos hk
theorem gone_eq (S : Nat → zM) : ∃ S', f_X6_text_55 FU S 0 = some (S 2 0 4, S') ∧ S' 7 0 0 = 0 ∧ S' 8 0 0 = 0 ∧ ∀ i, i ≠ 7 → i ≠ 8 → S' i = S i := by
  obtain ⟨m, hm⟩ : ∃ q, FU = q + 1 + 1 + 1 := ⟨FU - 3, by have := FU_pos (k := 3) (by decide); omega⟩
  have e1 : ∀ (m : Nat) (X : Nat → zM), f_X6_text_55 (m + 1) X 0 = f_X6_text_55 m (va_up X 7 (zU (X 7) 0 0 0)) 1 := by
    intro m X
    rw [f_X6_text_55, if_neg (show ¬ (2 : Int32) ≤ 0 by decide), if_pos (show z_in 0 2 = true by decide)]
    rfl
  have e2 : ∀ (m : Nat) (X : Nat → zM), f_X6_text_55 (m + 1) X 1 = f_X6_text_55 m (va_up X 8 (zU (X 8) 0 0 0)) 2 := by
    intro m X
    rw [f_X6_text_55, if_neg (show ¬ (2 : Int32) ≤ 1 by decide), if_pos (show z_in 1 2 = true by decide)]
    rfl
  have e3 : ∀ (m : Nat) (X : Nat → zM), f_X6_text_55 (m + 1) X 2 = some (X 2 0 4, X) := by
    intro m X
    rw [f_X6_text_55, if_pos (show (2 : Int32) ≤ 2 by decide)]
  rw [hm, e1, e2, e3]
  refine ⟨_, rfl, ?_, ?_, fun i h7 h8 => ?_⟩
  · rw [va_up_neq _ _ (by decide), va_up_eq, zu_eq]
  · rw [va_up_eq, zu_eq]
  · rw [va_up_neq _ _ h8, va_up_neq _ _ h7]
theorem text_C {S : Nat → zM} {D T' : zM} (hD : f_X0_clear (S 3) = some D) (hT : f_X4_readToken (zU (S 1) 0 4 0) = some T') : f_X5_takeText S = f_X5_takeText_38 FU (va_up (va_up (va_up S 3 D) 2 (zU (zU (zU (S 2) 0 3 0) 0 4 0) 0 5 0)) 1 T') 0 := by
  unfold f_X5_takeText f_X4_rewind
  rw [hD]
  simp only [Option.bind_some, zlet_eq, va_up_eq, upup]
  rw [va_up_neq S D (show 2 ≠ 3 by decide), va_up_neq _ _ (show 1 ≠ 2 by decide), va_up_neq _ _ (show 1 ≠ 3 by decide), hT]
  rfl
theorem api_text {S : Nat → zM} {u : zM} (h : Rel S u) : ∃ (r : Int32) (S' : Nat → zM) (u' : zM), f_X6_text S = some (r, S') ∧ f_X7_text u = some (r, u') ∧ Rel S' u' := by
  obtain ⟨P0, nb0, d0, m0, hC, hd, hP, hN, hI, ⟨t, ht, hT1, hT2, hT3⟩, hF, hH, hR⟩ := id h
  obtain ⟨D, c1, c2, c3, c4, c5⟩ := clear_eq (S 3)
  have v0 : ∀ k, k < 5 ∨ k = 8 ∨ k = 9 ∨ 15 < k → fdU (zU (zU u 0 14 0) 0 10 0) 0 k = u 0 k := by
    intro k hk
    unfold fdU
    rw [zu_j _ _ _ _ (by omega), zu_j _ _ _ _ (by omega), zu_j _ _ _ _ (by omega), rowF_ne _ _ _ _ (by decide), zu_j _ _ _ _ (by omega), zu_j _ _ _ _ (by omega)]
  have vj : ∀ j, j ≠ 0 → j ≠ 4 → fdU (zU (zU u 0 14 0) 0 10 0) j = u j := by
    intro j h0 h4
    unfold fdU
    rw [zU_ne _ _ _ h0, zU_ne _ _ _ h0, zU_ne _ _ _ h0, rowF_ne _ _ _ _ h4, zU_ne _ _ _ h0, zU_ne _ _ _ h0]
  have v4 : ∀ k, k < 61 → fdU (zU (zU u 0 14 0) 0 10 0) 4 k = 0 := by
    intro k hk
    unfold fdU
    rw [zU_ne _ _ _ (by decide), zU_ne _ _ _ (by decide), zU_ne _ _ _ (by decide), rowF_row, if_pos ⟨Nat.zero_le _, hk⟩]
  have v5 : fdU (zU (zU u 0 14 0) 0 10 0) 0 5 = 0 ∧ fdU (zU (zU u 0 14 0) 0 10 0) 0 6 = 0 ∧ fdU (zU (zU u 0 14 0) 0 10 0) 0 7 = -4 ∧ fdU (zU (zU u 0 14 0) 0 10 0) 0 14 = 0 ∧ fdU (zU (zU u 0 14 0) 0 10 0) 0 10 = 0 := by
    unfold fdU
    refine ⟨?_, ?_, ?_, ?_, ?_⟩
    · rw [zu_j _ _ _ _ (by decide), zu_j _ _ _ _ (by decide), zu_eq]
    · rw [zu_j _ _ _ _ (by decide), zu_eq]
    · rw [zu_eq]
    · rw [zu_j _ _ _ _ (by decide), zu_j _ _ _ _ (by decide), zu_j _ _ _ _ (by decide), rowF_ne _ _ _ _ (by decide), zu_j _ _ _ _ (by decide), zu_eq]
    · rw [zu_j _ _ _ _ (by decide), zu_j _ _ _ _ (by decide), zu_j _ _ _ _ (by decide), rowF_ne _ _ _ _ (by decide), zu_eq]
  have ev : f_X7_text u = (f_X7_takes (fdU (zU (zU u 0 14 0) 0 10 0))).bind fun r5 => f_X7_text_20 FU r5 0 := by
    unfold f_X7_text
    simp only [zlet_eq]
    rw [firstDraft_eq]
    rfl
  generalize fdU (zU (zU u 0 14 0) 0 10 0) = v at v0 vj v4 v5 ev
  have fxv : Fx u v := ⟨vj, v0⟩
  have hB0 : TB t (zU (S 1) 0 4 0) v := by
    refine ⟨ht, (zu_j _ _ _ _ (by decide)).trans hT1, (v0 9 (by decide)).trans hT2, fun i hi => ?_⟩
    obtain ⟨e1, x, hx, e2⟩ := hT3 i hi
    rw [zU_ne _ _ _ (by decide), vj 5 (by decide) (by decide), e1, e2]
    exact ⟨x, hx, rfl, rfl⟩
  obtain ⟨T', u6, b, e, k1, k2, k3, k4, k5, k6, -⟩ := tok hB0 (q := 0) (zu_eq _ _ _ _) v5.2.2.2.2 (Nat.zero_le _) v5.2.2.2.1
  have ec := text_C c1 k1
  generalize hZ : zU (zU (zU (S 2) 0 3 0) 0 4 0) 0 5 0 = Z at ec
  have z3 : Z 0 3 = 0 ∧ Z 0 4 = 0 ∧ Z 0 5 = 0 := by
    rw [← hZ]
    refine ⟨?_, ?_, zu_eq _ _ _ _⟩
    · rw [zu_j _ _ _ _ (by decide), zu_j _ _ _ _ (by decide), zu_eq]
    · rw [zu_j _ _ _ _ (by decide), zu_eq]
  have s91 : va_up (va_up (va_up S 3 D) 2 Z) 1 T' 1 = T' := va_up_eq _ _ _
  have s92 : va_up (va_up (va_up S 3 D) 2 Z) 1 T' 2 = Z := by rw [va_up_neq _ _ (by decide), va_up_eq]
  have s93 : va_up (va_up (va_up S 3 D) 2 Z) 1 T' 3 = D := by rw [va_up_neq _ _ (by decide), va_up_neq _ _ (by decide), va_up_eq]
  have fs9 : FS S (va_up (va_up (va_up S 3 D) 2 Z) 1 T') := fun j a b c => by rw [va_up_neq _ _ a, va_up_neq _ _ b, va_up_neq _ _ c]
  have hD9 : DR 0 0 (va_up (va_up (va_up S 3 D) 2 Z) 1 T') u6 := by
    have e4 : u6 4 = v 4 := k4.1 4 (by decide)
    unfold DR
    rw [s92, s93, e4, k4.2 5 (by decide), k4.2 6 (by decide), k4.2 7 (by decide), v5.1, v5.2.1, v5.2.2.1]
    refine ⟨by decide, by decide, c2, rfl, c3, v4 34 (by decide), c4, v4 41 (by decide), ⟨0, by decide, z3.1, rfl⟩, fun p hp => absurd hp (Nat.not_lt_zero _), fun b hb => absurd hb (Nat.not_lt_zero _), fun k hk => ⟨0, by decide, c5 k hk, v4 (35 + k) (by omega)⟩, v4 42 (by decide), Or.inl ⟨rfl, rfl⟩⟩
  generalize va_up (va_up (va_up S 3 D) 2 Z) 1 T' = S9 at ec s91 s92 s93 fs9 hD9
  obtain ⟨m', hm'⟩ : ∃ q, FU = q + 1 := ⟨FU - 1, by have := FU_pos (k := 1) (by decide); omega⟩
  have lp := text_loop (t := t) t FU m' 0 b e 0 0 S9 u6 (by rw [s91]; exact k5) (by rw [s91]; exact k6) hD9 (Nat.zero_le _) (by rw [s92]; exact z3.2.1) (by rw [s92]; exact z3.2.2) (by omega) (FU_pos (by omega)) (by have := FU_pos (k := 1000) (by decide); omega)
  have ev2 : f_X7_text u = f_X7_text_20 (m' + 1) u6 (Int32.ofNat 0) := by
    rw [ev, k2, hm']
    rfl
  have ec2 : f_X5_takeText S = f_X5_takeText_38 FU S9 (Int32.ofNat 0) := ec
  have fx6 : Fx u u6 := fxv.tr k4.x
  rcases lp with ⟨P, n, S', u', j, y1, y2, y3, y4, y5, y6, y7, y8, y9⟩ | ⟨S', u', w, y1, y2, y3, y4, y5⟩
  · have fs := fs9.tr y8
    have fx := fx6.tr y9
    obtain ⟨d1, d2, d3, d4, d5, d6, d7, d8, d9, d10, d11, d12, d13, d14⟩ := y3
    obtain ⟨C', q1, q2⟩ := copy_C (S' 3) (S 4)
    have sel : ∀ i, 1 ≤ i ∧ i ≤ 3 → zSel S S' i = S' i := fun i hi => if_pos hi
    have sel2 : ∀ i, ¬ (1 ≤ i ∧ i ≤ 3) → zSel S S' i = S i := fun i hi => if_neg hi
    obtain ⟨Sf, g1, g2, g3, g4⟩ := gone_eq (va_up (va_up (va_up (zSel S S') 1 (zU (zSel S S' 1) 0 1 0)) 4 C') 6 (zU (S 6) 0 0 0))
    have ef : f_X6_text S = some (Int32.ofNat j, Sf) := by
      unfold f_X6_text
      rw [ec2, y1]
      simp only [Option.bind_some, zlet_eq, ↓reduceIte]
      rw [va_up_neq _ _ (show 3 ≠ 1 by decide), va_up_neq _ _ (show 4 ≠ 1 by decide), sel 3 (by decide), sel2 4 (by decide), q1]
      simp only [Option.bind_some]
      rw [va_up_neq _ _ (show 6 ≠ 4 by decide), va_up_neq _ _ (show 6 ≠ 1 by decide), sel2 6 (by decide), g1, va_up_neq _ _ (show 2 ≠ 6 by decide), va_up_neq _ _ (show 2 ≠ 4 by decide), va_up_neq _ _ (show 2 ≠ 1 by decide), sel 2 (by decide), y5]
    have em : f_X7_text u = some (Int32.ofNat j, kdU (rowF (zU u' 0 9 0) 1 0 61 (zU u' 0 9 0 4))) := by
      rw [ev2, y2]
      unfold f_X7_text_73
      simp only [zlet_eq]
      rw [zu_j _ _ _ _ (show 14 ≠ 9 by decide), y7, if_pos (Int32.le_refl _), keepDraft_eq]
      rfl
    refine ⟨_, _, _, ef, em, ?_⟩
    have f0 : ∀ k, k ≠ 3 → k ≠ 9 → kdU (rowF (zU u' 0 9 0) 1 0 61 (zU u' 0 9 0 4)) 0 k = u' 0 k := by
      intro k h3 h9
      unfold kdU
      rw [zU_ne _ _ _ (by decide), zU_ne _ _ _ (by decide), zu_j _ _ _ _ h3, rowF_ne _ _ _ _ (by decide), zu_j _ _ _ _ h9]
    have f03 : kdU (rowF (zU u' 0 9 0) 1 0 61 (zU u' 0 9 0 4)) 0 3 = Int32.ofNat P := by
      unfold kdU
      rw [zU_ne _ _ _ (by decide), zU_ne _ _ _ (by decide), zu_eq, rowF_ne _ _ _ _ (by decide), zu_j _ _ _ _ (by decide)]
      exact d4
    have f09 : kdU (rowF (zU u' 0 9 0) 1 0 61 (zU u' 0 9 0 4)) 0 9 = 0 := by
      unfold kdU
      rw [zU_ne _ _ _ (by decide), zU_ne _ _ _ (by decide), zu_j _ _ _ _ (by decide), rowF_ne _ _ _ _ (by decide), zu_eq]
    have f1 : ∀ k, k < 61 → kdU (rowF (zU u' 0 9 0) 1 0 61 (zU u' 0 9 0 4)) 1 k = u' 4 k := by
      intro k hk
      unfold kdU
      rw [zU_ne _ _ _ (by decide), zU_ne _ _ _ (by decide), zU_ne _ _ _ (by decide), rowF_row, if_pos ⟨Nat.zero_le _, hk⟩, zU_ne _ _ _ (by decide)]
    have f3 : ∀ k, k < 2 → kdU (rowF (zU u' 0 9 0) 1 0 61 (zU u' 0 9 0 4)) 3 k = 0 := by
      intro k hk
      unfold kdU
      by_cases hk1 : k = 1
      · rw [hk1, zu_eq]
      · have : k = 0 := by omega
        rw [this, zu_j _ _ _ _ (by decide), zu_eq]
    have fj : ∀ i, i ≠ 0 → i ≠ 1 → i ≠ 3 → kdU (rowF (zU u' 0 9 0) 1 0 61 (zU u' 0 9 0 4)) i = u' i := by
      intro i h0 h1 h3
      unfold kdU
      rw [zU_ne _ _ _ h3, zU_ne _ _ _ h3, zU_ne _ _ _ h0, rowF_ne _ _ _ _ h1, zU_ne _ _ _ h0]
    generalize kdU (rowF (zU u' 0 9 0) 1 0 61 (zU u' 0 9 0 4)) = uf at f0 f03 f09 f1 f3 fj
    have g : ∀ i, i ≠ 7 → i ≠ 8 → i ≠ 6 → i ≠ 4 → i ≠ 1 → Sf i = zSel S S' i := by
      intro i a1 a2 a3 a4 a5
      rw [g4 i a1 a2, va_up_neq _ _ a3, va_up_neq _ _ a4, va_up_neq _ _ a5]
    have gC : Sf 4 = C' := by rw [g4 4 (by decide) (by decide), va_up_neq _ _ (by decide), va_up_eq]
    have gN : Sf 6 = zU (S 6) 0 0 0 := by rw [g4 6 (by decide) (by decide), va_up_eq]
    have gT : Sf 1 = zU (zSel S S' 1) 0 1 0 := by rw [g4 1 (by decide) (by decide), va_up_neq _ _ (by decide), va_up_neq _ _ (by decide), va_up_eq]
    have hpos : 0 < n → 0 < P := by
      intro hn
      obtain ⟨o, ho, -⟩ := y4 0 hn
      omega
    refine ⟨P, n, 0, 0, ?_, by decide, f03, ?_, ?_, ?_, ?_, ?_, ?_⟩
    · rw [gC]
      refine cr_copy ?_ q2
      refine ⟨d1, d2, hpos, d3, d5, by rw [f1 34 (by decide)]; exact d6, d7, by rw [f1 41 (by decide)]; exact d8, ?_, ?_, ?_⟩
      · intro p hp
        obtain ⟨x, hx, e1, e2⟩ := d10 p hp
        rw [f1 p (by omega), e1, e2]
        exact ⟨rfl, x, hx, rfl⟩
      · intro b' hb'
        obtain ⟨k, s, o, x, w1, w2, w3, w4, w5, e1, e2, e3, e4, e5, e6, e7, e8, e9, e10⟩ := d11 b' hb'
        obtain ⟨o', ho', eo⟩ := y4 b' hb'
        rw [f1 (4 + 5 * b') (by omega), f1 (5 + 5 * b') (by omega), f1 (6 + 5 * b') (by omega), f1 (7 + 5 * b') (by omega), f1 (8 + 5 * b') (by omega), e1, e2, e3, e4, e5, e7, e8, e9, e10]
        refine ⟨rfl, ⟨k, w1, rfl⟩, rfl, ⟨s, w2, w3, rfl⟩, e6.symm, ⟨o', ho', eo⟩, rfl, Or.inl ⟨rfl, rfl, x, w5, rfl⟩⟩
      · intro k hk
        obtain ⟨x, hx, e1, e2⟩ := d12 k hk
        rw [f1 (35 + k) (by omega), e1, e2]
        exact ⟨rfl, x, hx, rfl⟩
    · rw [gN]
      exact ⟨by decide, zu_eq _ _ _ _, by rw [f1 42 (by decide)]; exact d13, fun i hi => absurd hi (Nat.not_lt_zero _)⟩
    · intro k hk
      have e7 : Sf (7 + k) 0 0 = 0 := by
        rcases (show k = 0 ∨ k = 1 by omega) with rfl | rfl
        · exact g2
        · exact g3
      exact ⟨e7.trans (f3 k hk).symm, Or.inl (f3 k hk)⟩
    · refine ⟨0, by decide, ?_, f09, fun i hi => absurd hi (Nat.not_lt_zero _)⟩
      rw [gT, zu_eq]
      rfl
    · rw [g 2 (by decide) (by decide) (by decide) (by decide) (by decide), sel 2 (by decide), y6, f0 14 (by decide) (by decide), y7]
    · intro k hk
      rw [g (13 + k) (by omega) (by omega) (by omega) (by omega) (by omega), sel2 (13 + k) (by omega), fj 8 (by decide) (by decide) (by decide), fj 9 (by decide) (by decide) (by decide), fj 10 (by decide) (by decide) (by decide), fx.1 8 (by decide) (by decide), fx.1 9 (by decide) (by decide), fx.1 10 (by decide) (by decide)]
      exact hH k hk
    · rw [g 0 (by decide) (by decide) (by decide) (by decide) (by decide), sel2 0 (by decide), f0 27 (by decide) (by decide), fx.2 27 (by decide)]
      exact hR
  · have fs := fs9.tr y4
    have fx := fx6.tr y5
    obtain ⟨f, q, hd', w1, w2⟩ := y3
    have sel : ∀ i, 1 ≤ i ∧ i ≤ 3 → zSel S S' i = S' i := fun i hi => if_pos hi
    have sel2 : ∀ i, ¬ (1 ≤ i ∧ i ≤ 3) → zSel S S' i = S i := fun i hi => if_neg hi
    have ef : f_X6_text S = some ((-10) - Int32.ofNat q, va_up (zSel S S') 1 (zU (zSel S S' 1) 0 1 0)) := by
      unfold f_X6_text
      rw [ec2, y1]
      simp only [Option.bind_some, zlet_eq, Bool.false_eq_true, ↓reduceIte]
      rw [va_up_neq _ _ (show 2 ≠ 1 by decide), sel 2 (by decide), w2]
    have em : f_X7_text u = some ((-10) - Int32.ofNat q, zU u' 0 9 0) := by
      rw [ev2, y2]
      unfold f_X7_text_73
      simp only [zlet_eq]
      rw [zu_j _ _ _ _ (show 14 ≠ 9 by decide), if_neg (dd_n hd').2, zu_j _ _ _ _ (show 15 ≠ 9 by decide), hd'.2.2.2]
    refine ⟨_, _, _, ef, em, P0, nb0, d0, m0, ?_, hd, ?_, ?_, ?_, ?_, ?_, ?_, ?_⟩
    · rw [va_up_neq _ _ (by decide), sel2 4 (by decide), zU_ne _ _ _ (by decide), fx.1 1 (by decide) (by decide)]
      exact hC
    · rw [zu_j _ _ _ _ (by decide), fx.2 3 (by decide)]
      exact hP
    · rw [va_up_neq _ _ (by decide), sel2 6 (by decide), zU_ne _ _ _ (by decide), fx.1 1 (by decide) (by decide)]
      exact hN
    · intro k hk
      rw [va_up_neq _ _ (by omega), va_up_neq _ _ (by omega), va_up_neq _ _ (by omega), sel2 (7 + k) (by omega), sel2 (9 + k) (by omega), sel2 (11 + k) (by omega), zU_ne _ _ _ (by decide), zU_ne _ _ _ (by decide), fx.1 1 (by decide) (by decide), fx.1 3 (by decide) (by decide)]
      exact hI k hk
    · refine ⟨0, by decide, ?_, zu_eq _ _ _ _, fun i hi => absurd hi (Nat.not_lt_zero _)⟩
      rw [va_up_eq, zu_eq]
      rfl
    · rw [va_up_neq _ _ (by decide), sel 2 (by decide), w1, zu_j _ _ _ _ (by decide), hd'.2.2.1]
    · intro k hk
      rw [va_up_neq _ _ (by omega), sel2 (13 + k) (by omega), zU_ne _ _ _ (by decide), zU_ne _ _ _ (by decide), zU_ne _ _ _ (by decide), fx.1 8 (by decide) (by decide), fx.1 9 (by decide) (by decide), fx.1 10 (by decide) (by decide)]
      exact hH k hk
    · rw [va_up_neq _ _ (by decide), sel2 0 (by decide), zu_j _ _ _ _ (by decide), fx.2 27 (by decide)]
      exact hR
