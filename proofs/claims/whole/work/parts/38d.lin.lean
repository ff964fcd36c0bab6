/-! text: a line -/
def Fx (u u' : zM) : Prop := (∀ j, j ≠ 0 → j ≠ 4 → u' j = u j) ∧ ∀ k, (k < 5 ∨ k = 8 ∨ k = 9 ∨ 15 < k) → u' 0 k = u 0 k
theorem Fx.rf (u : zM) : Fx u u := ⟨fun _ _ _ => rfl, fun _ _ => rfl⟩
theorem Fx.tr {u v w : zM} (h : Fx u v) (h' : Fx v w) : Fx u w := ⟨fun j a b => (h'.1 j a b).trans (h.1 j a b), fun k a => (h'.2 k a).trans (h.2 k a)⟩
theorem Fk.x {u v : zM} (h : Fk u v) : Fx u v := ⟨fun j a _ => h.1 j a, fun k a => h.2 k (by omega)⟩
theorem Fx.d (u : zM) (i : Nat) (x : Int32) : Fx u (zU u 4 i x) := ⟨fun _ _ b => zU_ne _ _ _ b, fun _ _ => by rw [zU_ne _ _ _ (by decide)]⟩
theorem Fx.c (u : zM) {i : Nat} (h : i = 5 ∨ i = 6 ∨ i = 7) (x : Int32) : Fx u (zU u 0 i x) := ⟨fun _ a _ => zU_ne _ _ _ a, fun k a => zu_j _ _ _ _ (by omega)⟩
def FS (S S' : Nat → zM) : Prop := ∀ j, j ≠ 1 → j ≠ 2 → j ≠ 3 → S' j = S j
theorem FS.tr {S T U : Nat → zM} (h : FS S T) (h' : FS T U) : FS S U := fun j a b c => (h' j a b c).trans (h j a b c)
theorem FS.of2 {S S' : Nat → zM} (h : ∀ j, j ≠ 1 → j ≠ 2 → S' j = S j) : FS S S' := fun j a b _ => h j a b
theorem PN.le {t q q' : Nat} {S : Nat → zM} {u : zM} (h : PN t q S u) (hq : q' ≤ q) : PN t q' S u := by
  obtain ⟨T1, b, e, a1, a2, a3, a4⟩ := h
  exact ⟨T1, b, e, a1, a2, a3, by omega⟩
/-- what is told and the draft tell the same -/
def DR (P n : Nat) (S : Nat → zM) (u : zM) : Prop := P ≤ 4 ∧ n ≤ 6 ∧ S 3 0 0 = Int32.ofNat P ∧ u 0 5 = Int32.ofNat P ∧ S 3 0 1 = Int32.ofNat n ∧ u 4 34 = Int32.ofNat n ∧ S 3 0 2 = 0 ∧ u 4 41 = 0 ∧
  (∃ wm, wm < 64 ∧ S 2 0 3 = Int32.ofNat wm ∧ u 0 6 = Int32.ofNat wm) ∧
  (∀ p, p < P → ∃ x, x < 10 ∧ S 3 1 p = Int32.ofNat x ∧ u 4 p = Int32.ofNat x) ∧
  (∀ b, b < n → ∃ k s o x, k < 4 ∧ 1 ≤ s ∧ s < 10 ∧ o < 4 ∧ x < 10 ∧ S 3 2 b = Int32.ofNat k ∧ u 4 (4 + 5 * b) = Int32.ofNat k ∧ S 3 3 b = Int32.ofNat s ∧ u 4 (5 + 5 * b) = Int32.ofNat s ∧ S 3 4 b = Int32.ofNat o ∧ u 4 (6 + 5 * b) = Int32.ofNat o ∧ S 3 5 b = -4 ∧ u 4 (8 + 5 * b) = -4 ∧ S 3 6 b = Int32.ofNat x ∧ u 4 (7 + 5 * b) = Int32.ofNat x) ∧
  (∀ k, k < 6 → ∃ x, x < 10 ∧ S 3 7 k = Int32.ofNat x ∧ u 4 (35 + k) = Int32.ofNat x) ∧ u 4 42 = 0 ∧
  ((n = 0 ∧ u 0 7 = -4) ∨ ∃ h, h < 4 ∧ u 0 7 = Int32.ofNat h ∧ (∀ b, b < n → ∃ o, o ≤ h ∧ u 4 (6 + 5 * b) = Int32.ofNat o) ∧ ∃ b, b < n ∧ u 4 (6 + 5 * b) = Int32.ofNat h)
theorem DR.keep {P n : Nat} {S S' : Nat → zM} {u u' : zM} (h : DR P n S u) (h3 : S' 3 = S 3) (h2 : S' 2 0 3 = S 2 0 3) (h4 : u' 4 = u 4) (h5 : u' 0 5 = u 0 5) (h6 : u' 0 6 = u 0 6) (h7 : u' 0 7 = u 0 7) : DR P n S' u' := by
  unfold DR at h ⊢
  rw [h3, h2, h4, h5, h6, h7]
  exact h
theorem DR.fk {P n : Nat} {S S' : Nat → zM} {u u' : zM} (h : DR P n S u) (h3 : S' 3 = S 3) (h2 : S' 2 0 3 = S 2 0 3) (hf : Fk u u') : DR P n S' u' :=
  h.keep h3 h2 (hf.1 4 (by decide)) (hf.2 5 (by decide)) (hf.2 6 (by decide)) (hf.2 7 (by decide))
noncomputable def rlE (u : zM) (k : Int32) : Option zM := (f_X7_readLineOf u k).bind fun r8 => lineE r8
/-- a line's end -/
theorem ln_end {t q : Nat} {S : Nat → zM} {u : zM} {L I N : Int32} {X2 X3 : zM} (m : Nat) (h : PN t q S u) (hN : f_X5_numbersOf L = some N) (hI : N ≤ I) (htake : ∀ T : zM, ∃ S13, f_X5_take (va_up S 1 T) L = some S13 ∧ S13 1 = T ∧ S13 2 = X2 ∧ S13 3 = X3 ∧ ∀ j, j ≠ 1 → j ≠ 2 → j ≠ 3 → S13 j = S j) :
    (∃ S' u', f_X5_takeLine_43 (m + 1) S L I = some (true, S') ∧ lineE u = some u' ∧ PN t (q + 1) S' u' ∧ S' 2 = X2 ∧ S' 3 = X3 ∧ FS S S' ∧ Fk u u') ∨
    (∃ S' u', f_X5_takeLine_43 (m + 1) S L I = some (false, S') ∧ lineE u = some u' ∧ BO S' u' ∧ FS S S' ∧ Fk u u') := by
  obtain ⟨T1, f1, hs⟩ := sgn_step h
  rw [f_X5_takeLine_43, hN]
  simp only [Option.bind_some]
  rw [if_pos hI, f1]
  simp only [Option.bind_some, zlet_eq]
  rcases hs with ⟨u', g1, g2, g3, g4⟩ | ⟨S', u', g1, g2, g3, g4, g5⟩
  · obtain ⟨S13, k1, k2, k3, k4, k5⟩ := htake T1
    refine Or.inl ⟨S13, u', ?_, g2, g3.keep (by rw [k2, s1]) (fun _ _ _ => rfl) rfl, k3, k4, k5, g4⟩
    rw [g1]
    simp only [Option.bind_some, ↓reduceIte]
    rw [k1]
    rfl
  · refine Or.inr ⟨S', u', ?_, g2, g3, FS.of2 g4, g5⟩
    rw [g1]
    rfl
theorem tl_num (m : Nat) (S : Nat → zM) {L I N : Int32} (hN : f_X5_numbersOf L = some N) (hI : ¬ N ≤ I) : f_X5_takeLine_43 (m + 1) S L I = (f_X5_takeNumber S L I).bind fun r14 => if r14.1 = true then f_X5_takeLine_43 m r14.2 L (I + 1) else some (false, r14.2) := by
  rw [f_X5_takeLine_43, hN]
  simp only [Option.bind_some]
  rw [if_neg hI]
  rfl
theorem FU4 : ∃ m, FU = m + 1 + 1 + 1 + 1 := ⟨FU - 4, by have := FU_pos (k := 4) (by decide); omega⟩
def LR (t q : Nat) (S : Nat → zM) (u : zM) (L : Int32) : Prop :=
    (∃ P n S' u', f_X5_takeLine_43 FU S L 0 = some (true, S') ∧ rlE u L = some u' ∧ PN t q S' u' ∧ DR P n S' u' ∧ FS S S' ∧ Fx u u' ∧ S' 2 0 4 = S 2 0 4 ∧ S' 2 0 5 = S 2 0 5) ∨
    (∃ S' u', f_X5_takeLine_43 FU S L 0 = some (false, S') ∧ rlE u L = some u' ∧ BO S' u' ∧ FS S S' ∧ Fx u u')
theorem BO.keep {S : Nat → zM} {u u' : zM} (h : BO S u) (a : u' 0 14 = u 0 14) (b : u' 0 15 = u 0 15) : BO S u' := by
  obtain ⟨f, q, h1, h2, h3⟩ := h
  exact ⟨f, q, h1.keep a b, h2, h3⟩
theorem BO.line {S : Nat → zM} {u : zM} (h : BO S u) : lineE u = some u := by
  obtain ⟨f, q, h1, -⟩ := h
  exact dd_line h1
theorem BO.num {S : Nat → zM} {u : zM} (h : BO S u) (lo hi : Int32) : f_X7_readNumber u lo hi = some (0, u) := by
  obtain ⟨f, q, h1, -⟩ := h
  exact dd_num h1 lo hi
theorem BO.takes {S : Nat → zM} {u : zM} (h : BO S u) : f_X7_takes u = some u := by
  obtain ⟨f, q, h1, -⟩ := h
  exact dd_takes h1
/-- one -/
theorem ln_one {t q P n : Nat} {S : Nat → zM} {u : zM} (h : PN t q S u) (hD : DR P n S u) (hP : P < 4) : LR t q S u 4 := by
  obtain ⟨m, hm⟩ := FU4
  obtain ⟨d1, d2, d3, d4, d5, d6, d7, d8, d9, d10, d11, d12, d13, d14⟩ := id hD
  have hN : f_X5_numbersOf 4 = some 1 := by decide +kernel
  have i61 : z_in (Int32.ofNat P) 61 = true := z_inN (by omega) (by decide)
  have c61 : (Int32.ofNat P).toNatClampNeg = P := o_cl (by omega)
  have ns := num_step (lo := 0) (hi := 9) (i := 0) (L := 4) h (by decide) (by decide) (by decide) (by decide) (by decide +kernel) (by decide +kernel)
  have e43 : f_X5_takeLine_43 FU S 4 0 = (f_X5_takeNumber S 4 0).bind fun r14 => if r14.1 = true then f_X5_takeLine_43 (m + 1 + 1 + 1) r14.2 4 (0 + 1) else some (false, r14.2) := by
    rw [hm]
    exact tl_num (m + 1 + 1 + 1) S hN (show ¬ (1 : Int32) ≤ 0 by decide)
  have er : rlE u 4 = (f_X7_readNumber u 0 9).bind fun r2 => lineE (zU (zU r2.2 4 P r2.1) 0 5 (zU r2.2 4 P r2.1 0 5 + 1)) := by
    unfold rlE f_X7_readLineOf
    rw [if_pos rfl, d4]
    simp only [i61, c61, ↓reduceIte, zlet_eq]
    cases f_X7_readNumber u 0 9 with
    | none => rfl
    | some r => rfl
  rcases ns with ⟨v, S1, u1, v0, v9, g1, g2, g3, g4, g5, g6⟩ | ⟨S1, u1, g1, g2, g3, g4, g5⟩
  · have g1 : f_X5_takeNumber S 4 0 = some (true, S1) := g1
    have g2 : f_X7_readNumber u 0 9 = some (Int32.ofNat v, u1) := g2
    have u15 : u1 0 5 = Int32.ofNat P := (g6.2 5 (by decide)).trans d4
    have S13 : S1 3 = S 3 := g5 3 (by decide) (by decide)
    have hu : zU (zU u1 4 P (Int32.ofNat v)) 0 5 (zU u1 4 P (Int32.ofNat v) 0 5 + 1) = zU (zU u1 4 P (Int32.ofNat v)) 0 5 (Int32.ofNat (P + 1)) := by
      rw [zU_ne _ _ _ (show 0 ≠ 4 by decide), u15, o_1]
    have hpn : PN t (q + 1) S1 (zU (zU u1 4 P (Int32.ofNat v)) 0 5 (Int32.ofNat (P + 1))) := g3.keep rfl (fun k h1 h2 => by rw [zu_j _ _ _ _ (by omega), zU_ne _ _ _ (by decide)]) (by rw [zU_ne _ _ _ (by decide), zU_ne _ _ _ (by decide)])
    have htake : ∀ T : zM, ∃ S13, f_X5_take (va_up S1 1 T) 4 = some S13 ∧ S13 1 = T ∧ S13 2 = S1 2 ∧ S13 3 = zU (zU (S 3) 1 P (Int32.ofNat v)) 0 0 (Int32.ofNat (P + 1)) ∧ ∀ j, j ≠ 1 → j ≠ 2 → j ≠ 3 → S13 j = S1 j := by
      intro T
      unfold f_X5_take f_X0_addOne f_X0_hasRoomForOne
      rw [if_pos rfl, if_pos (show z_in 0 3 = true by decide), va_up_neq S1 T (show 3 ≠ 1 by decide), va_up_neq S1 T (show 2 ≠ 1 by decide), S13, d3, if_neg (show ¬ (4 : Int32) ≤ Int32.ofNat P from nle (a := 4) hP (by decide)), g4, show (0 : Int32).toNatClampNeg = 0 from rfl, zu_eq]
      simp only [Option.bind_some, ↓reduceIte, zlet_eq]
      rw [if_pos (z_inN (show P < 4 by omega) (by decide)), c61]
      simp only [Option.bind_some]
      rw [zU_ne _ _ _ (show 0 ≠ 1 by decide), d3, o_1]
      refine ⟨_, rfl, ?_, ?_, va_up_eq _ _ _, fun j a b c => ?_⟩
      · rw [va_up_neq _ _ (by decide), va_up_eq]
      · rw [va_up_neq _ _ (by decide), va_up_neq _ _ (by decide), g4]
      · rw [va_up_neq _ _ c, va_up_neq _ _ a]
    have fx : Fx u (zU (zU u1 4 P (Int32.ofNat v)) 0 5 (Int32.ofNat (P + 1))) := g6.x.tr ((Fx.d u1 P _).tr (Fx.c _ (by decide) _))
    rcases ln_end (m + 1 + 1) hpn hN (show (1 : Int32) ≤ 0 + 1 by decide) htake with ⟨S', u', k1, k2, k3, k4, k5, k6, k7⟩ | ⟨S', u', k1, k2, k3, k4, k5⟩
    · refine Or.inl ⟨P + 1, n, S', u', ?_, ?_, k3.le (by omega), ?_, (FS.of2 g5).tr k6, fx.tr k7.x, ?_, ?_⟩
      · rw [e43, g1]
        exact k1
      · rw [er, g2]
        simp only [Option.bind_some]
        rw [hu]
        exact k2
      · have e4 : u' 4 = upd (u 4) P (Int32.ofNat v) := by
          rw [k7.1 4 (by decide), zU_ne _ _ _ (by decide), zU_row, g6.1 4 (by decide)]
        have e2 : S' 2 0 3 = S 2 0 3 := by rw [k4, g4, zU_ne _ _ _ (by decide)]
        have e5 : u' 0 5 = Int32.ofNat (P + 1) := by rw [k7.2 5 (by decide), zu_eq]
        have e6 : u' 0 6 = u 0 6 := by rw [k7.2 6 (by decide), zu_j _ _ _ _ (by decide), zU_ne _ _ _ (by decide), g6.2 6 (by decide)]
        have e7 : u' 0 7 = u 0 7 := by rw [k7.2 7 (by decide), zu_j _ _ _ _ (by decide), zU_ne _ _ _ (by decide), g6.2 7 (by decide)]
        unfold DR
        rw [k5, e4, e2, e5, e6, e7]
        refine ⟨by omega, d2, zu_eq _ _ _ _, rfl, ?_, ?_, ?_, ?_, d9, ?_, ?_, ?_, ?_, ?_⟩
        · rw [zu_j _ _ _ _ (by decide), zU_ne _ _ _ (by decide)]; exact d5
        · rw [up_ne _ _ _ (by omega)]; exact d6
        · rw [zu_j _ _ _ _ (by decide), zU_ne _ _ _ (by decide)]; exact d7
        · rw [up_ne _ _ _ (by omega)]; exact d8
        · intro p hp
          rw [zU_ne _ _ _ (by decide)]
          by_cases hpp : p = P
          · subst hpp
            rw [zu_eq, up_eq]
            exact ⟨v, by omega, rfl, rfl⟩
          · rw [zu_j _ _ _ _ hpp, up_ne _ _ _ hpp]
            exact d10 p (by omega)
        · intro b hb
          simp (disch := omega) only [zU_ne, up_ne]
          exact d11 b hb
        · intro k hk
          simp (disch := omega) only [zU_ne, up_ne]
          exact d12 k hk
        · rw [up_ne _ _ _ (by omega)]; exact d13
        · rcases d14 with d | ⟨hh, h1, h2, h3, b, h4, h5⟩
          · exact Or.inl d
          · refine Or.inr ⟨hh, h1, h2, fun b hb => ?_, b, h4, ?_⟩
            · rw [up_ne _ _ _ (by omega)]; exact h3 b hb
            · rw [up_ne _ _ _ (by omega)]; exact h5
      · rw [k4, g4, zU_ne _ _ _ (by decide)]
      · rw [k4, g4, zU_ne _ _ _ (by decide)]
    · refine Or.inr ⟨S', u', ?_, ?_, k3, (FS.of2 g5).tr k4, fx.tr k5.x⟩
      · rw [e43, g1]
        exact k1
      · rw [er, g2]
        simp only [Option.bind_some]
        rw [hu]
        exact k2
  · have g1 : f_X5_takeNumber S 4 0 = some (false, S1) := g1
    have g2 : f_X7_readNumber u 0 9 = some (0, u1) := g2
    have bo : BO S1 (zU (zU u1 4 P 0) 0 5 (zU u1 4 P 0 0 5 + 1)) := g3.keep (by rw [zu_j _ _ _ _ (by decide), zU_ne _ _ _ (by decide)]) (by rw [zu_j _ _ _ _ (by decide), zU_ne _ _ _ (by decide)])
    refine Or.inr ⟨S1, _, ?_, ?_, bo, FS.of2 g4, g5.x.tr ((Fx.d u1 P _).tr (Fx.c _ (by decide) _))⟩
    · rw [e43, g1]
      rfl
    · rw [er, g2]
      simp only [Option.bind_some]
      exact bo.line
