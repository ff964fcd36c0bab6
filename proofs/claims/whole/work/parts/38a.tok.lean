/-! text: the tokens -/
def TB (t : Nat) (T u : zM) : Prop := t ≤ 160 ∧ T 0 1 = Int32.ofNat t ∧ u 0 9 = Int32.ofNat t ∧ ∀ i, i < t → ∃ x, x < 128 ∧ T 1 i = Int32.ofNat x ∧ u 5 i = Int32.ofNat x
def FT (T T' : zM) : Prop := (∀ j, j ≠ 0 → T' j = T j) ∧ ∀ k, k < 2 ∨ 5 < k → T' 0 k = T 0 k
def Fk (u u' : zM) : Prop := (∀ j, j ≠ 0 → u' j = u j) ∧ ∀ k, k < 10 ∨ 15 < k → u' 0 k = u 0 k
theorem FT.rf (T : zM) : FT T T := ⟨fun _ _ => rfl, fun _ _ => rfl⟩
theorem FT.tr {T U V : zM} (h : FT T U) (h' : FT U V) : FT T V := ⟨fun j a => (h'.1 j a).trans (h.1 j a), fun k a => (h'.2 k a).trans (h.2 k a)⟩
theorem Fk.rf (T : zM) : Fk T T := ⟨fun _ _ => rfl, fun _ _ => rfl⟩
theorem Fk.tr {T U V : zM} (h : Fk T U) (h' : Fk U V) : Fk T V := ⟨fun j a => (h'.1 j a).trans (h.1 j a), fun k a => (h'.2 k a).trans (h.2 k a)⟩
theorem FT.u (T : zM) {k : Nat} (h : ¬ (k < 2 ∨ 5 < k)) (x : Int32) : FT T (zU T 0 k x) := ⟨fun j a => zU_ne _ _ _ a, fun i a => zu_j _ _ _ _ (fun e => h (e ▸ a))⟩
theorem Fk.u (T : zM) {k : Nat} (h : ¬ (k < 10 ∨ 15 < k)) (x : Int32) : Fk T (zU T 0 k x) := ⟨fun j a => zU_ne _ _ _ a, fun i a => zu_j _ _ _ _ (fun e => h (e ▸ a))⟩
theorem TB.keep {t : Nat} {T u T' u' : zM} (h : TB t T u) (a : FT T T') (b : Fk u u') : TB t T' u' := by
  obtain ⟨h1, h2, h3, h4⟩ := h
  refine ⟨h1, (a.2 1 (by decide)).trans h2, (b.2 9 (by decide)).trans h3, fun i hi => ?_⟩
  rw [a.1 1 (by decide), b.1 5 (by decide)]
  exact h4 i hi
theorem byteAt_in {t q : Nat} {T u : zM} (h : TB t T u) (hq : q < t) : f_X7_byteAt u (Int32.ofNat q) = some (u 5 q) := by
  obtain ⟨h1, h2, h3, h4⟩ := h
  unfold f_X7_byteAt
  rw [h3, if_neg (nle (by omega) (by omega)), if_pos (z_inN (by omega) (by decide)), o_cl (by omega)]
theorem byteAt_out {t q : Nat} {T u : zM} (h : TB t T u) (hq : t ≤ q) (hq2 : q < 1000) : f_X7_byteAt u (Int32.ofNat q) = some (-1) := by
  obtain ⟨h1, h2, h3, h4⟩ := h
  unfold f_X7_byteAt
  rw [h3, if_pos ((o_le (by omega) (by omega)).mpr hq)]
theorem let_eq (v : Int32) : f_X4_isLetter v = some (zw v 97 122) := within_g v 97 122
theorem fig_eq (v : Int32) : f_X4_isFigure v = some (zw v 48 57) := within_g v 48 57
noncomputable def tkE (u : zM) : Option zM := zlet (zU u 0 11 (u 0 10)) fun u3 => (f_X7_byteAt u3 (u3 0 10)).bind fun r4 => if 0 ≤ r4 then (f_X7_in (Int32.toInt64 r4) (97 : Int64) (122 : Int64)).bind fun r5 => if r5 = true then zlet (zU u3 0 12 1) fun u6 => f_X7_takes_82 FU u6 else (f_X7_in (Int32.toInt64 r4) (48 : Int64) (57 : Int64)).bind fun r10 => if r10 = true then zlet (zU u3 0 12 2) fun u11 => zlet (zU u11 0 13 0) fun u12 => f_X7_takes_140 FU u12 else zlet (zU u3 0 12 3) fun u24 => if r4 = 59 then f_X7_takes_260 u24 true else f_X7_takes_260 u24 false else zlet (zU u3 0 12 0) fun u28 => some u28
theorem skip_loop {t : Nat} (k : Nat) : ∀ (m m' q : Nat) (T u : zM), TB t T u → T 0 4 = Int32.ofNat q → u 0 10 = Int32.ofNat q → q + k = t → k < m → k < m' → ∃ T1 u1 q', f_X4_readToken_0 m T = f_X4_readToken_38 T1 ∧ f_X7_takes_8 m' u = tkE u1 ∧ FT T T1 ∧ Fk u u1 ∧ T1 0 4 = Int32.ofNat q' ∧ u1 0 10 = Int32.ofNat q' ∧ q ≤ q' ∧ q' ≤ t ∧ u1 0 14 = u 0 14 := by
  induction k with
  | zero =>
    intro m m' q T u h hT hu hq hm hm'
    obtain ⟨m, rfl⟩ : ∃ q, m = q + 1 := ⟨m - 1, by omega⟩
    obtain ⟨m', rfl⟩ : ∃ q, m' = q + 1 := ⟨m' - 1, by omega⟩
    have h1 := h.1
    rw [f_X4_readToken_0, f_X7_takes_8, h.2.1, hT, if_pos ((o_le (by omega) (by omega)).mpr (show t ≤ q by omega)), hu, byteAt_out h (show t ≤ q by omega) (by omega)]
    simp only [Option.bind_some]
    rw [if_neg (show ¬ (-1 : Int32) = 32 by decide), ← hu]
    exact ⟨T, u, q, rfl, rfl, FT.rf T, Fk.rf u, hT, hu, Nat.le_refl _, by omega, rfl⟩
  | succ k ih =>
    intro m m' q T u h hT hu hq hm hm'
    obtain ⟨m, rfl⟩ : ∃ q, m = q + 1 := ⟨m - 1, by omega⟩
    obtain ⟨m', rfl⟩ : ∃ q, m' = q + 1 := ⟨m' - 1, by omega⟩
    have h1 := h.1
    obtain ⟨x, hx, b1, b2⟩ := h.2.2.2 q (by omega)
    rw [f_X4_readToken_0, f_X7_takes_8, h.2.1, hT, if_neg (nle (by omega) (by omega)), if_pos (z_inN (show q < 160 by omega) (by decide)), o_cl (show q < 2 ^ 31 by omega), b1, hu, byteAt_in h (show q < t by omega), b2]
    simp only [Option.bind_some]
    by_cases hc : Int32.ofNat x = 32
    · rw [if_pos hc, if_pos hc, zlet_eq, zlet_eq, o_1]
      obtain ⟨T1, u1, q', f1, f2, f3, f4, f5, f6, f7, f8, f9⟩ := ih m m' (q + 1) (zU T 0 4 (Int32.ofNat (q + 1))) (zU u 0 10 (Int32.ofNat (q + 1))) (h.keep (FT.u T (by decide) _) (Fk.u u (by decide) _)) (zu_eq _ _ _ _) (zu_eq _ _ _ _) (by omega) (by omega) (by omega)
      exact ⟨T1, u1, q', f1, f2, (FT.u T (by decide) _).tr f3, (Fk.u u (by decide) _).tr f4, f5, f6, by omega, f8, f9.trans (zu_j _ _ _ _ (by decide))⟩
    · rw [if_neg hc, if_neg hc, ← hu]
      exact ⟨T, u, q, rfl, rfl, FT.rf T, Fk.rf u, hT, hu, Nat.le_refl _, by omega, rfl⟩
/-- only the place of reading moves -/
def Mv (c : Nat) (T T' : zM) : Prop := (∀ j, j ≠ 0 → T' j = T j) ∧ ∀ k, k ≠ c → T' 0 k = T 0 k
theorem Mv.ft {T T' : zM} (h : Mv 4 T T') : FT T T' := ⟨h.1, fun k a => h.2 k (by omega)⟩
theorem Mv.fk {T T' : zM} (h : Mv 10 T T') : Fk T T' := ⟨h.1, fun k a => h.2 k (by omega)⟩
theorem name_loop {t : Nat} (k : Nat) : ∀ (m m' q : Nat) (T u : zM), TB t T u → T 0 4 = Int32.ofNat q → u 0 10 = Int32.ofNat q → q + k = t → k < m → k < m' → ∃ T' u' e, f_X4_readName_5 m T = some T' ∧ f_X7_takes_82 m' u = some u' ∧ Mv 4 T T' ∧ Mv 10 u u' ∧ T' 0 4 = Int32.ofNat e ∧ u' 0 10 = Int32.ofNat e ∧ q ≤ e ∧ e ≤ t ∧ (q < t → zw (u 5 q) 97 122 = true → q < e) := by
  induction k with
  | zero =>
    intro m m' q T u h hT hu hq hm hm'
    obtain ⟨m, rfl⟩ : ∃ q, m = q + 1 := ⟨m - 1, by omega⟩
    obtain ⟨m', rfl⟩ : ∃ q, m' = q + 1 := ⟨m' - 1, by omega⟩
    have h1 := h.1
    rw [f_X4_readName_5, f_X7_takes_82, h.2.1, hT, if_pos ((o_le (by omega) (by omega)).mpr (show t ≤ q by omega)), hu, byteAt_out h (show t ≤ q by omega) (by omega)]
    simp only [Option.bind_some]
    rw [in_97_122]
    exact ⟨T, u, q, rfl, rfl, ⟨fun _ _ => rfl, fun _ _ => rfl⟩, ⟨fun _ _ => rfl, fun _ _ => rfl⟩, hT, hu, Nat.le_refl _, by omega, fun a => by omega⟩
  | succ k ih =>
    intro m m' q T u h hT hu hq hm hm'
    obtain ⟨m, rfl⟩ : ∃ q, m = q + 1 := ⟨m - 1, by omega⟩
    obtain ⟨m', rfl⟩ : ∃ q, m' = q + 1 := ⟨m' - 1, by omega⟩
    have h1 := h.1
    obtain ⟨x, hx, b1, b2⟩ := h.2.2.2 q (by omega)
    rw [f_X4_readName_5, f_X7_takes_82, h.2.1, hT, if_neg (nle (by omega) (by omega)), if_pos (z_inN (show q < 160 by omega) (by decide)), o_cl (show q < 2 ^ 31 by omega), b1, hu, byteAt_in h (show q < t by omega), b2, let_eq]
    simp only [Option.bind_some]
    rw [in_97_122]
    simp only [Option.bind_some]
    cases hz : zw (Int32.ofNat x) 97 122 with
    | true =>
      simp only [↓reduceIte, zlet_eq]
      rw [o_1]
      obtain ⟨T', u', e, f1, f2, f3, f4, f5, f6, f7, f8, -⟩ := ih m m' (q + 1) (zU T 0 4 (Int32.ofNat (q + 1))) (zU u 0 10 (Int32.ofNat (q + 1))) (h.keep (FT.u T (by decide) _) (Fk.u u (by decide) _)) (zu_eq _ _ _ _) (zu_eq _ _ _ _) (by omega) (by omega) (by omega)
      refine ⟨T', u', e, f1, f2, ⟨fun j a => ?_, fun i a => ?_⟩, ⟨fun j a => ?_, fun i a => ?_⟩, f5, f6, by omega, f8, fun _ _ => by omega⟩
      · rw [f3.1 j a, zU_ne _ _ _ a]
      · rw [f3.2 i a, zu_j _ _ _ _ a]
      · rw [f4.1 j a, zU_ne _ _ _ a]
      · rw [f4.2 i a, zu_j _ _ _ _ a]
    | false =>
      simp only [Bool.false_eq_true, ↓reduceIte]
      exact ⟨T, u, q, rfl, rfl, ⟨fun _ _ => rfl, fun _ _ => rfl⟩, ⟨fun _ _ => rfl, fun _ _ => rfl⟩, hT, hu, Nat.le_refl _, by omega, fun _ a => absurd a (by decide)⟩
/-- the end of a number -/
def NE (b e : Nat) (T u T' u' : zM) : Prop := FT T T' ∧ Fk u u' ∧ T' 0 3 = Int32.ofNat b ∧ u' 0 11 = Int32.ofNat b ∧ T' 0 4 = Int32.ofNat e ∧ u' 0 10 = Int32.ofNat e ∧ ((T' 0 2 = 4 ∧ u' 0 14 = 1 ∧ u' 0 15 = Int32.ofNat b) ∨ (u' 0 14 = 0 ∧ T' 0 2 = 2 ∧ u' 0 12 = 2 ∧ ∃ v, v < 100 ∧ T' 0 5 = Int32.ofNat v ∧ u' 0 13 = Int32.ofNat v))
theorem num_end {b q v : Nat} {T u : zM} (hb : b ≤ q) (hq : q < 1000) (hT3 : T 0 3 = Int32.ofNat b) (hu11 : u 0 11 = Int32.ofNat b) (hT : T 0 4 = Int32.ofNat q) (hu : u 0 10 = Int32.ofNat q) (h14 : u 0 14 = 0) (h12 : u 0 12 = 2) (hv : v < 100) (hT5 : T 0 5 = Int32.ofNat v) (hu13 : u 0 13 = Int32.ofNat v) : ∃ T' u', f_X4_readNumber_81 T = some T' ∧ (if 2 < ((u 0 10) - (u 0 11)) then (f_X7_needs u 0 1).bind fun r20 => zlet r20 fun u21 => some u21 else (f_X7_needs u 1 1).bind fun r22 => zlet r22 fun u23 => some u23) = some u' ∧ NE b q T u T' u' := by
  have es : Int32.ofNat q - Int32.ofNat b = Int32.ofNat (q - b) := pk_sub hb
  unfold f_X4_readNumber_81 f_X7_needs
  rw [hT, hT3, hu, hu11, es, if_pos rfl, if_neg (show ¬ (1 : Int32) = 0 by decide), if_pos h14]
  by_cases hc : q - b ≤ 2
  · rw [if_pos (show Int32.ofNat (q - b) ≤ 2 from (o_le (b := 2) (by omega) (by decide)).mpr hc), if_neg (show ¬ (2 : Int32) < Int32.ofNat (q - b) from i32_nlt.mpr ((o_le (b := 2) (by omega) (by decide)).mpr hc))]
    refine ⟨_, _, rfl, rfl, FT.u T (by decide) _, Fk.rf u, ?_, hu11, ?_, hu, Or.inr ⟨h14, zu_eq _ _ _ _, h12, v, hv, ?_, hu13⟩⟩
    · rw [zu_j _ _ _ _ (by decide)]; exact hT3
    · rw [zu_j _ _ _ _ (by decide)]; exact hT
    · rw [zu_j _ _ _ _ (by decide)]; exact hT5
  · rw [if_neg (show ¬ Int32.ofNat (q - b) ≤ 2 from nle (b := 2) (by omega) (by omega)), if_pos (show (2 : Int32) < Int32.ofNat (q - b) from (o_lt (a := 2) (by decide) (by omega)).mpr (by omega))]
    simp only [zlet_eq, Option.bind_some]
    refine ⟨_, _, rfl, rfl, FT.u T (by decide) _, (Fk.u u (by decide) _).tr (Fk.u _ (by decide) _), ?_, ?_, ?_, ?_, Or.inl ⟨zu_eq _ _ _ _, ?_, ?_⟩⟩
    · rw [zu_j _ _ _ _ (by decide)]; exact hT3
    · rw [zu_j _ _ _ _ (by decide), zu_j _ _ _ _ (by decide)]; exact hu11
    · rw [zu_j _ _ _ _ (by decide)]; exact hT
    · rw [zu_j _ _ _ _ (by decide), zu_j _ _ _ _ (by decide)]; exact hu
    · rw [zu_j _ _ _ _ (by decide), zu_eq]
    · rw [zu_eq, zu_j _ _ _ _ (by decide)]; exact hu11
theorem fig_key : ∀ v : Nat, v < 10 → ∀ x : Nat, x < 128 → zw (Int32.ofNat x) 48 57 = true → 10 * Int32.ofNat v + Int32.ofNat x - 48 = Int32.ofNat (10 * v + (x - 48)) ∧ 48 ≤ x ∧ x ≤ 57 := by decide +kernel
theorem num_loop {t b : Nat} (k : Nat) : ∀ (m m' q v : Nat) (T u : zM), TB t T u → b ≤ q → T 0 3 = Int32.ofNat b → u 0 11 = Int32.ofNat b → T 0 4 = Int32.ofNat q → u 0 10 = Int32.ofNat q → u 0 14 = 0 → u 0 12 = 2 → T 0 5 = Int32.ofNat v → u 0 13 = Int32.ofNat v → (q = b → v = 0) → (q = b + 1 → v < 10) → v < 100 → q + k = t → k < m → k < m' → ∃ T' u' e, f_X4_readNumber_5 m T = some T' ∧ f_X7_takes_140 m' u = some u' ∧ NE b e T u T' u' ∧ q ≤ e ∧ e ≤ t ∧ (q < t → zw (u 5 q) 48 57 = true → q < e) := by
  induction k with
  | zero =>
    intro m m' q v T u h hb hT3 hu11 hT hu h14 h12 hT5 hu13 v0 v1 v2 hq hm hm'
    obtain ⟨m, rfl⟩ : ∃ q, m = q + 1 := ⟨m - 1, by omega⟩
    obtain ⟨m', rfl⟩ : ∃ q, m' = q + 1 := ⟨m' - 1, by omega⟩
    have h1 := h.1
    obtain ⟨T', u', f1, f2, f3⟩ := num_end hb (by omega) hT3 hu11 hT hu h14 h12 v2 hT5 hu13
    refine ⟨T', u', q, ?_, ?_, f3, Nat.le_refl _, by omega, fun a => by omega⟩
    · rw [f_X4_readNumber_5, h.2.1, hT, if_pos ((o_le (by omega) (by omega)).mpr (show t ≤ q by omega))]
      exact f1
    · rw [f_X7_takes_140]
      rw [show f_X7_byteAt u (u 0 10) = some (-1) by rw [hu]; exact byteAt_out h (show t ≤ q by omega) (by omega)]
      simp only [Option.bind_some]
      rw [in_48_57]
      exact f2
  | succ k ih =>
    intro m m' q v T u h hb hT3 hu11 hT hu h14 h12 hT5 hu13 v0 v1 v2 hq hm hm'
    obtain ⟨m, rfl⟩ : ∃ q, m = q + 1 := ⟨m - 1, by omega⟩
    obtain ⟨m', rfl⟩ : ∃ q, m' = q + 1 := ⟨m' - 1, by omega⟩
    have h1 := h.1
    obtain ⟨x, hx, b1, b2⟩ := h.2.2.2 q (by omega)
    have eb : f_X7_byteAt u (u 0 10) = some (Int32.ofNat x) := by rw [hu, byteAt_in h (show q < t by omega), b2]
    rw [f_X4_readNumber_5, f_X7_takes_140, eb]
    simp only [Option.bind_some]
    rw [in_48_57, h.2.1, hT, if_neg (nle (by omega) (by omega)), if_pos (z_inN (show q < 160 by omega) (by decide)), o_cl (show q < 2 ^ 31 by omega), b1, fig_eq]
    simp only [Option.bind_some]
    cases hz : zw (Int32.ofNat x) 48 57 with
    | false =>
      obtain ⟨T', u', f1, f2, f3⟩ := num_end hb (by omega) hT3 hu11 hT hu h14 h12 v2 hT5 hu13
      simp only [Bool.false_eq_true, ↓reduceIte]
      exact ⟨T', u', q, f1, f2, f3, Nat.le_refl _, by omega, fun _ a => by rw [b2, hz] at a; exact absurd a (by decide)⟩
    | true =>
      have es : Int32.ofNat q - Int32.ofNat b = Int32.ofNat (q - b) := pk_sub hb
      simp only [↓reduceIte, zlet_eq]
      rw [hu, hu11, hT3, es, hT5, hu13]
      by_cases hc : 2 ≤ q - b
      · have hc' : (2 : Int32) ≤ Int32.ofNat (q - b) := (o_le (a := 2) (by decide) (by omega)).mpr hc
        rw [if_pos hc', if_pos hc', zu_j _ _ _ _ (show 10 ≠ 13 by decide), hu, o_1]
        obtain ⟨T', u', e, f1, f2, f3, f4, f5, -⟩ := ih m m' (q + 1) v (zU T 0 4 (Int32.ofNat (q + 1))) (zU (zU u 0 13 (Int32.ofNat v)) 0 10 (Int32.ofNat (q + 1))) (h.keep (FT.u T (by decide) _) ((Fk.u u (by decide) _).tr (Fk.u _ (by decide) _))) (by omega) (by rw [zu_j _ _ _ _ (by decide)]; exact hT3) (by rw [zu_j _ _ _ _ (by decide), zu_j _ _ _ _ (by decide)]; exact hu11) (zu_eq _ _ _ _) (zu_eq _ _ _ _) (by rw [zu_j _ _ _ _ (by decide), zu_j _ _ _ _ (by decide)]; exact h14) (by rw [zu_j _ _ _ _ (by decide), zu_j _ _ _ _ (by decide)]; exact h12) (by rw [zu_j _ _ _ _ (by decide)]; exact hT5) (by rw [zu_j _ _ _ _ (by decide), zu_eq]) (by omega) (by omega) v2 (by omega) (by omega) (by omega)
        obtain ⟨g1, g2, g3⟩ := f3
        exact ⟨T', u', e, f1, f2, ⟨(FT.u T (by decide) _).tr g1, ((Fk.u u (by decide) _).tr (Fk.u _ (by decide) _)).tr g2, g3⟩, by omega, f5, fun _ _ => by omega⟩
      · have hc' : ¬ (2 : Int32) ≤ Int32.ofNat (q - b) := nle (a := 2) (by omega) (by decide)
        have v10 : v < 10 := by
          rcases (show q = b ∨ q = b + 1 by omega) with e | e
          · have := v0 e; omega
          · exact v1 e
        obtain ⟨k1, k2, k3⟩ := fig_key v v10 x hx hz
        rw [if_neg hc', if_neg hc', if_pos (z_inN (show q < 160 by omega) (by decide)), k1, zu_j _ _ _ _ (show 4 ≠ 5 by decide), hT, zu_j _ _ _ _ (show 10 ≠ 13 by decide), hu, o_1]
        obtain ⟨T', u', e, f1, f2, f3, f4, f5, -⟩ := ih m m' (q + 1) (10 * v + (x - 48)) (zU (zU T 0 5 (Int32.ofNat (10 * v + (x - 48)))) 0 4 (Int32.ofNat (q + 1))) (zU (zU u 0 13 (Int32.ofNat (10 * v + (x - 48)))) 0 10 (Int32.ofNat (q + 1))) (h.keep ((FT.u T (by decide) _).tr (FT.u _ (by decide) _)) ((Fk.u u (by decide) _).tr (Fk.u _ (by decide) _))) (by omega) (by rw [zu_j _ _ _ _ (by decide), zu_j _ _ _ _ (by decide)]; exact hT3) (by rw [zu_j _ _ _ _ (by decide), zu_j _ _ _ _ (by decide)]; exact hu11) (zu_eq _ _ _ _) (zu_eq _ _ _ _) (by rw [zu_j _ _ _ _ (by decide), zu_j _ _ _ _ (by decide)]; exact h14) (by rw [zu_j _ _ _ _ (by decide), zu_j _ _ _ _ (by decide)]; exact h12) (by rw [zu_j _ _ _ _ (by decide), zu_eq]) (by rw [zu_j _ _ _ _ (by decide), zu_eq]) (by omega) (fun e => by have := v0 (by omega); omega) (by omega) (by omega) (by omega) (by omega)
        obtain ⟨g1, g2, g3⟩ := f3
        exact ⟨T', u', e, f1, f2, ⟨((FT.u T (by decide) _).tr (FT.u _ (by decide) _)).tr g1, ((Fk.u u (by decide) _).tr (Fk.u _ (by decide) _)).tr g2, g3⟩, by omega, f5, fun _ _ => by omega⟩
/-- a token has been read, by both -/
def TK (t b e : Nat) (T u : zM) : Prop := b ≤ e ∧ e ≤ t ∧ T 0 3 = Int32.ofNat b ∧ u 0 11 = Int32.ofNat b ∧ T 0 4 = Int32.ofNat e ∧ u 0 10 = Int32.ofNat e ∧ ((T 0 2 = 4 ∧ u 0 14 = 1 ∧ u 0 15 = Int32.ofNat b ∧ b < e) ∨ (u 0 14 = 0 ∧ ∃ s, s ≤ 3 ∧ T 0 2 = Int32.ofNat s ∧ u 0 12 = Int32.ofNat s ∧ (s = 0 → b = t) ∧ (s ≠ 0 → b < e) ∧ (s = 2 → ∃ v, v < 100 ∧ T 0 5 = Int32.ofNat v ∧ u 0 13 = Int32.ofNat v)))
theorem tok {t q : Nat} {T u : zM} (h : TB t T u) (hT : T 0 4 = Int32.ofNat q) (hu : u 0 10 = Int32.ofNat q) (hq : q ≤ t) (h14 : u 0 14 = 0) : ∃ T' u' b e, f_X4_readToken T = some T' ∧ f_X7_takes u = some u' ∧ FT T T' ∧ Fk u u' ∧ TB t T' u' ∧ TK t b e T' u' ∧ q ≤ b := by
  have h1 := h.1
  obtain ⟨T1, u1, b, f1, f2, f3, f4, f5, f6, f7, f8, f9⟩ := skip_loop (t - q) FU FU q T u h hT hu (by omega) (FU_pos (by omega)) (FU_pos (by omega))
  have hb := h.keep f3 f4
  have h14' : u1 0 14 = 0 := f9.trans h14
  have e1 : f_X4_readToken T = f_X4_readToken_38 T1 := f1
  have e2 : f_X7_takes u = tkE u1 := by
    unfold f_X7_takes
    rw [h14, if_pos (Int32.le_refl _)]
    exact f2
  rw [e1, e2]
  unfold f_X4_readToken_38 tkE f_X4_readName f_X4_readNumber
  simp only [zlet_eq]
  have hb3 : TB t (zU T1 0 3 (Int32.ofNat b)) (zU u1 0 11 (Int32.ofNat b)) := hb.keep (FT.u _ (by decide) _) (Fk.u _ (by decide) _)
  rw [f5, f6]
  have w1 : zU T1 0 3 (Int32.ofNat b) 0 3 = Int32.ofNat b := zu_eq _ _ _ _
  have w2 : zU T1 0 3 (Int32.ofNat b) 0 1 = Int32.ofNat t := hb3.2.1
  have w3 : zU u1 0 11 (Int32.ofNat b) 0 10 = Int32.ofNat b := (zu_j _ _ _ _ (by decide)).trans f6
  have w4 : zU T1 0 3 (Int32.ofNat b) 0 4 = Int32.ofNat b := (zu_j _ _ _ _ (by decide)).trans f5
  have w5 : zU u1 0 11 (Int32.ofNat b) 0 11 = Int32.ofNat b := zu_eq _ _ _ _
  have w6 : zU u1 0 11 (Int32.ofNat b) 0 14 = 0 := (zu_j _ _ _ _ (by decide)).trans h14'
  have F3 : FT T (zU T1 0 3 (Int32.ofNat b)) := f3.tr (FT.u _ (by decide) _)
  have F4 : Fk u (zU u1 0 11 (Int32.ofNat b)) := f4.tr (Fk.u _ (by decide) _)
  rw [w1, w2, w3]
  generalize zU T1 0 3 (Int32.ofNat b) = T2 at hb3 w1 w2 w4 F3 ⊢
  generalize zU u1 0 11 (Int32.ofNat b) = u2 at hb3 w3 w5 w6 F4 ⊢
  by_cases hbt : b < t
  · obtain ⟨x, hx, b1, b2⟩ := hb3.2.2.2 b hbt
    rw [if_pos ((o_lt (by omega) (by omega)).mpr hbt), if_pos (z_inN (show b < 160 by omega) (by decide)), o_cl (show b < 2 ^ 31 by omega), b1, byteAt_in hb3 hbt, b2, let_eq, fig_eq]
    simp only [Option.bind_some]
    rw [if_pos (show (0 : Int32) ≤ Int32.ofNat x from (o_le (a := 0) (by decide) (by omega)).mpr (Nat.zero_le _)), in_97_122, in_48_57]
    simp only [Option.bind_some, if_pos (z_inN (show b < 160 by omega) (show 160 < 2 ^ 31 by decide))]
    cases hl : zw (Int32.ofNat x) 97 122 with
    | true =>
      simp only [↓reduceIte]
      obtain ⟨T', u', e, g1, g2, g3, g4, g5, g6, g7, g8, g9⟩ := name_loop (t - b) FU FU b (zU T2 0 2 1) (zU u2 0 12 1) (hb3.keep (FT.u _ (by decide) _) (Fk.u _ (by decide) _)) ((zu_j _ _ _ _ (by decide)).trans w4) ((zu_j _ _ _ _ (by decide)).trans w3) (by omega) (FU_pos (by omega)) (FU_pos (by omega))
      have hlt : b < e := g9 hbt (by rw [zU_ne _ _ _ (by decide), b2]; exact hl)
      rw [g1, g2]
      have K1 := F3.tr ((FT.u T2 (k := 2) (by decide) 1).tr g3.ft)
      have K2 := F4.tr ((Fk.u u2 (k := 12) (by decide) 1).tr g4.fk)
      refine ⟨T', u', b, e, rfl, rfl, K1, K2, h.keep K1 K2, ⟨by omega, g8, ?_, ?_, g5, g6, Or.inr ⟨?_, 1, by decide, ?_, ?_, by omega, fun _ => hlt, by omega⟩⟩, f7⟩
      · rw [g3.2 3 (by decide), zu_j _ _ _ _ (by decide)]; exact w1
      · rw [g4.2 11 (by decide), zu_j _ _ _ _ (by decide)]; exact w5
      · rw [g4.2 14 (by decide), zu_j _ _ _ _ (by decide)]; exact w6
      · rw [g3.2 2 (by decide), zu_eq]; rfl
      · rw [g4.2 12 (by decide), zu_eq]; rfl
    | false =>
      simp only [Bool.false_eq_true, ↓reduceIte]
      cases hf : zw (Int32.ofNat x) 48 57 with
      | true =>
        simp only [↓reduceIte]
        obtain ⟨T', u', e, g1, g2, ⟨g3, g4, g5, g6, g7, g8, g9⟩, g10, g11, g12⟩ := num_loop (b := b) (t - b) FU FU b 0 (zU T2 0 5 0) (zU (zU u2 0 12 2) 0 13 0) (hb3.keep (FT.u _ (by decide) _) ((Fk.u _ (by decide) _).tr (Fk.u _ (by decide) _))) (Nat.le_refl _) ((zu_j _ _ _ _ (by decide)).trans w1) (((zu_j _ _ _ _ (by decide)).trans (zu_j _ _ _ _ (by decide))).trans w5) ((zu_j _ _ _ _ (by decide)).trans w4) (((zu_j _ _ _ _ (by decide)).trans (zu_j _ _ _ _ (by decide))).trans w3) (((zu_j _ _ _ _ (by decide)).trans (zu_j _ _ _ _ (by decide))).trans w6) ((zu_j _ _ _ _ (by decide)).trans (zu_eq _ _ _ _)) (zu_eq _ _ _ _) (zu_eq _ _ _ _) (fun _ => rfl) (by omega) (by omega) (by omega) (FU_pos (by omega)) (FU_pos (by omega))
        have hlt : b < e := g12 hbt (by rw [zU_ne _ _ _ (by decide), zU_ne _ _ _ (by decide), b2]; exact hf)
        rw [g1, g2]
        have K1 := F3.tr ((FT.u T2 (k := 5) (by decide) 0).tr g3)
        have K2 := F4.tr (((Fk.u u2 (k := 12) (by decide) 2).tr (Fk.u _ (k := 13) (by decide) 0)).tr g4)
        refine ⟨T', u', b, e, rfl, rfl, K1, K2, h.keep K1 K2, ⟨by omega, g11, g5, g6, g7, g8, ?_⟩, f7⟩
        rcases g9 with ⟨r1, r2, r3⟩ | ⟨r1, r2, r3, r4⟩
        · exact Or.inl ⟨r1, r2, r3, hlt⟩
        · exact Or.inr ⟨r1, 2, by decide, r2, r3, by omega, fun _ => hlt, fun _ => r4⟩
      | false =>
        simp only [Bool.false_eq_true, ↓reduceIte]
        unfold f_X7_takes_260 f_X7_needs
        have e14 : zU u2 0 12 3 0 14 = 0 := (zu_j _ _ _ _ (by decide)).trans w6
        by_cases hs : Int32.ofNat x = 59
        · rw [if_pos hs, if_pos hs, show zb true = 1 from rfl, if_neg (show ¬ (1 : Int32) = 0 by decide)]
          simp only [Option.bind_some, zlet_eq]
          rw [zu_j _ _ _ _ (show 4 ≠ 2 by decide), w4, zu_j _ _ _ _ (show 10 ≠ 12 by decide), w3, o_1]
          have K1 : FT T (zU (zU T2 0 2 3) 0 4 (Int32.ofNat (b + 1))) := F3.tr ((FT.u T2 (by decide) _).tr (FT.u _ (by decide) _))
          have K2 : Fk u (zU (zU u2 0 12 3) 0 10 (Int32.ofNat (b + 1))) := F4.tr ((Fk.u u2 (by decide) _).tr (Fk.u _ (by decide) _))
          refine ⟨_, _, b, b + 1, rfl, rfl, K1, K2, h.keep K1 K2, ⟨by omega, by omega, ?_, ?_, zu_eq _ _ _ _, zu_eq _ _ _ _, Or.inr ⟨?_, 3, by decide, ?_, ?_, by omega, fun _ => by omega, by omega⟩⟩, f7⟩
          · rw [zu_j _ _ _ _ (by decide), zu_j _ _ _ _ (by decide)]; exact w1
          · rw [zu_j _ _ _ _ (by decide), zu_j _ _ _ _ (by decide)]; exact w5
          · rw [zu_j _ _ _ _ (by decide)]; exact e14
          · rw [zu_j _ _ _ _ (by decide), zu_eq]; rfl
          · rw [zu_j _ _ _ _ (by decide), zu_eq]; rfl
        · rw [if_neg hs, if_neg hs, show zb false = 0 from rfl, if_pos rfl, if_pos e14]
          simp only [Option.bind_some, zlet_eq]
          rw [zu_j _ _ _ _ (show 4 ≠ 2 by decide), w4]
          simp (disch := decide) only [zu_j]
          rw [w3, w5, o_1]
          have K1 : FT T (zU (zU T2 0 2 4) 0 4 (Int32.ofNat (b + 1))) := F3.tr ((FT.u T2 (by decide) _).tr (FT.u _ (by decide) _))
          have K2 : Fk u (zU (zU (zU (zU u2 0 12 3) 0 14 1) 0 15 (Int32.ofNat b)) 0 10 (Int32.ofNat (b + 1))) := F4.tr (((Fk.u u2 (by decide) _).tr (Fk.u _ (by decide) _)).tr ((Fk.u _ (by decide) _).tr (Fk.u _ (by decide) _)))
          refine ⟨_, _, b, b + 1, rfl, rfl, K1, K2, h.keep K1 K2, ⟨by omega, by omega, ?_, ?_, zu_eq _ _ _ _, zu_eq _ _ _ _, Or.inl ⟨?_, ?_, ?_, by omega⟩⟩, f7⟩
          · rw [zu_j _ _ _ _ (by decide), zu_j _ _ _ _ (by decide)]; exact w1
          · rw [zu_j _ _ _ _ (by decide), zu_j _ _ _ _ (by decide), zu_j _ _ _ _ (by decide), zu_j _ _ _ _ (by decide)]; exact w5
          · rw [zu_j _ _ _ _ (by decide), zu_eq]
          · rw [zu_j _ _ _ _ (by decide), zu_j _ _ _ _ (by decide), zu_eq]
          · rw [zu_j _ _ _ _ (by decide), zu_eq]
  · have hbt : b = t := by omega
    subst hbt
    rw [if_neg (i32_nlt.mpr (Int32.le_refl _)), byteAt_out hb3 (Nat.le_refl _) (by omega)]
    simp only [Option.bind_some]
    rw [if_neg (show ¬ (0 : Int32) ≤ -1 by decide)]
    have K1 : FT T (zU T2 0 2 0) := F3.tr (FT.u T2 (by decide) _)
    have K2 : Fk u (zU u2 0 12 0) := F4.tr (Fk.u u2 (by decide) _)
    refine ⟨_, _, b, b, rfl, rfl, K1, K2, h.keep K1 K2, ⟨Nat.le_refl _, Nat.le_refl _, ?_, ?_, ?_, ?_, Or.inr ⟨?_, 0, by decide, zu_eq _ _ _ _, zu_eq _ _ _ _, fun _ => rfl, fun a => absurd rfl a, by omega⟩⟩, f7⟩
    · rw [zu_j _ _ _ _ (by decide)]; exact w1
    · rw [zu_j _ _ _ _ (by decide)]; exact w5
    · rw [zu_j _ _ _ _ (by decide)]; exact w4
    · rw [zu_j _ _ _ _ (by decide)]; exact w3
    · rw [zu_j _ _ _ _ (by decide)]; exact w6
