noncomputable def BB2 (n : Nat) (u6 : zM) (v : Int32) : Option zM := (f_X7_readNumber (zU (zU u6 4 (6 + 5 * n) v) 0 7 (if v ≤ u6 0 7 then u6 0 7 else v)) 0 9).bind fun r9 => lineE (zU (zU (zU r9.2 4 (7 + 5 * n) r9.1) 4 (8 + 5 * n) (-4)) 4 34 (zU (zU r9.2 4 (7 + 5 * n) r9.1) 4 (8 + 5 * n) (-4) 4 34 + 1))
noncomputable def BB1 (n : Nat) (u3 : zM) (v : Int32) : Option zM := (f_X7_readNumber (zU u3 4 (5 + 5 * n) v) 0 3).bind fun r5 => BB2 n r5.2 r5.1
theorem BO.d {S : Nat → zM} {u : zM} (h : BO S u) (i : Nat) (x : Int32) : BO S (zU u 4 i x) := h.keep (by rw [zU_ne _ _ _ (by decide)]) (by rw [zU_ne _ _ _ (by decide)])
theorem bb2_bo {n : Nat} {S : Nat → zM} {u : zM} (h : BO S u) (v : Int32) : ∃ u', BB2 n u v = some u' ∧ BO S u' ∧ Fx u u' := by
  have h1 : BO S (zU (zU u 4 (6 + 5 * n) v) 0 7 (if v ≤ u 0 7 then u 0 7 else v)) := (h.d _ _).keep (zu_j _ _ _ _ (by decide)) (zu_j _ _ _ _ (by decide))
  have fx : Fx u (zU (zU u 4 (6 + 5 * n) v) 0 7 (if v ≤ u 0 7 then u 0 7 else v)) := (Fx.d u _ _).tr (Fx.c _ (by decide) _)
  unfold BB2
  rw [h1.num]
  simp only [Option.bind_some]
  generalize zU (zU u 4 (6 + 5 * n) v) 0 7 (if v ≤ u 0 7 then u 0 7 else v) = w at h1 fx ⊢
  have h2 := ((h1.d (7 + 5 * n) 0).d (8 + 5 * n) (-4)).d 34 (zU (zU w 4 (7 + 5 * n) 0) 4 (8 + 5 * n) (-4) 4 34 + 1)
  exact ⟨_, h2.line, h2, fx.tr ((Fx.d _ _ _).tr ((Fx.d _ _ _).tr (Fx.d _ _ _)))⟩
theorem bb1_bo {n : Nat} {S : Nat → zM} {u : zM} (h : BO S u) (v : Int32) : ∃ u', BB1 n u v = some u' ∧ BO S u' ∧ Fx u u' := by
  have h1 := h.d (5 + 5 * n) v
  unfold BB1
  rw [h1.num]
  simp only [Option.bind_some]
  obtain ⟨u', a, b, c⟩ := bb2_bo (n := n) h1 0
  exact ⟨u', a, b, (Fx.d u _ _).tr c⟩
theorem bt_key : ∀ k : Nat, k < 4 → f_X5_numbersOf (Int32.ofNat k) = some 3 ∧ f_X5_leastOf (Int32.ofNat k) 0 = some 1 ∧ f_X5_mostOf (Int32.ofNat k) 0 = some 9 ∧ f_X5_leastOf (Int32.ofNat k) 1 = some 0 ∧ f_X5_mostOf (Int32.ofNat k) 1 = some 3 ∧ f_X5_leastOf (Int32.ofNat k) 2 = some 0 ∧ f_X5_mostOf (Int32.ofNat k) 2 = some 9 ∧ ¬ Int32.ofNat k = 4 ∧ ¬ Int32.ofNat k = 5 := by decide +kernel
theorem PN.d {t q : Nat} {S : Nat → zM} {u : zM} (h : PN t q S u) (i : Nat) (x : Int32) : PN t q S (zU u 4 i x) := h.keep rfl (fun k h1 h2 => by rw [zU_ne _ _ _ (by decide)]) (by rw [zU_ne _ _ _ (by decide)])
theorem PN.c {t q : Nat} {S : Nat → zM} {u : zM} (h : PN t q S u) (x : Int32) : PN t q S (zU u 0 7 x) := h.keep rfl (fun k h1 h2 => zu_j _ _ _ _ (by omega)) (by rw [zU_ne _ _ _ (by decide)])
theorem hi_key (n : Nat) (v : Nat) (hv : v < 4) {h : Int32} (hh : (n = 0 ∧ h = -4) ∨ ∃ a, a < 4 ∧ h = Int32.ofNat a) : ∃ c, c < 4 ∧ (if Int32.ofNat v ≤ h then h else Int32.ofNat v) = Int32.ofNat c ∧ v ≤ c ∧ (∀ a, h = Int32.ofNat a → a < 4 → a ≤ c) ∧ (c = v ∨ h = Int32.ofNat c) := by
  rcases hh with ⟨-, rfl⟩ | ⟨a, ha, rfl⟩
  · refine ⟨v, hv, if_neg ?_, Nat.le_refl _, fun a e h4 => absurd e.symm (ne4 (by omega)), Or.inl rfl⟩
    intro q
    have := Int32.le_iff_toInt_le.mp q
    rw [o_toInt (by omega), show (-4 : Int32).toInt = -4 from rfl] at this
    omega
  · by_cases hc : v ≤ a
    · refine ⟨a, ha, if_pos ((o_le (by omega) (by omega)).mpr hc), hc, fun a' e h4 => ?_, Or.inr rfl⟩
      have := (o_eq (a := a) (b := a') (by omega) (by omega)).mp e
      omega
    · refine ⟨v, hv, if_neg (nle (by omega) (by omega)), Nat.le_refl _, fun a' e h4 => ?_, Or.inl rfl⟩
      have := (o_eq (a := a) (b := a') (by omega) (by omega)).mp e
      omega
theorem ln_bt {t q P n k : Nat} {S : Nat → zM} {u : zM} (h : PN t q S u) (hD : DR P n S u) (hk : k < 4) (hn : n < 6) : LR t q S u (Int32.ofNat k) := by
  obtain ⟨m, hm⟩ := FU4
  obtain ⟨d1, d2, d3, d4, d5, d6, d7, d8, d9, d10, d11, d12, d13, d14⟩ := id hD
  obtain ⟨hN, l0, m0, l1, m1, l2, m2, nk4, nk5⟩ := bt_key k hk
  have e43 : f_X5_takeLine_43 FU S (Int32.ofNat k) 0 = (f_X5_takeNumber S (Int32.ofNat k) 0).bind fun r14 => if r14.1 = true then f_X5_takeLine_43 (m + 1 + 1 + 1) r14.2 (Int32.ofNat k) (0 + 1) else some (false, r14.2) := by
    rw [hm]
    exact tl_num (m + 1 + 1 + 1) S hN (show ¬ (3 : Int32) ≤ 0 by decide)
  have er : rlE u (Int32.ofNat k) = (f_X7_readNumber (zU u 4 (4 + 5 * n) (Int32.ofNat k)) 1 9).bind fun r2 => BB1 n r2.2 r2.1 := by
    unfold rlE f_X7_readLineOf f_X7_readBeetle f_X7_readBeetle_81 BB1 BB2
    rw [if_neg nk4, if_neg nk5, if_pos z34, c34, d6]
    have b0 : 4 + 5 * Int32.ofNat n + 0 = Int32.ofNat (4 + 5 * n) := at_b n 0
    have b1 : 4 + 5 * Int32.ofNat n + 1 = Int32.ofNat (5 + 5 * n) := (at_b n 1).trans (congrArg Int32.ofNat (by omega))
    have b2 : 4 + 5 * Int32.ofNat n + 2 = Int32.ofNat (6 + 5 * n) := (at_b n 2).trans (congrArg Int32.ofNat (by omega))
    have b3 : 4 + 5 * Int32.ofNat n + 3 = Int32.ofNat (7 + 5 * n) := (at_b n 3).trans (congrArg Int32.ofNat (by omega))
    have b4 : 4 + 5 * Int32.ofNat n + 4 = Int32.ofNat (8 + 5 * n) := (at_b n 4).trans (congrArg Int32.ofNat (by omega))
    have i0 : z_in (Int32.ofNat (4 + 5 * n)) 61 = true := z_inN (by omega) (by decide)
    have i1 : z_in (Int32.ofNat (5 + 5 * n)) 61 = true := z_inN (by omega) (by decide)
    have i2 : z_in (Int32.ofNat (6 + 5 * n)) 61 = true := z_inN (by omega) (by decide)
    have i3 : z_in (Int32.ofNat (7 + 5 * n)) 61 = true := z_inN (by omega) (by decide)
    have i4 : z_in (Int32.ofNat (8 + 5 * n)) 61 = true := z_inN (by omega) (by decide)
    have c0 : (Int32.ofNat (4 + 5 * n)).toNatClampNeg = 4 + 5 * n := o_cl (by omega)
    have c1 : (Int32.ofNat (5 + 5 * n)).toNatClampNeg = 5 + 5 * n := o_cl (by omega)
    have c2 : (Int32.ofNat (6 + 5 * n)).toNatClampNeg = 6 + 5 * n := o_cl (by omega)
    have c3 : (Int32.ofNat (7 + 5 * n)).toNatClampNeg = 7 + 5 * n := o_cl (by omega)
    have c4 : (Int32.ofNat (8 + 5 * n)).toNatClampNeg = 8 + 5 * n := o_cl (by omega)
    simp only [b0, b1, b2, b3, b4, i0, i1, i2, i3, i4, c0, c1, c2, c3, c4, z34, c34, ↓reduceIte, zlet_eq, zu_eq, zU_ne _ _ _ (show 0 ≠ 4 by decide)]
    cases f_X7_readNumber (zU u 4 (4 + 5 * n) (Int32.ofNat k)) 1 9 with
    | none => rfl
    | some r2 =>
      simp only [Option.bind_some]
      cases f_X7_readNumber (zU r2.2 4 (5 + 5 * n) r2.1) 0 3 with
      | none => rfl
      | some r5 =>
        simp only [Option.bind_some]
        by_cases hc : r5.1 ≤ r5.2 0 7
        · rw [if_pos hc, if_pos hc]
          cases f_X7_readNumber (zU (zU r5.2 4 (6 + 5 * n) r5.1) 0 7 (r5.2 0 7)) 0 9 with
          | none => rfl
          | some r9 => rfl
        · rw [if_neg hc, if_neg hc]
          cases f_X7_readNumber (zU (zU r5.2 4 (6 + 5 * n) r5.1) 0 7 r5.1) 0 9 with
          | none => rfl
          | some r9 => rfl
  rcases num_step (lo := 1) (hi := 9) (i := 0) (L := Int32.ofNat k) (h.d (4 + 5 * n) (Int32.ofNat k)) (by decide) (by decide) (by decide) (fun a => nk5 a.1) l0 m0 with ⟨s, S1, u1, s1', s9, g1, g2, g3, g4, g5, g6⟩ | ⟨S1, u1, g1, g2, g3, g4, g5⟩
  case inr =>
    have g1 : f_X5_takeNumber S (Int32.ofNat k) 0 = some (false, S1) := g1
    have g2 : f_X7_readNumber (zU u 4 (4 + 5 * n) (Int32.ofNat k)) 1 9 = some (0, u1) := g2
    obtain ⟨u', b1, b2, b3⟩ := bb1_bo (n := n) g3 0
    refine Or.inr ⟨S1, u', ?_, ?_, b2, FS.of2 g4, ((Fx.d u _ _).tr g5.x).tr b3⟩
    · rw [e43, g1]
      rfl
    · rw [er, g2]
      exact b1
  have g1 : f_X5_takeNumber S (Int32.ofNat k) 0 = some (true, S1) := g1
  have g2 : f_X7_readNumber (zU u 4 (4 + 5 * n) (Int32.ofNat k)) 1 9 = some (Int32.ofNat s, u1) := g2
  have e2 : f_X5_takeLine_43 FU S (Int32.ofNat k) 0 = (f_X5_takeNumber S1 (Int32.ofNat k) 1).bind fun r14 => if r14.1 = true then f_X5_takeLine_43 (m + 1 + 1) r14.2 (Int32.ofNat k) (1 + 1) else some (false, r14.2) := by
    rw [e43, g1]
    simp only [Option.bind_some, ↓reduceIte]
    exact tl_num (m + 1 + 1) _ hN (show ¬ (3 : Int32) ≤ 0 + 1 by decide)
  have er2 : rlE u (Int32.ofNat k) = (f_X7_readNumber (zU u1 4 (5 + 5 * n) (Int32.ofNat s)) 0 3).bind fun r5 => BB2 n r5.2 r5.1 := by
    rw [er, g2]
    rfl
  have fx1 : Fx u (zU u1 4 (5 + 5 * n) (Int32.ofNat s)) := ((Fx.d u _ _).tr g6.x).tr (Fx.d _ _ _)
  rcases num_step (lo := 0) (hi := 3) (i := 1) (L := Int32.ofNat k) (g3.d (5 + 5 * n) (Int32.ofNat s)) (by decide) (by decide) (by decide) (fun a => nk5 a.1) l1 m1 with ⟨o, S2, u2, -, o3, p1, p2, p3, p4, p5, p6⟩ | ⟨S2, u2, p1, p2, p3, p4, p5⟩
  case inr =>
    have p1 : f_X5_takeNumber S1 (Int32.ofNat k) 1 = some (false, S2) := p1
    have p2 : f_X7_readNumber (zU u1 4 (5 + 5 * n) (Int32.ofNat s)) 0 3 = some (0, u2) := p2
    obtain ⟨u', b1, b2, b3⟩ := bb2_bo (n := n) p3 0
    refine Or.inr ⟨S2, u', ?_, ?_, b2, (FS.of2 g5).tr (FS.of2 p4), (fx1.tr p5.x).tr b3⟩
    · rw [e2, p1]
      rfl
    · rw [er2, p2]
      exact b1
  have p1 : f_X5_takeNumber S1 (Int32.ofNat k) 1 = some (true, S2) := p1
  have p2 : f_X7_readNumber (zU u1 4 (5 + 5 * n) (Int32.ofNat s)) 0 3 = some (Int32.ofNat o, u2) := p2
  have e3 : f_X5_takeLine_43 FU S (Int32.ofNat k) 0 = (f_X5_takeNumber S2 (Int32.ofNat k) 2).bind fun r14 => if r14.1 = true then f_X5_takeLine_43 (m + 1) r14.2 (Int32.ofNat k) (2 + 1) else some (false, r14.2) := by
    rw [e2, p1]
    simp only [Option.bind_some, ↓reduceIte]
    exact tl_num (m + 1) _ hN (show ¬ (3 : Int32) ≤ 1 + 1 by decide)
  have u27 : u2 0 7 = u 0 7 := by rw [p6.2 7 (by decide), zU_ne _ _ _ (by decide), g6.2 7 (by decide), zU_ne _ _ _ (by decide)]
  obtain ⟨hh, hh4, hhe, hhv, hha, hhc⟩ := hi_key n o (by omega) (h := u 0 7) (by
    rcases d14 with d | ⟨a, a1, a2, -⟩
    · exact Or.inl d
    · exact Or.inr ⟨a, a1, a2⟩)
  have er3 : rlE u (Int32.ofNat k) = (f_X7_readNumber (zU (zU u2 4 (6 + 5 * n) (Int32.ofNat o)) 0 7 (Int32.ofNat hh)) 0 9).bind fun r9 => lineE (zU (zU (zU r9.2 4 (7 + 5 * n) r9.1) 4 (8 + 5 * n) (-4)) 4 34 (zU (zU r9.2 4 (7 + 5 * n) r9.1) 4 (8 + 5 * n) (-4) 4 34 + 1)) := by
    rw [er2, p2]
    simp only [Option.bind_some]
    unfold BB2
    rw [u27, hhe]
  have fx2 : Fx u (zU (zU u2 4 (6 + 5 * n) (Int32.ofNat o)) 0 7 (Int32.ofNat hh)) := (fx1.tr p6.x).tr ((Fx.d _ _ _).tr (Fx.c _ (by decide) _))
  have fs2 : FS S S2 := (FS.of2 g5).tr (FS.of2 p5)
  rcases num_step (lo := 0) (hi := 9) (i := 2) (L := Int32.ofNat k) ((p3.d (6 + 5 * n) (Int32.ofNat o)).c (Int32.ofNat hh)) (by decide) (by decide) (by decide) (fun a => nk5 a.1) l2 m2 with ⟨x, S3, u3, -, x9, r1, r2, r3, r4, r5, r6⟩ | ⟨S3, u3, r1, r2, r3, r4, r5⟩
  case inr =>
    have r1 : f_X5_takeNumber S2 (Int32.ofNat k) 2 = some (false, S3) := r1
    have r2 : f_X7_readNumber (zU (zU u2 4 (6 + 5 * n) (Int32.ofNat o)) 0 7 (Int32.ofNat hh)) 0 9 = some (0, u3) := r2
    have b := ((r3.d (7 + 5 * n) 0).d (8 + 5 * n) (-4)).d 34 (zU (zU u3 4 (7 + 5 * n) 0) 4 (8 + 5 * n) (-4) 4 34 + 1)
    refine Or.inr ⟨S3, _, ?_, ?_, b, fs2.tr (FS.of2 r4), (fx2.tr r5.x).tr ((Fx.d _ _ _).tr ((Fx.d _ _ _).tr (Fx.d _ _ _)))⟩
    · rw [e3, r1]
      rfl
    · rw [er3, r2]
      exact b.line
  have r1 : f_X5_takeNumber S2 (Int32.ofNat k) 2 = some (true, S3) := r1
  have r2 : f_X7_readNumber (zU (zU u2 4 (6 + 5 * n) (Int32.ofNat o)) 0 7 (Int32.ofNat hh)) 0 9 = some (Int32.ofNat x, u3) := r2
  have row4 : u3 4 = upd (upd (upd (u 4) (4 + 5 * n) (Int32.ofNat k)) (5 + 5 * n) (Int32.ofNat s)) (6 + 5 * n) (Int32.ofNat o) := by
    rw [r6.1 4 (by decide), zU_ne _ _ _ (by decide), zU_row, p6.1 4 (by decide), zU_row, g6.1 4 (by decide), zU_row]
  have m34 : zU (zU u3 4 (7 + 5 * n) (Int32.ofNat x)) 4 (8 + 5 * n) (-4) 4 34 = Int32.ofNat n := by
    rw [zu_j _ _ _ _ (by omega), zu_j _ _ _ _ (by omega), row4, up_ne _ _ _ (by omega), up_ne _ _ _ (by omega), up_ne _ _ _ (by omega)]
    exact d6
  have hpn := ((r3.d (7 + 5 * n) (Int32.ofNat x)).d (8 + 5 * n) (-4)).d 34 (Int32.ofNat (n + 1))
  have er4 : rlE u (Int32.ofNat k) = lineE (zU (zU (zU u3 4 (7 + 5 * n) (Int32.ofNat x)) 4 (8 + 5 * n) (-4)) 4 34 (Int32.ofNat (n + 1))) := by
    rw [er3, r2]
    simp only [Option.bind_some]
    rw [m34, o_1]
  have fx3 : Fx u (zU (zU (zU u3 4 (7 + 5 * n) (Int32.ofNat x)) 4 (8 + 5 * n) (-4)) 4 34 (Int32.ofNat (n + 1))) := (fx2.tr r6.x).tr ((Fx.d _ _ _).tr ((Fx.d _ _ _).tr (Fx.d _ _ _)))
  have fs3 : FS S S3 := fs2.tr (FS.of2 r5)
  have S33 : S3 3 = S 3 := by rw [r5 3 (by decide) (by decide), p5 3 (by decide) (by decide), g5 3 (by decide) (by decide)]
  have S32 : S3 2 = zU (zU (zU (S 2) 1 0 (Int32.ofNat s)) 1 1 (Int32.ofNat o)) 1 2 (Int32.ofNat x) := by rw [r4, p4, g4]
  have htake : ∀ T : zM, ∃ S13, f_X5_take (va_up S3 1 T) (Int32.ofNat k) = some S13 ∧ S13 1 = T ∧ S13 2 = S3 2 ∧ S13 3 = zU (zU (zU (zU (zU (zU (S 3) 2 n (Int32.ofNat k)) 3 n (Int32.ofNat s)) 4 n (Int32.ofNat o)) 5 n (-4)) 6 n (Int32.ofNat x)) 0 1 (Int32.ofNat (n + 1)) ∧ ∀ j, j ≠ 1 → j ≠ 2 → j ≠ 3 → S13 j = S3 j := by
    intro T
    have a0 : S3 2 1 0 = Int32.ofNat s := by rw [S32, zu_j _ _ _ _ (by decide), zu_j _ _ _ _ (by decide), zu_eq]
    have a1 : S3 2 1 1 = Int32.ofNat o := by rw [S32, zu_j _ _ _ _ (by decide), zu_eq]
    have a2 : S3 2 1 2 = Int32.ofNat x := by rw [S32, zu_eq]
    unfold f_X5_take f_X0_addBeetle f_X0_hasRoomForBeetle
    rw [if_neg nk4, if_neg nk5, if_pos (show z_in 0 3 = true by decide), if_pos (show z_in 1 3 = true by decide), if_pos (show z_in 2 3 = true by decide), show (0 : Int32).toNatClampNeg = 0 from rfl, show (1 : Int32).toNatClampNeg = 1 from rfl, show (2 : Int32).toNatClampNeg = 2 from rfl, va_up_neq S3 T (show 3 ≠ 1 by decide), va_up_neq S3 T (show 2 ≠ 1 by decide), S33, a0, a1, a2, d5, if_neg (show ¬ (6 : Int32) ≤ Int32.ofNat n from nle (a := 6) hn (by decide))]
    have hi : z_in (Int32.ofNat n) 6 = true := z_inN hn (by decide)
    have c0 : (Int32.ofNat n).toNatClampNeg = n := o_cl (by omega)
    simp (disch := decide) only [Option.bind_some, ↓reduceIte, zlet_eq, zU_ne, d5, hi, c0, o_1]
    refine ⟨_, rfl, ?_, ?_, va_up_eq _ _ _, fun j a b c => ?_⟩
    · rw [va_up_neq _ _ (by decide), va_up_eq]
    · rw [va_up_neq _ _ (by decide), va_up_neq _ _ (by decide)]
    · rw [va_up_neq _ _ c, va_up_neq _ _ a]
  rcases ln_end m hpn hN (show (3 : Int32) ≤ 2 + 1 by decide) htake with ⟨S', u', y1, y2, y3, y4, y5, y6, y7⟩ | ⟨S', u', y1, y2, y3, y4, y5⟩
  · refine Or.inl ⟨P, n + 1, S', u', ?_, er4.trans y2, y3.le (by omega), ?_, fs3.tr y6, fx3.tr y7.x, ?_, ?_⟩
    · rw [e3, r1]
      exact y1
    · have c4 : u' 4 = upd (upd (upd (upd (upd (upd (u 4) (4 + 5 * n) (Int32.ofNat k)) (5 + 5 * n) (Int32.ofNat s)) (6 + 5 * n) (Int32.ofNat o)) (7 + 5 * n) (Int32.ofNat x)) (8 + 5 * n) (-4)) 34 (Int32.ofNat (n + 1)) := by
        rw [y7.1 4 (by decide), zU_row, zU_row, zU_row, row4]
      have c2 : S' 2 0 3 = S 2 0 3 := by rw [y4, S32, zU_ne _ _ _ (by decide), zU_ne _ _ _ (by decide), zU_ne _ _ _ (by decide)]
      have c5 : u' 0 5 = u 0 5 := by rw [y7.2 5 (by decide), zU_ne _ _ _ (by decide), zU_ne _ _ _ (by decide), zU_ne _ _ _ (by decide), r6.2 5 (by decide), zu_j _ _ _ _ (by decide), zU_ne _ _ _ (by decide), p6.2 5 (by decide), zU_ne _ _ _ (by decide), g6.2 5 (by decide), zU_ne _ _ _ (by decide)]
      have c6 : u' 0 6 = u 0 6 := by rw [y7.2 6 (by decide), zU_ne _ _ _ (by decide), zU_ne _ _ _ (by decide), zU_ne _ _ _ (by decide), r6.2 6 (by decide), zu_j _ _ _ _ (by decide), zU_ne _ _ _ (by decide), p6.2 6 (by decide), zU_ne _ _ _ (by decide), g6.2 6 (by decide), zU_ne _ _ _ (by decide)]
      have c7 : u' 0 7 = Int32.ofNat hh := by rw [y7.2 7 (by decide), zU_ne _ _ _ (by decide), zU_ne _ _ _ (by decide), zU_ne _ _ _ (by decide), r6.2 7 (by decide), zu_eq]
      unfold DR
      rw [y5, c4, c2, c5, c6, c7]
      refine ⟨d1, by omega, ?_, d4, zu_eq _ _ _ _, up_eq _ _ _, ?_, ?_, d9, ?_, ?_, ?_, ?_, Or.inr ⟨hh, hh4, rfl, ?_, ?_⟩⟩
      · simp (disch := decide) only [zU_ne, zu_j]; exact d3
      · simp (disch := decide) only [zU_ne, zu_j]; exact d7
      · simp (disch := omega) only [up_ne]; exact d8
      · intro p hp
        simp (disch := omega) only [zU_ne, up_ne]
        exact d10 p hp
      · intro b hb
        by_cases hq : b = n
        · subst hq
          simp (disch := omega) only [zU_ne, zu_eq, up_eq, up_ne]
          exact ⟨k, s, o, x, hk, s1', by omega, by omega, by omega, rfl, rfl, rfl, rfl, rfl, rfl, trivial, trivial, rfl, rfl⟩
        · simp (disch := omega) only [zU_ne, zu_j, up_ne]
          exact d11 b (by omega)
      · intro j hj
        simp (disch := omega) only [zU_ne, up_ne]
        exact d12 j hj
      · simp (disch := omega) only [up_ne]; exact d13
      · intro b hb
        by_cases hq : b = n
        · subst hq
          simp (disch := omega) only [up_eq, up_ne]
          exact ⟨o, hhv, rfl⟩
        · simp (disch := omega) only [up_ne]
          rcases d14 with ⟨z, -⟩ | ⟨a, a1, a2, a3, -⟩
          · omega
          · obtain ⟨o', o1, o2⟩ := a3 b (by omega)
            exact ⟨o', Nat.le_trans o1 (hha a a2 a1), o2⟩
      · rcases hhc with e | e
        · refine ⟨n, by omega, ?_⟩
          simp (disch := omega) only [up_eq, up_ne]
          rw [e]
        · rcases d14 with ⟨z, z2⟩ | ⟨a, a1, a2, a3, b, b1, b2⟩
          · rw [z2] at e
            exact absurd e.symm (ne4 (by omega))
          · refine ⟨b, by omega, ?_⟩
            simp (disch := omega) only [up_ne]
            rw [b2, ← a2, e]
    · rw [y4, S32, zU_ne _ _ _ (by decide), zU_ne _ _ _ (by decide), zU_ne _ _ _ (by decide)]
    · rw [y4, S32, zU_ne _ _ _ (by decide), zU_ne _ _ _ (by decide), zU_ne _ _ _ (by decide)]
  · refine Or.inr ⟨S', u', ?_, er4.trans y2, y3, fs3.tr y4, fx3.tr y5.x⟩
    rw [e3, r1]
    exact y1
