theorem bl_key : ∀ y : Nat, y < 10 → ∀ s : Nat, s < 10 → (∃ z : Nat, z < 10 ∧ (if (9 : Int32) < Int32.ofNat y + Int32.ofNat s then (9 : Int32) else Int32.ofNat y + Int32.ofNat s) = Int32.ofNat z ∧ (if (0 : Int32) ≤ Int32.ofNat y + Int32.ofNat s then (if Int32.ofNat y + Int32.ofNat s < 10 then Int32.ofNat y + Int32.ofNat s else 9) else 0) = Int32.ofNat z) ∧ ∃ z : Nat, z < 10 ∧ (if Int32.ofNat y - Int32.ofNat s < 0 then (0 : Int32) else Int32.ofNat y - Int32.ofNat s) = Int32.ofNat z ∧ (if (0 : Int32) ≤ Int32.ofNat y + -Int32.ofNat s then (if Int32.ofNat y + -Int32.ofNat s < 10 then Int32.ofNat y + -Int32.ofNat s else 9) else 0) = Int32.ofNat z := by decide +kernel
theorem blown_if (u : zM) (j f : Int32) : (if 0 ≤ f then if f < 10 then f_X7_blownOff_54 u j f 3 j else f_X7_blownOff_54 u j 9 3 j else f_X7_blownOff_54 u j 0 3 j) = f_X7_blownOff_54 u j (if 0 ≤ f then (if f < 10 then f else 9) else 0) 3 j := by
  split
  · split <;> rfl
  · rfl
theorem putInAir_eq (C : zM) {i : Nat} (hi : i < 6) (x : Int32) : f_X0_putInAir C (Int32.ofNat i) x = some (zU (zU C 5 i (-4)) 6 i x) := by
  unfold f_X0_putInAir
  simp only [z_inN hi (by decide), o_cl (show i < 2 ^ 31 by omega), ↓reduceIte, zlet_eq]
/-- a beetle is blown off -/
theorem blow_step {a P N n d : Nat} {C u : zM} (h : TR a P N n d C u) {j : Nat} (hj : j < N) (hja : j ≠ a) (hs : ¬ u 2 (8 + 5 * j) = -4) {s : Nat} (hs9 : s < 10) : ∃ C' u', f_X0_blowOff C (Int32.ofNat (un a j)) (Int32.ofNat s) = some C' ∧ f_X7_blownOff u (Int32.ofNat j) (Int32.ofNat s) = some u' ∧ TR a P N n d C' u' ∧ Fr u u' ∧ FL C u C' u' := by
  have hP := h.1
  have hN := h.2.1
  have hi := tr_lt h hj hja
  have hn := tr_n h
  have Cd := h.2.2.2.2.2.2.2.2.2.1
  have ud := h.2.2.2.2.2.2.2.2.2.2.1
  have i6 : z_in (Int32.ofNat (un a j)) 6 = true := z_inN (by omega) (by decide)
  have c6 : (Int32.ofNat (un a j)).toNatClampNeg = un a j := o_cl (by omega)
  obtain ⟨k, s0, o, hk, hs1, hs10, ho, e1, e2, e3, e4, e5, e6, e7⟩ := h.2.2.2.2.2.2.2.2.2.2.2.2.1 j hj hja
  rcases e7 with ⟨x, hx, g1, g2, g3, g4⟩ | ⟨p, hp, g1, g2⟩
  · exact absurd g2 hs
  · obtain ⟨y, hy, y1, y2⟩ := h.2.2.2.2.2.2.2.2.2.2.2.1 p hp
    have pC : f_X0_placeOf C (Int32.ofNat (un a j)) = some (Int32.ofNat y) := by
      unfold f_X0_placeOf f_X0_sits
      simp only [i6, c6, ↓reduceIte, g1, if_neg (ne4 (show p < 2 ^ 31 by omega)), Option.bind_some, z_inN (show p < 4 by omega) (show 4 < 2 ^ 31 by decide), o_cl (show p < 2 ^ 31 by omega), y1]
    have pM : f_X7_placeOf u (Int32.ofNat j) = some (Int32.ofNat y) := by
      unfold f_X7_placeOf
      rw [of4 u (by omega), g2]
      simp only [Option.bind_some]
      rw [if_neg (ne4 (by omega)), if_pos (z_inN (by omega) (by decide)), o_cl (by omega), y2]
    obtain ⟨⟨z1, hz1, k1, k2⟩, z2, hz2, k3, k4⟩ := bl_key y hy s hs9
    obtain ⟨z, hz, hC, hM⟩ : ∃ z, z < 10 ∧ f_X0_blowOff C (Int32.ofNat (un a j)) (Int32.ofNat s) = some (zU (zU (zU C 5 (un a j) (-4)) 6 (un a j) (Int32.ofNat z)) 0 3 (C 0 3 + 1)) ∧ f_X7_blownOff u (Int32.ofNat j) (Int32.ofNat s) = some (zU (zU (zU u 2 (7 + 5 * j) (Int32.ofNat z)) 2 (8 + 5 * j) (-4)) 0 17 (u 0 17 + 1)) := by
      unfold f_X0_blowOff f_X7_blownOff f_X7_blownOff_18
      rw [pC, pM, if_pos z41, c41, ud, Cd]
      simp only [Option.bind_some]
      rw [blown_if, blown_if]
      unfold f_X7_blownOff_54
      by_cases hc : Int32.ofNat d - Int32.ofNat d / 2 * 2 = 0
      · rw [if_pos hc, if_pos hc, k1, k2, putInAir_eq C (by omega), bo3 u (by omega)]
        simp only [Option.bind_some, zlet_eq]
        rw [bo4 _ (by omega)]
        simp only [Option.bind_some, zlet_eq]
        refine ⟨z1, hz1, ?_, ?_⟩
        · simp (disch := decide) only [zU_ne]
        · simp (disch := decide) only [zU_ne]
      · rw [if_neg hc, if_neg hc, k3, k4, putInAir_eq C (by omega), bo3 u (by omega)]
        simp only [Option.bind_some, zlet_eq]
        rw [bo4 _ (by omega)]
        simp only [Option.bind_some, zlet_eq]
        refine ⟨z2, hz2, ?_, ?_⟩
        · simp (disch := decide) only [zU_ne]
        · simp (disch := decide) only [zU_ne]
    refine ⟨_, _, hC, hM, ?_, ?_, ?_⟩
    · refine tr_bt h hja ?_ ?_ ?_ ?_ ?_ ?_ hj ?_
      · simp (disch := decide) only [zU_ne, zu_j, and_self]
      · intro i
        simp (disch := decide) only [zU_ne]
      · intro i
        simp (disch := decide) only [zU_ne]
      · intro i hi'
        simp (disch := first | decide | assumption) only [zU_ne, zu_j, and_self]
      · simp (disch := decide) only [zU_ne, zu_j, and_self]
      · intro i hi'
        simp (disch := first | decide | omega) only [zU_ne, zu_j]
      · refine ⟨k, s0, o, hk, hs1, hs10, ho, ?_, ?_, ?_, ?_, ?_, ?_, Or.inl ⟨z, hz, ?_, ?_, ?_, ?_⟩⟩
        all_goals simp (disch := first | decide | omega) only [zU_ne, zu_j, zu_eq, e1, e2, e3, e4, e5, e6]
    · refine ⟨fun i a b => ?_, fun i a b => ?_, fun i a => ?_⟩
      · simp (disch := assumption) only [zU_ne]
      · simp (disch := first | assumption | decide) only [zU_ne, zu_j]
      · simp (disch := first | decide | omega) only [zU_ne, zu_j]
    · refine ⟨fun w => ?_, fun w => ?_⟩
      · simp (disch := decide) only [zu_eq]; rw [w]
      · simp (disch := decide) only [zU_ne, zu_j]; exact w
theorem sitsC {a P N n d : Nat} {C u : zM} (h : TR a P N n d C u) {j : Nat} (hj : j < N) (hja : j ≠ a) : f_X0_sits C (Int32.ofNat (un a j)) = some (!decide (u 2 (8 + 5 * j) = -4)) := by
  have hi := tr_lt h hj hja
  have hn := tr_n h
  have hB := (h.2.2.2.2.2.2.2.2.2.2.2.2.1 j hj hja).w
  unfold f_X0_sits
  rw [if_pos (z_inN (by omega) (by decide)), o_cl (by omega), hB.2.2.2.1]
  by_cases hc : u 2 (8 + 5 * j) = -4
  · rw [if_pos hc, decide_eq_true hc]; rfl
  · rw [if_neg hc, decide_eq_false hc]; rfl
/-- the second half of a day, then the day's end -/
theorem day2_loop {a P N n d : Nat} (hd : d < 99999) (t : Nat) : ∀ (m m' j : Nat) (C u : zM), TR a P N n d C u → j + t = N → t < m → t < m' → ∃ C' u', f_X0_passDay_42 m C (Int32.ofNat (un a j)) = some C' ∧ f_X7_dayGoes_56 m' u (Int32.ofNat j) = some u' ∧ TR a P N n (d + 1) C' u' ∧ Fr u u' ∧ FL C u C' u' := by
  induction t with
  | zero =>
    intro m m' j C u h hj hm hm'
    obtain ⟨m, rfl⟩ : ∃ q, m = q + 1 := ⟨m - 1, by omega⟩
    obtain ⟨m', rfl⟩ : ∃ q, m' = q + 1 := ⟨m' - 1, by omega⟩
    have hj : j = N := by omega
    subst hj
    have eun := tr_un h
    obtain ⟨hP, hN, ha, hpos, hd0, uP, CP, Cn, uN, Cd, ud, hp, hB0, hw⟩ := h
    rw [f_X0_passDay_42, f_X7_dayGoes_56, if_pos z34, c34, uN, Cn, eun, if_pos (Int32.le_refl _), if_pos (Int32.le_refl _), if_pos z41, if_pos z41, c41, Cd, ud, o_1]
    refine ⟨_, _, rfl, rfl, ⟨hP, hN, ?_, hpos, by omega, ?_, ?_, ?_, ?_, ?_, ?_, ?_, ?_, ?_⟩, ?_, ?_⟩
    · rw [zU_ne _ _ _ (by decide)]; exact ha
    · rw [zU_ne _ _ _ (by decide)]; exact uP
    · rw [zu_j _ _ _ _ (by decide)]; exact CP
    · rw [zu_j _ _ _ _ (by decide)]; exact Cn
    · rw [zu_j _ _ _ _ (by decide)]; exact uN
    · exact zu_eq _ _ _ _
    · exact zu_eq _ _ _ _
    · intro p hpp
      rw [zU_ne _ _ _ (by decide), zu_j _ _ _ _ (by omega)]; exact hp p hpp
    · intro i hi hia
      have q := hB0 i hi hia
      unfold BR at q ⊢
      simp (disch := first | decide | omega) only [zU_ne, zu_j]
      exact q
    · intro k hk
      rw [zU_ne _ _ _ (by decide), zu_j _ _ _ _ (by omega)]; exact hw k hk
    · exact ⟨fun i a b => zU_ne _ _ _ b, fun i a b => by rw [zU_ne _ _ _ (by decide)], fun i a => zu_j _ _ _ _ (by omega)⟩
    · exact ⟨fun w => by rw [zu_j _ _ _ _ (by decide), zU_ne _ _ _ (by decide)]; exact w, fun w => by rw [zu_j _ _ _ _ (by decide), zU_ne _ _ _ (by decide)]; exact w⟩
  | succ t ih =>
    intro m m' j C u h hj hm hm'
    obtain ⟨m', rfl⟩ : ∃ q, m' = q + 1 := ⟨m' - 1, by omega⟩
    have uN := h.2.2.2.2.2.2.2.2.1
    have hN := h.2.1
    rw [f_X7_dayGoes_56, if_pos z34, c34, uN, if_neg (nle (by omega) (by omega)), o_1]
    by_cases hja : j = a
    · rw [if_pos ((tr_aw h (by omega)).mpr hja)]
      have e : un a j = un a (j + 1) := by rw [hja, un_a]
      rw [e]
      exact ih m m' (j + 1) C u h (by omega) (by omega) (by omega)
    · rw [if_neg (fun q => hja ((tr_aw h (by omega)).mp q)), of4 u (show j < 6 by omega)]
      obtain ⟨m, rfl⟩ : ∃ q, m = q + 1 := ⟨m - 1, by omega⟩
      have hi := tr_lt h (show j < N by omega) hja
      have hn := tr_n h
      have Cn := h.2.2.2.2.2.2.2.1
      rw [f_X0_passDay_42, Cn, if_neg (nle (by omega) (by omega)), sitsC h (show j < N by omega) hja, o_1, ← un_s hja]
      simp only [Option.bind_some]
      by_cases hc : u 2 (8 + 5 * j) = -4
      · rw [if_pos hc, decide_eq_true hc]
        obtain ⟨q, C1, u1, f1, f2, f3, h1, fr1, fl1⟩ := fly_step h (show j < N by omega) hja hc
        rw [f1, f3]
        simp only [Option.bind_some, Bool.not_true, Bool.false_eq_true, ↓reduceIte]
        rw [f2]
        simp only [Option.bind_some, zlet_eq]
        obtain ⟨C2, u2, f4, f5, h2, fr2, fl2⟩ := ih m m' (j + 1) C1 u1 h1 (by omega) (by omega) (by omega)
        exact ⟨C2, u2, f4, f5, h2, fr1.tr fr2, fl1.tr fl2⟩
      · rw [if_neg hc, decide_eq_false hc]
        simp only [Bool.not_false, ↓reduceIte]
        exact ih m m' (j + 1) C u h (by omega) (by omega) (by omega)
theorem day1_loop {a P N n d s : Nat} (hd : d < 99999) (hs : s < 10) (t : Nat) : ∀ (m m' j : Nat) (C u : zM), TR a P N n d C u → j + t = N → t < m → t < m' → ∃ C' u', f_X0_passDay_2 m C (Int32.ofNat s) (Int32.ofNat (un a j)) = some C' ∧ f_X7_dayGoes_2 m' u (Int32.ofNat s) (Int32.ofNat j) = some u' ∧ TR a P N n (d + 1) C' u' ∧ Fr u u' ∧ FL C u C' u' := by
  induction t with
  | zero =>
    intro m m' j C u h hj hm hm'
    obtain ⟨m, rfl⟩ : ∃ q, m = q + 1 := ⟨m - 1, by omega⟩
    obtain ⟨m', rfl⟩ : ∃ q, m' = q + 1 := ⟨m' - 1, by omega⟩
    have hj : j = N := by omega
    subst hj
    have uN := h.2.2.2.2.2.2.2.2.1
    have Cn := h.2.2.2.2.2.2.2.1
    have hN := h.2.1
    rw [f_X0_passDay_2, f_X7_dayGoes_2, if_pos z34, c34, uN, Cn, tr_un h, if_pos (Int32.le_refl _), if_pos (Int32.le_refl _)]
    have q := day2_loop hd j FU FU 0 C u h (by omega) (FU_pos (by omega)) (FU_pos (by omega))
    rw [un_le (Nat.zero_le _)] at q
    exact q
  | succ t ih =>
    intro m m' j C u h hj hm hm'
    obtain ⟨m', rfl⟩ : ∃ q, m' = q + 1 := ⟨m' - 1, by omega⟩
    have uN := h.2.2.2.2.2.2.2.2.1
    have hN := h.2.1
    rw [f_X7_dayGoes_2, if_pos z34, c34, uN, if_neg (nle (by omega) (by omega)), o_1]
    by_cases hja : j = a
    · rw [if_pos ((tr_aw h (by omega)).mpr hja)]
      have e : un a j = un a (j + 1) := by rw [hja, un_a]
      rw [e]
      exact ih m m' (j + 1) C u h (by omega) (by omega) (by omega)
    · rw [if_neg (fun q => hja ((tr_aw h (by omega)).mp q)), of4 u (show j < 6 by omega)]
      obtain ⟨m, rfl⟩ : ∃ q, m = q + 1 := ⟨m - 1, by omega⟩
      have hi := tr_lt h (show j < N by omega) hja
      have hn := tr_n h
      have Cn := h.2.2.2.2.2.2.2.1
      have hB := (h.2.2.2.2.2.2.2.2.2.2.2.2.1 j (by omega) hja).w
      rw [f_X0_passDay_2, Cn, if_neg (nle (by omega) (by omega)), sitsC h (show j < N by omega) hja, o_1, ← un_s hja, of1 u (show j < 6 by omega)]
      simp only [Option.bind_some]
      by_cases hc : u 2 (8 + 5 * j) = -4
      · rw [if_pos hc, decide_eq_true hc]
        simp only [Bool.not_true, Bool.false_eq_true, ↓reduceIte]
        exact ih m m' (j + 1) C u h (by omega) (by omega) (by omega)
      · rw [if_neg hc, decide_eq_false hc]
        simp only [Bool.not_false, ↓reduceIte]
        rw [if_pos (z_inN (show un a j < 6 by omega) (by decide)), o_cl (show un a j < 2 ^ 31 by omega), hB.2.1]
        by_cases hw : Int32.ofNat s ≤ u 2 (5 + 5 * j)
        · rw [if_pos hw, if_pos hw]
          exact ih m m' (j + 1) C u h (by omega) (by omega) (by omega)
        · rw [if_neg hw, if_neg hw]
          obtain ⟨C1, u1, f2, f3, h1, fr1, fl1⟩ := blow_step h (show j < N by omega) hja hc hs
          rw [f2, f3]
          simp only [Option.bind_some, zlet_eq]
          obtain ⟨C2, u2, f4, f5, h2, fr2, fl2⟩ := ih m m' (j + 1) C1 u1 h1 (by omega) (by omega) (by omega)
          exact ⟨C2, u2, f4, f5, h2, fr1.tr fr2, fl1.tr fl2⟩
theorem day_eq {a P N n d s : Nat} {C u : zM} (h : TR a P N n d C u) (hd : d < 99999) (hs : s < 10) : ∃ C' u', f_X0_passDay C (Int32.ofNat s) = some C' ∧ f_X7_dayGoes u (Int32.ofNat s) = some u' ∧ TR a P N n (d + 1) C' u' ∧ Fr u u' ∧ FL C u C' u' := by
  have hN := h.2.1
  have q := day1_loop hd hs N FU FU 0 C u h (by omega) (FU_pos (by omega)) (FU_pos (by omega))
  rw [un_le (Nat.zero_le _)] at q
  exact q
theorem wind_eq {a P N n d : Nat} {C u : zM} (h : TR a P N n d C u) : ∃ s, s < 10 ∧ f_X0_windToday C = some (Int32.ofNat s) ∧ f_X7_strengthNow u = some (Int32.ofNat s) := by
  obtain ⟨hP, hN, ha, hpos, hd0, uP, CP, Cn, uN, Cd, ud, hp, hB0, hw⟩ := h
  have hr : Int32.ofNat d - Int32.ofNat d / 6 * 6 = Int32.ofNat (d % 6) := pk_rem (a := d) (d := 6) (by omega) (by decide) (by decide)
  have hm : d % 6 < 6 := Nat.mod_lt _ (by decide)
  obtain ⟨s, hs, e1, e2⟩ := hw (d % 6) hm
  refine ⟨s, hs, ?_, ?_⟩
  · unfold f_X0_windToday
    rw [Cd, hr, if_pos (z_inN hm (by decide)), o_cl (by omega), e1]
  · unfold f_X7_strengthNow
    rw [if_pos z41, c41, ud, hr, show (35 : Int32) + Int32.ofNat (d % 6) = Int32.ofNat (35 + d % 6) from o_add 35 _, if_pos (z_inN (by omega) (by decide)), o_cl (by omega), e2]
/-- a day by the wind of that day -/
theorem dayW_eq {a P N n d : Nat} {C u : zM} (h : TR a P N n d C u) (hd : d < 99999) : ∃ w C' u', f_X0_windToday C = some w ∧ f_X7_strengthNow u = some w ∧ f_X0_passDay C w = some C' ∧ f_X7_dayGoes u w = some u' ∧ TR a P N n (d + 1) C' u' ∧ Fr u u' ∧ FL C u C' u' := by
  obtain ⟨s, hs, e1, e2⟩ := wind_eq h
  obtain ⟨C', u', e3, e4, e5⟩ := day_eq h hd hs
  exact ⟨_, C', u', e1, e2, e3, e4, e5⟩
theorem days_loop {a P N n L : Nat} (hL : L < 1000) (t : Nat) : ∀ (m m' i d : Nat) (C u : zM), TR a P N n d C u → d + t < 99999 → i + t = L → t < m → t < m' → ∃ C' u', f_X0_passDays_2 m C (Int32.ofNat L) (Int32.ofNat i) = some C' ∧ f_X7_daysGo_12 m' u (Int32.ofNat L) (Int32.ofNat i) = some u' ∧ TR a P N n (d + t) C' u' ∧ Fr u u' ∧ FL C u C' u' := by
  induction t with
  | zero =>
    intro m m' i d C u h hd hi hm hm'
    obtain ⟨m, rfl⟩ : ∃ q, m = q + 1 := ⟨m - 1, by omega⟩
    obtain ⟨m', rfl⟩ : ∃ q, m' = q + 1 := ⟨m' - 1, by omega⟩
    have hi : i = L := by omega
    subst hi
    rw [f_X0_passDays_2, f_X7_daysGo_12, if_pos (Int32.le_refl _), if_pos (Int32.le_refl _)]
    exact ⟨C, u, rfl, rfl, h, Fr.rf u, FL.rf C u⟩
  | succ t ih =>
    intro m m' i d C u h hd hi hm hm'
    obtain ⟨m, rfl⟩ : ∃ q, m = q + 1 := ⟨m - 1, by omega⟩
    obtain ⟨m', rfl⟩ : ∃ q, m' = q + 1 := ⟨m' - 1, by omega⟩
    obtain ⟨w, C1, u1, e1, e2, e3, e4, h1, fr1, fl1⟩ := dayW_eq h (by omega)
    rw [f_X0_passDays_2, f_X7_daysGo_12, if_neg (nle (by omega) (by omega)), if_neg (nle (by omega) (by omega)), e1, e2, o_1]
    simp only [Option.bind_some]
    rw [e3, e4]
    simp only [Option.bind_some, zlet_eq]
    obtain ⟨C2, u2, f4, f5, h2, fr2, fl2⟩ := ih m m' (i + 1) (d + 1) C1 u1 h1 (by omega) (by omega) (by omega) (by omega)
    exact ⟨C2, u2, f4, f5, (show d + 1 + t = d + (t + 1) by omega) ▸ h2, fr1.tr fr2, fl1.tr fl2⟩
theorem tr_fl {a P N n d : Nat} {C u u' : zM} (h : TR a P N n d C u) (e0 : u' 0 3 = u 0 3 ∧ u' 0 16 = u 0 16) (e2 : ∀ k, k < 42 → u' 2 k = u 2 k) : TR a P N n d C u' := by
  obtain ⟨hP, hN, ha, hpos, hd, uP, CP, Cn, uN, Cd, ud, hp, hB0, hw⟩ := h
  refine ⟨hP, hN, ?_, hpos, hd, e0.1.trans uP, CP, Cn, (e2 34 (by decide)).trans uN, Cd, (e2 41 (by decide)).trans ud, ?_, ?_, ?_⟩
  · rw [e0.2]; exact ha
  · intro p hpp
    rw [e2 p (by omega)]; exact hp p hpp
  · intro i hi hia
    have q := hB0 i hi hia
    unfold BR
    rw [e2 (4 + 5 * i) (by omega), e2 (5 + 5 * i) (by omega), e2 (6 + 5 * i) (by omega), e2 (7 + 5 * i) (by omega), e2 (8 + 5 * i) (by omega)]
    exact q
  · intro k hk
    rw [e2 (35 + k) (by omega)]; exact hw k hk
theorem days_eq {a P N n d L : Nat} {C u : zM} (h : TR a P N n d C u) (hd : d < 50000) (hL : L < 1000) : ∃ C' u', f_X0_passDays C (Int32.ofNat L) = some C' ∧ f_X7_daysGo u (Int32.ofNat L) = some u' ∧ TR a P N n (d + L) C' u' ∧ Fr u u' ∧ (C 0 3 = 0 → C' 0 3 = u' 0 17) ∧ (C 0 4 = 0 → C' 0 4 = u' 0 18) := by
  have h1 : TR a P N n d C (zU (zU u 0 17 0) 0 18 0) := by
    refine tr_fl h ?_ ?_
    · simp (disch := decide) only [zu_j, and_self]
    · intro k hk
      simp (disch := decide) only [zU_ne]
  obtain ⟨C', u', f1, f2, h2, fr, fl⟩ := days_loop (L := L) hL L FU FU 0 d C _ h1 (by omega) (by omega) (FU_pos (by omega)) (FU_pos (by omega))
  refine ⟨C', u', f1, f2, h2, Fr.tr ⟨?_, ?_, ?_⟩ fr, ?_, ?_⟩
  · intro i a b
    simp (disch := assumption) only [zU_ne]
  · intro i a b
    simp (disch := assumption) only [zu_j]
  · intro i a
    simp (disch := decide) only [zU_ne]
  · intro w
    refine fl.1 (w.trans ?_)
    simp (disch := decide) only [zu_j, zu_eq]
  · intro w
    refine fl.2 (w.trans ?_)
    simp (disch := decide) only [zu_eq]
