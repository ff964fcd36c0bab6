theorem cr_cong {P nb d : Nat} {C : zM} {v v' : Nat → Int32} (h : CR P nb d C v) (e : ∀ k, k < 42 → v' k = v k) : CR P nb d C v' := by
  obtain ⟨hP, hnb, hpos, h0, h1, h2, h3, h4, hp, hB, hw⟩ := h
  refine ⟨hP, hnb, hpos, h0, h1, by rw [e 34 (by decide)]; exact h2, h3, by rw [e 41 (by decide)]; exact h4, ?_, ?_, ?_⟩
  · intro p hpp
    rw [e p (by omega)]; exact hp p hpp
  · intro b hb
    rw [e (4 + 5 * b) (by omega), e (5 + 5 * b) (by omega), e (6 + 5 * b) (by omega), e (7 + 5 * b) (by omega), e (8 + 5 * b) (by omega)]
    exact hB b hb
  · intro k hk
    rw [e (35 + k) (by omega)]; exact hw k hk
theorem rel_sn {S : Nat → zM} {u : zM} (h : Rel S u) {N' : zM} {v' : Nat → Int32} (f : ∀ P m, P ≤ 4 → SNR P m (S 6) (u 1) → u 0 3 = Int32.ofNat P → ∃ m', SNR P m' N' v') (hv : ∀ k, k < 42 ∨ 61 ≤ k → v' k = u 1 k) : Rel (va_up S 6 N') (va_up u 1 v') := by
  obtain ⟨P, nb, d, m, hC, hd, hP, hN, hI, hT, hF, hH, hR⟩ := h
  obtain ⟨m', hN'⟩ := f P m hC.1 hN hP
  refine ⟨P, nb, d, m', ?_, hd, hP, ?_, ?_, hT, hF, ?_, hR⟩
  · rw [va_up_neq _ _ (show 4 ≠ 6 by decide), va_up_eq]; exact cr_cong hC (fun k hk => hv k (Or.inl hk))
  · rw [va_up_eq, va_up_eq]; exact hN'
  · intro k hk
    rw [va_up_neq _ _ (show 7 + k ≠ 6 by omega), va_up_neq _ _ (show 9 + k ≠ 6 by omega), va_up_neq _ _ (show 11 + k ≠ 6 by omega), va_up_neq _ _ (show 3 ≠ 1 by decide), va_up_eq]
    rw [show (fun j => v' (61 * (k + 1) + j)) = (fun j => u 1 (61 * (k + 1) + j)) from funext fun j => hv _ (by omega)]
    exact hI k hk
  · intro k hk
    rw [va_up_neq _ _ (show 13 + k ≠ 6 by omega)]
    exact hH k hk
theorem cr_lift {P nb d : Nat} {C : zM} {v : Nat → Int32} (h : CR P nb d C v) {i k : Nat} (hi : i < nb) (hk : k < 10) : CR P nb d (zU (zU C 5 i (-4)) 6 i (Int32.ofNat k)) (upd (upd v (7 + 5 * i) (Int32.ofNat k)) (8 + 5 * i) (-4)) := by
  obtain ⟨hP, hnb, hpos, h0, h1, h2, h3, h4, hp, hB, hw⟩ := h
  refine ⟨hP, hnb, hpos, ?_, ?_, ?_, ?_, ?_, ?_, ?_, ?_⟩
  · simp (disch := omega) only [zU_ne]; exact h0
  · simp (disch := omega) only [zU_ne]; exact h1
  · simp (disch := omega) only [up_ne]; exact h2
  · simp (disch := omega) only [zU_ne]; exact h3
  · simp (disch := omega) only [up_ne]; exact h4
  · intro p hpp
    simp (disch := omega) only [zU_ne, up_ne]
    exact hp p hpp
  · intro b hb
    have q1 := hB b hb
    by_cases hq : b = i
    · subst hq
      simp (disch := omega) only [zU_ne, zu_eq, up_eq, up_ne, true_and]
      obtain ⟨e1, e2, e3, e4, e5, e6, e7⟩ := q1
      exact ⟨e1, e2, e3, e4, e5, e6, Or.inl ⟨k, hk, rfl⟩⟩
    · simp (disch := omega) only [zU_ne, zu_j, up_ne]
      exact q1
  · intro j hj
    simp (disch := omega) only [zU_ne, up_ne]
    exact hw j hj
theorem api_lift {S : Nat → zM} {u : zM} (h : Rel S u) (a1 : Int32) (a2 : Int32) : ∃ (r : Int32) (S' : Nat → zM) (u' : zM), f_X6_lift S a1 a2 = some (r, S') ∧ f_X7_lift u a1 a2 = some (r, u') ∧ Rel S' u' := by
  obtain ⟨P, nb, d, m, hC, hd, hP, hN, hI, hT, hF, hH, hR⟩ := id h
  have hP4 := hC.1
  have hn6 := hC.2.1
  unfold f_X6_lift f_X7_lift f_X0_sits f_X0_putInAir
  rw [hasBeetle_eq hC.2.2.2.2.1 hC.2.1, isBeetle_eq hC.2.2.2.2.2.1 hC.2.1, isPlace_eq u, wi_0_9]
  cases hz : zw a1 0 ((nb : Int) - 1) with
  | false => exact ⟨-1, S, u, rfl, rfl, h⟩
  | true =>
    obtain ⟨b, hb, -, rfl⟩ := zw_nat hz
    have hB := hC.2.2.2.2.2.2.2.2.2.1 b (by omega)
    have hb6 : b < 6 := by omega
    cases hy : zw a2 0 9 with
    | false => exact ⟨-1, S, u, rfl, rfl, h⟩
    | true =>
      obtain ⟨k, hk, -, rfl⟩ := zw_nat hy
      simp only [Option.bind_some, ↓reduceIte, zlet_eq]
      rw [if_pos (z_inN hb6 (by decide)), show (4 + (5 * Int32.ofNat b)) + 4 = Int32.ofNat (8 + 5 * b) from (at_b b 4).trans (congrArg Int32.ofNat (by omega)), show (4 + (5 * Int32.ofNat b)) + 3 = Int32.ofNat (7 + 5 * b) from (at_b b 3).trans (congrArg Int32.ofNat (by omega)), if_pos (z_inN (show 8 + 5 * b < 183 by omega) (by decide)), if_pos (z_inN (show 7 + 5 * b < 183 by omega) (by decide)), o_cl (show b < 2 ^ 31 by omega), o_cl (show 8 + 5 * b < 2 ^ 31 by omega), o_cl (show 7 + 5 * b < 2 ^ 31 by omega), hB.2.2.2.2.2.2.1]
      by_cases h4 : u 1 (8 + 5 * b) = -4
      · rw [if_pos h4, if_pos h4]
        exact ⟨-2, S, u, rfl, rfl, h⟩
      · rw [if_neg h4, if_neg h4]
        simp only [Option.bind_some, ↓reduceIte]
        rw [becomes_eq (show 8 + 5 * b < 183 by omega)]
        have e1 : zU u 1 (7 + 5 * b) (Int32.ofNat k) 1 (8 + 5 * b) = u 1 (8 + 5 * b) := zu_j _ _ _ _ (by omega)
        have e2 : va_up (zU u 1 (7 + 5 * b) (Int32.ofNat k)) 1 (upd (zU u 1 (7 + 5 * b) (Int32.ofNat k) 1) (8 + 5 * b) (-4)) = va_up u 1 (upd (upd (u 1) (7 + 5 * b) (Int32.ofNat k)) (8 + 5 * b) (-4)) := by
          rw [zU_row]
          funext i
          by_cases hi : i = 1
          · subst hi; rw [va_up_eq, va_up_eq]
          · rw [va_up_neq _ _ hi, va_up_neq _ _ hi, zU_ne _ _ _ hi]
        simp only [if_pos (z_inN hb6 (by decide)), Option.bind_some]
        rw [e1, e2]
        refine ⟨_, _, _, rfl, rfl, rel_now h (fun P' nb' d' hC' hd' hP' => ⟨nb', d', hd', cr_lift hC' ?_ (by omega)⟩) (fun j hj => by rw [up_ne _ _ _ (by omega), up_ne _ _ _ (by omega)])⟩
        have := same_n hC hC'
        omega
theorem api_forget {S : Nat → zM} {u : zM} (h : Rel S u) (a1 : Int32) : ∃ (r : Int32) (S' : Nat → zM) (u' : zM), f_X6_forget S a1 = some (r, S') ∧ f_X7_forget u a1 = some (r, u') ∧ Rel S' u' := by
  obtain ⟨P, nb, d, m, hC, hd, hP, ⟨hm, hN0, hN1, hN2⟩, hI, hT, hF, hH, hR⟩ := id h
  unfold f_X6_forget f_X7_forget
  rw [if_pos (show z_in 42 183 = true by decide), show Int32.toNatClampNeg 42 = 42 from rfl, within_g, in_32, hN0, hN1, Int32.toInt_toInt64, o_toInt (by omega)]
  rw [show Int32.toInt 0 = 0 from rfl, show Int64.toInt 0 = 0 from rfl]
  cases hz : zw a1 0 (m : Int) with
  | false => exact ⟨-1, S, u, rfl, rfl, h⟩
  | true =>
    obtain ⟨k, hk, -, rfl⟩ := zw_nat hz
    simp only [Option.bind_some, ↓reduceIte, zlet_eq]
    rw [show f_X7_becomes u 42 (Int32.ofNat k) = _ from becomes_eq (show 42 < 183 by decide) (Int32.ofNat k), hN1]
    refine ⟨_, _, _, rfl, rfl, rel_sn h (fun P' m' hP4 hm' hP' => ⟨k, by omega, zu_eq _ _ _ _, up_eq _ _ _, fun i hi => ?_⟩) (fun j hj => up_ne _ _ _ (by omega))⟩
    simp (disch := omega) only [zU_ne, up_ne]
    refine hm'.2.2.2 i ?_
    have e := hm'.2.1
    have := hm'.1
    rw [hN0] at e
    have := (o_eq (by omega) (by omega)).mp e
    omega
