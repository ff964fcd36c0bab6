theorem zu_eq (u : zM) (c i : Nat) (x : Int32) : zU u c i x c i = x := by rw [zU_row]; exact if_pos rfl
theorem zu_j (u : zM) (c i : Nat) (x : Int32) {j : Nat} (h : j ≠ i) : zU u c i x c j = u c j := by rw [zU_row]; exact if_neg h
theorem up_eq (v : Nat → Int32) (q : Nat) (x : Int32) : upd v q x q = x := if_pos rfl
theorem up_ne (v : Nat → Int32) (q : Nat) (x : Int32) {j : Nat} (h : j ≠ q) : upd v q x j = v j := if_neg h
theorem rel_now {S : Nat → zM} {u : zM} (h : Rel S u) {C' : zM} {v' : Nat → Int32} (f : ∀ P nb d, CR P nb d (S 4) (u 1) → d < 1000 → u 0 3 = Int32.ofNat P → ∃ nb' d', d' < 1000 ∧ CR P nb' d' C' v') (hv : ∀ k, 42 ≤ k → v' k = u 1 k) : Rel (va_up S 4 C') (va_up u 1 v') := by
  obtain ⟨P, nb, d, m, hC, hd, hP, hN, hI, hT, hF, hH, hR⟩ := h
  obtain ⟨nb', d', hd', hC'⟩ := f P nb d hC hd hP
  refine ⟨P, nb', d', m, ?_, hd', hP, ?_, ?_, hT, hF, ?_, hR⟩
  · rw [va_up_eq, va_up_eq]; exact hC'
  · rw [va_up_neq _ _ (show 6 ≠ 4 by decide), va_up_eq]
    obtain ⟨a, b, c, e⟩ := hN
    refine ⟨a, b, by rw [hv 42 (by decide)]; exact c, ?_⟩
    intro i hi
    rw [hv (43 + 3 * i) (by omega), hv (44 + 3 * i) (by omega), hv (45 + 3 * i) (by omega)]
    exact e i hi
  · intro k hk
    rw [va_up_neq _ _ (show 7 + k ≠ 4 by omega), va_up_neq _ _ (show 9 + k ≠ 4 by omega), va_up_neq _ _ (show 11 + k ≠ 4 by omega), va_up_neq _ _ (show 3 ≠ 1 by decide), va_up_eq]
    rw [show (fun j => v' (61 * (k + 1) + j)) = (fun j => u 1 (61 * (k + 1) + j)) from funext fun j => hv _ (by omega)]
    exact hI k hk
  · intro k hk
    rw [va_up_neq _ _ (show 13 + k ≠ 4 by omega)]
    exact hH k hk
theorem cr_up {P nb d : Nat} {C : zM} {v : Nat → Int32} (h : CR P nb d C v) {c i q : Nat} {x : Int32}
    (hc : (c = 1 ∧ i < P ∧ i = q ∧ zr x 10) ∨ (c = 7 ∧ i < 6 ∧ q = 35 + i ∧ zr x 10) ∨ (c = 2 ∧ i < nb ∧ q = 4 + 5 * i ∧ zr x 4) ∨ (c = 3 ∧ i < nb ∧ q = 5 + 5 * i ∧ ∃ k, 1 ≤ k ∧ k < 10 ∧ x = Int32.ofNat k) ∨ (c = 4 ∧ i < nb ∧ q = 6 + 5 * i ∧ zr x P)) :
    CR P nb d (zU C c i x) (upd v q x) := by
  obtain ⟨hP, hnb, hpos, h0, h1, h2, h3, h4, hp, hB, hw⟩ := h
  rcases hc with ⟨rfl, hi, rfl, hx⟩ | ⟨rfl, hi, rfl, hx⟩ | ⟨rfl, hi, rfl, hx⟩ | ⟨rfl, hi, rfl, hx⟩ | ⟨rfl, hi, rfl, hx⟩
  all_goals
    refine ⟨hP, hnb, hpos, ?_, ?_, ?_, ?_, ?_, ?_, ?_, ?_⟩
    · simp (disch := omega) only [zU_ne]; exact h0
    · simp (disch := omega) only [zU_ne]; exact h1
    · simp (disch := omega) only [up_ne]; exact h2
    · simp (disch := omega) only [zU_ne]; exact h3
    · simp (disch := omega) only [up_ne]; exact h4
    · intro p hpp
      have q1 := hp p hpp
      by_cases hq : p = i
      · subst hq
        simp (disch := omega) only [zU_ne, zu_eq, up_eq, up_ne]
        first | exact q1 | exact ⟨trivial, hx⟩ | exact ⟨rfl, hx⟩ | exact hx
      · simp (disch := omega) only [zU_ne, zu_j, up_ne]
        exact q1
    · intro b hb
      have q1 := hB b hb
      by_cases hq : b = i
      · subst hq
        simp (disch := omega) only [zU_ne, zu_eq, up_eq, up_ne, true_and]
        obtain ⟨e1, e2, e3, e4, e5, e6, e7⟩ := q1
        first | exact ⟨e1, e2, e3, e4, e5, e6, e7⟩ | exact ⟨hx, e3, e4, e5, e6, e7⟩ | exact ⟨e1, e2, hx, e5, e6, e7⟩ | exact ⟨e1, e2, e3, e4, hx, e7⟩
      · simp (disch := omega) only [zU_ne, zu_j, up_ne]
        exact q1
    · intro k hk
      have q1 := hw k hk
      by_cases hq : k = i
      · subst hq
        simp (disch := omega) only [zU_ne, zu_eq, up_eq, up_ne]
        first | exact q1 | exact ⟨trivial, hx⟩ | exact ⟨rfl, hx⟩ | exact hx
      · simp (disch := omega) only [zU_ne, zu_j, up_ne]
        exact q1
theorem becomes_eq {u : zM} {k : Nat} (h : k < 183) (x : Int32) : f_X7_becomes u (Int32.ofNat k) x = some (u 1 k, va_up u 1 (upd (u 1) k x)) := by
  unfold f_X7_becomes
  simp only [z_inN h (by decide), ↓reduceIte, zlet_eq, o_cl (show k < 2 ^ 31 by omega)]
  rfl
theorem isPlace_eq (u : zM) (v : Int32) : f_X7_isPlace v = some (zw v 0 9) := by
  unfold f_X7_isPlace
  rw [in_0_9]
  rfl
theorem same_P {u : zM} {P P' : Nat} (h : u 0 3 = Int32.ofNat P) (h' : u 0 3 = Int32.ofNat P') (a : P ≤ 4) (b : P' ≤ 4) : P' = P := by
  rw [h] at h'
  exact ((o_eq (by omega) (by omega)).mp h').symm
theorem same_n {P nb d P' nb' d' : Nat} {C : zM} {v : Nat → Int32} (h : CR P nb d C v) (h' : CR P' nb' d' C v) : nb' = nb := by
  have a := h.2.1
  have b := h'.2.1
  have e := h'.2.2.2.2.1
  rw [h.2.2.2.2.1] at e
  exact ((o_eq (by omega) (by omega)).mp e).symm
theorem api_walk {S : Nat → zM} {u : zM} (h : Rel S u) (a1 : Int32) (a2 : Int32) : ∃ (r : Int32) (S' : Nat → zM) (u' : zM), f_X6_walk S a1 a2 = some (r, S') ∧ f_X7_walk u a1 a2 = some (r, u') ∧ Rel S' u' := by
  obtain ⟨P, nb, d, m, hC, hd, hP, hN, hI, hT, hF, hH, hR⟩ := id h
  unfold f_X6_walk f_X7_walk
  rw [hasOne_eq hC.2.2.2.1 hC.1, isOne_eq hP hC.1, isPlace_eq u, wi_0_9]
  cases hz : zw a1 0 ((P : Int) - 1) with
  | false => exact ⟨-1, S, u, rfl, rfl, h⟩
  | true =>
    obtain ⟨p, hp, -, rfl⟩ := zw_nat hz
    have hP4 := hC.1
    cases hy : zw a2 0 9 with
    | false => exact ⟨-1, S, u, rfl, rfl, h⟩
    | true =>
      obtain ⟨k, hk, -, rfl⟩ := zw_nat hy
      simp only [Option.bind_some, ↓reduceIte, zlet_eq]
      rw [if_pos (z_inN (show p < 4 by omega) (by decide)), if_pos (z_inN (show p < 4 by omega) (by decide)), becomes_eq (by omega), o_cl (by omega), (hC.2.2.2.2.2.2.2.2.1 p (by omega)).1]
      refine ⟨_, _, _, rfl, rfl, rel_now h (fun P' nb' d' hC' hd' hP' => ⟨nb', d', hd', cr_up hC' (Or.inl ⟨rfl, ?_, rfl, k, by omega, rfl⟩)⟩) (fun j hj => up_ne _ _ _ (by omega))⟩
      have := same_P hP hP' hP4 hC'.1
      omega
theorem api_blow {S : Nat → zM} {u : zM} (h : Rel S u) (a1 : Int32) (a2 : Int32) : ∃ (r : Int32) (S' : Nat → zM) (u' : zM), f_X6_blow S a1 a2 = some (r, S') ∧ f_X7_blow u a1 a2 = some (r, u') ∧ Rel S' u' := by
  obtain ⟨P, nb, d, m, hC, hd, hP, hN, hI, hT, hF, hH, hR⟩ := id h
  unfold f_X6_blow f_X7_blow
  rw [wi_0_5, in_0_5, wi_0_9, in_0_9]
  cases hz : zw a1 0 5 with
  | false => exact ⟨-1, S, u, rfl, rfl, h⟩
  | true =>
    obtain ⟨p, hp, -, rfl⟩ := zw_nat hz
    cases hy : zw a2 0 9 with
    | false => exact ⟨-1, S, u, rfl, rfl, h⟩
    | true =>
      obtain ⟨k, hk, -, rfl⟩ := zw_nat hy
      simp only [Option.bind_some, ↓reduceIte, zlet_eq]
      rw [if_pos (z_inN (show p < 6 by omega) (by decide)), if_pos (z_inN (show p < 6 by omega) (by decide)), show (35 : Int32) + Int32.ofNat p = Int32.ofNat (35 + p) from o_add 35 p, becomes_eq (by omega), o_cl (by omega), (hC.2.2.2.2.2.2.2.2.2.2 p (by omega)).1]
      exact ⟨_, _, _, rfl, rfl, rel_now h (fun P' nb' d' hC' hd' hP' => ⟨nb', d', hd', cr_up hC' (Or.inr (Or.inl ⟨rfl, by omega, rfl, k, by omega, rfl⟩))⟩) (fun j hj => up_ne _ _ _ (by omega))⟩
theorem at_b (b w : Nat) : (4 + (5 * Int32.ofNat b)) + Int32.ofNat w = Int32.ofNat (4 + 5 * b + w) := by
  rw [show (5 : Int32) * Int32.ofNat b = Int32.ofNat (5 * b) from o_mul 5 b, show (4 : Int32) + Int32.ofNat (5 * b) = Int32.ofNat (4 + 5 * b) from o_add 4 (5 * b), o_add]
theorem api_alter {S : Nat → zM} {u : zM} (h : Rel S u) (a1 : Int32) (a2 : Int32) (a3 : Int32) : ∃ (r : Int32) (S' : Nat → zM) (u' : zM), f_X6_alter S a1 a2 a3 = some (r, S') ∧ f_X7_alter u a1 a2 a3 = some (r, u') ∧ Rel S' u' := by
  obtain ⟨P, nb, d, m, hC, hd, hP, hN, hI, hT, hF, hH, hR⟩ := id h
  have hP4 := hC.1
  have hn6 := hC.2.1
  unfold f_X6_alter f_X7_alter f_X6_alter_48 f_X6_alter_87 f_X7_canBe f_X6_isKind
  rw [hasBeetle_eq hC.2.2.2.2.1 hC.2.1, isBeetle_eq hC.2.2.2.2.2.1 hC.2.1, wi_0_3, in_0_3, wi_1_9, in_1_9, hasOne_eq hC.2.2.2.1 hC.1, isOne_eq hP hC.1]
  cases hz : zw a1 0 ((nb : Int) - 1) with
  | false => exact ⟨-1, S, u, rfl, rfl, h⟩
  | true =>
    obtain ⟨b, hb, -, rfl⟩ := zw_nat hz
    have hB := hC.2.2.2.2.2.2.2.2.2.1 b (by omega)
    have hb6 : b < 6 := by omega
    simp only [Option.bind_some, ↓reduceIte, zlet_eq]
    by_cases h0 : a2 = 0
    · subst h0
      rw [if_pos rfl, if_pos rfl]
      cases hy : zw a3 0 3 with
      | false => exact ⟨-1, S, u, rfl, rfl, h⟩
      | true =>
        obtain ⟨k, hk, -, rfl⟩ := zw_nat hy
        simp only [Option.bind_some, ↓reduceIte, zlet_eq]
        rw [if_pos (z_inN hb6 (by decide)), if_pos (z_inN hb6 (by decide)), show (4 + (5 * Int32.ofNat b)) + 0 = Int32.ofNat (4 + 5 * b + 0) from at_b b 0, becomes_eq (by omega), o_cl (by omega), hB.1]
        refine ⟨_, _, _, rfl, rfl, rel_now h (fun P' nb' d' hC' hd' hP' => ⟨nb', d', hd', cr_up hC' (Or.inr (Or.inr (Or.inl ⟨rfl, ?_, rfl, k, by omega, rfl⟩)))⟩) (fun j hj => up_ne _ _ _ (by omega))⟩
        have := same_n hC hC'
        omega
    · rw [if_neg h0, if_neg h0]
      by_cases h1 : a2 = 1
      · subst h1
        rw [if_pos rfl, if_pos rfl]
        cases hy : zw a3 1 9 with
        | false => exact ⟨-1, S, u, rfl, rfl, h⟩
        | true =>
          obtain ⟨k, hk1, hk, -, rfl⟩ := zw_natL (by decide) hy
          simp only [Option.bind_some, ↓reduceIte, zlet_eq]
          rw [if_pos (z_inN hb6 (by decide)), if_pos (z_inN hb6 (by decide)), show (4 + (5 * Int32.ofNat b)) + 1 = Int32.ofNat (5 + 5 * b) from (at_b b 1).trans (congrArg Int32.ofNat (by omega)), becomes_eq (by omega), o_cl (by omega), hB.2.2.1]
          refine ⟨_, _, _, rfl, rfl, rel_now h (fun P' nb' d' hC' hd' hP' => ⟨nb', d', hd', cr_up hC' (Or.inr (Or.inr (Or.inr (Or.inl ⟨rfl, ?_, rfl, k, by omega, by omega, rfl⟩))))⟩) (fun j hj => up_ne _ _ _ (by omega))⟩
          have := same_n hC hC'
          omega
      · rw [if_neg h1, if_neg h1]
        by_cases h2 : a2 = 2
        · subst h2
          rw [if_pos rfl, if_pos rfl]
          cases hy : zw a3 0 ((P : Int) - 1) with
          | false => exact ⟨-1, S, u, rfl, rfl, h⟩
          | true =>
            obtain ⟨k, hk, -, rfl⟩ := zw_nat hy
            simp only [Option.bind_some, ↓reduceIte, zlet_eq]
            rw [if_pos (z_inN hb6 (by decide)), if_pos (z_inN hb6 (by decide)), show (4 + (5 * Int32.ofNat b)) + 2 = Int32.ofNat (6 + 5 * b) from (at_b b 2).trans (congrArg Int32.ofNat (by omega)), becomes_eq (by omega), o_cl (by omega), hB.2.2.2.2.1]
            refine ⟨_, _, _, rfl, rfl, rel_now h (fun P' nb' d' hC' hd' hP' => ⟨nb', d', hd', cr_up hC' (Or.inr (Or.inr (Or.inr (Or.inr ⟨rfl, ?_, rfl, k, ?_, rfl⟩))))⟩) (fun j hj => up_ne _ _ _ (by omega))⟩
            · have := same_n hC hC'
              omega
            · have := same_P hP hP' hP4 hC'.1
              omega
        · rw [if_neg h2, if_neg h2]
          exact ⟨-1, S, u, rfl, rfl, h⟩
