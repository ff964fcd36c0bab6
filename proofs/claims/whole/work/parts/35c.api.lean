theorem need_loop {P nb d b p L : Nat} (hb : b < nb) (hp : p < P) (hL : L ≤ 60) (t : Nat) : ∀ (m m' i : Nat) (S : Nat → zM) (u : zM), RC P nb d S u → 1 ≤ i → i + t = 10 → t < m → t < m' → ∃ r S' u', f_X6_need_37 m S (Int32.ofNat b) (Int32.ofNat p) (Int32.ofNat L) (Int32.ofNat i) = some (r, S') ∧ f_X7_need_28 m' u (Int32.ofNat b) (Int32.ofNat p) (Int32.ofNat L) (Int32.ofNat i) = some (r, u') ∧ Rel S' u' := by
  induction t with
  | zero =>
    intro m m' i S u hc h1 hi hm hm'
    obtain ⟨m, rfl⟩ : ∃ q, m = q + 1 := ⟨m - 1, by omega⟩
    obtain ⟨m', rfl⟩ : ∃ q, m' = q + 1 := ⟨m' - 1, by omega⟩
    have hi : i = 10 := by omega
    subst hi
    rw [f_X6_need_37, f_X7_need_28, if_pos (show (9 : Int32) < Int32.ofNat 10 by decide), if_pos (show (9 : Int32) < Int32.ofNat 10 by decide)]
    exact ⟨_, _, _, rfl, rfl, hc.1⟩
  | succ t ih =>
    intro m m' i S u hc h1 hi hm hm'
    obtain ⟨m, rfl⟩ : ∃ q, m = q + 1 := ⟨m - 1, by omega⟩
    obtain ⟨m', rfl⟩ : ∃ q, m' = q + 1 := ⟨m' - 1, by omega⟩
    obtain ⟨hP4, hn6, SP, Sn, un4⟩ := hc.b4
    obtain ⟨D, f1, f2, f3, f4, hT⟩ := hc.cpy (S 5)
    obtain ⟨-, hT2, fr0⟩ := hc.edit f2 (c := 3) (i := b) (q := 5 + 5 * b) (x := Int32.ofNat i) (Or.inr (Or.inr (Or.inr (Or.inl ⟨rfl, hb, rfl, i, by omega, by omega, rfl⟩))))
    obtain ⟨C', u', g1, g2, g3, g4, -⟩ := days_eq hT2 (by have := hc.2.1; omega) (show L < 1000 by omega)
    have l9 : ¬ (9 : Int32) < Int32.ofNat i := i32_nlt.mpr ((o_le (a := i) (b := 9) (by omega) (by decide)).mpr (by omega))
    rw [f_X6_need_37, f_X7_need_28, if_neg l9, if_neg l9, f1, starts_eq]
    simp only [Option.bind_some, zlet_eq, va_up_eq, vv]
    rw [if_pos (z_inN (show b < 6 by omega) (by decide)), o_cl (show b < 2 ^ 31 by omega), bo1 _ (show b < 6 by omega), g1]
    simp only [Option.bind_some, va_up_eq, vv]
    rw [g2]
    simp only [Option.bind_some]
    obtain ⟨y, q1, q2⟩ := way_eq g3 (Int32.ofNat p)
    rw [q1, q2, o_1]
    simp only [Option.bind_some]
    have hr := hc.st.run (fr0.tr g4) C'
    cases y with
    | true => exact ⟨_, _, _, rfl, rfl, hr.1⟩
    | false =>
      simp only [Bool.false_eq_true, ↓reduceIte]
      exact ih m m' (i + 1) _ _ hr (by omega) (by omega) (by omega) (by omega)
theorem api_need {S : Nat → zM} {u : zM} (h : Rel S u) (a1 : Int32) (a2 : Int32) (a3 : Int32) : ∃ (r : Int32) (S' : Nat → zM) (u' : zM), f_X6_need S a1 a2 a3 = some (r, S') ∧ f_X7_need u a1 a2 a3 = some (r, u') ∧ Rel S' u' := by
  obtain ⟨P, nb, d, hc⟩ := rc_of h
  obtain ⟨hP4, hn6, SP, Sn, un4⟩ := hc.b4
  unfold f_X6_need f_X7_need
  rw [hasBeetle_eq Sn hn6, isBeetle_eq un4 hn6, hasOne_eq SP hP4, isOne_eq hc.2.2.1 hP4, wi_0_60, isFar_eq]
  simp only [Option.bind_some]
  cases hz : zw a1 0 ((nb : Int) - 1) with
  | false => exact ⟨-1, S, u, rfl, rfl, h⟩
  | true =>
    obtain ⟨b, hb, -, rfl⟩ := zw_nat hz
    cases hx : zw a2 0 ((P : Int) - 1) with
    | false => exact ⟨-1, S, u, rfl, rfl, h⟩
    | true =>
      obtain ⟨p, hp, -, rfl⟩ := zw_nat hx
      cases hy : zw a3 0 60 with
      | false => exact ⟨-1, S, u, rfl, rfl, h⟩
      | true =>
        obtain ⟨L, hL, -, rfl⟩ := zw_nat hy
        simp only [↓reduceIte]
        exact need_loop (show b < nb by omega) (show p < P by omega) (show L ≤ 60 by omega) 9 FU FU 1 S u hc (by omega) (by omega) (FU_pos (by omega)) (FU_pos (by omega))
theorem calm_loop {P nb d L : Nat} (hL : L ≤ 60) (w : Int32) (t : Nat) : ∀ (m m' i : Nat) (S : Nat → zM) (u : zM) (be mo : Int32), RC P nb d S u → i + t = 6 → t < m → t < m' → (be = -4 ∨ ∃ f, f < 6 ∧ be = Int32.ofNat f) → ∃ r S' u', f_X6_calm_55 m S (Int32.ofNat L) w be mo (Int32.ofNat i) = some (r, S') ∧ f_X7_calm_37 m' u (Int32.ofNat L) w mo be (Int32.ofNat i) = some (r, u') ∧ Rel S' u' := by
  induction t with
  | zero =>
    intro m m' i S u be mo hc hi hm hm' hv
    obtain ⟨m, rfl⟩ : ∃ q, m = q + 1 := ⟨m - 1, by omega⟩
    obtain ⟨m', rfl⟩ : ∃ q, m' = q + 1 := ⟨m' - 1, by omega⟩
    have hi : i = 6 := by omega
    subst hi
    rw [f_X6_calm_55, f_X7_calm_37, if_pos (show (6 : Int32) ≤ Int32.ofNat 6 by decide), if_pos (show (6 : Int32) ≤ Int32.ofNat 6 by decide)]
    rcases hv with rfl | ⟨f, hf, rfl⟩
    · rw [if_pos rfl, if_pos rfl]
      by_cases h0 : w = 0
      · rw [if_pos h0]; exact ⟨_, _, _, rfl, rfl, hc.1⟩
      · rw [if_neg h0]; exact ⟨_, _, _, rfl, rfl, hc.1⟩
    · rw [if_neg (ne4 (by omega)), if_neg (ne4 (by omega))]
      by_cases h0 : w = 0
      · rw [if_pos h0, if_pos h0]; exact ⟨_, _, _, rfl, rfl, hc.1⟩
      · rw [if_neg h0, if_neg h0]; exact ⟨_, _, _, rfl, rfl, hc.1⟩
  | succ t ih =>
    intro m m' i S u be mo hc hi hm hm' hv
    obtain ⟨m, rfl⟩ : ∃ q, m = q + 1 := ⟨m - 1, by omega⟩
    obtain ⟨m', rfl⟩ : ∃ q, m' = q + 1 := ⟨m' - 1, by omega⟩
    obtain ⟨hP4, hn6, SP, Sn, un4⟩ := hc.b4
    obtain ⟨D, f1, f2, f3, f4, hT⟩ := hc.cpy (S 5)
    obtain ⟨-, hT2, fr0⟩ := hc.edit f2 (c := 7) (i := i) (q := 35 + i) (x := 0) (Or.inr (Or.inl ⟨rfl, by omega, rfl, zr_0 (by decide)⟩))
    obtain ⟨C', u', g1, g2, g3, g4, -⟩ := days_eq hT2 (by have := hc.2.1; omega) (show L < 1000 by omega)
    have l6 : ¬ (6 : Int32) ≤ Int32.ofNat i := nle (a := 6) (by omega) (by decide)
    rw [f_X6_calm_55, f_X7_calm_37, if_neg l6, if_neg l6, f1, starts_eq]
    simp only [Option.bind_some, zlet_eq, va_up_eq, vv]
    rw [if_pos (z_inN (show i < 6 by omega) (by decide)), o_cl (show i < 2 ^ 31 by omega), show (35 : Int32) + Int32.ofNat i = Int32.ofNat (35 + i) from o_add 35 i, if_pos (z_inN (show 35 + i < 61 by omega) (by decide)), o_cl (show 35 + i < 2 ^ 31 by omega), g1, g2]
    simp only [Option.bind_some, va_up_eq, vv]
    obtain ⟨y, -, q1, q2⟩ := sit_eq g3
    rw [q1, q2, o_1]
    simp only [Option.bind_some]
    have hr := hc.st.run (fr0.tr g4) C'
    unfold f_X7_calm_83
    by_cases hle : Int32.ofNat y ≤ mo
    · simp only [if_pos hle]
      rw [o_1]
      exact ih m m' (i + 1) _ _ _ _ hr (by omega) (by omega) (by omega) hv
    · simp only [if_neg hle]
      rw [o_1]
      exact ih m m' (i + 1) _ _ _ _ hr (by omega) (by omega) (by omega) (Or.inr ⟨i, by omega, rfl⟩)
theorem api_calm {S : Nat → zM} {u : zM} (h : Rel S u) (a1 : Int32) (a2 : Int32) : ∃ (r : Int32) (S' : Nat → zM) (u' : zM), f_X6_calm S a1 a2 = some (r, S') ∧ f_X7_calm u a1 a2 = some (r, u') ∧ Rel S' u' := by
  obtain ⟨P, nb, d, hc⟩ := rc_of h
  obtain ⟨hP4, hn6, SP, Sn, un4⟩ := hc.b4
  obtain ⟨D, f1, f2, f3, f4, hT⟩ := hc.cpy (S 5)
  unfold f_X6_calm f_X7_calm
  rw [wi_0_60, isFar_eq, wi_0_1, isPart_eq, starts_eq, f1]
  simp only [Option.bind_some, zlet_eq, va_up_eq]
  cases hy : zw a1 0 60 with
  | false => exact ⟨-1, S, u, rfl, rfl, h⟩
  | true =>
    obtain ⟨L, hL, -, rfl⟩ := zw_nat hy
    cases hx : zw a2 0 1 with
    | false => exact ⟨-1, S, u, rfl, rfl, h⟩
    | true =>
      obtain ⟨C', u', g1, g2, g3, g4, -⟩ := days_eq hT (by have := hc.2.1; omega) (show L < 1000 by omega)
      obtain ⟨y, -, q1, q2⟩ := sit_eq g3
      rw [g1, g2]
      simp only [↓reduceIte, Option.bind_some, va_up_eq, vv]
      rw [q1, q2]
      simp only [Option.bind_some]
      exact calm_loop (show L ≤ 60 by omega) a2 6 FU FU 0 _ _ (-4) _ (hc.st.run g4 C') (by omega) (FU_pos (by omega)) (FU_pos (by omega)) (Or.inl rfl)
theorem swap_edit {P nb d p q : Nat} {S : Nat → zM} {u D : zM} (h : RC P nb d S u) (hD : CR P nb d D (stU u 2)) (hp : p < P) (hq : q < P) : TR 6 P nb nb d (zU (zU D 1 p (S 4 1 q)) 1 q (S 4 1 p)) (zU (zU (stU u) 2 p (u 1 q)) 2 q (u 1 p)) ∧ Fr (stU u) (zU (zU (stU u) 2 p (u 1 q)) 2 q (u 1 p)) := by
  have hP := h.2.2.2.2.2.2.2.2.2.2.2.1
  obtain ⟨e1, z1⟩ := hP p hp
  obtain ⟨e2, z2⟩ := hP q hq
  have hP4 := h.2.2.2.1
  rw [e1, e2]
  have q1 := cr_up hD (c := 1) (i := p) (q := p) (x := u 1 q) (Or.inl ⟨rfl, hp, rfl, z2⟩)
  have q2 := cr_up q1 (c := 1) (i := q) (q := q) (x := u 1 p) (Or.inl ⟨rfl, hq, rfl, z1⟩)
  rw [← zU_row (stU u) 2 p, ← zU_row (zU (stU u) 2 p (u 1 q)) 2 q] at q2
  obtain ⟨r1, r2, r3, r4, r5⟩ := rel_starts h.1
  refine ⟨cr_tr q2 ?_ ?_ h.2.1, fun j a b => ?_, fun k a b => ?_, fun k a => ?_⟩
  · rw [zU_ne _ _ _ (by decide), zU_ne _ _ _ (by decide)]; exact r4.trans h.2.2.1
  · rw [zU_ne _ _ _ (by decide), zU_ne _ _ _ (by decide)]; exact r3
  · rw [zU_ne _ _ _ b, zU_ne _ _ _ b]
  · rw [zU_ne _ _ _ (by decide), zU_ne _ _ _ (by decide)]
  · rw [zu_j _ _ _ _ (by omega), zu_j _ _ _ _ (by omega)]
theorem swap_in {P nb d p L : Nat} (hp : p < P) (hL : L ≤ 60) (w : Int32) (k55 : (Nat → zM) → Int32 → Int32 → Int32 → Int32 → Int32 → Option (Int32 × (Nat → zM))) (k37 : zM → Int32 → Int32 → Int32 → Int32 → Int32 → Option (Int32 × zM))
    (K : ∀ (S : Nat → zM) (u : zM) (be mo : Int32), RC P nb d S u → (be = -4 ∨ ∃ f, f < 50 ∧ be = Int32.ofNat f) → ∃ r S' u', k55 S (Int32.ofNat L) w be mo (Int32.ofNat (p + 1)) = some (r, S') ∧ k37 u (Int32.ofNat L) w mo be (Int32.ofNat (p + 1)) = some (r, u') ∧ Rel S' u') (t : Nat) :
    ∀ (m m' i : Nat) (S : Nat → zM) (u : zM) (be mo : Int32), RC P nb d S u → i + t = P → t < m → t < m' → (be = -4 ∨ ∃ f, f < 50 ∧ be = Int32.ofNat f) → ∃ r S' u', f_X6_swap_73 k55 m S (Int32.ofNat L) w be mo (Int32.ofNat p) (Int32.ofNat i) = some (r, S') ∧ f_X7_swap_52 k37 m' u (Int32.ofNat L) w mo be (Int32.ofNat p) (Int32.ofNat i) = some (r, u') ∧ Rel S' u' := by
  induction t with
  | zero =>
    intro m m' i S u be mo hc hi hm hm' hv
    obtain ⟨m, rfl⟩ : ∃ q, m = q + 1 := ⟨m - 1, by omega⟩
    obtain ⟨m', rfl⟩ : ∃ q, m' = q + 1 := ⟨m' - 1, by omega⟩
    have hi : i = P := by omega
    subst hi
    obtain ⟨hP4, hn6, SP, Sn, un4⟩ := hc.b4
    rw [f_X6_swap_73, f_X7_swap_52, SP, hc.2.2.1, if_pos (Int32.le_refl _), if_pos (Int32.le_refl _), o_1]
    exact K S u be mo hc hv
  | succ t ih =>
    intro m m' i S u be mo hc hi hm hm' hv
    obtain ⟨m, rfl⟩ : ∃ q, m = q + 1 := ⟨m - 1, by omega⟩
    obtain ⟨m', rfl⟩ : ∃ q, m' = q + 1 := ⟨m' - 1, by omega⟩
    obtain ⟨hP4, hn6, SP, Sn, un4⟩ := hc.b4
    obtain ⟨D, f1, f2, f3, f4, hT⟩ := hc.cpy (S 5)
    obtain ⟨hT2, fr0⟩ := swap_edit hc f2 hp (show i < P by omega)
    obtain ⟨C', u', g1, g2, g3, g4, -⟩ := days_eq hT2 (by have := hc.2.1; omega) (show L < 1000 by omega)
    have e1 : stU u 1 = u 1 := (rel_starts hc.1).2.2.2.2
    rw [f_X6_swap_73, f_X7_swap_52, SP, hc.2.2.1, if_neg (nle (by omega) (by omega)), if_neg (nle (by omega) (by omega)), f1, starts_eq]
    simp only [Option.bind_some, zlet_eq, va_up_eq, vv, z_inN (show p < 4 by omega) (show 4 < 2 ^ 31 by decide), z_inN (show i < 4 by omega) (show 4 < 2 ^ 31 by decide), z_inN (show p < 61 by omega) (show 61 < 2 ^ 31 by decide), z_inN (show i < 61 by omega) (show 61 < 2 ^ 31 by decide), z_inN (show p < 183 by omega) (show 183 < 2 ^ 31 by decide), z_inN (show i < 183 by omega) (show 183 < 2 ^ 31 by decide), ↓reduceIte, o_cl (show p < 2 ^ 31 by omega), o_cl (show i < 2 ^ 31 by omega)]
    simp (disch := decide) only [va_up_neq, zU_ne, e1]
    rw [g1, g2]
    simp only [Option.bind_some, va_up_eq, vv]
    obtain ⟨y, -, q1, q2⟩ := all_eq g3
    rw [q1, q2, o_1]
    simp only [Option.bind_some]
    have hr := hc.st.run (fr0.tr g4) C'
    unfold f_X7_swap_123
    have e10 : (10 : Int32) * Int32.ofNat p + Int32.ofNat i = Int32.ofNat (10 * p + i) := by rw [show (10 : Int32) * Int32.ofNat p = Int32.ofNat (10 * p) from o_mul 10 p, o_add]
    rw [e10, o_1]
    by_cases hle : Int32.ofNat y ≤ mo
    · simp only [if_pos hle]
      exact ih m m' (i + 1) _ _ _ _ hr (by omega) (by omega) (by omega) hv
    · simp only [if_neg hle]
      exact ih m m' (i + 1) _ _ _ _ hr (by omega) (by omega) (by omega) (Or.inr ⟨10 * p + i, by omega, rfl⟩)
theorem swap_loop {P nb d L : Nat} (hL : L ≤ 60) (w : Int32) (t : Nat) : ∀ (m m' i : Nat) (S : Nat → zM) (u : zM) (be mo : Int32), RC P nb d S u → i + t = P → t < m → t < m' → (be = -4 ∨ ∃ f, f < 50 ∧ be = Int32.ofNat f) → ∃ r S' u', f_X6_swap_55 m S (Int32.ofNat L) w be mo (Int32.ofNat i) = some (r, S') ∧ f_X7_swap_37 m' u (Int32.ofNat L) w mo be (Int32.ofNat i) = some (r, u') ∧ Rel S' u' := by
  induction t with
  | zero =>
    intro m m' i S u be mo hc hi hm hm' hv
    obtain ⟨m, rfl⟩ : ∃ q, m = q + 1 := ⟨m - 1, by omega⟩
    obtain ⟨m', rfl⟩ : ∃ q, m' = q + 1 := ⟨m' - 1, by omega⟩
    have hi : i = P := by omega
    subst hi
    obtain ⟨hP4, hn6, SP, Sn, un4⟩ := hc.b4
    rw [f_X6_swap_55, f_X7_swap_37, SP, hc.2.2.1, if_pos (Int32.le_refl _), if_pos (Int32.le_refl _)]
    rcases hv with rfl | ⟨f, hf, rfl⟩
    · rw [if_pos rfl, if_pos rfl]
      by_cases h0 : w = 0
      · rw [if_pos h0]; exact ⟨_, _, _, rfl, rfl, hc.1⟩
      · rw [if_neg h0]; exact ⟨_, _, _, rfl, rfl, hc.1⟩
    · rw [if_neg (ne4 (by omega)), if_neg (ne4 (by omega))]
      by_cases h0 : w = 0
      · rw [if_pos h0, if_pos h0]; exact ⟨_, _, _, rfl, rfl, hc.1⟩
      · rw [if_neg h0, if_neg h0]; exact ⟨_, _, _, rfl, rfl, hc.1⟩
  | succ t ih =>
    intro m m' i S u be mo hc hi hm hm' hv
    obtain ⟨m, rfl⟩ : ∃ q, m = q + 1 := ⟨m - 1, by omega⟩
    obtain ⟨m', rfl⟩ : ∃ q, m' = q + 1 := ⟨m' - 1, by omega⟩
    obtain ⟨hP4, hn6, SP, Sn, un4⟩ := hc.b4
    rw [f_X6_swap_55, f_X7_swap_37, SP, hc.2.2.1, if_neg (nle (by omega) (by omega)), if_neg (nle (by omega) (by omega)), o_1]
    exact swap_in (show i < P by omega) hL w _ _ (fun S u be mo hc hv => ih m m' (i + 1) S u be mo hc (by omega) (by omega) (by omega) hv) t FU FU (i + 1) S u be mo hc (by omega) (FU_pos (by omega)) (FU_pos (by omega)) hv
theorem api_swap {S : Nat → zM} {u : zM} (h : Rel S u) (a1 : Int32) (a2 : Int32) : ∃ (r : Int32) (S' : Nat → zM) (u' : zM), f_X6_swap S a1 a2 = some (r, S') ∧ f_X7_swap u a1 a2 = some (r, u') ∧ Rel S' u' := by
  obtain ⟨P, nb, d, hc⟩ := rc_of h
  obtain ⟨hP4, hn6, SP, Sn, un4⟩ := hc.b4
  obtain ⟨D, f1, f2, f3, f4, hT⟩ := hc.cpy (S 5)
  unfold f_X6_swap f_X7_swap
  rw [wi_0_60, isFar_eq, wi_0_1, isPart_eq, starts_eq, f1]
  simp only [Option.bind_some, zlet_eq, va_up_eq]
  cases hy : zw a1 0 60 with
  | false => exact ⟨-1, S, u, rfl, rfl, h⟩
  | true =>
    obtain ⟨L, hL, -, rfl⟩ := zw_nat hy
    cases hx : zw a2 0 1 with
    | false => exact ⟨-1, S, u, rfl, rfl, h⟩
    | true =>
      obtain ⟨C', u', g1, g2, g3, g4, -⟩ := days_eq hT (by have := hc.2.1; omega) (show L < 1000 by omega)
      obtain ⟨y, -, q1, q2⟩ := all_eq g3
      rw [g1, g2]
      simp only [↓reduceIte, Option.bind_some, va_up_eq, vv]
      rw [q1, q2]
      simp only [Option.bind_some]
      exact swap_loop (show L ≤ 60 by omega) a2 P FU FU 0 _ _ (-4) _ (hc.st.run g4 C') (by omega) (FU_pos (by omega)) (FU_pos (by omega)) (Or.inl rfl)
