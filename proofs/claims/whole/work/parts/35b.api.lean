theorem vv {S : Nat → zM} {k : Nat} {X Y : zM} : va_up (va_up S k X) k Y = va_up S k Y := by
  funext i
  by_cases hi : i = k
  · subst hi; rw [va_up_eq, va_up_eq]
  · rw [va_up_neq _ _ hi, va_up_neq _ _ hi, va_up_neq _ _ hi]
theorem api_ahead {S : Nat → zM} {u : zM} (h : Rel S u) (a1 : Int32) (a2 : Int32) : ∃ (r : Int32) (S' : Nat → zM) (u' : zM), f_X6_ahead S a1 a2 = some (r, S') ∧ f_X7_ahead u a1 a2 = some (r, u') ∧ Rel S' u' := by
  obtain ⟨P, nb, d, hc⟩ := rc_of h
  obtain ⟨hP4, hn6, SP, Sn, un4⟩ := hc.b4
  obtain ⟨D, f1, f2, f3, f4, hT⟩ := hc.cpy (S 5)
  unfold f_X6_ahead f_X7_ahead
  rw [hasOne_eq SP hP4, isOne_eq hc.2.2.1 hP4, wi_0_60, isFar_eq, starts_eq, f1]
  simp only [Option.bind_some, zlet_eq, va_up_eq]
  cases hz : zw a1 0 ((P : Int) - 1) with
  | false => exact ⟨-1, S, u, rfl, rfl, h⟩
  | true =>
    cases hy : zw a2 0 60 with
    | false => exact ⟨-1, S, u, rfl, rfl, h⟩
    | true =>
      obtain ⟨L, hL, -, rfl⟩ := zw_nat hy
      obtain ⟨C', u', g1, g2, g3, g4, -⟩ := days_eq hT (by have := hc.2.1; omega) (show L < 1000 by omega)
      rw [g1, g2]
      simp only [↓reduceIte, Option.bind_some, va_up_eq, vv]
      rw [countedC g3, countedM g3]
      exact ⟨_, _, _, rfl, rfl, (hc.st.run g4 C').1⟩
theorem api_where {S : Nat → zM} {u : zM} (h : Rel S u) (a1 : Int32) (a2 : Int32) : ∃ (r : Int32) (S' : Nat → zM) (u' : zM), f_X6_where S a1 a2 = some (r, S') ∧ f_X7_where u a1 a2 = some (r, u') ∧ Rel S' u' := by
  obtain ⟨P, nb, d, hc⟩ := rc_of h
  obtain ⟨hP4, hn6, SP, Sn, un4⟩ := hc.b4
  obtain ⟨D, f1, f2, f3, f4, hT⟩ := hc.cpy (S 5)
  unfold f_X6_where f_X7_where
  rw [hasBeetle_eq Sn hn6, isBeetle_eq un4 hn6, wi_0_60, isFar_eq, starts_eq, f1]
  simp only [Option.bind_some, zlet_eq, va_up_eq]
  cases hz : zw a1 0 ((nb : Int) - 1) with
  | false => exact ⟨-1, S, u, rfl, rfl, h⟩
  | true =>
    obtain ⟨b, hb, -, rfl⟩ := zw_nat hz
    have hb : b < nb := by omega
    cases hy : zw a2 0 60 with
    | false => exact ⟨-1, S, u, rfl, rfl, h⟩
    | true =>
      obtain ⟨L, hL, -, rfl⟩ := zw_nat hy
      obtain ⟨C', u', g1, g2, g3, g4, -⟩ := days_eq hT (by have := hc.2.1; omega) (show L < 1000 by omega)
      have hs := sitsC g3 hb (show b ≠ 6 by omega)
      have hB := g3.2.2.2.2.2.2.2.2.2.2.2.2.1 b hb (by omega)
      rw [un_le (show b ≤ 6 by omega)] at hs hB
      have c6 : (Int32.ofNat b).toNatClampNeg = b := o_cl (by omega)
      have pC := placeOfC (tr_cr g3) hb
      rw [g1, g2]
      simp only [↓reduceIte, Option.bind_some, va_up_eq, vv]
      rw [hs, of4 u' (by omega), of3 u' (by omega), pC, if_pos (z_inN (show b < 6 by omega) (by decide)), c6]
      simp only [Option.bind_some]
      have hw := hB.w.2.2.2.1
      obtain ⟨k, s, o, hk, hs1, hs9, ho, e1, e2, e3, e4, e5, e6, e7⟩ := hB
      by_cases hc4 : u' 2 (8 + 5 * b) = -4
      · rw [decide_eq_true hc4, if_pos hc4]
        rcases e7 with ⟨x, hx, q1, q2, q3, q4⟩ | ⟨p, hp, q1, q2⟩
        · simp only [Bool.not_true, Bool.false_eq_true, ↓reduceIte]
          unfold plK
          rw [if_pos q1, q3, q4]
          exact ⟨_, _, _, rfl, rfl, (hc.st.run g4 C').1⟩
        · rw [q2] at hc4
          exact absurd hc4 (ne4 (by omega))
      · rw [decide_eq_false hc4, if_neg hc4]
        simp only [Bool.not_false, ↓reduceIte]
        rw [hw]
        exact ⟨_, _, _, rfl, rfl, (hc.st.run g4 C').1⟩
theorem till_loop {P n b : Nat} (hb : b < n) (t : Nat) : ∀ (m m' i d : Nat) (C u : zM), TR 6 P n n d C u → d + t < 99999 → i + t = 61 → t < m → t < m' → ∃ y C' u', f_X0_daysTillSits_2 m C (Int32.ofNat b) 60 (Int32.ofNat i) = some (y, C') ∧ f_X7_daysTo_2 m' u (Int32.ofNat b) (Int32.ofNat i) = some (y, u') ∧ Fr u u' ∧ (y = -4 ∨ ∃ k, k ≤ 60 ∧ y = Int32.ofNat k) := by
  induction t with
  | zero =>
    intro m m' i d C u h hd hi hm hm'
    obtain ⟨m, rfl⟩ : ∃ q, m = q + 1 := ⟨m - 1, by omega⟩
    obtain ⟨m', rfl⟩ : ∃ q, m' = q + 1 := ⟨m' - 1, by omega⟩
    have hi : i = 61 := by omega
    subst hi
    rw [f_X0_daysTillSits_2, f_X7_daysTo_2, if_pos (show (60 : Int32) < Int32.ofNat 61 by decide), if_pos (show (60 : Int32) < Int32.ofNat 61 by decide)]
    exact ⟨-4, C, u, rfl, rfl, Fr.rf u, Or.inl rfl⟩
  | succ t ih =>
    intro m m' i d C u h hd hi hm hm'
    obtain ⟨m, rfl⟩ : ∃ q, m = q + 1 := ⟨m - 1, by omega⟩
    obtain ⟨m', rfl⟩ : ∃ q, m' = q + 1 := ⟨m' - 1, by omega⟩
    have hn := tr_n h
    have l60 : ¬ (60 : Int32) < Int32.ofNat i := i32_nlt.mpr ((o_le (a := i) (b := 60) (by omega) (by decide)).mpr (by omega))
    have hs := sitsC h hb (show b ≠ 6 by omega)
    rw [un_le (show b ≤ 6 by omega)] at hs
    rw [f_X0_daysTillSits_2, f_X7_daysTo_2, if_neg l60, if_neg l60, hs, of4 u (show b < 6 by omega)]
    simp only [Option.bind_some]
    by_cases hc4 : u 2 (8 + 5 * b) = -4
    · obtain ⟨w, C1, u1, e1, e2, e3, e4, h1, fr1, -⟩ := dayW_eq h (by omega)
      rw [decide_eq_true hc4, if_pos hc4, e1, e2]
      simp only [Bool.not_true, Bool.false_eq_true, ↓reduceIte, Option.bind_some]
      rw [e3, e4, o_1]
      simp only [Option.bind_some, zlet_eq]
      obtain ⟨y, C2, u2, q1, q2, fr2, q3⟩ := ih m m' (i + 1) (d + 1) C1 u1 h1 (by omega) (by omega) (by omega) (by omega)
      exact ⟨y, C2, u2, q1, q2, fr1.tr fr2, q3⟩
    · rw [decide_eq_false hc4, if_neg hc4]
      simp only [Bool.not_false, ↓reduceIte]
      exact ⟨_, C, u, rfl, rfl, Fr.rf u, Or.inr ⟨i, by omega, rfl⟩⟩
theorem till_eq {P n d b : Nat} {C u : zM} (h : TR 6 P n n d C u) (hb : b < n) (hd : d < 50000) : ∃ y C' u', f_X0_daysTillSits C (Int32.ofNat b) 60 = some (y, C') ∧ f_X7_daysTo u (Int32.ofNat b) = some (y, u') ∧ Fr u u' ∧ (y = -4 ∨ ∃ k, k ≤ 60 ∧ y = Int32.ofNat k) :=
  till_loop hb 61 FU FU 0 d C u h (by omega) (by omega) (FU_pos (by omega)) (FU_pos (by omega))
theorem api_home {S : Nat → zM} {u : zM} (h : Rel S u) (a1 : Int32) : ∃ (r : Int32) (S' : Nat → zM) (u' : zM), f_X6_home S a1 = some (r, S') ∧ f_X7_home u a1 = some (r, u') ∧ Rel S' u' := by
  obtain ⟨P, nb, d, hc⟩ := rc_of h
  obtain ⟨hP4, hn6, SP, Sn, un4⟩ := hc.b4
  obtain ⟨D, f1, f2, f3, f4, hT⟩ := hc.cpy (S 5)
  unfold f_X6_home f_X7_home
  rw [hasBeetle_eq Sn hn6, isBeetle_eq un4 hn6, starts_eq, f1]
  simp only [Option.bind_some, zlet_eq, va_up_eq]
  cases hz : zw a1 0 ((nb : Int) - 1) with
  | false => exact ⟨-1, S, u, rfl, rfl, h⟩
  | true =>
    obtain ⟨b, hb, -, rfl⟩ := zw_nat hz
    obtain ⟨y, C', u', g1, g2, g3, -⟩ := till_eq hT (show b < nb by omega) (by have := hc.2.1; omega)
    rw [g1, g2]
    simp only [↓reduceIte, Option.bind_some, vv]
    exact ⟨_, _, _, rfl, rfl, (hc.st.run g3 C').1⟩
theorem kind_loop {P nb d b : Nat} (hb : b < nb) (w : Int32) (t : Nat) : ∀ (m m' i : Nat) (S : Nat → zM) (u : zM) (be so rs : Int32), RC P nb d S u → i + t = 4 → t < m → t < m' → (be = -4 ∧ so = -4 ∧ rs = 1000000 ∨ ∃ f s, f < 4 ∧ s ≤ 60 ∧ be = Int32.ofNat f ∧ so = Int32.ofNat s ∧ rs = so) → ∃ r S' u', f_X6_kind_32 m S (Int32.ofNat b) w be so (Int32.ofNat i) = some (r, S') ∧ f_X7_kind_27 m' u (Int32.ofNat b) w rs be (Int32.ofNat i) = some (r, u') ∧ Rel S' u' := by
  induction t with
  | zero =>
    intro m m' i S u be so rs hc hi hm hm' hv
    obtain ⟨m, rfl⟩ : ∃ q, m = q + 1 := ⟨m - 1, by omega⟩
    obtain ⟨m', rfl⟩ : ∃ q, m' = q + 1 := ⟨m' - 1, by omega⟩
    have hi : i = 4 := by omega
    subst hi
    rw [f_X6_kind_32, f_X7_kind_27, if_pos (show (4 : Int32) ≤ Int32.ofNat 4 by decide), if_pos (show (4 : Int32) ≤ Int32.ofNat 4 by decide)]
    rcases hv with ⟨rfl, rfl, rfl⟩ | ⟨f, s, hf, hs, rfl, rfl, rfl⟩
    · rw [if_pos rfl]
      by_cases h0 : w = 0
      · rw [if_pos h0]; exact ⟨_, _, _, rfl, rfl, hc.1⟩
      · rw [if_neg h0]; exact ⟨_, _, _, rfl, rfl, hc.1⟩
    · rw [if_neg (ne4 (by omega))]
      by_cases h0 : w = 0
      · rw [if_pos h0, if_pos h0]; exact ⟨_, _, _, rfl, rfl, hc.1⟩
      · rw [if_neg h0, if_neg h0]; exact ⟨_, _, _, rfl, rfl, hc.1⟩
  | succ t ih =>
    intro m m' i S u be so rs hc hi hm hm' hv
    obtain ⟨m, rfl⟩ : ∃ q, m = q + 1 := ⟨m - 1, by omega⟩
    obtain ⟨m', rfl⟩ : ∃ q, m' = q + 1 := ⟨m' - 1, by omega⟩
    obtain ⟨hP4, hn6, SP, Sn, un4⟩ := hc.b4
    obtain ⟨D, f1, f2, f3, f4, hT⟩ := hc.cpy (S 5)
    obtain ⟨-, hT2, fr0⟩ := hc.edit f2 (c := 2) (i := b) (q := 4 + 5 * b) (x := Int32.ofNat i) (Or.inr (Or.inr (Or.inl ⟨rfl, hb, rfl, i, by omega, rfl⟩)))
    obtain ⟨y, C', u', g1, g2, g3, g4⟩ := till_eq hT2 hb (by have := hc.2.1; omega)
    have l4 : ¬ (4 : Int32) ≤ Int32.ofNat i := nle (a := 4) (by omega) (by decide)
    rw [f_X6_kind_32, f_X7_kind_27, if_neg l4, if_neg l4, f1, starts_eq]
    simp only [Option.bind_some, zlet_eq, va_up_eq, vv]
    rw [if_pos (z_inN (show b < 6 by omega) (by decide)), o_cl (show b < 2 ^ 31 by omega), bo0 _ (show b < 6 by omega), g1]
    simp only [Option.bind_some]
    rw [g2]
    simp only [Option.bind_some]
    have hr := hc.st.run (fr0.tr g3) C'
    unfold f_X7_kind_70
    rw [o_1]
    simp only [Bool.false_eq_true, ↓reduceIte]
    rcases g4 with rfl | ⟨s2, hs2, rfl⟩
    · rw [if_pos rfl, if_pos rfl]
      exact ih m m' (i + 1) _ _ _ _ _ hr (by omega) (by omega) (by omega) hv
    · rw [if_neg (ne4 (by omega)), if_neg (ne4 (by omega))]
      rcases hv with ⟨rfl, rfl, rfl⟩ | ⟨f, s, hf, hs, rfl, rfl, rfl⟩
      · rw [if_pos rfl, if_neg (show ¬ (1000000 : Int32) ≤ Int32.ofNat s2 from nle (a := 1000000) (by omega) (by decide))]
        exact ih m m' (i + 1) _ _ _ _ _ hr (by omega) (by omega) (by omega) (Or.inr ⟨i, s2, by omega, hs2, rfl, rfl, rfl⟩)
      · rw [if_neg (ne4 (by omega))]
        by_cases hle : Int32.ofNat s ≤ Int32.ofNat s2
        · rw [if_pos hle, if_pos hle]
          exact ih m m' (i + 1) _ _ _ _ _ hr (by omega) (by omega) (by omega) (Or.inr ⟨f, s, hf, hs, rfl, rfl, rfl⟩)
        · rw [if_neg hle, if_neg hle]
          exact ih m m' (i + 1) _ _ _ _ _ hr (by omega) (by omega) (by omega) (Or.inr ⟨i, s2, by omega, hs2, rfl, rfl, rfl⟩)
theorem api_kind {S : Nat → zM} {u : zM} (h : Rel S u) (a1 : Int32) (a2 : Int32) : ∃ (r : Int32) (S' : Nat → zM) (u' : zM), f_X6_kind S a1 a2 = some (r, S') ∧ f_X7_kind u a1 a2 = some (r, u') ∧ Rel S' u' := by
  obtain ⟨P, nb, d, hc⟩ := rc_of h
  obtain ⟨hP4, hn6, SP, Sn, un4⟩ := hc.b4
  unfold f_X6_kind f_X7_kind
  rw [hasBeetle_eq Sn hn6, isBeetle_eq un4 hn6, wi_0_1, isPart_eq]
  simp only [Option.bind_some]
  cases hz : zw a1 0 ((nb : Int) - 1) with
  | false => exact ⟨-1, S, u, rfl, rfl, h⟩
  | true =>
    obtain ⟨b, hb, -, rfl⟩ := zw_nat hz
    cases hy : zw a2 0 1 with
    | false => exact ⟨-1, S, u, rfl, rfl, h⟩
    | true =>
      simp only [↓reduceIte]
      exact kind_loop (show b < nb by omega) a2 4 FU FU 0 S u (-4) (-4) 1000000 hc (by omega) (FU_pos (by omega)) (FU_pos (by omega)) (Or.inl ⟨rfl, rfl, rfl⟩)
theorem shed_loop {P nb d p L : Nat} (hp : p < P) (hL : L ≤ 60) (w : Int32) (t : Nat) : ∀ (m m' i : Nat) (S : Nat → zM) (u : zM) (be le fo rl : Int32), RC P nb d S u → i + t = 10 → t < m → t < m' → (i = 0 ∧ be = -4 ∧ rl = 1000000 ∨ 0 < i ∧ ∃ f c, f < 10 ∧ c ≤ 108 ∧ be = Int32.ofNat f ∧ le = Int32.ofNat c ∧ fo = be ∧ rl = le) → ∃ r S' u', f_X6_shed_42 m S (Int32.ofNat p) (Int32.ofNat L) w be le (Int32.ofNat i) = some (r, S') ∧ f_X7_shed_34 m' u (Int32.ofNat p) (Int32.ofNat L) w rl fo (Int32.ofNat i) = some (r, u') ∧ Rel S' u' := by
  induction t with
  | zero =>
    intro m m' i S u be le fo rl hc hi hm hm' hv
    obtain ⟨m, rfl⟩ : ∃ q, m = q + 1 := ⟨m - 1, by omega⟩
    obtain ⟨m', rfl⟩ : ∃ q, m' = q + 1 := ⟨m' - 1, by omega⟩
    have hi : i = 10 := by omega
    subst hi
    rw [f_X6_shed_42, f_X7_shed_34, if_pos (show (9 : Int32) < Int32.ofNat 10 by decide), if_pos (show (10 : Int32) ≤ Int32.ofNat 10 by decide)]
    rcases hv with ⟨h0, -⟩ | ⟨-, f, c, hf, hc2, rfl, rfl, rfl, rfl⟩
    · omega
    · by_cases h0 : w = 0
      · rw [if_pos h0, if_pos h0]; exact ⟨_, _, _, rfl, rfl, hc.1⟩
      · rw [if_neg h0, if_neg h0]; exact ⟨_, _, _, rfl, rfl, hc.1⟩
  | succ t ih =>
    intro m m' i S u be le fo rl hc hi hm hm' hv
    obtain ⟨m, rfl⟩ : ∃ q, m = q + 1 := ⟨m - 1, by omega⟩
    obtain ⟨m', rfl⟩ : ∃ q, m' = q + 1 := ⟨m' - 1, by omega⟩
    obtain ⟨hP4, hn6, SP, Sn, un4⟩ := hc.b4
    obtain ⟨D, f1, f2, f3, f4, hT⟩ := hc.cpy (S 5)
    obtain ⟨-, hT2, fr0⟩ := hc.edit f2 (c := 1) (i := p) (q := p) (x := Int32.ofNat i) (Or.inl ⟨rfl, hp, rfl, i, by omega, rfl⟩)
    obtain ⟨C', u', g1, g2, g3, g4, -⟩ := days_eq hT2 (by have := hc.2.1; omega) (show L < 1000 by omega)
    have l9 : ¬ (9 : Int32) < Int32.ofNat i := i32_nlt.mpr ((o_le (a := i) (b := 9) (by omega) (by decide)).mpr (by omega))
    have l10 : ¬ (10 : Int32) ≤ Int32.ofNat i := nle (a := 10) (by omega) (by decide)
    rw [f_X6_shed_42, f_X7_shed_34, if_neg l9, if_neg l10, f1, starts_eq]
    simp only [Option.bind_some, zlet_eq, va_up_eq, vv]
    rw [if_pos (z_inN (show p < 4 by omega) (by decide)), if_pos (z_inN (show p < 61 by omega) (by decide)), o_cl (show p < 2 ^ 31 by omega), g1, g2]
    simp only [Option.bind_some, va_up_eq, vv]
    rw [countedC g3, countedM g3]
    simp only [Option.bind_some]
    have hr := hc.st.run (fr0.tr g4) C'
    have hk := cS_108 g3 (Int32.ofNat p)
    unfold f_X7_shed_79 f_X7_lesser
    rw [o_1]
    rcases hv with ⟨h0, rfl, rfl⟩ | ⟨h0, f, c, hf, hc2, rfl, rfl, rfl, rfl⟩
    · have hq : ¬ (1000000 : Int32) ≤ Int32.ofNat (cS C' (Int32.ofNat p) nb) := nle (a := 1000000) (by omega) (by decide)
      simp only [if_neg hq, ↓reduceIte, Option.bind_some]
      exact ih m m' (i + 1) _ _ _ _ _ _ hr (by omega) (by omega) (by omega) (Or.inr ⟨by omega, i, _, by omega, hk, rfl, rfl, rfl, rfl⟩)
    · rw [if_neg (ne4 (by omega))]
      by_cases hle : Int32.ofNat c ≤ Int32.ofNat (cS C' (Int32.ofNat p) nb)
      · simp only [if_pos hle, Option.bind_some]
        exact ih m m' (i + 1) _ _ _ _ _ _ hr (by omega) (by omega) (by omega) (Or.inr ⟨by omega, f, c, hf, hc2, rfl, rfl, rfl, rfl⟩)
      · simp only [if_neg hle, Option.bind_some]
        exact ih m m' (i + 1) _ _ _ _ _ _ hr (by omega) (by omega) (by omega) (Or.inr ⟨by omega, i, _, by omega, hk, rfl, rfl, rfl, rfl⟩)
theorem api_shed {S : Nat → zM} {u : zM} (h : Rel S u) (a1 : Int32) (a2 : Int32) (a3 : Int32) : ∃ (r : Int32) (S' : Nat → zM) (u' : zM), f_X6_shed S a1 a2 a3 = some (r, S') ∧ f_X7_shed u a1 a2 a3 = some (r, u') ∧ Rel S' u' := by
  obtain ⟨P, nb, d, hc⟩ := rc_of h
  obtain ⟨hP4, hn6, SP, Sn, un4⟩ := hc.b4
  unfold f_X6_shed f_X7_shed
  rw [hasOne_eq SP hP4, isOne_eq hc.2.2.1 hP4, wi_0_60, isFar_eq, wi_0_1, isPart_eq]
  simp only [Option.bind_some]
  cases hz : zw a1 0 ((P : Int) - 1) with
  | false => exact ⟨-1, S, u, rfl, rfl, h⟩
  | true =>
    obtain ⟨p, hp, -, rfl⟩ := zw_nat hz
    cases hy : zw a2 0 60 with
    | false => exact ⟨-1, S, u, rfl, rfl, h⟩
    | true =>
      obtain ⟨L, hL, -, rfl⟩ := zw_nat hy
      cases hx : zw a3 0 1 with
      | false => exact ⟨-1, S, u, rfl, rfl, h⟩
      | true =>
        simp only [↓reduceIte]
        exact shed_loop (show p < P by omega) (show L ≤ 60 by omega) a3 10 FU FU 0 S u (-4) 0 0 1000000 hc (by omega) (FU_pos (by omega)) (FU_pos (by omega)) (Or.inl ⟨rfl, rfl, rfl⟩)
