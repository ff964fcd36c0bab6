/-! runs, drift, count -/
noncomputable def runE (u : zM) (w v : Int32) : Option (Int32 × zM) := if w = 0 then (f_X7_sitting u).bind fun r6 => some (r6, u) else if w = 1 then (f_X7_allCounted u).bind fun r7 => some (r7, u) else if w = 2 then some ((u 0 17), u) else some (v, u)
theorem run_step {P n d i L : Nat} {C u : zM} (h : TR 6 P n n d C u) (hL : L ≤ 60) (hi : i ≤ L) (w v : Int32) (m : Nat) : ∃ t0 y, y ≤ 6 ∧ f_X0_sitting C = some (Int32.ofNat y) ∧ f_X7_runs_36 (m + 1) u (Int32.ofNat L) w v (Int32.ofNat i) = f_X7_runs_68 (fun u v1 v2 v3 v4 => f_X7_runs_36 m u v1 v2 v3 v4) u (Int32.ofNat L) w (Int32.ofNat i) t0 ∧ (¬ v = -4 → t0 = v) ∧ (v = -4 → t0 = if y = n then Int32.ofNat i else -4) := by
  obtain ⟨y, hy, f1, f2⟩ := sit_eq h
  have hn := tr_n h
  rw [f_X7_runs_36, if_neg (i32_nlt.mpr ((o_le (by omega) (by omega)).mpr hi)), f2]
  simp only [Option.bind_some]
  by_cases hv : v = -4
  · rw [if_pos hv, if_pos z34, c34, h.2.2.2.2.2.2.2.2.1]
    by_cases hyn : y = n
    · rw [if_pos (congrArg Int32.ofNat hyn)]
      exact ⟨_, y, hy, f1, rfl, fun q => absurd hv q, fun _ => (if_pos hyn).symm⟩
    · rw [if_neg (o_ne hyn (by omega) (by omega)), hv]
      exact ⟨_, y, hy, f1, rfl, fun q => absurd rfl q, fun _ => (if_neg hyn).symm⟩
  · rw [if_neg hv]
    exact ⟨_, y, hy, f1, rfl, fun _ => rfl, fun q => absurd q hv⟩
theorem run_end {i L : Nat} (hL : L ≤ 60) (hi : i = L + 1) (u : zM) (w v : Int32) (m : Nat) : f_X7_runs_36 (m + 1) u (Int32.ofNat L) w v (Int32.ofNat i) = runE u w v := by
  rw [f_X7_runs_36, if_pos ((o_lt (by omega) (by omega)).mpr (by omega))]
  rfl
theorem runA {P n L : Nat} (hL : L ≤ 60) (w : Int32) (t : Nat) : ∀ (m m' i d : Nat) (v : Int32) (C u : zM), TR 6 P n n d C u → d + t < 99999 → i + t = L → t < m → t + 1 < m' → ∃ C' u' v', f_X0_passDays_2 m C (Int32.ofNat L) (Int32.ofNat i) = some C' ∧ f_X7_runs_36 m' u (Int32.ofNat L) w v (Int32.ofNat i) = runE u' w v' ∧ TR 6 P n n (d + t) C' u' ∧ Fr u u' ∧ FL C u C' u' := by
  induction t with
  | zero =>
    intro m m' i d v C u h hd hi hm hm'
    obtain ⟨m, rfl⟩ : ∃ q, m = q + 1 := ⟨m - 1, by omega⟩
    obtain ⟨m', rfl⟩ : ∃ q, m' = q + 1 + 1 := ⟨m' - 2, by omega⟩
    obtain ⟨t0, y, hy, f1, f2, -, -⟩ := run_step h hL (show i ≤ L by omega) w v (m' + 1)
    rw [f2]
    unfold f_X7_runs_68
    dsimp only
    rw [if_pos ((o_le (by omega) (by omega)).mpr (show L ≤ i by omega)), o_1, run_end (i := i + 1) hL (by omega), f_X0_passDays_2, if_pos ((o_le (by omega) (by omega)).mpr (show L ≤ i by omega))]
    exact ⟨C, u, t0, rfl, rfl, h, Fr.rf u, FL.rf C u⟩
  | succ t ih =>
    intro m m' i d v C u h hd hi hm hm'
    obtain ⟨m, rfl⟩ : ∃ q, m = q + 1 := ⟨m - 1, by omega⟩
    obtain ⟨m', rfl⟩ : ∃ q, m' = q + 1 := ⟨m' - 1, by omega⟩
    obtain ⟨t0, y, hy, f1, f2, -, -⟩ := run_step h hL (show i ≤ L by omega) w v m'
    obtain ⟨wi, C1, u1, e1, e2, e3, e4, h1, fr1, fl1⟩ := dayW_eq h (by omega)
    rw [f2]
    unfold f_X7_runs_68
    rw [if_neg (nle (by omega) (by omega)), o_1, f_X0_passDays_2, if_neg (nle (by omega) (by omega)), e1, e2, o_1]
    simp only [Option.bind_some]
    rw [e3, e4]
    simp only [Option.bind_some, zlet_eq]
    obtain ⟨C2, u2, v2, g1, g2, h2, fr2, fl2⟩ := ih m m' (i + 1) (d + 1) t0 C1 u1 h1 (by omega) (by omega) (by omega) (by omega)
    exact ⟨C2, u2, v2, g1, g2, (show d + 1 + t = d + (t + 1) by omega) ▸ h2, fr1.tr fr2, fl1.tr fl2⟩
theorem runF {P n L : Nat} (hL : L ≤ 60) (v : Int32) (hv : ¬ v = -4) (t : Nat) : ∀ (m' i d : Nat) (C u : zM), TR 6 P n n d C u → d + t < 99999 → i + t = L + 1 → t < m' → ∃ u', f_X7_runs_36 m' u (Int32.ofNat L) 3 v (Int32.ofNat i) = some (v, u') ∧ Fr u u' := by
  induction t with
  | zero =>
    intro m' i d C u h hd hi hm'
    obtain ⟨m', rfl⟩ : ∃ q, m' = q + 1 := ⟨m' - 1, by omega⟩
    rw [run_end hL (by omega)]
    exact ⟨u, rfl, Fr.rf u⟩
  | succ t ih =>
    intro m' i d C u h hd hi hm'
    obtain ⟨m', rfl⟩ : ∃ q, m' = q + 1 := ⟨m' - 1, by omega⟩
    obtain ⟨t0, y, hy, f1, f2, f3, -⟩ := run_step h hL (show i ≤ L by omega) 3 v m'
    rw [f2, f3 hv]
    unfold f_X7_runs_68
    rw [o_1]
    by_cases hLi : L ≤ i
    · rw [if_pos ((o_le (by omega) (by omega)).mpr hLi)]
      exact ih m' (i + 1) d C u h (by omega) (by omega) (by omega)
    · obtain ⟨wi, C1, u1, e1, e2, e3, e4, h1, fr1, fl1⟩ := dayW_eq h (by omega)
      rw [if_neg (nle (by omega) (by omega)), e2]
      simp only [Option.bind_some]
      rw [e4]
      simp only [Option.bind_some, zlet_eq]
      obtain ⟨u2, g1, fr2⟩ := ih m' (i + 1) (d + 1) C1 u1 h1 (by omega) (by omega) (by omega)
      exact ⟨u2, g1, fr1.tr fr2⟩
theorem runB {P n L : Nat} (hL : L ≤ 60) (t : Nat) : ∀ (m m' i d : Nat) (C u : zM), TR 6 P n n d C u → d + t < 99998 → i + t = L → t + 1 < m → t + 1 < m' → ∃ y C' u', f_X0_daysTillAllSit_2 m C (Int32.ofNat L) (Int32.ofNat i) = some (y, C') ∧ f_X7_runs_36 m' u (Int32.ofNat L) 3 (-4) (Int32.ofNat i) = some (y, u') ∧ Fr u u' := by
  induction t with
  | zero =>
    intro m m' i d C u h hd hi hm hm'
    obtain ⟨m, rfl⟩ : ∃ q, m = q + 1 + 1 := ⟨m - 2, by omega⟩
    obtain ⟨m', rfl⟩ : ∃ q, m' = q + 1 + 1 := ⟨m' - 2, by omega⟩
    have hn := tr_n h
    obtain ⟨t0, y, hy, f1, f2, -, f3⟩ := run_step h hL (show i ≤ L by omega) 3 (-4) (m' + 1)
    obtain ⟨wi, C1, u1, e1, e2, e3, e4, h1, fr1, fl1⟩ := dayW_eq h (by omega)
    rw [f2, f3 rfl]
    unfold f_X7_runs_68
    dsimp only
    rw [if_pos ((o_le (by omega) (by omega)).mpr (show L ≤ i by omega)), o_1, run_end (i := i + 1) hL (by omega), f_X0_daysTillAllSit_2, if_neg (i32_nlt.mpr ((o_le (by omega) (by omega)).mpr (show i ≤ L by omega))), f1, h.2.2.2.2.2.2.2.1]
    simp only [Option.bind_some]
    by_cases hyn : y = n
    · rw [if_pos (congrArg Int32.ofNat hyn), if_pos hyn]
      exact ⟨_, C, u, rfl, rfl, Fr.rf u⟩
    · rw [if_neg (o_ne hyn (by omega) (by omega)), if_neg hyn, e1]
      simp only [Option.bind_some]
      rw [e3, o_1]
      simp only [Option.bind_some, zlet_eq]
      rw [f_X0_daysTillAllSit_2, if_pos ((o_lt (by omega) (by omega)).mpr (show L < i + 1 by omega))]
      exact ⟨_, C1, u, rfl, rfl, Fr.rf u⟩
  | succ t ih =>
    intro m m' i d C u h hd hi hm hm'
    obtain ⟨m, rfl⟩ : ∃ q, m = q + 1 := ⟨m - 1, by omega⟩
    obtain ⟨m', rfl⟩ : ∃ q, m' = q + 1 := ⟨m' - 1, by omega⟩
    have hn := tr_n h
    obtain ⟨t0, y, hy, f1, f2, -, f3⟩ := run_step h hL (show i ≤ L by omega) 3 (-4) m'
    obtain ⟨wi, C1, u1, e1, e2, e3, e4, h1, fr1, fl1⟩ := dayW_eq h (by omega)
    rw [f2, f3 rfl]
    unfold f_X7_runs_68
    rw [if_neg (nle (by omega) (by omega)), o_1, f_X0_daysTillAllSit_2, if_neg (i32_nlt.mpr ((o_le (by omega) (by omega)).mpr (show i ≤ L by omega))), f1, h.2.2.2.2.2.2.2.1, e2, e1]
    simp only [Option.bind_some]
    rw [e4, e3, o_1]
    simp only [Option.bind_some, zlet_eq]
    by_cases hyn : y = n
    · rw [if_pos (congrArg Int32.ofNat hyn), if_pos hyn]
      obtain ⟨u2, g1, fr2⟩ := runF hL (Int32.ofNat i) (ne4 (by omega)) (t + 1) m' (i + 1) (d + 1) C1 u1 h1 (by omega) (by omega) (by omega)
      exact ⟨_, C, u2, rfl, g1, fr1.tr fr2⟩
    · rw [if_neg (o_ne hyn (by omega) (by omega)), if_neg hyn]
      obtain ⟨y2, C2, u2, g1, g2, fr2⟩ := ih m m' (i + 1) (d + 1) C1 u1 h1 (by omega) (by omega) (by omega) (by omega)
      exact ⟨y2, C2, u2, g1, g2, fr1.tr fr2⟩
theorem api_runs {S : Nat → zM} {u : zM} (h : Rel S u) (a1 : Int32) (a2 : Int32) : ∃ (r : Int32) (S' : Nat → zM) (u' : zM), f_X6_runs S a1 a2 = some (r, S') ∧ f_X7_runs u a1 a2 = some (r, u') ∧ Rel S' u' := by
  obtain ⟨P, nb, d, hc⟩ := rc_of h
  obtain ⟨hP4, hn6, SP, Sn, un4⟩ := hc.b4
  obtain ⟨D, f1, f2, f3, f4, hT⟩ := hc.cpy (S 5)
  have hd := hc.2.1
  unfold f_X6_runs f_X7_runs
  rw [wi_0_60, isFar_eq, wi_0_3, in_0_3, starts_eq, f1]
  simp only [Option.bind_some, zlet_eq, va_up_eq]
  cases hy : zw a1 0 60 with
  | false => exact ⟨-1, S, u, rfl, rfl, h⟩
  | true =>
    obtain ⟨L, hL, -, rfl⟩ := zw_nat hy
    cases hx : zw a2 0 3 with
    | false => exact ⟨-1, S, u, rfl, rfl, h⟩
    | true =>
      simp only [↓reduceIte]
      have hT2 : TR 6 P nb nb d D (zU (stU u) 0 17 0) := tr_fl hT ⟨zu_j _ _ _ _ (by decide), zu_j _ _ _ _ (by decide)⟩ (fun k _ => by rw [zU_ne _ _ _ (by decide)])
      have fr0 : Fr (stU u) (zU (stU u) 0 17 0) := ⟨fun j a b => zU_ne _ _ _ a, fun k a b => zu_j _ _ _ _ a, fun k a => by rw [zU_ne _ _ _ (by decide)]⟩
      by_cases h3 : a2 = 3
      · subst h3
        rw [if_pos rfl]
        obtain ⟨y, C', u', g1, g2, fr⟩ := runB (L := L) (by omega) L FU FU 0 d D _ hT2 (by omega) (by omega) (FU_pos (by omega)) (FU_pos (by omega))
        have g1 : f_X0_daysTillAllSit D (Int32.ofNat L) = some (y, C') := g1
        have g2 : f_X7_runs_36 FU (zU (stU u) 0 17 0) (Int32.ofNat L) 3 (-4) 0 = some (y, u') := g2
        rw [g1, g2]
        simp only [Option.bind_some, vv]
        exact ⟨_, _, _, rfl, rfl, (hc.st.run (fr0.tr fr) C').1⟩
      · rw [if_neg h3]
        obtain ⟨C', u', v', g1, g2, g3, fr, fl⟩ := runA (L := L) (by omega) a2 L FU FU 0 d (-4) D _ hT2 (by omega) (by omega) (FU_pos (by omega)) (FU_pos (by omega))
        have g1 : f_X0_passDays D (Int32.ofNat L) = some C' := g1
        have g2 : f_X7_runs_36 FU (zU (stU u) 0 17 0) (Int32.ofNat L) a2 (-4) 0 = runE u' a2 v' := g2
        rw [g1, g2]
        simp only [Option.bind_some, vv, va_up_eq]
        have hr := (hc.st.run (fr0.tr fr) C').1
        unfold runE
        obtain ⟨y, -, q1, q2⟩ := sit_eq g3
        obtain ⟨z, -, q3, q4⟩ := all_eq g3
        rw [q1, q2, q3, q4]
        simp only [Option.bind_some]
        by_cases h0 : a2 = 0
        · rw [if_pos h0, if_pos h0]
          exact ⟨_, _, _, rfl, rfl, hr⟩
        rw [if_neg h0, if_neg h0]
        by_cases h1 : a2 = 1
        · rw [if_pos h1, if_pos h1]
          exact ⟨_, _, _, rfl, rfl, hr⟩
        rw [if_neg h1, if_neg h1]
        obtain ⟨k, hk, -, rfl⟩ := zw_nat hx
        have h2 : k = 2 := by
          rcases (show k = 0 ∨ k = 1 ∨ k = 2 ∨ k = 3 by omega) with rfl | rfl | rfl | rfl
          · exact absurd rfl h0
          · exact absurd rfl h1
          · rfl
          · exact absurd rfl h3
        subst h2
        rw [if_pos (show Int32.ofNat 2 = 2 from rfl)]
        refine ⟨_, _, _, rfl, ?_, hr⟩
        rw [fl.1 (f3.trans (zu_eq _ _ _ _).symm)]
