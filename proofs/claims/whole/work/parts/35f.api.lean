theorem tn_cases (x : Int32) : x.toBitVec.toNat < 4294967296 ∧ (x.toInt = (x.toBitVec.toNat : Int) ∨ x.toInt = (x.toBitVec.toNat : Int) - 4294967296) := by
  have h1 := x.toBitVec.isLt
  have h2 : x.toInt = x.toBitVec.toInt := rfl
  have h := BitVec.toInt_eq_toNat_cond x.toBitVec
  rw [← h2] at h
  refine ⟨h1, ?_⟩
  split at h
  · exact Or.inl h
  · exact Or.inr h
theorem sar_key (y : Int32) : (y >>> ((16 : Int32) &&& 31)) &&& 32767 = (z_ushr y 16) &&& 32767 := by
  rw [pk_and (y >>> ((16 : Int32) &&& 31)) 15 (by decide), pk_and (z_ushr y 16) 15 (by decide)]
  have e1 : (z_ushr y 16).toBitVec.toNat = y.toBitVec.toNat / 2 ^ 16 := pk_ushr y 16 16 (by decide)
  have e2 : (y >>> ((16 : Int32) &&& 31)).toInt = y.toInt >>> 16 := pk_shr y ((16 : Int32) &&& 31) 16 (by decide)
  rw [Int.shiftRight_eq_div_pow] at e2
  have c1 := tn_cases y
  have c2 := tn_cases (y >>> ((16 : Int32) &&& 31))
  rw [e1]
  generalize (y >>> ((16 : Int32) &&& 31)).toBitVec.toNat = b at c2 ⊢
  generalize (y >>> ((16 : Int32) &&& 31)).toInt = B at c2 e2
  generalize y.toBitVec.toNat = a at c1 ⊢
  generalize y.toInt = A at c1 e2
  have : b % 2 ^ 15 = a / 2 ^ 16 % 2 ^ 15 := by
    have e3 : B = A / 65536 := e2
    omega
  rw [this]
theorem ten_key (y : Int32) : ∃ s, s < 10 ∧ (y &&& 32767) - (y &&& 32767) / 10 * 10 = Int32.ofNat s := by
  obtain ⟨j, hj, e⟩ := pk_andE y (m := 32767) 15 (by decide)
  rw [e]
  exact ⟨j % 10, Nat.mod_lt _ (by decide), pk_rem (a := j) (d := 10) (by omega) (by decide) (by decide)⟩
theorem drift_loop {P nb L : Nat} (hL : L ≤ 60) (w : Int32) (t : Nat) : ∀ (m m' i d : Nat) (v : Int32) (S : Nat → zM) (u : zM), TR 6 P nb nb d (S 5) u → S 5 0 4 = u 0 18 → d + t < 99999 → i + t = L → t < m → t < m' → ∃ r C' u', f_X6_drift_51 m S (Int32.ofNat L) w v (Int32.ofNat i) = some (r, va_up S 5 C') ∧ f_X7_drift_49 m' u (Int32.ofNat L) w v (Int32.ofNat i) = some (r, u') ∧ Fr u u' := by
  induction t with
  | zero =>
    intro m m' i d v S u h hl hd hi hm hm'
    obtain ⟨m, rfl⟩ : ∃ q, m = q + 1 := ⟨m - 1, by omega⟩
    obtain ⟨m', rfl⟩ : ∃ q, m' = q + 1 := ⟨m' - 1, by omega⟩
    have hi : i = L := by omega
    subst hi
    obtain ⟨y, -, q1, q2⟩ := all_eq h
    rw [f_X6_drift_51, f_X7_drift_49, if_pos (Int32.le_refl _), if_pos (Int32.le_refl _), q1, q2, hl]
    simp only [Option.bind_some]
    by_cases h0 : w = 0
    · rw [if_pos h0, if_pos h0]
      exact ⟨_, S 5, u, by rw [va_self], rfl, Fr.rf u⟩
    · rw [if_neg h0, if_neg h0]
      exact ⟨_, S 5, u, by rw [va_self], rfl, Fr.rf u⟩
  | succ t ih =>
    intro m m' i d v S u h hl hd hi hm hm'
    obtain ⟨m, rfl⟩ : ∃ q, m = q + 1 := ⟨m - 1, by omega⟩
    obtain ⟨m', rfl⟩ : ∃ q, m' = q + 1 := ⟨m' - 1, by omega⟩
    obtain ⟨s, hs, e⟩ := ten_key (z_ushr (v * 1103515245 + 12345) 16)
    obtain ⟨C1, u1, g1, g2, h1, fr1, fl1⟩ := day_eq h (by omega) hs
    rw [f_X6_drift_51, f_X7_drift_49, if_neg (nle (by omega) (by omega)), if_neg (nle (by omega) (by omega)), sar_key, e, g1, g2, o_1]
    simp only [Option.bind_some, zlet_eq]
    obtain ⟨r, C2, u2, q1, q2, q3⟩ := ih m m' (i + 1) (d + 1) (v * 1103515245 + 12345) (va_up S 5 C1) u1 (by rw [va_up_eq]; exact h1) (by rw [va_up_eq]; exact fl1.2 hl) (by omega) (by omega) (by omega) (by omega)
    rw [vv] at q1
    exact ⟨r, C2, u2, q1, q2, fr1.tr q3⟩
theorem api_drift {S : Nat → zM} {u : zM} (h : Rel S u) (a1 : Int32) (a2 : Int32) (a3 : Int32) : ∃ (r : Int32) (S' : Nat → zM) (u' : zM), f_X6_drift S a1 a2 a3 = some (r, S') ∧ f_X7_drift u a1 a2 a3 = some (r, u') ∧ Rel S' u' := by
  obtain ⟨P, nb, d, hc⟩ := rc_of h
  obtain ⟨hP4, hn6, SP, Sn, un4⟩ := hc.b4
  obtain ⟨D, f1, f2, f3, f4, hT⟩ := hc.cpy (S 5)
  have hd := hc.2.1
  unfold f_X6_drift f_X7_drift
  rw [wi_1_60, in_1_60, wi_0_1, isPart_eq, starts_eq, f1]
  simp only [Option.bind_some, zlet_eq]
  cases hy : zw a2 1 60 with
  | false => exact ⟨-1, S, u, rfl, rfl, h⟩
  | true =>
    obtain ⟨L, hL1, hL, -, rfl⟩ := zw_natL (by decide) hy
    cases hx : zw a3 0 1 with
    | false => exact ⟨-1, S, u, rfl, rfl, h⟩
    | true =>
      simp only [↓reduceIte]
      rw [if_pos (show z_in 34 183 = true by decide), c34, un4, Sn]
      by_cases h0 : Int32.ofNat nb = 0
      · rw [if_pos h0, if_pos h0]
        exact ⟨-2, S, u, rfl, rfl, h⟩
      · rw [if_neg h0, if_neg h0]
        have hT2 : TR 6 P nb nb d D (zU (stU u) 0 18 0) := tr_fl hT ⟨zu_j _ _ _ _ (by decide), zu_j _ _ _ _ (by decide)⟩ (fun k _ => by rw [zU_ne _ _ _ (by decide)])
        have fr0 : Fr (stU u) (zU (stU u) 0 18 0) := ⟨fun j a b => zU_ne _ _ _ a, fun k a b => zu_j _ _ _ _ b, fun k a => by rw [zU_ne _ _ _ (by decide)]⟩
        obtain ⟨r, C', u', g1, g2, g3⟩ := drift_loop (L := L) (by omega) a3 L FU FU 0 d a1 (va_up S 5 D) (zU (stU u) 0 18 0) (by rw [va_up_eq]; exact hT2) (by rw [va_up_eq, zu_eq]; exact f4) (by omega) (by omega) (FU_pos (by omega)) (FU_pos (by omega))
        rw [vv] at g1
        exact ⟨r, _, u', g1, g2, (hc.st.run (fr0.tr g3) C').1⟩
/-! count -/
theorem spots_loop {P nb d : Nat} {C u : zM} (h : TR 6 P nb nb d C u) (h1 : u 1 34 = Int32.ofNat nb) (w : Int32) (t : Nat) : ∀ (m m' i : Nat) (x : Int32), i + t = nb → t < m → t < m' → ∃ s, f_X0_spotsOfAll_4 m C x (Int32.ofNat i) = some s ∧ f_X7_count_11 m' u w x false (Int32.ofNat i) = f_X7_count_42 FU u w s 0 0 := by
  have hn := tr_n h
  have Cn := h.2.2.2.2.2.2.2.1
  induction t with
  | zero =>
    intro m m' i x hi hm hm'
    obtain ⟨m, rfl⟩ : ∃ q, m = q + 1 := ⟨m - 1, by omega⟩
    obtain ⟨m', rfl⟩ : ∃ q, m' = q + 1 := ⟨m' - 1, by omega⟩
    have hi : i = nb := by omega
    subst hi
    rw [f_X0_spotsOfAll_4, f_X7_count_11, if_pos (show z_in 34 183 = true by decide), c34, h1, Cn, if_pos (Int32.le_refl _), if_pos (Int32.le_refl _)]
    exact ⟨x, rfl, rfl⟩
  | succ t ih =>
    intro m m' i x hi hm hm'
    obtain ⟨m, rfl⟩ : ∃ q, m = q + 1 := ⟨m - 1, by omega⟩
    obtain ⟨m', rfl⟩ : ∃ q, m' = q + 1 := ⟨m' - 1, by omega⟩
    have hB := h.2.2.2.2.2.2.2.2.2.2.2.2.1 i (by omega) (by omega)
    rw [un_le (show i ≤ 6 by omega)] at hB
    rw [f_X0_spotsOfAll_4, f_X7_count_11, if_pos (show z_in 34 183 = true by decide), c34, h1, Cn, if_neg (nle (by omega) (by omega)), if_neg (nle (by omega) (by omega)), of1 u (show i < 6 by omega), if_pos (z_inN (show i < 6 by omega) (by decide)), o_cl (show i < 2 ^ 31 by omega), hB.w.2.1, o_1]
    simp only [Option.bind_some]
    exact ih m m' (i + 1) _ (by omega) (by omega) (by omega)
noncomputable def cntE (u : zM) (v1 v2 v3 : Int32) : Option (Int32 × zM) := if v1 = 0 then if z_in 42 183 = true then some ((u 1 (Int32.toNatClampNeg 42)), u) else none else if v1 = 1 then if z_in 0 2 = true then (f_X7_flag (u 3 (Int32.toNatClampNeg 0))).bind fun r5 => if z_in 1 2 = true then (f_X7_flag (u 3 (Int32.toNatClampNeg 1))).bind fun r6 => some ((r5 + r6), u) else none else none else if v1 = 2 then some ((u 0 9), u) else if v1 = 3 then if z_in 0 4 = true then if (u 8 (Int32.toNatClampNeg 0)) = (-4) then some ((-4), u) else if z_in 0 4 = true then some ((u 9 (Int32.toNatClampNeg 0)), u) else none else none else if v1 = 4 then some (v2, u) else if v1 = 5 then some (v3, u) else some ((-1), u)
theorem winds_loop {C u : zM} (hw : ∀ k, k < 6 → C 7 k = u 1 (35 + k)) (w s : Int32) (t : Nat) : ∀ (m m' i : Nat) (x : Int32), i + t = 6 → t < m → t < m' → ∃ g, f_X0_allWinds_4 m C x (Int32.ofNat i) = some g ∧ f_X7_count_42 m' u w s x (Int32.ofNat i) = cntE u w s g := by
  induction t with
  | zero =>
    intro m m' i x hi hm hm'
    obtain ⟨m, rfl⟩ : ∃ q, m = q + 1 := ⟨m - 1, by omega⟩
    obtain ⟨m', rfl⟩ : ∃ q, m' = q + 1 := ⟨m' - 1, by omega⟩
    have hi : i = 6 := by omega
    subst hi
    rw [f_X0_allWinds_4, f_X7_count_42, if_pos (show (6 : Int32) ≤ Int32.ofNat 6 by decide), if_pos (show (6 : Int32) ≤ Int32.ofNat 6 by decide)]
    exact ⟨x, rfl, rfl⟩
  | succ t ih =>
    intro m m' i x hi hm hm'
    obtain ⟨m, rfl⟩ : ∃ q, m = q + 1 := ⟨m - 1, by omega⟩
    obtain ⟨m', rfl⟩ : ∃ q, m' = q + 1 := ⟨m' - 1, by omega⟩
    have l6 : ¬ (6 : Int32) ≤ Int32.ofNat i := nle (a := 6) (by omega) (by decide)
    rw [f_X0_allWinds_4, f_X7_count_42, if_neg l6, if_neg l6, if_pos (z_inN (show i < 6 by omega) (by decide)), o_cl (show i < 2 ^ 31 by omega), show (35 : Int32) + Int32.ofNat i = Int32.ofNat (35 + i) from o_add 35 i, if_pos (z_inN (show 35 + i < 183 by omega) (by decide)), o_cl (show 35 + i < 2 ^ 31 by omega), hw i (by omega), o_1]
    exact ih m m' (i + 1) _ (by omega) (by omega) (by omega)
theorem kept_eq {S : Nat → zM} {f0 f1 : Int32} (e0 : S 7 0 0 = f0) (e1 : S 8 0 0 = f1) : ∃ y, f_X6_imagesKept S = some y ∧ (f_X7_flag f0).bind (fun r5 => (f_X7_flag f1).bind fun r6 => some (r5 + r6)) = some y := by
  obtain ⟨m, hm⟩ : ∃ q, FU = q + 1 + 1 + 1 := ⟨FU - 3, by have := FU_pos (k := 3) (by decide); omega⟩
  unfold f_X6_imagesKept f_X7_flag
  rw [hm, f_X6_imagesKept_4, if_neg (show ¬ (2 : Int32) ≤ 0 by decide), if_pos (show z_in 0 2 = true by decide), show (0 : Int32).toNatClampNeg = 0 from rfl, show S (7 + 0) 0 0 = f0 from e0]
  have e1' : S (7 + (0 + 1 : Int32).toNatClampNeg) 0 0 = f1 := e1
  have st : ∀ x : Int32, f_X6_imagesKept_4 (m + 1 + 1) S x (0 + 1) = if f1 = 0 then some x else some (x + 1) := by
    intro x
    rw [f_X6_imagesKept_4, if_neg (show ¬ (2 : Int32) ≤ 0 + 1 by decide), if_pos (show z_in (0 + 1) 2 = true by decide), e1', f_X6_imagesKept_4, f_X6_imagesKept_4, if_pos (show (2 : Int32) ≤ 0 + 1 + 1 by decide), if_pos (show (2 : Int32) ≤ 0 + 1 + 1 by decide)]
  rw [st, st]
  by_cases h0 : f0 = 0
  · rw [if_pos h0, if_pos h0]
    by_cases h1 : f1 = 0
    · rw [if_pos h1, if_pos h1]; exact ⟨_, rfl, rfl⟩
    · rw [if_neg h1, if_neg h1]; exact ⟨_, rfl, rfl⟩
  · rw [if_neg h0, if_neg h0]
    by_cases h1 : f1 = 0
    · rw [if_pos h1, if_pos h1]; exact ⟨_, rfl, rfl⟩
    · rw [if_neg h1, if_neg h1]; exact ⟨_, rfl, rfl⟩
theorem api_count {S : Nat → zM} {u : zM} (h : Rel S u) (a1 : Int32) : ∃ (r : Int32) (u' : zM), f_X6_count S a1 = some r ∧ f_X7_count u a1 = some (r, u') ∧ Rel S u' := by
  obtain ⟨P, nb, d, hc⟩ := rc_of h
  obtain ⟨hP4, hn6, SP, Sn, un4⟩ := hc.b4
  have r1 := hc.st.1
  have hT := hc.tr
  obtain ⟨P2, nb2, d2, m2, hC, -, -, ⟨hm6, hN0, hN1, hN2⟩, hI, ⟨t, ht, hT1, hT2, hT3⟩, hF, hH, hR⟩ := id r1
  obtain ⟨s, f1, f2⟩ := spots_loop hT (hc.st.b4.2.2.2.2) a1 nb FU FU 0 0 (by omega) (FU_pos (by omega)) (FU_pos (by omega))
  obtain ⟨g, g1, g2⟩ := winds_loop (C := S 4) (u := stU u) (fun k hk => (hc.st.2.2.2.2.2.2.2.2.2.2.2.2.2 k hk).1) a1 s 6 FU FU 0 0 (by omega) (FU_pos (by omega)) (FU_pos (by omega))
  have f1 : f_X0_spotsOfAll (S 4) = some s := f1
  have f2 : f_X7_count_11 FU (stU u) a1 0 false 0 = f_X7_count_42 FU (stU u) a1 s 0 0 := f2
  have g1 : f_X0_allWinds (S 4) = some g := g1
  have g2 : f_X7_count_42 FU (stU u) a1 s 0 0 = cntE (stU u) a1 s g := g2
  obtain ⟨y, k1, k2⟩ := kept_eq (hI 0 (by decide)).1 (hI 1 (by decide)).1
  unfold f_X6_count f_X7_count
  rw [starts_eq, f1, g1, k1]
  simp only [Option.bind_some, zlet_eq]
  rw [f2, g2]
  unfold cntE
  by_cases h0 : a1 = 0
  · rw [if_pos h0, if_pos h0, if_pos (show z_in 42 183 = true by decide), show Int32.toNatClampNeg 42 = 42 from rfl, hN0, hN1]
    exact ⟨_, _, rfl, rfl, r1⟩
  rw [if_neg h0, if_neg h0]
  by_cases h0 : a1 = 1
  · rw [if_pos h0, if_pos h0]
    simp only [show z_in 0 2 = true by decide, show z_in 1 2 = true by decide, show Int32.toNatClampNeg 0 = 0 from rfl, show Int32.toNatClampNeg 1 = 1 from rfl, ↓reduceIte]
    refine ⟨y, stU u, rfl, ?_, r1⟩
    have q : ∀ a b : Option Int32, (a.bind (fun r5 => b.bind fun r6 => some (r5 + r6)) = some y) → (a.bind fun r5 => b.bind fun r6 => some (r5 + r6, stU u)) = some (y, stU u) := by
      intro a b e
      cases a with
      | none => exact absurd e (by simp)
      | some a =>
        cases b with
        | none => exact absurd e (by simp)
        | some b =>
          have e : some (a + b) = some y := e
          exact congrArg (fun z => some (z, stU u)) (Option.some.inj e)
    exact q _ _ k2
  rw [if_neg h0, if_neg h0]
  by_cases h0 : a1 = 2
  · rw [if_pos h0, if_pos h0, hT1, hT2]
    exact ⟨_, _, rfl, rfl, r1⟩
  rw [if_neg h0, if_neg h0]
  by_cases h0 : a1 = 3
  · rw [if_pos h0, if_pos h0, if_pos (show z_in 0 4 = true by decide), if_pos (show z_in 0 4 = true by decide), show Int32.toNatClampNeg 0 = 0 from rfl]
    rcases hH 0 (by decide) with ⟨q1, q2⟩ | ⟨n, q1, q2, q3, q4, ⟨la, hla, q5⟩, q6⟩
    · rw [if_pos q2]
      exact ⟨-4, _, congrArg some q1, rfl, r1⟩
    · rw [if_neg (by rw [q5]; exact ne4 (by omega))]
      exact ⟨_, _, congrArg some (q2.trans q3.symm), rfl, r1⟩
  rw [if_neg h0, if_neg h0]
  by_cases h0 : a1 = 4
  · rw [if_pos h0, if_pos h0]
    exact ⟨_, _, rfl, rfl, r1⟩
  rw [if_neg h0, if_neg h0]
  by_cases h0 : a1 = 5
  · rw [if_pos h0, if_pos h0]
    exact ⟨_, _, rfl, rfl, r1⟩
  rw [if_neg h0, if_neg h0]
  exact ⟨_, _, rfl, rfl, r1⟩
