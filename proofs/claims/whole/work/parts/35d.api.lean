/-! off: the class takes a beetle out of its copy, the reference sets it away -/
theorem away_loop {nb : Nat} (hn6 : nb ≤ 6) (t : Nat) : ∀ (m i : Nat) (C : zM), i + 1 + t = nb → t < m → C 0 1 = Int32.ofNat nb → ∃ C', f_X0_takeAway_2 m C (Int32.ofNat i) = some C' ∧ C' 0 0 = C 0 0 ∧ C' 0 2 = C 0 2 ∧ C' 0 3 = C 0 3 ∧ C' 0 4 = C 0 4 ∧ C' 0 1 = Int32.ofNat (nb - 1) ∧ C' 1 = C 1 ∧ C' 7 = C 7 ∧ (∀ c, 2 ≤ c → c ≤ 6 → (∀ k, k < i → C' c k = C c k) ∧ ∀ k, i ≤ k → k + 1 < nb → C' c k = C c (k + 1)) := by
  induction t with
  | zero =>
    intro m i C hi hm hC
    obtain ⟨m, rfl⟩ : ∃ q, m = q + 1 := ⟨m - 1, by omega⟩
    have hi : i + 1 = nb := by omega
    rw [f_X0_takeAway_2, hC, o_1, hi, if_pos (Int32.le_refl _), zlet_eq]
    have e : Int32.ofNat nb - 1 = Int32.ofNat (nb - 1) := pk_sub (a := nb) (b := 1) (by omega)
    rw [e]
    refine ⟨_, rfl, ?_, ?_, ?_, ?_, zu_eq _ _ _ _, zU_ne _ _ _ (by decide), zU_ne _ _ _ (by decide), fun c h2 h6 => ⟨fun k hk => ?_, fun k hk hk2 => ?_⟩⟩
    · exact zu_j _ _ _ _ (by decide)
    · exact zu_j _ _ _ _ (by decide)
    · exact zu_j _ _ _ _ (by decide)
    · exact zu_j _ _ _ _ (by decide)
    · rw [zU_ne _ _ _ (by omega)]
    · omega
  | succ t ih =>
    intro m i C hi hm hC
    obtain ⟨m, rfl⟩ : ∃ q, m = q + 1 := ⟨m - 1, by omega⟩
    rw [f_X0_takeAway_2, hC, o_1, if_neg (nle (by omega) (by omega))]
    have i6 : z_in (Int32.ofNat i) 6 = true := z_inN (by omega) (by decide)
    have j6 : z_in (Int32.ofNat (i + 1)) 6 = true := z_inN (by omega) (by decide)
    have ci : (Int32.ofNat i).toNatClampNeg = i := o_cl (by omega)
    have cj : (Int32.ofNat (i + 1)).toNatClampNeg = i + 1 := o_cl (by omega)
    simp only [i6, j6, ci, cj, ↓reduceIte, zlet_eq]
    simp (disch := decide) only [zU_ne]
    obtain ⟨C', e1, e2, e3, e4, e5, e6, e7, e8, e9⟩ := ih m (i + 1) (zU (zU (zU (zU (zU C 2 i (C 2 (i + 1))) 3 i (C 3 (i + 1))) 4 i (C 4 (i + 1))) 5 i (C 5 (i + 1))) 6 i (C 6 (i + 1))) (by omega) (by omega) (by simp (disch := decide) only [zU_ne]; exact hC)
    refine ⟨C', e1, ?_, ?_, ?_, ?_, e6, ?_, ?_, fun c h2 h6 => ⟨fun k hk => ?_, fun k hk hk2 => ?_⟩⟩
    · rw [e2]; simp (disch := decide) only [zU_ne]
    · rw [e3]; simp (disch := decide) only [zU_ne]
    · rw [e4]; simp (disch := decide) only [zU_ne]
    · rw [e5]; simp (disch := decide) only [zU_ne]
    · rw [e7]; simp (disch := decide) only [zU_ne]
    · rw [e8]; simp (disch := decide) only [zU_ne]
    · rw [(e9 c h2 h6).1 k (by omega)]
      rcases (show c = 2 ∨ c = 3 ∨ c = 4 ∨ c = 5 ∨ c = 6 by omega) with rfl | rfl | rfl | rfl | rfl
      all_goals simp (disch := omega) only [zU_ne, zu_j]
    · by_cases hki : k = i
      · subst hki
        rw [(e9 c h2 h6).1 k (by omega)]
        rcases (show c = 2 ∨ c = 3 ∨ c = 4 ∨ c = 5 ∨ c = 6 by omega) with rfl | rfl | rfl | rfl | rfl
        all_goals simp (disch := omega) only [zU_ne, zu_eq]
      · rw [(e9 c h2 h6).2 k (by omega) hk2]
        rcases (show c = 2 ∨ c = 3 ∨ c = 4 ∨ c = 5 ∨ c = 6 by omega) with rfl | rfl | rfl | rfl | rfl
        all_goals simp (disch := omega) only [zU_ne, zu_j]
theorem tr_away {P nb d b : Nat} {D u : zM} (h : TR 6 P nb nb d D u) (hb : b < nb) : ∃ D', f_X0_takeAway D (Int32.ofNat b) = some D' ∧ TR b P nb (nb - 1) d D' (zU u 0 16 (Int32.ofNat b)) := by
  have hn := tr_n h
  obtain ⟨hP, hN, ha, hpos, hd, uP, CP, Cn, uN, Cd, ud, hp, hB, hw⟩ := h
  obtain ⟨C', e1, e2, e3, e4, e5, e6, e7, e8, e9⟩ := away_loop hn (nb - 1 - b) FU b D (by omega) (FU_pos (by omega)) Cn
  refine ⟨C', e1, hP, hN, Or.inl ⟨hb, by omega, zu_eq _ _ _ _⟩, hpos, hd, ?_, e2.trans CP, e6, ?_, e3.trans Cd, ?_, ?_, ?_, ?_⟩
  · rw [zu_j _ _ _ _ (by decide)]; exact uP
  · rw [zU_ne _ _ _ (by decide)]; exact uN
  · rw [zU_ne _ _ _ (by decide)]; exact ud
  · intro p hpp
    rw [zU_ne _ _ _ (by decide), e7]; exact hp p hpp
  · intro j hj hja
    have q := hB j hj (by omega)
    rw [un_le (show j ≤ 6 by omega)] at q
    have hc : ∀ c, 2 ≤ c → c ≤ 6 → C' c (un b j) = D c j := by
      intro c h2 h6
      by_cases hjb : j < b
      · rw [un_le (by omega)]; exact (e9 c h2 h6).1 j hjb
      · have e : un b j = j - 1 := by unfold un; rw [if_neg (by omega)]
        rw [e, (e9 c h2 h6).2 (j - 1) (by omega) (by omega), show j - 1 + 1 = j by omega]
    unfold BR at q ⊢
    rw [hc 2 (by decide) (by decide), hc 3 (by decide) (by decide), hc 4 (by decide) (by decide), hc 5 (by decide) (by decide), hc 6 (by decide) (by decide), zU_ne _ _ _ (by decide)]
    exact q
  · intro k hk
    rw [zU_ne _ _ _ (by decide), e8]; exact hw k hk
theorem RC.aw {P nb d : Nat} {S : Nat → zM} {u : zM} (h : RC P nb d S u) (x : Int32) : RC P nb d S (zU u 0 16 x) := by
  obtain ⟨h1, h2, h3, h4⟩ := h
  refine ⟨rel_scr h1 (fun _ _ _ _ _ _ => rfl) rfl rfl ?_ ?_, h2, ?_, ?_⟩
  · intro j hj
    exact zU_ne _ _ _ (by omega)
  · intro k hk
    exact zu_j _ _ _ _ (by omega)
  · rw [zu_j _ _ _ _ (by decide)]; exact h3
  · rw [zU_ne _ _ _ (by decide)]; exact h4
theorem off_loop {P nb d p L : Nat} (hp : p < P) (hL : L ≤ 60) (w : Int32) (t : Nat) : ∀ (m m' i : Nat) (S : Nat → zM) (u : zM) (be le : Int32), RC P nb d S u → i + t = nb → t < m → t < m' → (be = -4 ∨ ∃ f, f < 6 ∧ be = Int32.ofNat f) → ∃ r S' u', f_X6_off_68 m S (Int32.ofNat p) (Int32.ofNat L) w be le (Int32.ofNat i) = some (r, S') ∧ f_X7_off_47 m' u (Int32.ofNat p) (Int32.ofNat L) w le be (Int32.ofNat i) = some (r, u') ∧ Rel S' u' := by
  induction t with
  | zero =>
    intro m m' i S u be le hc hi hm hm' hv
    obtain ⟨m, rfl⟩ : ∃ q, m = q + 1 := ⟨m - 1, by omega⟩
    obtain ⟨m', rfl⟩ : ∃ q, m' = q + 1 := ⟨m' - 1, by omega⟩
    have hi : i = nb := by omega
    subst hi
    obtain ⟨hP4, hn6, SP, Sn, un4⟩ := hc.b4
    rw [f_X6_off_68, f_X7_off_47, if_pos (show z_in 34 183 = true by decide), c34, un4, Sn, if_pos (Int32.le_refl _), if_pos (Int32.le_refl _)]
    rcases hv with rfl | ⟨f, hf, rfl⟩
    · rw [if_pos rfl, if_pos rfl]
      by_cases h0 : w = 0
      · rw [if_pos h0]; exact ⟨_, _, _, rfl, rfl, hc.1⟩
      · rw [if_neg h0]; exact ⟨_, _, _, rfl, rfl, hc.1⟩
    · rw [if_neg (ne4 (by omega)), if_neg (ne4 (by omega))]
      by_cases h0 : w = 0
      · rw [if_pos h0, if_pos h0]; exact ⟨_, _, _, rfl, rfl, hc.1⟩
      · rw [if_neg h0, if_neg h0]; exact ⟨_, _, _, rfl, rfl, hc.1⟩
  | succ t ih =>
    intro m m' i S u be le hc hi hm hm' hv
    obtain ⟨m, rfl⟩ : ∃ q, m = q + 1 := ⟨m - 1, by omega⟩
    obtain ⟨m', rfl⟩ : ∃ q, m' = q + 1 := ⟨m' - 1, by omega⟩
    obtain ⟨hP4, hn6, SP, Sn, un4⟩ := hc.b4
    obtain ⟨D, f1, f2, f3, f4, hT⟩ := hc.cpy (S 5)
    obtain ⟨D', f5, hT2⟩ := tr_away hT (show i < nb by omega)
    obtain ⟨C', u', g1, g2, g3, g4, -⟩ := days_eq hT2 (by have := hc.2.1; omega) (show L < 1000 by omega)
    rw [f_X6_off_68, f_X7_off_47, if_pos (show z_in 34 183 = true by decide), c34, un4, Sn, if_neg (nle (by omega) (by omega)), if_neg (nle (by omega) (by omega)), f1, starts_eq]
    simp only [Option.bind_some, zlet_eq, va_up_eq, vv]
    rw [f5, g2]
    simp only [Option.bind_some, va_up_eq, vv]
    rw [g1]
    simp only [Option.bind_some, va_up_eq, vv]
    rw [countedC g3, countedM g3]
    simp only [Option.bind_some]
    have hr := (hc.st.aw (Int32.ofNat i)).run g4 C'
    unfold f_X7_off_95 f_X7_lesser
    rw [o_1]
    by_cases hle : le ≤ Int32.ofNat (cS C' (Int32.ofNat p) (nb - 1))
    · simp only [if_pos hle, Option.bind_some]
      exact ih m m' (i + 1) _ _ _ _ hr (by omega) (by omega) (by omega) hv
    · simp only [if_neg hle, Option.bind_some]
      exact ih m m' (i + 1) _ _ _ _ hr (by omega) (by omega) (by omega) (Or.inr ⟨i, by omega, rfl⟩)
theorem api_off {S : Nat → zM} {u : zM} (h : Rel S u) (a1 : Int32) (a2 : Int32) (a3 : Int32) : ∃ (r : Int32) (S' : Nat → zM) (u' : zM), f_X6_off S a1 a2 a3 = some (r, S') ∧ f_X7_off u a1 a2 a3 = some (r, u') ∧ Rel S' u' := by
  obtain ⟨P, nb, d, hc⟩ := rc_of h
  obtain ⟨hP4, hn6, SP, Sn, un4⟩ := hc.b4
  obtain ⟨D, f1, f2, f3, f4, hT⟩ := hc.cpy (S 5)
  unfold f_X6_off f_X7_off
  rw [hasOne_eq SP hP4, isOne_eq hc.2.2.1 hP4, wi_0_60, isFar_eq, wi_0_1, isPart_eq, starts_eq, f1]
  simp only [Option.bind_some, zlet_eq, va_up_eq]
  cases hz : zw a1 0 ((P : Int) - 1) with
  | false => exact ⟨-1, S, u, rfl, rfl, h⟩
  | true =>
    obtain ⟨p, hp, -, rfl⟩ := zw_nat hz
    cases hy : zw a2 0 60 with
    | false => exact ⟨-1, S, u, rfl, rfl, h⟩
    | true =>
      obtain ⟨L, hL, -, rfl⟩ := zw_nat hy
      cases hx : zw a3 0 1 with
      | false => exact ⟨-1, S, u, rfl, rfl, h⟩
      | true =>
        obtain ⟨C', u', g1, g2, g3, g4, -⟩ := days_eq hT (by have := hc.2.1; omega) (show L < 1000 by omega)
        rw [g1, g2]
        simp only [↓reduceIte, Option.bind_some, va_up_eq, vv]
        rw [countedC g3, countedM g3]
        simp only [Option.bind_some]
        exact off_loop (show p < P by omega) (show L ≤ 60 by omega) a3 nb FU FU 0 _ _ (-4) _ (hc.st.run g4 C') (by omega) (FU_pos (by omega)) (FU_pos (by omega)) (Or.inl rfl)
/-! days -/
theorem settles_loop (k : Nat) : ∀ (n i : Nat) (u : zM), i + k = 61 → k < n → f_X7_settles_2 n u (Int32.ofNat i) = some (rowF u 1 i 61 (u 2)) := by
  induction k with
  | zero =>
    intro n i u hi hn
    obtain ⟨n, rfl⟩ : ∃ m, n = m + 1 := ⟨n - 1, by omega⟩
    have hi : i = 61 := by omega
    subst hi
    rw [f_X7_settles_2, if_pos le61, rowF_nil (Nat.le_refl _)]
  | succ k ih =>
    intro n i u hi hn
    obtain ⟨n, rfl⟩ : ∃ m, n = m + 1 := ⟨n - 1, by omega⟩
    rw [f_X7_settles_2, if_neg (ge61 (by omega)), if_pos (z_inN (by omega) (by decide)), if_pos (z_inN (by omega) (by decide)), zlet_eq, o_cl (by omega)]
    rw [o_1, ih n (i + 1) _ (by omega) (by omega), zU_ne u i (u 2 i) (show 2 ≠ 1 by decide), rowF_step (g := u 2) (by omega)]
theorem settles_eq (u : zM) : f_X7_settles u = some (rowF u 1 0 61 (u 2)) := settles_loop 61 FU 0 u rfl (FU_pos (by decide))
theorem api_days {S : Nat → zM} {u : zM} (h : Rel S u) (a1 : Int32) : ∃ (r : Int32) (S' : Nat → zM) (u' : zM), f_X6_days S a1 = some (r, S') ∧ f_X7_days u a1 = some (r, u') ∧ Rel S' u' := by
  obtain ⟨P, nb, d, hc⟩ := rc_of h
  obtain ⟨hP4, hn6, SP, Sn, un4⟩ := hc.b4
  have hC := hc.2.2.2
  have hd := hc.2.1
  have Cd := hC.2.2.2.2.2.2.1
  have ud := hC.2.2.2.2.2.2.2.1
  obtain ⟨r1, r2, r3, r4, r5⟩ := rel_starts h
  unfold f_X6_days f_X7_days
  rw [wi_0_30, in_0_30]
  cases hz : zw a1 0 30 with
  | false => exact ⟨-1, S, u, rfl, rfl, h⟩
  | true =>
    obtain ⟨L, hL, -, rfl⟩ := zw_nat hz
    simp only [Option.bind_some, zlet_eq, ↓reduceIte]
    rw [if_pos (show z_in 41 183 = true by decide), c41, Cd, ud, o_add]
    by_cases hlt : d + L < 1000
    · rw [if_pos (show Int32.ofNat (d + L) < 1000 from (o_lt (b := 1000) (by omega) (by decide)).mpr hlt), if_pos (show Int32.ofNat (d + L) ≤ 999 from (o_le (b := 999) (by omega) (by decide)).mpr (by omega)), starts_eq]
      have hT : TR 6 P nb nb d (zU (S 4) 0 4 0) (stU u) := by
        have q := hc.tr
        obtain ⟨hP, hN, ha, hpos, hd0, uP, CP, Cn, uN, Cd, ud, hp, hB0, hw⟩ := q
        refine ⟨hP, hN, ha, hpos, hd0, uP, ?_, ?_, uN, ?_, ud, ?_, ?_, ?_⟩
        · rw [zu_j _ _ _ _ (by decide)]; exact CP
        · rw [zu_j _ _ _ _ (by decide)]; exact Cn
        · rw [zu_j _ _ _ _ (by decide)]; exact Cd
        · intro p hpp
          rw [zU_ne _ _ _ (by decide)]; exact hp p hpp
        · intro i hi hia
          have q := hB0 i hi hia
          unfold BR at q ⊢
          simp (disch := decide) only [zU_ne]
          exact q
        · intro k hk
          rw [zU_ne _ _ _ (by decide)]; exact hw k hk
      obtain ⟨C', u', g1, g2, g3, g4, g5, g6⟩ := days_eq hT (by omega) (show L < 1000 by omega)
      simp only [Option.bind_some, va_up_eq, vv]
      rw [g1, g2]
      simp only [Option.bind_some]
      rw [settles_eq]
      simp only [Option.bind_some, va_up_eq, vv]
      have e4 := g6 (zu_eq _ _ _ _)
      have hu1 : u' 1 = u 1 := (g4.1 1 (by decide) (by decide)).trans r5
      refine ⟨u' 0 18, va_up S 4 C', rowF u' 1 0 61 (u' 2), congrArg (fun x => some (x, va_up S 4 C')) e4, ?_, ?_⟩
      · rw [rowF_ne _ _ _ _ (by decide)]
      · have q : Rel (va_up S 4 C') (va_up (stU u) 1 (fun k => if k < 61 then u' 2 k else u 1 k)) := by
          refine rel_now r1 (fun P' nb' d' hC' hd' hP' => ⟨nb, d + L, hlt, ?_⟩) ?_
          · have e := same_P hc.st.2.2.1 hP' hP4 hC'.1
            subst e
            exact cr_cong (tr_cr g3) (fun k hk => if_pos (by omega))
          · intro k hk
            by_cases h61 : k < 61
            · show (if k < 61 then u' 2 k else u 1 k) = _
              rw [if_pos h61, g4.2.2 k hk, r2 k h61, r5]
            · show (if k < 61 then u' 2 k else u 1 k) = _
              rw [if_neg h61, r5]
        refine rel_scr q (fun _ _ _ _ _ _ => rfl) rfl rfl ?_ ?_
        · intro j hj
          by_cases h1 : j = 1
          · subst h1
            rw [va_up_eq]
            funext k
            rw [rowF_row]
            by_cases h61 : k < 61
            · rw [if_pos ⟨Nat.zero_le _, h61⟩, if_pos h61]
            · rw [if_neg (by omega), if_neg h61, hu1]
          · rw [rowF_ne _ _ _ _ h1, va_up_neq _ _ h1]
            exact g4.1 j (by omega) (by omega)
        · intro k hk
          rw [rowF_ne _ _ _ _ (by decide), va_up_neq _ _ (by decide)]
          exact g4.2.1 k (by omega) (by omega)
    · rw [if_neg (show ¬ Int32.ofNat (d + L) < 1000 from i32_nlt.mpr ((o_le (a := 1000) (by decide) (by omega)).mpr (by omega))), if_neg (show ¬ Int32.ofNat (d + L) ≤ 999 from nle (b := 999) (by omega) (by omega))]
      exact ⟨-3, S, u, rfl, rfl, h⟩
