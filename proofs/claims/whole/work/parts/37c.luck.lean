theorem l0 : lN 0 = (0 : Int64) := by decide +kernel
theorem l1 : lN 1 = (1 : Int64) := by decide +kernel
noncomputable def vL (b : Nat) (C : zM) : Nat := if C 5 b = -4 then 0 else 1
theorem vL_vs {P nb b : Nat} (hb : b < nb) : VS P nb (vL b) := by
  refine ⟨fun d C D u h h' => ?_, fun d C u h => ?_⟩
  · have hn := tr_n h
    have q := (h.2.2.2.2.2.2.2.2.2.2.2.2.1 b hb (by omega)).w.2.2.2.1
    have q' := (h'.2.2.2.2.2.2.2.2.2.2.2.2.1 b hb (by omega)).w.2.2.2.1
    rw [un_le (show b ≤ 6 by omega)] at q q'
    unfold vL
    rw [q, q']
  · unfold vL
    split <;> omega
theorem vM_vs {P nb p : Nat} : VS P nb (fun C => cS C (Int32.ofNat p) nb) := ⟨fun d C D u h h' => cS_same h h' _, fun d C u h => cS_108 h _⟩
theorem luck_oe {P nb n vv b : Nat} (hb : b < nb) (hb6 : b < 6) : OE P nb n 19 vv (Int32.ofNat b) (-4) (vL b) := by
  intro k46 m d s wy C u g h
  have q := (h.2.2.2.2.2.2.2.2.2.2.2.2.1 b hb (by omega)).w.2.2.2.1
  rw [un_le (show b ≤ 6 by omega)] at q
  rw [f_X7_findOdds_65, if_pos (Int32.le_refl _), if_neg (ne4 (by omega))]
  dsimp only
  rw [of4 u hb6]
  simp only [Option.bind_some]
  unfold f_X7_findOdds_161 vL
  rw [q]
  simp only [zlet_eq, ↓reduceIte]
  rw [o_1]
  by_cases hc : u 2 (8 + 5 * b) = -4
  · rw [if_pos hc, if_pos hc]
    refine ⟨_, rfl, ?_, ?_⟩
    · rw [va_up_neq _ _ (by decide), va_up_eq, Nat.mul_zero, l0]
    · rw [va_up_neq _ _ (by decide), va_up_neq _ _ (by decide)]
  · rw [if_neg hc, if_neg hc]
    refine ⟨_, rfl, ?_, ?_⟩
    · rw [va_up_neq _ _ (by decide), va_up_eq, Nat.mul_one]
    · rw [va_up_neq _ _ (by decide), va_up_neq _ _ (by decide)]
theorem mean_oe {P nb n vv p : Nat} (hp : p < 4) : OE P nb n 20 vv (-4) (Int32.ofNat p) (fun C => cS C (Int32.ofNat p) nb) := by
  intro k46 m d s wy C u g h
  have l := cS_108 h (Int32.ofNat p)
  rw [f_X7_findOdds_65, if_pos (Int32.le_refl _), if_pos rfl]
  unfold f_X7_findOdds_161
  simp only [zlet_eq]
  rw [if_neg (ne4 (by omega)), countedM h]
  simp only [Option.bind_some]
  rw [o_1, show Int32.toInt64 (Int32.ofNat (cS C (Int32.ofNat p) nb)) = lN (cS C (Int32.ofNat p) nb) from nI_l (by omega), lN_mul]
  refine ⟨_, rfl, ?_, ?_⟩
  · rw [va_up_eq, va_up_neq _ _ (by decide)]
  · rw [va_up_neq _ _ (by decide), va_up_neq _ _ (by decide)]
theorem luck_ce {P nb b : Nat} (hb : b < nb) (hb6 : b < 6) : CE P nb 0 (Int32.ofNat b) (vL b) := by
  intro fr S i d u hi h
  have hs := sitsC h hb (show b ≠ 6 by omega)
  have q := (h.2.2.2.2.2.2.2.2.2.2.2.2.1 b hb (by omega)).w.2.2.2.1
  rw [un_le (show b ≤ 6 by omega)] at hs q
  unfold f_X6_sumB_18 vL
  rw [if_pos rfl, o_cl (show i < 2 ^ 31 by omega), hs, q]
  simp only [Option.bind_some]
  by_cases hc : u 2 (8 + 5 * b) = -4
  · rw [decide_eq_true hc, if_pos hc, l0]
    rfl
  · rw [decide_eq_false hc, if_neg hc, l1]
    rfl
theorem mean_ce {P nb p : Nat} : CE P nb 1 (Int32.ofNat p) (fun C => cS C (Int32.ofNat p) nb) := by
  intro fr S i d u hi h
  have l := cS_108 h (Int32.ofNat p)
  unfold f_X6_sumB_18
  rw [if_neg (show ¬ (1 : Int32) = 0 by decide), o_cl (show i < 2 ^ 31 by omega), countedC h]
  simp only [Option.bind_some]
  rw [show Int32.toInt64 (Int32.ofNat (cS (S (17 + i)) (Int32.ofNat p) nb)) = lN (cS (S (17 + i)) (Int32.ofNat p) nb) from nI_l (by omega)]
theorem by_eq {P nb d n vv c : Nat} {S : Nat → zM} {u : zM} {g : Nat → Int64} {val : zM → Nat} {v4 v5 v2 v3 : Int32} (hc : RC P nb d S u) (hcc : c = 19 ∨ c = 20) (hv : VS P nb val) (HC : CE P nb v4 v5 val) (HM : OE P nb n c vv v2 v3 val) (hn : n ≤ 8) (hvv : vv ≤ 10) {w : Int32} (hw : zw w 0 1 = true) :
    ∃ (r : Int64) (S' : Nat → zM) (u' : zM) (g' : Nat → Int64), f_X6_byOdds S (Int32.ofNat vv) (Int32.ofNat n) w v4 v5 = some (r, S') ∧ f_X7_findOdds (u, g) (Int32.ofNat vv) v2 v3 (Int32.ofNat n) = some (u', g') ∧ f_X7_told (g' c) (g' 21) w = some r ∧ Rel S' u' := by
  have hd := hc.2.1
  obtain ⟨u', g', m1, m2, m3, m4⟩ := odds_eq (g := g) hcc HM hn hvv hc
  obtain ⟨D, f1, f2, f3, f4, hT⟩ := hc.cpy (S 17)
  have ew : wT vv val n D = wT vv val n (S 4) := wT_same hv n d D (S 4) (stU u) hT hc.tr (by omega)
  have hl := wT_le hv hvv n d (S 4) (stU u) hc.tr (by omega)
  have ht := ten_le hn
  obtain ⟨r, t1, t2⟩ := told_some (n := n) (a := wT vv val n (S 4)) hn (by omega) w
  obtain ⟨S', s1, s2⟩ := sum_eq (n := n) (vv := vv) hv HC hn hvv hd n 12 0 (va_up S 17 D) (stU u) (by omega) (by omega) (by rw [va_up_eq]; exact hT)
  have s1 : f_X6_sumOverFutures 12 (va_up S 17 D) 0 (Int32.ofNat n) (Int32.ofNat vv) v4 v5 = some (lN (wT vv val n D), S') := s1
  refine ⟨r, S', u', g', ?_, m1, by rw [m3, m4]; exact t2, ?_⟩
  · unfold f_X6_byOdds
    rw [wi_0_10, wi_0_8, wi_0_1, hw, show zw (Int32.ofNat vv) 0 10 = true from decide_eq_true (by rw [o_toInt (by omega)]; omega), show zw (Int32.ofNat n) 0 8 = true from decide_eq_true (by rw [o_toInt (by omega)]; omega)]
    simp only [Option.bind_some, ↓reduceIte]
    rw [if_pos (show z_in 0 9 = true by decide), show (17 + (0 : Int32).toNatClampNeg) = 17 from rfl, f1]
    simp only [Option.bind_some, zlet_eq]
    rw [s1]
    simp only [Option.bind_some]
    rw [ew, t1]
    rfl
  · refine rel_67 m2.1 (Fr6.rf u').sev (fun i a b _ => ?_) ?_
    · rw [s2 i (by omega), va_up_neq _ _ (by omega)]
    · rw [s2 0 (by omega), va_up_neq _ _ (by decide)]
theorem by_bad (S : Nat → zM) (v n w v4 v5 : Int32) (h : zw v 0 10 = false ∨ zw n 0 8 = false ∨ zw w 0 1 = false) : f_X6_byOdds S v n w v4 v5 = some ((-1 : Int64), S) := by
  unfold f_X6_byOdds
  rw [wi_0_10, wi_0_8, wi_0_1]
  cases h1 : zw v 0 10 with
  | false => rfl
  | true =>
    cases h2 : zw n 0 8 with
    | false => rfl
    | true =>
      cases h3 : zw w 0 1 with
      | false => rfl
      | true =>
        rw [h1, h2, h3] at h
        simp at h
theorem api_luck {S : Nat → zM} {u : zM} (h : Rel S u) (a1 : Int32) (a2 : Int32) (a3 : Int32) (a4 : Int32) (g : Nat → Int64) : ∃ (r : Int64) (S' : Nat → zM) (u' : zM) (g' : Nat → Int64), f_X6_luck S a1 a2 a3 a4 = some (r, S') ∧ f_X7_luck (u, g) a1 a2 a3 a4 = some (r, u', g') ∧ Rel S' u' := by
  obtain ⟨P, nb, d, hc⟩ := rc_of h
  obtain ⟨hP4, hn6, SP, Sn, un4⟩ := hc.b4
  unfold f_X6_luck f_X7_luck
  rw [hasBeetle_eq Sn hn6, in_0_10]
  dsimp only
  rw [isBeetle_eq un4 hn6, in_0_8, isPart_eq]
  simp only [Option.bind_some]
  cases hb : zw a2 0 ((nb : Int) - 1) with
  | false =>
    cases zw a1 0 10 with
    | false => exact ⟨-1, S, u, g, rfl, rfl, h⟩
    | true => exact ⟨-1, S, u, g, rfl, rfl, h⟩
  | true =>
    obtain ⟨b, hb, -, rfl⟩ := zw_nat hb
    have hb : b < nb := by omega
    simp only [↓reduceIte]
    cases hv : zw a1 0 10 with
    | false =>
      rw [by_bad S a1 a3 a4 0 (Int32.ofNat b) (Or.inl hv)]
      exact ⟨-1, S, u, g, rfl, rfl, h⟩
    | true =>
      cases hn : zw a3 0 8 with
      | false =>
        rw [by_bad S a1 a3 a4 0 (Int32.ofNat b) (Or.inr (Or.inl hn))]
        exact ⟨-1, S, u, g, rfl, rfl, h⟩
      | true =>
        cases hw : zw a4 0 1 with
        | false =>
          rw [by_bad S a1 a3 a4 0 (Int32.ofNat b) (Or.inr (Or.inr hw))]
          exact ⟨-1, S, u, g, rfl, rfl, h⟩
        | true =>
          obtain ⟨vv, h10, -, rfl⟩ := zw_nat hv
          obtain ⟨n, h8, -, rfl⟩ := zw_nat hn
          obtain ⟨r, S', u', g', q1, q2, q3, q4⟩ := by_eq (g := g) hc (Or.inl rfl) (vL_vs hb) (luck_ce hb (by omega)) (luck_oe (n := n) (vv := vv) hb (by omega)) (by omega) (by omega) hw
          rw [q1]
          simp only [Option.bind_some, zlet_eq, ↓reduceIte]
          rw [q2]
          simp only [Option.bind_some]
          rw [q3]
          exact ⟨r, S', u', g', rfl, rfl, q4⟩
theorem api_mean {S : Nat → zM} {u : zM} (h : Rel S u) (a1 : Int32) (a2 : Int32) (a3 : Int32) (a4 : Int32) (g : Nat → Int64) : ∃ (r : Int64) (S' : Nat → zM) (u' : zM) (g' : Nat → Int64), f_X6_mean S a1 a2 a3 a4 = some (r, S') ∧ f_X7_mean (u, g) a1 a2 a3 a4 = some (r, u', g') ∧ Rel S' u' := by
  obtain ⟨P, nb, d, hc⟩ := rc_of h
  obtain ⟨hP4, hn6, SP, Sn, un4⟩ := hc.b4
  unfold f_X6_mean f_X7_mean
  rw [hasOne_eq SP hP4, in_0_10]
  dsimp only
  rw [isOne_eq hc.2.2.1 hP4, in_0_8, isPart_eq]
  simp only [Option.bind_some]
  cases hb : zw a2 0 ((P : Int) - 1) with
  | false =>
    cases zw a1 0 10 with
    | false => exact ⟨-1, S, u, g, rfl, rfl, h⟩
    | true => exact ⟨-1, S, u, g, rfl, rfl, h⟩
  | true =>
    obtain ⟨p, hp, -, rfl⟩ := zw_nat hb
    simp only [↓reduceIte]
    cases hv : zw a1 0 10 with
    | false =>
      rw [by_bad S a1 a3 a4 1 (Int32.ofNat p) (Or.inl hv)]
      exact ⟨-1, S, u, g, rfl, rfl, h⟩
    | true =>
      cases hn : zw a3 0 8 with
      | false =>
        rw [by_bad S a1 a3 a4 1 (Int32.ofNat p) (Or.inr (Or.inl hn))]
        exact ⟨-1, S, u, g, rfl, rfl, h⟩
      | true =>
        cases hw : zw a4 0 1 with
        | false =>
          rw [by_bad S a1 a3 a4 1 (Int32.ofNat p) (Or.inr (Or.inr hw))]
          exact ⟨-1, S, u, g, rfl, rfl, h⟩
        | true =>
          obtain ⟨vv, h10, -, rfl⟩ := zw_nat hv
          obtain ⟨n, h8, -, rfl⟩ := zw_nat hn
          obtain ⟨r, S', u', g', q1, q2, q3, q4⟩ := by_eq (g := g) hc (Or.inr rfl) (vM_vs (p := p)) mean_ce (mean_oe (n := n) (vv := vv) (show p < 4 by omega)) (by omega) (by omega) hw
          rw [q1]
          simp only [Option.bind_some, zlet_eq, ↓reduceIte]
          rw [q2]
          simp only [Option.bind_some]
          rw [q3]
          exact ⟨r, S', u', g', rfl, rfl, q4⟩
