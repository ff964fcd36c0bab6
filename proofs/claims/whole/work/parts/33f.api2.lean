theorem sub1_32 {n : Nat} (h : n ≤ 100) : (Int32.ofNat n - 1).toInt = (n : Int) - 1 := by
  rw [← Int32.toInt_toInt64, sub1_64 h]
theorem faultAt_1 {H : zM} {n : Nat} (hn : n ≤ 100) (h1 : H 0 1 = Int32.ofNat n) (v : Int32) : f_X3_faultAt_ H (H 0 0) v = some (if zw v 0 ((n : Int) - 1) = true then 0 else 2) := by
  unfold f_X3_faultAt_ f_X3_faultAt
  rw [h1, if_neg (show ¬ Int32.ofNat n = -4 from fun q => by have := congrArg Int32.toInt q; rw [o_toInt (by omega), show (-4 : Int32).toInt = -4 from rfl] at this; omega), if_pos rfl]
  unfold zw
  have e := sub1_32 hn
  by_cases h3 : v < 0
  · have := Int32.lt_iff_toInt_lt.mp h3
    rw [show (0 : Int32).toInt = 0 from rfl] at this
    rw [if_pos h3, if_neg (by rw [decide_eq_true_eq]; omega)]; rfl
  · have h4 : ¬ v.toInt < 0 := fun q => h3 (Int32.lt_iff_toInt_lt.mpr q)
    rw [if_neg h3]
    by_cases h5 : v ≤ Int32.ofNat n - 1
    · have := Int32.le_iff_toInt_le.mp h5
      rw [if_pos h5, if_pos (by rw [decide_eq_true_eq]; omega)]; rfl
    · have h6 : ¬ v.toInt ≤ (Int32.ofNat n - 1).toInt := fun q => h5 (Int32.le_iff_toInt_le.mpr q)
      rw [if_neg h5, if_neg (by rw [decide_eq_true_eq]; omega)]; rfl
theorem rel_put {S : Nat → zM} {u : zM} (h : Rel S u) {k i n : Nat} (hk : k < 4) (hi : i < 40) (hn : S (13 + k) 0 1 = Int32.ofNat n) (hn4 : n ≤ 40) (x : Int32) : Rel (va_up S (13 + k) (zU (S (13 + k)) 1 i x)) (zU u 10 (40 * k + i) x) := by
  refine rel_sh h hk ?_ ?_ ?_ ?_ ?_
  · intro j h8 h9 h10
    rw [zU_ne _ _ _ h10]
  · intro j hj
    rw [zU_ne _ _ _ (by decide)]
  · intro j hj
    rw [zU_ne _ _ _ (by decide)]
  · intro j hj
    exact zu_j _ _ _ _ (by omega)
  · obtain ⟨P, nb, d, m, hC, hd, hP, hN, hI, hT, hF, hH, hR⟩ := h
    rcases hH k hk with ⟨q, -⟩ | ⟨n, q1, q2, q3, q4, q5, q6⟩
    · rw [hn] at q
      have := congrArg Int32.toInt q
      rw [o_toInt (by omega), show (-4 : Int32).toInt = -4 from rfl] at this
      omega
    · refine Or.inr ⟨n, q1, ?_, ?_, ?_, ?_, ?_⟩
      · rw [zU_ne _ _ _ (by decide)]; exact q2
      · rw [zU_ne _ _ _ (by decide)]; exact q3
      · rw [zU_ne _ _ _ (by decide), zU_ne _ _ _ (by decide)]; exact q4
      · rw [zU_ne _ _ _ (by decide)]; exact q5
      · intro j hj
        show _ = zU u 10 (40 * k + i) x 10 (40 * k + j)
        by_cases hq : j = i
        · subst hq; rw [zu_eq, zu_eq]
        · rw [zu_j _ _ _ _ hq, zu_j _ _ _ _ (by omega)]; exact q6 j hj
theorem api_lay {S : Nat → zM} {u : zM} (h : Rel S u) (a1 : Int32) (a2 : Int32) (a3 : Int32) : ∃ (r : Int32) (S' : Nat → zM) (u' : zM), f_X6_lay S a1 a2 a3 = some (r, S') ∧ f_X7_lay u a1 a2 a3 = some (r, u') ∧ Rel S' u' := by
  obtain ⟨P, nb, d, m, hC, hd, hP, hN, hI, hT, hF, hH, hR⟩ := id h
  unfold f_X6_lay f_X7_lay f_X3_put
  rw [isSheet_eq, wi_0_3, show zw 0 0 2 = true from by decide, Bool.and_true]
  cases hz : zw a1 0 3 with
  | false => exact ⟨-1, S, u, rfl, rfl, h⟩
  | true =>
    obtain ⟨k, hk, -, rfl⟩ := zw_nat hz
    have hk4 : k < 4 := by omega
    simp only [Option.bind_some, ↓reduceIte, zlet_eq, if_pos (z_inN hk4 (by decide)), o_cl (show k < 2 ^ 31 by omega)]
    rcases hH k hk4 with ⟨q1, q2⟩ | ⟨n, q1, q2, q3, q4, ⟨la, hla, q5⟩, q6⟩
    · rw [if_pos q2]
      unfold f_X3_faultAt_ f_X3_faultAt
      rw [if_pos q1]
      exact ⟨-11, S, u, rfl, rfl, h⟩
    · rw [faultAt_1 (by omega) q2, q3, in_32, sub1_64 (by omega), show Int64.toInt 0 = 0 from rfl, q4, q5]
      rw [if_neg (show ¬ Int32.ofNat la = -4 from fun q => by have := congrArg Int32.toInt q; rw [o_toInt (by omega), show (-4 : Int32).toInt = -4 from rfl] at this; omega)]
      cases hy : zw a2 0 ((n : Int) - 1) with
      | false => exact ⟨-12, S, u, rfl, rfl, h⟩
      | true =>
        obtain ⟨i, hi, -, rfl⟩ := zw_nat hy
        have hi4 : i < 40 := by omega
        simp only [Option.bind_some, ↓reduceIte, if_pos (z_inN hi4 (by decide)), at_c, if_pos (z_inN (show 40 * k + i < 160 by omega) (by decide)), o_cl (show i < 2 ^ 31 by omega), o_cl (show 40 * k + i < 2 ^ 31 by omega)]
        by_cases e0 : Int32.ofNat la = 0
        · simp only [if_pos e0, Option.bind_some]
          exact ⟨1, _, _, rfl, rfl, rel_put h hk4 hi4 q2 q1 _⟩
        · by_cases e1 : Int32.ofNat la = 1
          · simp only [if_neg e0, if_pos e1, Option.bind_some]
            exact ⟨1, _, _, rfl, rfl, rel_put h hk4 hi4 q2 q1 _⟩
          · simp only [if_neg e0, if_neg e1, Option.bind_some]
            exact ⟨1, _, _, rfl, rfl, rel_put h hk4 hi4 q2 q1 _⟩
