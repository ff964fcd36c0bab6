def zw (v : Int32) (a b : Int) : Bool := decide (a ≤ v.toInt ∧ v.toInt ≤ b)
theorem within_g (v a b : Int32) : f_X6_isWithin v a b = some (zw v a.toInt b.toInt) := by
  unfold f_X6_isWithin zw
  by_cases h1 : v < a
  · rw [if_pos h1, decide_eq_false (by have := Int32.lt_iff_toInt_lt.mp h1; omega)]
  · rw [if_neg h1]
    have h2 : ¬ v.toInt < a.toInt := fun q => h1 (Int32.lt_iff_toInt_lt.mpr q)
    by_cases h3 : b < v
    · rw [if_pos h3, decide_eq_false (by have := Int32.lt_iff_toInt_lt.mp h3; omega)]
    · have h4 : ¬ b.toInt < v.toInt := fun q => h3 (Int32.lt_iff_toInt_lt.mpr q)
      rw [if_neg h3, decide_eq_true (by omega)]
theorem lg_lt (x y : Int64) : lg_cmp x y < 0 ↔ x.toInt < y.toInt := by
  unfold lg_cmp
  by_cases h : x > y
  · rw [if_pos h]
    have := Int64.lt_iff_toInt_lt.mp h
    exact ⟨fun q => absurd q (by decide), fun q => by omega⟩
  · rw [if_neg h]
    have h2 : ¬ y.toInt < x.toInt := fun q => h (Int64.lt_iff_toInt_lt.mpr q)
    by_cases h3 : x = y
    · rw [if_pos h3]; subst h3
      exact ⟨fun q => absurd q (by decide), fun q => by omega⟩
    · rw [if_neg h3]
      have h4 : x.toInt ≠ y.toInt := fun q => h3 (Int64.toInt_inj.mp q)
      exact ⟨fun _ => by omega, fun _ => by decide⟩
theorem lg_gt (x y : Int64) : 0 < lg_cmp x y ↔ y.toInt < x.toInt := by
  unfold lg_cmp
  by_cases h : x > y
  · rw [if_pos h]
    have := Int64.lt_iff_toInt_lt.mp h
    exact ⟨fun _ => this, fun _ => by decide⟩
  · rw [if_neg h]
    have h2 : ¬ y.toInt < x.toInt := fun q => h (Int64.lt_iff_toInt_lt.mpr q)
    by_cases h3 : x = y
    · rw [if_pos h3]
      exact ⟨fun q => absurd q (by decide), fun q => absurd q h2⟩
    · rw [if_neg h3]
      exact ⟨fun q => absurd q (by decide), fun q => absurd q h2⟩
theorem in_g (v a b : Int64) : f_X7_in v a b = some (decide (a.toInt ≤ v.toInt ∧ v.toInt ≤ b.toInt)) := by
  unfold f_X7_in
  by_cases h1 : lg_cmp v a < 0
  · rw [if_pos h1, decide_eq_false (by have := (lg_lt v a).mp h1; omega)]
  · rw [if_neg h1]
    have h2 : ¬ v.toInt < a.toInt := fun q => h1 ((lg_lt v a).mpr q)
    by_cases h3 : 0 < lg_cmp v b
    · rw [if_pos h3, decide_eq_false (by have := (lg_gt v b).mp h3; omega)]
    · have h4 : ¬ b.toInt < v.toInt := fun q => h3 ((lg_gt v b).mpr q)
      rw [if_neg h3, decide_eq_true (by omega)]
theorem in_32 (v : Int32) (a b : Int64) : f_X7_in v.toInt64 a b = some (zw v a.toInt b.toInt) := by
  rw [in_g, Int32.toInt_toInt64]; rfl
theorem wi_0_1 (v : Int32) : f_X6_isWithin v 0 1 = some (zw v 0 1) := within_g v 0 1
theorem in_0_1 (v : Int32) : f_X7_in (Int32.toInt64 v) (0 : Int64) (1 : Int64) = some (zw v 0 1) := in_32 v 0 1
theorem wi_0_10 (v : Int32) : f_X6_isWithin v 0 10 = some (zw v 0 10) := within_g v 0 10
theorem in_0_10 (v : Int32) : f_X7_in (Int32.toInt64 v) (0 : Int64) (10 : Int64) = some (zw v 0 10) := in_32 v 0 10
theorem wi_0_127 (v : Int32) : f_X6_isWithin v 0 127 = some (zw v 0 127) := within_g v 0 127
theorem in_0_127 (v : Int32) : f_X7_in (Int32.toInt64 v) (0 : Int64) (127 : Int64) = some (zw v 0 127) := in_32 v 0 127
theorem wi_0_13 (v : Int32) : f_X6_isWithin v 0 13 = some (zw v 0 13) := within_g v 0 13
theorem in_0_13 (v : Int32) : f_X7_in (Int32.toInt64 v) (0 : Int64) (13 : Int64) = some (zw v 0 13) := in_32 v 0 13
theorem wi_0_2 (v : Int32) : f_X6_isWithin v 0 2 = some (zw v 0 2) := within_g v 0 2
theorem in_0_2 (v : Int32) : f_X7_in (Int32.toInt64 v) (0 : Int64) (2 : Int64) = some (zw v 0 2) := in_32 v 0 2
theorem wi_0_20 (v : Int32) : f_X6_isWithin v 0 20 = some (zw v 0 20) := within_g v 0 20
theorem in_0_20 (v : Int32) : f_X7_in (Int32.toInt64 v) (0 : Int64) (20 : Int64) = some (zw v 0 20) := in_32 v 0 20
theorem wi_0_3 (v : Int32) : f_X6_isWithin v 0 3 = some (zw v 0 3) := within_g v 0 3
theorem in_0_3 (v : Int32) : f_X7_in (Int32.toInt64 v) (0 : Int64) (3 : Int64) = some (zw v 0 3) := in_32 v 0 3
theorem wi_0_30 (v : Int32) : f_X6_isWithin v 0 30 = some (zw v 0 30) := within_g v 0 30
theorem in_0_30 (v : Int32) : f_X7_in (Int32.toInt64 v) (0 : Int64) (30 : Int64) = some (zw v 0 30) := in_32 v 0 30
theorem wi_0_5 (v : Int32) : f_X6_isWithin v 0 5 = some (zw v 0 5) := within_g v 0 5
theorem in_0_5 (v : Int32) : f_X7_in (Int32.toInt64 v) (0 : Int64) (5 : Int64) = some (zw v 0 5) := in_32 v 0 5
theorem wi_0_60 (v : Int32) : f_X6_isWithin v 0 60 = some (zw v 0 60) := within_g v 0 60
theorem in_0_60 (v : Int32) : f_X7_in (Int32.toInt64 v) (0 : Int64) (60 : Int64) = some (zw v 0 60) := in_32 v 0 60
theorem wi_0_8 (v : Int32) : f_X6_isWithin v 0 8 = some (zw v 0 8) := within_g v 0 8
theorem in_0_8 (v : Int32) : f_X7_in (Int32.toInt64 v) (0 : Int64) (8 : Int64) = some (zw v 0 8) := in_32 v 0 8
theorem wi_0_9 (v : Int32) : f_X6_isWithin v 0 9 = some (zw v 0 9) := within_g v 0 9
theorem in_0_9 (v : Int32) : f_X7_in (Int32.toInt64 v) (0 : Int64) (9 : Int64) = some (zw v 0 9) := in_32 v 0 9
theorem wi_0_99 (v : Int32) : f_X6_isWithin v 0 99 = some (zw v 0 99) := within_g v 0 99
theorem in_0_99 (v : Int32) : f_X7_in (Int32.toInt64 v) (0 : Int64) (99 : Int64) = some (zw v 0 99) := in_32 v 0 99
theorem wi_1_60 (v : Int32) : f_X6_isWithin v 1 60 = some (zw v 1 60) := within_g v 1 60
theorem in_1_60 (v : Int32) : f_X7_in (Int32.toInt64 v) (1 : Int64) (60 : Int64) = some (zw v 1 60) := in_32 v 1 60
theorem wi_1_9 (v : Int32) : f_X6_isWithin v 1 9 = some (zw v 1 9) := within_g v 1 9
theorem in_1_9 (v : Int32) : f_X7_in (Int32.toInt64 v) (1 : Int64) (9 : Int64) = some (zw v 1 9) := in_32 v 1 9
theorem in_48_57 (v : Int32) : f_X7_in (Int32.toInt64 v) (48 : Int64) (57 : Int64) = some (zw v 48 57) := in_32 v 48 57
theorem in_97_122 (v : Int32) : f_X7_in (Int32.toInt64 v) (97 : Int64) (122 : Int64) = some (zw v 97 122) := in_32 v 97 122
theorem zw_nat {v : Int32} {b : Int} (h : zw v 0 b = true) : ∃ k : Nat, (k : Int) ≤ b ∧ k < 2 ^ 31 ∧ v = Int32.ofNat k := by
  have h1 := of_decide_eq_true h
  have h2 := Int32.toInt_lt v
  refine ⟨v.toInt.toNat, by omega, by omega, ?_⟩
  apply Int32.toInt_inj.mp
  rw [o_toInt (by omega)]
  omega
theorem zw_natL {v : Int32} {a b : Int} (ha : 0 ≤ a) (h : zw v a b = true) : ∃ k : Nat, a ≤ k ∧ (k : Int) ≤ b ∧ k < 2 ^ 31 ∧ v = Int32.ofNat k := by
  have h1 := of_decide_eq_true h
  have h2 := Int32.toInt_lt v
  refine ⟨v.toInt.toNat, by omega, by omega, by omega, ?_⟩
  apply Int32.toInt_inj.mp
  rw [o_toInt (by omega)]
  omega
theorem has_g {v w : Int32} {n : Nat} (hw : w = Int32.ofNat n) (hn : n < 2 ^ 31) : (if v < 0 then some false else if w ≤ v then some false else some true) = some (zw v 0 ((n : Int) - 1)) := by
  subst hw
  unfold zw
  by_cases h1 : v < 0
  · rw [if_pos h1, decide_eq_false (by have := Int32.lt_iff_toInt_lt.mp h1; rw [show (0 : Int32).toInt = 0 from rfl] at this; omega)]
  · rw [if_neg h1]
    have h2 : ¬ v.toInt < 0 := fun q => h1 (Int32.lt_iff_toInt_lt.mpr q)
    by_cases h3 : Int32.ofNat n ≤ v
    · rw [if_pos h3, decide_eq_false (by have := Int32.le_iff_toInt_le.mp h3; rw [o_toInt hn] at this; omega)]
    · have h4 : ¬ (n : Int) ≤ v.toInt := fun q => h3 (Int32.le_iff_toInt_le.mpr (by rw [o_toInt hn]; exact q))
      rw [if_neg h3, decide_eq_true (by omega)]
theorem hasOne_eq {C : zM} {v : Int32} {P : Nat} (hP : C 0 0 = Int32.ofNat P) (h4 : P ≤ 4) : f_X0_hasOne C v = some (zw v 0 ((P : Int) - 1)) := has_g hP (by omega)
theorem hasBeetle_eq {C : zM} {v : Int32} {n : Nat} (hP : C 0 1 = Int32.ofNat n) (h6 : n ≤ 6) : f_X0_hasBeetle C v = some (zw v 0 ((n : Int) - 1)) := has_g hP (by omega)
theorem sub1_64 {n : Nat} (h : n ≤ 100) : (Int32.toInt64 (Int32.ofNat n - 1)).toInt = (n : Int) - 1 := by
  rw [Int32.toInt_toInt64, Int32.toInt_sub, o_toInt (by omega), show (1 : Int32).toInt = 1 from rfl]
  exact Int.bmod_eq_of_le (by omega) (by omega)
theorem isOne_eq {u : zM} {v : Int32} {P : Nat} (hP : u 0 3 = Int32.ofNat P) (h4 : P ≤ 4) : f_X7_isOne u v = some (zw v 0 ((P : Int) - 1)) := by
  unfold f_X7_isOne
  rw [hP, in_32, sub1_64 (by omega)]
  rfl
theorem zin34 : z_in 34 183 = true := by decide
theorem isBeetle_eq {u : zM} {v : Int32} {n : Nat} (hP : u 1 34 = Int32.ofNat n) (h6 : n ≤ 6) : f_X7_isBeetle u v = some (zw v 0 ((n : Int) - 1)) := by
  unfold f_X7_isBeetle
  rw [if_pos zin34, show (Int32.toNatClampNeg 34) = 34 from rfl, hP, in_32, sub1_64 (by omega)]
  rfl
/-- the state's parts that tell: what changes none of them keeps Rel -/
theorem rel_scr {S S' : Nat → zM} {u u' : zM} (h : Rel S u) (hS : ∀ i, 1 ≤ i → i ≤ 16 → i ≠ 2 → i ≠ 3 → i ≠ 5 → S' i = S i) (h0 : S' 0 0 9 = S 0 0 9) (h2 : S' 2 0 5 = S 2 0 5) (hu : ∀ j, (j = 1 ∨ j = 3 ∨ j = 5 ∨ j = 8 ∨ j = 9 ∨ j = 10) → u' j = u j) (hu0 : ∀ k, (k = 3 ∨ k = 9 ∨ k = 14 ∨ k = 27) → u' 0 k = u 0 k) : Rel S' u' := by
  obtain ⟨P, nb, d, m, hC, hd, hP, hN, hI, hT, hF, hH, hR⟩ := h
  refine ⟨P, nb, d, m, ?_, hd, ?_, ?_, ?_, ?_, ?_, ?_, ?_⟩
  · rw [hS 4 (by decide) (by decide) (by decide) (by decide) (by decide), hu 1 (by decide)]; exact hC
  · rw [hu0 3 (by decide)]; exact hP
  · rw [hS 6 (by decide) (by decide) (by decide) (by decide) (by decide), hu 1 (by decide)]; exact hN
  · intro k hk
    rw [hS (7 + k) (by omega) (by omega) (by omega) (by omega) (by omega), hS (9 + k) (by omega) (by omega) (by omega) (by omega) (by omega), hS (11 + k) (by omega) (by omega) (by omega) (by omega) (by omega), hu 3 (by decide), hu 1 (by decide)]; exact hI k hk
  · rw [hS 1 (by decide) (by decide) (by decide) (by decide) (by decide), hu0 9 (by decide), hu 5 (by decide)]; exact hT
  · rw [h2, hu0 14 (by decide)]; exact hF
  · intro k hk
    rw [hS (13 + k) (by omega) (by omega) (by omega) (by omega) (by omega), hu 8 (by decide), hu 9 (by decide), hu 10 (by decide)]; exact hH k hk
  · rw [h0, hu0 27 (by decide)]; exact hR
theorem api_fault {S : Nat → zM} {u : zM} (h : Rel S u) : ∃ (r : Int32), f_X6_fault S = some r ∧ f_X7_fault u = some r := by
  obtain ⟨P, nb, d, m, hC, hd, hP, hN, hI, hT, hF, hH, hR⟩ := h
  exact ⟨u 0 14, congrArg some hF, rfl⟩
theorem api_torn {S : Nat → zM} {u : zM} (h : Rel S u) : ∃ (r : Int32), f_X6_torn S = some r ∧ f_X7_torn u = some r := by
  obtain ⟨P, nb, d, m, hC, hd, hP, hN, hI, hT, hF, hH, hR⟩ := h
  exact ⟨u 0 27, congrArg some hR, rfl⟩
theorem api_wind {S : Nat → zM} {u : zM} (h : Rel S u) (a1 : Int32) : ∃ (r : Int32), f_X6_wind S a1 = some r ∧ f_X7_wind u a1 = some r := by
  obtain ⟨P, nb, d, m, hC, hd, hP, hN, hI, hT, hF, hH, hR⟩ := h
  unfold f_X6_wind f_X7_wind
  rw [wi_0_5, in_0_5]
  cases hz : zw a1 0 5 with
  | false => exact ⟨-1, rfl, rfl⟩
  | true =>
    obtain ⟨k, hk, -, rfl⟩ := zw_nat hz
    have hk6 : k < 6 := by omega
    simp only [Option.bind_some, ↓reduceIte]
    rw [if_pos (z_inN hk6 (by decide)), show (35 : Int32) + Int32.ofNat k = Int32.ofNat (35 + k) from o_add 35 k, if_pos (z_inN (by omega) (by decide)), o_cl (by omega), o_cl (by omega)]
    exact ⟨_, rfl, by rw [(hC.2.2.2.2.2.2.2.2.2.2 k hk6).1]⟩
theorem api_end {S : Nat → zM} {u : zM} (h : Rel S u) (a1 : Int32) : ∃ (r : Int32) (S' : Nat → zM) (u' : zM), f_X6_end S a1 = some (r, S') ∧ f_X7_end u a1 = some (r, u') ∧ Rel S' u' := by
  obtain ⟨P, nb, d, m, hC, hd, hP, hN, hI, ⟨t, ht, hT1, hT2, hT3⟩, hF, hH, hR⟩ := id h
  unfold f_X6_end f_X7_end
  rw [within_g, in_32, hT1, hT2, Int32.toInt_toInt64, o_toInt (by omega)]
  rw [show Int32.toInt 0 = 0 from rfl, show Int64.toInt 0 = 0 from rfl]
  cases hz : zw a1 0 (t : Int) with
  | false => exact ⟨-1, S, u, rfl, rfl, h⟩
  | true =>
    obtain ⟨k, hk, -, rfl⟩ := zw_nat hz
    have hkt : k ≤ t := by omega
    refine ⟨Int32.ofNat t, va_up S 1 (zU (S 1) 0 1 (Int32.ofNat k)), zU u 0 9 (Int32.ofNat k), rfl, rfl, P, nb, d, m, hC, hd, hP, hN, ?_, ⟨k, by omega, rfl, rfl, fun i hi => hT3 i (by omega)⟩, hF, ?_, hR⟩
    · intro j hj
      rw [va_up_neq _ _ (show 7 + j ≠ 1 by omega), va_up_neq _ _ (show 9 + j ≠ 1 by omega), va_up_neq _ _ (show 11 + j ≠ 1 by omega)]
      exact hI j hj
    · intro j hj
      rw [va_up_neq _ _ (show 13 + j ≠ 1 by omega)]
      exact hH j hj
theorem o_ne {a b : Nat} (h : a ≠ b) (ha : a < 2 ^ 31) (hb : b < 2 ^ 31) : ¬ Int32.ofNat a = Int32.ofNat b := fun q => h ((o_eq ha hb).mp q)
theorem nar_byte {k : Nat} (h : k < 128) : vp_nar .byte (Int8.toInt32 (Int32.toInt8 (Int32.ofNat k))) = Int32.ofNat k := by
  have key : ∀ k : Nat, k < 128 → vp_nar .byte (Int8.toInt32 (Int32.toInt8 (Int32.ofNat k))) = Int32.ofNat k := by decide +kernel
  exact key k h
theorem api_feed {S : Nat → zM} {u : zM} (h : Rel S u) (a1 : Int32) : ∃ (r : Int32) (S' : Nat → zM) (u' : zM), f_X6_feed S a1 = some (r, S') ∧ f_X7_feed u a1 = some (r, u') ∧ Rel S' u' := by
  obtain ⟨P, nb, d, m, hC, hd, hP, hN, hI, ⟨t, ht, hT1, hT2, hT3⟩, hF, hH, hR⟩ := id h
  unfold f_X6_feed f_X7_feed f_X4_append
  rw [wi_0_127, in_0_127]
  cases hz : zw a1 0 127 with
  | false => exact ⟨-1, S, u, rfl, rfl, h⟩
  | true =>
    obtain ⟨k, hk, -, rfl⟩ := zw_nat hz
    simp only [Option.bind_some, ↓reduceIte]
    rw [hT1, hT2]
    rcases Nat.lt_or_ge t 160 with h160 | h160
    · rw [if_pos (show Int32.ofNat t < 160 from ((o_lt (by omega) (by decide)).mpr h160 : Int32.ofNat t < Int32.ofNat 160)), if_pos (z_inN h160 (by decide)), if_neg (show ¬ Int32.ofNat t = 160 from (o_ne (b := 160) (by omega) (by omega) (by decide))), if_pos (z_inN h160 (by decide)), o_cl (by omega), nar_byte (by omega)]
      refine ⟨Int32.ofNat (t + 1), va_up S 1 (zU (zU (S 1) 1 t (Int32.ofNat k)) 0 1 (Int32.ofNat (t + 1))), zU (zU u 5 t (Int32.ofNat k)) 0 9 (Int32.ofNat (t + 1)), ?_, ?_, P, nb, d, m, hC, hd, hP, hN, ?_, ⟨t + 1, by omega, rfl, rfl, ?_⟩, hF, ?_, hR⟩
      · simp only [zlet_eq, Option.bind_some, ↓reduceIte]
        rw [zU_ne (S 1) t _ (show 0 ≠ 1 by decide), hT1, o_1]
        rfl
      · simp only [zlet_eq]
        rw [zU_ne u t _ (show 0 ≠ 5 by decide), hT2, o_1]
        rfl
      · intro j hj
        rw [va_up_neq _ _ (show 7 + j ≠ 1 by omega), va_up_neq _ _ (show 9 + j ≠ 1 by omega), va_up_neq _ _ (show 11 + j ≠ 1 by omega)]
        exact hI j hj
      · intro i hi
        show upd (S 1 1) t (Int32.ofNat k) i = upd (u 5) t (Int32.ofNat k) i ∧ zr (upd (u 5) t (Int32.ofNat k) i) 128
        unfold upd
        by_cases hit : i = t
        · rw [if_pos hit, if_pos hit]; exact ⟨rfl, k, by omega, rfl⟩
        · rw [if_neg hit, if_neg hit]; exact hT3 i (by omega)
      · intro j hj
        rw [va_up_neq _ _ (show 13 + j ≠ 1 by omega)]
        exact hH j hj
    · have h160 : t = 160 := by omega
      subst h160
      refine ⟨-3, va_up S 1 (S 1), u, ?_, rfl, rel_scr h ?_ rfl rfl (fun _ _ => rfl) (fun _ _ => rfl)⟩
      · rfl
      · intro i _ _ _ _ _
        unfold va_up
        by_cases hi : i = 1
        · rw [if_pos hi, hi]
        · rw [if_neg hi]
