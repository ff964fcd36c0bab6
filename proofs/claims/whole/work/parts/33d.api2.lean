theorem canBe_0 (u : zM) (v : Int32) : f_X7_canBe u 0 v = some (zw v 0 3) := by
  unfold f_X7_canBe
  rw [if_pos rfl, in_0_3]; rfl
theorem canBe_1 (u : zM) (v : Int32) : f_X7_canBe u 1 v = some (zw v 1 9) := by
  unfold f_X7_canBe
  rw [if_neg (show ¬ (1 : Int32) = 0 by decide), if_pos rfl, in_1_9]; rfl
theorem canBe_2 {u : zM} {P : Nat} (hP : u 0 3 = Int32.ofNat P) (h4 : P ≤ 4) (v : Int32) : f_X7_canBe u 2 v = some (zw v 0 ((P : Int) - 1)) := by
  unfold f_X7_canBe
  rw [if_neg (show ¬ (2 : Int32) = 0 by decide), if_neg (show ¬ (2 : Int32) = 1 by decide), if_pos rfl, isOne_eq hP h4]
  cases zw v 0 ((P : Int) - 1) <;> rfl
theorem cr_add {P nb d : Nat} {C : zM} {v : Nat → Int32} (h : CR P nb d C v) (hn : nb < 6) {a b : Int32} {k o : Nat} (ha : zr a 4) (hk : 1 ≤ k) (hk9 : k < 10) (ho : o < P) (hb : b = Int32.ofNat k) {y : Int32} :
    CR P (nb + 1) d (zU (zU (zU (zU (zU (zU (zU C 2 nb a) 3 nb b) 4 nb (Int32.ofNat o)) 5 nb (-4)) 6 nb y) 0 1 (Int32.ofNat (nb + 1))) 5 nb (Int32.ofNat o))
      (upd (upd (upd (upd (upd (upd v (4 + 5 * nb) a) (5 + 5 * nb) b) (6 + 5 * nb) (Int32.ofNat o)) (7 + 5 * nb) 0) (8 + 5 * nb) (Int32.ofNat o)) 34 (Int32.ofNat (nb + 1))) := by
  obtain ⟨hP, hnb, hpos, h0, h1, h2, h3, h4, hp, hB, hw⟩ := h
  refine ⟨hP, by omega, by omega, ?_, ?_, ?_, ?_, ?_, ?_, ?_, ?_⟩
  · simp (disch := omega) only [zU_ne, zu_j]; exact h0
  · simp (disch := omega) only [zU_ne, zu_eq]
  · simp (disch := omega) only [up_eq]
  · simp (disch := omega) only [zU_ne, zu_j]; exact h3
  · simp (disch := omega) only [up_ne]; exact h4
  · intro p hpp
    simp (disch := omega) only [zU_ne, up_ne]
    exact hp p hpp
  · intro i hi
    by_cases hq : i = nb
    · subst hq
      simp (disch := omega) only [zU_ne, zu_eq, up_eq, up_ne, true_and]
      exact ⟨ha, ⟨k, hk, hk9, hb⟩, ⟨o, ho, rfl⟩, Or.inr ⟨o, ho, rfl⟩⟩
    · have q1 := hB i (by omega)
      simp (disch := omega) only [zU_ne, zu_j, up_ne]
      exact q1
  · intro j hj
    simp (disch := omega) only [zU_ne, up_ne]
    exact hw j hj
theorem api_dab {S : Nat → zM} {u : zM} (h : Rel S u) (a1 : Int32) (a2 : Int32) (a3 : Int32) : ∃ (r : Int32) (S' : Nat → zM) (u' : zM), f_X6_dab S a1 a2 a3 = some (r, S') ∧ f_X7_dab u a1 a2 a3 = some (r, u') ∧ Rel S' u' := by
  obtain ⟨P, nb, d, m, hC, hd, hP, hN, hI, hT, hF, hH, hR⟩ := id h
  have hP4 := hC.1
  have hn6 := hC.2.1
  have hr : Rel (va_up S 4 (S 4)) u := by rw [va_self]; exact h
  unfold f_X6_dab f_X7_dab f_X0_takeDabbed f_X6_isKind f_X0_addBeetle f_X0_hasRoomForBeetle
  rw [canBe_0, canBe_1, canBe_2 hP hP4, wi_0_3, wi_1_9, hasOne_eq hC.2.2.2.1 hC.1]
  cases hz : zw a1 0 3 with
  | false => exact ⟨-1, _, u, rfl, rfl, hr⟩
  | true =>
    obtain ⟨a, hka, -, rfl⟩ := zw_nat hz
    cases hy : zw a2 1 9 with
    | false => exact ⟨-1, _, u, rfl, rfl, hr⟩
    | true =>
      obtain ⟨k, hk1, hk, -, rfl⟩ := zw_natL (by decide) hy
      cases hx : zw a3 0 ((P : Int) - 1) with
      | false => exact ⟨-1, _, u, rfl, rfl, hr⟩
      | true =>
        obtain ⟨o, ho, -, rfl⟩ := zw_nat hx
        simp only [Option.bind_some, ↓reduceIte, zlet_eq]
        rw [if_pos (show z_in 34 183 = true by decide), show Int32.toNatClampNeg 34 = 34 from rfl, hC.2.2.2.2.1, hC.2.2.2.2.2.1]
        rcases Nat.lt_or_ge nb 6 with h6 | h6
        · rw [if_neg (show ¬ (6 : Int32) ≤ Int32.ofNat nb from (fun q => absurd ((o_le (a := 6) (by decide) (by omega)).mp q) (by omega))), if_neg (show ¬ Int32.ofNat nb = 6 from o_ne (b := 6) (by omega) (by omega) (by decide))]
          rw [show 4 + 5 * Int32.ofNat nb + 0 = Int32.ofNat (4 + 5 * nb) from at_b nb 0, show 4 + 5 * Int32.ofNat nb + 1 = Int32.ofNat (5 + 5 * nb) from (at_b nb 1).trans (congrArg Int32.ofNat (by omega)), show 4 + 5 * Int32.ofNat nb + 2 = Int32.ofNat (6 + 5 * nb) from (at_b nb 2).trans (congrArg Int32.ofNat (by omega)), show 4 + 5 * Int32.ofNat nb + 3 = Int32.ofNat (7 + 5 * nb) from (at_b nb 3).trans (congrArg Int32.ofNat (by omega)), show 4 + 5 * Int32.ofNat nb + 4 = Int32.ofNat (8 + 5 * nb) from (at_b nb 4).trans (congrArg Int32.ofNat (by omega))]
          have j : z_in 34 183 = true := by decide
          have hi : z_in (Int32.ofNat nb) 6 = true := z_inN h6 (by decide)
          have hi4 : z_in (Int32.ofNat o) 4 = true := z_inN (by omega) (by decide)
          have i1 : z_in (Int32.ofNat (4 + 5 * nb)) 183 = true := z_inN (by omega) (by decide)
          have i2 : z_in (Int32.ofNat (5 + 5 * nb)) 183 = true := z_inN (by omega) (by decide)
          have i3 : z_in (Int32.ofNat (6 + 5 * nb)) 183 = true := z_inN (by omega) (by decide)
          have i4 : z_in (Int32.ofNat (7 + 5 * nb)) 183 = true := z_inN (by omega) (by decide)
          have i5 : z_in (Int32.ofNat (8 + 5 * nb)) 183 = true := z_inN (by omega) (by decide)
          have c0 : (Int32.ofNat nb).toNatClampNeg = nb := o_cl (by omega)
          have c1 : (Int32.ofNat (4 + 5 * nb)).toNatClampNeg = 4 + 5 * nb := o_cl (by omega)
          have c2 : (Int32.ofNat (5 + 5 * nb)).toNatClampNeg = 5 + 5 * nb := o_cl (by omega)
          have c3 : (Int32.ofNat (6 + 5 * nb)).toNatClampNeg = 6 + 5 * nb := o_cl (by omega)
          have c4 : (Int32.ofNat (7 + 5 * nb)).toNatClampNeg = 7 + 5 * nb := o_cl (by omega)
          have c5 : (Int32.ofNat (8 + 5 * nb)).toNatClampNeg = 8 + 5 * nb := o_cl (by omega)
          have hb1 : S 4 0 1 = Int32.ofNat nb := hC.2.2.2.2.1
          have hb2 : u 1 34 = Int32.ofNat nb := hC.2.2.2.2.2.1
          simp (disch := omega) only [zU_ne, hb1, hi, hi4, i1, i2, i3, i4, i5, j, c0, c1, c2, c3, c4, c5, ↓reduceIte, Option.bind_some, zu_eq, o_1]
          simp (disch := omega) only [zu_j, hb2, o_1, zU_ne, zu_eq, hb1]
          refine ⟨Int32.ofNat (nb + 1), _, _, rfl, rfl, ?_⟩
          rw [zU_va u 1, zU_zU, zU_zU, zU_zU, zU_zU, zU_zU]
          refine rel_now h (fun P' nb' d' hC' hd' hP' => ⟨nb + 1, d', hd', ?_⟩) (fun j hj => by rw [up_ne _ _ _ (by omega), up_ne _ _ _ (by omega), up_ne _ _ _ (by omega), up_ne _ _ _ (by omega), up_ne _ _ _ (by omega), up_ne _ _ _ (by omega)])
          have e := same_n hC hC'
          subst e
          have e := same_P hP hP' hP4 hC'.1
          subst e
          exact cr_add hC' h6 ⟨a, by omega, rfl⟩ (by omega) (by omega) (by omega) rfl
        · have h6 : nb = 6 := by omega
          subst h6
          exact ⟨-3, _, u, rfl, rfl, hr⟩
