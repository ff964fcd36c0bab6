theorem va_self {α : Type} (f : Nat → α) (k : Nat) : va_up f k (f k) = f := by
  funext i
  by_cases hi : i = k
  · subst hi; rw [va_up_eq]
  · rw [va_up_neq _ _ hi]
theorem zU_va (u : zM) (j k : Nat) (x : Int32) : zU u j k x = va_up u j (upd (u j) k x) := rfl
theorem va_va (u : zM) (j : Nat) (v w : Nat → Int32) : va_up (va_up u j v) j w = va_up u j w := by
  funext i
  by_cases hi : i = j
  · subst hi; rw [va_up_eq, va_up_eq]
  · rw [va_up_neq _ _ hi, va_up_neq _ _ hi, va_up_neq _ _ hi]
theorem zU_zU (u : zM) (j k : Nat) (x : Int32) (v : Nat → Int32) : zU (va_up u j v) j k x = va_up u j (upd v k x) := by
  rw [zU_va, va_va, va_up_eq]
theorem at_s (b w : Nat) : (43 + (3 * Int32.ofNat b)) + Int32.ofNat w = Int32.ofNat (43 + 3 * b + w) := by
  rw [show (3 : Int32) * Int32.ofNat b = Int32.ofNat (3 * b) from o_mul 3 b, show (43 : Int32) + Int32.ofNat (3 * b) = Int32.ofNat (43 + 3 * b) from o_add 43 (3 * b), o_add]
theorem snr_add {P m : Nat} {N : zM} {v : Nat → Int32} (h : SNR P m N v) (hm : m < 6) {a b c : Int32} (ha : zr a 21) (hb : zr b P) :
    SNR P (m + 1) (zU (zU (zU (zU N 1 m a) 2 m b) 3 m c) 0 0 (Int32.ofNat (m + 1))) (upd (upd (upd (upd v (43 + 3 * m) a) (44 + 3 * m) b) (45 + 3 * m) c) 42 (Int32.ofNat (m + 1))) := by
  obtain ⟨h6, h0, h1, h2⟩ := h
  refine ⟨by omega, zu_eq _ _ _ _, up_eq _ _ _, fun i hi => ?_⟩
  by_cases hq : i = m
  · subst hq
    simp (disch := omega) only [zU_ne, zu_eq, up_eq, up_ne, true_and]
    exact ⟨ha, hb, trivial⟩
  · have q1 := h2 i (by omega)
    simp (disch := omega) only [zU_ne, zu_j, up_ne]
    exact q1
theorem api_see {S : Nat → zM} {u : zM} (h : Rel S u) (a1 : Int32) (a2 : Int32) (a3 : Int32) : ∃ (r : Int32) (S' : Nat → zM) (u' : zM), f_X6_see S a1 a2 a3 = some (r, S') ∧ f_X7_see u a1 a2 a3 = some (r, u') ∧ Rel S' u' := by
  obtain ⟨P, nb, d, m, hC, hd, hP, hN, hI, hT, hF, hH, hR⟩ := id h
  obtain ⟨hm, hN0, hN1, hN2⟩ := id hN
  have hP4 := hC.1
  unfold f_X6_see f_X7_see f_X2_append
  rw [wi_0_20, in_0_20, hasOne_eq hC.2.2.2.1 hC.1, isOne_eq hP hC.1, wi_0_99, in_0_99]
  cases hz : zw a1 0 20 with
  | false => exact ⟨-1, S, u, rfl, rfl, h⟩
  | true =>
    obtain ⟨a, hka, -, rfl⟩ := zw_nat hz
    cases hy : zw a2 0 ((P : Int) - 1) with
    | false => exact ⟨-1, S, u, rfl, rfl, h⟩
    | true =>
      obtain ⟨b, hkb, -, rfl⟩ := zw_nat hy
      cases hx : zw a3 0 99 with
      | false => exact ⟨-1, S, u, rfl, rfl, h⟩
      | true =>
        simp only [Option.bind_some, ↓reduceIte, zlet_eq]
        rw [hN0, if_pos (show z_in 42 183 = true by decide), if_pos (show z_in 42 183 = true by decide), show Int32.toNatClampNeg 42 = 42 from rfl, hN1]
        rcases Nat.lt_or_ge m 6 with h6 | h6
        · rw [if_pos (show Int32.ofNat m < 6 from ((o_lt (by omega) (by decide)).mpr h6 : Int32.ofNat m < Int32.ofNat 6)), if_neg (show ¬ Int32.ofNat m = 6 from o_ne (b := 6) (by omega) (by omega) (by decide))]
          rw [show 43 + 3 * Int32.ofNat m + 1 = Int32.ofNat (44 + 3 * m) from (at_s m 1).trans (congrArg Int32.ofNat (by omega)), show 43 + 3 * Int32.ofNat m + 2 = Int32.ofNat (45 + 3 * m) from (at_s m 2).trans (congrArg Int32.ofNat (by omega)), show (43 : Int32) + 3 * Int32.ofNat m = Int32.ofNat (43 + 3 * m) from (by rw [show (3 : Int32) * Int32.ofNat m = Int32.ofNat (3 * m) from o_mul 3 m]; exact o_add 43 (3 * m))]
          have hi : z_in (Int32.ofNat m) 6 = true := z_inN h6 (by decide)
          have i1 : z_in (Int32.ofNat (43 + 3 * m)) 183 = true := z_inN (by omega) (by decide)
          have i2 : z_in (Int32.ofNat (44 + 3 * m)) 183 = true := z_inN (by omega) (by decide)
          have i3 : z_in (Int32.ofNat (45 + 3 * m)) 183 = true := z_inN (by omega) (by decide)
          have c0 : (Int32.ofNat m).toNatClampNeg = m := o_cl (by omega)
          have c1 : (Int32.ofNat (43 + 3 * m)).toNatClampNeg = 43 + 3 * m := o_cl (by omega)
          have c2 : (Int32.ofNat (44 + 3 * m)).toNatClampNeg = 44 + 3 * m := o_cl (by omega)
          have c3 : (Int32.ofNat (45 + 3 * m)).toNatClampNeg = 45 + 3 * m := o_cl (by omega)
          simp (disch := omega) only [zU_ne, hN0, hi, i1, i2, i3, c0, c1, c2, c3, ↓reduceIte, Option.bind_some, va_up_eq, zu_eq, o_1]
          simp (disch := omega) only [zu_j, hN1, o_1]
          refine ⟨Int32.ofNat (m + 1), _, _, rfl, rfl, ?_⟩
          rw [zU_va u 1, zU_zU, zU_zU, zU_zU]
          refine rel_sn h (fun P' m' hP4 hm' hP' => ⟨m + 1, ?_⟩) (fun j hj => by rw [up_ne _ _ _ (by omega), up_ne _ _ _ (by omega), up_ne _ _ _ (by omega), up_ne _ _ _ (by omega)])
          have e := same_P hP hP' hC.1 hP4
          subst e
          exact snr_add hN h6 ⟨a, by omega, rfl⟩ ⟨b, by omega, rfl⟩
        · have h6 : m = 6 := by omega
          subst h6
          refine ⟨-3, va_up S 6 (S 6), u, rfl, rfl, ?_⟩
          rw [va_self]
          exact h
