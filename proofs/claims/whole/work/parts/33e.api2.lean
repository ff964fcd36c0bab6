theorem rel_sh {S : Nat → zM} {u : zM} (h : Rel S u) {k : Nat} (hk : k < 4) {H' : zM} {u' : zM} (hu : ∀ j, j ≠ 8 → j ≠ 9 → j ≠ 10 → u' j = u j) (h8 : ∀ j, j ≠ k → u' 8 j = u 8 j) (h9 : ∀ j, j ≠ k → u' 9 j = u 9 j)
    (h10 : ∀ j, ¬ (40 * k ≤ j ∧ j < 40 * k + 40) → u' 10 j = u 10 j) (hs : ShR H' (u' 8 k) (u' 9 k) (fun i => u' 10 (40 * k + i))) : Rel (va_up S (13 + k) H') u' := by
  obtain ⟨P, nb, d, m, hC, hd, hP, hN, hI, hT, hF, hH, hR⟩ := h
  refine ⟨P, nb, d, m, ?_, hd, ?_, ?_, ?_, ?_, ?_, ?_, ?_⟩
  · rw [va_up_neq _ _ (show 4 ≠ 13 + k by omega), hu 1 (by decide) (by decide) (by decide)]; exact hC
  · rw [hu 0 (by decide) (by decide) (by decide)]; exact hP
  · rw [va_up_neq _ _ (show 6 ≠ 13 + k by omega), hu 1 (by decide) (by decide) (by decide)]; exact hN
  · intro j hj
    rw [va_up_neq _ _ (show 7 + j ≠ 13 + k by omega), va_up_neq _ _ (show 9 + j ≠ 13 + k by omega), va_up_neq _ _ (show 11 + j ≠ 13 + k by omega), hu 3 (by decide) (by decide) (by decide), hu 1 (by decide) (by decide) (by decide)]
    exact hI j hj
  · rw [va_up_neq _ _ (show 1 ≠ 13 + k by omega), hu 0 (by decide) (by decide) (by decide), hu 5 (by decide) (by decide) (by decide)]; exact hT
  · rw [va_up_neq _ _ (show 2 ≠ 13 + k by omega), hu 0 (by decide) (by decide) (by decide)]; exact hF
  · intro j hj
    by_cases hq : j = k
    · subst hq; rw [va_up_eq]; exact hs
    · rw [va_up_neq _ _ (show 13 + j ≠ 13 + k by omega), h8 j hq, h9 j hq]
      rcases hH j hj with q | ⟨n, q1, q2, q3, q4, q5, q6⟩
      · exact Or.inl q
      · refine Or.inr ⟨n, q1, q2, q3, q4, q5, fun i hi => ?_⟩
        show S (13 + j) 1 i = u' 10 (40 * j + i)
        rw [h10 _ (by omega)]
        exact q6 i hi
  · rw [va_up_neq _ _ (show 0 ≠ 13 + k by omega), hu 0 (by decide) (by decide) (by decide)]; exact hR
theorem isSheet_eq (a b : Int32) : f_X7_isSheet a b = some (zw a 0 3 && zw b 0 2) := by
  unfold f_X7_isSheet
  rw [in_0_3, in_0_2]
  cases zw a 0 3 <;> cases zw b 0 2 <;> rfl
theorem at_c (k i : Nat) : (40 * Int32.ofNat k) + Int32.ofNat i = Int32.ofNat (40 * k + i) := by
  rw [show (40 : Int32) * Int32.ofNat k = Int32.ofNat (40 * k) from o_mul 40 k, o_add]
theorem sheet_loop (t : Nat) : ∀ (n i k : Nat) (u : zM), k < 4 → i + t = 40 → t < n → f_X7_sheet_40 n u (Int32.ofNat k) (Int32.ofNat i) = some (1, rowF u 10 (40 * k + i) (40 * k + 40) (fun _ => 0)) := by
  induction t with
  | zero =>
    intro n i k u hk hi hn
    obtain ⟨n, rfl⟩ : ∃ m, n = m + 1 := ⟨n - 1, by omega⟩
    have hi : i = 40 := by omega
    subst hi
    rw [f_X7_sheet_40, if_pos (show (40 : Int32) ≤ Int32.ofNat 40 from by decide), rowF_nil (by omega)]
  | succ t ih =>
    intro n i k u hk hi hn
    obtain ⟨n, rfl⟩ : ∃ m, n = m + 1 := ⟨n - 1, by omega⟩
    rw [f_X7_sheet_40, if_neg (show ¬ (40 : Int32) ≤ Int32.ofNat i from fun q => absurd ((o_le (a := 40) (by decide) (by omega)).mp q) (by omega)), at_c, if_pos (z_inN (by omega) (by decide)), zlet_eq, o_cl (by omega)]
    rw [o_1, ih n (i + 1) k _ hk (by omega) (by omega), show 40 * k + (i + 1) = (40 * k + i) + 1 by omega, rowF_step (g := fun _ => 0) (by omega)]
theorem fill_L {n : Nat} (hn : n < 2 ^ 31) (x : Int32) (t : Nat) : ∀ (m i : Nat) (f : Nat → Int32), i + t = n → t < m → f_fill_L n x m f (Int32.ofNat i) = some (fun k => if i ≤ k ∧ k < n then x else f k) := by
  induction t with
  | zero =>
    intro m i f hi hm
    obtain ⟨m, rfl⟩ : ∃ q, m = q + 1 := ⟨m - 1, by omega⟩
    have hi : i = n := by omega
    subst hi
    rw [f_fill_L, if_pos ((o_le hn hn).mpr (Nat.le_refl _))]
    exact congrArg some (funext fun k => (if_neg (by omega)).symm)
  | succ t ih =>
    intro m i f hi hm
    obtain ⟨m, rfl⟩ : ∃ q, m = q + 1 := ⟨m - 1, by omega⟩
    rw [f_fill_L, if_neg (fun q => absurd ((o_le hn (by omega)).mp q) (by omega)), if_pos (z_inN (by omega) hn), zlet_eq, o_cl (by omega), o_1, ih m (i + 1) _ (by omega) (by omega)]
    refine congrArg some (funext fun k => ?_)
    unfold upd
    by_cases hk : k = i
    · subst hk
      rw [if_neg (by omega), if_pos rfl, if_pos (by omega)]
    · rw [if_neg hk]
      by_cases hc : i + 1 ≤ k ∧ k < n
      · rw [if_pos hc, if_pos (by omega)]
      · rw [if_neg hc, if_neg (by omega)]
theorem fill_eq {n : Nat} (hn : n < 2 ^ 31) (f : Nat → Int32) (x : Int32) : f_fill n f x = some (fun k => if k < n then x else f k) := by
  unfold f_fill
  rw [show (0 : Int32) = Int32.ofNat 0 from rfl, fill_L hn x n FU 0 f (by omega) (FU_pos (by omega))]
  exact congrArg some (funext fun k => by simp only [Nat.zero_le, true_and])
theorem api_sheet {S : Nat → zM} {u : zM} (h : Rel S u) (a1 : Int32) (a2 : Int32) (a3 : Int32) : ∃ (r : Int32) (S' : Nat → zM) (u' : zM), f_X6_sheet S a1 a2 a3 = some (r, S') ∧ f_X7_sheet u a1 a2 a3 = some (r, u') ∧ Rel S' u' := by
  unfold f_X6_sheet f_X7_sheet f_X3_renew
  rw [isSheet_eq, wi_0_3, wi_0_2]
  cases hz : zw a1 0 3 with
  | false => exact ⟨-1, S, u, rfl, rfl, h⟩
  | true =>
    obtain ⟨k, hk, -, rfl⟩ := zw_nat hz
    cases hy : zw a2 0 2 with
    | false => exact ⟨-1, S, u, rfl, rfl, h⟩
    | true =>
      obtain ⟨la, hla, -, rfl⟩ := zw_nat hy
      simp only [Option.bind_some, ↓reduceIte, zlet_eq, Bool.and_self]
      by_cases h40 : a3 ≤ 40
      · by_cases h0 : 0 ≤ a3
        · have hx : zw a3 0 40 = true := decide_eq_true ⟨Int32.le_iff_toInt_le.mp h0, Int32.le_iff_toInt_le.mp h40⟩
          obtain ⟨n, hn, -, rfl⟩ := zw_nat hx
          have hk4 : k < 4 := by omega
          simp only [if_pos h40, if_pos h0, if_pos (z_inN hk4 (by decide)), fill_eq (show 40 < 2 ^ 31 by decide), Option.bind_some, o_cl (show k < 2 ^ 31 by omega)]
          rw [show f_X7_sheet_40 FU (zU (zU u 8 k (Int32.ofNat la)) 9 k (Int32.ofNat n)) (Int32.ofNat k) 0 = _ from sheet_loop 40 FU 0 k _ hk4 rfl (FU_pos (by decide))]
          refine ⟨1, _, _, rfl, rfl, rel_sh h hk4 ?_ ?_ ?_ ?_ ?_⟩
          · intro j h8 h9 h10
            rw [rowF_ne _ _ _ _ h10, zU_ne _ _ _ h9, zU_ne _ _ _ h8]
          · intro j hj
            rw [rowF_ne _ _ _ _ (by decide), zU_ne _ _ _ (by decide), zu_j _ _ _ _ hj]
          · intro j hj
            rw [rowF_ne _ _ _ _ (by decide), zu_j _ _ _ _ hj, zU_ne _ _ _ (by decide)]
          · intro j hj
            rw [rowF_row, if_neg (by omega), zU_ne _ _ _ (by decide), zU_ne _ _ _ (by decide)]
          · refine Or.inr ⟨n, by omega, ?_, ?_, ?_, ?_, ?_⟩
            · rw [va_up_neq _ _ (by decide), zu_eq]
            · rw [rowF_ne _ _ _ _ (by decide), zu_eq]
            · rw [va_up_neq _ _ (by decide), zu_j _ _ _ _ (by decide), zu_eq, rowF_ne _ _ _ _ (by decide), zU_ne _ _ _ (by decide), zu_eq]
            · rw [rowF_ne _ _ _ _ (by decide), zU_ne _ _ _ (by decide), zu_eq]
              exact ⟨la, by omega, rfl⟩
            · intro i hi
              rw [va_up_eq]
              show (if i < 40 then (0 : Int32) else _) = _
              rw [if_pos hi]
              show (0 : Int32) = rowF _ 10 (40 * k + 0) (40 * k + 40) (fun _ => 0) 10 (40 * k + i)
              rw [rowF_row, if_pos (by omega)]
        · rw [if_pos h40, if_neg h0, if_pos h40, if_neg h0]
          exact ⟨-14, S, u, rfl, rfl, h⟩
      · rw [if_neg h40, if_neg h40]
        exact ⟨-1, S, u, rfl, rfl, h⟩
