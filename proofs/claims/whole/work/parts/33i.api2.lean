theorem api_back {S : Nat → zM} {u : zM} (h : Rel S u) (a1 : Int32) : ∃ (r : Int32) (S' : Nat → zM) (u' : zM), f_X6_back S a1 = some (r, S') ∧ f_X7_back u a1 = some (r, u') ∧ Rel S' u' := by
  obtain ⟨P, nb, d, m, hC, hd, hP, hN, hI, hT, hF, hH, hR⟩ := id h
  unfold f_X6_back f_X7_back
  rw [wi_0_1, in_0_1]
  cases hz : zw a1 0 1 with
  | false => exact ⟨-1, S, u, rfl, rfl, h⟩
  | true =>
    obtain ⟨k, hk, -, rfl⟩ := zw_nat hz
    have hk2 : k < 2 := by omega
    have ek : (61 : Int32) * (Int32.ofNat k + 1) = Int32.ofNat (61 * (k + 1)) := by rw [o_1]; exact o_mul 61 (k + 1)
    simp only [Option.bind_some, ↓reduceIte, if_pos (z_inN hk2 (by decide)), o_cl (show k < 2 ^ 31 by omega), zlet_eq, ek]
    rw [(hI k hk2).1]
    rcases (hI k hk2).2 with h0 | ⟨h1, nb', d', m', hd', hC2, hN2⟩
    · rw [if_pos h0, if_pos h0]
      exact ⟨-2, S, u, rfl, rfl, h⟩
    · have h0 : ¬ u 3 k = 0 := by rw [h1]; decide
      obtain ⟨C', eC, cC⟩ := copy_C (S (9 + k)) (S 4)
      obtain ⟨N', eN, cN⟩ := copy_N (S (11 + k)) (S 6)
      rw [if_neg h0, if_neg h0, eC, show f_X7_copies u 0 (Int32.ofNat (61 * (k + 1))) = _ from copies_eq (a := 0) (by omega) (by omega) (by omega)]
      simp only [Option.bind_some]
      rw [va_up_neq S C' (show 11 + k ≠ 4 by omega), va_up_neq S C' (show 6 ≠ 4 by decide), eN]
      simp only [Option.bind_some]
      rw [if_pos (show z_in 41 183 = true by decide), show Int32.toNatClampNeg 41 = 41 from rfl]
      have r1 : ∀ j, 61 ≤ j → rowF u 1 0 (0 + 61) (fun j => u 1 (61 * (k + 1) + (j - 0))) 1 j = u 1 j := by
        intro j hj
        rw [rowF_row, if_neg (by omega)]
      have r2 : ∀ j, j < 61 → rowF u 1 0 (0 + 61) (fun j => u 1 (61 * (k + 1) + (j - 0))) 1 j = u 1 (61 * (k + 1) + j) := by
        intro j hj
        rw [rowF_row, if_pos (by omega), show j - 0 = j from rfl]
      have rn : ∀ i, i ≠ 1 → rowF u 1 0 (0 + 61) (fun j => u 1 (61 * (k + 1) + (j - 0))) i = u i := by
        intro i h1
        rw [rowF_ne _ _ _ _ h1]
      generalize rowF u 1 0 (0 + 61) (fun j => u 1 (61 * (k + 1) + (j - 0))) = w at r1 r2 rn ⊢
      have sx : ∀ i, i ≠ 4 → i ≠ 6 → va_up (va_up S 4 C') 6 N' i = S i := by
        intro i h4 h6
        rw [va_up_neq _ _ h6, va_up_neq _ _ h4]
      have c4 : va_up (va_up S 4 C') 6 N' 4 = C' := by rw [va_up_neq _ _ (by decide), va_up_eq]
      have cD : CR P nb' d' C' (w 1) := cr_cong (cr_copy hC2 cC) (fun i hi => r2 i (by omega))
      refine ⟨w 1 41, va_up (va_up S 4 C') 6 N', w, ?_, rfl, P, nb', d', m', ?_, hd', ?_, ?_, ?_, ?_, ?_, ?_, ?_⟩
      · rw [c4, cD.2.2.2.2.2.2.1, cD.2.2.2.2.2.2.2.1]
      · rw [c4]; exact cD
      · rw [rn 0 (by decide)]; exact hP
      · rw [va_up_eq]
        exact snr_cong (snr_copy hN2 cN) (fun i hi => r2 i hi)
      · intro j hj
        rw [sx (7 + j) (by omega) (by omega), sx (9 + j) (by omega) (by omega), sx (11 + j) (by omega) (by omega), rn 3 (by decide)]
        exact imr_cong (hI j hj) (fun i hi => r1 _ (by omega))
      · rw [sx 1 (by omega) (by omega), rn 0 (by decide), rn 5 (by decide)]; exact hT
      · rw [sx 2 (by omega) (by omega), rn 0 (by decide)]; exact hF
      · intro j hj
        rw [sx (13 + j) (by omega) (by omega), rn 8 (by decide), rn 9 (by decide), rn 10 (by decide)]; exact hH j hj
      · rw [sx 0 (by omega) (by omega), rn 0 (by decide)]; exact hR
