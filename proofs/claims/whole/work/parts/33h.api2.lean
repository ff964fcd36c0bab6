theorem api_keep {S : Nat → zM} {u : zM} (h : Rel S u) (a1 : Int32) : ∃ (r : Int32) (S' : Nat → zM) (u' : zM), f_X6_keep S a1 = some (r, S') ∧ f_X7_keep u a1 = some (r, u') ∧ Rel S' u' := by
  obtain ⟨P, nb, d, m, hC, hd, hP, hN, hI, hT, hF, hH, hR⟩ := id h
  unfold f_X6_keep f_X7_keep
  rw [wi_0_1, in_0_1]
  cases hz : zw a1 0 1 with
  | false => exact ⟨-1, S, u, rfl, rfl, h⟩
  | true =>
    obtain ⟨k, hk, -, rfl⟩ := zw_nat hz
    have hk2 : k < 2 := by omega
    obtain ⟨C', eC, cC⟩ := copy_C (S 4) (S (9 + k))
    obtain ⟨N', eN, cN⟩ := copy_N (S 6) (S (11 + k))
    have e28 : ∀ t, f_X6_keep_28 S (Int32.ofNat k) t = some (zb t, va_up (va_up (va_up S (9 + k) C') (11 + k) N') (7 + k) (zU (S (7 + k)) 0 0 1)) := by
      intro t
      unfold f_X6_keep_28
      simp only [if_pos (z_inN hk2 (by decide)), o_cl (show k < 2 ^ 31 by omega), eC, Option.bind_some, zlet_eq]
      rw [va_up_neq S C' (show 6 ≠ 9 + k by omega), va_up_neq S C' (show 11 + k ≠ 9 + k by omega), eN]
      simp only [Option.bind_some]
      rw [va_up_neq _ N' (show 7 + k ≠ 11 + k by omega), va_up_neq S C' (show 7 + k ≠ 9 + k by omega)]
    have ek : (61 : Int32) * (Int32.ofNat k + 1) = Int32.ofNat (61 * (k + 1)) := by rw [o_1]; exact o_mul 61 (k + 1)
    simp only [Option.bind_some, ↓reduceIte, if_pos (z_inN hk2 (by decide)), o_cl (show k < 2 ^ 31 by omega), e28, zlet_eq, ek]
    rw [show f_X7_copies (zU u 3 k (vp_nar .boolean 1)) (Int32.ofNat (61 * (k + 1))) 0 = _ from copies_eq (b := 0) (by omega) (by omega) (by omega), (hI k hk2).1]
    have key : Rel (va_up (va_up (va_up S (9 + k) C') (11 + k) N') (7 + k) (zU (S (7 + k)) 0 0 1)) (rowF (zU u 3 k (vp_nar .boolean 1)) 1 (61 * (k + 1)) (61 * (k + 1) + 61) (fun j => zU u 3 k (vp_nar .boolean 1) 1 (0 + (j - 61 * (k + 1))))) := by
      have r1 : ∀ j, ¬ (61 * (k + 1) ≤ j ∧ j < 61 * (k + 1) + 61) → rowF (zU u 3 k (vp_nar .boolean 1)) 1 (61 * (k + 1)) (61 * (k + 1) + 61) (fun j => zU u 3 k (vp_nar .boolean 1) 1 (0 + (j - 61 * (k + 1)))) 1 j = u 1 j := by
        intro j hj
        rw [rowF_row, if_neg hj, zU_ne _ _ _ (by decide)]
      have r2 : ∀ j, j < 61 → rowF (zU u 3 k (vp_nar .boolean 1)) 1 (61 * (k + 1)) (61 * (k + 1) + 61) (fun j => zU u 3 k (vp_nar .boolean 1) 1 (0 + (j - 61 * (k + 1)))) 1 (61 * (k + 1) + j) = u 1 j := by
        intro j hj
        rw [rowF_row, if_pos (by omega), zU_ne _ _ _ (by decide), show 0 + (61 * (k + 1) + j - 61 * (k + 1)) = j by omega]
      have rn : ∀ i, i ≠ 1 → i ≠ 3 → rowF (zU u 3 k (vp_nar .boolean 1)) 1 (61 * (k + 1)) (61 * (k + 1) + 61) (fun j => zU u 3 k (vp_nar .boolean 1) 1 (0 + (j - 61 * (k + 1)))) i = u i := by
        intro i h1 h3
        rw [rowF_ne _ _ _ _ h1, zU_ne _ _ _ h3]
      have r3 : rowF (zU u 3 k (vp_nar .boolean 1)) 1 (61 * (k + 1)) (61 * (k + 1) + 61) (fun j => zU u 3 k (vp_nar .boolean 1) 1 (0 + (j - 61 * (k + 1)))) 3 = upd (u 3) k 1 := by
        rw [rowF_ne _ _ _ _ (by decide), zU_row]; rfl
      generalize rowF (zU u 3 k (vp_nar .boolean 1)) 1 (61 * (k + 1)) (61 * (k + 1) + 61) (fun j => zU u 3 k (vp_nar .boolean 1) 1 (0 + (j - 61 * (k + 1)))) = w at r1 r2 rn r3
      have sx : ∀ i, i ≠ 9 + k → i ≠ 11 + k → i ≠ 7 + k → va_up (va_up (va_up S (9 + k) C') (11 + k) N') (7 + k) (zU (S (7 + k)) 0 0 1) i = S i := by
        intro i h9 h11 h7
        rw [va_up_neq _ _ h7, va_up_neq _ _ h11, va_up_neq _ _ h9]
      refine ⟨P, nb, d, m, ?_, hd, ?_, ?_, ?_, ?_, ?_, ?_, ?_⟩
      · rw [sx 4 (by omega) (by omega) (by omega)]
        exact cr_cong hC (fun j hj => r1 j (by omega))
      · rw [rn 0 (by decide) (by decide)]; exact hP
      · rw [sx 6 (by omega) (by omega) (by omega)]
        exact snr_cong hN (fun j hj => r1 j (by omega))
      · intro j hj
        rw [r3]
        by_cases hq : j = k
        · subst hq
          rw [up_eq, va_up_eq, va_up_neq _ _ (show 9 + j ≠ 7 + j by omega), va_up_neq _ _ (show 9 + j ≠ 11 + j by omega), va_up_eq, va_up_neq _ _ (show 11 + j ≠ 7 + j by omega), va_up_eq]
          exact ⟨zu_eq _ _ _ _, Or.inr ⟨rfl, nb, d, m, hd, cr_cong (cr_copy hC cC) (fun i hi => r2 i (by omega)), snr_cong (snr_copy hN cN) (fun i hi => r2 i hi)⟩⟩
        · rw [up_ne _ _ _ hq, sx (7 + j) (by omega) (by omega) (by omega), sx (9 + j) (by omega) (by omega) (by omega), sx (11 + j) (by omega) (by omega) (by omega)]
          exact imr_cong (hI j hj) (fun i hi => r1 _ (by omega))
      · rw [sx 1 (by omega) (by omega) (by omega), rn 0 (by decide) (by decide), rn 5 (by decide) (by decide)]; exact hT
      · rw [sx 2 (by omega) (by omega) (by omega), rn 0 (by decide) (by decide)]; exact hF
      · intro j hj
        rw [sx (13 + j) (by omega) (by omega) (by omega), rn 8 (by decide) (by decide), rn 9 (by decide) (by decide), rn 10 (by decide) (by decide)]; exact hH j hj
      · rw [sx 0 (by omega) (by omega) (by omega), rn 0 (by decide) (by decide)]; exact hR
    unfold f_X7_flag
    by_cases h0 : u 3 k = 0
    · rw [if_pos h0, if_pos h0]
      exact ⟨_, _, _, rfl, rfl, key⟩
    · rw [if_neg h0, if_neg h0]
      exact ⟨_, _, _, rfl, rfl, key⟩
