/-- what f_X7_starts leaves: Rel kept, row 2 tells what row 1 tells, nobody is away -/
theorem rel_starts {S : Nat → zM} {u : zM} (h : Rel S u) : Rel S (stU u) ∧ (∀ k, k < 61 → stU u 2 k = u 1 k) ∧ stU u 0 16 = -4 ∧ stU u 0 3 = u 0 3 ∧ stU u 1 = u 1 := by
  have e1 : stU u 1 = u 1 := by
    unfold stU
    rw [zU_ne _ _ _ (by decide), rowF_ne _ _ _ _ (by decide)]
  have e0 : ∀ k, k ≠ 16 → stU u 0 k = u 0 k := by
    intro k hk
    unfold stU
    rw [zu_j _ _ _ _ hk, rowF_ne _ _ _ _ (by decide)]
  have en : ∀ j, j ≠ 0 → j ≠ 2 → stU u j = u j := by
    intro j h0 h2
    unfold stU
    rw [zU_ne _ _ _ h0, rowF_ne _ _ _ _ h2]
  refine ⟨?_, ?_, ?_, e0 3 (by decide), e1⟩
  · obtain ⟨P, nb, d, m, hC, hd, hP, hN, hI, hT, hF, hH, hR⟩ := h
    refine ⟨P, nb, d, m, ?_, hd, ?_, ?_, ?_, ?_, ?_, ?_, ?_⟩
    · rw [e1]; exact hC
    · rw [e0 3 (by decide)]; exact hP
    · rw [e1]; exact hN
    · intro k hk
      rw [en 3 (by decide) (by decide), e1]; exact hI k hk
    · rw [e0 9 (by decide), en 5 (by decide) (by decide)]; exact hT
    · rw [e0 14 (by decide)]; exact hF
    · intro k hk
      rw [en 8 (by decide) (by decide), en 9 (by decide) (by decide), en 10 (by decide) (by decide)]; exact hH k hk
    · rw [e0 27 (by decide)]; exact hR
  · intro k hk
    unfold stU
    rw [zU_ne _ _ _ (by decide), rowF_row, if_pos ⟨Nat.zero_le _, hk⟩]
  · unfold stU
    rw [zu_eq]
theorem cr_starts {S : Nat → zM} {u : zM} {P nb d : Nat} (h : CR P nb d (S 4) (u 1)) : CR P nb d (S 4) (stU u 2) := by
  refine cr_cong h (fun k hk => ?_)
  unfold stU
  rw [zU_ne _ _ _ (by decide), rowF_row, if_pos ⟨Nat.zero_le _, by omega⟩]
