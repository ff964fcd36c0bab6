theorem read_cE {S : Nat → zM} {v1 v2 v3 v5 v6 : Int32} {L i : Nat} (hL : L < 1000) (m : Nat) (h : v6 ≠ 0 ∨ L ≤ i) (hi : i < 1000) : f_X6_read_53 (m + 1) S v1 v2 v3 (Int32.ofNat L) v5 v6 (Int32.ofNat i) = f_X6_read_123 S v5 v6 := by
  rw [f_X6_read_53]
  by_cases h3 : L ≤ i
  · rw [if_pos ((o_le (by omega) (by omega)).mpr h3)]
  · rw [if_neg (nle (by omega) (by omega))]
    rcases h with h | h
    · rw [if_neg h]
    · exact absurd h h3
theorem read_mE {u : zM} {v1 v2 v3 v5 v6 : Int32} {L i : Nat} (hL : L < 1000) (m : Nat) (h : v5 ≠ 0 ∨ L ≤ i) (hi : i < 1000) : f_X7_read_62 (m + 1) u v1 v2 v3 (Int32.ofNat L) v5 v6 (Int32.ofNat i) = some (v6, zU u 0 27 v5) := by
  rw [f_X7_read_62]
  by_cases h3 : L ≤ i
  · rw [if_pos ((o_le (by omega) (by omega)).mpr h3)]
    rfl
  · rw [if_neg (nle (by omega) (by omega))]
    rcases h with h | h
    · rw [if_neg h]
      rfl
    · exact absurd h h3
theorem read_loop {P d k L : Nat} {S0 : Nat → zM} {u0 : zM} (h : Rel S0 u0) (hP : u0 0 3 = Int32.ofNat P) (hd : d < 1000) (hk : k < 4) (hL : L ≤ 13) (lane f : Int32) (t : Nat) : ∀ (m m' i w : Nat) (S : Nat → zM) (u : zM), RI P d S0 u0 S u → i + t = L → t + 1 < m → t + 1 < m' → ∃ r S' u', f_X6_read_53 m S (Int32.ofNat k) lane f (Int32.ofNat L) (Int32.ofNat w) 0 (Int32.ofNat i) = some (r, S') ∧ f_X7_read_62 m' u (Int32.ofNat k) lane f (Int32.ofNat L) 0 (Int32.ofNat w) (Int32.ofNat i) = some (r, u') ∧ Rel S' u' := by
  induction t with
  | zero =>
    intro m m' i w S u hI hi hm hm'
    obtain ⟨m, rfl⟩ : ∃ q, m = q + 1 := ⟨m - 1, by omega⟩
    obtain ⟨m', rfl⟩ : ∃ q, m' = q + 1 := ⟨m' - 1, by omega⟩
    rw [read_cE (by omega) m (Or.inr (by omega)) (by omega), read_mE (by omega) m' (Or.inr (by omega)) (by omega)]
    obtain ⟨S', e1, e2⟩ := read_fin h hP hd hI (Int32.ofNat w) 0
    exact ⟨_, _, _, e1, rfl, e2⟩
  | succ t ih =>
    intro m m' i w S u hI hi hm hm'
    obtain ⟨m, rfl⟩ : ∃ q, m = q + 1 + 1 := ⟨m - 2, by omega⟩
    obtain ⟨m', rfl⟩ : ∃ q, m' = q + 1 + 1 := ⟨m' - 2, by omega⟩
    obtain ⟨⟨n, hC⟩, hS, hu, hu1, hu11⟩ := id hI
    have hH : ShR (S (13 + k)) (u 8 k) (u 9 k) (fun i => u 10 (40 * k + i)) := by
      obtain ⟨P2, nb2, d2, m2, -, -, -, -, -, -, -, hH, -⟩ := id h
      rw [hS (13 + k) (by omega), hu 8 (by decide) (by decide), hu 9 (by decide) (by decide), hu 10 (by decide) (by decide)]
      exact hH k hk
    obtain ⟨tear, f1, f2, f3⟩ := read_in (fun u v1 v2 v3 v4 v5 v6 v7 => f_X7_read_62 (m' + 1) u v1 v2 v3 v4 v5 v6 v7) hk (show i < 14 by omega) lane f (Int32.ofNat L) (Int32.ofNat w) hH
    rw [f_X6_read_53, f_X7_read_62, if_neg (nle (by omega) (by omega)), if_neg (nle (by omega) (by omega)), if_pos rfl, if_pos rfl, f2, if_pos (z_inN hk (by decide)), o_cl (show k < 2 ^ 31 by omega), f1]
    simp only [Option.bind_some]
    unfold f_X7_read_164
    by_cases ht : tear = 0
    · obtain ⟨x, hx, ex, hrow⟩ := f3 ht
      have hrow : ∀ j, j < 40 → S (13 + k) 1 j = u 10 (40 * k + j) := hrow
      rw [if_pos ht, if_pos ht, if_pos (z_inN hk (by decide)), ex, show (40 : Int32) * Int32.ofNat k + f + 3 * Int32.ofNat i = Int32.ofNat (40 * k + x) by rw [Int32.add_assoc, ex, at_c]]
      unfold f_X6_dabFromSheet
      rw [show Int32.ofNat x + 2 = Int32.ofNat (x + 2) from o_add x 2, show Int32.ofNat (40 * k + x) + 2 = Int32.ofNat (40 * k + x + 2) from o_add _ 2, o_1 x, o_1 (40 * k + x)]
      simp only [z_inN (show x < 40 by omega) (show 40 < 2 ^ 31 by decide), z_inN (show x + 1 < 40 by omega) (show 40 < 2 ^ 31 by decide), z_inN (show x + 2 < 40 by omega) (show 40 < 2 ^ 31 by decide), z_inN (show 40 * k + x < 160 by omega) (show 160 < 2 ^ 31 by decide), z_inN (show 40 * k + x + 1 < 160 by omega) (show 160 < 2 ^ 31 by decide), z_inN (show 40 * k + x + 2 < 160 by omega) (show 160 < 2 ^ 31 by decide), ↓reduceIte, o_cl (show x < 2 ^ 31 by omega), o_cl (show x + 1 < 2 ^ 31 by omega), o_cl (show x + 2 < 2 ^ 31 by omega), o_cl (show 40 * k + x < 2 ^ 31 by omega), o_cl (show 40 * k + x + 1 < 2 ^ 31 by omega), o_cl (show 40 * k + x + 2 < 2 ^ 31 by omega)]
      rw [hrow x (by omega), hrow (x + 1) (by omega), hrow (x + 2) (by omega), show 40 * k + (x + 1) = 40 * k + x + 1 by omega, show 40 * k + (x + 2) = 40 * k + x + 2 by omega]
      have uP : u 0 3 = Int32.ofNat P := by rw [hu 0 (by decide) (by decide)]; exact hP
      obtain ⟨r, C', v', n', g1, g2, g3, g4⟩ := dab_eq hC uP (u 10 (40 * k + x)) (u 10 (40 * k + x + 1)) (u 10 (40 * k + x + 2))
      rw [g1, g2]
      simp only [Option.bind_some, zlet_eq]
      by_cases hr : r < 0
      · rw [if_pos hr, if_neg (i32_nle.mpr hr)]
        simp only [Option.bind_some, Bool.false_eq_true, ↓reduceIte]
        rw [show f_X7_read_217 FU (va_up u 1 v') (Int32.ofNat i) 0 = _ from back_loop 61 (Int32.ofNat i) FU 0 (va_up u 1 v') (by omega) (FU_pos (by omega))]
        refine ⟨_, _, _, rfl, rfl, ?_⟩
        refine rel_scr h ?_ ?_ ?_ ?_ ?_
        · intro j _ _ _ _ h5
          rw [va_up_neq _ _ h5]; exact hS j h5
        · rw [va_up_neq _ _ (by decide), hS 0 (by decide)]
        · rw [va_up_neq _ _ (by decide), hS 2 (by decide)]
        · intro j hj
          by_cases h1 : j = 1
          · subst h1
            funext q
            rw [rowF_row, va_up_neq _ _ (show 11 ≠ 1 by decide), va_up_eq]
            by_cases h61 : q < 61
            · rw [if_pos ⟨Nat.zero_le _, h61⟩]; exact hu11 q h61
            · rw [if_neg (by omega), g4 q (by omega)]; exact hu1 q (by omega)
          · rw [rowF_ne _ _ _ _ h1, va_up_neq _ _ h1]; exact hu j h1 (by omega)
        · intro q hq
          rw [rowF_ne _ _ _ _ (by decide), va_up_neq _ _ (by decide), hu 0 (by decide) (by decide)]
      · rw [if_neg hr, if_pos (i32_nlt.mp hr), ht]
        simp only [Option.bind_some, ↓reduceIte]
        rw [o_1 w, o_1 i]
        refine ih (m + 1) (m' + 1) (i + 1) (w + 1) _ _ ⟨⟨n', ?_⟩, ?_, ?_, ?_, ?_⟩ (by omega) (by omega) (by omega)
        · rw [va_up_eq, va_up_eq]; exact g3
        · intro j hj
          rw [va_up_neq _ _ hj]; exact hS j hj
        · intro j h1 h11
          rw [va_up_neq _ _ h1]; exact hu j h1 h11
        · intro q hq
          rw [va_up_eq, g4 q hq]; exact hu1 q hq
        · intro q hq
          rw [va_up_neq _ _ (by decide)]; exact hu11 q hq
    · rw [if_neg ht, if_neg ht]
      dsimp only
      rw [o_1, read_cE (by omega) m (Or.inl ht) (by omega), read_mE (by omega) m' (Or.inl ht) (by omega)]
      obtain ⟨S', e1, e2⟩ := read_fin h hP hd hI (Int32.ofNat w) tear
      exact ⟨_, _, _, e1, rfl, e2⟩
theorem api_read {S : Nat → zM} {u : zM} (h : Rel S u) (a1 : Int32) (a2 : Int32) (a3 : Int32) (a4 : Int32) : ∃ (r : Int32) (S' : Nat → zM) (u' : zM), f_X6_read S a1 a2 a3 a4 = some (r, S') ∧ f_X7_read u a1 a2 a3 a4 = some (r, u') ∧ Rel S' u' := by
  obtain ⟨P, nb, d, hc⟩ := rc_of h
  obtain ⟨D, eD, cD⟩ := copy_C (S 4) (S 5)
  unfold f_X6_read f_X7_read
  rw [isSheet_eq, wi_0_3, wi_0_2, wi_0_13, in_0_13, eD]
  simp only [Option.bind_some, zlet_eq]
  cases hz : zw a1 0 3 with
  | false => exact ⟨-1, S, u, rfl, rfl, h⟩
  | true =>
    obtain ⟨k, hk, -, rfl⟩ := zw_nat hz
    cases hy : zw a2 0 2 with
    | false => exact ⟨-1, S, u, rfl, rfl, h⟩
    | true =>
      cases hx : zw a4 0 13 with
      | false => exact ⟨-1, S, u, rfl, rfl, h⟩
      | true =>
        obtain ⟨L, hL, -, rfl⟩ := zw_nat hx
        simp only [↓reduceIte, Bool.and_self]
        rw [show f_X7_read_26 FU u (Int32.ofNat k) a2 a3 (Int32.ofNat L) 0 = _ from before_loop 61 (Int32.ofNat k) a2 a3 (Int32.ofNat L) FU 0 u (by omega) (FU_pos (by omega))]
        refine read_loop (P := P) (d := d) h hc.2.2.1 hc.2.1 (show k < 4 by omega) (show L ≤ 13 by omega) a2 a3 L FU FU 0 0 (va_up S 5 D) (rowF u 11 0 61 (u 1)) ⟨⟨nb, ?_⟩, ?_, ?_, ?_, ?_⟩ (by omega) (FU_pos (by omega)) (FU_pos (by omega))
        · rw [va_up_eq, rowF_ne _ _ _ _ (by decide)]
          exact cr_copy hc.2.2.2 cD
        · intro j hj
          exact va_up_neq _ _ hj
        · intro j h1 h11
          exact rowF_ne _ _ _ _ h11
        · intro q hq
          rw [rowF_ne _ _ _ _ (by decide)]
        · intro q hq
          rw [rowF_row, if_pos ⟨Nat.zero_le _, hq⟩]
