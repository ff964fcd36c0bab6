/-! fractions: the reference divides by the greatest common divisor, the class takes out twos and fives -/
theorem lg_eq (x y : Int64) : lg_cmp x y = 0 ↔ x = y := by
  unfold lg_cmp
  by_cases h : x > y
  · rw [if_pos h]
    refine ⟨fun q => absurd q (by decide), fun q => ?_⟩
    subst q
    have := Int64.lt_iff_toInt_lt.mp h
    omega
  · rw [if_neg h]
    by_cases h3 : x = y
    · rw [if_pos h3]
      exact ⟨fun _ => h3, fun _ => rfl⟩
    · rw [if_neg h3]
      exact ⟨fun q => absurd q (by decide), fun q => absurd q h3⟩
theorem lg_z {a : Nat} (h : a < 2 ^ 62) : lg_cmp (lN a) (0 : Int64) = 0 ↔ a = 0 := by
  rw [lg_eq]
  exact pk_lEQ (a := a) (b := 0) (by omega) (by decide)
theorem gcd_loop (t : Nat) : ∀ (m a b : Nat), b ≤ t → t < m → a < 2 ^ 62 → b < 2 ^ 62 → f_X7_common_6 m (lN a) (lN b) = some (lN (Nat.gcd b a)) := by
  induction t with
  | zero =>
    intro m a b hb hm ha hb2
    obtain ⟨m, rfl⟩ : ∃ q, m = q + 1 := ⟨m - 1, by omega⟩
    have hb : b = 0 := by omega
    subst hb
    rw [f_X7_common_6, if_pos ((lg_z hb2).mpr rfl), Nat.gcd_zero_left]
  | succ t ih =>
    intro m a b hb hm ha hb2
    obtain ⟨m, rfl⟩ : ∃ q, m = q + 1 := ⟨m - 1, by omega⟩
    by_cases h0 : b = 0
    · subst h0
      rw [f_X7_common_6, if_pos ((lg_z hb2).mpr rfl), Nat.gcd_zero_left]
    · rw [f_X7_common_6, if_neg (fun q => h0 ((lg_z hb2).mp q)), if_neg (show ¬ lN b = 0 from fun q => h0 ((pk_lEQ (a := b) (b := 0) (by omega) (by decide)).mp q)), pk_lRem (by omega) (by omega) (by omega)]
      have hl := Nat.mod_lt a (show 0 < b by omega)
      rw [ih m b (a % b) (by omega) (by omega) hb2 (by omega), ← Nat.gcd_rec]
theorem told_eq {a B : Nat} (ha : a < 2 ^ 62) (hB : B < 2 ^ 62) (h0 : 0 < B) (w : Int32) : f_X7_told (lN a) (lN B) w = some (lN (if w = 0 then a / Nat.gcd a B else B / Nat.gcd a B)) := by
  have hg : 0 < Nat.gcd a B := Nat.gcd_pos_of_pos_right a h0
  have hl : Nat.gcd a B ≤ B := Nat.le_of_dvd h0 (Nat.gcd_dvd_right a B)
  unfold f_X7_told f_X7_common
  rw [gcd_loop a FU B a (Nat.le_refl _) (FU_pos (by omega)) hB ha]
  simp only [Option.bind_some]
  have hn : ¬ lN (Nat.gcd a B) = 0 := fun q => by
    have := (pk_lEQ (a := Nat.gcd a B) (b := 0) (by omega) (by decide)).mp q
    omega
  rw [if_neg hn]
  by_cases hw : w = 0
  · rw [if_pos hw, if_pos hw, pk_lDiv (by omega) hg (by omega)]
  · rw [if_neg hw, if_neg hw, if_neg hn, pk_lDiv (by omega) hg (by omega)]
theorem five_odd (y : Nat) : 5 ^ y % 2 = 1 := by
  induction y with
  | zero => rfl
  | succ y ih => rw [Nat.pow_succ]; omega
theorem two_five (x : Nat) : ¬ 2 ^ x % 5 = 0 := by
  induction x with
  | zero => decide
  | succ x ih => rw [Nat.pow_succ]; omega
/-- a0 by 10^n, c taken out so far, i times -/
def FI (n a0 i a b : Nat) : Prop := ∃ c x y, 10 ^ n = c * b ∧ a0 = c * a ∧ b = 2 ^ x * 5 ^ y ∧ (x + i ≤ n ∨ ¬ a % 2 = 0) ∧ (y + i ≤ n ∨ ¬ a % 5 = 0)
theorem fi_start (n a0 : Nat) : FI n a0 0 a0 (10 ^ n) := ⟨1, n, n, by omega, by omega, by rw [← Nat.mul_pow], Or.inl (by omega), Or.inl (by omega)⟩
/-- a two is taken out, if it can be -/
theorem fi_two {n a0 i a b : Nat} (hi : i < n) (h : ∃ c x y, 10 ^ n = c * b ∧ a0 = c * a ∧ b = 2 ^ x * 5 ^ y ∧ (x + i ≤ n ∨ ¬ a % 2 = 0) ∧ (y + i ≤ n ∨ ¬ a % 5 = 0)) :
    (a % 2 = 0 ∧ b % 2 = 0 → ∃ c x y, 10 ^ n = c * (b / 2) ∧ a0 = c * (a / 2) ∧ b / 2 = 2 ^ x * 5 ^ y ∧ (x + (i + 1) ≤ n ∨ ¬ (a / 2) % 2 = 0) ∧ (y + i ≤ n ∨ ¬ (a / 2) % 5 = 0)) ∧
    (¬ (a % 2 = 0 ∧ b % 2 = 0) → ∃ c x y, 10 ^ n = c * b ∧ a0 = c * a ∧ b = 2 ^ x * 5 ^ y ∧ (x + (i + 1) ≤ n ∨ ¬ a % 2 = 0) ∧ (y + i ≤ n ∨ ¬ a % 5 = 0)) := by
  obtain ⟨c, x, y, h1, h2, h3, h4, h5⟩ := h
  have h5o := five_odd y
  constructor
  · intro ⟨q1, q2⟩
    cases x with
    | zero => rw [Nat.pow_zero, Nat.one_mul] at h3; omega
    | succ x =>
      have hb : b = 2 * (2 ^ x * 5 ^ y) := by rw [h3, Nat.pow_succ, Nat.mul_comm (2 ^ x) 2, Nat.mul_assoc]
      have hb2 : b / 2 = 2 ^ x * 5 ^ y := by omega
      have ha : a = 2 * (a / 2) := by omega
      have hb' : b = 2 * (b / 2) := by omega
      refine ⟨c * 2, x, y, ?_, ?_, hb2, ?_, ?_⟩
      · rw [Nat.mul_assoc, ← hb']; exact h1
      · rw [Nat.mul_assoc, ← ha]; exact h2
      · omega
      · omega
  · intro q
    refine ⟨c, x, y, h1, h2, h3, ?_, h5⟩
    cases x with
    | zero =>
      exact Or.inl (by omega)
    | succ x =>
      have hb : b = 2 * (2 ^ x * 5 ^ y) := by rw [h3, Nat.pow_succ, Nat.mul_comm (2 ^ x) 2, Nat.mul_assoc]
      exact Or.inr (by omega)
theorem fi_five {n a0 i a b : Nat} (hi : i < n) (h : ∃ c x y, 10 ^ n = c * b ∧ a0 = c * a ∧ b = 2 ^ x * 5 ^ y ∧ (x + (i + 1) ≤ n ∨ ¬ a % 2 = 0) ∧ (y + i ≤ n ∨ ¬ a % 5 = 0)) :
    (a % 5 = 0 ∧ b % 5 = 0 → FI n a0 (i + 1) (a / 5) (b / 5)) ∧ (¬ (a % 5 = 0 ∧ b % 5 = 0) → FI n a0 (i + 1) a b) := by
  obtain ⟨c, x, y, h1, h2, h3, h4, h5⟩ := h
  have h25 := two_five x
  constructor
  · intro ⟨q1, q2⟩
    cases y with
    | zero => rw [Nat.pow_zero, Nat.mul_one] at h3; omega
    | succ y =>
      have hb : b = 5 * (2 ^ x * 5 ^ y) := by rw [h3, Nat.pow_succ, ← Nat.mul_assoc, Nat.mul_comm]
      have hb2 : b / 5 = 2 ^ x * 5 ^ y := by omega
      have ha : a = 5 * (a / 5) := by omega
      have hb' : b = 5 * (b / 5) := by omega
      refine ⟨c * 5, x, y, ?_, ?_, hb2, ?_, ?_⟩
      · rw [Nat.mul_assoc, ← hb']; exact h1
      · rw [Nat.mul_assoc, ← ha]; exact h2
      · omega
      · omega
  · intro q
    refine ⟨c, x, y, h1, h2, h3, h4, ?_⟩
    cases y with
    | zero => exact Or.inl (by omega)
    | succ y =>
      have hb : b = 5 * (2 ^ x * 5 ^ y) := by rw [h3, Nat.pow_succ, ← Nat.mul_assoc, Nat.mul_comm]
      exact Or.inr (by omega)
theorem cop2 {a : Nat} (h : ¬ a % 2 = 0) : Nat.Coprime a 2 := by
  have h1 := Nat.gcd_dvd_right a 2
  have h2 := Nat.gcd_dvd_left a 2
  have h3 := Nat.le_of_dvd (by decide) h1
  have h4 : 0 < Nat.gcd a 2 := Nat.gcd_pos_of_pos_right a (by decide)
  unfold Nat.Coprime
  rcases (show Nat.gcd a 2 = 1 ∨ Nat.gcd a 2 = 2 by omega) with e | e
  · exact e
  · rw [e] at h2
    omega
theorem cop5 {a : Nat} (h : ¬ a % 5 = 0) : Nat.Coprime a 5 := by
  have h1 := Nat.gcd_dvd_right a 5
  have h2 := Nat.gcd_dvd_left a 5
  have h3 := Nat.le_of_dvd (by decide) h1
  have h4 : 0 < Nat.gcd a 5 := Nat.gcd_pos_of_pos_right a (by decide)
  unfold Nat.Coprime
  rcases (show Nat.gcd a 5 = 1 ∨ Nat.gcd a 5 = 2 ∨ Nat.gcd a 5 = 3 ∨ Nat.gcd a 5 = 4 ∨ Nat.gcd a 5 = 5 by omega) with e | e | e | e | e
  · exact e
  · rw [e] at h1; omega
  · rw [e] at h1; omega
  · rw [e] at h1; omega
  · rw [e] at h2; omega
theorem fi_end {n a0 a b : Nat} (h : FI n a0 n a b) : a = a0 / Nat.gcd a0 (10 ^ n) ∧ b = 10 ^ n / Nat.gcd a0 (10 ^ n) := by
  obtain ⟨c, x, y, h1, h2, h3, h4, h5⟩ := h
  have hp : 0 < 10 ^ n := Nat.pow_pos (by decide)
  have hc : 0 < c := by
    rcases Nat.eq_zero_or_pos c with e | e
    · rw [e, Nat.zero_mul] at h1; omega
    · exact e
  have c2 : Nat.Coprime a (2 ^ x) := by
    rcases h4 with e | e
    · have : x = 0 := by omega
      subst this
      exact Nat.gcd_one_right a
    · exact Nat.Coprime.pow_right x (cop2 e)
  have c5 : Nat.Coprime a (5 ^ y) := by
    rcases h5 with e | e
    · have : y = 0 := by omega
      subst this
      exact Nat.gcd_one_right a
    · exact Nat.Coprime.pow_right y (cop5 e)
  have cb : Nat.gcd a b = 1 := by rw [h3]; exact Nat.Coprime.mul_right c2 c5
  have eg : Nat.gcd a0 (10 ^ n) = c := by rw [h1, h2, Nat.gcd_mul_left, cb, Nat.mul_one]
  rw [eg]
  constructor
  · rw [h2, Nat.mul_div_cancel_left _ hc]
  · rw [h1, Nat.mul_div_cancel_left _ hc]
theorem frac_loop {n a0 : Nat} (hn : n ≤ 8) (w : Int32) (t : Nat) : ∀ (m i a b : Nat), FI n a0 i a b → i + t = n → t < m → a < 2 ^ 62 → b < 2 ^ 62 → f_X6_fractionOfTens_32 m (Int32.ofNat n) w (lN a) (lN b) (Int32.ofNat i) = some (lN (if w = 0 then a0 / Nat.gcd a0 (10 ^ n) else 10 ^ n / Nat.gcd a0 (10 ^ n))) := by
  induction t with
  | zero =>
    intro m i a b h hi hm ha hb
    obtain ⟨m, rfl⟩ : ∃ q, m = q + 1 := ⟨m - 1, by omega⟩
    have hi : i = n := by omega
    subst hi
    obtain ⟨e1, e2⟩ := fi_end h
    rw [f_X6_fractionOfTens_32, if_pos (Int32.le_refl _), ← e1, ← e2]
    by_cases hw : w = 0
    · rw [if_pos hw, if_pos hw]
    · rw [if_neg hw, if_neg hw]
  | succ t ih =>
    intro m i a b h hi hm ha hb
    obtain ⟨m, rfl⟩ : ∃ q, m = q + 1 := ⟨m - 1, by omega⟩
    obtain ⟨t1, t2⟩ := fi_two (show i < n by omega) h
    have step5 : ∀ a b : Nat, a < 2 ^ 62 → b < 2 ^ 62 → (∃ c x y, 10 ^ n = c * b ∧ a0 = c * a ∧ b = 2 ^ x * 5 ^ y ∧ (x + (i + 1) ≤ n ∨ ¬ a % 2 = 0) ∧ (y + i ≤ n ∨ ¬ a % 5 = 0)) → f_X6_fractionOfTens_76 (fun v2 v3 v4 v6 v8 => f_X6_fractionOfTens_32 m v2 v3 v4 v6 v8) (Int32.ofNat n) w (lN a) (lN b) (Int32.ofNat i) = some (lN (if w = 0 then a0 / Nat.gcd a0 (10 ^ n) else 10 ^ n / Nat.gcd a0 (10 ^ n))) := by
      intro a b ha hb hh
      obtain ⟨q1, q2⟩ := fi_five (show i < n by omega) hh
      unfold f_X6_fractionOfTens_76
      rw [show lN a - lN a / (5 : Int64) * (5 : Int64) = lN (a % 5) from pk_lRem (a := a) (b := 5) (by omega) (by decide) (by decide), show lN b - lN b / (5 : Int64) * (5 : Int64) = lN (b % 5) from pk_lRem (a := b) (b := 5) (by omega) (by decide) (by decide), show lN a / (5 : Int64) = lN (a / 5) from pk_lDiv (a := a) (b := 5) (by omega) (by decide) (by decide), show lN b / (5 : Int64) = lN (b / 5) from pk_lDiv (a := b) (b := 5) (by omega) (by decide) (by decide), o_1]
      by_cases c1 : a % 5 = 0
      · rw [if_pos ((lg_z (by omega)).mpr c1)]
        by_cases c2 : b % 5 = 0
        · rw [if_pos ((lg_z (by omega)).mpr c2)]
          exact ih m (i + 1) _ _ (q1 ⟨c1, c2⟩) (by omega) (by omega) (by omega) (by omega)
        · rw [if_neg (fun q => c2 ((lg_z (by omega)).mp q))]
          exact ih m (i + 1) _ _ (q2 (fun q => c2 q.2)) (by omega) (by omega) ha hb
      · rw [if_neg (fun q => c1 ((lg_z (by omega)).mp q))]
        exact ih m (i + 1) _ _ (q2 (fun q => c1 q.1)) (by omega) (by omega) ha hb
    rw [f_X6_fractionOfTens_32, if_neg (nle (by omega) (by omega))]
    rw [show lN a - lN a / (2 : Int64) * (2 : Int64) = lN (a % 2) from pk_lRem (a := a) (b := 2) (by omega) (by decide) (by decide), show lN b - lN b / (2 : Int64) * (2 : Int64) = lN (b % 2) from pk_lRem (a := b) (b := 2) (by omega) (by decide) (by decide), show lN a / (2 : Int64) = lN (a / 2) from pk_lDiv (a := a) (b := 2) (by omega) (by decide) (by decide), show lN b / (2 : Int64) = lN (b / 2) from pk_lDiv (a := b) (b := 2) (by omega) (by decide) (by decide)]
    by_cases c1 : a % 2 = 0
    · rw [if_pos ((lg_z (by omega)).mpr c1)]
      by_cases c2 : b % 2 = 0
      · rw [if_pos ((lg_z (by omega)).mpr c2)]
        exact step5 _ _ (by omega) (by omega) (t1 ⟨c1, c2⟩)
      · rw [if_neg (fun q => c2 ((lg_z (by omega)).mp q))]
        exact step5 _ _ ha hb (t2 (fun q => c2 q.2))
    · rw [if_neg (fun q => c1 ((lg_z (by omega)).mp q))]
      exact step5 _ _ ha hb (t2 (fun q => c1 q.1))
theorem ten_loop {n : Nat} (hn : n ≤ 8) (w : Int32) (A : Int64) (t : Nat) : ∀ (m i : Nat), i + t = n → t < m → f_X6_fractionOfTens_9 m (Int32.ofNat n) w A (lN (10 ^ i)) (Int32.ofNat i) = f_X6_fractionOfTens_32 FU (Int32.ofNat n) w A (lN (10 ^ n)) 0 := by
  induction t with
  | zero =>
    intro m i hi hm
    obtain ⟨m, rfl⟩ : ∃ q, m = q + 1 := ⟨m - 1, by omega⟩
    have hi : i = n := by omega
    subst hi
    rw [f_X6_fractionOfTens_9, if_pos (Int32.le_refl _)]
  | succ t ih =>
    intro m i hi hm
    obtain ⟨m, rfl⟩ : ∃ q, m = q + 1 := ⟨m - 1, by omega⟩
    rw [f_X6_fractionOfTens_9, if_neg (nle (by omega) (by omega)), show lN (10 ^ i) * (10 : Int64) = lN (10 ^ (i + 1)) from (lN_mul (10 ^ i) 10).trans (by rw [Nat.pow_succ]), o_1]
    exact ih m (i + 1) (by omega) (by omega)
theorem ten_le {n : Nat} (hn : n ≤ 8) : 0 < 10 ^ n ∧ 10 ^ n ≤ 100000000 := ⟨Nat.pow_pos (by decide), Nat.pow_le_pow_right (n := 10) (by decide) hn⟩
theorem frac_eq {n a : Nat} (hn : n ≤ 8) (ha : a < 2 ^ 62) (w : Int32) : f_X6_fractionOfTens (lN a) (Int32.ofNat n) w = f_X7_told (lN a) (lN (10 ^ n)) w := by
  have ht := ten_le hn
  rw [told_eq ha (by omega) ht.1]
  have q := ten_loop hn w (lN a) n FU 0 (by omega) (FU_pos (by omega))
  refine (show f_X6_fractionOfTens (lN a) (Int32.ofNat n) w = _ from q).trans ?_
  exact frac_loop hn w n FU 0 a (10 ^ n) (fi_start n a) (by omega) (FU_pos (by omega)) ha (by omega)
theorem told_some {n a : Nat} (hn : n ≤ 8) (ha : a < 2 ^ 62) (w : Int32) : ∃ r, f_X6_fractionOfTens (lN a) (Int32.ofNat n) w = some r ∧ f_X7_told (lN a) (lN (10 ^ n)) w = some r := by
  have ht := ten_le hn
  exact ⟨_, (frac_eq hn ha w).trans (told_eq ha (by omega) ht.1 w), told_eq ha (by omega) ht.1 w⟩
