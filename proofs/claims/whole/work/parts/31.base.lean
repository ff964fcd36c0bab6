/-! layer B: plain facts of the functional texts -/
theorem o_cl {n : Nat} (h : n < 2 ^ 31) : (Int32.ofNat n).toNatClampNeg = n := nI_clamp h
theorem o_1 (i : Nat) : Int32.ofNat i + 1 = Int32.ofNat (i + 1) := nI_1 i
theorem o_add (a b : Nat) : Int32.ofNat a + Int32.ofNat b = Int32.ofNat (a + b) := nI_add a b
theorem o_mul (a b : Nat) : Int32.ofNat a * Int32.ofNat b = Int32.ofNat (a * b) := (Int32.ofNat_mul a b).symm
theorem o_eq {a b : Nat} (ha : a < 2 ^ 31) (hb : b < 2 ^ 31) : Int32.ofNat a = Int32.ofNat b ↔ a = b := nI_eq ha hb
theorem o_le {a b : Nat} (ha : a < 2 ^ 31) (hb : b < 2 ^ 31) : Int32.ofNat a ≤ Int32.ofNat b ↔ a ≤ b := nI_leI ha hb
theorem o_lt {a b : Nat} (ha : a < 2 ^ 31) (hb : b < 2 ^ 31) : Int32.ofNat a < Int32.ofNat b ↔ a < b := nI_ltI ha hb
theorem o_toInt {n : Nat} (h : n < 2 ^ 31) : (Int32.ofNat n).toInt = (n : Int) := nI_toInt h
theorem zlet_eq {α β : Type} (x : α) (f : α → β) : zlet x f = f x := rfl
theorem z_inN {k n : Nat} (h : k < n) (hn : n < 2 ^ 31) : z_in (Int32.ofNat k) n = true := z_in_iff.mpr (vp_in_nI h hn)
theorem va_up_eq {α : Type} (f : Nat → α) (k : Nat) (v : α) : va_up f k v k = v := if_pos rfl
theorem va_up_neq {α : Type} (f : Nat → α) {k j : Nat} (v : α) (h : j ≠ k) : va_up f k v j = f j := if_neg h
theorem zU_row (u : zM) (j k : Nat) (v : Int32) : zU u j k v j = upd (u j) k v := if_pos rfl
theorem zU_ne (u : zM) {j i : Nat} (k : Nat) (v : Int32) (h : i ≠ j) : zU u j k v i = u i := if_neg h
/-- the places i .. n-1 of a row become g -/
def rowF (u : zM) (j i n : Nat) (g : Nat → Int32) : zM := va_up u j (fun k => if i ≤ k ∧ k < n then g k else u j k)
theorem rowF_nil {u : zM} {j i n : Nat} {g : Nat → Int32} (h : n ≤ i) : rowF u j i n g = u := by
  funext a b
  unfold rowF va_up
  by_cases ha : a = j
  · subst ha
    rw [if_pos rfl, if_neg (by omega)]
  · rw [if_neg ha]
theorem rowF_step {u : zM} {j i n : Nat} {g : Nat → Int32} (h : i < n) : rowF (zU u j i (g i)) j (i + 1) n g = rowF u j i n g := by
  funext a b
  unfold rowF zU va_up upd
  by_cases ha : a = j
  · subst ha
    simp only [if_true]
    by_cases hb : b = i
    · subst hb
      rw [if_neg (by omega), if_pos rfl, if_pos (by omega)]
    · rw [if_neg hb]
      by_cases hc : i + 1 ≤ b ∧ b < n
      · rw [if_pos hc, if_pos (by omega)]
      · rw [if_neg hc, if_neg (by omega)]
  · simp only [if_neg ha]
theorem rowF_row (u : zM) (j i n : Nat) (g : Nat → Int32) (k : Nat) : rowF u j i n g j k = if i ≤ k ∧ k < n then g k else u j k := by
  unfold rowF; rw [va_up_eq]
theorem rowF_ne (u : zM) {j a : Nat} (i n : Nat) (g : Nat → Int32) (h : a ≠ j) : rowF u j i n g a = u a := if_neg h
theorem FU_pos {k : Nat} (h : k < 2 ^ 70) : k < FU := Nat.lt_of_lt_of_le (Nat.lt_of_lt_of_le h (by decide)) FU_ge
theorem ge61 {i : Nat} (h : i < 61) : ¬ (61 : Int32) ≤ Int32.ofNat i := (nI_ge h (by decide) : ¬ Int32.ofNat 61 ≤ Int32.ofNat i)
theorem le61 : (61 : Int32) ≤ Int32.ofNat 61 := (nI_le (Nat.le_refl _) (by decide) : Int32.ofNat 61 ≤ Int32.ofNat 61)
def fdU (u : zM) : zM := zU (zU (zU (rowF u 4 0 61 (fun _ => 0)) 0 5 0) 0 6 0) 0 7 (-4)
theorem firstDraft_loop (k : Nat) : ∀ (n i : Nat) (u : zM), i + k = 61 → k < n → f_X7_firstDraft_2 n u (Int32.ofNat i) = some (zU (zU (zU (rowF u 4 i 61 (fun _ => 0)) 0 5 0) 0 6 0) 0 7 (-4)) := by
  induction k with
  | zero =>
    intro n i u hi hn
    obtain ⟨n, rfl⟩ : ∃ m, n = m + 1 := ⟨n - 1, by omega⟩
    have hi : i = 61 := by omega
    subst hi
    rw [f_X7_firstDraft_2, if_pos le61, rowF_nil (Nat.le_refl _)]
    rfl
  | succ k ih =>
    intro n i u hi hn
    obtain ⟨n, rfl⟩ : ∃ m, n = m + 1 := ⟨n - 1, by omega⟩
    rw [f_X7_firstDraft_2, if_neg (ge61 (by omega)), if_pos (z_inN (by omega) (by decide)), zlet_eq, o_cl (by omega)]
    rw [o_1, ih n (i + 1) _ (by omega) (by omega), rowF_step (g := fun _ => 0) (by omega)]
theorem firstDraft_eq (u : zM) : f_X7_firstDraft u = some (fdU u) := firstDraft_loop 61 FU 0 u rfl (FU_pos (by decide))
def kdU (w : zM) : zM := zU (zU (zU w 0 3 (w 0 5)) 3 0 0) 3 1 0
theorem keepDraft_loop (k : Nat) : ∀ (n i : Nat) (u : zM), i + k = 61 → k < n → f_X7_keepDraft_2 n u (Int32.ofNat i) = some (kdU (rowF u 1 i 61 (u 4))) := by
  induction k with
  | zero =>
    intro n i u hi hn
    obtain ⟨n, rfl⟩ : ∃ m, n = m + 1 := ⟨n - 1, by omega⟩
    have hi : i = 61 := by omega
    subst hi
    rw [f_X7_keepDraft_2, if_pos le61, rowF_nil (Nat.le_refl _)]
    rfl
  | succ k ih =>
    intro n i u hi hn
    obtain ⟨n, rfl⟩ : ∃ m, n = m + 1 := ⟨n - 1, by omega⟩
    rw [f_X7_keepDraft_2, if_neg (ge61 (by omega)), if_pos (z_inN (by omega) (by decide)), if_pos (z_inN (by omega) (by decide)), zlet_eq, o_cl (by omega)]
    rw [o_1, ih n (i + 1) _ (by omega) (by omega), zU_ne u i (u 4 i) (show 4 ≠ 1 by decide), rowF_step (g := u 4) (by omega)]
theorem keepDraft_eq (u : zM) : f_X7_keepDraft u = some (kdU (rowF u 1 0 61 (u 4))) := keepDraft_loop 61 FU 0 u rfl (FU_pos (by decide))
def stU (u : zM) : zM := zU (rowF u 2 0 61 (u 1)) 0 16 (-4)
theorem starts_loop (k : Nat) : ∀ (n i : Nat) (u : zM), i + k = 61 → k < n → f_X7_starts_2 n u (Int32.ofNat i) = some (zU (rowF u 2 i 61 (u 1)) 0 16 (-4)) := by
  induction k with
  | zero =>
    intro n i u hi hn
    obtain ⟨n, rfl⟩ : ∃ m, n = m + 1 := ⟨n - 1, by omega⟩
    have hi : i = 61 := by omega
    subst hi
    rw [f_X7_starts_2, if_pos le61, rowF_nil (Nat.le_refl _)]
    rfl
  | succ k ih =>
    intro n i u hi hn
    obtain ⟨n, rfl⟩ : ∃ m, n = m + 1 := ⟨n - 1, by omega⟩
    rw [f_X7_starts_2, if_neg (ge61 (by omega)), if_pos (z_inN (by omega) (by decide)), if_pos (z_inN (by omega) (by decide)), zlet_eq, o_cl (by omega)]
    rw [o_1, ih n (i + 1) _ (by omega) (by omega), zU_ne u i (u 1 i) (show 1 ≠ 2 by decide), rowF_step (g := u 1) (by omega)]
theorem starts_eq (u : zM) : f_X7_starts u = some (stU u) := starts_loop 61 FU 0 u rfl (FU_pos (by decide))
theorem zr_0 {n : Nat} (h : 0 < n) : zr 0 n := ⟨0, h, rfl⟩
theorem rel_init : ∃ u8 u9 : zM, f_X7_firstDraft u7 = some u8 ∧ f_X7_keepDraft u8 = some u9 ∧ Rel S0 u9 := by
  refine ⟨_, _, firstDraft_eq u7, keepDraft_eq _, ?_⟩
  generalize hw : kdU (rowF (fdU u7) 1 0 61 (fdU u7 4)) = w
  have h1 : ∀ k, w 1 k = 0 := by
    intro k
    rw [← hw]
    simp [kdU, fdU, rowF, zU, va_up, upd, u7]
  have h3 : ∀ k, w 3 k = 0 := by
    intro k
    rw [← hw]
    simp [kdU, fdU, rowF, zU, va_up, upd, u7]
  have h0 : w 0 3 = 0 ∧ w 0 9 = 0 ∧ w 0 14 = 0 ∧ w 0 27 = 0 := by
    rw [← hw]
    simp [kdU, fdU, rowF, zU, va_up, upd, u7]
  have h8 : ∀ k, k < 4 → w 8 k = -4 := by
    intro k hk
    rw [← hw]
    match k, hk with
    | 0, _ => simp [kdU, fdU, rowF, zU, va_up, upd, u7]
    | 1, _ => simp [kdU, fdU, rowF, zU, va_up, upd, u7]
    | 2, _ => simp [kdU, fdU, rowF, zU, va_up, upd, u7]
    | 3, _ => simp [kdU, fdU, rowF, zU, va_up, upd, u7]
    | k + 4, hk => omega
  refine ⟨0, 0, 0, 0, ⟨by decide, by decide, by omega, rfl, rfl, h1 _, rfl, h1 _, fun p hp => absurd hp (Nat.not_lt_zero _), fun b hb => absurd hb (Nat.not_lt_zero _), fun k hk => ⟨(h1 _).symm, (h1 (35 + k)) ▸ zr_0 (by decide)⟩⟩, by decide, h0.1, ⟨by decide, rfl, h1 _, fun i hi => absurd hi (Nat.not_lt_zero _)⟩, ?_, ⟨0, by decide, rfl, h0.2.1, fun i hi => absurd hi (Nat.not_lt_zero _)⟩, h0.2.2.1.symm, ?_, h0.2.2.2.symm⟩
  · intro k hk
    refine ⟨?_, Or.inl (h3 k)⟩
    rw [h3]
    unfold S0
    rw [if_neg (by omega)]
    rfl
  · intro k hk
    refine Or.inl ⟨?_, h8 k hk⟩
    unfold S0
    rw [if_pos (by omega)]
    rfl
