theorem cpy_0 (v w : Nat → Int32) {n k : Nat} (h : k < n) : va_cpy v w 0 0 n k = v k := by
  simp only [va_cpy]
  split
  · congr 1 <;> omega
  · omega
theorem copy_C (C D : zM) : ∃ D', f_X0_copyFrom C D = some D' ∧ D' 0 0 = C 0 0 ∧ D' 0 1 = C 0 1 ∧ D' 0 2 = C 0 2 ∧ (∀ k, k < 4 → D' 1 k = C 1 k) ∧ ∀ k, k < 6 → D' 2 k = C 2 k ∧ D' 3 k = C 3 k ∧ D' 4 k = C 4 k ∧ D' 5 k = C 5 k ∧ D' 6 k = C 6 k ∧ D' 7 k = C 7 k := by
  unfold f_X0_copyFrom
  simp only [zlet_eq]
  refine ⟨_, rfl, ?_, ?_, ?_, fun k hk => ?_, fun k hk => ⟨?_, ?_, ?_, ?_, ?_, ?_⟩⟩
  · simp (disch := decide) only [va_up_neq, va_up_eq, zU_ne, zu_j, zu_eq]
  · simp (disch := decide) only [va_up_neq, va_up_eq, zU_ne, zu_j, zu_eq]
  · simp (disch := decide) only [va_up_neq, va_up_eq, zU_ne, zu_j, zu_eq]
  all_goals
    simp (disch := decide) only [va_up_neq, va_up_eq]
    exact cpy_0 _ _ hk
theorem copy_N (C D : zM) : ∃ D', f_X2_copyFrom C D = some D' ∧ D' 0 0 = C 0 0 ∧ ∀ k, k < 6 → D' 1 k = C 1 k ∧ D' 2 k = C 2 k ∧ D' 3 k = C 3 k := by
  unfold f_X2_copyFrom
  simp only [zlet_eq]
  refine ⟨_, rfl, ?_, fun k hk => ⟨?_, ?_, ?_⟩⟩
  · simp (disch := decide) only [va_up_neq, va_up_eq, zU_ne, zu_j, zu_eq]
  all_goals
    simp (disch := decide) only [va_up_neq, va_up_eq]
    exact cpy_0 _ _ hk
theorem cr_copy {P nb d : Nat} {C D' : zM} {v : Nat → Int32} (h : CR P nb d C v) (e : D' 0 0 = C 0 0 ∧ D' 0 1 = C 0 1 ∧ D' 0 2 = C 0 2 ∧ (∀ k, k < 4 → D' 1 k = C 1 k) ∧ ∀ k, k < 6 → D' 2 k = C 2 k ∧ D' 3 k = C 3 k ∧ D' 4 k = C 4 k ∧ D' 5 k = C 5 k ∧ D' 6 k = C 6 k ∧ D' 7 k = C 7 k) : CR P nb d D' v := by
  obtain ⟨hP, hnb, hpos, h0, h1, h2, h3, h4, hp, hB, hw⟩ := h
  obtain ⟨e0, e1, e2, e3, e4⟩ := e
  refine ⟨hP, hnb, hpos, by rw [e0]; exact h0, by rw [e1]; exact h1, h2, by rw [e2]; exact h3, h4, ?_, ?_, ?_⟩
  · intro p hpp
    rw [e3 p (by omega)]; exact hp p hpp
  · intro b hb
    obtain ⟨f2, f3, f4, f5, f6, f7⟩ := e4 b (by omega)
    rw [f2, f3, f4, f5, f6]
    exact hB b hb
  · intro k hk
    rw [(e4 k hk).2.2.2.2.2]; exact hw k hk
theorem snr_copy {P m : Nat} {N N' : zM} {v : Nat → Int32} (h : SNR P m N v) (e : N' 0 0 = N 0 0 ∧ ∀ k, k < 6 → N' 1 k = N 1 k ∧ N' 2 k = N 2 k ∧ N' 3 k = N 3 k) : SNR P m N' v := by
  obtain ⟨a, b, c, q⟩ := h
  refine ⟨a, by rw [e.1]; exact b, c, fun i hi => ?_⟩
  obtain ⟨f1, f2, f3⟩ := e.2 i (by omega)
  rw [f1, f2, f3]
  exact q i hi
theorem snr_cong {P m : Nat} {N : zM} {v v' : Nat → Int32} (h : SNR P m N v) (e : ∀ k, k < 61 → v' k = v k) : SNR P m N v' := by
  obtain ⟨a, b, c, q⟩ := h
  refine ⟨a, b, by rw [e 42 (by decide)]; exact c, fun i hi => ?_⟩
  rw [e (43 + 3 * i) (by omega), e (44 + 3 * i) (by omega), e (45 + 3 * i) (by omega)]
  exact q i hi
theorem imr_cong {P : Nat} {I C N : zM} {f : Int32} {v v' : Nat → Int32} (h : ImR P I C N f v) (e : ∀ k, k < 61 → v' k = v k) : ImR P I C N f v' := by
  obtain ⟨a, b | ⟨b, nb, d, m, hd, q1, q2⟩⟩ := h
  · exact ⟨a, Or.inl b⟩
  · exact ⟨a, Or.inr ⟨b, nb, d, m, hd, cr_cong q1 (fun k hk => e k (by omega)), snr_cong q2 e⟩⟩
theorem copies_loop (t : Nat) {a b : Nat} (ha : a + 61 ≤ 183) (hb : b + 61 ≤ 183) (hab : a + 61 ≤ b ∨ b + 61 ≤ a) (g : Nat → Int32) : ∀ (n i : Nat) (u : zM), i + t = 61 → t < n → (∀ j, i ≤ j → j < 61 → u 1 (b + j) = g (a + j)) → f_X7_copies_2 n u (Int32.ofNat a) (Int32.ofNat b) (Int32.ofNat i) = some (rowF u 1 (a + i) (a + 61) g) := by
  induction t with
  | zero =>
    intro n i u hi hn hg
    obtain ⟨n, rfl⟩ : ∃ m, n = m + 1 := ⟨n - 1, by omega⟩
    have hi : i = 61 := by omega
    subst hi
    rw [f_X7_copies_2, if_pos le61, rowF_nil (Nat.le_refl _)]
  | succ t ih =>
    intro n i u hi hn hg
    obtain ⟨n, rfl⟩ : ∃ m, n = m + 1 := ⟨n - 1, by omega⟩
    rw [f_X7_copies_2, if_neg (ge61 (by omega)), o_add, o_add, if_pos (z_inN (by omega) (by decide)), if_pos (z_inN (by omega) (by decide)), zlet_eq, o_cl (by omega), o_cl (by omega), o_1, hg i (Nat.le_refl _) (by omega)]
    rw [ih n (i + 1) _ (by omega) (by omega) ?_, show a + (i + 1) = (a + i) + 1 by omega, rowF_step (by omega)]
    intro j hj hj6
    rw [zu_j _ _ _ _ (by omega)]
    exact hg j (by omega) hj6
theorem copies_eq {u : zM} {a b : Nat} (ha : a + 61 ≤ 183) (hb : b + 61 ≤ 183) (hab : a + 61 ≤ b ∨ b + 61 ≤ a) : f_X7_copies u (Int32.ofNat a) (Int32.ofNat b) = some (rowF u 1 a (a + 61) (fun k => u 1 (b + (k - a)))) :=
  copies_loop 61 ha hb hab (fun k => u 1 (b + (k - a))) FU 0 u rfl (FU_pos (by decide)) (fun j _ _ => by rw [show a + j - a = j by omega])
