theorem i32_nle {a b : Int32} : ¬ a ≤ b ↔ b < a := by
  rw [Int32.le_iff_toInt_le, Int32.lt_iff_toInt_lt]; omega
theorem i32_nlt {a b : Int32} : ¬ a < b ↔ b ≤ a := by
  rw [Int32.le_iff_toInt_le, Int32.lt_iff_toInt_lt]; omega
theorem cr_tr {P nb d : Nat} {C u : zM} (h : CR P nb d C (u 2)) (hP : u 0 3 = Int32.ofNat P) (h16 : u 0 16 = -4) (hd : d < 1000) : TR 6 P nb nb d C u := by
  obtain ⟨hP4, hnb, hpos, h0, h1, h2, h3, h4, hp, hB, hw⟩ := h
  refine ⟨hP4, hnb, Or.inr ⟨hnb, rfl, h16⟩, hpos, by omega, hP, h0, h1, h2, h3, h4, ?_, ?_, ?_⟩
  · intro p hpp
    obtain ⟨e, x, hx, f⟩ := hp p hpp
    exact ⟨x, hx, e.trans f, f⟩
  · intro j hj hja
    rw [un_le (by omega)]
    obtain ⟨e1, ⟨k, hk, f1⟩, e2, ⟨s, hs1, hs, f2⟩, e3, ⟨o, ho, f3⟩, e4, e5⟩ := hB j hj
    refine ⟨k, s, o, hk, hs1, hs, ho, e1.trans f1, f1, e2.trans f2, f2, e3.trans f3, f3, ?_⟩
    rcases e5 with ⟨g1, g2, x, hx, g3⟩ | ⟨p, hp', g1⟩
    · exact Or.inl ⟨x, hx, e4.trans g1, g1, g2.trans g3, g3⟩
    · exact Or.inr ⟨p, hp', e4.trans g1, g1⟩
  · intro k hk
    obtain ⟨e, x, hx, f⟩ := hw k hk
    exact ⟨x, hx, e.trans f, f⟩
theorem tr_cr {P n d : Nat} {C u : zM} (h : TR 6 P n n d C u) : CR P n d C (u 2) := by
  obtain ⟨hP, hN, ha, hpos, hd0, uP, CP, Cn, uN, Cd, ud, hp, hB, hw⟩ := h
  refine ⟨hP, hN, hpos, CP, Cn, uN, Cd, ud, ?_, ?_, ?_⟩
  · intro p hpp
    obtain ⟨x, hx, e, f⟩ := hp p hpp
    exact ⟨e.trans f.symm, x, hx, f⟩
  · intro j hj
    have q := hB j hj (by omega)
    rw [un_le (by omega)] at q
    obtain ⟨k, s, o, hk, hs1, hs, ho, e1, e2, e3, e4, e5, e6, e7⟩ := q
    refine ⟨e1.trans e2.symm, ⟨k, hk, e2⟩, e3.trans e4.symm, ⟨s, hs1, hs, e4⟩, e5.trans e6.symm, ⟨o, ho, e6⟩, ?_, ?_⟩
    · rcases e7 with ⟨x, hx, g1, g2, g3, g4⟩ | ⟨p, hp', g1, g2⟩
      · exact g1.trans g2.symm
      · exact g1.trans g2.symm
    · rcases e7 with ⟨x, hx, g1, g2, g3, g4⟩ | ⟨p, hp', g1, g2⟩
      · exact Or.inl ⟨g2, g3.trans g4.symm, x, hx, g4⟩
      · exact Or.inr ⟨p, hp', g2⟩
  · intro k hk
    obtain ⟨x, hx, e, f⟩ := hw k hk
    exact ⟨e.trans f.symm, x, hx, f⟩
theorem flag0 : f_X7_flag 0 = some 0 := by decide +kernel
theorem flag1 : f_X7_flag 1 = some 1 := by decide +kernel
theorem sit_loop {P n d : Nat} {C u : zM} (h : TR 6 P n n d C u) (t : Nat) : ∀ (m m' i x : Nat), i + t = n → t < m → t < m' → ∃ y, y ≤ x + t ∧ f_X0_sitting_4 m C (Int32.ofNat x) (Int32.ofNat i) = some (Int32.ofNat y) ∧ f_X7_sitting_4 m' u (Int32.ofNat x) (Int32.ofNat i) = some (Int32.ofNat y) := by
  have hn := tr_n h
  have Cn := h.2.2.2.2.2.2.2.1
  have uN := h.2.2.2.2.2.2.2.2.1
  induction t with
  | zero =>
    intro m m' i x hi hm hm'
    obtain ⟨m, rfl⟩ : ∃ q, m = q + 1 := ⟨m - 1, by omega⟩
    obtain ⟨m', rfl⟩ : ∃ q, m' = q + 1 := ⟨m' - 1, by omega⟩
    have hi : i = n := by omega
    subst hi
    rw [f_X0_sitting_4, f_X7_sitting_4, if_pos z34, c34, uN, Cn, if_pos (Int32.le_refl _), if_pos (Int32.le_refl _)]
    exact ⟨x, Nat.le_refl _, rfl, rfl⟩
  | succ t ih =>
    intro m m' i x hi hm hm'
    obtain ⟨m, rfl⟩ : ∃ q, m = q + 1 := ⟨m - 1, by omega⟩
    obtain ⟨m', rfl⟩ : ∃ q, m' = q + 1 := ⟨m' - 1, by omega⟩
    have hs := sitsC h (show i < n by omega) (show i ≠ 6 by omega)
    rw [un_le (show i ≤ 6 by omega)] at hs
    rw [f_X0_sitting_4, f_X7_sitting_4, if_pos z34, c34, uN, Cn, if_neg (nle (by omega) (by omega)), if_neg (nle (by omega) (by omega)), hs, of4 u (show i < 6 by omega)]
    simp only [Option.bind_some]
    by_cases hc : u 2 (8 + 5 * i) = -4
    · rw [decide_eq_true hc, if_pos hc]
      simp only [Bool.not_true, Bool.false_eq_true, ↓reduceIte]
      rw [flag0]
      simp only [Option.bind_some]
      rw [Int32.add_zero, o_1]
      obtain ⟨y, hy, q⟩ := ih m m' (i + 1) x (by omega) (by omega) (by omega)
      exact ⟨y, by omega, q⟩
    · rw [decide_eq_false hc, if_neg hc]
      simp only [Bool.not_false, ↓reduceIte]
      rw [flag1]
      simp only [Option.bind_some]
      rw [o_1, o_1]
      obtain ⟨y, hy, q⟩ := ih m m' (i + 1) (x + 1) (by omega) (by omega) (by omega)
      exact ⟨y, by omega, q⟩
theorem sit_eq {P n d : Nat} {C u : zM} (h : TR 6 P n n d C u) : ∃ y, y ≤ 6 ∧ f_X0_sitting C = some (Int32.ofNat y) ∧ f_X7_sitting u = some (Int32.ofNat y) := by
  have hn := tr_n h
  obtain ⟨y, hy, e1, e2⟩ := sit_loop h n FU FU 0 0 (by omega) (FU_pos (by omega)) (FU_pos (by omega))
  exact ⟨y, by omega, e1, e2⟩
theorem all_loop {a P N n d : Nat} {C u : zM} (h : TR a P N n d C u) (t : Nat) : ∀ (m m' i x : Nat), i + t = P → t < m → t < m' → ∃ y, y ≤ x + 108 * t ∧ f_X0_countedOfAll_4 m C (Int32.ofNat x) (Int32.ofNat i) = some (Int32.ofNat y) ∧ f_X7_allCounted_4 m' u (Int32.ofNat x) (Int32.ofNat i) = some (Int32.ofNat y) := by
  have hP := h.1
  have uP := h.2.2.2.2.2.1
  have CP := h.2.2.2.2.2.2.1
  induction t with
  | zero =>
    intro m m' i x hi hm hm'
    obtain ⟨m, rfl⟩ : ∃ q, m = q + 1 := ⟨m - 1, by omega⟩
    obtain ⟨m', rfl⟩ : ∃ q, m' = q + 1 := ⟨m' - 1, by omega⟩
    have hi : i = P := by omega
    subst hi
    rw [f_X0_countedOfAll_4, f_X7_allCounted_4, uP, CP, if_pos (Int32.le_refl _), if_pos (Int32.le_refl _)]
    exact ⟨x, Nat.le_refl _, rfl, rfl⟩
  | succ t ih =>
    intro m m' i x hi hm hm'
    obtain ⟨m, rfl⟩ : ∃ q, m = q + 1 := ⟨m - 1, by omega⟩
    obtain ⟨m', rfl⟩ : ∃ q, m' = q + 1 := ⟨m' - 1, by omega⟩
    rw [f_X0_countedOfAll_4, f_X7_allCounted_4, uP, CP, if_neg (nle (by omega) (by omega)), if_neg (nle (by omega) (by omega)), countedC h, countedM h]
    simp only [Option.bind_some]
    rw [o_1, o_add]
    have := cS_108 h (Int32.ofNat i)
    obtain ⟨y, hy, q⟩ := ih m m' (i + 1) (x + cS C (Int32.ofNat i) n) (by omega) (by omega) (by omega)
    exact ⟨y, by omega, q⟩
theorem all_eq {a P N n d : Nat} {C u : zM} (h : TR a P N n d C u) : ∃ y, y ≤ 1000 ∧ f_X0_countedOfAll C = some (Int32.ofNat y) ∧ f_X7_allCounted u = some (Int32.ofNat y) := by
  have hP := h.1
  obtain ⟨y, hy, e1, e2⟩ := all_loop h P FU FU 0 0 (by omega) (FU_pos (by omega)) (FU_pos (by omega))
  exact ⟨y, by omega, e1, e2⟩
theorem most_loop {a P N n d : Nat} {C u : zM} (h : TR a P N n d C u) (t : Nat) : ∀ (m m' i : Nat) (v w : Int32), i + t = P → t < m → t < m' → (v = -4 ∧ w = 0 ∨ (∃ f, f < P ∧ v = Int32.ofNat f) ∧ w = Int32.ofNat (cS C v n)) → ∃ y, f_X0_mostCounted_7 m C v w (Int32.ofNat i) = some y ∧ f_X7_mostCounted_5 m' u v (Int32.ofNat i) = some y := by
  have hP := h.1
  have uP := h.2.2.2.2.2.1
  have CP := h.2.2.2.2.2.2.1
  induction t with
  | zero =>
    intro m m' i v w hi hm hm' hv
    obtain ⟨m, rfl⟩ : ∃ q, m = q + 1 := ⟨m - 1, by omega⟩
    obtain ⟨m', rfl⟩ : ∃ q, m' = q + 1 := ⟨m' - 1, by omega⟩
    have hi : i = P := by omega
    subst hi
    rw [f_X0_mostCounted_7, f_X7_mostCounted_5, uP, CP, if_pos (Int32.le_refl _), if_pos (Int32.le_refl _)]
    exact ⟨v, rfl, rfl⟩
  | succ t ih =>
    intro m m' i v w hi hm hm' hv
    obtain ⟨m, rfl⟩ : ∃ q, m = q + 1 := ⟨m - 1, by omega⟩
    obtain ⟨m', rfl⟩ : ∃ q, m' = q + 1 := ⟨m' - 1, by omega⟩
    rw [f_X0_mostCounted_7, f_X7_mostCounted_5, uP, CP, if_neg (nle (by omega) (by omega)), if_neg (nle (by omega) (by omega)), countedC h, countedM h]
    simp only [Option.bind_some]
    rw [o_1]
    rcases hv with ⟨rfl, rfl⟩ | ⟨⟨f, hf, rfl⟩, rfl⟩
    · rw [if_pos rfl]
      by_cases hc : Int32.ofNat (cS C (Int32.ofNat i) n) ≤ 0
      · rw [if_pos hc, if_pos hc]
        exact ih m m' (i + 1) _ _ (by omega) (by omega) (by omega) (Or.inl ⟨rfl, rfl⟩)
      · rw [if_neg hc, if_neg hc]
        exact ih m m' (i + 1) _ _ (by omega) (by omega) (by omega) (Or.inr ⟨⟨i, by omega, rfl⟩, rfl⟩)
    · rw [if_neg (ne4 (by omega)), countedM h]
      simp only [Option.bind_some]
      by_cases hc : Int32.ofNat (cS C (Int32.ofNat i) n) ≤ Int32.ofNat (cS C (Int32.ofNat f) n)
      · rw [if_pos hc, if_pos hc]
        exact ih m m' (i + 1) _ _ (by omega) (by omega) (by omega) (Or.inr ⟨⟨f, hf, rfl⟩, rfl⟩)
      · rw [if_neg hc, if_neg hc]
        exact ih m m' (i + 1) _ _ (by omega) (by omega) (by omega) (Or.inr ⟨⟨i, by omega, rfl⟩, rfl⟩)
theorem most_eq {a P N n d : Nat} {C u : zM} (h : TR a P N n d C u) : ∃ y, f_X0_mostCounted C = some y ∧ f_X7_mostCounted u = some y := by
  have hP := h.1
  exact most_loop h P FU FU 0 (-4) 0 (by omega) (FU_pos (by omega)) (FU_pos (by omega)) (Or.inl ⟨rfl, rfl⟩)
theorem wayF {P : Nat} {u : zM} (hP : P ≤ 4) (uP : u 0 3 = Int32.ofNat P) (v : Int32) (t : Nat) : ∀ (m i : Nat), i + t = P → t < m → f_X7_isMadeWayFor_4 m u v false (Int32.ofNat i) = some false := by
  induction t with
  | zero =>
    intro m i hi hm
    obtain ⟨m, rfl⟩ : ∃ q, m = q + 1 := ⟨m - 1, by omega⟩
    have hi : i = P := by omega
    subst hi
    rw [f_X7_isMadeWayFor_4, uP, if_pos (Int32.le_refl _)]
  | succ t ih =>
    intro m i hi hm
    obtain ⟨m, rfl⟩ : ∃ q, m = q + 1 := ⟨m - 1, by omega⟩
    rw [f_X7_isMadeWayFor_4, uP, if_neg (nle (by omega) (by omega)), if_neg (by decide), o_1]
    exact ih m (i + 1) (by omega) (by omega)
theorem way_loop {a P N n d : Nat} {C u : zM} (h : TR a P N n d C u) (v : Int32) (t : Nat) : ∀ (m m' i : Nat), i + t = P → t < m → t < m' → ∃ y, f_X0_allMakeWayFor_2 m C v (Int32.ofNat i) = some y ∧ f_X7_isMadeWayFor_4 m' u v true (Int32.ofNat i) = some y := by
  have hP := h.1
  have uP := h.2.2.2.2.2.1
  have CP := h.2.2.2.2.2.2.1
  induction t with
  | zero =>
    intro m m' i hi hm hm'
    obtain ⟨m, rfl⟩ : ∃ q, m = q + 1 := ⟨m - 1, by omega⟩
    obtain ⟨m', rfl⟩ : ∃ q, m' = q + 1 := ⟨m' - 1, by omega⟩
    have hi : i = P := by omega
    subst hi
    rw [f_X0_allMakeWayFor_2, f_X7_isMadeWayFor_4, uP, CP, if_pos (Int32.le_refl _), if_pos (Int32.le_refl _)]
    exact ⟨true, rfl, rfl⟩
  | succ t ih =>
    intro m m' i hi hm hm'
    obtain ⟨m, rfl⟩ : ∃ q, m = q + 1 := ⟨m - 1, by omega⟩
    obtain ⟨m', rfl⟩ : ∃ q, m' = q + 1 := ⟨m' - 1, by omega⟩
    rw [f_X0_allMakeWayFor_2, f_X7_isMadeWayFor_4, uP, CP, if_neg (nle (by omega) (by omega)), if_neg (nle (by omega) (by omega)), if_pos rfl, o_1]
    by_cases hq : Int32.ofNat i = v
    · rw [if_pos hq, if_pos hq]
      exact ih m m' (i + 1) (by omega) (by omega) (by omega)
    · rw [if_neg hq, if_neg hq, countedC h, countedC h, countedM h, countedM h]
      simp only [Option.bind_some]
      by_cases hc : Int32.ofNat (cS C v n) ≤ Int32.ofNat (cS C (Int32.ofNat i) n)
      · rw [if_pos hc, if_neg (i32_nlt.mpr hc), wayF hP uP v t m' (i + 1) (by omega) (by omega)]
        exact ⟨false, rfl, rfl⟩
      · rw [if_neg hc, if_pos (i32_nle.mp hc)]
        exact ih m m' (i + 1) (by omega) (by omega) (by omega)
theorem way_eq {a P N n d : Nat} {C u : zM} (h : TR a P N n d C u) (v : Int32) : ∃ y, f_X0_allMakeWayFor C v = some y ∧ f_X7_isMadeWayFor u v = some y := by
  have hP := h.1
  exact way_loop h v P FU FU 0 (by omega) (FU_pos (by omega)) (FU_pos (by omega))
theorem cop (C D : zM) : ∃ D', f_X0_copyFrom C D = some D' ∧ (D' 0 0 = C 0 0 ∧ D' 0 1 = C 0 1 ∧ D' 0 2 = C 0 2 ∧ (∀ k, k < 4 → D' 1 k = C 1 k) ∧ ∀ k, k < 6 → D' 2 k = C 2 k ∧ D' 3 k = C 3 k ∧ D' 4 k = C 4 k ∧ D' 5 k = C 5 k ∧ D' 6 k = C 6 k ∧ D' 7 k = C 7 k) ∧ D' 0 3 = 0 ∧ D' 0 4 = 0 := by
  obtain ⟨D1, e1, f⟩ := copy_C C D
  refine ⟨D1, e1, f, ?_⟩
  unfold f_X0_copyFrom at e1
  simp only [zlet_eq] at e1
  rw [← Option.some.inj e1]
  simp (disch := decide) only [va_up_neq, va_up_eq, zU_ne, zu_j, zu_eq, and_self]
/-- the reference begins to run; a copy of the class's now runs beside it -/
theorem begins {S : Nat → zM} {u : zM} (h : Rel S u) : ∃ P nb d, P ≤ 4 ∧ nb ≤ 6 ∧ d < 1000 ∧ u 0 3 = Int32.ofNat P ∧ S 4 0 0 = Int32.ofNat P ∧ S 4 0 1 = Int32.ofNat nb ∧ u 1 34 = Int32.ofNat nb ∧ CR P nb d (S 4) (u 1) ∧ CR P nb d (S 4) (stU u 2) ∧ TR 6 P nb nb d (S 4) (stU u) := by
  obtain ⟨P, nb, d, m, hC, hd, hP, hN, hI, hT, hF, hH, hR⟩ := id h
  obtain ⟨r1, r2, r3, r4, r5⟩ := rel_starts h
  have hc := cr_starts hC
  exact ⟨P, nb, d, hC.1, hC.2.1, hd, hP, hC.2.2.2.1, hC.2.2.2.2.1, hC.2.2.2.2.2.1, hC, hc, cr_tr hc (r4.trans hP) r3 hd⟩
theorem rel_run {S : Nat → zM} {u u' : zM} (h : Rel S u) (hf : Fr u u') (C' : zM) : Rel (va_up S 5 C') u' := by
  refine rel_scr h ?_ ?_ ?_ ?_ ?_
  · intro i _ _ _ _ h5
    exact va_up_neq _ _ h5
  · rw [va_up_neq _ _ (by decide)]
  · rw [va_up_neq _ _ (by decide)]
  · intro j hj
    exact hf.1 j (by omega) (by omega)
  · intro k hk
    exact hf.2.1 k (by omega) (by omega)
theorem rel_runM {S : Nat → zM} {u u' : zM} (h : Rel S u) (hf : Fr u u') : Rel S u' := by
  have q := rel_run h hf (S 5)
  rw [va_self] at q
  exact q
theorem isFar_eq (v : Int32) : f_X7_isFar v = some (zw v 0 60) := by
  unfold f_X7_isFar
  rw [in_0_60]; rfl
theorem isPart_eq (v : Int32) : f_X7_isPart v = some (zw v 0 1) := by
  unfold f_X7_isPart
  rw [in_0_1]; rfl
