/-! the calls that look at what is, or at days as they would be -/
def RC (P nb d : Nat) (S : Nat → zM) (u : zM) : Prop := Rel S u ∧ d < 1000 ∧ u 0 3 = Int32.ofNat P ∧ CR P nb d (S 4) (u 1)
theorem rc_of {S : Nat → zM} {u : zM} (h : Rel S u) : ∃ P nb d, RC P nb d S u := by
  obtain ⟨P, nb, d, m, hC, hd, hP, hN, hI, hT, hF, hH, hR⟩ := id h
  exact ⟨P, nb, d, h, hd, hP, hC⟩
theorem RC.run {P nb d : Nat} {S : Nat → zM} {u u' : zM} (h : RC P nb d S u) (hf : Fr u u') (C' : zM) : RC P nb d (va_up S 5 C') u' := by
  obtain ⟨h1, h2, h3, h4⟩ := h
  refine ⟨rel_run h1 hf C', h2, (hf.2.1 3 (by decide) (by decide)).trans h3, ?_⟩
  rw [va_up_neq _ _ (by decide), hf.1 1 (by decide) (by decide)]
  exact h4
theorem RC.runM {P nb d : Nat} {S : Nat → zM} {u u' : zM} (h : RC P nb d S u) (hf : Fr u u') : RC P nb d S u' := by
  have q := h.run hf (S 5)
  rw [va_self] at q
  exact q
theorem RC.st {P nb d : Nat} {S : Nat → zM} {u : zM} (h : RC P nb d S u) : RC P nb d S (stU u) := by
  obtain ⟨h1, h2, h3, h4⟩ := h
  obtain ⟨r1, r2, r3, r4, r5⟩ := rel_starts h1
  exact ⟨r1, h2, r4.trans h3, by rw [r5]; exact h4⟩
theorem RC.c2 {P nb d : Nat} {S : Nat → zM} {u : zM} (h : RC P nb d S u) : CR P nb d (S 4) (stU u 2) := cr_starts h.2.2.2
theorem RC.tr {P nb d : Nat} {S : Nat → zM} {u : zM} (h : RC P nb d S u) : TR 6 P nb nb d (S 4) (stU u) := by
  obtain ⟨h1, h2, h3, h4⟩ := h
  obtain ⟨r1, r2, r3, r4, r5⟩ := rel_starts h1
  exact cr_tr (cr_starts h4) (r4.trans h3) r3 h2
theorem RC.cpy {P nb d : Nat} {S : Nat → zM} {u : zM} (h : RC P nb d S u) (X : zM) : ∃ D, f_X0_copyFrom (S 4) X = some D ∧ CR P nb d D (stU u 2) ∧ D 0 3 = 0 ∧ D 0 4 = 0 ∧ TR 6 P nb nb d D (stU u) := by
  obtain ⟨D, e1, e2, e3, e4⟩ := cop (S 4) X
  obtain ⟨h1, h2, h3, h4⟩ := h
  obtain ⟨r1, r2, r3, r4, r5⟩ := rel_starts h1
  have q := cr_copy (cr_starts h4) e2
  exact ⟨D, e1, q, e3, e4, cr_tr q (r4.trans h3) r3 h2⟩
theorem RC.b4 {P nb d : Nat} {S : Nat → zM} {u : zM} (h : RC P nb d S u) : P ≤ 4 ∧ nb ≤ 6 ∧ S 4 0 0 = Int32.ofNat P ∧ S 4 0 1 = Int32.ofNat nb ∧ u 1 34 = Int32.ofNat nb := ⟨h.2.2.2.1, h.2.2.2.2.1, h.2.2.2.2.2.2.1, h.2.2.2.2.2.2.2.1, h.2.2.2.2.2.2.2.2.1⟩
/-- the copy and the running row are changed alike -/
theorem RC.edit {P nb d : Nat} {S : Nat → zM} {u D : zM} (h : RC P nb d S u) (hD : CR P nb d D (stU u 2)) {c i q : Nat} {x : Int32}
    (hc : (c = 1 ∧ i < P ∧ i = q ∧ zr x 10) ∨ (c = 7 ∧ i < 6 ∧ q = 35 + i ∧ zr x 10) ∨ (c = 2 ∧ i < nb ∧ q = 4 + 5 * i ∧ zr x 4) ∨ (c = 3 ∧ i < nb ∧ q = 5 + 5 * i ∧ ∃ k, 1 ≤ k ∧ k < 10 ∧ x = Int32.ofNat k) ∨ (c = 4 ∧ i < nb ∧ q = 6 + 5 * i ∧ zr x P)) :
    CR P nb d (zU D c i x) (zU (stU u) 2 q x 2) ∧ TR 6 P nb nb d (zU D c i x) (zU (stU u) 2 q x) ∧ Fr (stU u) (zU (stU u) 2 q x) := by
  have hb := h.b4
  obtain ⟨h1, h2, h3, h4⟩ := h
  obtain ⟨r1, r2, r3, r4, r5⟩ := rel_starts h1
  have q1 := cr_up hD hc
  rw [← zU_row (stU u) 2 q x] at q1
  have hq : q < 42 := by
    rcases hc with ⟨_, _, _, _⟩ | ⟨_, _, _, _⟩ | ⟨_, _, _, _⟩ | ⟨_, _, _, _⟩ | ⟨_, _, _, _⟩ <;> omega
  refine ⟨q1, cr_tr q1 ?_ ?_ h2, fun j a b => zU_ne _ _ _ b, fun k a b => by rw [zU_ne _ _ _ (by decide)], fun k a => zu_j _ _ _ _ (by omega)⟩
  · rw [zU_ne _ _ _ (by decide)]; exact r4.trans h3
  · rw [zU_ne _ _ _ (by decide)]; exact r3
theorem api_rule {S : Nat → zM} {u : zM} (h : Rel S u) (a1 : Int32) : ∃ (r : Int32) (u' : zM), f_X6_rule S a1 = some r ∧ f_X7_rule u a1 = some (r, u') ∧ Rel S u' := by
  obtain ⟨P, nb, d, hc⟩ := rc_of h
  obtain ⟨hP4, hn6, SP, Sn, un4⟩ := hc.b4
  have r1 := hc.st.1
  have hT := hc.tr
  have e1 : stU u 1 = u 1 := (rel_starts h).2.2.2.2
  unfold f_X6_rule f_X7_rule
  rw [starts_eq]
  simp only [Option.bind_some, zlet_eq]
  by_cases h0 : a1 = 0
  · rw [if_pos h0, if_pos h0, hc.st.2.2.1, SP]
    exact ⟨_, _, rfl, rfl, r1⟩
  rw [if_neg h0, if_neg h0]
  by_cases h0 : a1 = 1
  · rw [if_pos h0, if_pos h0, if_pos (show z_in 34 183 = true by decide), c34, e1, un4, Sn]
    exact ⟨_, _, rfl, rfl, r1⟩
  rw [if_neg h0, if_neg h0]
  by_cases h0 : a1 = 2
  · rw [if_pos h0, if_pos h0, if_pos (show z_in 41 183 = true by decide), c41, e1, hc.2.2.2.2.2.2.2.2.2.1, hc.2.2.2.2.2.2.2.2.2.2.1]
    exact ⟨_, _, rfl, rfl, r1⟩
  rw [if_neg h0, if_neg h0]
  by_cases h0 : a1 = 3
  · obtain ⟨y, -, f1, f2⟩ := sit_eq hT
    rw [if_pos h0, if_pos h0, f1, f2]
    exact ⟨_, _, rfl, rfl, r1⟩
  rw [if_neg h0, if_neg h0]
  by_cases h0 : a1 = 4
  · obtain ⟨y, -, f1, f2⟩ := all_eq hT
    rw [if_pos h0, if_pos h0, f1, f2]
    exact ⟨_, _, rfl, rfl, r1⟩
  rw [if_neg h0, if_neg h0]
  by_cases h0 : a1 = 5
  · obtain ⟨y, f1, f2⟩ := most_eq hT
    rw [if_pos h0, if_pos h0, f1, f2]
    exact ⟨_, _, rfl, rfl, r1⟩
  rw [if_neg h0, if_neg h0]
  exact ⟨_, _, rfl, rfl, r1⟩
theorem api_meet {S : Nat → zM} {u : zM} (h : Rel S u) (a1 : Int32) (a2 : Int32) : ∃ (r : Int32) (u' : zM), f_X6_meet S a1 a2 = some r ∧ f_X7_meet u a1 a2 = some (r, u') ∧ Rel S u' := by
  obtain ⟨P, nb, d, hc⟩ := rc_of h
  obtain ⟨hP4, hn6, SP, Sn, un4⟩ := hc.b4
  have r1 := hc.st.1
  have hT := hc.tr
  unfold f_X6_meet f_X7_meet
  rw [hasOne_eq SP hP4, hasOne_eq SP hP4, isOne_eq hc.2.2.1 hP4, isOne_eq hc.2.2.1 hP4, starts_eq]
  simp only [Option.bind_some, zlet_eq]
  cases hz : zw a1 0 ((P : Int) - 1) with
  | false => exact ⟨-1, u, rfl, rfl, h⟩
  | true =>
    cases hy : zw a2 0 ((P : Int) - 1) with
    | false => exact ⟨-1, u, rfl, rfl, h⟩
    | true =>
      simp only [↓reduceIte]
      by_cases he : a1 = a2
      · rw [if_pos he, if_pos he]
        exact ⟨-1, u, rfl, rfl, h⟩
      · have l1 := cS_108 hT a1
        have l2 := cS_108 hT a2
        rw [if_neg he, if_neg he, countedC hT, countedC hT, countedM hT, countedM hT]
        simp only [Option.bind_some]
        rcases Nat.lt_trichotomy (cS (S 4) a1 nb) (cS (S 4) a2 nb) with c | c | c
        · rw [if_neg (o_ne (by omega) (by omega) (by omega)), if_neg (nle (by omega) (by omega)), if_neg (nle (by omega) (by omega))]
          exact ⟨_, _, rfl, rfl, r1⟩
        · rw [c, if_pos rfl, if_pos (Int32.le_refl _), if_pos (Int32.le_refl _)]
          exact ⟨_, _, rfl, rfl, r1⟩
        · rw [if_neg (o_ne (by omega) (by omega) (by omega)), if_pos ((o_le (by omega) (by omega)).mpr (by omega)), if_pos ((o_le (by omega) (by omega)).mpr (by omega)), if_neg (nle (by omega) (by omega))]
          exact ⟨_, _, rfl, rfl, r1⟩
theorem api_beetle {S : Nat → zM} {u : zM} (h : Rel S u) (a1 : Int32) (a2 : Int32) : ∃ (r : Int32) (u' : zM), f_X6_beetle S a1 a2 = some r ∧ f_X7_beetle u a1 a2 = some (r, u') ∧ Rel S u' := by
  obtain ⟨P, nb, d, hc⟩ := rc_of h
  obtain ⟨hP4, hn6, SP, Sn, un4⟩ := hc.b4
  have r1 := hc.st.1
  have hT := hc.tr
  unfold f_X6_beetle f_X7_beetle
  rw [hasBeetle_eq Sn hn6, isBeetle_eq un4 hn6, starts_eq]
  simp only [Option.bind_some, zlet_eq]
  cases hz : zw a1 0 ((nb : Int) - 1) with
  | false => exact ⟨-1, u, rfl, rfl, h⟩
  | true =>
    obtain ⟨b, hb, -, rfl⟩ := zw_nat hz
    have hb : b < nb := by omega
    have hB := hc.c2.2.2.2.2.2.2.2.2.2.1 b hb
    have i6 : z_in (Int32.ofNat b) 6 = true := z_inN (by omega) (by decide)
    have c6 : (Int32.ofNat b).toNatClampNeg = b := o_cl (by omega)
    simp only [↓reduceIte, i6, c6]
    by_cases h0 : a2 = 0
    · subst h0
      rw [if_pos rfl, if_pos rfl, of0 _ (by omega), hB.1]
      exact ⟨_, _, rfl, rfl, r1⟩
    rw [if_neg h0, if_neg h0]
    by_cases h0 : a2 = 1
    · subst h0
      rw [if_pos rfl, if_pos rfl, of1 _ (by omega), hB.2.2.1]
      exact ⟨_, _, rfl, rfl, r1⟩
    rw [if_neg h0, if_neg h0]
    by_cases h0 : a2 = 2
    · subst h0
      rw [if_pos rfl, if_pos rfl, of2 _ (by omega), hB.2.2.2.2.1]
      exact ⟨_, _, rfl, rfl, r1⟩
    rw [if_neg h0, if_neg h0]
    by_cases h0 : a2 = 3
    · rw [if_pos h0, if_pos h0, placeOfC hc.c2 hb, placeOfM hc.c2 hb]
      exact ⟨_, _, rfl, rfl, r1⟩
    rw [if_neg h0, if_neg h0]
    by_cases h0 : a2 = 4
    · subst h0
      rw [if_pos rfl, if_pos rfl, of4 _ (by omega), hB.2.2.2.2.2.2.1]
      exact ⟨_, _, rfl, rfl, r1⟩
    rw [if_neg h0, if_neg h0]
    by_cases h0 : a2 = 5
    · obtain ⟨q, -, f1, f2⟩ := seeks_eq hT hb (show b ≠ 6 by omega)
      rw [un_le (show b ≤ 6 by omega)] at f1
      rw [if_pos h0, if_pos h0, f1, f2]
      exact ⟨_, _, rfl, rfl, r1⟩
    rw [if_neg h0, if_neg h0]
    by_cases h0 : a2 = 6
    · rw [if_pos h0, if_pos h0, weightC _ (by omega), weightM _ (by omega), hB.1, hB.2.2.1]
      exact ⟨_, _, rfl, rfl, r1⟩
    rw [if_neg h0, if_neg h0]
    exact ⟨_, _, rfl, rfl, r1⟩
theorem or0 (x : Int32) : x ||| 0 = x := Int32.or_zero
theorem sh0 : ∀ i : Nat, i < 6 → (0 : Int32) <<< ((Int32.ofNat i : Int32) &&& 31) = 0 := by decide +kernel
noncomputable def oneE (u : zM) (p w s g : Int32) : Option (Int32 × zM) := if w = 0 then if z_in p 183 = true then some ((u 1 (Int32.toNatClampNeg p)), u) else none else if w = 1 then some (s, u) else if w = 2 then (f_X7_counted u p).bind fun r4 => some (r4, u) else if w = 3 then some (g, u) else some ((-1), u)
theorem one_loop {P nb d : Nat} {C u : zM} (h : TR 6 P nb nb d C u) (h1 : u 1 34 = Int32.ofNat nb) (p w : Int32) (t : Nat) : ∀ (m m' m'' i : Nat) (x y : Int32), i + t = nb → t < m → t < m' → t < m'' → ∃ s g, f_X0_sittersOn_4 m C p x (Int32.ofNat i) = some s ∧ f_X0_countedByPins_4 m' C p y (Int32.ofNat i) = some g ∧ f_X7_one_22 m'' u p w x y (Int32.ofNat i) = oneE u p w s g := by
  have hn := tr_n h
  have Cn := h.2.2.2.2.2.2.2.1
  induction t with
  | zero =>
    intro m m' m'' i x y hi hm hm' hm''
    obtain ⟨m, rfl⟩ : ∃ q, m = q + 1 := ⟨m - 1, by omega⟩
    obtain ⟨m', rfl⟩ : ∃ q, m' = q + 1 := ⟨m' - 1, by omega⟩
    obtain ⟨m'', rfl⟩ : ∃ q, m'' = q + 1 := ⟨m'' - 1, by omega⟩
    have hi : i = nb := by omega
    subst hi
    rw [f_X0_sittersOn_4, f_X0_countedByPins_4, f_X7_one_22, if_pos (show z_in 34 183 = true by decide), c34, h1, Cn, if_pos (Int32.le_refl _), if_pos (Int32.le_refl _), if_pos (Int32.le_refl _)]
    exact ⟨x, y, rfl, rfl, rfl⟩
  | succ t ih =>
    intro m m' m'' i x y hi hm hm' hm''
    obtain ⟨m, rfl⟩ : ∃ q, m = q + 1 := ⟨m - 1, by omega⟩
    obtain ⟨m', rfl⟩ : ∃ q, m' = q + 1 := ⟨m' - 1, by omega⟩
    obtain ⟨m'', rfl⟩ : ∃ q, m'' = q + 1 := ⟨m'' - 1, by omega⟩
    have hB := h.2.2.2.2.2.2.2.2.2.2.2.2.1 i (by omega) (by omega)
    rw [un_le (show i ≤ 6 by omega)] at hB
    have hB := hB.w
    have i6 : z_in (Int32.ofNat i) 6 = true := z_inN (by omega) (by decide)
    have c6 : (Int32.ofNat i).toNatClampNeg = i := o_cl (by omega)
    rw [f_X0_sittersOn_4, f_X0_countedByPins_4, f_X7_one_22, if_pos (show z_in 34 183 = true by decide), c34, h1, Cn, if_neg (nle (by omega) (by omega)), if_neg (nle (by omega) (by omega)), if_neg (nle (by omega) (by omega)), of4 u (show i < 6 by omega)]
    unfold f_X7_one_50
    rw [show f_X7_flag (zb true) = some 1 from flag1, show f_X7_flag (zb false) = some 0 from flag0, of0 u (show i < 6 by omega)]
    simp only [Option.bind_some, i6, c6, ↓reduceIte, Bool.false_eq_true, o_1]
    rw [hB.2.2.2.1, hB.1, sh0 i (by omega), or0, Int32.add_zero]
    by_cases hc : u 2 (8 + 5 * i) = p
    · rw [if_pos hc, if_pos hc, if_pos hc]
      by_cases hk : u 2 (4 + 5 * i) = 3
      · rw [if_pos hk, if_pos hk, weightC C (show i < 6 by omega), weightM u (show i < 6 by omega), hB.1, hB.2.1]
        simp only [Option.bind_some]
        exact ih m m' m'' (i + 1) _ _ (by omega) (by omega) (by omega) (by omega)
      · rw [if_neg hk, if_neg hk]
        exact ih m m' m'' (i + 1) _ _ (by omega) (by omega) (by omega) (by omega)
    · rw [if_neg hc, if_neg hc, if_neg hc]
      exact ih m m' m'' (i + 1) _ _ (by omega) (by omega) (by omega) (by omega)
theorem api_one {S : Nat → zM} {u : zM} (h : Rel S u) (a1 : Int32) (a2 : Int32) : ∃ (r : Int32) (u' : zM), f_X6_one S a1 a2 = some r ∧ f_X7_one u a1 a2 = some (r, u') ∧ Rel S u' := by
  obtain ⟨P, nb, d, hc⟩ := rc_of h
  obtain ⟨hP4, hn6, SP, Sn, un4⟩ := hc.b4
  have r1 := hc.st.1
  have hT := hc.tr
  have e1 : stU u 1 = u 1 := (rel_starts h).2.2.2.2
  obtain ⟨s, g, f1, f2, f3⟩ := one_loop hT (by rw [e1]; exact un4) a1 a2 nb FU FU FU 0 0 0 (by omega) (FU_pos (by omega)) (FU_pos (by omega)) (FU_pos (by omega))
  have f1 : f_X0_sittersOn (S 4) a1 = some s := f1
  have f2 : f_X0_countedByPins (S 4) a1 = some g := f2
  have f3 : f_X7_one_22 FU (stU u) a1 a2 0 0 0 = oneE (stU u) a1 a2 s g := f3
  unfold f_X6_one f_X7_one
  rw [hasOne_eq SP hP4, isOne_eq hc.2.2.1 hP4, starts_eq]
  simp only [Option.bind_some, zlet_eq]
  rw [f1, f2, f3]
  unfold oneE
  rw [countedC hT, countedM hT]
  cases hz : zw a1 0 ((P : Int) - 1) with
  | false => exact ⟨-1, u, rfl, rfl, h⟩
  | true =>
    obtain ⟨p, hp, -, rfl⟩ := zw_nat hz
    simp only [↓reduceIte, Option.bind_some]
    by_cases h0 : a2 = 0
    · rw [if_pos h0, if_pos h0, if_pos (z_inN (show p < 4 by omega) (by decide)), if_pos (z_inN (show p < 183 by omega) (by decide)), o_cl (by omega), e1, (hc.2.2.2.2.2.2.2.2.2.2.2.1 p (by omega)).1]
      exact ⟨_, _, rfl, rfl, r1⟩
    rw [if_neg h0, if_neg h0]
    by_cases h0 : a2 = 1
    · rw [if_pos h0, if_pos h0]
      exact ⟨_, _, rfl, rfl, r1⟩
    rw [if_neg h0, if_neg h0]
    by_cases h0 : a2 = 2
    · rw [if_pos h0, if_pos h0]
      exact ⟨_, _, rfl, rfl, r1⟩
    rw [if_neg h0, if_neg h0]
    by_cases h0 : a2 = 3
    · rw [if_pos h0, if_pos h0]
      exact ⟨_, _, rfl, rfl, r1⟩
    rw [if_neg h0, if_neg h0]
    exact ⟨_, _, rfl, rfl, r1⟩
