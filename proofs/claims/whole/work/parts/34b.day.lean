def pcK (k : Int32) : Int32 := if k = 1 then 2 else if k = 3 then 3 else 1
theorem paceC (C : zM) {b : Nat} (hb : b < 6) : f_X0_pace C (Int32.ofNat b) = some (pcK (C 2 b)) := by
  unfold f_X0_pace pcK
  rw [if_pos (z_inN hb (by decide)), o_cl (by omega)]
  split
  · rfl
  · split <;> rfl
theorem paceM (u : zM) {j : Nat} (hj : j < 6) : f_X7_pace u (Int32.ofNat j) = some (pcK (u 2 (4 + 5 * j))) := by
  unfold f_X7_pace pcK
  rw [of0 u hj]
  simp only [Option.bind_some]
  split
  · rfl
  · split <;> rfl
theorem least_loop {a P N n d : Nat} {C u : zM} (h : TR a P N n d C u) (t : Nat) : ∀ (m m' i f : Nat), i + t = P → f < P → t < m → t < m' → ∃ q, q < P ∧ f_X0_sought_66 m C (Int32.ofNat f) (Int32.ofNat (cS C (Int32.ofNat f) n)) (Int32.ofNat i) = some (Int32.ofNat q) ∧ f_X7_leastCounted_4 m' u (Int32.ofNat f) (Int32.ofNat i) = some (Int32.ofNat q) := by
  have hP := h.1
  have uP := h.2.2.2.2.2.1
  have CP := h.2.2.2.2.2.2.1
  induction t with
  | zero =>
    intro m m' i f hi hf hm hm'
    obtain ⟨m, rfl⟩ : ∃ q, m = q + 1 := ⟨m - 1, by omega⟩
    obtain ⟨m', rfl⟩ : ∃ q, m' = q + 1 := ⟨m' - 1, by omega⟩
    have hi : i = P := by omega
    subst hi
    rw [f_X0_sought_66, f_X7_leastCounted_4, CP, uP, if_pos (Int32.le_refl _), if_pos (Int32.le_refl _)]
    exact ⟨f, hf, rfl, rfl⟩
  | succ t ih =>
    intro m m' i f hi hf hm hm'
    obtain ⟨m, rfl⟩ : ∃ q, m = q + 1 := ⟨m - 1, by omega⟩
    obtain ⟨m', rfl⟩ : ∃ q, m' = q + 1 := ⟨m' - 1, by omega⟩
    rw [f_X0_sought_66, f_X7_leastCounted_4, CP, uP, if_neg (nle (by omega) (by omega)), if_neg (nle (by omega) (by omega)), countedC h, countedM h, countedM h]
    simp only [Option.bind_some]
    rw [o_1]
    by_cases hc : Int32.ofNat (cS C (Int32.ofNat f) n) ≤ Int32.ofNat (cS C (Int32.ofNat i) n)
    · rw [if_pos hc, if_pos hc]
      exact ih m m' (i + 1) f (by omega) hf (by omega) (by omega)
    · rw [if_neg hc, if_neg hc]
      exact ih m m' (i + 1) i (by omega) (by omega) (by omega) (by omega)
theorem yel_key : ∀ P : Nat, P < 5 → ∀ o : Nat, o < P → ∃ q : Nat, q < P ∧ (if Int32.ofNat P ≤ Int32.ofNat o + 1 then (0 : Int32) else Int32.ofNat o + 1) = Int32.ofNat q ∧ ¬ Int32.ofNat P = 0 ∧ (Int32.ofNat o + 1) - (Int32.ofNat o + 1) / Int32.ofNat P * Int32.ofNat P = Int32.ofNat q := by decide +kernel
theorem seeks_eq {a P N n d : Nat} {C u : zM} (h : TR a P N n d C u) {j : Nat} (hj : j < N) (hja : j ≠ a) : ∃ q, q < P ∧ f_X0_sought C (Int32.ofNat (un a j)) = some (Int32.ofNat q) ∧ f_X7_seeks u (Int32.ofNat j) = some (Int32.ofNat q) := by
  have hP := h.1
  have hN := h.2.1
  have hpos := h.2.2.2.1
  have uP := h.2.2.2.2.2.1
  have CP := h.2.2.2.2.2.2.1
  have hi := tr_lt h hj hja
  have hn := tr_n h
  have i6 : z_in (Int32.ofNat (un a j)) 6 = true := z_inN (by omega) (by decide)
  have c6 : (Int32.ofNat (un a j)).toNatClampNeg = un a j := o_cl (by omega)
  obtain ⟨k, s, o, hk, hs1, hs, ho, e1, e2, e3, e4, e5, e6, e7⟩ := h.2.2.2.2.2.2.2.2.2.2.2.2.1 j hj hja
  unfold f_X0_sought f_X7_seeks
  rw [of0 u (by omega), of2 u (by omega)]
  simp only [Option.bind_some, i6, c6, ↓reduceIte, e1, e2, e5, e6, CP, uP]
  by_cases k1 : Int32.ofNat k = 1
  · have k2 : ¬ Int32.ofNat k = 2 := by rw [k1]; decide
    obtain ⟨q, hq, f1, f2, f3⟩ := yel_key P (by omega) o ho
    rw [if_pos k1, if_neg k2, if_pos k1, if_neg f2, f3]
    refine ⟨q, hq, ?_, rfl⟩
    by_cases hc : Int32.ofNat P ≤ Int32.ofNat o + 1
    · rw [if_pos hc] at f1 ⊢
      exact congrArg some f1
    · rw [if_neg hc] at f1 ⊢
      exact congrArg some f1
  · by_cases k2 : Int32.ofNat k = 2
    · rw [if_neg k1, if_pos k2, if_pos k2, show (0 : Int32) = Int32.ofNat 0 from rfl, countedC h]
      obtain ⟨q, hq, f1, f2⟩ := least_loop h (P - 1) FU FU 1 0 (by omega) (by omega) (FU_pos (by omega)) (FU_pos (by omega))
      refine ⟨q, hq, f1, ?_⟩
      have f2 : f_X7_leastCounted u = some (Int32.ofNat q) := f2
      rw [f2]
      rfl
    · rw [if_neg k1, if_neg k2, if_neg k2, if_neg k1]
      exact ⟨o, ho, rfl, rfl⟩
/-- a beetle's cells become others -/
theorem tr_bt {a P N n d : Nat} {C u C' u' : zM} (h : TR a P N n d C u) {j : Nat} (hja : j ≠ a)
    (h0 : C' 0 0 = C 0 0 ∧ C' 0 1 = C 0 1 ∧ C' 0 2 = C 0 2) (h1 : ∀ i, C' 1 i = C 1 i) (h7 : ∀ i, C' 7 i = C 7 i)
    (hC : ∀ i, i ≠ un a j → C' 2 i = C 2 i ∧ C' 3 i = C 3 i ∧ C' 4 i = C 4 i ∧ C' 5 i = C 5 i ∧ C' 6 i = C 6 i)
    (hu0 : u' 0 3 = u 0 3 ∧ u' 0 16 = u 0 16) (hu : ∀ k, ¬ (4 + 5 * j ≤ k ∧ k < 9 + 5 * j) → u' 2 k = u 2 k) (hj : j < N)
    (hB : BR P C' (un a j) (u' 2) j) : TR a P N n d C' u' := by
  obtain ⟨hP, hN, ha, hpos, hd, uP, CP, Cn, uN, Cd, ud, hp, hB0, hw⟩ := h
  refine ⟨hP, hN, ?_, hpos, hd, hu0.1.trans uP, h0.1.trans CP, h0.2.1.trans Cn, (hu 34 (by omega)).trans uN, h0.2.2.trans Cd, (hu 41 (by omega)).trans ud, ?_, ?_, ?_⟩
  · rw [hu0.2]; exact ha
  · intro p hpp
    rw [h1, hu p (by omega)]; exact hp p hpp
  · intro i hi hia
    by_cases e : i = j
    · rw [e]; exact hB
    · have q := hB0 i hi hia
      obtain ⟨f2, f3, f4, f5, f6⟩ := hC (un a i) (fun q => e (un_inj hia hja q))
      unfold BR
      rw [f2, f3, f4, f5, f6, hu (4 + 5 * i) (by omega), hu (5 + 5 * i) (by omega), hu (6 + 5 * i) (by omega), hu (7 + 5 * i) (by omega), hu (8 + 5 * i) (by omega)]
      exact q
  · intro k hk
    rw [h7, hu (35 + k) (by omega)]; exact hw k hk
theorem becomesOf_eq (u : zM) {j w : Nat} (hj : j < 6) (hw : w < 5) (x : Int32) : f_X7_becomesOf u (Int32.ofNat j) (Int32.ofNat w) x = some (zU u 2 (4 + 5 * j + w) x) := by
  unfold f_X7_becomesOf
  rw [at_b, if_pos (z_inN (by omega) (by decide)), o_cl (by omega)]
  rfl
theorem bo0 (u : zM) {j : Nat} (hj : j < 6) (x : Int32) : f_X7_becomesOf u (Int32.ofNat j) 0 x = some (zU u 2 (4 + 5 * j) x) := becomesOf_eq u hj (show 0 < 5 by decide) x
theorem bo1 (u : zM) {j : Nat} (hj : j < 6) (x : Int32) : f_X7_becomesOf u (Int32.ofNat j) 1 x = some (zU u 2 (5 + 5 * j) x) := (becomesOf_eq u hj (show 1 < 5 by decide) x).trans (by rw [show 4 + 5 * j + 1 = 5 + 5 * j by omega])
theorem bo2 (u : zM) {j : Nat} (hj : j < 6) (x : Int32) : f_X7_becomesOf u (Int32.ofNat j) 2 x = some (zU u 2 (6 + 5 * j) x) := (becomesOf_eq u hj (show 2 < 5 by decide) x).trans (by rw [show 4 + 5 * j + 2 = 6 + 5 * j by omega])
theorem bo3 (u : zM) {j : Nat} (hj : j < 6) (x : Int32) : f_X7_becomesOf u (Int32.ofNat j) 3 x = some (zU u 2 (7 + 5 * j) x) := (becomesOf_eq u hj (show 3 < 5 by decide) x).trans (by rw [show 4 + 5 * j + 3 = 7 + 5 * j by omega])
theorem bo4 (u : zM) {j : Nat} (hj : j < 6) (x : Int32) : f_X7_becomesOf u (Int32.ofNat j) 4 x = some (zU u 2 (8 + 5 * j) x) := (becomesOf_eq u hj (show 4 < 5 by decide) x).trans (by rw [show 4 + 5 * j + 4 = 8 + 5 * j by omega])
theorem fly_key : ∀ x : Nat, x < 10 → ∀ y : Nat, y < 10 → ∀ k : Nat, k < 4 → ∃ z : Nat, z < 10 ∧
    Int32.ofNat x + (if -(pcK (Int32.ofNat k)) < (if pcK (Int32.ofNat k) < Int32.ofNat y - Int32.ofNat x then pcK (Int32.ofNat k) else Int32.ofNat y - Int32.ofNat x) then (if pcK (Int32.ofNat k) < Int32.ofNat y - Int32.ofNat x then pcK (Int32.ofNat k) else Int32.ofNat y - Int32.ofNat x) else -(pcK (Int32.ofNat k))) = Int32.ofNat z ∧
    Int32.ofNat x + (if Int32.ofNat y - Int32.ofNat x ≤ pcK (Int32.ofNat k) then (if -(pcK (Int32.ofNat k)) ≤ Int32.ofNat y - Int32.ofNat x then Int32.ofNat y - Int32.ofNat x else -(pcK (Int32.ofNat k))) else pcK (Int32.ofNat k)) = Int32.ofNat z := by decide +kernel
theorem goesOn_if (u : zM) (j q f r x : Int32) : (if f ≤ r then if -r ≤ f then f_X7_goesOn_61 u j q f x 3 j else f_X7_goesOn_61 u j q (-r) x 3 j else f_X7_goesOn_61 u j q r x 3 j) = f_X7_goesOn_61 u j q (if f ≤ r then (if -r ≤ f then f else -r) else r) x 3 j := by
  split
  · split <;> rfl
  · rfl
/-- towards the one sought -/
theorem fly_step {a P N n d : Nat} {C u : zM} (h : TR a P N n d C u) {j : Nat} (hj : j < N) (hja : j ≠ a) (hs : u 2 (8 + 5 * j) = -4) : ∃ q C' u', f_X0_sought C (Int32.ofNat (un a j)) = some q ∧ f_X0_flyTowards C (Int32.ofNat (un a j)) q = some C' ∧ f_X7_goesOn u (Int32.ofNat j) = some u' ∧ TR a P N n d C' u' ∧ Fr u u' ∧ FL C u C' u' := by
  obtain ⟨q, hq, f1, f2⟩ := seeks_eq h hj hja
  have hP := h.1
  have hN := h.2.1
  have hi := tr_lt h hj hja
  have hn := tr_n h
  have i6 : z_in (Int32.ofNat (un a j)) 6 = true := z_inN (by omega) (by decide)
  have c6 : (Int32.ofNat (un a j)).toNatClampNeg = un a j := o_cl (by omega)
  have q4 : z_in (Int32.ofNat q) 4 = true := z_inN (by omega) (by decide)
  have q61 : z_in (Int32.ofNat q) 61 = true := z_inN (by omega) (by decide)
  have cq : (Int32.ofNat q).toNatClampNeg = q := o_cl (by omega)
  obtain ⟨y, hy, y1, y2⟩ := h.2.2.2.2.2.2.2.2.2.2.2.1 q hq
  obtain ⟨k, s, o, hk, hs1, hs9, ho, e1, e2, e3, e4, e5, e6, e7⟩ := h.2.2.2.2.2.2.2.2.2.2.2.2.1 j hj hja
  rcases e7 with ⟨x, hx, g1, g2, g3, g4⟩ | ⟨p, hp, g1, g2⟩
  · obtain ⟨z, hz, k1, k2⟩ := fly_key x hx y hy k hk
    have hC : f_X0_flyTowards C (Int32.ofNat (un a j)) (Int32.ofNat q) = some (if z = y then zU (zU (zU C 6 (un a j) (Int32.ofNat z)) 5 (un a j) (Int32.ofNat q)) 0 4 (C 0 4 + 1) else zU C 6 (un a j) (Int32.ofNat z)) := by
      unfold f_X0_flyTowards
      rw [paceC C (by omega)]
      simp only [Option.bind_some, i6, c6, q4, cq, ↓reduceIte, zlet_eq, e1, g3, y1]
      rw [k1]
      simp (disch := decide) only [zU_ne, zu_eq, y1]
      by_cases hzy : z = y
      · rw [if_pos (congrArg Int32.ofNat hzy), if_pos hzy]
      · rw [if_neg (o_ne hzy (by omega) (by omega)), if_neg hzy]
    have hM : f_X7_goesOn u (Int32.ofNat j) = some (if z = y then zU (zU (zU u 2 (7 + 5 * j) (Int32.ofNat z)) 2 (8 + 5 * j) (Int32.ofNat q)) 0 18 (u 0 18 + 1) else zU u 2 (7 + 5 * j) (Int32.ofNat z)) := by
      unfold f_X7_goesOn
      rw [f2]
      simp only [Option.bind_some]
      rw [if_pos q61, of3 u (by omega), paceM u (by omega)]
      simp only [Option.bind_some]
      rw [goesOn_if, cq, y2, e2, g4]
      unfold f_X7_goesOn_61
      rw [k2, bo3 u (by omega)]
      simp only [Option.bind_some, zlet_eq]
      rw [of3 _ (by omega), zu_eq]
      simp only [Option.bind_some]
      rw [if_pos q61, cq, zu_j _ _ _ _ (show q ≠ 7 + 5 * j by omega), y2]
      by_cases hzy : z = y
      · rw [if_pos (congrArg Int32.ofNat hzy), if_pos hzy, bo4 _ (by omega)]
        simp only [Option.bind_some]
        rw [zU_ne _ _ _ (by decide), zU_ne _ _ _ (by decide)]
      · rw [if_neg (o_ne hzy (by omega) (by omega)), if_neg hzy]
    refine ⟨Int32.ofNat q, _, _, f1, hC, hM, ?_, ?_, ?_⟩
    · by_cases hzy : z = y
      · rw [if_pos hzy, if_pos hzy]
        refine tr_bt h hja ?_ ?_ ?_ ?_ ?_ ?_ hj ?_
        · simp (disch := decide) only [zU_ne, zu_j, and_self]
        · intro i
          simp (disch := decide) only [zU_ne]
        · intro i
          simp (disch := decide) only [zU_ne]
        · intro i hi'
          simp (disch := first | decide | assumption) only [zU_ne, zu_j, and_self]
        · simp (disch := decide) only [zU_ne, zu_j, and_self]
        · intro i hi'
          simp (disch := first | decide | omega) only [zU_ne, zu_j]
        · refine ⟨k, s, o, hk, hs1, hs9, ho, ?_, ?_, ?_, ?_, ?_, ?_, Or.inr ⟨q, hq, ?_, ?_⟩⟩
          all_goals simp (disch := first | decide | omega) only [zU_ne, zu_j, zu_eq, e1, e2, e3, e4, e5, e6]
      · rw [if_neg hzy, if_neg hzy]
        refine tr_bt h hja ?_ ?_ ?_ ?_ ?_ ?_ hj ?_
        · simp (disch := decide) only [zU_ne, zu_j, and_self]
        · intro i
          simp (disch := decide) only [zU_ne]
        · intro i
          simp (disch := decide) only [zU_ne]
        · intro i hi'
          simp (disch := first | decide | assumption) only [zU_ne, zu_j, and_self]
        · simp (disch := decide) only [zU_ne, zu_j, and_self]
        · intro i hi'
          simp (disch := first | decide | omega) only [zU_ne, zu_j]
        · refine ⟨k, s, o, hk, hs1, hs9, ho, ?_, ?_, ?_, ?_, ?_, ?_, Or.inl ⟨z, hz, ?_, ?_, ?_, ?_⟩⟩
          all_goals simp (disch := first | decide | omega) only [zU_ne, zu_j, zu_eq, e1, e2, e3, e4, e5, e6, g1, g2]
    · by_cases hzy : z = y
      · rw [if_pos hzy]
        refine ⟨fun i a b => ?_, fun i a b => ?_, fun i a => ?_⟩
        · simp (disch := assumption) only [zU_ne]
        · simp (disch := first | assumption | decide) only [zU_ne, zu_j]
        · simp (disch := first | decide | omega) only [zU_ne, zu_j]
      · rw [if_neg hzy]
        refine ⟨fun i a b => ?_, fun i a b => ?_, fun i a => ?_⟩
        · simp (disch := assumption) only [zU_ne]
        · simp (disch := first | assumption | decide) only [zU_ne, zu_j]
        · simp (disch := first | decide | omega) only [zU_ne, zu_j]
    · by_cases hzy : z = y
      · rw [if_pos hzy, if_pos hzy]
        refine ⟨fun w => ?_, fun w => ?_⟩
        · simp (disch := decide) only [zU_ne, zu_j]; exact w
        · simp (disch := decide) only [zu_eq]; rw [w]
      · rw [if_neg hzy, if_neg hzy]
        refine ⟨fun w => ?_, fun w => ?_⟩
        · simp (disch := decide) only [zU_ne]; exact w
        · simp (disch := decide) only [zU_ne]; exact w
  · rw [g2] at hs
    exact absurd hs (ne4 (by omega))
