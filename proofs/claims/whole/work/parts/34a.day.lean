/-! days: the class's County C and the reference's running row u 2 in step; a is the one that is away (from N on: nobody) -/
theorem ne4 {n : Nat} (h : n < 2 ^ 31) : ¬ Int32.ofNat n = -4 := by
  intro e
  have := congrArg Int32.toInt e
  rw [o_toInt h, show (-4 : Int32).toInt = -4 from rfl] at this
  omega
def un (a j : Nat) : Nat := if j ≤ a then j else j - 1
theorem un_le {a j : Nat} (h : j ≤ a) : un a j = j := if_pos h
theorem un_s {a j : Nat} (h : j ≠ a) : un a (j + 1) = un a j + 1 := by
  unfold un
  by_cases h1 : j ≤ a
  · rw [if_pos h1, if_pos (by omega)]
  · rw [if_neg h1, if_neg (by omega)]; omega
theorem un_a (a : Nat) : un a (a + 1) = un a a := by
  unfold un
  rw [if_neg (by omega), if_pos (Nat.le_refl _)]; omega
theorem un_inj {a j i : Nat} (h : j ≠ a) (hi : i ≠ a) (e : un a j = un a i) : j = i := by
  unfold un at e
  split at e <;> split at e <;> omega
def BR (P : Nat) (C : zM) (i : Nat) (v : Nat → Int32) (j : Nat) : Prop := ∃ k s o : Nat, k < 4 ∧ 1 ≤ s ∧ s < 10 ∧ o < P ∧ C 2 i = Int32.ofNat k ∧ v (4 + 5 * j) = Int32.ofNat k ∧ C 3 i = Int32.ofNat s ∧ v (5 + 5 * j) = Int32.ofNat s ∧ C 4 i = Int32.ofNat o ∧ v (6 + 5 * j) = Int32.ofNat o ∧ ((∃ x, x < 10 ∧ C 5 i = -4 ∧ v (8 + 5 * j) = -4 ∧ C 6 i = Int32.ofNat x ∧ v (7 + 5 * j) = Int32.ofNat x) ∨ ∃ p, p < P ∧ C 5 i = Int32.ofNat p ∧ v (8 + 5 * j) = Int32.ofNat p)
def TR (a P N n d : Nat) (C u : zM) : Prop :=
  P ≤ 4 ∧ N ≤ 6 ∧ (a < N ∧ N = n + 1 ∧ u 0 16 = Int32.ofNat a ∨ N ≤ a ∧ N = n ∧ u 0 16 = -4) ∧ (0 < N → 0 < P) ∧ d < 100000 ∧ u 0 3 = Int32.ofNat P ∧ C 0 0 = Int32.ofNat P ∧ C 0 1 = Int32.ofNat n ∧ u 2 34 = Int32.ofNat N ∧ C 0 2 = Int32.ofNat d ∧ u 2 41 = Int32.ofNat d ∧
  (∀ p, p < P → ∃ x, x < 10 ∧ C 1 p = Int32.ofNat x ∧ u 2 p = Int32.ofNat x) ∧
  (∀ j, j < N → j ≠ a → BR P C (un a j) (u 2) j) ∧
  (∀ k, k < 6 → ∃ x, x < 10 ∧ C 7 k = Int32.ofNat x ∧ u 2 (35 + k) = Int32.ofNat x)
/-- what a reference's run leaves alone -/
def Fr (u u' : zM) : Prop := (∀ j, j ≠ 0 → j ≠ 2 → u' j = u j) ∧ (∀ k, k ≠ 17 → k ≠ 18 → u' 0 k = u 0 k) ∧ ∀ k, 42 ≤ k → u' 2 k = u 2 k
theorem Fr.rf (u : zM) : Fr u u := ⟨fun _ _ _ => rfl, fun _ _ _ => rfl, fun _ _ => rfl⟩
theorem Fr.tr {u v w : zM} (h : Fr u v) (h' : Fr v w) : Fr u w := ⟨fun j a b => (h'.1 j a b).trans (h.1 j a b), fun j a b => (h'.2.1 j a b).trans (h.2.1 j a b), fun j a => (h'.2.2 j a).trans (h.2.2 j a)⟩
/-- flights and landings go on alike -/
def FL (C u C' u' : zM) : Prop := (C 0 3 = u 0 17 → C' 0 3 = u' 0 17) ∧ (C 0 4 = u 0 18 → C' 0 4 = u' 0 18)
theorem FL.tr {C u D v E w : zM} (h : FL C u D v) (h' : FL D v E w) : FL C u E w := ⟨fun q => h'.1 (h.1 q), fun q => h'.2 (h.2 q)⟩
theorem FL.rf (C u : zM) : FL C u C u := ⟨id, id⟩
def wN (k s : Int32) : Nat := (wtK k s).toNatClampNeg
theorem wt_key : ∀ k : Nat, k < 4 → ∀ s : Nat, s < 10 → wtK (Int32.ofNat k) (Int32.ofNat s) = Int32.ofNat (wN (Int32.ofNat k) (Int32.ofNat s)) ∧ wN (Int32.ofNat k) (Int32.ofNat s) < 19 := by decide +kernel
theorem tr_un {a P N n d : Nat} {C u : zM} (h : TR a P N n d C u) : un a N = n := by
  obtain ⟨hP, hN, ha, h⟩ := h
  unfold un
  rcases ha with ⟨h1, h2, -⟩ | ⟨h1, h2, -⟩
  · rw [if_neg (by omega)]; omega
  · rw [if_pos (by omega)]; omega
theorem tr_lt {a P N n d : Nat} {C u : zM} (h : TR a P N n d C u) {j : Nat} (hj : j < N) (hja : j ≠ a) : un a j < n := by
  obtain ⟨hP, hN, ha, h⟩ := h
  unfold un
  rcases ha with ⟨h1, h2, -⟩ | ⟨h1, h2, -⟩
  · split <;> omega
  · rw [if_pos (by omega)]; omega
theorem tr_aw {a P N n d : Nat} {C u : zM} (h : TR a P N n d C u) {j : Nat} (hj : j < N) : (Int32.ofNat j = u 0 16) ↔ j = a := by
  obtain ⟨hP, hN, ha, h⟩ := h
  rcases ha with ⟨h1, h2, e⟩ | ⟨h1, h2, e⟩
  · rw [e]; exact o_eq (by omega) (by omega)
  · rw [e]
    exact ⟨fun q => absurd q (ne4 (by omega)), fun q => by omega⟩
theorem tr_i {a P N n d : Nat} {C u : zM} (h : TR a P N n d C u) {i : Nat} (hi : i < n) : ∃ j, j < N ∧ j ≠ a ∧ un a j = i ∧ BR P C i (u 2) j := by
  obtain ⟨hP, hN, ha, -, -, -, -, -, -, -, -, -, hB, -⟩ := h
  by_cases h1 : i < a
  · have e : un a i = i := un_le (by omega)
    have hj : i < N := by omega
    have q := hB i hj (by omega)
    rw [e] at q
    exact ⟨i, hj, by omega, e, q⟩
  · rcases ha with ⟨h2, h3, -⟩ | ⟨h2, h3, -⟩
    · have e : un a (i + 1) = i := by unfold un; rw [if_neg (by omega)]; rfl
      have hj : i + 1 < N := by omega
      have q := hB (i + 1) hj (by omega)
      rw [e] at q
      exact ⟨i + 1, hj, by omega, e, q⟩
    · omega
theorem tr_n {a P N n d : Nat} {C u : zM} (h : TR a P N n d C u) : n ≤ 6 := by
  obtain ⟨hP, hN, ha, -⟩ := h
  rcases ha with ⟨h2, h3, -⟩ | ⟨h2, h3, -⟩ <;> omega
theorem BR.w {P i j : Nat} {C : zM} {v : Nat → Int32} (h : BR P C i v j) : C 2 i = v (4 + 5 * j) ∧ C 3 i = v (5 + 5 * j) ∧ C 4 i = v (6 + 5 * j) ∧ C 5 i = v (8 + 5 * j) ∧ wtK (C 2 i) (C 3 i) = Int32.ofNat (wN (C 2 i) (C 3 i)) ∧ wN (C 2 i) (C 3 i) < 19 := by
  obtain ⟨k, s, o, hk, hs1, hs, ho, e1, e2, e3, e4, e5, e6, e7⟩ := h
  have q := wt_key k hk s hs
  rw [e1, e2, e3, e4, e5, e6]
  refine ⟨rfl, rfl, rfl, ?_, q.1, q.2⟩
  rcases e7 with ⟨x, -, f1, f2, -⟩ | ⟨p, -, f1, f2⟩
  · rw [f1, f2]
  · rw [f1, f2]
theorem of0 (u : zM) {j : Nat} (hj : j < 6) : f_X7_of u (Int32.ofNat j) 0 = some (u 2 (4 + 5 * j)) := of_eq u hj (show 0 < 5 by decide)
theorem of1 (u : zM) {j : Nat} (hj : j < 6) : f_X7_of u (Int32.ofNat j) 1 = some (u 2 (5 + 5 * j)) := (of_eq u hj (show 1 < 5 by decide)).trans (by rw [show 4 + 5 * j + 1 = 5 + 5 * j by omega])
theorem of2 (u : zM) {j : Nat} (hj : j < 6) : f_X7_of u (Int32.ofNat j) 2 = some (u 2 (6 + 5 * j)) := (of_eq u hj (show 2 < 5 by decide)).trans (by rw [show 4 + 5 * j + 2 = 6 + 5 * j by omega])
theorem of3 (u : zM) {j : Nat} (hj : j < 6) : f_X7_of u (Int32.ofNat j) 3 = some (u 2 (7 + 5 * j)) := (of_eq u hj (show 3 < 5 by decide)).trans (by rw [show 4 + 5 * j + 3 = 7 + 5 * j by omega])
theorem of4 (u : zM) {j : Nat} (hj : j < 6) : f_X7_of u (Int32.ofNat j) 4 = some (u 2 (8 + 5 * j)) := (of_eq u hj (show 4 < 5 by decide)).trans (by rw [show 4 + 5 * j + 4 = 8 + 5 * j by omega])
theorem z34 : z_in 34 61 = true := by decide
theorem z41 : z_in 41 61 = true := by decide
theorem c34 : Int32.toNatClampNeg 34 = 34 := rfl
theorem c41 : Int32.toNatClampNeg 41 = 41 := rfl
theorem nle {a b : Nat} (h : b < a) (ha : a < 2 ^ 31) : ¬ Int32.ofNat a ≤ Int32.ofNat b := fun q => absurd ((o_le ha (by omega)).mp q) (by omega)
/-- what a ONE is counted -/
def cS (C : zM) (p : Int32) : Nat → Nat
  | 0 => 0
  | i + 1 => cS C p i + (if C 5 i = p then wN (C 2 i) (C 3 i) else 0)
theorem cS_t {C : zM} {p : Int32} {i : Nat} (h : C 5 i = p) : cS C p (i + 1) = cS C p i + wN (C 2 i) (C 3 i) := by
  show cS C p i + (if C 5 i = p then wN (C 2 i) (C 3 i) else 0) = _
  rw [if_pos h]
theorem cS_f {C : zM} {p : Int32} {i : Nat} (h : ¬ C 5 i = p) : cS C p (i + 1) = cS C p i := by
  show cS C p i + (if C 5 i = p then wN (C 2 i) (C 3 i) else 0) = _
  rw [if_neg h]; rfl
theorem cS_le {a P N n d : Nat} {C u : zM} (h : TR a P N n d C u) (p : Int32) : ∀ i, i ≤ n → cS C p i ≤ 18 * i := by
  intro i
  induction i with
  | zero => intro _; exact Nat.le_refl _
  | succ i ih =>
    intro hi
    have q := ih (by omega)
    obtain ⟨j, -, -, -, hB⟩ := tr_i h (show i < n by omega)
    have w := hB.w.2.2.2.2.2
    by_cases hc : C 5 i = p
    · rw [cS_t hc]; omega
    · rw [cS_f hc]; omega
theorem cS_108 {a P N n d : Nat} {C u : zM} (h : TR a P N n d C u) (p : Int32) : cS C p n ≤ 108 := by
  have := cS_le h p n (Nat.le_refl _)
  have := tr_n h
  omega
theorem countedC_loop {a P N n d : Nat} {C u : zM} (h : TR a P N n d C u) (p : Int32) (t : Nat) : ∀ (m i : Nat), i + t = n → t < m → f_X0_counted_4 m C p (Int32.ofNat (cS C p i)) (Int32.ofNat i) = some (Int32.ofNat (cS C p n)) := by
  have hn := tr_n h
  have Cn := h.2.2.2.2.2.2.2.1
  induction t with
  | zero =>
    intro m i hi hm
    obtain ⟨m, rfl⟩ : ∃ q, m = q + 1 := ⟨m - 1, by omega⟩
    have hi : i = n := by omega
    subst hi
    rw [f_X0_counted_4, Cn, if_pos (Int32.le_refl _)]
  | succ t ih =>
    intro m i hi hm
    obtain ⟨m, rfl⟩ : ∃ q, m = q + 1 := ⟨m - 1, by omega⟩
    obtain ⟨j, -, -, -, hB⟩ := tr_i h (show i < n by omega)
    rw [f_X0_counted_4, Cn, if_neg (nle (by omega) (by omega)), if_pos (z_inN (show i < 6 by omega) (by decide)), o_cl (by omega), o_1]
    by_cases hc : C 5 i = p
    · rw [if_pos hc, weightC C (show i < 6 by omega), hB.w.2.2.2.2.1]
      simp only [Option.bind_some]
      rw [o_add, ← cS_t hc]
      exact ih m (i + 1) (by omega) (by omega)
    · rw [if_neg hc, ← cS_f hc]
      exact ih m (i + 1) (by omega) (by omega)
theorem countedC {a P N n d : Nat} {C u : zM} (h : TR a P N n d C u) (p : Int32) : f_X0_counted C p = some (Int32.ofNat (cS C p n)) := countedC_loop h p n FU 0 (by omega) (FU_pos (by have := tr_n h; omega))
theorem countedM_loop {a P N n d : Nat} {C u : zM} (h : TR a P N n d C u) (p : Int32) (t : Nat) : ∀ (m j : Nat), j + t = N → t < m → f_X7_counted_4 m u p (Int32.ofNat (cS C p (un a j))) (Int32.ofNat j) = some (Int32.ofNat (cS C p n)) := by
  have hN := h.2.1
  have uN := h.2.2.2.2.2.2.2.2.1
  induction t with
  | zero =>
    intro m j hj hm
    obtain ⟨m, rfl⟩ : ∃ q, m = q + 1 := ⟨m - 1, by omega⟩
    have hj : j = N := by omega
    subst hj
    rw [f_X7_counted_4, if_pos z34, c34, uN, if_pos (Int32.le_refl _), tr_un h]
  | succ t ih =>
    intro m j hj hm
    obtain ⟨m, rfl⟩ : ∃ q, m = q + 1 := ⟨m - 1, by omega⟩
    rw [f_X7_counted_4, if_pos z34, c34, uN, if_neg (nle (by omega) (by omega)), o_1]
    by_cases hja : j = a
    · rw [if_pos ((tr_aw h (by omega)).mpr hja), Int32.add_zero]
      have e : un a j = un a (j + 1) := by rw [hja, un_a]
      rw [e]
      exact ih m (j + 1) (by omega) (by omega)
    · rw [if_neg (fun q => hja ((tr_aw h (by omega)).mp q)), of4 u (show j < 6 by omega)]
      have hB := (h.2.2.2.2.2.2.2.2.2.2.2.2.1 j (by omega) hja)
      simp only [Option.bind_some]
      rw [← hB.w.2.2.2.1, weightM u (show j < 6 by omega), ← hB.w.1, ← hB.w.2.1, hB.w.2.2.2.2.1]
      by_cases hc : C 5 (un a j) = p
      · rw [if_pos hc]
        simp only [Option.bind_some]
        rw [o_add, ← cS_t hc, ← un_s hja]
        exact ih m (j + 1) (by omega) (by omega)
      · rw [if_neg hc, Int32.add_zero, ← cS_f hc, ← un_s hja]
        exact ih m (j + 1) (by omega) (by omega)
theorem countedM {a P N n d : Nat} {C u : zM} (h : TR a P N n d C u) (p : Int32) : f_X7_counted u p = some (Int32.ofNat (cS C p n)) := by
  have q := countedM_loop h p N FU 0 (by omega) (FU_pos (by have := h.2.1; omega))
  rw [un_le (Nat.zero_le _)] at q
  exact q
