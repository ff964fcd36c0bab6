/-! luck, mean: the class sums over days, the reference over which days are still -/
theorem upup {S : Nat → zM} {k : Nat} {X Y : zM} : va_up (va_up S k X) k Y = va_up S k Y := vv
noncomputable def pZ (C : zM) : zM := (f_X0_passDay C 0).getD C
theorem pZ_eq {a P N n d : Nat} {C u : zM} (h : TR a P N n d C u) (hd : d < 99999) : ∃ u', f_X0_passDay C 0 = some (pZ C) ∧ f_X7_dayGoes u 0 = some u' ∧ TR a P N n (d + 1) (pZ C) u' ∧ Fr u u' := by
  obtain ⟨C', u', e1, e2, e3, e4, -⟩ := day_eq h hd (show 0 < 10 by decide)
  have e1 : f_X0_passDay C 0 = some C' := e1
  have e2 : f_X7_dayGoes u 0 = some u' := e2
  have e : pZ C = C' := by
    unfold pZ
    rw [e1]
    rfl
  rw [e]
  exact ⟨u', e1, e2, e3, e4⟩
theorem tr_cop {a P N n d : Nat} {C D' u : zM} (h : TR a P N n d C u) (e : D' 0 0 = C 0 0 ∧ D' 0 1 = C 0 1 ∧ D' 0 2 = C 0 2 ∧ (∀ k, k < 4 → D' 1 k = C 1 k) ∧ ∀ k, k < 6 → D' 2 k = C 2 k ∧ D' 3 k = C 3 k ∧ D' 4 k = C 4 k ∧ D' 5 k = C 5 k ∧ D' 6 k = C 6 k ∧ D' 7 k = C 7 k) : TR a P N n d D' u := by
  have hn := tr_n h
  have hlt : ∀ j, j < N → j ≠ a → un a j < n := fun j hj hja => tr_lt h hj hja
  obtain ⟨hP, hN, ha, hpos, hd, uP, CP, Cn, uN, Cd, ud, hp, hB, hw⟩ := h
  obtain ⟨e0, e1, e2, e3, e4⟩ := e
  refine ⟨hP, hN, ha, hpos, hd, uP, e0.trans CP, e1.trans Cn, uN, e2.trans Cd, ud, ?_, ?_, ?_⟩
  · intro p hpp
    rw [e3 p (by omega)]; exact hp p hpp
  · intro j hj hja
    obtain ⟨f2, f3, f4, f5, f6, f7⟩ := e4 (un a j) (by have := hlt j hj hja; omega)
    have q := hB j hj hja
    unfold BR at q ⊢
    rw [f2, f3, f4, f5, f6]
    exact q
  · intro k hk
    rw [(e4 k hk).2.2.2.2.2]; exact hw k hk
/-- what is summed: of one running row alike, at most 108 -/
def VS (P nb : Nat) (val : zM → Nat) : Prop := (∀ d C D u, TR 6 P nb nb d C u → TR 6 P nb nb d D u → val C = val D) ∧ ∀ d C u, TR 6 P nb nb d C u → val C ≤ 108
noncomputable def wT (vv : Nat) (val : zM → Nat) : Nat → zM → Nat
  | 0, C => val C
  | k + 1, C => vv * wT vv val k (pZ C) + (10 - vv) * wT vv val k (pT C)
noncomputable def eS (vv : Nat) (val : zM → Nat) : Nat → zM → Nat → Nat
  | 0, C, _ => val C
  | k + 1, C, s => if s % 2 = 1 then vv * eS vv val k (pZ C) (s / 2) else (10 - vv) * eS vv val k (pT C) (s / 2)
theorem wT_s (vv : Nat) (val : zM → Nat) (k : Nat) (C : zM) : wT vv val (k + 1) C = vv * wT vv val k (pZ C) + (10 - vv) * wT vv val k (pT C) := rfl
theorem eS_t (vv : Nat) (val : zM → Nat) (k : Nat) (C : zM) {s : Nat} (h : s % 2 = 1) : eS vv val (k + 1) C s = vv * eS vv val k (pZ C) (s / 2) := by
  show (if s % 2 = 1 then vv * eS vv val k (pZ C) (s / 2) else (10 - vv) * eS vv val k (pT C) (s / 2)) = _
  rw [if_pos h]
theorem eS_f (vv : Nat) (val : zM → Nat) (k : Nat) (C : zM) {s : Nat} (h : ¬ s % 2 = 1) : eS vv val (k + 1) C s = (10 - vv) * eS vv val k (pT C) (s / 2) := by
  show (if s % 2 = 1 then vv * eS vv val k (pZ C) (s / 2) else (10 - vv) * eS vv val k (pT C) (s / 2)) = _
  rw [if_neg h]
def sm (f : Nat → Nat) : Nat → Nat
  | 0 => 0
  | n + 1 => sm f n + f n
theorem sm_s (f : Nat → Nat) (n : Nat) : sm f (n + 1) = sm f n + f n := rfl
theorem sm_two (f : Nat → Nat) (m : Nat) : sm f (2 * m) = sm (fun s => f (2 * s)) m + sm (fun s => f (2 * s + 1)) m := by
  induction m with
  | zero => rfl
  | succ m ih =>
    rw [show 2 * (m + 1) = 2 * m + 1 + 1 by omega, sm_s, sm_s, sm_s, sm_s, ih]
    omega
theorem sm_mul (f : Nat → Nat) (c m : Nat) : sm (fun s => c * f s) m = c * sm f m := by
  induction m with
  | zero => rfl
  | succ m ih => rw [sm_s, sm_s, ih, Nat.mul_add]
theorem sm_congr {f g : Nat → Nat} (h : ∀ s, f s = g s) (m : Nat) : sm f m = sm g m := by
  have : f = g := funext h
  rw [this]
theorem sm_eS (vv : Nat) (val : zM → Nat) (k : Nat) : ∀ C : zM, sm (eS vv val k C) (2 ^ k) = wT vv val k C := by
  induction k with
  | zero =>
    intro C
    show 0 + val C = val C
    omega
  | succ k ih =>
    intro C
    rw [Nat.pow_succ, Nat.mul_comm, sm_two, wT_s, ← ih (pZ C), ← ih (pT C), ← sm_mul, ← sm_mul, Nat.add_comm]
    congr 1
    · refine sm_congr (fun s => ?_) _
      rw [eS_t vv val k C (show (2 * s + 1) % 2 = 1 by omega), show (2 * s + 1) / 2 = s by omega]
    · refine sm_congr (fun s => ?_) _
      rw [eS_f vv val k C (show ¬ (2 * s) % 2 = 1 by omega), show (2 * s) / 2 = s by omega]
theorem wT_same {P nb vv : Nat} {val : zM → Nat} (hv : VS P nb val) (k : Nat) : ∀ (d : Nat) (C D u : zM), TR 6 P nb nb d C u → TR 6 P nb nb d D u → d + k < 99999 → wT vv val k C = wT vv val k D := by
  induction k with
  | zero =>
    intro d C D u h h' hd
    exact hv.1 d C D u h h'
  | succ k ih =>
    intro d C D u h h' hd
    obtain ⟨u1, e1, e2, e3, e4⟩ := pZ_eq h (by omega)
    obtain ⟨u1', e1', e2', e3', e4'⟩ := pZ_eq h' (by omega)
    rw [e2] at e2'
    have eu := Option.some.inj e2'
    subst eu
    obtain ⟨w, u2, f1, f2, f3, f4, f5, -⟩ := pT_eq h (by omega)
    obtain ⟨w', u2', f1', f2', f3', f4', f5', -⟩ := pT_eq h' (by omega)
    rw [f2] at f2'
    have ew := Option.some.inj f2'
    subst ew
    rw [f4] at f4'
    have eu := Option.some.inj f4'
    subst eu
    rw [wT_s, wT_s, ih (d + 1) _ _ u1 e3 e3' (by omega), ih (d + 1) _ _ u2 f5 f5' (by omega)]
theorem wT_le {P nb vv : Nat} {val : zM → Nat} (hv : VS P nb val) (hvv : vv ≤ 10) (k : Nat) : ∀ (d : Nat) (C u : zM), TR 6 P nb nb d C u → d + k < 99999 → wT vv val k C ≤ 108 * 10 ^ k := by
  induction k with
  | zero =>
    intro d C u h hd
    have := hv.2 d C u h
    show val C ≤ 108 * 10 ^ 0
    omega
  | succ k ih =>
    intro d C u h hd
    obtain ⟨u1, e1, e2, e3, e4⟩ := pZ_eq h (by omega)
    obtain ⟨w, u2, f1, f2, f3, f4, f5, -⟩ := pT_eq h (by omega)
    have q1 := ih (d + 1) _ u1 e3 (by omega)
    have q2 := ih (d + 1) _ u2 f5 (by omega)
    rw [wT_s]
    have m1 := Nat.mul_le_mul_left vv q1
    have m2 := Nat.mul_le_mul_left (10 - vv) q2
    have e : vv * (108 * 10 ^ k) + (10 - vv) * (108 * 10 ^ k) = 108 * 10 ^ (k + 1) := by
      rw [← Nat.add_mul, show vv + (10 - vv) = 10 by omega, Nat.pow_succ]
      omega
    omega
/-! the reference -/
theorem bit_key : ∀ s : Nat, s < 256 → ∀ j : Nat, j < 8 → (((Int32.ofNat s >>> ((Int32.ofNat j : Int32) &&& 31)) &&& 1) = 1 ↔ s / 2 ^ j % 2 = 1) := by decide +kernel
theorem two_key : ∀ n : Nat, n < 9 → (1 : Int32) <<< ((Int32.ofNat n : Int32) &&& 31) = Int32.ofNat (2 ^ n) := by decide +kernel
/-- how the reference ends one road -/
def OE (P nb n c vv : Nat) (v2 v3 : Int32) (val : zM → Nat) : Prop := ∀ (k46 : (zM × (Nat → Int64)) → Int32 → Int32 → Int32 → Int32 → Int32 → Option ((zM × (Nat → Int64)))) (m d s wy : Nat) (C u : zM) (g : Nat → Int64), TR 6 P nb nb d C u → ∃ g' : Nat → Int64, f_X7_findOdds_65 k46 (m + 1) (u, g) (Int32.ofNat vv) v2 v3 (Int32.ofNat n) (Int32.ofNat s) (lN wy) (Int32.ofNat n) = k46 (u, g') (Int32.ofNat vv) v2 v3 (Int32.ofNat n) (Int32.ofNat (s + 1)) ∧ g' c = g c + lN (wy * val C) ∧ g' 21 = g 21
theorem od65 {P nb n c vv s d : Nat} {v2 v3 : Int32} {val : zM → Nat} (H : OE P nb n c vv v2 v3 val) (hn : n ≤ 8) (hvv : vv ≤ 10) (hs : s < 256) (hd : d < 1000) (k46 : (zM × (Nat → Int64)) → Int32 → Int32 → Int32 → Int32 → Int32 → Option ((zM × (Nat → Int64)))) (t : Nat) : ∀ (m j wy : Nat) (C u : zM) (g : Nat → Int64), TR 6 P nb nb (d + j) C u → j + t = n → t < m → ∃ (u' : zM) (g' : Nat → Int64), f_X7_findOdds_65 k46 m (u, g) (Int32.ofNat vv) v2 v3 (Int32.ofNat n) (Int32.ofNat s) (lN wy) (Int32.ofNat j) = k46 (u', g') (Int32.ofNat vv) v2 v3 (Int32.ofNat n) (Int32.ofNat (s + 1)) ∧ Fr u u' ∧ g' c = g c + lN (wy * eS vv val t C (s / 2 ^ j)) ∧ g' 21 = g 21 := by
  induction t with
  | zero =>
    intro m j wy C u g h hj hm
    obtain ⟨m, rfl⟩ : ∃ q, m = q + 1 := ⟨m - 1, by omega⟩
    have hj : j = n := by omega
    subst hj
    obtain ⟨g', e1, e2, e3⟩ := H k46 m _ s wy C u g h
    exact ⟨u, g', e1, Fr.rf u, e2, e3⟩
  | succ t ih =>
    intro m j wy C u g h hj hm
    obtain ⟨m, rfl⟩ : ∃ q, m = q + 1 := ⟨m - 1, by omega⟩
    have ed : s / 2 ^ j / 2 = s / 2 ^ (j + 1) := by rw [Nat.div_div_eq_div_mul, Nat.pow_succ]
    rw [f_X7_findOdds_65, if_neg (nle (by omega) (by omega))]
    unfold f_X7_findOdds_88 f_X7_findOdds_107
    by_cases hb : s / 2 ^ j % 2 = 1
    · obtain ⟨u1, e1, e2, e3, e4⟩ := pZ_eq h (by omega)
      rw [if_pos ((bit_key s hs j (by omega)).mpr hb), if_pos rfl, if_pos rfl]
      dsimp only
      rw [e2]
      simp only [Option.bind_some, zlet_eq]
      rw [o_1, show Int32.toInt64 (Int32.ofNat vv) = lN vv from nI_l (by omega), lN_mul]
      obtain ⟨u', g', q1, q2, q3, q4⟩ := ih m (j + 1) (wy * vv) (pZ C) u1 g ((show d + j + 1 = d + (j + 1) by omega) ▸ e3) (by omega) (by omega)
      refine ⟨u', g', q1, e4.tr q2, ?_, q4⟩
      rw [q3, eS_t vv val t C hb, ed, Nat.mul_assoc]
    · obtain ⟨w, u1, e1, e2, e3, e4, e5, e6, -⟩ := pT_eq h (by omega)
      rw [if_neg (fun q => hb ((bit_key s hs j (by omega)).mp q)), if_neg (show ¬ false = true by decide), if_neg (show ¬ false = true by decide)]
      dsimp only
      rw [e2]
      simp only [Option.bind_some]
      rw [e4]
      simp only [Option.bind_some, zlet_eq]
      rw [o_1, show (10 : Int32) - Int32.ofNat vv = Int32.ofNat (10 - vv) from pk_sub (a := 10) hvv, show Int32.toInt64 (Int32.ofNat (10 - vv)) = lN (10 - vv) from nI_l (by omega), lN_mul]
      obtain ⟨u', g', q1, q2, q3, q4⟩ := ih m (j + 1) (wy * (10 - vv)) (pT C) u1 g ((show d + j + 1 = d + (j + 1) by omega) ▸ e5) (by omega) (by omega)
      refine ⟨u', g', q1, e6.tr q2, ?_, q4⟩
      rw [q3, eS_f vv val t C hb, ed, Nat.mul_assoc]
theorem od46 {P nb n c vv d : Nat} {v2 v3 : Int32} {val : zM → Nat} {S : Nat → zM} (H : OE P nb n c vv v2 v3 val) (hn : n ≤ 8) (hvv : vv ≤ 10) (t : Nat) : ∀ (m s : Nat) (u : zM) (g : Nat → Int64), RC P nb d S u → s + t = 2 ^ n → t < m → g c = lN (sm (eS vv val n (S 4)) s) → ∃ (u' : zM) (g' : Nat → Int64), f_X7_findOdds_46 m (u, g) (Int32.ofNat vv) v2 v3 (Int32.ofNat n) (Int32.ofNat s) = some (u', g') ∧ RC P nb d S u' ∧ g' c = lN (wT vv val n (S 4)) ∧ g' 21 = g 21 := by
  have h256 : 2 ^ n ≤ 256 := Nat.pow_le_pow_right (n := 2) (by decide) hn
  induction t with
  | zero =>
    intro m s u g h hs hm hg
    obtain ⟨m, rfl⟩ : ∃ q, m = q + 1 := ⟨m - 1, by omega⟩
    have hs : s = 2 ^ n := by omega
    subst hs
    rw [f_X7_findOdds_46, two_key n (by omega), if_pos (Int32.le_refl _)]
    exact ⟨u, g, rfl, h, by rw [hg, sm_eS], rfl⟩
  | succ t ih =>
    intro m s u g h hs hm hg
    obtain ⟨m, rfl⟩ : ∃ q, m = q + 1 := ⟨m - 1, by omega⟩
    rw [f_X7_findOdds_46, two_key n (by omega), if_neg (nle (by omega) (by omega))]
    dsimp only
    rw [starts_eq]
    simp only [Option.bind_some, zlet_eq]
    obtain ⟨u1, g1, q1, q2, q3, q4⟩ := od65 (s := s) H hn hvv (by omega) h.2.1 (fun u v1 v2 v3 v4 v5 => f_X7_findOdds_46 m u v1 v2 v3 v4 v5) n FU 0 1 (S 4) (stU u) g h.tr (by omega) (FU_pos (by omega))
    have q1 : f_X7_findOdds_65 (fun u v1 v2 v3 v4 v5 => f_X7_findOdds_46 m u v1 v2 v3 v4 v5) FU (stU u, g) (Int32.ofNat vv) v2 v3 (Int32.ofNat n) (Int32.ofNat s) (1 : Int64) 0 = f_X7_findOdds_46 m (u1, g1) (Int32.ofNat vv) v2 v3 (Int32.ofNat n) (Int32.ofNat (s + 1)) := q1
    rw [q1]
    obtain ⟨u2, g2, r1, r2, r3, r4⟩ := ih m (s + 1) u1 g1 (h.st.runM q2) (by omega) (by omega) (by rw [q3, hg, Nat.one_mul, Nat.pow_zero, Nat.div_one, lN_add, sm_s])
    exact ⟨u2, g2, r1, r2, r3, r4.trans q4⟩
theorem od18 {P nb n c vv d : Nat} {v2 v3 : Int32} {val : zM → Nat} {S : Nat → zM} (hc : c ≠ 21) (H : OE P nb n c vv v2 v3 val) (hn : n ≤ 8) (hvv : vv ≤ 10) (t : Nat) : ∀ (m i : Nat) (u : zM) (g : Nat → Int64), RC P nb d S u → i + t = n → t < m → g c = 0 → g 21 = lN (10 ^ i) → ∃ (u' : zM) (g' : Nat → Int64), f_X7_findOdds_18 m (u, g) (Int32.ofNat vv) v2 v3 (Int32.ofNat n) (Int32.ofNat i) = some (u', g') ∧ RC P nb d S u' ∧ g' c = lN (wT vv val n (S 4)) ∧ g' 21 = lN (10 ^ n) := by
  induction t with
  | zero =>
    intro m i u g h hi hm hg hg2
    obtain ⟨m, rfl⟩ : ∃ q, m = q + 1 := ⟨m - 1, by omega⟩
    have hi : i = n := by omega
    subst hi
    have h256 : 2 ^ i ≤ 256 := Nat.pow_le_pow_right (n := 2) (by decide) hn
    rw [f_X7_findOdds_18, if_pos (Int32.le_refl _)]
    obtain ⟨u', g', r1, r2, r3, r4⟩ := od46 H hn hvv (2 ^ i) FU 0 u g h (by omega) (FU_pos (by omega)) hg
    exact ⟨u', g', r1, r2, r3, r4.trans hg2⟩
  | succ t ih =>
    intro m i u g h hi hm hg hg2
    obtain ⟨m, rfl⟩ : ∃ q, m = q + 1 := ⟨m - 1, by omega⟩
    rw [f_X7_findOdds_18, if_neg (nle (by omega) (by omega))]
    simp only [zlet_eq]
    rw [o_1]
    exact ih m (i + 1) u _ h (by omega) (by omega) (by rw [va_up_neq _ _ hc]; exact hg) (by rw [va_up_eq, hg2]; exact (lN_mul (10 ^ i) 10).trans (by rw [Nat.pow_succ]))
theorem odds_eq {P nb n c vv d : Nat} {v2 v3 : Int32} {val : zM → Nat} {S : Nat → zM} {u : zM} {g : Nat → Int64} (hc : c = 19 ∨ c = 20) (H : OE P nb n c vv v2 v3 val) (hn : n ≤ 8) (hvv : vv ≤ 10) (h : RC P nb d S u) : ∃ (u' : zM) (g' : Nat → Int64), f_X7_findOdds (u, g) (Int32.ofNat vv) v2 v3 (Int32.ofNat n) = some (u', g') ∧ RC P nb d S u' ∧ g' c = lN (wT vv val n (S 4)) ∧ g' 21 = lN (10 ^ n) := by
  unfold f_X7_findOdds
  simp only [zlet_eq]
  refine od18 (by omega) H hn hvv n FU 0 u _ h (by omega) (FU_pos (by omega)) ?_ (va_up_eq _ _ _)
  rcases hc with rfl | rfl
  · rw [va_up_neq _ _ (by decide), va_up_neq _ _ (by decide), va_up_eq]
  · rw [va_up_neq _ _ (by decide), va_up_eq]
/-! the class -/
def CE (P nb : Nat) (v4 v5 : Int32) (val : zM → Nat) : Prop := ∀ (fr : (Nat → zM) → Int32 → Int32 → Int32 → Int32 → Int32 → Option (Int64 × (Nat → zM))) (S : Nat → zM) (i d : Nat) (u : zM), i < 9 → TR 6 P nb nb d (S (17 + i)) u → f_X6_sumB_18 fr S (Int32.ofNat i) v4 v5 = some (lN (val (S (17 + i))), S)
theorem sum_eq {P nb n vv d : Nat} {v4 v5 : Int32} {val : zM → Nat} (hv : VS P nb val) (H : CE P nb v4 v5 val) (hn : n ≤ 8) (hvv : vv ≤ 10) (hd : d < 1000) (k : Nat) : ∀ (m i : Nat) (S : Nat → zM) (u : zM), i + k = n → k < m → TR 6 P nb nb (d + i) (S (17 + i)) u → ∃ S', f_X6_sumOverFutures m S (Int32.ofNat i) (Int32.ofNat n) (Int32.ofNat vv) v4 v5 = some (lN (wT vv val k (S (17 + i))), S') ∧ ∀ j, j < 18 + i → S' j = S j := by
  induction k with
  | zero =>
    intro m i S u hi hm h
    obtain ⟨m, rfl⟩ : ∃ q, m = q + 1 := ⟨m - 1, by omega⟩
    rw [f_X6_sumOverFutures]
    unfold f_X6_sumB
    dsimp only
    rw [if_pos (z_inN (show i < 9 by omega) (by decide)), if_pos ((o_le (by omega) (by omega)).mpr (show n ≤ i by omega)), H _ S i _ u (by omega) h]
    exact ⟨S, rfl, fun _ _ => rfl⟩
  | succ k ih =>
    intro m i S u hi hm h
    obtain ⟨m, rfl⟩ : ∃ q, m = q + 1 := ⟨m - 1, by omega⟩
    have s96 : ∀ (x : Nat) (S1 : Nat → zM), (∀ j, j < 18 + i → S1 j = S j) → ∃ S', f_X6_sumB_96 (fun S v1 v2 v3 v4 v5 => f_X6_sumOverFutures m S v1 v2 v3 v4 v5) S1 (Int32.ofNat i) (Int32.ofNat n) (Int32.ofNat vv) v4 v5 (lN x) = some (lN (x + (10 - vv) * wT vv val k (pT (S (17 + i)))), S') ∧ ∀ j, j < 18 + i → S' j = S j := by
      intro x S1 hS1
      have e17 : S1 (17 + i) = S (17 + i) := hS1 _ (by omega)
      unfold f_X6_sumB_96
      by_cases h10 : vv = 10
      · subst h10
        rw [if_pos (show (10 : Int32) ≤ Int32.ofNat 10 by decide)]
        exact ⟨S1, by rw [Nat.sub_self, Nat.zero_mul, Nat.add_zero], hS1⟩
      · rw [if_neg (show ¬ (10 : Int32) ≤ Int32.ofNat vv from nle (a := 10) (by omega) (by decide)), o_1, o_cl (show i < 2 ^ 31 by omega), o_cl (show i + 1 < 2 ^ 31 by omega), e17]
        obtain ⟨D, f1, f2, -⟩ := cop (S (17 + i)) (S1 (17 + (i + 1)))
        have hD := tr_cop h f2
        obtain ⟨w, u1, g1, g2, g3, g4, g5, -⟩ := pT_eq h (by omega)
        obtain ⟨w', u1', g1', g2', g3', g4', g5', -⟩ := pT_eq hD (by omega)
        rw [g2] at g2'
        have ew := Option.some.inj g2'
        subst ew
        rw [g4] at g4'
        have eu := Option.some.inj g4'
        subst eu
        rw [f1]
        simp only [Option.bind_some, zlet_eq, va_up_eq]
        rw [va_up_neq _ _ (show 17 + i ≠ 17 + (i + 1) by omega), e17, g1]
        simp only [Option.bind_some]
        rw [g3']
        simp only [Option.bind_some, upup]
        obtain ⟨S2, q1, q2⟩ := ih m (i + 1) (va_up S1 (17 + (i + 1)) (pT D)) u1 (by omega) (by omega) (by rw [va_up_eq]; exact (show d + i + 1 = d + (i + 1) by omega) ▸ g5')
        rw [q1, va_up_eq]
        simp only [Option.bind_some]
        rw [show (10 : Int32) - Int32.ofNat vv = Int32.ofNat (10 - vv) from pk_sub (a := 10) hvv, show Int32.toInt64 (Int32.ofNat (10 - vv)) = lN (10 - vv) from nI_l (by omega), lN_mul, lN_add, wT_same hv k (d + i + 1) (pT D) (pT (S (17 + i))) u1 g5' g5 (by omega)]
        refine ⟨S2, rfl, fun j hj => ?_⟩
        rw [q2 j (by omega), va_up_neq _ _ (by omega)]
        exact hS1 j hj
    rw [f_X6_sumOverFutures]
    unfold f_X6_sumB
    dsimp only
    rw [if_pos (z_inN (show i < 9 by omega) (by decide)), if_neg (nle (by omega) (by omega)), o_1, if_pos (show Int32.ofNat (i + 1) < 9 from (o_lt (b := 9) (by omega) (by decide)).mpr (by omega)), if_pos (z_inN (show i + 1 < 9 by omega) (by decide)), wT_s]
    by_cases h0 : vv = 0
    · subst h0
      rw [if_pos (show Int32.ofNat 0 ≤ 0 by decide), Nat.zero_mul]
      exact s96 0 S (fun _ _ => rfl)
    · rw [if_neg (show ¬ Int32.ofNat vv ≤ 0 from nle (b := 0) (by omega) (by omega)), o_cl (show i < 2 ^ 31 by omega), o_cl (show i + 1 < 2 ^ 31 by omega)]
      obtain ⟨D, f1, f2, -⟩ := cop (S (17 + i)) (S (17 + (i + 1)))
      have hD := tr_cop h f2
      obtain ⟨u1, g1, g2, g3, -⟩ := pZ_eq h (by omega)
      obtain ⟨u1', g1', g2', g3', -⟩ := pZ_eq hD (by omega)
      rw [g2] at g2'
      have eu := Option.some.inj g2'
      subst eu
      rw [f1]
      simp only [Option.bind_some, zlet_eq, va_up_eq]
      rw [g1']
      simp only [Option.bind_some, upup]
      obtain ⟨S2, q1, q2⟩ := ih m (i + 1) (va_up S (17 + (i + 1)) (pZ D)) u1 (by omega) (by omega) (by rw [va_up_eq]; exact (show d + i + 1 = d + (i + 1) by omega) ▸ g3')
      rw [q1, va_up_eq]
      simp only [Option.bind_some]
      rw [show Int32.toInt64 (Int32.ofNat vv) = lN vv from nI_l (by omega), lN_mul, wT_same hv k (d + i + 1) (pZ D) (pZ (S (17 + i))) u1 g3' g3 (by omega), show (0 : Int64) + lN (vv * wT vv val k (pZ (S (17 + i)))) = lN (vv * wT vv val k (pZ (S (17 + i)))) from Int64.zero_add _]
      exact s96 _ S2 (fun j hj => by rw [q2 j (by omega), va_up_neq _ _ (by omega)])
