/-! owners, kinds -/
theorem bool_ext {r s : Bool} (h : r = true ↔ s = true) : r = s := by
  cases r with
  | true => exact (h.mp rfl).symm
  | false =>
    cases s with
    | true => exact h.mpr rfl
    | false => rfl
noncomputable def okB (c : Nat) (C : zM) (nb b mm : Nat) (v : Nat → Int32) (o : Nat) : Bool := @decide (∀ j, j < mm → gS (zU C c b (Int32.ofNat o)) nb v j) (Classical.propDecidable _)
theorem okB_iff {c : Nat} {C : zM} {nb b mm : Nat} {v : Nat → Int32} {o : Nat} : okB c C nb b mm v o = true ↔ ∀ j, j < mm → gS (zU C c b (Int32.ofNat o)) nb v j := @decide_eq_true_iff _ (Classical.propDecidable _)
def rk (ok : Nat → Bool) : Nat → Nat
  | 0 => 0
  | o + 1 => rk ok o + (if ok o = true then 1 else 0)
def fit (ok : Nat → Bool) : Nat → Int32
  | 0 => 0
  | o + 1 => fit ok o ||| (if ok o = true then 1 <<< ((Int32.ofNat o : Int32) &&& 31) else 0)
theorem rk_t {ok : Nat → Bool} {o : Nat} (h : ok o = true) : rk ok (o + 1) = rk ok o + 1 := by
  show rk ok o + (if ok o = true then 1 else 0) = _
  rw [if_pos h]
theorem rk_f {ok : Nat → Bool} {o : Nat} (h : ¬ ok o = true) : rk ok (o + 1) = rk ok o := by
  show rk ok o + (if ok o = true then 1 else 0) = _
  rw [if_neg h]
  rfl
theorem rk_le (ok : Nat → Bool) (o : Nat) : rk ok o ≤ o := by
  induction o with
  | zero => exact Nat.le_refl _
  | succ o ih =>
    by_cases h : ok o = true
    · rw [rk_t h]; omega
    · rw [rk_f h]; omega
theorem rk_mono (ok : Nat → Bool) {a b : Nat} (h : a ≤ b) : rk ok a ≤ rk ok b := by
  induction b with
  | zero => have : a = 0 := by omega
            rw [this]; exact Nat.le_refl _
  | succ b ih =>
    by_cases hab : a = b + 1
    · rw [hab]; exact Nat.le_refl _
    · have q := ih (by omega)
      by_cases h : ok b = true
      · rw [rk_t h]; omega
      · rw [rk_f h]; omega
theorem fit_t {ok : Nat → Bool} {o : Nat} (h : ok o = true) : fit ok (o + 1) = fit ok o ||| (1 <<< ((Int32.ofNat o : Int32) &&& 31)) := by
  show fit ok o ||| (if ok o = true then 1 <<< ((Int32.ofNat o : Int32) &&& 31) else 0) = _
  rw [if_pos h]
theorem fit_f {ok : Nat → Bool} {o : Nat} (h : ¬ ok o = true) : fit ok (o + 1) = fit ok o := by
  show fit ok o ||| (if ok o = true then 1 <<< ((Int32.ofNat o : Int32) &&& 31) else 0) = _
  rw [if_neg h, or0]
theorem RC.sn {P nb d : Nat} {S : Nat → zM} {u : zM} (h : RC P nb d S u) : ∃ mm, SNR P mm (S 6) (u 1) := by
  obtain ⟨P2, nb2, d2, m, hC, hd, hP, hN, -⟩ := id h.1
  have e := same_P hP h.2.2.1 hC.1 h.2.2.2.1
  subst e
  exact ⟨m, hN⟩
theorem gS_same {P nb d mm : Nat} {C D u N : zM} {v : Nat → Int32} (h : TR 6 P nb nb d C u) (h' : TR 6 P nb nb d D u) (hd : d < 50000) (hN : SNR P mm N v) {j : Nat} (hj : j < mm) : gS C nb v j ↔ gS D nb v j := by
  obtain ⟨-, -, -, hv⟩ := hN
  obtain ⟨-, ⟨k, hk, z1⟩, -⟩ := hv j hj
  unfold gS
  rw [kS_same h h' _ _ (by rw [z1, o_cl (by omega)]; omega)]
theorem as_gen {P nb d mm : Nat} {S : Nat → zM} {u : zM} (h : RC P nb d S u) (hN : SNR P mm (S 6) (u 1)) {c i q o : Nat}
    (hc : (c = 1 ∧ i < P ∧ i = q ∧ zr (Int32.ofNat o) 10) ∨ (c = 7 ∧ i < 6 ∧ q = 35 + i ∧ zr (Int32.ofNat o) 10) ∨ (c = 2 ∧ i < nb ∧ q = 4 + 5 * i ∧ zr (Int32.ofNat o) 4) ∨ (c = 3 ∧ i < nb ∧ q = 5 + 5 * i ∧ ∃ k, 1 ≤ k ∧ k < 10 ∧ Int32.ofNat o = Int32.ofNat k) ∨ (c = 4 ∧ i < nb ∧ q = 6 + 5 * i ∧ zr (Int32.ofNat o) P)) :
    ∃ D C', f_X0_copyFrom (S 4) (S 5) = some D ∧ f_X2_isAsIn (S 6) (zU D c i (Int32.ofNat o)) = some (okB c (S 4) nb i mm (u 1) o, C') := by
  have hd := h.2.1
  obtain ⟨D, f1, f2, -, -, -⟩ := h.cpy (S 5)
  obtain ⟨-, t1, -⟩ := h.edit f2 hc
  obtain ⟨-, t2, -⟩ := h.edit h.c2 hc
  obtain ⟨r, C', g1, g2⟩ := as_eq t1 (by omega) hN
  have e : r = okB c (S 4) nb i mm (u 1) o := by
    refine bool_ext (g2.trans (Iff.trans ⟨fun w j hj => ?_, fun w j hj => ?_⟩ okB_iff.symm))
    · exact (gS_same t1 t2 (by omega) hN hj).mp (w j hj)
    · exact (gS_same t1 t2 (by omega) hN hj).mpr (w j hj)
  rw [e] at g1
  exact ⟨D, C', f1, g1⟩
theorem so_gen {P nb d mm : Nat} {S : Nat → zM} {u : zM} (h : RC P nb d S u) (hN : SNR P mm (S 6) (u 1)) {c i q o : Nat} {w : Int32}
    (hc : (c = 1 ∧ i < P ∧ i = q ∧ zr (Int32.ofNat o) 10) ∨ (c = 7 ∧ i < 6 ∧ q = 35 + i ∧ zr (Int32.ofNat o) 10) ∨ (c = 2 ∧ i < nb ∧ q = 4 + 5 * i ∧ zr (Int32.ofNat o) 4) ∨ (c = 3 ∧ i < nb ∧ q = 5 + 5 * i ∧ ∃ k, 1 ≤ k ∧ k < 10 ∧ Int32.ofNat o = Int32.ofNat k) ∨ (c = 4 ∧ i < nb ∧ q = 6 + 5 * i ∧ zr (Int32.ofNat o) P))
    (hbo : f_X7_becomesOf (stU u) (Int32.ofNat i) w (Int32.ofNat o) = some (zU (stU u) 2 q (Int32.ofNat o))) :
    ∃ u', f_X7_isSoWith u (Int32.ofNat i) w (Int32.ofNat o) = some (okB c (S 4) nb i mm (u 1) o, u') ∧ Fr6 u u' ∧ ∀ n', n' ≤ 20 → ∀ p, p < P → u' 6 (4 * n' + p) = kS (zU (S 4) c i (Int32.ofNat o)) nb n' p := by
  have hd := h.2.1
  obtain ⟨-, t2, fr⟩ := h.edit h.c2 hc
  have e1 : zU (stU u) 2 q (Int32.ofNat o) 1 = u 1 := by rw [zU_ne _ _ _ (by decide)]; exact (rel_starts h.1).2.2.2.2
  obtain ⟨r, u', g1, g2, g3, g4⟩ := so_eq t2 (by omega) (N := S 6) (mm := mm) (by rw [e1]; exact hN)
  have e : r = okB c (S 4) nb i mm (u 1) o := by
    rw [e1] at g3
    exact bool_ext (g3.trans okB_iff.symm)
  rw [e] at g1
  refine ⟨u', ?_, ((stU_fr6 u).tr fr.six).tr g2, g4⟩
  unfold f_X7_isSoWith
  rw [starts_eq]
  simp only [Option.bind_some, zlet_eq]
  rw [hbo]
  simp only [Option.bind_some]
  exact g1
theorem fitC_loop {P nb d b mm : Nat} {u : zM} (hb : b < nb) (t : Nat) : ∀ (m i : Nat) (S : Nat → zM), RC P nb d S u → SNR P mm (S 6) (u 1) → i + t = P → t < m → ∃ X, f_X6_fittingOwners_4 m S (Int32.ofNat b) (fit (okB 4 (S 4) nb b mm (u 1)) i) (Int32.ofNat i) = some (fit (okB 4 (S 4) nb b mm (u 1)) P, va_up S 5 X) := by
  induction t with
  | zero =>
    intro m i S h hN hi hm
    obtain ⟨m, rfl⟩ : ∃ q, m = q + 1 := ⟨m - 1, by omega⟩
    have hi : i = P := by omega
    subst hi
    rw [f_X6_fittingOwners_4, h.b4.2.2.1, if_pos (Int32.le_refl _)]
    exact ⟨S 5, by rw [va_self]⟩
  | succ t ih =>
    intro m i S h hN hi hm
    obtain ⟨m, rfl⟩ : ∃ q, m = q + 1 := ⟨m - 1, by omega⟩
    obtain ⟨hP4, hn6, SP, Sn, un4⟩ := h.b4
    obtain ⟨D, C', f1, f2⟩ := as_gen h hN (c := 4) (i := b) (q := 6 + 5 * b) (o := i) (Or.inr (Or.inr (Or.inr (Or.inr ⟨rfl, hb, rfl, i, by omega, rfl⟩))))
    rw [f_X6_fittingOwners_4, SP, if_neg (nle (by omega) (by omega)), f1]
    simp only [Option.bind_some, zlet_eq, va_up_eq, vv, va_up_neq S _ (show 6 ≠ 5 by decide)]
    rw [if_pos (z_inN (show b < 6 by omega) (by decide)), o_cl (show b < 2 ^ 31 by omega), f2, o_1]
    simp only [Option.bind_some]
    have hr := h.run6 (Fr6.rf u) C'
    obtain ⟨X, q⟩ := ih m (i + 1) (va_up S 5 C') hr (by rw [va_up_neq _ _ (by decide)]; exact hN) (by omega) (by omega)
    rw [va_up_neq _ _ (by decide), vv] at q
    by_cases hk : okB 4 (S 4) nb b mm (u 1) i = true
    · rw [if_pos hk, ← fit_t hk]
      exact ⟨X, q⟩
    · rw [if_neg hk, ← fit_f hk]
      exact ⟨X, q⟩
theorem fitC {P nb d b mm : Nat} {S : Nat → zM} {u : zM} (hb : b < nb) (h : RC P nb d S u) (hN : SNR P mm (S 6) (u 1)) : ∃ X, f_X6_fittingOwners S (Int32.ofNat b) = some (fit (okB 4 (S 4) nb b mm (u 1)) P, va_up S 5 X) :=
  fitC_loop hb P FU 0 S h hN (by omega) (FU_pos (by have := h.b4.1; omega))
theorem zbf {ok : Bool} (i : Nat) (hi : i < 6) (x : Int32) : ((f_X7_flag (zb ok)).bind fun r4 => some (x ||| (r4 <<< ((Int32.ofNat i : Int32) &&& 31)))) = some (if ok = true then x ||| (1 <<< ((Int32.ofNat i : Int32) &&& 31)) else x) := by
  cases ok with
  | true =>
    rw [show f_X7_flag (zb true) = some 1 from flag1]
    rfl
  | false =>
    rw [show f_X7_flag (zb false) = some 0 from flag0]
    simp only [Option.bind_some]
    rw [sh0 i hi, or0]
    rfl
theorem zbf' {α : Type} {ok : Bool} {i : Nat} (hi : i < 6) (x : Int32) (k : Int32 → Option α) : ((f_X7_flag (zb ok)).bind fun r4 => k (x ||| (r4 <<< ((Int32.ofNat i : Int32) &&& 31)))) = k (if ok = true then x ||| (1 <<< ((Int32.ofNat i : Int32) &&& 31)) else x) := by
  cases ok with
  | true =>
    rw [show f_X7_flag (zb true) = some 1 from flag1]
    rfl
  | false =>
    rw [show f_X7_flag (zb false) = some 0 from flag0]
    simp only [Option.bind_some]
    rw [sh0 i hi, or0]
    rfl
theorem own_loop {P nb d b mm : Nat} {S : Nat → zM} (hb : b < nb) (v : Nat → Int32) (t : Nat) : ∀ (m i : Nat) (u : zM), RC P nb d S u → u 1 = v → SNR P mm (S 6) v → i + t = P → t < m → ∃ u', f_X7_owners_14 m u (Int32.ofNat b) (fit (okB 4 (S 4) nb b mm v) i) (Int32.ofNat i) = some (fit (okB 4 (S 4) nb b mm v) P, u') ∧ Fr6 u u' := by
  induction t with
  | zero =>
    intro m i u h hv hN hi hm
    obtain ⟨m, rfl⟩ : ∃ q, m = q + 1 := ⟨m - 1, by omega⟩
    have hi : i = P := by omega
    subst hi
    rw [f_X7_owners_14, h.2.2.1, if_pos (Int32.le_refl _)]
    exact ⟨u, rfl, Fr6.rf u⟩
  | succ t ih =>
    intro m i u h hv hN hi hm
    obtain ⟨m, rfl⟩ : ∃ q, m = q + 1 := ⟨m - 1, by omega⟩
    obtain ⟨hP4, hn6, SP, Sn, un4⟩ := h.b4
    subst hv
    obtain ⟨u1, f1, f2, -⟩ := so_gen h hN (c := 4) (i := b) (q := 6 + 5 * b) (o := i) (w := 2) (Or.inr (Or.inr (Or.inr (Or.inr ⟨rfl, hb, rfl, i, by omega, rfl⟩)))) (bo2 _ (by omega) _)
    rw [f_X7_owners_14, h.2.2.1, if_neg (nle (by omega) (by omega)), f1]
    simp only [Option.bind_some, zlet_eq]
    rw [zbf' (show i < 6 by omega) _ (fun x => f_X7_owners_14 m u1 (Int32.ofNat b) x (Int32.ofNat i + 1)), o_1]
    have hr := h.run6 f2 (S 5)
    rw [va_self] at hr
    have e1 : u1 1 = u 1 := f2.1 1 (by decide) (by decide) (by decide)
    obtain ⟨u2, q, fr⟩ := ih m (i + 1) u1 hr e1 hN (by omega) (by omega)
    by_cases hk : okB 4 (S 4) nb b mm (u 1) i = true
    · rw [if_pos hk, ← fit_t hk]
      exact ⟨u2, q, f2.tr fr⟩
    · rw [if_neg hk, ← fit_f hk]
      exact ⟨u2, q, f2.tr fr⟩
theorem api_owners {S : Nat → zM} {u : zM} (h : Rel S u) (a1 : Int32) : ∃ (r : Int32) (S' : Nat → zM) (u' : zM), f_X6_owners S a1 = some (r, S') ∧ f_X7_owners u a1 = some (r, u') ∧ Rel S' u' := by
  obtain ⟨P, nb, d, hc⟩ := rc_of h
  obtain ⟨hP4, hn6, SP, Sn, un4⟩ := hc.b4
  obtain ⟨mm, hN⟩ := hc.sn
  unfold f_X6_owners f_X7_owners
  rw [hasBeetle_eq Sn hn6, isBeetle_eq un4 hn6]
  simp only [Option.bind_some]
  cases hz : zw a1 0 ((nb : Int) - 1) with
  | false => exact ⟨-1, S, u, rfl, rfl, h⟩
  | true =>
    obtain ⟨b, hb, -, rfl⟩ := zw_nat hz
    obtain ⟨X, f1⟩ := fitC (show b < nb by omega) hc hN
    obtain ⟨u', g1, g2⟩ := own_loop (show b < nb by omega) (u 1) P FU 0 u hc rfl hN (by omega) (FU_pos (by omega))
    simp only [↓reduceIte]
    rw [f1]
    simp only [Option.bind_some, zlet_eq]
    exact ⟨_, _, u', rfl, g1, (hc.run6 g2 X).1⟩
theorem kindsC_loop {P nb d b mm : Nat} {u : zM} (hb : b < nb) (t : Nat) : ∀ (m i : Nat) (S : Nat → zM), RC P nb d S u → SNR P mm (S 6) (u 1) → i + t = 4 → t < m → ∃ X, f_X6_kinds_17 m S (Int32.ofNat b) (fit (okB 2 (S 4) nb b mm (u 1)) i) (Int32.ofNat i) = some (fit (okB 2 (S 4) nb b mm (u 1)) 4, va_up S 5 X) := by
  induction t with
  | zero =>
    intro m i S h hN hi hm
    obtain ⟨m, rfl⟩ : ∃ q, m = q + 1 := ⟨m - 1, by omega⟩
    have hi : i = 4 := by omega
    subst hi
    rw [f_X6_kinds_17, if_pos (show (4 : Int32) ≤ Int32.ofNat 4 by decide)]
    exact ⟨S 5, by rw [va_self]⟩
  | succ t ih =>
    intro m i S h hN hi hm
    obtain ⟨m, rfl⟩ : ∃ q, m = q + 1 := ⟨m - 1, by omega⟩
    obtain ⟨hP4, hn6, SP, Sn, un4⟩ := h.b4
    obtain ⟨D, C', f1, f2⟩ := as_gen h hN (c := 2) (i := b) (q := 4 + 5 * b) (o := i) (Or.inr (Or.inr (Or.inl ⟨rfl, hb, rfl, i, by omega, rfl⟩)))
    rw [f_X6_kinds_17, if_neg (show ¬ (4 : Int32) ≤ Int32.ofNat i from nle (a := 4) (by omega) (by decide)), f1]
    simp only [Option.bind_some, zlet_eq, va_up_eq, vv, va_up_neq S _ (show 6 ≠ 5 by decide)]
    rw [if_pos (z_inN (show b < 6 by omega) (by decide)), o_cl (show b < 2 ^ 31 by omega), f2, o_1]
    simp only [Option.bind_some]
    have hr := h.run6 (Fr6.rf u) C'
    obtain ⟨X, q⟩ := ih m (i + 1) (va_up S 5 C') hr (by rw [va_up_neq _ _ (by decide)]; exact hN) (by omega) (by omega)
    rw [va_up_neq _ _ (by decide), vv] at q
    by_cases hk : okB 2 (S 4) nb b mm (u 1) i = true
    · rw [if_pos hk, ← fit_t hk]
      exact ⟨X, q⟩
    · rw [if_neg hk, ← fit_f hk]
      exact ⟨X, q⟩
theorem kindsM_loop {P nb d b mm : Nat} {S : Nat → zM} (hb : b < nb) (v : Nat → Int32) (t : Nat) : ∀ (m i : Nat) (u : zM), RC P nb d S u → u 1 = v → SNR P mm (S 6) v → i + t = 4 → t < m → ∃ u', f_X7_kinds_14 m u (Int32.ofNat b) (fit (okB 2 (S 4) nb b mm v) i) (Int32.ofNat i) = some (fit (okB 2 (S 4) nb b mm v) 4, u') ∧ Fr6 u u' := by
  induction t with
  | zero =>
    intro m i u h hv hN hi hm
    obtain ⟨m, rfl⟩ : ∃ q, m = q + 1 := ⟨m - 1, by omega⟩
    have hi : i = 4 := by omega
    subst hi
    rw [f_X7_kinds_14, if_pos (show (4 : Int32) ≤ Int32.ofNat 4 by decide)]
    exact ⟨u, rfl, Fr6.rf u⟩
  | succ t ih =>
    intro m i u h hv hN hi hm
    obtain ⟨m, rfl⟩ : ∃ q, m = q + 1 := ⟨m - 1, by omega⟩
    obtain ⟨hP4, hn6, SP, Sn, un4⟩ := h.b4
    subst hv
    obtain ⟨u1, f1, f2, -⟩ := so_gen h hN (c := 2) (i := b) (q := 4 + 5 * b) (o := i) (w := 0) (Or.inr (Or.inr (Or.inl ⟨rfl, hb, rfl, i, by omega, rfl⟩))) (bo0 _ (by omega) _)
    rw [f_X7_kinds_14, if_neg (show ¬ (4 : Int32) ≤ Int32.ofNat i from nle (a := 4) (by omega) (by decide)), f1]
    simp only [Option.bind_some, zlet_eq]
    rw [zbf' (show i < 6 by omega) _ (fun x => f_X7_kinds_14 m u1 (Int32.ofNat b) x (Int32.ofNat i + 1)), o_1]
    have hr := h.run6 f2 (S 5)
    rw [va_self] at hr
    have e1 : u1 1 = u 1 := f2.1 1 (by decide) (by decide) (by decide)
    obtain ⟨u2, q, fr⟩ := ih m (i + 1) u1 hr e1 hN (by omega) (by omega)
    by_cases hk : okB 2 (S 4) nb b mm (u 1) i = true
    · rw [if_pos hk, ← fit_t hk]
      exact ⟨u2, q, f2.tr fr⟩
    · rw [if_neg hk, ← fit_f hk]
      exact ⟨u2, q, f2.tr fr⟩
theorem api_kinds {S : Nat → zM} {u : zM} (h : Rel S u) (a1 : Int32) : ∃ (r : Int32) (S' : Nat → zM) (u' : zM), f_X6_kinds S a1 = some (r, S') ∧ f_X7_kinds u a1 = some (r, u') ∧ Rel S' u' := by
  obtain ⟨P, nb, d, hc⟩ := rc_of h
  obtain ⟨hP4, hn6, SP, Sn, un4⟩ := hc.b4
  obtain ⟨mm, hN⟩ := hc.sn
  unfold f_X6_kinds f_X7_kinds
  rw [hasBeetle_eq Sn hn6, isBeetle_eq un4 hn6]
  simp only [Option.bind_some]
  cases hz : zw a1 0 ((nb : Int) - 1) with
  | false => exact ⟨-1, S, u, rfl, rfl, h⟩
  | true =>
    obtain ⟨b, hb, -, rfl⟩ := zw_nat hz
    obtain ⟨X, f1⟩ := kindsC_loop (show b < nb by omega) 4 FU 0 S hc hN (by omega) (FU_pos (by omega))
    obtain ⟨u', g1, g2⟩ := kindsM_loop (show b < nb by omega) (u 1) 4 FU 0 u hc rfl hN (by omega) (FU_pos (by omega))
    simp only [↓reduceIte]
    exact ⟨_, _, u', f1, g1, (hc.run6 g2 X).1⟩
