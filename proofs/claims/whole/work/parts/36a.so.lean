/-! whether all is as SEEN -/
noncomputable def pT (C : zM) : zM := ((f_X0_windToday C).bind fun w => f_X0_passDay C w).getD C
noncomputable def pN (C : zM) : Nat → zM
  | 0 => C
  | n + 1 => pT (pN C n)
theorem pT_eq {a P N n d : Nat} {C u : zM} (h : TR a P N n d C u) (hd : d < 99999) : ∃ w u', f_X0_windToday C = some w ∧ f_X7_strengthNow u = some w ∧ f_X0_passDay C w = some (pT C) ∧ f_X7_dayGoes u w = some u' ∧ TR a P N n (d + 1) (pT C) u' ∧ Fr u u' ∧ FL C u (pT C) u' := by
  obtain ⟨w, C', u', e1, e2, e3, e4, e5, e6, e7⟩ := dayW_eq h hd
  have e : pT C = C' := by
    unfold pT
    rw [e1]
    simp only [Option.bind_some]
    rw [e3]
    rfl
  rw [e]
  exact ⟨w, u', e1, e2, e3, e4, e5, e6, e7⟩
/-- two blocks beside one running row are counted alike, now and as days go by -/
theorem pN_same {a P N n d : Nat} {C D u : zM} (h : TR a P N n d C u) (h' : TR a P N n d D u) (k : Nat) (hd : d + k < 99999) : ∃ u', TR a P N n (d + k) (pN C k) u' ∧ TR a P N n (d + k) (pN D k) u' := by
  induction k with
  | zero => exact ⟨u, h, h'⟩
  | succ k ih =>
    obtain ⟨u1, q1, q2⟩ := ih (by omega)
    obtain ⟨w, u2, e1, e2, e3, e4, e5, -⟩ := pT_eq q1 (by omega)
    obtain ⟨w', u2', e1', e2', e3', e4', e5', -⟩ := pT_eq q2 (by omega)
    rw [e2] at e2'
    have ew := Option.some.inj e2'
    subst ew
    rw [e4] at e4'
    have eu := Option.some.inj e4'
    subst eu
    exact ⟨u2, e5, e5'⟩
theorem cS_same {a P N n d : Nat} {C D u : zM} (h : TR a P N n d C u) (h' : TR a P N n d D u) (p : Int32) : cS C p n = cS D p n := by
  have e := countedM h p
  rw [countedM h' p] at e
  have l1 := cS_108 h p
  have l2 := cS_108 h' p
  exact ((o_eq (by omega) (by omega)).mp (Option.some.inj e)).symm
/-- what a look at a ONE shows behind k days -/
noncomputable def kS (C : zM) (nb k p : Nat) : Int32 := Int32.ofNat (cS (pN C k) (Int32.ofNat p) nb)
theorem kS_same {P nb d : Nat} {C D u : zM} (h : TR 6 P nb nb d C u) (h' : TR 6 P nb nb d D u) (k p : Nat) (hd : d + k < 99999) : kS C nb k p = kS D nb k p := by
  obtain ⟨u', q1, q2⟩ := pN_same h h' k hd
  unfold kS
  rw [cS_same q1 q2]
def Fr6 (u u' : zM) : Prop := (∀ j, j ≠ 0 → j ≠ 2 → j ≠ 6 → u' j = u j) ∧ ∀ k, k ≠ 16 → k ≠ 17 → k ≠ 18 → u' 0 k = u 0 k
theorem Fr6.rf (u : zM) : Fr6 u u := ⟨fun _ _ _ _ => rfl, fun _ _ _ _ => rfl⟩
theorem Fr6.tr {u v w : zM} (h : Fr6 u v) (h' : Fr6 v w) : Fr6 u w := ⟨fun j a b c => (h'.1 j a b c).trans (h.1 j a b c), fun j a b c => (h'.2 j a b c).trans (h.2 j a b c)⟩
theorem Fr.six {u v : zM} (h : Fr u v) : Fr6 u v := ⟨fun j a b _ => h.1 j a b, fun k _ b c => h.2.1 k b c⟩
theorem RC.run6 {P nb d : Nat} {S : Nat → zM} {u u' : zM} (h : RC P nb d S u) (hf : Fr6 u u') (C' : zM) : RC P nb d (va_up S 5 C') u' := by
  obtain ⟨h1, h2, h3, h4⟩ := h
  refine ⟨rel_scr h1 ?_ ?_ ?_ ?_ ?_, h2, (hf.2 3 (by decide) (by decide) (by decide)).trans h3, ?_⟩
  · intro i _ _ _ _ h5
    exact va_up_neq _ _ h5
  · rw [va_up_neq _ _ (by decide)]
  · rw [va_up_neq _ _ (by decide)]
  · intro j hj
    exact hf.1 j (by omega) (by omega) (by omega)
  · intro k hk
    exact hf.2 k (by omega) (by omega) (by omega)
  · rw [va_up_neq _ _ (by decide), hf.1 1 (by decide) (by decide) (by decide)]
    exact h4
theorem stU_fr6 (u : zM) : Fr6 u (stU u) := by
  unfold stU
  exact ⟨fun j h0 h2 _ => by rw [zU_ne _ _ _ h0, rowF_ne _ _ _ _ h2], fun k h16 _ _ => by rw [zu_j _ _ _ _ h16, rowF_ne _ _ _ _ (by decide)]⟩
theorem so24 {P nb d n : Nat} (hn : n ≤ 20) (k14 : zM → Int32 → Option (Bool × zM)) (t : Nat) : ∀ (m p : Nat) (C u : zM), TR 6 P nb nb d C u → p + t = P → t < m → ∃ u2, f_X7_isSoWith_24 k14 m u (Int32.ofNat n) (Int32.ofNat p) = ((f_X7_strengthNow u2).bind fun r5 => (f_X7_dayGoes u2 r5).bind fun r6 => zlet r6 fun u7 => k14 u7 (Int32.ofNat (n + 1))) ∧ (∀ j, j ≠ 6 → u2 j = u j) ∧ (∀ q, q < 4 * n + p ∨ 4 * n + P ≤ q → u2 6 q = u 6 q) ∧ ∀ q, p ≤ q → q < P → u2 6 (4 * n + q) = Int32.ofNat (cS C (Int32.ofNat q) nb) := by
  induction t with
  | zero =>
    intro m p C u h hp hm
    obtain ⟨m, rfl⟩ : ∃ q, m = q + 1 := ⟨m - 1, by omega⟩
    have hp : p = P := by omega
    subst hp
    rw [f_X7_isSoWith_24, h.2.2.2.2.2.1, if_pos (Int32.le_refl _), o_1]
    exact ⟨u, rfl, fun _ _ => rfl, fun _ _ => rfl, fun q h1 h2 => by omega⟩
  | succ t ih =>
    intro m p C u h hp hm
    obtain ⟨m, rfl⟩ : ∃ q, m = q + 1 := ⟨m - 1, by omega⟩
    have hP4 := h.1
    have e4 : (4 : Int32) * Int32.ofNat n + Int32.ofNat p = Int32.ofNat (4 * n + p) := by rw [show (4 : Int32) * Int32.ofNat n = Int32.ofNat (4 * n) from o_mul 4 n, o_add]
    rw [f_X7_isSoWith_24, h.2.2.2.2.2.1, if_neg (nle (by omega) (by omega)), countedM h]
    simp only [Option.bind_some]
    rw [e4, if_pos (z_inN (show 4 * n + p < 84 by omega) (by decide)), o_cl (show 4 * n + p < 2 ^ 31 by omega), o_1, zlet_eq]
    have h2 : TR 6 P nb nb d C (zU u 6 (4 * n + p) (Int32.ofNat (cS C (Int32.ofNat p) nb))) := tr_fl h ⟨by rw [zU_ne _ _ _ (by decide)], by rw [zU_ne _ _ _ (by decide)]⟩ (fun k _ => by rw [zU_ne _ _ _ (by decide)])
    obtain ⟨u2, f1, f2, f3, f4⟩ := ih m (p + 1) C _ h2 (by omega) (by omega)
    refine ⟨u2, f1, fun j hj => (f2 j hj).trans (zU_ne _ _ _ hj), fun q hq => ?_, fun q h1 h2 => ?_⟩
    · rw [f3 q (by omega), zu_j _ _ _ _ (by omega)]
    · by_cases hqp : q = p
      · subst hqp
        rw [f3 _ (by omega), zu_eq]
      · exact f4 q (by omega) h2
theorem so14 {P nb d : Nat} {C : zM} (hd : d < 50000) (t : Nat) : ∀ (m n : Nat) (u : zM), TR 6 P nb nb (d + n) (pN C n) u → n + t = 21 → t < m → ∃ u2, f_X7_isSoWith_14 m u (Int32.ofNat n) = f_X7_isSoWith_77 FU u2 true 0 ∧ Fr6 u u2 ∧ (∀ q, q < 4 * n → u2 6 q = u 6 q) ∧ ∀ n', n ≤ n' → n' ≤ 20 → ∀ p, p < P → u2 6 (4 * n' + p) = kS C nb n' p := by
  induction t with
  | zero =>
    intro m n u h hn hm
    obtain ⟨m, rfl⟩ : ∃ q, m = q + 1 := ⟨m - 1, by omega⟩
    have hn : n = 21 := by omega
    subst hn
    rw [f_X7_isSoWith_14, if_pos (show (20 : Int32) < Int32.ofNat 21 by decide)]
    exact ⟨u, rfl, Fr6.rf u, fun _ _ => rfl, fun n' h1 h2 => by omega⟩
  | succ t ih =>
    intro m n u h hn hm
    obtain ⟨m, rfl⟩ : ∃ q, m = q + 1 := ⟨m - 1, by omega⟩
    have hP4 := h.1
    have l20 : ¬ (20 : Int32) < Int32.ofNat n := i32_nlt.mpr ((o_le (a := n) (b := 20) (by omega) (by decide)).mpr (by omega))
    rw [f_X7_isSoWith_14, if_neg l20]
    obtain ⟨u2, f1, f2, f3, f4⟩ := so24 (n := n) (by omega) (fun u v4 => f_X7_isSoWith_14 m u v4) P FU 0 (pN C n) u h (by omega) (FU_pos (by omega))
    rw [show f_X7_isSoWith_24 (fun u v4 => f_X7_isSoWith_14 m u v4) FU u (Int32.ofNat n) 0 = _ from f1]
    have h2 : TR 6 P nb nb (d + n) (pN C n) u2 := tr_fl h ⟨by rw [f2 0 (by decide)], by rw [f2 0 (by decide)]⟩ (fun k _ => by rw [f2 2 (by decide)])
    obtain ⟨w, u3, e1, e2, e3, e4, e5, e6, -⟩ := pT_eq h2 (by omega)
    rw [e2]
    simp only [Option.bind_some]
    rw [e4]
    simp only [Option.bind_some, zlet_eq]
    obtain ⟨u4, g1, g2, g3, g4⟩ := ih m (n + 1) u3 e5 (by omega) (by omega)
    have fr : Fr6 u u2 := ⟨fun j _ _ h6 => f2 j h6, fun k _ _ _ => by rw [f2 0 (by decide)]⟩
    refine ⟨u4, g1, (fr.tr e6.six).tr g2, fun q hq => ?_, fun n' h1 h2 p hp => ?_⟩
    · rw [g3 q (by omega), e6.1 6 (by decide) (by decide), f3 q (by omega)]
    · by_cases hq : n' = n
      · subst hq
        rw [g3 _ (by omega), e6.1 6 (by decide) (by decide), f4 p (Nat.zero_le _) hp]
        rfl
      · exact g4 n' (by omega) h2 p hp
/-- the i-th that was SEEN holds -/
def gS (C : zM) (nb : Nat) (v : Nat → Int32) (i : Nat) : Prop := kS C nb (v (43 + 3 * i)).toNatClampNeg (v (44 + 3 * i)).toNatClampNeg = v (45 + 3 * i)
theorem so77 {P nb mm : Nat} {C u : zM} (h6 : mm ≤ 6) (hm : u 1 42 = Int32.ofNat mm) (hP : P ≤ 4) (hv : ∀ i, i < mm → zr (u 1 (43 + 3 * i)) 21 ∧ zr (u 1 (44 + 3 * i)) P) (hs : ∀ n', n' ≤ 20 → ∀ p, p < P → u 6 (4 * n' + p) = kS C nb n' p) (t : Nat) : ∀ (m i : Nat) (b : Bool), i + t = mm → t < m → ∃ r, f_X7_isSoWith_77 m u b (Int32.ofNat i) = some (r, u) ∧ (r = true ↔ b = true ∧ ∀ j, i ≤ j → j < mm → gS C nb (u 1) j) := by
  induction t with
  | zero =>
    intro m i b hi hmm
    obtain ⟨m, rfl⟩ : ∃ q, m = q + 1 := ⟨m - 1, by omega⟩
    have hi : i = mm := by omega
    subst hi
    rw [f_X7_isSoWith_77, if_pos (show z_in 42 183 = true by decide), show Int32.toNatClampNeg 42 = 42 from rfl, hm, if_pos (Int32.le_refl _)]
    exact ⟨b, rfl, fun q => ⟨q, fun j h1 h2 => by omega⟩, fun q => q.1⟩
  | succ t ih =>
    intro m i b hi hmm
    obtain ⟨m, rfl⟩ : ∃ q, m = q + 1 := ⟨m - 1, by omega⟩
    rw [f_X7_isSoWith_77, if_pos (show z_in 42 183 = true by decide), show Int32.toNatClampNeg 42 = 42 from rfl, hm, if_neg (nle (by omega) (by omega)), o_1]
    cases b with
    | false =>
      rw [if_neg (by decide)]
      obtain ⟨r, f1, f2⟩ := ih m (i + 1) false (by omega) (by omega)
      exact ⟨r, f1, fun q => absurd (f2.mp q).1 (by decide), fun q => absurd q.1 (by decide)⟩
    | true =>
      obtain ⟨⟨k, hk, e1⟩, p, hp, e2⟩ := hv i (by omega)
      have e43 : (43 : Int32) + 3 * Int32.ofNat i = Int32.ofNat (43 + 3 * i) := by rw [show (3 : Int32) * Int32.ofNat i = Int32.ofNat (3 * i) from o_mul 3 i]; exact o_add 43 (3 * i)
      have e44 : Int32.ofNat (43 + 3 * i) + 1 = Int32.ofNat (44 + 3 * i) := by rw [o_1]; congr 1; omega
      have e45 : Int32.ofNat (43 + 3 * i) + 2 = Int32.ofNat (45 + 3 * i) := (o_add _ 2).trans (congrArg Int32.ofNat (by omega))
      have e4 : (4 : Int32) * Int32.ofNat k + Int32.ofNat p = Int32.ofNat (4 * k + p) := by rw [show (4 : Int32) * Int32.ofNat k = Int32.ofNat (4 * k) from o_mul 4 k, o_add]
      rw [if_pos rfl, e43, e44, e45]
      simp only [z_inN (show 43 + 3 * i < 183 by omega) (show 183 < 2 ^ 31 by decide), z_inN (show 44 + 3 * i < 183 by omega) (show 183 < 2 ^ 31 by decide), z_inN (show 45 + 3 * i < 183 by omega) (show 183 < 2 ^ 31 by decide), ↓reduceIte, o_cl (show 43 + 3 * i < 2 ^ 31 by omega), o_cl (show 44 + 3 * i < 2 ^ 31 by omega), o_cl (show 45 + 3 * i < 2 ^ 31 by omega), e1, e2, e4, z_inN (show 4 * k + p < 84 by omega) (show 84 < 2 ^ 31 by decide), o_cl (show 4 * k + p < 2 ^ 31 by omega)]
      rw [hs k (by omega) p hp]
      have eg : gS C nb (u 1) i ↔ kS C nb k p = u 1 (45 + 3 * i) := by
        unfold gS
        rw [e1, e2, o_cl (by omega), o_cl (by omega)]
      by_cases hg : kS C nb k p = u 1 (45 + 3 * i)
      · rw [if_pos hg]
        obtain ⟨r, f1, f2⟩ := ih m (i + 1) true (by omega) (by omega)
        refine ⟨r, f1, fun q => ⟨trivial, fun j h1 h2 => ?_⟩, fun q => f2.mpr ⟨rfl, fun j h1 h2 => q.2 j (by omega) h2⟩⟩
        by_cases hj : j = i
        · subst hj; exact eg.mpr hg
        · exact (f2.mp q).2 j (by omega) h2
      · rw [if_neg hg]
        obtain ⟨r, f1, f2⟩ := ih m (i + 1) false (by omega) (by omega)
        exact ⟨r, f1, fun q => absurd (f2.mp q).1 (by decide), fun q => absurd (eg.mp (q.2 i (Nat.le_refl _) (by omega))) hg⟩
/-- the class's side -/
theorem as39 {P nb d mm n : Nat} {N C : zM} {v : Nat → Int32} (hd : d < 50000) (hn : n ≤ 20) (hN : SNR P mm N v) (k31 : zM → Int32 → Int32 → Option (Bool × zM)) (v2 : Int32) {u : zM} (h : TR 6 P nb nb (d + n) (pN C n) u) (t : Nat) : ∀ (m i : Nat), i + t = mm → t < m → ((∀ j, i ≤ j → j < mm → (v (43 + 3 * j)).toNatClampNeg = n → gS C nb v j) ∧ f_X2_isAsIn_39 N k31 m (pN C n) v2 (Int32.ofNat n) (Int32.ofNat i) = k31 (pN C (n + 1)) v2 (Int32.ofNat (n + 1))) ∨ ((∃ j, i ≤ j ∧ j < mm ∧ (v (43 + 3 * j)).toNatClampNeg = n ∧ ¬ gS C nb v j) ∧ f_X2_isAsIn_39 N k31 m (pN C n) v2 (Int32.ofNat n) (Int32.ofNat i) = some (false, pN C n)) := by
  obtain ⟨h6, hm0, hm1, hv⟩ := hN
  induction t with
  | zero =>
    intro m i hi hm
    obtain ⟨m, rfl⟩ : ∃ q, m = q + 1 := ⟨m - 1, by omega⟩
    have hi : i = mm := by omega
    subst hi
    obtain ⟨w, u3, e1, e2, e3, e4, e5, e6, -⟩ := pT_eq h (by omega)
    refine Or.inl ⟨fun j h1 h2 => by omega, ?_⟩
    rw [f_X2_isAsIn_39, hm0, if_pos (Int32.le_refl _), e1]
    simp only [Option.bind_some]
    rw [e3, o_1]
    rfl
  | succ t ih =>
    intro m i hi hm
    obtain ⟨m, rfl⟩ : ∃ q, m = q + 1 := ⟨m - 1, by omega⟩
    obtain ⟨e1, ⟨k, hk, z1⟩, e2, ⟨p, hp, z2⟩, e3⟩ := hv i (by omega)
    have eg : (v (43 + 3 * i)).toNatClampNeg = k := by rw [z1, o_cl (by omega)]
    have ep : (v (44 + 3 * i)).toNatClampNeg = p := by rw [z2, o_cl (by have := h.1; omega)]
    rw [f_X2_isAsIn_39, hm0, if_neg (nle (by omega) (by omega)), if_pos (z_inN (show i < 6 by omega) (by decide)), o_cl (show i < 2 ^ 31 by omega), e1, e2, e3, z1, z2, o_1]
    have go : (v (43 + 3 * i)).toNatClampNeg = n → gS C nb v i → ((∀ j, i ≤ j → j < mm → (v (43 + 3 * j)).toNatClampNeg = n → gS C nb v j) ∧ f_X2_isAsIn_39 N k31 m (pN C n) v2 (Int32.ofNat n) (Int32.ofNat (i + 1)) = k31 (pN C (n + 1)) v2 (Int32.ofNat (n + 1))) ∨ ((∃ j, i ≤ j ∧ j < mm ∧ (v (43 + 3 * j)).toNatClampNeg = n ∧ ¬ gS C nb v j) ∧ f_X2_isAsIn_39 N k31 m (pN C n) v2 (Int32.ofNat n) (Int32.ofNat (i + 1)) = some (false, pN C n)) := by
      intro _ hg
      rcases ih m (i + 1) (by omega) (by omega) with ⟨q1, q2⟩ | ⟨⟨j, q1, q2, q3⟩, q4⟩
      · refine Or.inl ⟨fun j h1 h2 h3 => ?_, q2⟩
        by_cases hj : j = i
        · rw [hj]; exact hg
        · exact q1 j (by omega) h2 h3
      · exact Or.inr ⟨⟨j, by omega, q2, q3⟩, q4⟩
    by_cases hkn : k = n
    · subst hkn
      rw [if_pos rfl, if_pos (z_inN (show i < 6 by omega) (by decide)), countedC h]
      simp only [Option.bind_some]
      rw [if_pos (z_inN (show i < 6 by omega) (by decide))]
      by_cases hg : Int32.ofNat (cS (pN C k) (Int32.ofNat p) nb) = v (45 + 3 * i)
      · rw [if_pos hg]
        refine go eg ?_
        unfold gS
        rw [eg, ep]
        exact hg
      · rw [if_neg hg]
        refine Or.inr ⟨⟨i, Nat.le_refl _, by omega, eg, ?_⟩, rfl⟩
        unfold gS
        rw [eg, ep]
        exact hg
    · rw [if_neg (o_ne hkn (by omega) (by omega))]
      rcases ih m (i + 1) (by omega) (by omega) with ⟨q1, q2⟩ | ⟨⟨j, q1, q2, q3⟩, q4⟩
      · refine Or.inl ⟨fun j h1 h2 h3 => ?_, q2⟩
        by_cases hj : j = i
        · subst hj; rw [eg] at h3; exact absurd h3 hkn
        · exact q1 j (by omega) h2 h3
      · exact Or.inr ⟨⟨j, by omega, q2, q3⟩, q4⟩
theorem as31 {P nb d mm last : Nat} {N C : zM} {v : Nat → Int32} (hd : d < 50000) (hl : last ≤ 20) (hN : SNR P mm N v) (t : Nat) : ∀ (m n : Nat) (u : zM), TR 6 P nb nb (d + n) (pN C n) u → n + t = last + 1 → t < m → ∃ r C', f_X2_isAsIn_31 N m (pN C n) (Int32.ofNat last) (Int32.ofNat n) = some (r, C') ∧ (r = true ↔ ∀ j, j < mm → n ≤ (v (43 + 3 * j)).toNatClampNeg → (v (43 + 3 * j)).toNatClampNeg ≤ last → gS C nb v j) := by
  induction t with
  | zero =>
    intro m n u h hn hm
    obtain ⟨m, rfl⟩ : ∃ q, m = q + 1 := ⟨m - 1, by omega⟩
    rw [f_X2_isAsIn_31, if_pos ((o_lt (by omega) (by omega)).mpr (show last < n by omega))]
    exact ⟨true, _, rfl, fun _ j h1 h2 h3 => by omega, fun _ => rfl⟩
  | succ t ih =>
    intro m n u h hn hm
    obtain ⟨m, rfl⟩ : ∃ q, m = q + 1 := ⟨m - 1, by omega⟩
    rw [f_X2_isAsIn_31, if_neg (i32_nlt.mpr ((o_le (by omega) (by omega)).mpr (show n ≤ last by omega)))]
    rcases as39 hd (show n ≤ 20 by omega) hN (fun u v2 v3 => f_X2_isAsIn_31 N m u v2 v3) (Int32.ofNat last) h mm FU 0 (by omega) (FU_pos (by have := hN.1; omega)) with ⟨q1, q2⟩ | ⟨⟨j, q1, q2, q3, q4⟩, q5⟩
    · rw [show f_X2_isAsIn_39 N (fun u v2 v3 => f_X2_isAsIn_31 N m u v2 v3) FU (pN C n) (Int32.ofNat last) (Int32.ofNat n) 0 = _ from q2]
      obtain ⟨w, u3, e1, e2, e3, e4, e5, e6, -⟩ := pT_eq h (by omega)
      obtain ⟨r, C', f1, f2⟩ := ih m (n + 1) u3 e5 (by omega) (by omega)
      refine ⟨r, C', f1, fun q j h1 h2 h3 => ?_, fun q => f2.mpr (fun j h1 h2 h3 => q j h1 (by omega) h3)⟩
      by_cases hj : (v (43 + 3 * j)).toNatClampNeg = n
      · exact q1 j (Nat.zero_le _) h1 hj
      · exact f2.mp q j h1 (by omega) h3
    · rw [show f_X2_isAsIn_39 N (fun u v2 v3 => f_X2_isAsIn_31 N m u v2 v3) FU (pN C n) (Int32.ofNat last) (Int32.ofNat n) 0 = _ from q5]
      exact ⟨false, _, rfl, fun q => absurd q (by decide), fun q => absurd (q j q2 (by omega) (by omega)) q4⟩
theorem as4 {P nb mm : Nat} {N C : zM} {v : Nat → Int32} (hN : SNR P mm N v) (t : Nat) : ∀ (m i last : Nat), i + t = mm → t < m → last ≤ 20 → (∀ j, j < i → (v (43 + 3 * j)).toNatClampNeg ≤ last) → ∃ last', last' ≤ 20 ∧ f_X2_isAsIn_4 N m C (Int32.ofNat last) (Int32.ofNat i) = f_X2_isAsIn_31 N FU C (Int32.ofNat last') 0 ∧ ∀ j, j < mm → (v (43 + 3 * j)).toNatClampNeg ≤ last' := by
  obtain ⟨h6, hm0, hm1, hv⟩ := hN
  induction t with
  | zero =>
    intro m i last hi hm hl hj
    obtain ⟨m, rfl⟩ : ∃ q, m = q + 1 := ⟨m - 1, by omega⟩
    have hi : i = mm := by omega
    subst hi
    rw [f_X2_isAsIn_4, hm0, if_pos (Int32.le_refl _)]
    exact ⟨last, hl, rfl, hj⟩
  | succ t ih =>
    intro m i last hi hm hl hj
    obtain ⟨m, rfl⟩ : ∃ q, m = q + 1 := ⟨m - 1, by omega⟩
    obtain ⟨e1, ⟨k, hk, z1⟩, -⟩ := hv i (by omega)
    have eg : (v (43 + 3 * i)).toNatClampNeg = k := by rw [z1, o_cl (by omega)]
    rw [f_X2_isAsIn_4, hm0, if_neg (nle (by omega) (by omega)), if_pos (z_inN (show i < 6 by omega) (by decide)), o_cl (show i < 2 ^ 31 by omega), e1, z1, o_1]
    by_cases hlk : last < k
    · rw [if_pos ((o_lt (by omega) (by omega)).mpr hlk)]
      refine ih m (i + 1) k (by omega) (by omega) (by omega) (fun j hj2 => ?_)
      by_cases hji : j = i
      · rw [hji, eg]; exact Nat.le_refl _
      · have := hj j (by omega); omega
    · rw [if_neg (fun q => hlk ((o_lt (by omega) (by omega)).mp q))]
      refine ih m (i + 1) last (by omega) (by omega) hl (fun j hj2 => ?_)
      by_cases hji : j = i
      · rw [hji, eg]; omega
      · exact hj j (by omega)
theorem as_eq {P nb d mm : Nat} {N C u : zM} {v : Nat → Int32} (h : TR 6 P nb nb d C u) (hd : d < 50000) (hN : SNR P mm N v) : ∃ r C', f_X2_isAsIn N C = some (r, C') ∧ (r = true ↔ ∀ j, j < mm → gS C nb v j) := by
  obtain ⟨last, hl, f1, f2⟩ := as4 (nb := nb) (C := C) hN mm FU 0 0 (by omega) (FU_pos (by have := hN.1; omega)) (by omega) (fun j hj => by omega)
  obtain ⟨r, C', g1, g2⟩ := as31 (C := C) hd hl hN (last + 1) FU 0 u h (by omega) (FU_pos (by omega))
  refine ⟨r, C', f1.trans g1, fun q j hj => g2.mp q j hj (Nat.zero_le _) (f2 j hj), fun q => g2.mpr (fun j hj _ _ => q j hj)⟩
/-- the reference's side -/
theorem so_eq {P nb d mm : Nat} {N C u : zM} (h : TR 6 P nb nb d C u) (hd : d < 50000) (hN : SNR P mm N (u 1)) : ∃ r u', f_X7_isSoWith_14 FU u 0 = some (r, u') ∧ Fr6 u u' ∧ (r = true ↔ ∀ j, j < mm → gS C nb (u 1) j) ∧ ∀ n', n' ≤ 20 → ∀ p, p < P → u' 6 (4 * n' + p) = kS C nb n' p := by
  obtain ⟨u2, f1, f2, -, f4⟩ := so14 (C := C) hd 21 FU 0 u h (by omega) (FU_pos (by omega))
  have e1 : u2 1 = u 1 := f2.1 1 (by decide) (by decide) (by decide)
  obtain ⟨h6, hm0, hm1, hv⟩ := hN
  obtain ⟨r, g1, g2⟩ := so77 (P := P) (nb := nb) (C := C) (u := u2) h6 (by rw [e1]; exact hm1) h.1 (fun i hi => by rw [e1]; exact ⟨(hv i hi).2.1, (hv i hi).2.2.2.1⟩) (fun n' h1 p hp => f4 n' (Nat.zero_le _) h1 p hp) mm FU 0 true (by omega) (FU_pos (by omega))
  refine ⟨r, u2, f1.trans g1, f2, ?_, fun n' h1 p hp => f4 n' (Nat.zero_le _) h1 p hp⟩
  rw [e1] at g2
  exact ⟨fun q j hj => (g2.mp q).2 j (Nat.zero_le _) hj, fun q => g2.mpr ⟨rfl, fun j _ hj => q j hj⟩⟩
