/-! read -/
theorem dab_eq {P nb d : Nat} {C u : zM} (hC : CR P nb d C (u 1)) (hP : u 0 3 = Int32.ofNat P) (a1 a2 a3 : Int32) : ∃ r C' v' nb', f_X0_takeDabbed C a1 a2 a3 = some (r, C') ∧ f_X7_dab u a1 a2 a3 = some (r, va_up u 1 v') ∧ CR P nb' d C' v' ∧ ∀ k, 42 ≤ k → v' k = u 1 k := by
  have hP4 := hC.1
  have hn6 := hC.2.1
  have hr : ∀ x : Int32, some (x, u) = some (x, va_up u 1 (u 1)) := fun x => by rw [va_self]
  unfold f_X7_dab f_X0_takeDabbed f_X6_isKind f_X0_addBeetle f_X0_hasRoomForBeetle
  rw [canBe_0, canBe_1, canBe_2 hP hP4, wi_0_3, wi_1_9, hasOne_eq hC.2.2.2.1 hC.1]
  cases hz : zw a1 0 3 with
  | false => exact ⟨-1, C, u 1, nb, rfl, hr _, hC, fun _ _ => rfl⟩
  | true =>
    obtain ⟨a, hka, -, rfl⟩ := zw_nat hz
    cases hy : zw a2 1 9 with
    | false => exact ⟨-1, C, u 1, nb, rfl, hr _, hC, fun _ _ => rfl⟩
    | true =>
      obtain ⟨k, hk1, hk, -, rfl⟩ := zw_natL (by decide) hy
      cases hx : zw a3 0 ((P : Int) - 1) with
      | false => exact ⟨-1, C, u 1, nb, rfl, hr _, hC, fun _ _ => rfl⟩
      | true =>
        obtain ⟨o, ho, -, rfl⟩ := zw_nat hx
        simp only [Option.bind_some, ↓reduceIte, zlet_eq]
        rw [if_pos (show z_in 34 183 = true by decide), show Int32.toNatClampNeg 34 = 34 from rfl, hC.2.2.2.2.1, hC.2.2.2.2.2.1]
        rcases Nat.lt_or_ge nb 6 with h6 | h6
        · rw [if_neg (show ¬ (6 : Int32) ≤ Int32.ofNat nb from (fun q => absurd ((o_le (a := 6) (by decide) (by omega)).mp q) (by omega))), if_neg (show ¬ Int32.ofNat nb = 6 from o_ne (b := 6) (by omega) (by omega) (by decide))]
          rw [show 4 + 5 * Int32.ofNat nb + 0 = Int32.ofNat (4 + 5 * nb) from at_b nb 0, show 4 + 5 * Int32.ofNat nb + 1 = Int32.ofNat (5 + 5 * nb) from (at_b nb 1).trans (congrArg Int32.ofNat (by omega)), show 4 + 5 * Int32.ofNat nb + 2 = Int32.ofNat (6 + 5 * nb) from (at_b nb 2).trans (congrArg Int32.ofNat (by omega)), show 4 + 5 * Int32.ofNat nb + 3 = Int32.ofNat (7 + 5 * nb) from (at_b nb 3).trans (congrArg Int32.ofNat (by omega)), show 4 + 5 * Int32.ofNat nb + 4 = Int32.ofNat (8 + 5 * nb) from (at_b nb 4).trans (congrArg Int32.ofNat (by omega))]
          have j : z_in 34 183 = true := by decide
          have hi : z_in (Int32.ofNat nb) 6 = true := z_inN h6 (by decide)
          have hi4 : z_in (Int32.ofNat o) 4 = true := z_inN (by omega) (by decide)
          have i1 : z_in (Int32.ofNat (4 + 5 * nb)) 183 = true := z_inN (by omega) (by decide)
          have i2 : z_in (Int32.ofNat (5 + 5 * nb)) 183 = true := z_inN (by omega) (by decide)
          have i3 : z_in (Int32.ofNat (6 + 5 * nb)) 183 = true := z_inN (by omega) (by decide)
          have i4 : z_in (Int32.ofNat (7 + 5 * nb)) 183 = true := z_inN (by omega) (by decide)
          have i5 : z_in (Int32.ofNat (8 + 5 * nb)) 183 = true := z_inN (by omega) (by decide)
          have c0 : (Int32.ofNat nb).toNatClampNeg = nb := o_cl (by omega)
          have c1 : (Int32.ofNat (4 + 5 * nb)).toNatClampNeg = 4 + 5 * nb := o_cl (by omega)
          have c2 : (Int32.ofNat (5 + 5 * nb)).toNatClampNeg = 5 + 5 * nb := o_cl (by omega)
          have c3 : (Int32.ofNat (6 + 5 * nb)).toNatClampNeg = 6 + 5 * nb := o_cl (by omega)
          have c4 : (Int32.ofNat (7 + 5 * nb)).toNatClampNeg = 7 + 5 * nb := o_cl (by omega)
          have c5 : (Int32.ofNat (8 + 5 * nb)).toNatClampNeg = 8 + 5 * nb := o_cl (by omega)
          have hb1 : C 0 1 = Int32.ofNat nb := hC.2.2.2.2.1
          have hb2 : u 1 34 = Int32.ofNat nb := hC.2.2.2.2.2.1
          simp (disch := omega) only [zU_ne, hb1, hi, hi4, i1, i2, i3, i4, i5, j, c0, c1, c2, c3, c4, c5, ↓reduceIte, Option.bind_some, zu_eq, o_1]
          simp (disch := omega) only [zu_j, hb2, o_1, zU_ne, zu_eq, hb1]
          rw [zU_va u 1, zU_zU, zU_zU, zU_zU, zU_zU, zU_zU]
          refine ⟨Int32.ofNat (nb + 1), _, _, nb + 1, rfl, rfl, ?_, fun j hj => by rw [up_ne _ _ _ (by omega), up_ne _ _ _ (by omega), up_ne _ _ _ (by omega), up_ne _ _ _ (by omega), up_ne _ _ _ (by omega), up_ne _ _ _ (by omega)]⟩
          exact cr_add hC h6 ⟨a, by omega, rfl⟩ (by omega) (by omega) (by omega) rfl
        · have h6 : nb = 6 := by omega
          subst h6
          exact ⟨-3, C, u 1, 6, rfl, hr _, hC, fun _ _ => rfl⟩
theorem f3_toInt (f : Int32) {j : Nat} (hj : j ≤ 100) : (f + Int32.ofNat j).toInt = f.toInt + j ∨ (f + Int32.ofNat j).toInt < 0 ∧ 2 ^ 31 ≤ f.toInt + j := by
  have h1 := Int32.toInt_lt f
  have h2 := Int32.le_toInt f
  rw [Int32.toInt_add, o_toInt (by omega)]
  by_cases c : f.toInt + j < 2 ^ 31
  · exact Or.inl (Int.bmod_eq_of_le (by omega) (by omega))
  · refine Or.inr ⟨?_, by omega⟩
    rw [Int.bmod_def]
    split <;> omega
theorem p_toInt (f : Int32) {i c : Nat} (hi : i < 14) (hc : c < 3) : ((Int32.toInt64 f + Int32.toInt64 (3 * Int32.ofNat i)) + Int32.toInt64 (Int32.ofNat c)).toInt = f.toInt + 3 * i + c := by
  have h1 := Int32.toInt_lt f
  have h2 := Int32.le_toInt f
  rw [show (3 : Int32) * Int32.ofNat i = Int32.ofNat (3 * i) from o_mul 3 i, Int64.toInt_add, Int64.toInt_add, Int32.toInt_toInt64, Int32.toInt_toInt64, Int32.toInt_toInt64, o_toInt (by omega), o_toInt (by omega)]
  rw [Int.bmod_eq_of_le (n := f.toInt + ((3 * i : Nat) : Int)) (by omega) (by omega)]
  rw [Int.bmod_eq_of_le (by omega) (by omega)]
  omega
theorem sub3_32 {n : Nat} (h : n ≤ 100) : (Int32.ofNat n - 3).toInt = (n : Int) - 3 := by
  rw [Int32.toInt_sub, o_toInt (by omega), show (3 : Int32).toInt = 3 from rfl]
  exact Int.bmod_eq_of_le (by omega) (by omega)
theorem read_T (k62 : zM → Int32 → Int32 → Int32 → Int32 → Int32 → Int32 → Int32 → Option (Int32 × zM)) (m : Nat) (u : zM) (v1 v2 v3 v4 v5 v6 v7 v8 : Int32) (h : v5 ≠ 0 ∨ 3 ≤ v8) : f_X7_read_77 k62 (m + 1) u v1 v2 v3 v4 v5 v6 v7 v8 = f_X7_read_164 k62 u v1 v2 v3 v4 v5 v6 v7 := by
  rw [f_X7_read_77]
  by_cases h3 : 3 ≤ v8
  · rw [if_pos h3]
  · rw [if_neg h3]
    rcases h with h | h
    · rw [if_neg h]
    · exact absurd h h3
theorem read_st (k62 : zM → Int32 → Int32 → Int32 → Int32 → Int32 → Int32 → Int32 → Option (Int32 × zM)) (m : Nat) {u : zM} {k i c n : Nat} (hk : k < 4) (hi : i < 14) (hc : c < 3) (lane f v4 v6 : Int32) (h4 : ¬ u 8 k = -4) (hl : u 8 k = lane) (hn : u 9 k = Int32.ofNat n) (hn4 : n ≤ 40) :
    f_X7_read_77 k62 (m + 1) u (Int32.ofNat k) lane f v4 0 v6 (Int32.ofNat i) (Int32.ofNat c) = f_X7_read_77 k62 m u (Int32.ofNat k) lane f v4 (if 0 ≤ f.toInt + 3 * i + c ∧ f.toInt + 3 * i + c < n then 0 else 2) v6 (Int32.ofNat i) (Int32.ofNat (c + 1)) := by
  have hp := p_toInt f hi hc
  rw [f_X7_read_77, if_neg (show ¬ (3 : Int32) ≤ Int32.ofNat c from nle (a := 3) hc (by decide)), if_pos rfl]
  simp only [z_inN hk (show 4 < 2 ^ 31 by decide), o_cl (show k < 2 ^ 31 by omega), ↓reduceIte, if_neg h4, if_pos hl, hn, o_1]
  by_cases c1 : f.toInt + 3 * i + c < 0
  · rw [if_pos ((lg_lt _ _).mpr (by rw [hp]; exact c1)), if_neg (show ¬ (0 ≤ f.toInt + 3 * i + c ∧ f.toInt + 3 * i + c < n) by omega)]
  · rw [if_neg (fun q => c1 (by have := (lg_lt _ _).mp q; rw [hp] at this; exact this))]
    by_cases c2 : f.toInt + 3 * i + c < n
    · rw [if_pos ((lg_lt _ _).mpr (by rw [hp, Int32.toInt_toInt64, o_toInt (by omega)]; exact c2)), if_pos (show (0 ≤ f.toInt + 3 * i + c ∧ f.toInt + 3 * i + c < n) by omega)]
    · rw [if_neg (fun q => c2 (by have := (lg_lt _ _).mp q; rw [hp, Int32.toInt_toInt64, o_toInt (by omega)] at this; exact this)), if_neg (show ¬ (0 ≤ f.toInt + 3 * i + c ∧ f.toInt + 3 * i + c < n) by omega)]
theorem read_in (k62 : zM → Int32 → Int32 → Int32 → Int32 → Int32 → Int32 → Int32 → Option (Int32 × zM)) {H u : zM} {k i : Nat} {v : Nat → Int32} (hk : k < 4) (hi : i < 14) (lane f v4 v6 : Int32) (hs : ShR H (u 8 k) (u 9 k) v) : ∃ tear, f_X3_faultAt H lane (f + (3 * Int32.ofNat i)) 3 = some tear ∧ f_X7_read_77 k62 FU u (Int32.ofNat k) lane f v4 0 v6 (Int32.ofNat i) 0 = f_X7_read_164 k62 u (Int32.ofNat k) lane f v4 tear v6 (Int32.ofNat i) ∧ (tear = 0 → ∃ x, x + 3 ≤ 40 ∧ f + (3 * Int32.ofNat i) = Int32.ofNat x ∧ ∀ j, j < 40 → H 1 j = v j) := by
  obtain ⟨m, hm⟩ : ∃ q, FU = q + 1 + 1 + 1 + 1 := ⟨FU - 4, by have := FU_pos (k := 4) (by decide); omega⟩
  rw [hm]
  unfold f_X3_faultAt
  rcases hs with ⟨q1, q2⟩ | ⟨n, hn4, q2, q3, q4, ⟨la, hla, q5⟩, q6⟩
  · refine ⟨1, if_pos q1, ?_, fun q => absurd q (by decide)⟩
    rw [f_X7_read_77, if_neg (show ¬ (3 : Int32) ≤ 0 by decide), if_pos rfl]
    simp only [z_inN hk (show 4 < 2 ^ 31 by decide), o_cl (show k < 2 ^ 31 by omega), ↓reduceIte, if_pos q2]
    rw [read_T]
    exact Or.inl (by decide)
  · have h4 : ¬ u 8 k = -4 := by rw [q5]; exact ne4 (by omega)
    rw [if_neg (show ¬ H 0 1 = -4 by rw [q2]; exact ne4 (by omega)), q4]
    by_cases hl : u 8 k = lane
    · have s0 := read_st k62 (m + 1 + 1 + 1) hk hi (show 0 < 3 by decide) lane f v4 v6 h4 hl q3 hn4
      have s1 := read_st k62 (m + 1 + 1) hk hi (show 1 < 3 by decide) lane f v4 v6 h4 hl q3 hn4
      have s2 := read_st k62 (m + 1) hk hi (show 2 < 3 by decide) lane f v4 v6 h4 hl q3 hn4
      have hI := f3_toInt f (j := 3 * i) (by omega)
      have h2 := Int32.le_toInt f
      rw [if_pos hl.symm, show f_X7_read_77 k62 (m + 1 + 1 + 1 + 1) u (Int32.ofNat k) lane f v4 0 v6 (Int32.ofNat i) 0 = _ from s0, show (3 : Int32) * Int32.ofNat i = Int32.ofNat (3 * i) from o_mul 3 i, q2]
      have e3 := sub3_32 (show n ≤ 100 by omega)
      by_cases c0 : 0 ≤ f.toInt + 3 * i ∧ f.toInt + 3 * i + 2 < n
      · have hv : (f + Int32.ofNat (3 * i)).toInt = f.toInt + 3 * i := by
          rcases hI with q | ⟨q, q'⟩
          · rw [q]; omega
          · omega
        rw [if_neg (show ¬ (f + Int32.ofNat (3 * i)) < 0 from i32_nlt.mpr (Int32.le_iff_toInt_le.mpr (by rw [hv]; exact c0.1))), if_pos (Int32.le_iff_toInt_le.mpr (by rw [hv, e3]; omega))]
        refine ⟨0, rfl, ?_, fun _ => ⟨(f.toInt + 3 * i).toNat, by omega, ?_, q6⟩⟩
        · rw [if_pos (by omega), s1, if_pos (by omega), s2, if_pos (by omega), read_T]
          exact Or.inr (by decide)
        · apply Int32.toInt_inj.mp
          rw [hv, o_toInt (by omega)]
          omega
      · refine ⟨2, ?_, ?_, fun q => absurd q (by decide)⟩
        · by_cases c1 : (f + Int32.ofNat (3 * i)) < 0
          · rw [if_pos c1]
          · rw [if_neg c1, if_neg]
            intro q
            have c1 : ¬ (f + Int32.ofNat (3 * i)).toInt < (0 : Int32).toInt := fun w => c1 (Int32.lt_iff_toInt_lt.mpr w)
            have q := Int32.le_iff_toInt_le.mp q
            rw [e3] at q
            rw [show (0 : Int32).toInt = 0 from rfl] at c1
            rcases hI with w | ⟨w, w'⟩
            · rw [w] at c1 q; omega
            · omega
        · by_cases d0 : 0 ≤ f.toInt + 3 * i + (0 : Nat) ∧ f.toInt + 3 * i + (0 : Nat) < n
          · rw [if_pos d0, s1]
            by_cases d1 : 0 ≤ f.toInt + 3 * i + (1 : Nat) ∧ f.toInt + 3 * i + (1 : Nat) < n
            · rw [if_pos d1, s2, if_neg (by omega), read_T]
              exact Or.inl (by decide)
            · rw [if_neg d1, read_T]
              exact Or.inl (by decide)
          · rw [if_neg d0, read_T]
            exact Or.inl (by decide)
    · refine ⟨3, if_neg (fun q => hl q.symm), ?_, fun q => absurd q (by decide)⟩
      rw [f_X7_read_77, if_neg (show ¬ (3 : Int32) ≤ 0 by decide), if_pos rfl]
      simp only [z_inN hk (show 4 < 2 ^ 31 by decide), o_cl (show k < 2 ^ 31 by omega), ↓reduceIte, if_neg h4, if_neg hl]
      rw [read_T]
      exact Or.inl (by decide)
theorem rel_tear {S : Nat → zM} {u : zM} (h : Rel S u) (x : Int32) : Rel (va_up S 0 (zU (S 0) 0 9 x)) (zU u 0 27 x) := by
  obtain ⟨P, nb, d, m, hC, hd, hP, hN, hI, hT, hF, hH, hR⟩ := h
  refine ⟨P, nb, d, m, ?_, hd, ?_, ?_, ?_, ?_, ?_, ?_, ?_⟩
  · rw [va_up_neq _ _ (by decide), zU_ne _ _ _ (by decide)]; exact hC
  · rw [zu_j _ _ _ _ (by decide)]; exact hP
  · rw [va_up_neq _ _ (by decide), zU_ne _ _ _ (by decide)]; exact hN
  · intro k hk
    rw [va_up_neq _ _ (by omega), va_up_neq _ _ (by omega), va_up_neq _ _ (by omega), zU_ne _ _ _ (by decide), zU_ne _ _ _ (by decide)]; exact hI k hk
  · rw [va_up_neq _ _ (by decide), zu_j _ _ _ _ (by decide), zU_ne _ _ _ (by decide)]; exact hT
  · rw [va_up_neq _ _ (by decide), zu_j _ _ _ _ (by decide)]; exact hF
  · intro k hk
    rw [va_up_neq _ _ (by omega), zU_ne _ _ _ (by decide), zU_ne _ _ _ (by decide), zU_ne _ _ _ (by decide)]; exact hH k hk
  · rw [va_up_eq, zu_eq, zu_eq]
/-- what holds while pins are read: the trial beside the reference's row 1, all else as it was -/
def RI (P d : Nat) (S0 : Nat → zM) (u0 : zM) (S : Nat → zM) (u : zM) : Prop := (∃ n, CR P n d (S 5) (u 1)) ∧ (∀ j, j ≠ 5 → S j = S0 j) ∧ (∀ j, j ≠ 1 → j ≠ 11 → u j = u0 j) ∧ (∀ q, 42 ≤ q → u 1 q = u0 1 q) ∧ ∀ q, q < 61 → u 11 q = u0 1 q
theorem read_fin {P d : Nat} {S0 S : Nat → zM} {u0 u : zM} (h : Rel S0 u0) (hP : u0 0 3 = Int32.ofNat P) (hd : d < 1000) (hI : RI P d S0 u0 S u) (w tear : Int32) : ∃ S', f_X6_read_123 S w tear = some (w, S') ∧ Rel S' (zU u 0 27 tear) := by
  obtain ⟨⟨n, hC⟩, hS, hu, hu1, hu11⟩ := hI
  obtain ⟨D, eD, cD⟩ := copy_C (S 5) (S 4)
  unfold f_X6_read_123
  rw [eD]
  simp only [Option.bind_some, zlet_eq]
  refine ⟨_, rfl, rel_tear ?_ tear⟩
  have q : Rel (va_up S0 4 D) (va_up u0 1 (u 1)) := by
    refine rel_now h (fun P' nb' d' hC' hd' hP' => ⟨n, d, hd, ?_⟩) hu1
    have e := same_P hP hP' hC.1 hC'.1
    subst e
    exact cr_copy hC cD
  refine rel_scr q ?_ ?_ ?_ ?_ ?_
  · intro i _ _ _ _ h5
    by_cases h4 : i = 4
    · subst h4; rw [va_up_eq, va_up_eq]
    · rw [va_up_neq _ _ h4, va_up_neq _ _ h4]; exact hS i h5
  · rw [va_up_neq _ _ (by decide), va_up_neq _ _ (by decide), hS 0 (by decide)]
  · rw [va_up_neq _ _ (by decide), va_up_neq _ _ (by decide), hS 2 (by decide)]
  · intro j hj
    by_cases h1 : j = 1
    · subst h1; rw [va_up_eq]
    · rw [va_up_neq _ _ h1]; exact hu j h1 (by omega)
  · intro k hk
    rw [va_up_neq _ _ (by decide), hu 0 (by decide) (by decide)]
theorem back_loop (k : Nat) (v7 : Int32) : ∀ (n i : Nat) (u : zM), i + k = 61 → k < n → f_X7_read_217 n u v7 (Int32.ofNat i) = some ((-20) - v7, rowF u 1 i 61 (u 11)) := by
  induction k with
  | zero =>
    intro n i u hi hn
    obtain ⟨n, rfl⟩ : ∃ m, n = m + 1 := ⟨n - 1, by omega⟩
    have hi : i = 61 := by omega
    subst hi
    rw [f_X7_read_217, if_pos le61, rowF_nil (Nat.le_refl _)]
  | succ k ih =>
    intro n i u hi hn
    obtain ⟨n, rfl⟩ : ∃ m, n = m + 1 := ⟨n - 1, by omega⟩
    rw [f_X7_read_217, if_neg (ge61 (by omega)), if_pos (z_inN (by omega) (by decide)), if_pos (z_inN (by omega) (by decide)), zlet_eq, o_cl (by omega)]
    rw [o_1, ih n (i + 1) _ (by omega) (by omega), zU_ne u i (u 11 i) (show 11 ≠ 1 by decide), rowF_step (g := u 11) (by omega)]
theorem before_loop (k : Nat) (v1 v2 v3 v4 : Int32) : ∀ (n i : Nat) (u : zM), i + k = 61 → k < n → f_X7_read_26 n u v1 v2 v3 v4 (Int32.ofNat i) = f_X7_read_62 FU (rowF u 11 i 61 (u 1)) v1 v2 v3 v4 0 0 0 := by
  induction k with
  | zero =>
    intro n i u hi hn
    obtain ⟨n, rfl⟩ : ∃ m, n = m + 1 := ⟨n - 1, by omega⟩
    have hi : i = 61 := by omega
    subst hi
    rw [f_X7_read_26, if_pos le61, rowF_nil (Nat.le_refl _)]
  | succ k ih =>
    intro n i u hi hn
    obtain ⟨n, rfl⟩ : ∃ m, n = m + 1 := ⟨n - 1, by omega⟩
    rw [f_X7_read_26, if_neg (ge61 (by omega)), if_pos (z_inN (by omega) (by decide)), if_pos (z_inN (by omega) (by decide)), zlet_eq, o_cl (by omega)]
    rw [o_1, ih n (i + 1) _ (by omega) (by omega), zU_ne u i (u 1 i) (show 1 ≠ 11 by decide), rowF_step (g := u 1) (by omega)]
