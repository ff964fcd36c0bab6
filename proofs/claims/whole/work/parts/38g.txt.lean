/-! text: whole lines, the whole text -/
def LL (t b : Nat) (S : Nat → zM) (u : zM) : Prop :=
    (∃ P n S' u', f_X5_takeLine S = some (true, S') ∧ f_X7_readLine u = some u' ∧ PN t (b + 1) S' u' ∧ DR P n S' u' ∧ FS S S' ∧ Fx u u' ∧ S' 2 0 4 = S 2 0 4 ∧ S' 2 0 5 = S 2 0 5) ∨
    (∃ S' u', f_X5_takeLine S = some (false, S') ∧ f_X7_readLine u = some u' ∧ BO S' u' ∧ FS S S' ∧ Fx u u')
theorem st_bo {b f : Nat} {S : Nat → zM} {u : zM} (h3 : S 1 0 3 = Int32.ofNat b) (hd : DD f b u) : BO (stS S (Int32.ofNat f)) u := by
  refine ⟨f, b, hd, ?_, ?_⟩
  · unfold stS
    rw [va_up_eq, zu_j _ _ _ _ (by decide), zu_eq]
  · unfold stS
    rw [va_up_eq, zu_eq]
    exact h3
theorem st_fs (S : Nat → zM) (f : Int32) : FS S (stS S f) := fun j a c _ => by
  unfold stS
  rw [va_up_neq _ _ c]
theorem num_key : ∀ k : Nat, k < 6 → ∃ N : Nat, N < 4 ∧ 0 < N ∧ f_X5_numbersOf (Int32.ofNat k) = some (Int32.ofNat N) := by decide +kernel
/-- what follows a name that is known and has room -/
theorem ll_go {t b e P n k : Nat} {S : Nat → zM} {u : zM} (hk : k < 6) (hB : TB t (S 1) u) (hK : TK t b e (S 1) u) (h14 : u 0 14 = 0) (hbe : b < e) (hD : DR P n S u) (hr : k = 5 ∨ (k = 4 ∧ P < 4) ∨ (k < 4 ∧ n < 6)) (h1 : f_X5_takeLine S = f_X5_takeLine_43 FU S (Int32.ofNat k) 0) (h2 : f_X7_readLine u = f_X7_readLine_73 u (Int32.ofNat k) true) : LL t b S u := by
  obtain ⟨u7, t1, t2, t3⟩ := pn_next hB hK h14 hbe
  have hpn := t3 S b rfl (Nat.le_refl _)
  have hD7 : DR P n S u7 := hD.fk rfl rfl t2
  by_cases h7 : u7 0 14 = 0
  · have e7 : f_X7_readLine u = rlE u7 (Int32.ofNat k) := by
      rw [h2]
      unfold f_X7_readLine_73
      rw [show zb true = 1 from rfl, needs_ok (by decide)]
      simp only [Option.bind_some, zlet_eq]
      rw [t1]
      simp only [Option.bind_some]
      rw [h7, if_pos (Int32.le_refl _)]
      unfold rlE lineE
      rfl
    have lr : LR t (b + 1) S u7 (Int32.ofNat k) := by
      rcases hr with rfl | ⟨rfl, hP⟩ | ⟨h4, hn⟩
      · exact ln_wind hpn hD7
      · exact ln_one hpn hD7 hP
      · exact ln_bt hpn hD7 h4 hn
    rcases lr with ⟨P', n', S', u', a1, a2, a3, a4, a5, a6, a7, a8⟩ | ⟨S', u', a1, a2, a3, a4, a5⟩
    · exact Or.inl ⟨P', n', S', u', h1.trans a1, e7.trans a2, a3, a4, a5, t2.x.tr a6, a7, a8⟩
    · exact Or.inr ⟨S', u', h1.trans a1, e7.trans a2, a3, a4, t2.x.tr a5⟩
  · obtain ⟨T1, b', e', f1, hB', hK', hq⟩ := hpn
    obtain ⟨-, -, k3, -, -, -, hs⟩ := hK'
    rcases hs with ⟨q1, q2, q3, q4⟩ | ⟨q1, -⟩
    · have hd : DD 1 b' u7 := ⟨by decide, by decide, q2, q3⟩
      obtain ⟨N, hN4, hN0, hN⟩ := num_key k hk
      obtain ⟨m, hm⟩ := FU4
      refine Or.inr ⟨stS (va_up S 1 T1) (Int32.ofNat 1), u7, ?_, ?_, st_bo (by rw [s1]; exact k3) hd, FS.tr (fun j a _ _ => va_up_neq _ _ a) (st_fs _ _), t2.x⟩
      · rw [h1, hm, tl_num (m + 1 + 1 + 1) S hN (show ¬ Int32.ofNat N ≤ 0 from nle (b := 0) hN0 (by omega))]
        unfold f_X5_takeNumber
        rw [f1]
        simp only [Option.bind_some, zlet_eq]
        rw [tokOf4 (by rw [s1]; exact q1)]
        rfl
      · rw [h2]
        unfold f_X7_readLine_73
        rw [show zb true = 1 from rfl, needs_ok (by decide)]
        simp only [Option.bind_some, zlet_eq]
        rw [t1]
        simp only [Option.bind_some]
        rw [if_neg (dd_n hd).2]
    · exact absurd q1 h7
theorem ll_73 {f b : Nat} {u : zM} (h : DD f b u) (v : Int32) (t0 : Bool) : f_X7_readLine_73 u v t0 = some u := by
  unfold f_X7_readLine_73
  rw [dd_needs h]
  simp only [Option.bind_some, zlet_eq]
  rw [dd_takes h]
  simp only [Option.bind_some]
  rw [if_neg (dd_n h).2]
theorem ll_no {b : Nat} {u : zM} (h14 : u 0 14 = 0) (h11 : u 0 11 = Int32.ofNat b) : ∃ u', f_X7_readLine_30 u (-4) false = some u' ∧ DD 2 b u' ∧ Fk u u' := by
  obtain ⟨u', n1, n2, n3, -⟩ := needs_bad (f := 2) h14 h11 (by decide) (by decide)
  refine ⟨u', ?_, n2, n3⟩
  unfold f_X7_readLine_30
  rw [show zb false = 0 from rfl, show f_X7_needs u 0 2 = some u' from n1]
  simp only [Option.bind_some, zlet_eq]
  rw [if_neg (show ¬ (-4 : Int32) = 5 by decide), if_neg (show ¬ (-4 : Int32) = 4 by decide), if_pos z34, ll_73 n2, ll_73 n2]
  by_cases hc : (6 : Int32) ≤ u' 4 (Int32.toNatClampNeg 34)
  · rw [if_pos hc]
  · rw [if_neg hc]
theorem ll_eq {t b e P n s : Nat} {S : Nat → zM} {u : zM} (hB : TB t (S 1) u) (hK : TK t b e (S 1) u) (hD : DR P n S u) (h14 : u 0 14 = 0) (hs : s ≤ 3) (hS2 : S 1 0 2 = Int32.ofNat s) (hu12 : u 0 12 = Int32.ofNat s) (hbe : b < e) : LL t b S u := by
  have h3 := hK.2.2.1
  have h11 := hK.2.2.2.1
  have n4 : ¬ S 1 0 2 = 4 := by rw [hS2]; exact o_ne (b := 4) (by omega) (by omega) (by decide)
  by_cases hs1 : s = 1
  · subst hs1
    have cl : f_X5_takeLine S = (f_X5_lineNamed S).bind fun r3 => if r3 = 6 then (f_X5_stopsBy S 2).bind fun r4 => zlet r4.2 fun S5 => some (r4.1, S5) else (f_X5_hasRoomFor S r3).bind fun r6 => if r6 = true then f_X5_takeLine_43 FU S r3 0 else (f_X5_stopsBy S 5).bind fun r16 => zlet r16.2 fun S17 => some (r16.1, S17) := by
      unfold f_X5_takeLine
      rw [tokOfT (v := 1) (by decide) hS2]
      rfl
    have rl : f_X7_readLine u = (f_X7_lineNow u).bind fun r1 => if r1 = (-4) then f_X7_readLine_30 u r1 false else f_X7_readLine_30 u r1 true := by
      unfold f_X7_readLine
      rw [if_pos (show u 0 12 = 1 from hu12)]
    rcases line_eq hB hK.1 hK.2.1 hS2 h3 hK.2.2.2.2.1 h11 hK.2.2.2.2.2.1 with ⟨k, hk, c1, c2⟩ | ⟨c1, c2⟩
    · have k5 : k ≠ 5 → ¬ Int32.ofNat k = 5 := fun a => o_ne (b := 5) a (by omega) (by decide)
      have k4 : k ≠ 4 → ¬ Int32.ofNat k = 4 := fun a => o_ne (b := 4) a (by omega) (by decide)
      have k6 : ¬ Int32.ofNat k = 6 := o_ne (b := 6) (by omega) (by omega) (by decide)
      obtain ⟨d1, d2, d3, d4, d5, d6, -⟩ := id hD
      have r30 : f_X7_readLine u = if Int32.ofNat k = 5 then f_X7_readLine_73 u (Int32.ofNat k) true else if Int32.ofNat k = 4 then (if 4 ≤ P then f_X7_readLine_73 u (Int32.ofNat k) false else f_X7_readLine_73 u (Int32.ofNat k) true) else (if 6 ≤ n then f_X7_readLine_73 u (Int32.ofNat k) false else f_X7_readLine_73 u (Int32.ofNat k) true) := by
        rw [rl, c2]
        simp only [Option.bind_some]
        rw [if_neg (ne4 (by omega))]
        unfold f_X7_readLine_30
        rw [show zb true = 1 from rfl, needs_ok (by decide)]
        simp only [Option.bind_some, zlet_eq]
        rw [d4, if_pos z34, c34, d6]
        have q1 : ((4 : Int32) ≤ Int32.ofNat P) ↔ 4 ≤ P := o_le (a := 4) (by decide) (by omega)
        have q2 : ((6 : Int32) ≤ Int32.ofNat n) ↔ 6 ≤ n := o_le (a := 6) (by decide) (by omega)
        simp only [q1, q2]
      have hasr : f_X5_hasRoomFor S (Int32.ofNat k) = some (if Int32.ofNat k = 5 then true else if Int32.ofNat k = 4 then (if 4 ≤ P then false else true) else (if 6 ≤ n then false else true)) := by
        have q1 : ((4 : Int32) ≤ Int32.ofNat P) ↔ 4 ≤ P := o_le (a := 4) (by decide) (by omega)
        have q2 : ((6 : Int32) ≤ Int32.ofNat n) ↔ 6 ≤ n := o_le (a := 6) (by decide) (by omega)
        unfold f_X5_hasRoomFor f_X0_hasRoomForOne f_X0_hasRoomForBeetle
        rw [d3, d5]
        simp only [q1, q2]
        split
        · rfl
        · split
          · split <;> rfl
          · split <;> rfl
      have room : (k = 5 ∨ (k = 4 ∧ P < 4) ∨ (k < 4 ∧ n < 6)) → LL t b S u := by
        intro hr
        refine ll_go hk hB hK h14 hbe hD hr ?_ ?_
        · rw [cl, c1]
          simp only [Option.bind_some]
          rw [if_neg k6, hasr]
          simp only [Option.bind_some]
          rcases hr with rfl | ⟨rfl, hP⟩ | ⟨h4, hn⟩
          · rw [if_pos (show Int32.ofNat 5 = 5 from rfl)]
            rfl
          · rw [if_neg (show ¬ Int32.ofNat 4 = 5 by decide), if_pos (show Int32.ofNat 4 = 4 from rfl), if_neg (show ¬ 4 ≤ P by omega)]
            rfl
          · rw [if_neg (k5 (by omega)), if_neg (k4 (by omega)), if_neg (show ¬ 6 ≤ n by omega)]
            rfl
        · rw [r30]
          rcases hr with rfl | ⟨rfl, hP⟩ | ⟨h4, hn⟩
          · rw [if_pos (show Int32.ofNat 5 = 5 from rfl)]
          · rw [if_neg (show ¬ Int32.ofNat 4 = 5 by decide), if_pos (show Int32.ofNat 4 = 4 from rfl), if_neg (show ¬ 4 ≤ P by omega)]
          · rw [if_neg (k5 (by omega)), if_neg (k4 (by omega)), if_neg (show ¬ 6 ≤ n by omega)]
      by_cases hr : k = 5 ∨ (k = 4 ∧ P < 4) ∨ (k < 4 ∧ n < 6)
      · exact room hr
      · obtain ⟨u', n1, n2, n3, -⟩ := needs_bad (f := 5) h14 h11 (by decide) (by decide)
        have e73 : f_X7_readLine_73 u (Int32.ofNat k) false = some u' := by
          unfold f_X7_readLine_73
          rw [show zb false = 0 from rfl, show f_X7_needs u 0 5 = some u' from n1]
          simp only [Option.bind_some, zlet_eq]
          rw [dd_takes n2]
          simp only [Option.bind_some]
          rw [if_neg (dd_n n2).2]
        refine Or.inr ⟨stS S (Int32.ofNat 5), u', ?_, ?_, st_bo h3 n2, st_fs S _, n3.x⟩
        · rw [cl, c1]
          simp only [Option.bind_some]
          rw [if_neg k6, hasr, stops_eq]
          simp only [Option.bind_some]
          rw [if_neg (k5 (by omega))]
          by_cases hk4 : k = 4
          · subst hk4
            rw [if_pos (show Int32.ofNat 4 = 4 from rfl), if_pos (show 4 ≤ P by omega)]
            rfl
          · rw [if_neg (k4 hk4), if_pos (show 6 ≤ n by omega)]
            rfl
        · rw [r30, if_neg (k5 (by omega))]
          by_cases hk4 : k = 4
          · subst hk4
            rw [if_pos (show Int32.ofNat 4 = 4 from rfl), if_pos (show 4 ≤ P by omega)]
            exact e73
          · rw [if_neg (k4 hk4), if_pos (show 6 ≤ n by omega)]
            exact e73
    · obtain ⟨u', n1, n2, n3⟩ := ll_no h14 h11
      refine Or.inr ⟨stS S (Int32.ofNat 2), u', ?_, ?_, st_bo h3 n2, st_fs S _, n3.x⟩
      · rw [cl, c1, stops_eq]
        rfl
      · rw [rl, c2]
        simp only [Option.bind_some]
        rw [if_pos trivial]
        exact n1
  · obtain ⟨u', n1, n2, n3⟩ := ll_no h14 h11
    refine Or.inr ⟨stS S (Int32.ofNat 2), u', ?_, ?_, st_bo h3 n2, st_fs S _, n3.x⟩
    · unfold f_X5_takeLine
      rw [tokOfF n4 (by rw [hS2]; exact o_ne (b := 1) hs1 (by omega) (by decide))]
      rfl
    · unfold f_X7_readLine
      rw [if_neg (by rw [hu12]; exact o_ne (b := 1) hs1 (by omega) (by decide))]
      exact n1
/-- behind all: the owners -/
theorem own_loop2 {P n : Nat} {S : Nat → zM} {u : zM} (hD : DR P n S u) (t : Nat) : ∀ (m i : Nat), i + t = n → t < m → ∃ r, f_X5_ownersAreThere_2 m S (Int32.ofNat i) = some r ∧ (r = true ↔ ∀ b, i ≤ b → b < n → ∃ o, o < P ∧ u 4 (6 + 5 * b) = Int32.ofNat o) := by
  obtain ⟨d1, d2, d3, d4, d5, d6, d7, d8, d9, d10, d11, -⟩ := id hD
  induction t with
  | zero =>
    intro m i hi hm
    obtain ⟨m, rfl⟩ : ∃ q, m = q + 1 := ⟨m - 1, by omega⟩
    rw [f_X5_ownersAreThere_2, d5, if_pos ((o_le (by omega) (by omega)).mpr (by omega))]
    exact ⟨true, rfl, fun _ b h1 h2 => by omega, fun _ => rfl⟩
  | succ t ih =>
    intro m i hi hm
    obtain ⟨m, rfl⟩ : ∃ q, m = q + 1 := ⟨m - 1, by omega⟩
    obtain ⟨k, s, o, x, -, -, -, ho, -, -, -, -, -, e1, e2, -⟩ := d11 i (by omega)
    rw [f_X5_ownersAreThere_2, d5, if_neg (nle (by omega) (by omega)), if_pos (z_inN (show i < 6 by omega) (by decide)), o_cl (show i < 2 ^ 31 by omega), hasOne_eq d3 d1, e1, o_1]
    simp only [Option.bind_some]
    cases hz : zw (Int32.ofNat o) 0 ((P : Int) - 1) with
    | true =>
      have hw := of_decide_eq_true hz
      rw [o_toInt (by omega)] at hw
      simp only [↓reduceIte]
      obtain ⟨r, f1, f2⟩ := ih m (i + 1) (by omega) (by omega)
      refine ⟨r, f1, fun a b h1 h2 => ?_, fun a => f2.mpr (fun b h1 h2 => a b (by omega) h2)⟩
      by_cases hb : b = i
      · subst hb
        exact ⟨o, by omega, e2⟩
      · exact f2.mp a b (by omega) h2
    | false =>
      have hw := of_decide_eq_false hz
      rw [o_toInt (by omega)] at hw
      refine ⟨false, rfl, fun a => absurd a (by decide), fun a => ?_⟩
      obtain ⟨o', h1, h2⟩ := a i (Nat.le_refl _) (by omega)
      rw [e2] at h2
      have := (o_eq (a := o) (b := o') (by omega) (by omega)).mp h2
      omega
theorem text_bad {f q : Nat} {u : zM} (h : DD f q u) (m : Nat) (v : Int32) : f_X7_text_20 (m + 1) u v = f_X7_text_73 u v := by
  rw [f_X7_text_20, if_neg (dd_n h).1]
  unfold f_X7_text_44
  rw [if_neg (dd_n h).1]
theorem text_end {t b e i P n m m' : Nat} {S : Nat → zM} {u : zM} (ht : t ≤ 160) (hK : TK t b e (S 1) u) (hD : DR P n S u) (hib : i ≤ b) (hl : S 2 0 4 = Int32.ofNat i) (h5 : S 2 0 5 = 0) (h14 : u 0 14 = 0) (hS2 : S 1 0 2 = Int32.ofNat 0) (hu12 : u 0 12 = Int32.ofNat 0) :
    (∃ P n S' u' j, f_X5_takeText_38 (m + 1) S (Int32.ofNat i) = some (true, S') ∧ f_X7_text_20 (m' + 1) u (Int32.ofNat i) = f_X7_text_73 u' (Int32.ofNat j) ∧ DR P n S' u' ∧ (∀ b, b < n → ∃ o, o < P ∧ u' 4 (6 + 5 * b) = Int32.ofNat o) ∧ S' 2 0 4 = Int32.ofNat j ∧ S' 2 0 5 = 0 ∧ u' 0 14 = 0 ∧ FS S S' ∧ Fx u u') ∨
    (∃ S' u' v, f_X5_takeText_38 (m + 1) S (Int32.ofNat i) = some (false, S') ∧ f_X7_text_20 (m' + 1) u (Int32.ofNat i) = f_X7_text_73 u' v ∧ BO S' u' ∧ FS S S' ∧ Fx u u') := by
  have h3 := hK.2.2.1
  have h11 := hK.2.2.2.1
  have hS2 : S 1 0 2 = 0 := hS2
  have hu12 : u 0 12 = 0 := hu12
  have e38 : f_X5_takeText_38 (m + 1) S (Int32.ofNat i) = f_X5_takeText_87 S := by
    rw [f_X5_takeText_38]
    by_cases hc : (160 : Int32) ≤ Int32.ofNat i
    · rw [if_pos hc]
    · rw [if_neg hc, if_pos hS2]
  have e20 : f_X7_text_20 (m' + 1) u (Int32.ofNat i) = f_X7_text_44 u (Int32.ofNat i) := by
    rw [f_X7_text_20, if_pos h14, if_pos hu12]
  obtain ⟨d1, d2, d3, d4, d5, d6, d7, d8, d9, d10, d11, d12, d13, d14⟩ := id hD
  obtain ⟨r, f1, f2⟩ := own_loop2 hD n FU 0 (by omega) (FU_pos (by omega))
  have f1 : f_X5_ownersAreThere S = some r := f1
  rw [e38, e20]
  unfold f_X5_takeText_87 f_X7_text_44
  rw [f1, if_pos h14, d4]
  simp only [Option.bind_some]
  cases hr : r with
  | true =>
    have hall := f2.mp hr
    have hle : ¬ Int32.ofNat P ≤ u 0 7 := by
      rcases d14 with ⟨-, e7⟩ | ⟨h, h4, e7, -, b', hb', eb'⟩
      · rw [e7]
        intro q
        have := Int32.le_iff_toInt_le.mp q
        rw [o_toInt (by omega), show (-4 : Int32).toInt = -4 from rfl] at this
        omega
      · obtain ⟨o, ho, eo⟩ := hall b' (Nat.zero_le _) hb'
        rw [eb'] at eo
        have := (o_eq (a := h) (b := o) (by omega) (by omega)).mp eo
        rw [e7]
        exact nle (by omega) (by omega)
    rw [if_neg hle, needs_ok (by decide)]
    simp only [Option.bind_some, zlet_eq, ↓reduceIte]
    exact Or.inl ⟨P, n, S, u, i, rfl, rfl, hD, fun b' hb' => hall b' (Nat.zero_le _) hb', hl, h5, h14, fun _ _ _ _ => rfl, Fx.rf u⟩
  | false =>
    have hle : Int32.ofNat P ≤ u 0 7 := by
      rcases d14 with ⟨n0, e7⟩ | ⟨h, h4, e7, hall, -⟩
      · exfalso
        have : r = true := f2.mpr (fun b' _ hb' => by omega)
        rw [hr] at this
        exact absurd this (by decide)
      · rw [e7]
        refine (o_le (by omega) (by omega)).mpr (Decidable.byContradiction (fun hc => ?_))
        have : r = true := f2.mpr (fun b' _ hb' => by
          obtain ⟨o, ho, eo⟩ := hall b' hb'
          exact ⟨o, by omega, eo⟩)
        rw [hr] at this
        exact absurd this (by decide)
    obtain ⟨u', n1, n2, n3, -⟩ := needs_bad (f := 6) h14 h11 (by decide) (by decide)
    rw [if_pos hle, show f_X7_needs u 0 6 = some u' from n1, stops_eq]
    simp only [Option.bind_some, zlet_eq, Bool.false_eq_true, ↓reduceIte]
    exact Or.inr ⟨stS S (Int32.ofNat 6), u', Int32.ofNat i, rfl, rfl, st_bo h3 n2, st_fs S _, n3.x⟩
theorem text_loop {t : Nat} (k : Nat) : ∀ (m m' i b e P n : Nat) (S : Nat → zM) (u : zM), TB t (S 1) u → TK t b e (S 1) u → DR P n S u → i ≤ b → S 2 0 4 = Int32.ofNat i → S 2 0 5 = 0 → t ≤ b + k → k < m → k < m' →
    (∃ P n S' u' j, f_X5_takeText_38 m S (Int32.ofNat i) = some (true, S') ∧ f_X7_text_20 (m' + 1) u (Int32.ofNat i) = f_X7_text_73 u' (Int32.ofNat j) ∧ DR P n S' u' ∧ (∀ b, b < n → ∃ o, o < P ∧ u' 4 (6 + 5 * b) = Int32.ofNat o) ∧ S' 2 0 4 = Int32.ofNat j ∧ S' 2 0 5 = 0 ∧ u' 0 14 = 0 ∧ FS S S' ∧ Fx u u') ∨
    (∃ S' u' v, f_X5_takeText_38 m S (Int32.ofNat i) = some (false, S') ∧ f_X7_text_20 (m' + 1) u (Int32.ofNat i) = f_X7_text_73 u' v ∧ BO S' u' ∧ FS S S' ∧ Fx u u') := by
  induction k with
  | zero =>
    intro m m' i b e P n S u hB hK hD hib hl h5 hbk hm hm'
    obtain ⟨m, rfl⟩ : ∃ q, m = q + 1 := ⟨m - 1, by omega⟩
    obtain ⟨hbe, het, h3, h11, h4, h10, hs⟩ := id hK
    rcases hs with ⟨q1, q2, q3, q4⟩ | ⟨q1, s, hs3, q2, q3, q4, q5, q6⟩
    · omega
    · have hs0 : s = 0 := Decidable.byContradiction (fun a => by have := q5 a; omega)
      subst hs0
      exact text_end hB.1 hK hD hib hl h5 q1 q2 q3
  | succ k ih =>
    intro m m' i b e P n S u hB hK hD hib hl h5 hbk hm hm'
    obtain ⟨m, rfl⟩ : ∃ q, m = q + 1 := ⟨m - 1, by omega⟩
    obtain ⟨m', rfl⟩ : ∃ q, m' = q + 1 := ⟨m' - 1, by omega⟩
    have ht := hB.1
    obtain ⟨hbe, het, h3, h11, h4, h10, hs⟩ := id hK
    rcases hs with ⟨q1, q2, q3, q4⟩ | ⟨q1, s, hs3, q2, q3, q4, q5, q6⟩
    · have hd : DD 1 b u := ⟨by decide, by decide, q2, q3⟩
      refine Or.inr ⟨stS S (Int32.ofNat 1), u, Int32.ofNat i, ?_, text_bad hd _ _, st_bo h3 hd, st_fs S _, Fx.rf u⟩
      rw [f_X5_takeText_38, if_neg (show ¬ (160 : Int32) ≤ Int32.ofNat i from nle (a := 160) (by omega) (by decide)), if_neg (by rw [q1]; decide)]
      unfold f_X5_takeLine
      rw [tokOf4 q1]
      rfl
    · by_cases hs0 : s = 0
      · subst hs0
        exact text_end hB.1 hK hD hib hl h5 q1 q2 q3
      · have hlt := q5 hs0
        have e38 : f_X5_takeText_38 (m + 1) S (Int32.ofNat i) = (f_X5_takeLine S).bind fun r13 => zlet r13.2 fun S14 => if r13.1 = true then zlet (va_up S14 2 (zU (S14 2) 0 4 (((S14 2) 0 4) + 1))) fun S15 => (f_X4_readToken (S15 1)).bind fun r16 => zlet (va_up S15 1 r16) fun S17 => f_X5_takeText_38 m S17 (Int32.ofNat i + 1) else some (false, S14) := by
          rw [f_X5_takeText_38, if_neg (show ¬ (160 : Int32) ≤ Int32.ofNat i from nle (a := 160) (by omega) (by decide)), if_neg (by rw [q2]; exact o_ne (b := 0) hs0 (by omega) (by decide))]
        have e20 : f_X7_text_20 (m' + 1 + 1) u (Int32.ofNat i) = (f_X7_readLine u).bind fun r14 => f_X7_text_20 (m' + 1) r14 (Int32.ofNat (i + 1)) := by
          rw [f_X7_text_20, if_pos q1, if_neg (by rw [q3]; exact o_ne (b := 0) hs0 (by omega) (by decide)), o_1]
          rfl
        rcases ll_eq hB hK hD q1 hs3 q2 q3 hlt with ⟨P', n', S', u', a1, a2, a3, a4, a5, a6, a7, a8⟩ | ⟨S', u', a1, a2, a3, a4, a5⟩
        · obtain ⟨T1, b2, e2, f1, f2, f3, f4⟩ := a3
          have e38' : f_X5_takeText_38 (m + 1) S (Int32.ofNat i) = f_X5_takeText_38 m (va_up (va_up S' 2 (zU (S' 2) 0 4 (Int32.ofNat (i + 1)))) 1 T1) (Int32.ofNat (i + 1)) := by
            rw [e38, a1]
            simp only [Option.bind_some, zlet_eq, ↓reduceIte]
            rw [va_up_neq S' _ (show 1 ≠ 2 by decide), f1, a7, hl, o_1]
            rfl
          have g3 : va_up (va_up S' 2 (zU (S' 2) 0 4 (Int32.ofNat (i + 1)))) 1 T1 3 = S' 3 := by rw [va_up_neq _ _ (by decide), va_up_neq _ _ (by decide)]
          have g2 : va_up (va_up S' 2 (zU (S' 2) 0 4 (Int32.ofNat (i + 1)))) 1 T1 2 = zU (S' 2) 0 4 (Int32.ofNat (i + 1)) := by rw [va_up_neq _ _ (by decide), va_up_eq]
          have fs : FS S (va_up (va_up S' 2 (zU (S' 2) 0 4 (Int32.ofNat (i + 1)))) 1 T1) := a5.tr (fun j a c _ => by rw [va_up_neq _ _ a, va_up_neq _ _ c])
          rcases ih m m' (i + 1) b2 e2 P' n' (va_up (va_up S' 2 (zU (S' 2) 0 4 (Int32.ofNat (i + 1)))) 1 T1) u' (by rw [va_up_eq]; exact f2) (by rw [va_up_eq]; exact f3) (a4.keep g3 (by rw [g2, zu_j _ _ _ _ (by decide)]) rfl rfl rfl rfl) (by omega) (by rw [g2, zu_eq]) (by rw [g2, zu_j _ _ _ _ (by decide), a8]; exact h5) (by omega) (by omega) (by omega) with ⟨P3, n3, S3, u3, j, y1, y2, y3, y4, y5, y6, y7, y8, y9⟩ | ⟨S3, u3, v, y1, y2, y3, y4, y5⟩
          · refine Or.inl ⟨P3, n3, S3, u3, j, e38'.trans y1, ?_, y3, y4, y5, y6, y7, fs.tr y8, a6.tr y9⟩
            rw [e20, a2]
            exact y2
          · refine Or.inr ⟨S3, u3, v, e38'.trans y1, ?_, y3, fs.tr y4, a6.tr y5⟩
            rw [e20, a2]
            exact y2
        · obtain ⟨f, q, hd, -⟩ := id a3
          refine Or.inr ⟨S', u', Int32.ofNat (i + 1), ?_, ?_, a3, a4, a5⟩
          · rw [e38, a1]
            rfl
          · rw [e20, a2]
            exact text_bad hd _ _
