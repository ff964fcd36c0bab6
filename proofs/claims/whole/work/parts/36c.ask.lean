/-! ask -/
def bk (b0 b1 b2 b3 : Bool) (o : Nat) : Bool := if o = 0 then b0 else if o = 1 then b1 else if o = 2 then b2 else b3
theorem fit_key : ∀ b0 b1 b2 b3 : Bool, ∀ P : Nat, P < 5 → (∀ o : Nat, o < P → ((((fit (bk b0 b1 b2 b3) P) >>> ((Int32.ofNat o : Int32) &&& 31)) &&& 1) = 1 ↔ bk b0 b1 b2 b3 o = true)) ∧ f_J6_bitCount_0f7a4 (fit (bk b0 b1 b2 b3) P) = some (Int32.ofNat (rk (bk b0 b1 b2 b3) P)) := by decide +kernel
theorem fit_congr {ok ok' : Nat → Bool} {n : Nat} (h : ∀ o, o < n → ok o = ok' o) : fit ok n = fit ok' n ∧ rk ok n = rk ok' n := by
  induction n with
  | zero => exact ⟨rfl, rfl⟩
  | succ n ih =>
    obtain ⟨q1, q2⟩ := ih (fun o ho => h o (by omega))
    have e := h n (by omega)
    by_cases hk : ok n = true
    · have hk' : ok' n = true := by rw [← e]; exact hk
      rw [fit_t hk, fit_t hk', rk_t hk, rk_t hk', q1, q2]
      exact ⟨rfl, rfl⟩
    · have hk' : ¬ ok' n = true := by rw [← e]; exact hk
      rw [fit_f hk, fit_f hk', rk_f hk, rk_f hk', q1, q2]
      exact ⟨rfl, rfl⟩
theorem fit_tst (ok : Nat → Bool) {P : Nat} (hP : P ≤ 4) : (∀ o, o < P → ((((fit ok P) >>> ((Int32.ofNat o : Int32) &&& 31)) &&& 1) = 1 ↔ ok o = true)) ∧ f_J6_bitCount_0f7a4 (fit ok P) = some (Int32.ofNat (rk ok P)) := by
  have e : ∀ o, o < P → ok o = bk (ok 0) (ok 1) (ok 2) (ok 3) o := by
    intro o ho
    rcases (show o = 0 ∨ o = 1 ∨ o = 2 ∨ o = 3 by omega) with rfl | rfl | rfl | rfl <;> rfl
  obtain ⟨e1, e2⟩ := fit_congr e
  have q := fit_key (ok 0) (ok 1) (ok 2) (ok 3) P (by omega)
  rw [e1, e2]
  exact ⟨fun o ho => by rw [e o ho]; exact q.1 o ho, q.2⟩
def cA (ok : Nat → Bool) (y : Nat → Int32) (z : Int32) : Nat → Nat
  | 0 => 0
  | o + 1 => cA ok y z o + (if ok o = true ∧ y o = z then 1 else 0)
def mA (ok : Nat → Bool) (y : Nat → Int32) (P : Nat) : Nat → Nat
  | 0 => 0
  | o + 1 => if ok o = true then max (mA ok y P o) (cA ok y (y o) P) else mA ok y P o
theorem cA_t {ok : Nat → Bool} {y : Nat → Int32} {z : Int32} {o : Nat} (h : ok o = true) (h2 : y o = z) : cA ok y z (o + 1) = cA ok y z o + 1 := by
  show cA ok y z o + (if ok o = true ∧ y o = z then 1 else 0) = _
  rw [if_pos ⟨h, h2⟩]
theorem cA_f {ok : Nat → Bool} {y : Nat → Int32} {z : Int32} {o : Nat} (h : ¬ (ok o = true ∧ y o = z)) : cA ok y z (o + 1) = cA ok y z o := by
  show cA ok y z o + (if ok o = true ∧ y o = z then 1 else 0) = _
  rw [if_neg h]
  rfl
theorem mA_t {ok : Nat → Bool} {y : Nat → Int32} {P o : Nat} (h : ok o = true) : mA ok y P (o + 1) = max (mA ok y P o) (cA ok y (y o) P) := by
  show (if ok o = true then max (mA ok y P o) (cA ok y (y o) P) else mA ok y P o) = _
  rw [if_pos h]
theorem mA_f {ok : Nat → Bool} {y : Nat → Int32} {P o : Nat} (h : ¬ ok o = true) : mA ok y P (o + 1) = mA ok y P o := by
  show (if ok o = true then max (mA ok y P o) (cA ok y (y o) P) else mA ok y P o) = _
  rw [if_neg h]
theorem cA_le (ok : Nat → Bool) (y : Nat → Int32) (z : Int32) (n : Nat) : cA ok y z n ≤ n := by
  induction n with
  | zero => exact Nat.le_refl _
  | succ n ih =>
    by_cases h : ok n = true ∧ y n = z
    · rw [cA_t h.1 h.2]; omega
    · rw [cA_f h]; omega
theorem mA_le (ok : Nat → Bool) (y : Nat → Int32) (P n : Nat) : mA ok y P n ≤ P := by
  induction n with
  | zero => exact Nat.zero_le _
  | succ n ih =>
    by_cases h : ok n = true
    · rw [mA_t h]
      have := cA_le ok y (y n) P
      omega
    · rw [mA_f h]; exact ih
theorem cA_congr {ok : Nat → Bool} {y y' : Nat → Int32} {z : Int32} {n : Nat} (h : ∀ o, o < n → ok o = true → y o = y' o) : cA ok y z n = cA ok y' z n := by
  induction n with
  | zero => rfl
  | succ n ih =>
    have q := ih (fun o ho => h o (by omega))
    by_cases hk : ok n = true
    · have e := h n (by omega) hk
      by_cases hz : y n = z
      · rw [cA_t hk hz, cA_t hk (e ▸ hz), q]
      · rw [cA_f (fun w => hz w.2), cA_f (fun w => hz (e.trans w.2)), q]
    · rw [cA_f (fun w => hk w.1), cA_f (fun w => hk w.1), q]
theorem mA_congr {ok : Nat → Bool} {y y' : Nat → Int32} {P : Nat} (h : ∀ o, o < P → ok o = true → y o = y' o) {n : Nat} (hn : n ≤ P) : mA ok y P n = mA ok y' P n := by
  induction n with
  | zero => rfl
  | succ n ih =>
    have q := ih (by omega)
    by_cases hk : ok n = true
    · rw [mA_t hk, mA_t hk, q, cA_congr h, h n (by omega) hk]
    · rw [mA_f hk, mA_f hk, q]
/-! the class: how many a look leaves -/
theorem mlb58 {P : Nat} {S : Nat → zM} {ok : Nat → Bool} {V : Int32} (hP4 : P ≤ 4) (hP : S 4 0 0 = Int32.ofNat P) (tst : ∀ o, o < P → (((V >>> ((Int32.ofNat o : Int32) &&& 31)) &&& 1) = 1 ↔ ok o = true)) (k40 : (Nat → zM) → Int32 → Int32 → Int32 → Option (Int32 × (Nat → zM))) {o w : Nat} (ho : o < P) (hw : w ≤ P) (t : Nat) : ∀ (m i : Nat), i + t = P → t < m → f_X6_mostLeftBy_58 k40 m S V (Int32.ofNat w) (Int32.ofNat o) (Int32.ofNat (cA ok (S 0 1) (S 0 1 o) i)) (Int32.ofNat i) = k40 S V (Int32.ofNat (if ok o = true then max w (cA ok (S 0 1) (S 0 1 o) P) else w)) (Int32.ofNat (o + 1)) := by
  induction t with
  | zero =>
    intro m i hi hm
    obtain ⟨m, rfl⟩ : ∃ q, m = q + 1 := ⟨m - 1, by omega⟩
    have hi : i = P := by omega
    subst hi
    have l := cA_le ok (S 0 1) (S 0 1 o) i
    rw [f_X6_mostLeftBy_58, hP, if_pos (Int32.le_refl _), o_1]
    by_cases hk : ok o = true
    · rw [if_pos ((tst o ho).mpr hk), if_pos hk]
      by_cases hlt : w < cA ok (S 0 1) (S 0 1 o) i
      · rw [if_pos ((o_lt (by omega) (by omega)).mpr hlt), show max w (cA ok (S 0 1) (S 0 1 o) i) = cA ok (S 0 1) (S 0 1 o) i by omega]
      · rw [if_neg (fun q => hlt ((o_lt (by omega) (by omega)).mp q)), show max w (cA ok (S 0 1) (S 0 1 o) i) = w by omega]
    · rw [if_neg (fun q => hk ((tst o ho).mp q)), if_neg hk]
  | succ t ih =>
    intro m i hi hm
    obtain ⟨m, rfl⟩ : ∃ q, m = q + 1 := ⟨m - 1, by omega⟩
    rw [f_X6_mostLeftBy_58, hP, if_neg (nle (by omega) (by omega)), o_1 i]
    by_cases hk : ok i = true
    · rw [if_pos ((tst i (by omega)).mpr hk), if_pos (z_inN (show i < 4 by omega) (by decide)), if_pos (z_inN (show o < 4 by omega) (by decide)), o_cl (show i < 2 ^ 31 by omega), o_cl (show o < 2 ^ 31 by omega)]
      by_cases hz : S 0 1 i = S 0 1 o
      · rw [if_pos hz, o_1, ← cA_t hk hz]
        exact ih m (i + 1) (by omega) (by omega)
      · rw [if_neg hz, ← cA_f (ok := ok) (y := S 0 1) (z := S 0 1 o) (o := i) (fun w => hz w.2)]
        exact ih m (i + 1) (by omega) (by omega)
    · rw [if_neg (fun q => hk ((tst i (by omega)).mp q)), ← cA_f (ok := ok) (y := S 0 1) (z := S 0 1 o) (o := i) (fun w => hk w.1)]
      exact ih m (i + 1) (by omega) (by omega)
theorem mlb40 {P : Nat} {S : Nat → zM} {ok : Nat → Bool} {V : Int32} (hP4 : P ≤ 4) (hP : S 4 0 0 = Int32.ofNat P) (tst : ∀ o, o < P → (((V >>> ((Int32.ofNat o : Int32) &&& 31)) &&& 1) = 1 ↔ ok o = true)) (t : Nat) : ∀ (m o : Nat), o + t = P → t < m → f_X6_mostLeftBy_40 m S V (Int32.ofNat (mA ok (S 0 1) P o)) (Int32.ofNat o) = some (Int32.ofNat (mA ok (S 0 1) P P), S) := by
  induction t with
  | zero =>
    intro m o ho hm
    obtain ⟨m, rfl⟩ : ∃ q, m = q + 1 := ⟨m - 1, by omega⟩
    have ho : o = P := by omega
    subst ho
    rw [f_X6_mostLeftBy_40, hP, if_pos (Int32.le_refl _)]
  | succ t ih =>
    intro m o ho hm
    obtain ⟨m, rfl⟩ : ∃ q, m = q + 1 := ⟨m - 1, by omega⟩
    rw [f_X6_mostLeftBy_40, hP, if_neg (nle (by omega) (by omega))]
    have q := mlb58 hP4 hP tst (fun S v2 v3 v4 => f_X6_mostLeftBy_40 m S v2 v3 v4) (show o < P by omega) (mA_le ok (S 0 1) P o) P FU 0 (by omega) (FU_pos (by omega))
    refine (show f_X6_mostLeftBy_58 (fun S v2 v3 v4 => f_X6_mostLeftBy_40 m S v2 v3 v4) FU S V (Int32.ofNat (mA ok (S 0 1) P o)) (Int32.ofNat o) 0 0 = _ from q).trans ?_
    by_cases hk : ok o = true
    · rw [if_pos hk, ← mA_t hk]
      exact ih m (o + 1) (by omega) (by omega)
    · rw [if_neg hk, ← mA_f (y := S 0 1) (P := P) hk]
      exact ih m (o + 1) (by omega) (by omega)
theorem mlb2 {P : Nat} {yy : Nat → Int32} {V v1 : Int32} (hP4 : P ≤ 4) (t : Nat) : ∀ (m i : Nat) (S : Nat → zM), S 4 0 0 = Int32.ofNat P → (∀ o, o < P → f_X0_counted (S (17 + o)) v1 = some (yy o)) → i + t = P → t < m → ∃ X, f_X6_mostLeftBy_2 m S v1 V (Int32.ofNat i) = f_X6_mostLeftBy_40 FU (va_up S 0 X) V 0 0 ∧ X 0 = S 0 0 ∧ ∀ o, (i ≤ o → o < P → X 1 o = yy o) ∧ (o < i → X 1 o = S 0 1 o) := by
  induction t with
  | zero =>
    intro m i S hP hc hi hm
    obtain ⟨m, rfl⟩ : ∃ q, m = q + 1 := ⟨m - 1, by omega⟩
    rw [f_X6_mostLeftBy_2, hP, if_pos ((o_le (by omega) (by omega)).mpr (by omega))]
    exact ⟨S 0, by rw [va_self], rfl, fun o => ⟨fun _ _ => by omega, fun _ => rfl⟩⟩
  | succ t ih =>
    intro m i S hP hc hi hm
    obtain ⟨m, rfl⟩ : ∃ q, m = q + 1 := ⟨m - 1, by omega⟩
    rw [f_X6_mostLeftBy_2, hP, if_neg (nle (by omega) (by omega)), if_pos (z_inN (show i < 9 by omega) (by decide)), o_cl (show i < 2 ^ 31 by omega), hc i (by omega)]
    simp only [Option.bind_some]
    rw [if_pos (z_inN (show i < 4 by omega) (by decide)), zlet_eq, o_1]
    obtain ⟨X, f1, f2, f3⟩ := ih m (i + 1) (va_up S 0 (zU (S 0) 1 i (yy i))) (by rw [va_up_neq _ _ (by decide)]; exact hP) (fun o ho => by rw [va_up_neq _ _ (by omega)]; exact hc o ho) (by omega) (by omega)
    rw [vv] at f1
    refine ⟨X, f1, ?_, fun o => ⟨fun h1 h2 => ?_, fun h1 => ?_⟩⟩
    · rw [f2, va_up_eq, zU_ne _ _ _ (by decide)]
    · by_cases ho : o = i
      · subst ho
        rw [(f3 o).2 (by omega), va_up_eq, zu_eq]
      · exact (f3 o).1 (by omega) h2
    · rw [(f3 o).2 (by omega), va_up_eq, zu_j _ _ _ _ (by omega)]
theorem mlb {P : Nat} {S : Nat → zM} {ok : Nat → Bool} {yy : Nat → Int32} {V v1 : Int32} (hP4 : P ≤ 4) (hP : S 4 0 0 = Int32.ofNat P) (hc : ∀ o, o < P → f_X0_counted (S (17 + o)) v1 = some (yy o)) (tst : ∀ o, o < P → (((V >>> ((Int32.ofNat o : Int32) &&& 31)) &&& 1) = 1 ↔ ok o = true)) : ∃ X, f_X6_mostLeftBy S v1 V = some (Int32.ofNat (mA ok yy P P), va_up S 0 X) ∧ X 0 = S 0 0 := by
  obtain ⟨X, f1, f2, f3⟩ := mlb2 (V := V) hP4 P FU 0 S hP hc (by omega) (FU_pos (by omega))
  have q := mlb40 (S := va_up S 0 X) hP4 (by rw [va_up_neq _ _ (by decide)]; exact hP) tst P FU 0 (by omega) (FU_pos (by omega))
  refine ⟨X, ?_, f2⟩
  have q2 : f_X6_mostLeftBy_40 FU (va_up S 0 X) V 0 0 = _ := q
  refine (f1.trans q2).trans ?_
  rw [mA_congr (y' := yy) (fun o ho _ => by rw [va_up_eq]; exact (f3 o).1 (Nat.zero_le _) ho) (Nat.le_refl P)]
/-! the reference: the worst of a look -/
theorem ask121 {P k : Nat} {u : zM} {ok : Nat → Bool} (hP4 : P ≤ 4) (hk : k < 84) (k96 : zM → Int32 → Int32 → Int32 → Int32 → Int32 → Option (Int32 × zM)) (k109 : zM → Int32 → Int32 → Int32 → Int32 → Int32 → Int32 → Int32 → Option (Int32 × zM)) (v2 v4 v5 : Int32) {o w : Nat} (ho : o < P) (hw : w ≤ P) (t : Nat) : ∀ (m i : Nat), i + t = P → t < m → f_X7_ask_121 k96 k109 m u v2 (Int32.ofNat (rk ok P)) v4 v5 (Int32.ofNat k) (Int32.ofNat w) (Int32.ofNat (rk ok o)) (Int32.ofNat (cA ok (fun q => u 7 (84 * rk ok q + k)) (u 7 (84 * rk ok o + k)) i)) (Int32.ofNat (rk ok i)) = k109 u v2 (Int32.ofNat (rk ok P)) v4 v5 (Int32.ofNat k) (Int32.ofNat (max w (cA ok (fun q => u 7 (84 * rk ok q + k)) (u 7 (84 * rk ok o + k)) P))) (Int32.ofNat (rk ok o + 1)) := by
  have lo := rk_le ok o
  have lP := rk_le ok P
  induction t with
  | zero =>
    intro m i hi hm
    obtain ⟨m, rfl⟩ : ∃ q, m = q + 1 := ⟨m - 1, by omega⟩
    have hi : i = P := by omega
    subst hi
    have l := cA_le ok (fun q => u 7 (84 * rk ok q + k)) (u 7 (84 * rk ok o + k)) i
    rw [f_X7_ask_121, if_pos (Int32.le_refl _), o_1]
    generalize cA ok (fun q => u 7 (84 * rk ok q + k)) (u 7 (84 * rk ok o + k)) i = c at l ⊢
    by_cases hlt : c ≤ w
    · rw [if_pos ((o_le (by omega) (by omega)).mpr hlt), show max w c = w by omega]
    · rw [if_neg (nle (by omega) (by omega)), show max w c = c by omega]
  | succ t ih =>
    intro m i hi hm
    have li := rk_le ok i
    by_cases hki : ok i = true
    · obtain ⟨m, rfl⟩ : ∃ q, m = q + 1 := ⟨m - 1, by omega⟩
      have mono := rk_mono ok (show i + 1 ≤ P by omega)
      rw [rk_t hki] at mono
      have e1 : (84 : Int32) * Int32.ofNat (rk ok o) + Int32.ofNat k = Int32.ofNat (84 * rk ok o + k) := by rw [show (84 : Int32) * Int32.ofNat (rk ok o) = Int32.ofNat (84 * rk ok o) from o_mul 84 _, o_add]
      have e2 : (84 : Int32) * Int32.ofNat (rk ok i) + Int32.ofNat k = Int32.ofNat (84 * rk ok i + k) := by rw [show (84 : Int32) * Int32.ofNat (rk ok i) = Int32.ofNat (84 * rk ok i) from o_mul 84 _, o_add]
      rw [f_X7_ask_121, if_neg (nle (by omega) (by omega)), e1, e2, if_pos (z_inN (show 84 * rk ok o + k < 336 by omega) (by decide)), if_pos (z_inN (show 84 * rk ok i + k < 336 by omega) (by decide)), o_cl (show 84 * rk ok o + k < 2 ^ 31 by omega), o_cl (show 84 * rk ok i + k < 2 ^ 31 by omega), flag0, flag1]
      simp only [Option.bind_some]
      rw [Int32.add_zero, o_1, o_1, ← rk_t hki]
      by_cases hz : u 7 (84 * rk ok o + k) = u 7 (84 * rk ok i + k)
      · rw [if_pos hz, ← cA_t (y := fun q => u 7 (84 * rk ok q + k)) hki hz.symm]
        exact ih m (i + 1) (by omega) (by omega)
      · rw [if_neg hz, ← cA_f (ok := ok) (y := fun q => u 7 (84 * rk ok q + k)) (z := u 7 (84 * rk ok o + k)) (o := i) (fun w => hz w.2.symm)]
        exact ih m (i + 1) (by omega) (by omega)
    · rw [← rk_f hki, ← cA_f (ok := ok) (y := fun q => u 7 (84 * rk ok q + k)) (z := u 7 (84 * rk ok o + k)) (o := i) (fun w => hki w.1)]
      exact ih m (i + 1) (by omega) (by omega)
theorem ask109 {P k : Nat} {u : zM} {ok : Nat → Bool} (hP4 : P ≤ 4) (hP : u 0 3 = Int32.ofNat P) (hk : k < 84) (k96 : zM → Int32 → Int32 → Int32 → Int32 → Int32 → Option (Int32 × zM)) (v2 v4 v5 : Int32) (t : Nat) : ∀ (m o : Nat), o + t = P → t < m → f_X7_ask_109 k96 m u v2 (Int32.ofNat (rk ok P)) v4 v5 (Int32.ofNat k) (Int32.ofNat (mA ok (fun q => u 7 (84 * rk ok q + k)) P o)) (Int32.ofNat (rk ok o)) = if P ≤ k % 4 then k96 u v2 (Int32.ofNat (rk ok P)) v4 v5 (Int32.ofNat (k + 1)) else if v4 ≤ Int32.ofNat (mA ok (fun q => u 7 (84 * rk ok q + k)) P P) then k96 u v2 (Int32.ofNat (rk ok P)) v4 v5 (Int32.ofNat (k + 1)) else k96 u v2 (Int32.ofNat (rk ok P)) (Int32.ofNat (mA ok (fun q => u 7 (84 * rk ok q + k)) P P)) (Int32.ofNat k) (Int32.ofNat (k + 1)) := by
  have lP := rk_le ok P
  induction t with
  | zero =>
    intro m o ho hm
    obtain ⟨m, rfl⟩ : ∃ q, m = q + 1 := ⟨m - 1, by omega⟩
    have ho : o = P := by omega
    subst ho
    have hr : Int32.ofNat k - Int32.ofNat k / 4 * 4 = Int32.ofNat (k % 4) := pk_rem (a := k) (d := 4) (by omega) (by decide) (by decide)
    rw [f_X7_ask_109, if_pos (Int32.le_refl _), hr, hP, o_1]
    have hm4 : k % 4 < 4 := Nat.mod_lt _ (by decide)
    by_cases hc : o ≤ k % 4
    · rw [if_pos ((o_le (by omega) (by omega)).mpr hc), if_pos hc]
    · rw [if_neg (nle (by omega) (by omega)), if_neg hc]
  | succ t ih =>
    intro m o ho hm
    have lo := rk_le ok o
    by_cases hko : ok o = true
    · obtain ⟨m, rfl⟩ : ∃ q, m = q + 1 := ⟨m - 1, by omega⟩
      have mono := rk_mono ok (show o + 1 ≤ P by omega)
      rw [rk_t hko] at mono
      rw [f_X7_ask_109, if_neg (nle (by omega) (by omega))]
      have q := ask121 (u := u) (ok := ok) hP4 hk k96 (fun u v2 v3 v4 v5 v6 v7 v8 => f_X7_ask_109 k96 m u v2 v3 v4 v5 v6 v7 v8) v2 v4 v5 (show o < P by omega) (mA_le ok (fun q => u 7 (84 * rk ok q + k)) P o) P FU 0 (by omega) (FU_pos (by omega))
      refine (show f_X7_ask_121 k96 (fun u v2 v3 v4 v5 v6 v7 v8 => f_X7_ask_109 k96 m u v2 v3 v4 v5 v6 v7 v8) FU u v2 (Int32.ofNat (rk ok P)) v4 v5 (Int32.ofNat k) (Int32.ofNat (mA ok (fun q => u 7 (84 * rk ok q + k)) P o)) (Int32.ofNat (rk ok o)) 0 0 = _ from q).trans ?_
      rw [← rk_t hko, ← mA_t (y := fun q => u 7 (84 * rk ok q + k)) (P := P) hko]
      exact ih m (o + 1) (by omega) (by omega)
    · rw [← rk_f hko, ← mA_f (y := fun q => u 7 (84 * rk ok q + k)) (P := P) hko]
      exact ih m (o + 1) (by omega) (by omega)
theorem ask96 {P k : Nat} {u : zM} {ok : Nat → Bool} (hP4 : P ≤ 4) (hP : u 0 3 = Int32.ofNat P) (hk : k < 84) (v2 v4 v5 : Int32) (m : Nat) : f_X7_ask_96 (m + 1) u v2 (Int32.ofNat (rk ok P)) v4 v5 (Int32.ofNat k) = if P ≤ k % 4 then f_X7_ask_96 m u v2 (Int32.ofNat (rk ok P)) v4 v5 (Int32.ofNat (k + 1)) else if v4 ≤ Int32.ofNat (mA ok (fun q => u 7 (84 * rk ok q + k)) P P) then f_X7_ask_96 m u v2 (Int32.ofNat (rk ok P)) v4 v5 (Int32.ofNat (k + 1)) else f_X7_ask_96 m u v2 (Int32.ofNat (rk ok P)) (Int32.ofNat (mA ok (fun q => u 7 (84 * rk ok q + k)) P P)) (Int32.ofNat k) (Int32.ofNat (k + 1)) := by
  rw [f_X7_ask_96, if_neg (show ¬ (84 : Int32) ≤ Int32.ofNat k from nle (a := 84) hk (by decide))]
  exact ask109 (ok := ok) hP4 hP hk (fun u v2 v3 v4 v5 v6 => f_X7_ask_96 m u v2 v3 v4 v5 v6) v2 v4 v5 P FU 0 (by omega) (FU_pos (by omega))
