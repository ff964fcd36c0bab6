def Fu (S S' : Nat → zM) : Prop := (∀ i, 1 ≤ i → i ≤ 16 → S' i = S i) ∧ S' 0 0 = S 0 0
theorem Fu.rf (S : Nat → zM) : Fu S S := ⟨fun _ _ _ => rfl, rfl⟩
theorem Fu.tr {S T U : Nat → zM} (h : Fu S T) (h' : Fu T U) : Fu S U := ⟨fun i a b => (h'.1 i a b).trans (h.1 i a b), h'.2.trans h.2⟩
theorem ask151 {P nb dd : Nat} (hP4 : P ≤ 4) (hd : dd < 99999) (k90 : (Nat → zM) → Int32 → Int32 → Int32 → Int32 → Int32 → Option (Int32 × (Nat → zM))) (v2 v3 v4 v5 v6 : Int32) (t : Nat) : ∀ (m i : Nat) (S : Nat → zM), S 4 0 0 = Int32.ofNat P → (∀ o, i ≤ o → o < P → ∃ u', TR 6 P nb nb dd (S (17 + o)) u') → i + t = P → t < m → ∃ S', f_X6_ask_151 k90 m S v2 v3 v4 v5 v6 (Int32.ofNat i) = k90 S' v2 v3 v4 v5 (v6 + 1) ∧ Fu S S' ∧ (∀ o, i ≤ o → o < P → S' (17 + o) = pT (S (17 + o))) ∧ ∀ o, o < i → S' (17 + o) = S (17 + o) := by
  induction t with
  | zero =>
    intro m i S hP hT hi hm
    obtain ⟨m, rfl⟩ : ∃ q, m = q + 1 := ⟨m - 1, by omega⟩
    rw [f_X6_ask_151, hP, if_pos ((o_le (by omega) (by omega)).mpr (by omega))]
    exact ⟨S, rfl, Fu.rf S, fun o h1 h2 => by omega, fun _ _ => rfl⟩
  | succ t ih =>
    intro m i S hP hT hi hm
    obtain ⟨m, rfl⟩ : ∃ q, m = q + 1 := ⟨m - 1, by omega⟩
    obtain ⟨u', h⟩ := hT i (Nat.le_refl _) (by omega)
    obtain ⟨w, u2, e1, e2, e3, e4, -⟩ := pT_eq h hd
    rw [f_X6_ask_151, hP, if_neg (nle (by omega) (by omega)), if_pos (z_inN (show i < 9 by omega) (by decide)), if_pos (z_inN (show i < 9 by omega) (by decide)), o_cl (show i < 2 ^ 31 by omega), e1]
    simp only [Option.bind_some]
    rw [e3, o_1]
    simp only [Option.bind_some, zlet_eq]
    obtain ⟨S', f1, f2, f3, f4⟩ := ih m (i + 1) (va_up S (17 + i) (pT (S (17 + i)))) (by rw [va_up_neq _ _ (by omega)]; exact hP) (fun o h1 h2 => by rw [va_up_neq _ _ (by omega)]; exact hT o (by omega) h2) (by omega) (by omega)
    refine ⟨S', f1, Fu.tr ⟨fun j a b => va_up_neq _ _ (by omega), by rw [va_up_neq _ _ (by omega)]⟩ f2, fun o h1 h2 => ?_, fun o h1 => ?_⟩
    · by_cases ho : o = i
      · subst ho
        rw [f4 o (by omega), va_up_eq]
      · rw [f3 o (by omega) h2, va_up_neq _ _ (by omega)]
    · rw [f4 o (by omega), va_up_neq _ _ (by omega)]
theorem ask_skip {P n : Nat} {u : zM} {ok : Nat → Bool} (hP4 : P ≤ 4) (hP : u 0 3 = Int32.ofNat P) (hn : n ≤ 20) (v2 v4 v5 : Int32) (t : Nat) : ∀ (m p : Nat), P ≤ p → p + t = 4 → f_X7_ask_96 (m + t) u v2 (Int32.ofNat (rk ok P)) v4 v5 (Int32.ofNat (4 * n + p)) = f_X7_ask_96 m u v2 (Int32.ofNat (rk ok P)) v4 v5 (Int32.ofNat (4 * (n + 1))) := by
  induction t with
  | zero =>
    intro m p h1 h2
    rw [show 4 * n + p = 4 * (n + 1) by omega]
    rfl
  | succ t ih =>
    intro m p h1 h2
    rw [← Nat.add_assoc, ask96 hP4 hP (by omega), if_pos (show P ≤ (4 * n + p) % 4 by omega)]
    exact ih m (p + 1) (by omega) (by omega)
def Rb (be fo : Int32) : Prop := (be = -4 ∧ fo = -4) ∨ ∃ n0 p0, n0 ≤ 20 ∧ p0 < 4 ∧ be = Int32.ofNat (10 * n0 + p0) ∧ fo = Int32.ofNat (4 * n0 + p0)
/-- the state of a search: what the futures are behind n days, what the reference's table holds -/
def AI (P nb n : Nat) (F : Nat → zM) (S : Nat → zM) : Prop := S 4 0 0 = Int32.ofNat P ∧ ∀ o, o < P → S (17 + o) = pN (F o) n
theorem ask_in {P nb d n : Nat} {u : zM} {ok : Nat → Bool} {F : Nat → zM} {V : Int32} (hP4 : P ≤ 4) (hP : u 0 3 = Int32.ofNat P) (hd : d < 1000) (hn : n ≤ 20)
    (hF : ∀ o, o < P → ∃ g, TR 6 P nb nb d (F o) g) (tst : ∀ o, o < P → (((V >>> ((Int32.ofNat o : Int32) &&& 31)) &&& 1) = 1 ↔ ok o = true))
    (hB : ∀ o, o < P → ok o = true → ∀ n', n' ≤ 20 → ∀ p, p < P → u 7 (84 * rk ok o + (4 * n' + p)) = kS (F o) nb n' p)
    (w : Int32) (k90 : (Nat → zM) → Int32 → Int32 → Int32 → Int32 → Int32 → Option (Int32 × (Nat → zM)))
    (mz : Nat) (K : ∀ (S : Nat → zM) (be fo few : Int32), AI P nb (n + 1) F S → Rb be fo → ∃ r S', k90 S w V be few (Int32.ofNat (n + 1)) = some (r, S') ∧ f_X7_ask_96 mz u w (Int32.ofNat (rk ok P)) few fo (Int32.ofNat (4 * (n + 1))) = some (r, u) ∧ Fu S S') (t : Nat) :
    ∀ (m p : Nat) (S : Nat → zM) (be fo few : Int32), AI P nb n F S → Rb be fo → p + t = P → t < m → ∃ r S', f_X6_ask_100 k90 m S w V be few (Int32.ofNat n) (Int32.ofNat p) = some (r, S') ∧ f_X7_ask_96 (mz + (4 - P) + t) u w (Int32.ofNat (rk ok P)) few fo (Int32.ofNat (4 * n + p)) = some (r, u) ∧ Fu S S' := by
  induction t with
  | zero =>
    intro m p S be fo few hA hR hp hm
    obtain ⟨m, rfl⟩ : ∃ q, m = q + 1 := ⟨m - 1, by omega⟩
    obtain ⟨a1, a2⟩ := id hA
    have hp : p = P := by omega
    subst hp
    rw [f_X6_ask_100, a1, if_pos (Int32.le_refl _)]
    obtain ⟨S1, f1, f2, f3, -⟩ := ask151 (nb := nb) (dd := d + n) hP4 (by omega) k90 w V be few (Int32.ofNat n) p FU 0 S a1 (fun o _ ho => by
      obtain ⟨g, hg⟩ := hF o ho
      obtain ⟨u', q1, -⟩ := pN_same hg hg n (by omega)
      exact ⟨u', by rw [a2 o ho]; exact q1⟩) (by omega) (FU_pos (by omega))
    rw [show f_X6_ask_151 k90 FU S w V be few (Int32.ofNat n) 0 = _ from f1, o_1]
    have sk := ask_skip (ok := ok) hP4 hP hn w few fo (4 - p) mz p (Nat.le_refl _) (by omega)
    obtain ⟨r, S2, g1, g2, g3⟩ := K S1 be fo few ⟨by rw [f2.1 4 (by decide) (by decide)]; exact a1, fun o ho => by rw [f3 o (Nat.zero_le _) ho, a2 o ho]; rfl⟩ hR
    exact ⟨r, S2, g1, (show mz + (4 - p) + 0 = mz + (4 - p) from rfl) ▸ sk.trans g2, f2.tr g3⟩
  | succ t ih =>
    intro m p S be fo few hA hR hp hm
    obtain ⟨m, rfl⟩ : ∃ q, m = q + 1 := ⟨m - 1, by omega⟩
    obtain ⟨a1, a2⟩ := id hA
    have hT : ∀ o, o < P → ∃ u', TR 6 P nb nb (d + n) (S (17 + o)) u' := by
      intro o ho
      obtain ⟨g, hg⟩ := hF o ho
      obtain ⟨u', q1, -⟩ := pN_same hg hg n (by omega)
      exact ⟨u', by rw [a2 o ho]; exact q1⟩
    obtain ⟨X, f1, f2⟩ := mlb (S := S) (ok := ok) (yy := fun o => kS (F o) nb n p) (V := V) (v1 := Int32.ofNat p) hP4 a1 (fun o ho => by
      obtain ⟨u', h⟩ := hT o ho
      rw [countedC h, a2 o ho]
      rfl) tst
    have eW : mA ok (fun q => u 7 (84 * rk ok q + (4 * n + p))) P P = mA ok (fun o => kS (F o) nb n p) P P := mA_congr (fun o ho hk => hB o ho hk n hn p (by omega)) (Nat.le_refl _)
    rw [f_X6_ask_100, a1, if_neg (nle (by omega) (by omega)), f1, ← Nat.add_assoc, ask96 hP4 hP (by omega), if_neg (show ¬ P ≤ (4 * n + p) % 4 by omega), eW, o_1]
    simp only [Option.bind_some, zlet_eq]
    have fu : Fu S (va_up S 0 X) := ⟨fun i a b => va_up_neq _ _ (by omega), by rw [va_up_eq]; exact f2⟩
    have hA2 : AI P nb n F (va_up S 0 X) := ⟨by rw [va_up_neq _ _ (by decide)]; exact a1, fun o ho => by rw [va_up_neq _ _ (by omega)]; exact a2 o ho⟩
    by_cases hle : few ≤ Int32.ofNat (mA ok (fun o => kS (F o) nb n p) P P)
    · rw [if_pos hle, if_pos hle]
      obtain ⟨r, S2, g1, g2, g3⟩ := ih m (p + 1) _ be fo few hA2 hR (by omega) (by omega)
      exact ⟨r, S2, g1, g2, fu.tr g3⟩
    · rw [if_neg hle, if_neg hle, show (10 : Int32) * Int32.ofNat n + Int32.ofNat p = Int32.ofNat (10 * n + p) by rw [show (10 : Int32) * Int32.ofNat n = Int32.ofNat (10 * n) from o_mul 10 n, o_add]]
      obtain ⟨r, S2, g1, g2, g3⟩ := ih m (p + 1) _ (Int32.ofNat (10 * n + p)) (Int32.ofNat (4 * n + p)) _ hA2 (Or.inr ⟨n, p, hn, by omega, rfl, rfl⟩) (by omega) (by omega)
      exact ⟨r, S2, g1, g2, fu.tr g3⟩
theorem ask_out {P nb d : Nat} {u : zM} {ok : Nat → Bool} {F : Nat → zM} {V : Int32} (hP4 : P ≤ 4) (hP : u 0 3 = Int32.ofNat P) (hd : d < 1000)
    (hF : ∀ o, o < P → ∃ g, TR 6 P nb nb d (F o) g) (tst : ∀ o, o < P → (((V >>> ((Int32.ofNat o : Int32) &&& 31)) &&& 1) = 1 ↔ ok o = true))
    (hB : ∀ o, o < P → ok o = true → ∀ n', n' ≤ 20 → ∀ p, p < P → u 7 (84 * rk ok o + (4 * n' + p)) = kS (F o) nb n' p)
    (w : Int32) (t : Nat) : ∀ (m m' n : Nat) (S : Nat → zM) (be fo few : Int32), AI P nb n F S → Rb be fo → n + t = 21 → t < m → 4 * t < m' → ∃ r S', f_X6_ask_90 m S w V be few (Int32.ofNat n) = some (r, S') ∧ f_X7_ask_96 m' u w (Int32.ofNat (rk ok P)) few fo (Int32.ofNat (4 * n)) = some (r, u) ∧ Fu S S' := by
  induction t with
  | zero =>
    intro m m' n S be fo few hA hR hn hm hm'
    obtain ⟨m, rfl⟩ : ∃ q, m = q + 1 := ⟨m - 1, by omega⟩
    obtain ⟨m', rfl⟩ : ∃ q, m' = q + 1 := ⟨m' - 1, by omega⟩
    have hn : n = 21 := by omega
    subst hn
    rw [f_X6_ask_90, f_X7_ask_96, if_pos (show (20 : Int32) < Int32.ofNat 21 by decide), if_pos (show (84 : Int32) ≤ Int32.ofNat (4 * 21) by decide)]
    rcases hR with ⟨rfl, rfl⟩ | ⟨n0, p0, h1, h2, rfl, rfl⟩
    · rw [if_pos rfl, if_pos rfl]
      by_cases h0 : w = 0
      · rw [if_pos h0]; exact ⟨_, S, rfl, rfl, Fu.rf S⟩
      · rw [if_neg h0]; exact ⟨_, S, rfl, rfl, Fu.rf S⟩
    · rw [if_neg (ne4 (by omega)), if_neg (ne4 (by omega))]
      by_cases h0 : w = 0
      · have e1 : Int32.ofNat (4 * n0 + p0) / 4 = Int32.ofNat ((4 * n0 + p0) / 4) := pk_div (a := 4 * n0 + p0) (d := 4) (by omega) (by decide) (by decide)
        have e2 : Int32.ofNat (4 * n0 + p0) - Int32.ofNat (4 * n0 + p0) / 4 * 4 = Int32.ofNat ((4 * n0 + p0) % 4) := pk_rem (a := 4 * n0 + p0) (d := 4) (by omega) (by decide) (by decide)
        rw [if_pos h0, if_pos h0, e2, e1, show (4 * n0 + p0) / 4 = n0 by omega, show (4 * n0 + p0) % 4 = p0 by omega, show (10 : Int32) * Int32.ofNat n0 + Int32.ofNat p0 = Int32.ofNat (10 * n0 + p0) by rw [show (10 : Int32) * Int32.ofNat n0 = Int32.ofNat (10 * n0) from o_mul 10 n0, o_add]]
        exact ⟨_, S, rfl, rfl, Fu.rf S⟩
      · rw [if_neg h0, if_neg h0]
        exact ⟨_, S, rfl, rfl, Fu.rf S⟩
  | succ t ih =>
    intro m m' n S be fo few hA hR hn hm hm'
    obtain ⟨m, rfl⟩ : ∃ q, m = q + 1 := ⟨m - 1, by omega⟩
    obtain ⟨mz, rfl⟩ : ∃ q, m' = q + (4 - P) + P := ⟨m' - 4, by omega⟩
    have l20 : ¬ (20 : Int32) < Int32.ofNat n := i32_nlt.mpr ((o_le (a := n) (b := 20) (by omega) (by decide)).mpr (by omega))
    rw [f_X6_ask_90, if_neg l20]
    have q := ask_in (ok := ok) (F := F) (V := V) hP4 hP hd (show n ≤ 20 by omega) hF tst hB w (fun S v2 v3 v4 v5 v6 => f_X6_ask_90 m S v2 v3 v4 v5 v6) mz (fun S be fo few hA hR => ih m mz (n + 1) S be fo few hA hR (by omega) (by omega) (by omega)) P FU 0 S be fo few hA hR (by omega) (FU_pos (by omega))
    exact q
/-! the reference's table -/
theorem copy45 {r : Nat} (hr : r < 4) (k22 : zM → Int32 → Int32 → Int32 → Int32 → Option (Int32 × zM)) (v1 v2 v4 : Int32) (g : Nat → Int32) (t : Nat) : ∀ (m i : Nat) (u : zM), (∀ q, q < 84 → g (84 * r + q) = u 6 q) → i + t = 84 → t < m → f_X7_ask_45 k22 m u v1 v2 (Int32.ofNat r) v4 (Int32.ofNat i) = k22 (rowF u 7 (84 * r + i) (84 * r + 84) g) v1 v2 (Int32.ofNat (r + 1)) (v4 + 1) := by
  induction t with
  | zero =>
    intro m i u hg hi hm
    obtain ⟨m, rfl⟩ : ∃ q, m = q + 1 := ⟨m - 1, by omega⟩
    have hi : i = 84 := by omega
    subst hi
    rw [f_X7_ask_45, if_pos (show (84 : Int32) ≤ Int32.ofNat 84 by decide), rowF_nil (by omega), o_1]
  | succ t ih =>
    intro m i u hg hi hm
    obtain ⟨m, rfl⟩ : ∃ q, m = q + 1 := ⟨m - 1, by omega⟩
    have e1 : (84 : Int32) * Int32.ofNat r + Int32.ofNat i = Int32.ofNat (84 * r + i) := by rw [show (84 : Int32) * Int32.ofNat r = Int32.ofNat (84 * r) from o_mul 84 r, o_add]
    rw [f_X7_ask_45, if_neg (show ¬ (84 : Int32) ≤ Int32.ofNat i from nle (a := 84) (by omega) (by decide)), e1, if_pos (z_inN (show i < 84 by omega) (by decide)), if_pos (z_inN (show 84 * r + i < 336 by omega) (by decide)), o_cl (show i < 2 ^ 31 by omega), o_cl (show 84 * r + i < 2 ^ 31 by omega), zlet_eq, o_1, ← hg i (by omega)]
    rw [ih m (i + 1) _ (fun q hq => by rw [zU_ne _ _ _ (by decide)]; exact hg q hq) (by omega) (by omega), show 84 * r + (i + 1) = 84 * r + i + 1 by omega, rowF_step (by omega)]
def Fr67 (u u' : zM) : Prop := (∀ j, j ≠ 0 → j ≠ 2 → j ≠ 6 → j ≠ 7 → u' j = u j) ∧ ∀ k, k ≠ 16 → k ≠ 17 → k ≠ 18 → u' 0 k = u 0 k
theorem Fr67.tr {u v w : zM} (h : Fr67 u v) (h' : Fr67 v w) : Fr67 u w := ⟨fun j a b c e => (h'.1 j a b c e).trans (h.1 j a b c e), fun j a b c => (h'.2 j a b c).trans (h.2 j a b c)⟩
theorem Fr6.sev {u v : zM} (h : Fr6 u v) : Fr67 u v := ⟨fun j a b c _ => h.1 j a b c, h.2⟩
theorem rel_67 {S S' : Nat → zM} {u u' : zM} (h : Rel S u) (hf : Fr67 u u') (hS : ∀ i, 1 ≤ i → i ≤ 16 → i ≠ 5 → S' i = S i) (h0 : S' 0 0 = S 0 0) : Rel S' u' := by
  refine rel_scr h ?_ ?_ ?_ ?_ ?_
  · intro i a b _ _ h5
    exact hS i a b h5
  · rw [h0]
  · rw [hS 2 (by decide) (by decide) (by decide)]
  · intro j hj
    exact hf.1 j (by omega) (by omega) (by omega) (by omega)
  · intro k hk
    exact hf.2 k (by omega) (by omega) (by omega)
theorem RC.run7 {P nb d : Nat} {S : Nat → zM} {u u' : zM} (h : RC P nb d S u) (hf : Fr67 u u') : RC P nb d S u' := by
  obtain ⟨h1, h2, h3, h4⟩ := h
  refine ⟨rel_67 h1 hf (fun _ _ _ _ => rfl) rfl, h2, (hf.2 3 (by decide) (by decide) (by decide)).trans h3, ?_⟩
  rw [hf.1 1 (by decide) (by decide) (by decide) (by decide)]
  exact h4
theorem ask22 {P nb d b mm : Nat} {S : Nat → zM} (hb : b < nb) (v : Nat → Int32) (w : Int32) (t : Nat) : ∀ (m o : Nat) (u : zM), RC P nb d S u → u 1 = v → SNR P mm (S 6) v → (∀ o', o' < o → okB 4 (S 4) nb b mm v o' = true → ∀ n', n' ≤ 20 → ∀ p, p < P → u 7 (84 * rk (okB 4 (S 4) nb b mm v) o' + (4 * n' + p)) = kS (zU (S 4) 4 b (Int32.ofNat o')) nb n' p) → o + t = P → t < m →
    ∃ u', f_X7_ask_22 m u (Int32.ofNat b) w (Int32.ofNat (rk (okB 4 (S 4) nb b mm v) o)) (Int32.ofNat o) = f_X7_ask_96 FU u' w (Int32.ofNat (rk (okB 4 (S 4) nb b mm v) P)) (Int32.ofNat (rk (okB 4 (S 4) nb b mm v) P)) (-4) 0 ∧ Fr67 u u' ∧ ∀ o', o' < P → okB 4 (S 4) nb b mm v o' = true → ∀ n', n' ≤ 20 → ∀ p, p < P → u' 7 (84 * rk (okB 4 (S 4) nb b mm v) o' + (4 * n' + p)) = kS (zU (S 4) 4 b (Int32.ofNat o')) nb n' p := by
  induction t with
  | zero =>
    intro m o u h hv hN hI ho hm
    obtain ⟨m, rfl⟩ : ∃ q, m = q + 1 := ⟨m - 1, by omega⟩
    have ho : o = P := by omega
    subst ho
    rw [f_X7_ask_22, h.2.2.1, if_pos (Int32.le_refl _)]
    exact ⟨u, rfl, (Fr6.rf u).sev, hI⟩
  | succ t ih =>
    intro m o u h hv hN hI ho hm
    obtain ⟨m, rfl⟩ : ∃ q, m = q + 1 := ⟨m - 1, by omega⟩
    obtain ⟨hP4, hn6, SP, Sn, un4⟩ := h.b4
    subst hv
    have lo := rk_le (okB 4 (S 4) nb b mm (u 1)) o
    obtain ⟨u1, f1, f2, f3⟩ := so_gen h hN (c := 4) (i := b) (q := 6 + 5 * b) (o := o) (w := 2) (Or.inr (Or.inr (Or.inr (Or.inr ⟨rfl, hb, rfl, o, by omega, rfl⟩)))) (bo2 _ (by omega) _)
    rw [f_X7_ask_22, h.2.2.1, if_neg (nle (by omega) (by omega)), f1]
    simp only [Option.bind_some, zlet_eq]
    have e1 : u1 1 = u 1 := f2.1 1 (by decide) (by decide) (by decide)
    have e7 : u1 7 = u 7 := f2.1 7 (by decide) (by decide) (by decide)
    by_cases hk : okB 4 (S 4) nb b mm (u 1) o = true
    · rw [if_pos hk]
      have q := copy45 (r := rk (okB 4 (S 4) nb b mm (u 1)) o) (by omega) (fun u v1 v2 v3 v4 => f_X7_ask_22 m u v1 v2 v3 v4) (Int32.ofNat b) w (Int32.ofNat o) (fun q => u1 6 (q - 84 * rk (okB 4 (S 4) nb b mm (u 1)) o)) 84 FU 0 u1 (fun q hq => by show u1 6 _ = _; congr 1; omega) (by omega) (FU_pos (by omega))
      rw [show f_X7_ask_45 (fun u v1 v2 v3 v4 => f_X7_ask_22 m u v1 v2 v3 v4) FU u1 (Int32.ofNat b) w (Int32.ofNat (rk (okB 4 (S 4) nb b mm (u 1)) o)) (Int32.ofNat o) 0 = _ from q, o_1]
      have fr : Fr67 u (rowF u1 7 (84 * rk (okB 4 (S 4) nb b mm (u 1)) o + 0) (84 * rk (okB 4 (S 4) nb b mm (u 1)) o + 84) (fun q => u1 6 (q - 84 * rk (okB 4 (S 4) nb b mm (u 1)) o))) :=
        f2.sev.tr ⟨fun j _ _ _ h7 => rowF_ne _ _ _ _ h7, fun k _ _ _ => by rw [rowF_ne _ _ _ _ (by decide)]⟩
      have hr := h.run7 fr
      have e1' := fr.1 1 (by decide) (by decide) (by decide) (by decide)
      obtain ⟨u2, g1, g2, g3⟩ := ih m (o + 1) _ hr e1' hN (fun o' ho' hk' n' hn' p hp => by
        have mono := rk_mono (okB 4 (S 4) nb b mm (u 1)) (show o' ≤ o by omega)
        rw [rowF_row]
        by_cases hoo : o' = o
        · subst hoo
          rw [if_pos (by omega), ← f3 n' hn' p hp]
          congr 1
          omega
        · have mono2 := rk_mono (okB 4 (S 4) nb b mm (u 1)) (show o' + 1 ≤ o by omega)
          rw [rk_t hk'] at mono2
          rw [if_neg (by omega), e7]
          exact hI o' (by omega) hk' n' hn' p hp) (by omega) (by omega)
      rw [rk_t hk] at g1
      exact ⟨u2, g1, fr.tr g2, g3⟩
    · rw [if_neg hk, o_1]
      have hr := h.run7 f2.sev
      obtain ⟨u2, g1, g2, g3⟩ := ih m (o + 1) u1 hr e1 hN (fun o' ho' hk' n' hn' p hp => by
        rw [e7]
        by_cases hoo : o' = o
        · subst hoo; exact absurd hk' hk
        · exact hI o' (by omega) hk' n' hn' p hp) (by omega) (by omega)
      rw [rk_f hk] at g1
      exact ⟨u2, g1, f2.sev.tr g2, g3⟩
/-! the class's futures -/
theorem ask31 {P nb d b : Nat} {u : zM} {v0 : zM} (hb : b < nb) (w V : Int32) (t : Nat) : ∀ (m o : Nat) (S : Nat → zM), RC P nb d S u → S 4 = v0 → o + t = P → t < m →
    ∃ S', f_X6_ask_31 m S (Int32.ofNat b) w V (Int32.ofNat o) = ((f_J6_bitCount_0f7a4 V).bind fun r5 => f_X6_ask_90 FU S' w V (-4) r5 0) ∧ Fu S S' ∧ (∀ o', o ≤ o' → o' < P → TR 6 P nb nb d (S' (17 + o')) (zU (stU u) 2 (6 + 5 * b) (Int32.ofNat o')) ∧ TR 6 P nb nb d (zU v0 4 b (Int32.ofNat o')) (zU (stU u) 2 (6 + 5 * b) (Int32.ofNat o'))) ∧ ∀ o', o' < o → S' (17 + o') = S (17 + o') := by
  induction t with
  | zero =>
    intro m o S h hv ho hm
    obtain ⟨m, rfl⟩ : ∃ q, m = q + 1 := ⟨m - 1, by omega⟩
    obtain ⟨hP4, hn6, SP, Sn, un4⟩ := h.b4
    rw [f_X6_ask_31, SP, if_pos ((o_le (by omega) (by omega)).mpr (by omega))]
    exact ⟨S, rfl, Fu.rf S, fun o' h1 h2 => by omega, fun _ _ => rfl⟩
  | succ t ih =>
    intro m o S h hv ho hm
    obtain ⟨m, rfl⟩ : ∃ q, m = q + 1 := ⟨m - 1, by omega⟩
    obtain ⟨hP4, hn6, SP, Sn, un4⟩ := h.b4
    obtain ⟨D, f1, f2, -⟩ := h.cpy (S (17 + o))
    have hc : (4 = 1 ∧ b < P ∧ b = 6 + 5 * b ∧ zr (Int32.ofNat o) 10) ∨ (4 = 7 ∧ b < 6 ∧ 6 + 5 * b = 35 + b ∧ zr (Int32.ofNat o) 10) ∨ (4 = 2 ∧ b < nb ∧ 6 + 5 * b = 4 + 5 * b ∧ zr (Int32.ofNat o) 4) ∨ (4 = 3 ∧ b < nb ∧ 6 + 5 * b = 5 + 5 * b ∧ ∃ k, 1 ≤ k ∧ k < 10 ∧ Int32.ofNat o = Int32.ofNat k) ∨ (4 = 4 ∧ b < nb ∧ 6 + 5 * b = 6 + 5 * b ∧ zr (Int32.ofNat o) P) := Or.inr (Or.inr (Or.inr (Or.inr ⟨rfl, hb, rfl, o, by omega, rfl⟩)))
    obtain ⟨-, t1, -⟩ := h.edit f2 hc
    obtain ⟨-, t2, -⟩ := h.edit h.c2 hc
    rw [hv] at t2
    rw [f_X6_ask_31, SP, if_neg (nle (by omega) (by omega)), if_pos (z_inN (show o < 9 by omega) (by decide)), o_cl (show o < 2 ^ 31 by omega), f1]
    simp only [Option.bind_some, zlet_eq, va_up_eq, vv]
    rw [if_pos (z_inN (show o < 9 by omega) (by decide)), if_pos (z_inN (show b < 6 by omega) (by decide)), o_cl (show b < 2 ^ 31 by omega), o_1]
    have hr : RC P nb d (va_up S (17 + o) (zU D 4 b (Int32.ofNat o))) u := by
      refine ⟨rel_67 h.1 (Fr6.rf u).sev (fun i a b _ => va_up_neq _ _ (by omega)) (by rw [va_up_neq _ _ (by omega)]), h.2.1, h.2.2.1, ?_⟩
      rw [va_up_neq _ _ (by omega)]
      exact h.2.2.2
    obtain ⟨S', g1, g2, g3, g4⟩ := ih m (o + 1) _ hr (by rw [va_up_neq _ _ (by omega)]; exact hv) (by omega) (by omega)
    refine ⟨S', g1, Fu.tr ⟨fun i a b => va_up_neq _ _ (by omega), by rw [va_up_neq _ _ (by omega)]⟩ g2, fun o' h1 h2 => ?_, fun o' h1 => ?_⟩
    · by_cases ho' : o' = o
      · subst ho'
        rw [g4 o' (by omega), va_up_eq]
        exact ⟨t1, t2⟩
      · exact g3 o' (by omega) h2
    · rw [g4 o' (by omega), va_up_neq _ _ (by omega)]
theorem api_ask {S : Nat → zM} {u : zM} (h : Rel S u) (a1 : Int32) (a2 : Int32) : ∃ (r : Int32) (S' : Nat → zM) (u' : zM), f_X6_ask S a1 a2 = some (r, S') ∧ f_X7_ask u a1 a2 = some (r, u') ∧ Rel S' u' := by
  obtain ⟨P, nb, d, hc⟩ := rc_of h
  obtain ⟨hP4, hn6, SP, Sn, un4⟩ := hc.b4
  obtain ⟨mm, hN⟩ := hc.sn
  unfold f_X6_ask f_X7_ask
  rw [hasBeetle_eq Sn hn6, isBeetle_eq un4 hn6, wi_0_1, isPart_eq]
  simp only [Option.bind_some]
  cases hz : zw a1 0 ((nb : Int) - 1) with
  | false => exact ⟨-1, S, u, rfl, rfl, h⟩
  | true =>
    obtain ⟨b, hb, -, rfl⟩ := zw_nat hz
    have hb : b < nb := by omega
    cases hy : zw a2 0 1 with
    | false => exact ⟨-1, S, u, rfl, rfl, h⟩
    | true =>
      simp only [↓reduceIte]
      obtain ⟨X, f1⟩ := fitC hb hc hN
      obtain ⟨u1, g1, g2, g3⟩ := ask22 hb (u 1) a2 P FU 0 u hc rfl hN (fun o' ho' => by omega) (by omega) (FU_pos (by omega))
      have hc1 := hc.run6 (Fr6.rf u) X
      have e4 : va_up S 5 X 4 = S 4 := va_up_neq _ _ (by decide)
      obtain ⟨S1, k1, k2, k3, -⟩ := ask31 (v0 := S 4) hb a2 (fit (okB 4 (S 4) nb b mm (u 1)) P) P FU 0 (va_up S 5 X) hc1 e4 (by omega) (FU_pos (by omega))
      obtain ⟨tst, bc⟩ := fit_tst (okB 4 (S 4) nb b mm (u 1)) hP4
      have hP1 : u1 0 3 = Int32.ofNat P := (g2.2 3 (by decide) (by decide) (by decide)).trans hc.2.2.1
      have hd := hc.2.1
      obtain ⟨r, S2, q1, q2, q3⟩ := ask_out (ok := okB 4 (S 4) nb b mm (u 1)) (F := fun o => S1 (17 + o)) (V := fit (okB 4 (S 4) nb b mm (u 1)) P) hP4 hP1 hd (fun o ho => ⟨_, (k3 o (Nat.zero_le _) ho).1⟩) tst (fun o ho hk n' hn' p hp => by
        obtain ⟨t1, t2⟩ := k3 o (Nat.zero_le _) ho
        rw [g3 o ho hk n' hn' p hp]
        exact kS_same t2 t1 n' p (by omega)) a2 21 FU FU 0 S1 (-4) (-4) (Int32.ofNat (rk (okB 4 (S 4) nb b mm (u 1)) P)) ⟨by rw [k2.1 4 (by decide) (by decide), e4]; exact SP, fun o ho => rfl⟩ (Or.inl ⟨rfl, rfl⟩) (by omega) (FU_pos (by omega)) (FU_pos (by omega))
      rw [f1]
      simp only [Option.bind_some, zlet_eq]
      rw [show f_X6_ask_31 FU (va_up S 5 X) (Int32.ofNat b) a2 (fit (okB 4 (S 4) nb b mm (u 1)) P) 0 = _ from k1, bc]
      simp only [Option.bind_some]
      refine ⟨r, S2, u1, q1, ?_, ?_⟩
      · exact (show f_X7_ask_22 FU u (Int32.ofNat b) a2 0 0 = _ from g1).trans q2
      · refine rel_67 h g2 (fun i a b c => ?_) ?_
        · rw [q3.1 i a b, k2.1 i a b, va_up_neq _ _ c]
        · rw [q3.2, k2.2, va_up_neq _ _ (by decide)]
