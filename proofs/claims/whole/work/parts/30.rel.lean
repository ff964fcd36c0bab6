def zr (x : Int32) (n : Nat) : Prop := ∃ k : Nat, k < n ∧ x = Int32.ofNat k
/-- a County block and a row of the reference tell the same: P people, nb beetles, day d -/
def CR (P nb d : Nat) (C : zM) (v : Nat → Int32) : Prop :=
  P ≤ 4 ∧ nb ≤ 6 ∧ (0 < nb → 0 < P) ∧ C 0 0 = Int32.ofNat P ∧ C 0 1 = Int32.ofNat nb ∧ v 34 = Int32.ofNat nb ∧ C 0 2 = Int32.ofNat d ∧ v 41 = Int32.ofNat d ∧
  (∀ p, p < P → C 1 p = v p ∧ zr (v p) 10) ∧
  (∀ b, b < nb → C 2 b = v (4 + 5 * b) ∧ zr (v (4 + 5 * b)) 4 ∧ C 3 b = v (5 + 5 * b) ∧ (∃ k, 1 ≤ k ∧ k < 10 ∧ v (5 + 5 * b) = Int32.ofNat k) ∧ C 4 b = v (6 + 5 * b) ∧ zr (v (6 + 5 * b)) P ∧ C 5 b = v (8 + 5 * b) ∧ ((v (8 + 5 * b) = -4 ∧ C 6 b = v (7 + 5 * b) ∧ zr (v (7 + 5 * b)) 10) ∨ zr (v (8 + 5 * b)) P)) ∧
  (∀ k, k < 6 → C 7 k = v (35 + k) ∧ zr (v (35 + k)) 10)
def SNR (P m : Nat) (N : zM) (v : Nat → Int32) : Prop :=
  m ≤ 6 ∧ N 0 0 = Int32.ofNat m ∧ v 42 = Int32.ofNat m ∧ ∀ i, i < m → N 1 i = v (43 + 3 * i) ∧ zr (v (43 + 3 * i)) 21 ∧ N 2 i = v (44 + 3 * i) ∧ zr (v (44 + 3 * i)) P ∧ N 3 i = v (45 + 3 * i)
def ImR (P : Nat) (I C N : zM) (f : Int32) (v : Nat → Int32) : Prop := I 0 0 = f ∧ (f = 0 ∨ f = 1 ∧ ∃ nb d m, d < 1000 ∧ CR P nb d C v ∧ SNR P m N v)
def TpR (T : zM) (n : Int32) (v : Nat → Int32) : Prop := ∃ t : Nat, t ≤ 160 ∧ T 0 1 = Int32.ofNat t ∧ n = Int32.ofNat t ∧ ∀ i, i < t → T 1 i = v i ∧ zr (v i) 128
def ShR (H : zM) (lane size : Int32) (v : Nat → Int32) : Prop := (H 0 1 = -4 ∧ lane = -4) ∨ ∃ n : Nat, n ≤ 40 ∧ H 0 1 = Int32.ofNat n ∧ size = Int32.ofNat n ∧ H 0 0 = lane ∧ zr lane 3 ∧ ∀ i, i < 40 → H 1 i = v i
/-- the class's state and the reference's tell the same -/
def Rel (S : Nat → zM) (u : zM) : Prop := ∃ P nb d m : Nat, CR P nb d (S 4) (u 1) ∧ d < 1000 ∧ u 0 3 = Int32.ofNat P ∧ SNR P m (S 6) (u 1) ∧
  (∀ k, k < 2 → ImR P (S (7 + k)) (S (9 + k)) (S (11 + k)) (u 3 k) (fun j => u 1 (61 * (k + 1) + j))) ∧
  TpR (S 1) (u 0 9) (u 5) ∧ S 2 0 5 = u 0 14 ∧ (∀ k, k < 4 → ShR (S (13 + k)) (u 8 k) (u 9 k) (fun i => u 10 (40 * k + i))) ∧ S 0 0 9 = u 0 27
