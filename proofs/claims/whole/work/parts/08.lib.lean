theorem zSplit : ∀ {ws : va_W} {q0 : Nat} {x : Nat × va_E}, ws[q0]? = some x → ws.Perm (x :: ws.eraseIdx q0)
  | [], _, _, h => by simp at h
  | y :: t, 0, x, h => by
    have h1 : y = x := Option.some.inj h
    subst h1
    exact List.Perm.refl _
  | y :: t, q + 1, x, h => by
    have h1 : t[q]? = some x := h
    exact ((zSplit h1).cons y).trans (List.Perm.swap x y _)
theorem zSplit2 {ws : va_W} {q0 : Nat} {x x' : Nat × va_E} (h : ws[q0]? = some x) : (x' :: ws.eraseIdx q0).Perm (ws.set q0 x') := by
  have hl := (List.getElem?_eq_some_iff.mp h).1
  have h2 : (ws.set q0 x')[q0]? = some x' := by rw [List.getElem?_set_self hl]
  have h3 := (zSplit h2).symm
  rw [List.eraseIdx_set_eq] at h3
  exact h3
section ZL
variable {p : Program} {l : Launch} {e : Env} {k : Nat} {s : State} {m : MethodId} {args : Array Value} {below : List Frame} {meth : Method} {c : Code} {G : zG} {A : Nat → Prop} {nL : Nat} {ρ σ : Type} {W' : σ → va_W} {kv : ρ → Option Value} {kw : ρ → σ} {u : σ} {lv : List (Nat × Value)} {pc : Nat} {st : List Value} {res : Option ρ} {cc : ByteArray} {own : String} {ret : Option FieldType}
theorem y_max (C : zC p s m args meth c own cc nL ret G A) {idx : Nat} {x y : Int32} (i : Nat) (hl' : tables_1[i]? = some (Cond.methodLink own idx Lib.Math.max.name)) (hk : 1 ≤ k) (hd : decode cc pc = .ok (.invokestatic idx, 3)) (hcat : (st.map fun v => v.category).sum ≤ 8) (K : PW p l e k s m args below meth c G A nL W' kv kw u lv (pc + 3) (.int (if x < y then y else x) :: st) res) : PW p l e k s m args below meth c G A nL W' kv kw u lv pc (.int y :: .int x :: st) res := fun r hr H locs ls hP hD hS hl =>
  va_mmax C.1 C.2.1 (C.2.2.1.trans hl.1.symm) C.2.2.2.1 (C.2.2.2.2.1 _ (mem_tb i hl' rfl)) (C.2.2.2.2.1 _ mem_max.1) (C.2.2.2.2.1 _ mem_max.2.1) (C.2.2.2.2.1 _ mem_max.2.2) hk (by show _ ≤ 64 * k; omega) (Nat.zero_le _) (Nat.zero_le _) hd (K r hr H locs ls hP hD hS hl)
theorem y_min (C : zC p s m args meth c own cc nL ret G A) {idx : Nat} {x y : Int32} (i : Nat) (hl' : tables_1[i]? = some (Cond.methodLink own idx Lib.Math.min.name)) (hk : 1 ≤ k) (hd : decode cc pc = .ok (.invokestatic idx, 3)) (hcat : (st.map fun v => v.category).sum ≤ 8) (K : PW p l e k s m args below meth c G A nL W' kv kw u lv (pc + 3) (.int (if y < x then y else x) :: st) res) : PW p l e k s m args below meth c G A nL W' kv kw u lv pc (.int y :: .int x :: st) res := fun r hr H locs ls hP hD hS hl =>
  va_mmin C.1 C.2.1 (C.2.2.1.trans hl.1.symm) C.2.2.2.1 (C.2.2.2.2.1 _ (mem_tb i hl' rfl)) (C.2.2.2.2.1 _ mem_min.1) (C.2.2.2.2.1 _ mem_min.2.1) (C.2.2.2.2.1 _ mem_min.2.2) hk (by show _ ≤ 64 * k; omega) (Nat.zero_le _) (Nat.zero_le _) hd (K r hr H locs ls hP hD hS hl)
/-- System.arraycopy(a0, 0, a, 0, n), rows of ints -/
theorem y_copy (C : zC p s m args meth c own cc nL ret G A) {idx : Nat} {a a0 n0 n1 nn : Nat} {n : Int32} {f g : Nat → Int32} {u1 : σ} {F : σ → Option ρ} (i : Nat) (hl' : tables_1[i]? = some (Cond.methodLink own idx arraycopyName)) (hk : 1 ≤ k) (hd : decode cc pc = .ok (.invokestatic idx, 3)) (hs : zHas (W' u) a0 (.inl (G.2 1, n0, .inl f))) (he : zUpd (W' u) a (.inl (G.2 1, n1, .inl g)) (.inl (G.2 1, n1, .inl (va_cpy f g 0 0 nn))) (W' u1)) (hn : ¬ n < 0) (hnn : n.toNatClampNeg = nn) (h0 : nn ≤ n0) (h1 : nn ≤ n1) (hcat : (st.map fun v => v.category).sum ≤ 8) (K : ∀ u', PW p l e k s m args below meth c G A nL W' kv kw u' lv (pc + 3) st (F u')) : PW p l e k s m args below meth c G A nL W' kv kw u lv pc (.int n :: .int 0 :: .ref a :: .int 0 :: .ref a0 :: st) (zlet u1 F) := by
  intro r hr H locs ls hP hD hS hl
  obtain ⟨w, q1, p1, he, p2⟩ := he
  obtain ⟨q0, hs⟩ := hs.perm p1.symm
  subst hnn
  exact va_copyi C.1 C.2.1 (C.2.2.1.trans hl.1.symm) C.2.2.2.1 (C.2.2.2.2.1 _ (mem_tb i hl' rfl)) (C.2.2.2.2.1 _ mem_cpy.1) (C.2.2.2.2.1 _ mem_cpy.2.1) (C.2.2.2.2.1 _ mem_cpy.2.2) C.2.2.2.2.2.1.1 (zP.perm p1 hP) (zD.perm p1 hD) hS q0 q1 1 1 hs he rfl rfl rfl (by decide) (by decide) hn (by rw [show (0 : Int32).toNatClampNeg = 0 from rfl]; omega) (by rw [show (0 : Int32).toNatClampNeg = 0 from rfl]; omega) (fun _ _ => rfl) hk (by show _ + (7 + 11) ≤ 64 * k; omega) hd
    (fun H1 locs1 hP2 hD2 hS2 => K u1 r hr H1 locs1 ls (zP.perm p2 hP2) (zD.perm p2 hD2) hS2 hl)
end ZL
/-! Arrays.fill(row, x) -/
def f_fill_L (n : Nat) (x : Int32) : Nat → (Nat → Int32) → Int32 → Option (Nat → Int32)
  | 0, _, _ => none
  | k + 1, f, i => if Int32.ofNat n ≤ i then some f else if z_in i n = true then zlet (upd f i.toNatClampNeg x) fun f => f_fill_L n x k f (i + 1) else none
theorem w_fill_L {p : Program} {l : Launch} {e : Env} {s : State} {m : MethodId} {args : Array Value} {below : List Frame} {meth : Method} {c : Code} {G : zG} {A : Nat → Prop} (C : zC p s m args meth c RJ7 cJ7_fill_53178 4 none G A) (q n : Nat) (Z : va_W) (x : Int32) : ∀ (k : Nat) (f : Nat → Int32) (i : Int32), PW p l e 1 s m args below meth c G A 4 (fun f : Nat → Int32 => (q, .inl (G.2 1, n, .inl f)) :: Z) (fun _ => none) (fun r => r) f [(0, .ref q), (1, .int x), (2, .int i), (3, .int (Int32.ofNat n))] 5 [] (f_fill_L n x k f i) := by
  intro k
  induction k with
  | zero => intro f i; exact z_none
  | succ k ih =>
    intro f i
    rw [f_fill_L]
    refine z_iload_n C 2 dJ7_fill_53178_5 rfl ?_
    refine z_iload_n C 3 dJ7_fill_53178_6 rfl ?_
    refine z_icmpge C 20 dJ7_fill_53178_7 (by decide) ?_ ?_
    · exact z_vret C dJ7_fill_53178_20 rfl rfl
    refine z_aload_n C 0 dJ7_fill_53178_10 rfl ?_
    refine z_iload_n C 2 dJ7_fill_53178_11 rfl ?_
    refine z_iload_n C 1 dJ7_fill_53178_12 rfl ?_
    refine y_iast C (zUpd.at 0 rfl rfl) dJ7_fill_53178_13 (fun f => ?_)
    refine z_iinc C (v := i + 1) 2 [(2, .int (i + 1)), (0, .ref q), (1, .int x), (3, .int (Int32.ofNat n))] dJ7_fill_53178_14 rfl rfl (by decide) rfl ?_
    refine z_goto C 5 dJ7_fill_53178_17 (by decide) ?_
    refine z_loc C [(0, .ref q), (1, .int x), (2, .int (i + 1)), (3, .int (Int32.ofNat n))] [1, 2, 0, 3] rfl ?_
    exact ih f (i + 1)
theorem FU_ex : ∃ n : Nat, 2 ^ 80 ≤ n := ⟨2 ^ 80, Nat.le_refl _⟩
noncomputable def FU : Nat := Classical.choose FU_ex
theorem FU_ge : 2 ^ 80 ≤ FU := Classical.choose_spec FU_ex
noncomputable def f_fill (n : Nat) (f : Nat → Int32) (x : Int32) : Option (Nat → Int32) := f_fill_L n x FU f 0
theorem ct_fill (l : Launch) (G : zG) (q n : Nat) (Z : va_W) (f : Nat → Int32) (x : Int32) : zCt l yJ7_fill_53178 cJ7_fill_53178 4 none 1 G [.ref q, .int x] (fun f : Nat → Int32 => (q, .inl (G.2 1, n, .inl f)) :: Z) (fun _ => none) (fun r => r) f (f_fill n f x) := by
  refine zCt.of (by decide) (Nat.le_of_ble_eq_true rfl) (fun p e s m args below meth c A C => ?_)
  refine y_lv (lv' := [(0, .ref q), (1, .int x)]) rfl ?_
  rw [f_fill]
  refine z_iconst (v := 0) C dJ7_fill_53178_0 (by decide) ?_
  refine z_istore_n C [(2, .int 0), (0, .ref q), (1, .int x)] dJ7_fill_53178_1 (by decide) rfl ?_
  refine z_aload_n C 1 dJ7_fill_53178_2 rfl ?_
  refine z_alen (t0 := 1) C ⟨0, rfl⟩ rfl rfl dJ7_fill_53178_3 ?_
  refine z_istore_n C [(3, .int (Int32.ofNat n)), (2, .int 0), (0, .ref q), (1, .int x)] dJ7_fill_53178_4 (by decide) rfl ?_
  refine z_loc C [(0, .ref q), (1, .int x), (2, .int 0), (3, .int (Int32.ofNat n))] [2, 3, 1, 0] rfl ?_
  exact w_fill_L C q n Z x FU f 0
