section ZH
variable {p : Program} {l : Launch} {e : Env} {k : Nat} {s : State} {m : MethodId} {args : Array Value} {below : List Frame} {meth : Method} {c : Code} {G : zG} {A : Nat → Prop} {nL : Nat} {ρ σ : Type} {W' : σ → va_W} {kv : ρ → Option Value} {kw : ρ → σ} {u : σ} {lv : List (Nat × Value)} {pc : Nat} {st : List Value} {res : Option ρ} {cc : ByteArray} {own : String} {ret : Option FieldType}
/-! ends -/
theorem z_iret {ty : FieldType} (C : zC p s m args meth c own cc nL (some ty) G A) {x : Int32} {r : ρ} (hd : decode cc pc = .ok (.ireturn, 1)) (hn : narrow ty (.int x) = .int x) (hv : kv r = some (.int x)) (hw : kw r = u) : PW p l e k s m args below meth c G A nL W' kv kw u lv pc [.int x] (some r) := by
  intro r' hr H locs ls hP hD hS hl
  cases hr
  subst hw
  exact W.zret C.1 C.2.1 C.2.2.2.2.2.2.2.2 hn (fun t ht hW => ⟨⟨by rw [hv], by rw [ht]; exact hP, hD⟩, hS.F ht⟩) hS.2.2 hd C.2.2.2.2.2.2.2.1
theorem z_zret (C : zC p s m args meth c own cc nL (some .boolean) G A) {b : Bool} {r : ρ} (hd : decode cc pc = .ok (.ireturn, 1)) (hv : kv r = some (.int (zb b))) (hw : kw r = u) : PW p l e k s m args below meth c G A nL W' kv kw u lv pc [.int (zb b)] (some r) :=
  z_iret C hd (by cases b <;> rfl) hv hw
theorem z_lret (C : zC p s m args meth c own cc nL (some .long) G A) {x : Int64} {r : ρ} (hd : decode cc pc = .ok (.lreturn, 1)) (hv : kv r = some (.long x)) (hw : kw r = u) : PW p l e k s m args below meth c G A nL W' kv kw u lv pc [.long x] (some r) := by
  intro r' hr H locs ls hP hD hS hl
  cases hr
  subst hw
  exact W.lret C.1 C.2.1 C.2.2.2.2.2.2.2.2 (fun t ht hW => ⟨⟨by rw [hv], by rw [ht]; exact hP, hD⟩, hS.F ht⟩) hS.2.2 hd C.2.2.2.2.2.2.2.1
theorem z_vret (C : zC p s m args meth c own cc nL none G A) {r : ρ} (hd : decode cc pc = .ok (.return_, 1)) (hv : kv r = none) (hw : kw r = u) : PW p l e k s m args below meth c G A nL W' kv kw u lv pc [] (some r) := by
  intro r' hr H locs ls hP hD hS hl
  cases hr
  subst hw
  exact W.vret C.1 C.2.1 C.2.2.2.2.2.2.2.2 (fun t ht hW => ⟨⟨by rw [hv], by rw [ht]; exact hP, hD⟩, hS.F ht⟩) hS.2.2 hd C.2.2.2.2.2.2.2.1
/-! fields: own's constant idx is field f of class number ci -/
def zFL (own : String) (idx ci f : Nat) : Prop := ∃ (C : String) (T : u_T) (N : Nat) (ty0 : Nat → FieldType), vwCl[ci]? = some (C, T, N) ∧ f < N ∧ (∀ w ∈ u_ws C T N, w ∈ zTb) ∧ (∀ k, k < N → parseFieldDescriptor (T k).2.2.1 = some (ty0 k)) ∧ (∀ a, a < N → ∀ b, b < N → a ≠ b → (T a).2.1 ≠ (T b).2.1) ∧
  (Cond.fieldLink own idx (T f).1 (T f).2.1 (T f).2.2.1 ∈ zTb ∨ ∃ host, Cond.fieldLinkNest own idx (T f).1 (T f).2.1 (T f).2.2.1 host ∈ zNest)
def zFT (ci f : Nat) (ty : FieldType) : Prop := ∃ (C : String) (T : u_T) (N : Nat), vwCl[ci]? = some (C, T, N) ∧ (T f).2.2.2 = false ∧ parseFieldDescriptor (T f).2.2.1 = some ty
theorem z_get {ret : Option FieldType} (C : zC p s m args meth c own cc nL ret G A) {idx ci f : Nat} {a : Nat} {fs : List Value} {v : Value} (hf : zFL own idx ci f) (he : zHas (W' u) a (.inr (ci, fs))) (hv : fs[f]? = some v) (hd : decode cc pc = .ok (.getfield idx, 3)) (K : PW p l e k s m args below meth c G A nL W' kv kw u lv (pc + 3) (v :: st) res) : PW p l e k s m args below meth c G A nL W' kv kw u lv pc (.ref a :: st) res := by
  intro r hr H locs ls hP hD hS hl
  obtain ⟨CC, T, N, ty0, h1, h2, h3, -, -, h6⟩ := hf
  obtain ⟨q0, he⟩ := he
  rcases h6 with h6 | ⟨host, h6⟩
  · exact va_get C.1 C.2.1 C.2.2.2.2.1 h3 C.2.2.2.1 C.2.2.2.2.2.1.1 hP q0 he h1 f h2 (C.2.2.2.2.1 _ h6) (fun _ h => h) hv hd (K r hr H locs ls hP hD hS hl)
  · exact va_getN C.1 C.2.1 C.2.2.2.2.1 h3 C.2.2.2.1 C.2.2.2.2.2.1.1 hP q0 he h1 f h2 (zNest_use h6 C.2.2.2.2.2.1.2.1) (fun _ h => h) hv hd (K r hr H locs ls hP hD hS hl)
theorem z_put {ret : Option FieldType} (C : zC p s m args meth c own cc nL ret G A) {idx ci f : Nat} {a : Nat} {fs : List Value} {v : Value} {ty : FieldType} {u1 : σ} {F : σ → Option ρ} (hf : zFL own idx ci f) (ht : zFT ci f ty) (he : zUpd (W' u) a (.inr (ci, fs)) (.inr (ci, fs.set f v)) (W' u1)) (hn : narrow ty v = v) (hfit : fits ty v = true) (hlen : f < fs.length) (hd : decode cc pc = .ok (.putfield idx, 3)) (K : ∀ u', PW p l e k s m args below meth c G A nL W' kv kw u' lv (pc + 3) st (F u')) : PW p l e k s m args below meth c G A nL W' kv kw u lv pc (v :: .ref a :: st) (zlet u1 F) := by
  intro r hr H locs ls hP hD hS hl
  obtain ⟨CC, T, N, ty0, h1, h2, h3, h4, h5, h6⟩ := hf
  obtain ⟨C', T', N', g1, g2, g3⟩ := ht
  obtain ⟨w, q0, p1, he, p2⟩ := he
  have e1 : (CC, T, N) = (C', T', N') := Option.some.inj (h1.symm.trans g1)
  cases e1
  have hP1 := zP.perm p1 hP
  have hD1 := zD.perm p1 hD
  rcases h6 with h6 | ⟨host, h6⟩
  · exact va_put C.1 C.2.1 C.2.2.2.2.1 h3 ty0 h4 h5 C.2.2.2.1 C.2.2.2.2.2.1.1 hP1 hD1 hS q0 he h1 f h2 (C.2.2.2.2.1 _ h6) (fun _ h => h) g2 g3 hn hfit hlen hd (fun H1 locs1 hP2 hD2 hS2 => K u1 r hr H1 locs1 ls (zP.perm p2 hP2) (zD.perm p2 hD2) hS2 hl)
  · exact va_putN C.1 C.2.1 C.2.2.2.2.1 h3 ty0 h4 h5 C.2.2.2.1 C.2.2.2.2.2.1.1 hP1 hD1 hS q0 he h1 f h2 (zNest_use h6 C.2.2.2.2.2.1.2.1) (fun _ h => h) g2 g3 hn hfit hlen hd (fun H1 locs1 hP2 hD2 hS2 => K u1 r hr H1 locs1 ls (zP.perm p2 hP2) (zD.perm p2 hD2) hS2 hl)
/-! arrays -/
theorem z_iald (C : zC p s m args meth c own cc nL ret G A) {a n : Nat} {f : Nat → Int32} {i : Int32} (he : zHas (W' u) a (.inl (G.2 1, n, .inl f))) (hd : decode cc pc = .ok (.iaload, 1)) (K : PW p l e k s m args below meth c G A nL W' kv kw u lv (pc + 1) (.int (f i.toNatClampNeg) :: st) res) [Decidable (vp_in i n)] : PW p l e k s m args below meth c G A nL W' kv kw u lv pc (.int i :: .ref a :: st) (if vp_in i n then res else none) := by
  intro r hr H locs ls hP hD hS hl
  obtain ⟨q0, he⟩ := he
  by_cases h : vp_in i n
  · rw [if_pos h] at hr
    exact va_iald C.1 C.2.1 C.2.2.2.2.2.1.1 hP q0 1 he rfl h hd (K r hr H locs ls hP hD hS hl)
  · rw [if_neg h] at hr; cases hr
theorem z_bald (C : zC p s m args meth c own cc nL ret G A) {a n : Nat} {f : Nat → Int32} {i : Int32} (he : zHas (W' u) a (.inl (G.2 0, n, .inl f))) (hd : decode cc pc = .ok (.baload, 1)) (K : PW p l e k s m args below meth c G A nL W' kv kw u lv (pc + 1) (.int (f i.toNatClampNeg) :: st) res) [Decidable (vp_in i n)] : PW p l e k s m args below meth c G A nL W' kv kw u lv pc (.int i :: .ref a :: st) (if vp_in i n then res else none) := by
  intro r hr H locs ls hP hD hS hl
  obtain ⟨q0, he⟩ := he
  by_cases h : vp_in i n
  · rw [if_pos h] at hr
    exact va_bald C.1 C.2.1 C.2.2.2.2.2.1.1 hP q0 0 he rfl h hd (K r hr H locs ls hP hD hS hl)
  · rw [if_neg h] at hr; cases hr
theorem z_zald (C : zC p s m args meth c own cc nL ret G A) {a n : Nat} {f : Nat → Int32} {i : Int32} (he : zHas (W' u) a (.inl (G.2 2, n, .inl f))) (hd : decode cc pc = .ok (.baload, 1)) (K : PW p l e k s m args below meth c G A nL W' kv kw u lv (pc + 1) (.int (f i.toNatClampNeg) :: st) res) [Decidable (vp_in i n)] : PW p l e k s m args below meth c G A nL W' kv kw u lv pc (.int i :: .ref a :: st) (if vp_in i n then res else none) := by
  intro r hr H locs ls hP hD hS hl
  obtain ⟨q0, he⟩ := he
  by_cases h : vp_in i n
  · rw [if_pos h] at hr
    exact va_zald C.1 C.2.1 C.2.2.2.2.2.1.1 hP q0 2 he rfl h hd (K r hr H locs ls hP hD hS hl)
  · rw [if_neg h] at hr; cases hr
theorem z_aald (C : zC p s m args meth c own cc nL ret G A) {a n t0 : Nat} {CC : String} {f : Nat → Option Nat} {g : Nat → Nat} {i : Int32} (he : zHas (W' u) a (.inl (G.2 t0, n, .inr (.inr (.inr (.inr f)))))) (ht : (zT G.2)[t0]? = some (G.2 t0, .object CC)) (hg : ∀ j, j < n → f j = some (g j)) (hd : decode cc pc = .ok (.aaload, 1)) (K : i.toNatClampNeg < n → PW p l e k s m args below meth c G A nL W' kv kw u lv (pc + 1) (.ref (g i.toNatClampNeg) :: st) res) [Decidable (vp_in i n)] : PW p l e k s m args below meth c G A nL W' kv kw u lv pc (.int i :: .ref a :: st) (if vp_in i n then res else none) := by
  intro r hr H locs ls hP hD hS hl
  obtain ⟨q0, he⟩ := he
  by_cases h : vp_in i n
  · rw [if_pos h] at hr
    have hlt : i.toNatClampNeg < n := Nat.not_le.mp fun q => h (Or.inr q)
    refine va_aldq C.1 C.2.1 C.2.2.2.2.2.1.1 hP q0 t0 he ht h hd ?_
    rw [hg _ hlt]
    exact K hlt r hr H locs ls hP hD hS hl
  · rw [if_neg h] at hr; cases hr
theorem z_iast (C : zC p s m args meth c own cc nL ret G A) {a n : Nat} {f : Nat → Int32} {i x : Int32} {u1 : σ} {F : σ → Option ρ} (he : zUpd (W' u) a (.inl (G.2 1, n, .inl f)) (.inl (G.2 1, n, .inl (upd f i.toNatClampNeg x))) (W' u1)) (hd : decode cc pc = .ok (.iastore, 1)) (K : ∀ u', PW p l e k s m args below meth c G A nL W' kv kw u' lv (pc + 1) st (F u')) [Decidable (vp_in i n)] : PW p l e k s m args below meth c G A nL W' kv kw u lv pc (.int x :: .int i :: .ref a :: st) (if vp_in i n then zlet u1 F else none) := by
  intro r hr H locs ls hP hD hS hl
  obtain ⟨w, q0, p1, he, p2⟩ := he
  by_cases h : vp_in i n
  · rw [if_pos h] at hr
    exact va_iast C.1 C.2.1 C.2.2.2.2.2.1.1 (zP.perm p1 hP) (zD.perm p1 hD) hS q0 1 he rfl h hd (fun H1 locs1 hP2 hD2 hS2 => K u1 r hr H1 locs1 ls (zP.perm p2 hP2) (zD.perm p2 hD2) hS2 hl)
  · rw [if_neg h] at hr; cases hr
theorem z_bast (C : zC p s m args meth c own cc nL ret G A) {a n : Nat} {f : Nat → Int32} {i x : Int32} {u1 : σ} {F : σ → Option ρ} (he : zUpd (W' u) a (.inl (G.2 0, n, .inl f)) (.inl (G.2 0, n, .inl (upd f i.toNatClampNeg (vp_nar .byte x)))) (W' u1)) (hd : decode cc pc = .ok (.bastore, 1)) (K : ∀ u', PW p l e k s m args below meth c G A nL W' kv kw u' lv (pc + 1) st (F u')) [Decidable (vp_in i n)] : PW p l e k s m args below meth c G A nL W' kv kw u lv pc (.int x :: .int i :: .ref a :: st) (if vp_in i n then zlet u1 F else none) := by
  intro r hr H locs ls hP hD hS hl
  obtain ⟨w, q0, p1, he, p2⟩ := he
  by_cases h : vp_in i n
  · rw [if_pos h] at hr
    exact va_bast C.1 C.2.1 C.2.2.2.2.2.1.1 (zP.perm p1 hP) (zD.perm p1 hD) hS q0 0 he rfl h hd (fun H1 locs1 hP2 hD2 hS2 => K u1 r hr H1 locs1 ls (zP.perm p2 hP2) (zD.perm p2 hD2) hS2 hl)
  · rw [if_neg h] at hr; cases hr
theorem z_zast (C : zC p s m args meth c own cc nL ret G A) {a n : Nat} {f : Nat → Int32} {i x : Int32} {u1 : σ} {F : σ → Option ρ} (he : zUpd (W' u) a (.inl (G.2 2, n, .inl f)) (.inl (G.2 2, n, .inl (upd f i.toNatClampNeg (vp_nar .boolean x)))) (W' u1)) (hd : decode cc pc = .ok (.bastore, 1)) (K : ∀ u', PW p l e k s m args below meth c G A nL W' kv kw u' lv (pc + 1) st (F u')) [Decidable (vp_in i n)] : PW p l e k s m args below meth c G A nL W' kv kw u lv pc (.int x :: .int i :: .ref a :: st) (if vp_in i n then zlet u1 F else none) := by
  intro r hr H locs ls hP hD hS hl
  obtain ⟨w, q0, p1, he, p2⟩ := he
  by_cases h : vp_in i n
  · rw [if_pos h] at hr
    exact va_zast C.1 C.2.1 C.2.2.2.2.2.1.1 (zP.perm p1 hP) (zD.perm p1 hD) hS q0 2 he rfl h hd (fun H1 locs1 hP2 hD2 hS2 => K u1 r hr H1 locs1 ls (zP.perm p2 hP2) (zD.perm p2 hD2) hS2 hl)
  · rw [if_neg h] at hr; cases hr
theorem z_alen (C : zC p s m args meth c own cc nL ret G A) {a t0 : Nat} {x : vp_A} {ty : FieldType} {v : Int32} (he : zHas (W' u) a (.inl (G.2 t0, x))) (ht : (zT G.2)[t0]? = some (G.2 t0, ty)) (hv : Int32.ofNat x.1 = v) (hd : decode cc pc = .ok (.arraylength, 1)) (K : PW p l e k s m args below meth c G A nL W' kv kw u lv (pc + 1) (.int v :: st) res) : PW p l e k s m args below meth c G A nL W' kv kw u lv pc (.ref a :: st) res := by
  intro r hr H locs ls hP hD hS hl
  obtain ⟨q0, he⟩ := he
  exact va_alen C.1 C.2.1 C.2.2.2.2.2.1.1 hP q0 t0 he ht hv hd (K r hr H locs ls hP hD hS hl)
/-! calls -/
def zMi (y : MethodName) (cc : ByteArray) (nL : Nat) (ret : Option FieldType) (n : Nat) : Prop := Cond.code y cc nL ret ∈ zTb ∧ Cond.initialized y.cls ∈ zTb ∧ (y.cls ≠ "java/lang/invoke/MethodHandle" ∧ y.cls ≠ "java/lang/invoke/VarHandle" ∧ (parseMethodDescriptor y.desc).map (fun d => d.parameters.length) = some n) ∧ nL ≤ 40
def zLk (own : String) (idx : Nat) (y : MethodName) : Prop := Cond.methodLink own idx y ∈ zTb ∨ ∃ host, Cond.methodLinkNest own idx y host ∈ zNest
theorem zTb_good {y : MethodName} {cc : ByteArray} {nL : Nat} {ret : Option FieldType} (h : Cond.code y cc nL ret ∈ zTb) : GoodIn zTb (Cond.code y cc nL ret :: zTb) := by
  have key : ∀ w ∈ zTb, w ∈ zTb ∧ ((w.onTables && w.keeps) = true ∨ ∃ ty, w = .arrayClass ty) := fun w hw => ⟨hw, good_of_word (List.mem_filter.mp hw).2⟩
  intro w hw
  rcases List.mem_cons.mp hw with rfl | hw
  · exact key _ h
  · exact key _ hw
theorem z_blind {G : zG} {σ : Type} {W1 : σ → va_W} {u1 : σ} {av : List Value} {sz : Nat} : FrameBlind (va_Pc av (fun U => U.heap.size = sz ∧ va_P G.1.1 vwCl (W1 u1) U.heap ∧ zE G (va_A (W1 u1) sz) U ∧ va_D (fun _ => True) (W1 u1))) := fun _ _ _ _ h => ⟨h.1, h.2.1, h.2.2.1, h.2.2.2.1.blind, h.2.2.2.2⟩
/-- what a call comes to -/
def zRun (p : Program) (l : Launch) (e : Env) (k : Nat) (s : State) (m : MethodId) (args : Array Value) (below : List Frame) (meth : Method) (c : Code) (G : zG) (A : Nat → Prop) (nL : Nat) (pc : Nat) (st rest : List Value) {ρ₁ σ₁ : Type} (W1 : σ₁ → va_W) (kv1 : ρ₁ → Option Value) (kw1 : ρ₁ → σ₁) (u1 : σ₁) (res1 : Option ρ₁) : Prop :=
  ∀ r1, res1 = some r1 → ∀ (H : Heap) (locs : List Loc) (ls : Array Slot), ls.size = nL → va_P G.1.1 vwCl (W1 u1) H → va_D A (W1 u1) → va_S A s.heap H locs → ∃ a : Array Value, va_Run p l e (zRM k) s m args below meth c H locs 0 0 0 0 (F0 m pc ls st) rest (zQ G (va_A (W1 u1) H.size) W1 kv1 kw1 r1 a) (va_A (W1 u1) H.size)
theorem z_invV (C : zC p s m args meth c own cc nL ret G A) {y : MethodName} {cc1 : ByteArray} {nL1 n : Nat} {ret1 : Option FieldType} {k1 idx ci : Nat} {b : Addr} {fs : List Value} {ρ₁ σ₁ : Type} {W1 : σ₁ → va_W} {kv1 : ρ₁ → Option Value} {kw1 : ρ₁ → σ₁} {u1 : σ₁} {res1 : Option ρ₁} (As rest : List Value) (hC : zCt l y cc1 nL1 ret1 k1 G (.ref b :: As) W1 kv1 kw1 u1 res1) (hM : zMi y cc1 nL1 ret1 n) (hi : Cond.instanceMethod y ∈ zTb) (hs : Cond.selects y.cls y y ∈ zTb) (hL : zLk own idx y) (hb : zHas (W1 u1) b (.inr (ci, fs))) (hc : ∃ q, vwCl[ci]? = some q ∧ q.1 = y.cls) (hk : k1 + 1 ≤ k) (hn : As.length = n) (hst : st = As.reverse ++ .ref b :: rest) (hd : decode cc pc = .ok (.invokevirtual idx, 3)) (hcat : (rest.map fun v => v.category).sum ≤ 8) : zRun p l e k s m args below meth c G A nL pc st rest W1 kv1 kw1 u1 res1 := by
  intro r1 hr1 H locs ls hls hP hD hS
  subst hst
  obtain ⟨q0, hb⟩ := hb
  obtain ⟨q, hc, hq⟩ := hc
  have hcode := C.2.2.2.2.1 _ hM.1
  have hini := C.2.2.2.2.1 _ hM.2.1
  have hE := C.2.2.2.2.2.1
  have hfree : ∀ q, va_A (W1 u1) H.size q → A q := by
    intro q h
    rcases h with ⟨i, e0, hi⟩ | h
    · exact hD.2 i (q, e0) hi
    · exact C.2.2.2.2.2.2.1 q (Nat.le_trans hS.1 h)
  have hW2 : (zRM k1).frames + 1 ≤ (zRM k).frames ∧ 8 + (nL1 + 11) + (zRM k1).locals ≤ (zRM k).locals := ⟨hk, by show 8 + (nL1 + 11) + 64 * k1 ≤ 64 * k; have := hM.2.2.2; omega⟩
  have hpre : PreV s H y.cls b (va_Pc (.ref b :: As) (fun U => U.heap.size = H.size ∧ va_P G.1.1 vwCl (W1 u1) U.heap ∧ zE G (va_A (W1 u1) H.size) U ∧ va_D (fun _ => True) (W1 u1))) As := ⟨z_blind, hq ▸ va_recv hE.1 hP hc hb, fun U hU hW => ⟨rfl, by rw [hU], by rw [hU]; exact hP, hE.call hS hfree hU hW, hD.weaken (fun _ _ _ _ => trivial)⟩⟩
  refine ⟨(Value.ref b :: As).toArray, ?_⟩
  rcases hL with hL | ⟨host, hL⟩
  · exact va_runV (C := y.cls) (n := n) ⟨C.1, C.2.1, C.2.2.1, C.2.2.2.1, C.2.2.2.2.1⟩ (hC r1 hr1 H.size) ⟨callB_of n C.2.2.2.2.1 (zTb_good hM.1) rfl rfl rfl hini (C.2.2.2.2.1 _ hL) hM.2.2.1 hW2, C.2.2.2.2.1 _ hi, C.2.2.2.2.1 _ hs⟩ hpre rfl hn hls rfl (lv_room hcat) hd ⟨Nat.le_refl _, Nat.le_refl _⟩
  · exact va_runVN (C := y.cls) (n := n) ⟨C.1, C.2.1, C.2.2.1, C.2.2.2.1, C.2.2.2.2.1⟩ (hC r1 hr1 H.size) ⟨va_cnB n C.2.2.2.2.1 (zTb_good hM.1) rfl rfl rfl (hE.2.1 _ hL) hini hM.2.2.1 hW2, C.2.2.2.2.1 _ hi, C.2.2.2.2.1 _ hs⟩ hpre rfl hn hls rfl (lv_room hcat) hd ⟨Nat.le_refl _, Nat.le_refl _⟩
theorem z_invS (C : zC p s m args meth c own cc nL ret G A) {y : MethodName} {cc1 : ByteArray} {nL1 n : Nat} {ret1 : Option FieldType} {k1 idx : Nat} {ρ₁ σ₁ : Type} {W1 : σ₁ → va_W} {kv1 : ρ₁ → Option Value} {kw1 : ρ₁ → σ₁} {u1 : σ₁} {res1 : Option ρ₁} (As rest : List Value) (hC : zCt l y cc1 nL1 ret1 k1 G As W1 kv1 kw1 u1 res1) (hM : zMi y cc1 nL1 ret1 n) (hi : Cond.static y ∈ zTb) (hL : zLk own idx y) (hk : k1 + 1 ≤ k) (hn : As.length = n) (hst : st = As.reverse ++ rest) (hd : decode cc pc = .ok (.invokestatic idx, 3)) (hcat : (rest.map fun v => v.category).sum ≤ 8) : zRun p l e k s m args below meth c G A nL pc st rest W1 kv1 kw1 u1 res1 := by
  intro r1 hr1 H locs ls hls hP hD hS
  subst hst
  have hcode := C.2.2.2.2.1 _ hM.1
  have hini := C.2.2.2.2.1 _ hM.2.1
  have hE := C.2.2.2.2.2.1
  have hfree : ∀ q, va_A (W1 u1) H.size q → A q := by
    intro q h
    rcases h with ⟨i, e0, hi⟩ | h
    · exact hD.2 i (q, e0) hi
    · exact C.2.2.2.2.2.2.1 q (Nat.le_trans hS.1 h)
  have hW2 : (zRM k1).frames + 1 ≤ (zRM k).frames ∧ 8 + (nL1 + 11) + (zRM k1).locals ≤ (zRM k).locals := ⟨hk, by show 8 + (nL1 + 11) + 64 * k1 ≤ 64 * k; have := hM.2.2.2; omega⟩
  have hpre : PreS s H (va_Pc As (fun U => U.heap.size = H.size ∧ va_P G.1.1 vwCl (W1 u1) U.heap ∧ zE G (va_A (W1 u1) H.size) U ∧ va_D (fun _ => True) (W1 u1))) As := ⟨z_blind, fun U hU hW => ⟨rfl, by rw [hU], by rw [hU]; exact hP, hE.call hS hfree hU hW, hD.weaken (fun _ _ _ _ => trivial)⟩⟩
  refine ⟨As.toArray, ?_⟩
  rcases hL with hL | ⟨host, hL⟩
  · exact va_runS (n := n) ⟨C.1, C.2.1, C.2.2.1, C.2.2.2.1, C.2.2.2.2.1⟩ (hC r1 hr1 H.size) ⟨callB_of n C.2.2.2.2.1 (zTb_good hM.1) rfl rfl rfl hini (C.2.2.2.2.1 _ hL) hM.2.2.1 hW2, C.2.2.2.2.1 _ hi⟩ hpre rfl hn hls rfl (lv_room hcat) hd ⟨Nat.le_refl _, Nat.le_refl _⟩
  · exact va_runSN (n := n) ⟨C.1, C.2.1, C.2.2.1, C.2.2.2.1, C.2.2.2.2.1⟩ (hC r1 hr1 H.size) ⟨va_cnB n C.2.2.2.2.1 (zTb_good hM.1) rfl rfl rfl (hE.2.1 _ hL) hini hM.2.2.1 hW2, C.2.2.2.2.1 _ hi, trivial⟩ hpre rfl hn hls rfl (lv_room hcat) hd ⟨Nat.le_refl _, Nat.le_refl _⟩
theorem z_call (C : zC p s m args meth c own cc nL ret G A) {rest : List Value} {ρ₁ σ₁ : Type} {W1 : σ₁ → va_W} {kv1 : ρ₁ → Option Value} {kw1 : ρ₁ → σ₁} {u1 : σ₁} {res1 : Option ρ₁} {F : ρ₁ → Option ρ} {gg : ρ₁ → σ} (hrun : zRun p l e k s m args below meth c G A nL pc st rest W1 kv1 kw1 u1 res1) (hp : (W' u).Perm (W1 u1)) (hp2 : ∀ r1, (W1 (kw1 r1)).Perm (W' (gg r1))) (K : ∀ r1, PW p l e k s m args below meth c G A nL W' kv kw (gg r1) lv (pc + 3) ((kv1 r1).toList ++ rest) (F r1)) : PW p l e k s m args below meth c G A nL W' kv kw u lv pc st (res1.bind F) := by
  intro r hr H locs ls hP hD hS hl
  cases hres : res1 with
  | none => rw [hres] at hr; cases hr
  | some r1 =>
    rw [hres] at hr
    have hr : F r1 = some r := hr
    have hP1 := zP.perm hp hP
    have hD1 := zD.perm hp hD
    obtain ⟨a, hR⟩ := hrun r1 hres H locs ls hl.1 hP1 hD1 hS
    intro T hT X
    obtain ⟨v, st₀, t, T', L, h0, X', hL, e1, e2, ⟨⟨ho, hPw, hDw⟩, hz, hk⟩, stp⟩ := hR T hT X
    have hv : v = kv1 r1 := by cases ho; rfl
    subst hv
    rw [h0] at hz hk
    have hfree : ∀ q, va_A (W1 u1) H.size q → A q := by
      intro q h
      rcases h with ⟨i, e0, hi⟩ | h
      · exact hD1.2 i (q, e0) hi
      · exact C.2.2.2.2.2.2.1 q (Nat.le_trans hS.1 h)
    have hS' : va_S A s.heap T'.heap (locs ++ L) := ⟨Nat.le_trans hS.1 (by rw [e1]; exact hz), fun q h1 h2 => by
      rw [e1, hk q (Nat.lt_of_lt_of_le h1 hS.1) (fun z => h2 (hfree q z))]
      exact hS.2.1 q h1 h2, fun q hq => by
      rcases List.mem_append.mp hq with h | h
      · exact hS.2.2 q h
      · exact hfree _ (hL q h)⟩
    obtain ⟨t2, a1, b1⟩ := K r1 r hr T'.heap (locs ++ L) ls (by rw [e1]; exact zP.perm (hp2 r1) hPw) (zD.perm (hp2 r1) (hDw.weaken (fun _ q _ h => hfree q.1 h))) hS' hl T' rfl X'
    exact ⟨t2, stp t2 a1, b1⟩
end ZH
