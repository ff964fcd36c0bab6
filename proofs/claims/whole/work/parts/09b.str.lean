/-! the six texts: String.length, String.charAt of a constant -/
section ZS
variable {p : Program} {l : Launch} {e : Env} {k : Nat} {s : State} {m : MethodId} {args : Array Value} {below : List Frame} {meth : Method} {c : Code} {G : zG} {A : Nat → Prop} {nL : Nat} {ρ σ : Type} {W' : σ → va_W} {kv : ρ → Option Value} {kw : ρ → σ} {u : σ} {lv : List (Nat × Value)} {pc : Nat} {st : List Value} {res : Option ρ} {cc : ByteArray} {own : String} {ret : Option FieldType}
theorem y_ldcS (C : zC p s m args meth c own cc nL ret G A) (i : Nat) {idx : Nat} (hi : i < 6) (ho : own = RX5) (hx : zKx.getD i 0 = idx) (hd : decode cc pc = .ok (.ldc idx, 2)) (K : PW p l e k s m args below meth c G A nL W' kv kw u lv (pc + 2) (.ref (G.1.2.1 i) :: st) res) : PW p l e k s m args below meth c G A nL W' kv kw u lv pc st res := by
  subst hx; subst ho
  exact fun r hr H locs ls hP hD hS hl => va_ldcS C.1 C.2.1 C.2.2.2.1 (C.2.2.2.2.2.1.2.2.2.1 i hi) hd (K r hr H locs ls hP hD hS hl)
theorem y_gsCS (C : zC p s m args meth c own cc nL ret G A) {idx : Nat} (ho : own = "java/lang/String") (i : Nat) (hw : tables_1[i]? = some (Cond.fieldLink "java/lang/String" idx "java/lang/String" "COMPACT_STRINGS" "Z")) (hd : decode cc pc = .ok (.getstatic idx, 3)) (K : PW p l e k s m args below meth c G A nL W' kv kw u lv (pc + 3) (.int 1 :: st) res) : PW p l e k s m args below meth c G A nL W' kv kw u lv pc st res := by
  subst ho
  exact fun r hr H locs ls hP hD hS hl => va_gets C.1 C.2.1 C.2.2.2.2.2.1.2.2.2.2.1 hS C.2.2.2.1 (C.2.2.2.2.1 _ (mem_tb i hw rfl)) (fun _ h => h) hd (K r hr H locs ls hP hD hS hl)
theorem y_getC (C : zC p s m args meth c own cc nL ret G A) {idx i : Nat} (hi : i < 6) (ho : own = "java/lang/String") (j : Nat) (hw : tables_1[j]? = some (Cond.fieldLink "java/lang/String" idx "java/lang/String" "coder" "B")) (hd : decode cc pc = .ok (.getfield idx, 3)) (K : PW p l e k s m args below meth c G A nL W' kv kw u lv (pc + 3) (.int 0 :: st) res) : PW p l e k s m args below meth c G A nL W' kv kw u lv pc (.ref (G.1.2.1 i) :: st) res := by
  subst ho
  exact fun r hr H locs ls hP hD hS hl => vk_getf C.1 C.2.1 (C.2.2.2.2.2.1.2.2.1.1 i hi).2.1 hS C.2.2.2.1 (C.2.2.2.2.1 _ (mem_tb j hw rfl)) (fun _ h => h) hd (K r hr H locs ls hP hD hS hl)
theorem y_getV (C : zC p s m args meth c own cc nL ret G A) {idx i : Nat} (hi : i < 6) (ho : own = "java/lang/String") (j : Nat) (hw : tables_1[j]? = some (Cond.fieldLink "java/lang/String" idx "java/lang/String" "value" "[B")) (hd : decode cc pc = .ok (.getfield idx, 3)) (K : PW p l e k s m args below meth c G A nL W' kv kw u lv (pc + 3) (.ref (G.1.2.2 i) :: st) res) : PW p l e k s m args below meth c G A nL W' kv kw u lv pc (.ref (G.1.2.1 i) :: st) res := by
  subst ho
  exact fun r hr H locs ls hP hD hS hl => vk_getf C.1 C.2.1 (C.2.2.2.2.2.1.2.2.1.1 i hi).2.2.1 hS C.2.2.2.1 (C.2.2.2.2.1 _ (mem_tb j hw rfl)) (fun _ h => h) hd (K r hr H locs ls hP hD hS hl)
theorem y_lenV (C : zC p s m args meth c own cc nL ret G A) {i : Nat} (hi : i < 6) (hd : decode cc pc = .ok (.arraylength, 1)) (K : PW p l e k s m args below meth c G A nL W' kv kw u lv (pc + 1) (.int (Int32.ofNat (zLen.getD i 0)) :: st) res) : PW p l e k s m args below meth c G A nL W' kv kw u lv pc (.ref (G.1.2.2 i) :: st) res :=
  fun r hr H locs ls hP hD hS hl => va_tlen C.1 C.2.1 (C.2.2.2.2.2.1.2.2.1.1 i hi).2.2.2 hS rfl hd (K r hr H locs ls hP hD hS hl)
theorem y_baldV (C : zC p s m args meth c own cc nL ret G A) {i : Nat} {j : Int32} (hi : i < 6) (hd : decode cc pc = .ok (.baload, 1)) (K : PW p l e k s m args below meth c G A nL W' kv kw u lv (pc + 1) (.int ((zByt.getD i []).getD j.toNatClampNeg 0) :: st) res) : PW p l e k s m args below meth c G A nL W' kv kw u lv pc (.int j :: .ref (G.1.2.2 i) :: st) (if z_in j (zLen.getD i 0) = true then res else none) := by
  intro r hr H locs ls hP hD hS hl
  by_cases h : z_in j (zLen.getD i 0) = true
  · rw [if_pos h] at hr
    exact va_tb C.1 C.2.1 (C.2.2.2.2.2.1.2.2.1.1 i hi).2.2.2 hS (z_in_iff.mp h) rfl hd (K r hr H locs ls hP hD hS hl)
  · rw [if_neg h] at hr; cases hr
theorem y_gsSI (C : zC p s m args meth c own cc nL ret G A) {idx : Nat} (ho : own = "java/lang/String") (i : Nat) (hw : tables_1[i]? = some (Cond.fieldLink "java/lang/String" idx "jdk/internal/util/Preconditions" "SIOOBE_FORMATTER" "Ljava/util/function/BiFunction;")) (hd : decode cc pc = .ok (.getstatic idx, 3)) (K : ∀ v : Value, v.category = 1 → PW p l e k s m args below meth c G A nL W' kv kw u lv (pc + 3) (v :: st) res) : PW p l e k s m args below meth c G A nL W' kv kw u lv pc st res := by
  subst ho
  intro r hr H locs ls hP hD hS hl
  rcases C.2.2.2.2.2.1.2.2.2.2.2 with h4 | ⟨t, h4⟩
  · exact va_gets C.1 C.2.1 h4 hS C.2.2.2.1 (C.2.2.2.2.1 _ (mem_tb i hw rfl)) (fun _ h => h) hd (K .null rfl r hr H locs ls hP hD hS hl)
  · exact va_gets C.1 C.2.1 h4 hS C.2.2.2.1 (C.2.2.2.2.1 _ (mem_tb i hw rfl)) (fun _ h => h) hd (K (.ref t) rfl r hr H locs ls hP hD hS hl)
theorem y_i2c (C : zC p s m args meth c own cc nL ret G A) {x v : Int32} (hd : decode cc pc = .ok (.i2c, 1)) (hv : (x.toUInt32 % 65536).toInt32 = v) (K : PW p l e k s m args below meth c G A nL W' kv kw u lv (pc + 1) (.int v :: st) res) : PW p l e k s m args below meth c G A nL W' kv kw u lv pc (.int x :: st) res := fun r hr H locs ls hP hD hS hl => lv_i2c C.1 C.2.1 hd hv (K r hr H locs ls hP hD hS hl)
/-- a call on a String constant -/
theorem z_invT (C : zC p s m args meth c own cc nL ret G A) {y : MethodName} {cc1 : ByteArray} {nL1 n : Nat} {ret1 : Option FieldType} {k1 idx i : Nat} {ρ₁ σ₁ : Type} {W1 : σ₁ → va_W} {kv1 : ρ₁ → Option Value} {kw1 : ρ₁ → σ₁} {u1 : σ₁} {res1 : Option ρ₁} (As rest : List Value) (hC : zCt l y cc1 nL1 ret1 k1 G (.ref (G.1.2.1 i) :: As) W1 kv1 kw1 u1 res1) (hM : zMi y cc1 nL1 ret1 n) (hi : Cond.instanceMethod y ∈ zTb) (hs : Cond.selects y.cls y y ∈ zTb) (hL : zLk own idx y) (hi6 : i < 6) (hc : y.cls = "java/lang/String") (hk : k1 + 1 ≤ k) (hn : As.length = n) (hst : st = As.reverse ++ .ref (G.1.2.1 i) :: rest) (hd : decode cc pc = .ok (.invokevirtual idx, 3)) (hcat : (rest.map fun v => v.category).sum ≤ 8) : zRun p l e k s m args below meth c G A nL pc st rest W1 kv1 kw1 u1 res1 := by
  intro r1 hr1 H locs ls hls hP hD hS
  subst hst
  have hcode := C.2.2.2.2.1 _ hM.1
  have hini := C.2.2.2.2.1 _ hM.2.1
  have hE := C.2.2.2.2.2.1
  have hfree : ∀ q, va_A (W1 u1) H.size q → A q := by
    intro q h
    rcases h with ⟨i, e0, hi⟩ | h
    · exact hD.2 i (q, e0) hi
    · exact C.2.2.2.2.2.2.1 q (Nat.le_trans hS.1 h)
  have hW2 : (zRM k1).frames + 1 ≤ (zRM k).frames ∧ 8 + (nL1 + 11) + (zRM k1).locals ≤ (zRM k).locals := ⟨hk, by show 8 + (nL1 + 11) + 64 * k1 ≤ 64 * k; have := hM.2.2.2; omega⟩
  have hpre : PreV s H y.cls (G.1.2.1 i) (va_Pc (.ref (G.1.2.1 i) :: As) (fun U => U.heap.size = H.size ∧ va_P G.1.1 vwCl (W1 u1) U.heap ∧ zE G (va_A (W1 u1) H.size) U ∧ va_D (fun _ => True) (W1 u1))) As := ⟨z_blind, hc ▸ vk_recv hE.2.2.1 hi6 hS, fun U hU hW => ⟨rfl, by rw [hU], by rw [hU]; exact hP, hE.call hS hfree hU hW, hD.weaken (fun _ _ _ _ => trivial)⟩⟩
  refine ⟨(Value.ref (G.1.2.1 i) :: As).toArray, ?_⟩
  rcases hL with hL | ⟨host, hL⟩
  · exact va_runV (C := y.cls) (n := n) ⟨C.1, C.2.1, C.2.2.1, C.2.2.2.1, C.2.2.2.2.1⟩ (hC r1 hr1 H.size) ⟨callB_of n C.2.2.2.2.1 (zTb_good hM.1) rfl rfl rfl hini (C.2.2.2.2.1 _ hL) hM.2.2.1 hW2, C.2.2.2.2.1 _ hi, C.2.2.2.2.1 _ hs⟩ hpre rfl hn hls rfl (lv_room hcat) hd ⟨Nat.le_refl _, Nat.le_refl _⟩
  · exact va_runVN (C := y.cls) (n := n) ⟨C.1, C.2.1, C.2.2.1, C.2.2.2.1, C.2.2.2.2.1⟩ (hC r1 hr1 H.size) ⟨va_cnB n C.2.2.2.2.1 (zTb_good hM.1) rfl rfl rfl (hE.2.1 _ hL) hini hM.2.2.1 hW2, C.2.2.2.2.1 _ hi, C.2.2.2.2.1 _ hs⟩ hpre rfl hn hls rfl (lv_room hcat) hd ⟨Nat.le_refl _, Nat.le_refl _⟩
end ZS
