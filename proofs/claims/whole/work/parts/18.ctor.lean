/-! constructors: a walk that makes cells; new cells stand in front -/
def zRC (k mc ms : Nat) : Room := { frames := k, cells := mc, slots := ms, locals := 64 * k }
def zQC (G : zG) (A : Nat → Prop) (F : va_W → Prop) : Array Value → State → Outcome → State → Prop := fun _ st o t => (o = .returned none ∧ ∃ w, F w ∧ va_P G.1.1 vwCl w t.heap ∧ va_D A w) ∧ va_F A st t
def PC (p : Program) (l : Launch) (e : Env) (k mc ms : Nat) (s : State) (m : MethodId) (args : Array Value) (below : List Frame) (meth : Method) (c : Code) (G : zG) (A : Nat → Prop) (nL : Nat) (F : va_W → Prop) (cells slots : Nat) (ws : va_W) (lv : List (Nat × Value)) (pc : Nat) (st : List Value) : Prop :=
  ∀ (H : Heap) (locs : List Loc) (ls : Array Slot), va_P G.1.1 vwCl ws H → va_D A ws → va_S A s.heap H locs → lv_has ls nL lv → W p l e (zRC k mc ms) s m args below meth c H locs cells slots (MQ below (zQC G A F) args s mc ms A) (F0 m pc ls st)
def zCC (l : Launch) (y : MethodName) (cc : ByteArray) (nL k mc ms : Nat) (G : zG) (av : List Value) (Ex : State → Prop) (ws : va_W) (F : va_W → Prop) : Prop :=
  ∀ sz : Nat, Met l y (.code y cc nL none :: zTb) (zRC k mc ms) (va_Pc av (fun U => U.heap.size = sz ∧ va_P G.1.1 vwCl ws U.heap ∧ zE G (va_A ws sz) U ∧ va_D (fun _ => True) ws ∧ Ex U)) (zQC G (va_A ws sz) F) mc ms (va_A ws sz)
theorem zCC.of {l : Launch} {y : MethodName} {cc : ByteArray} {nL k mc ms : Nat} {G : zG} {av : List Value} {Ex : State → Prop} {ws : va_W} {F : va_W → Prop} (hy : plainName y.cls = true) (hyi : y.name = "<init>") (hn : (lg_sl av).length ≤ nL)
    (h : ∀ (p : Program) (e : Env) (s : State) (m : MethodId) (args : Array Value) (below : List Frame) (meth : Method) (c : Code) (A : Nat → Prop), zC p s m args meth c y.cls cc nL none G A → meth.name = "<init>" → Ex s → PC p l e k mc ms s m args below meth c G A nL F 0 0 ws (lv_args 0 av) 0 []) : zCC l y cc nL k mc ms G av Ex ws F := by
  intro sz
  refine Met.ofW (cc := cc) (maxL := nL) (ret := none) hy rfl ?_
  intro p e s m args below meth c s₁ B hml hv
  obtain ⟨rfl, hsz, hP, hE, hD0, hEx⟩ := hv
  have hts : ∀ w ∈ zTb, w.before av.toArray s = true := fun w hw => atoms_spec (ws := .code y cc nL none :: zTb) B.pre w (List.mem_cons_of_mem _ hw)
  have hown : s.vm.findClass y.cls = some m.cls := findClass_of_methodNamed B.named
  have hin : meth.name = "<init>" := hyi ▸ (name_of_methodNamed B.named B.method).1
  subst hsz
  have hD := hD0.self (sz := s.heap.size)
  rw [lg_entry_eq]
  have hl := lv_entry av (n := nL) hn
  exact h p e s m av.toArray below meth c (va_A ws s.heap.size) ⟨B.exec, B.bytes, hml, hown, hts, hE, fun q h => Or.inr h, B.notSynchronized, B.returns⟩ hin hEx s.heap [] _ hP hD va_S.rf hl
/-- final fields -/
def zFF (ci f : Nat) (ty : FieldType) : Prop := ∃ (C : String) (T : u_T) (N : Nat), vwCl[ci]? = some (C, T, N) ∧ (T f).2.2.2 = true ∧ (T f).1 = C ∧ parseFieldDescriptor (T f).2.2.1 = some ty
def zNw (ci N : Nat) (C : String) (fs : List Value) : Prop := ∃ (T : u_T) (ty : Nat → FieldType), vwCl[ci]? = some (C, T, N) ∧ (∀ w ∈ u_ws C T N, w ∈ zTb) ∧ (∀ k, k < N → parseFieldDescriptor (T k).2.2.1 = some (ty k)) ∧ (∀ j, j < N → defaultValue (ty j) = vp_V fs j) ∧ Cond.instantiable C N ∈ zTb ∧ Cond.initialized C ∈ zTb
theorem zD.front {A : Nat → Prop} {w : va_W} {x : Nat × va_E} (h : va_D A (w ++ [x])) : va_D A (x :: w) := zD.perm List.perm_append_comm h
theorem zP.front {D : va_G} {cl : List vw_C} {w : va_W} {x : Nat × va_E} {H : Heap} (h : va_P D cl (w ++ [x]) H) : va_P D cl (x :: w) H := zP.perm List.perm_append_comm h
section ZCR
variable {p : Program} {l : Launch} {e : Env} {k mc ms : Nat} {s : State} {m : MethodId} {args : Array Value} {below : List Frame} {meth : Method} {c : Code} {G : zG} {A : Nat → Prop} {nL : Nat} {F : va_W → Prop} {cells slots : Nat} {ws ws' : va_W} {lv : List (Nat × Value)} {pc : Nat} {st : List Value} {cc : ByteArray} {own : String}
theorem c_perm (h : ws.Perm ws') (K : PC p l e k mc ms s m args below meth c G A nL F cells slots ws' lv pc st) : PC p l e k mc ms s m args below meth c G A nL F cells slots ws lv pc st := fun H locs ls hP hD hS hl => K H locs ls (zP.perm h hP) (zD.perm h hD) hS hl
theorem c_lv {lv' : List (Nat × Value)} (h : lv = lv') (K : PC p l e k mc ms s m args below meth c G A nL F cells slots ws lv' pc st) : PC p l e k mc ms s m args below meth c G A nL F cells slots ws lv pc st := h ▸ K
theorem c_aload_n (C : zC p s m args meth c own cc nL none G A) {i : Fin 4} {x : Nat} (j : Nat) (hd : decode cc pc = .ok (.aload_n i, 1)) (h : lv[j]? = some ((i : Nat), .ref x)) (K : PC p l e k mc ms s m args below meth c G A nL F cells slots ws lv (pc + 1) (.ref x :: st)) : PC p l e k mc ms s m args below meth c G A nL F cells slots ws lv pc st := fun H locs ls hP hD hS hl => lv_aload_n C.1 C.2.1 hd rfl (lv_at hl j h) (K H locs ls hP hD hS hl)
theorem c_iload_n (C : zC p s m args meth c own cc nL none G A) {i : Fin 4} {x : Int32} (j : Nat) (hd : decode cc pc = .ok (.iload_n i, 1)) (h : lv[j]? = some ((i : Nat), .int x)) (K : PC p l e k mc ms s m args below meth c G A nL F cells slots ws lv (pc + 1) (.int x :: st)) : PC p l e k mc ms s m args below meth c G A nL F cells slots ws lv pc st := fun H locs ls hP hD hS hl => lv_iload_n C.1 C.2.1 hd rfl (lv_at hl j h) (K H locs ls hP hD hS hl)
theorem c_istore_n (C : zC p s m args meth c own cc nL none G A) {i : Fin 4} {x : Int32} (lv' : List (Nat × Value)) (hd : decode cc pc = .ok (.istore_n i, 1)) (hn : (i : Nat) < nL) (hl' : ((i : Nat), Value.int x) :: lv.filter (fun q => !(q.1 == (i : Nat)) && !(q.1 + 1 == (i : Nat) && q.2.category == 2)) = lv') (K : PC p l e k mc ms s m args below meth c G A nL F cells slots ws lv' (pc + 1) st) : PC p l e k mc ms s m args below meth c G A nL F cells slots ws lv pc (.int x :: st) := fun H locs ls hP hD hS hl => lv_istore_n C.1 C.2.1 hd rfl hl hn hl' (fun ls hl => K H locs ls hP hD hS hl)
theorem c_iinc (C : zC p s m args meth c own cc nL none G A) {i : Nat} {n : Int} {x v : Int32} (j : Nat) (lv' : List (Nat × Value)) (hd : decode cc pc = .ok (.iinc i n, 3)) (hk : lv[j]? = some (i, .int x)) (hv : x + Int32.ofInt n = v) (hn : i < nL) (hl' : (i, Value.int v) :: lv.filter (fun q => !(q.1 == i) && !(q.1 + 1 == i && q.2.category == 2)) = lv') (K : PC p l e k mc ms s m args below meth c G A nL F cells slots ws lv' (pc + 3) st) : PC p l e k mc ms s m args below meth c G A nL F cells slots ws lv pc st := fun H locs ls hP hD hS hl => lv_iinc C.1 C.2.1 hd hl hk hv hn hl' (fun ls hl => K H locs ls hP hD hS hl)
theorem c_goto (C : zC p s m args meth c own cc nL none G A) {off : Int} (tgt : Nat) (hd : decode cc pc = .ok (.goto off, 3)) (ht : (pc : Int) + off = (tgt : Int)) (K : PC p l e k mc ms s m args below meth c G A nL F cells slots ws lv tgt st) : PC p l e k mc ms s m args below meth c G A nL F cells slots ws lv pc st := fun H locs ls hP hD hS hl => lv_goto C.1 C.2.1 hd ht (K H locs ls hP hD hS hl)
theorem c_icmpgeT (C : zC p s m args meth c own cc nL none G A) {x y : Int32} {off : Int} (tgt : Nat) (hd : decode cc pc = .ok (.if_icmp .ge off, 3)) (ht : (pc : Int) + off = (tgt : Int)) (h : y ≤ x) (K : PC p l e k mc ms s m args below meth c G A nL F cells slots ws lv tgt st) : PC p l e k mc ms s m args below meth c G A nL F cells slots ws lv pc (.int y :: .int x :: st) := fun H locs ls hP hD hS hl => lv_icmp_ge C.1 C.2.1 hd ht (fun _ => K H locs ls hP hD hS hl) (fun q => absurd h q)
theorem c_icmpgeF (C : zC p s m args meth c own cc nL none G A) {x y : Int32} {off : Int} (tgt : Nat) (hd : decode cc pc = .ok (.if_icmp .ge off, 3)) (ht : (pc : Int) + off = (tgt : Int)) (h : ¬ y ≤ x) (K : PC p l e k mc ms s m args below meth c G A nL F cells slots ws lv (pc + 3) st) : PC p l e k mc ms s m args below meth c G A nL F cells slots ws lv pc (.int y :: .int x :: st) := fun H locs ls hP hD hS hl => lv_icmp_ge C.1 C.2.1 hd ht (fun q => absurd q h) (fun _ => K H locs ls hP hD hS hl)
theorem c_iconst (C : zC p s m args meth c own cc nL none G A) {n : Int} {v : Int32} (hd : decode cc pc = .ok (.iconst n, 1)) (hv : Int32.ofInt n = v) (K : PC p l e k mc ms s m args below meth c G A nL F cells slots ws lv (pc + 1) (.int v :: st)) : PC p l e k mc ms s m args below meth c G A nL F cells slots ws lv pc st := fun H locs ls hP hD hS hl => lv_iconst C.1 C.2.1 hd hv (K H locs ls hP hD hS hl)
theorem c_bipush (C : zC p s m args meth c own cc nL none G A) {n : Int} {v : Int32} (hd : decode cc pc = .ok (.bipush n, 2)) (hv : (Int8.ofInt n).toInt32 = v) (K : PC p l e k mc ms s m args below meth c G A nL F cells slots ws lv (pc + 2) (.int v :: st)) : PC p l e k mc ms s m args below meth c G A nL F cells slots ws lv pc st := fun H locs ls hP hD hS hl => lv_bipush C.1 C.2.1 hd hv (K H locs ls hP hD hS hl)
theorem c_sipush (C : zC p s m args meth c own cc nL none G A) {n : Int} {v : Int32} (hd : decode cc pc = .ok (.sipush n, 3)) (hv : (Int16.ofInt n).toInt32 = v) (K : PC p l e k mc ms s m args below meth c G A nL F cells slots ws lv (pc + 3) (.int v :: st)) : PC p l e k mc ms s m args below meth c G A nL F cells slots ws lv pc st := fun H locs ls hP hD hS hl => lv_sipush C.1 C.2.1 hd hv (K H locs ls hP hD hS hl)
theorem c_dup (C : zC p s m args meth c own cc nL none G A) {va : Value} (hd : decode cc pc = .ok (.dup, 1)) (h1 : va.category = 1) (K : PC p l e k mc ms s m args below meth c G A nL F cells slots ws lv (pc + 1) (va :: va :: st)) : PC p l e k mc ms s m args below meth c G A nL F cells slots ws lv pc (va :: st) := fun H locs ls hP hD hS hl => lv_dup C.1 C.2.1 hd h1 (K H locs ls hP hD hS hl)
theorem c_get (C : zC p s m args meth c own cc nL none G A) {idx ci f : Nat} {a : Nat} {fs : List Value} {v : Value} (hf : zFL own idx ci f) (he : zHas ws a (.inr (ci, fs))) (hv : fs[f]? = some v) (hd : decode cc pc = .ok (.getfield idx, 3)) (K : PC p l e k mc ms s m args below meth c G A nL F cells slots ws lv (pc + 3) (v :: st)) : PC p l e k mc ms s m args below meth c G A nL F cells slots ws lv pc (.ref a :: st) := by
  intro H locs ls hP hD hS hl
  obtain ⟨CC, T, N, ty0, h1, h2, h3, -, -, h6⟩ := hf
  obtain ⟨q0, he⟩ := he
  rcases h6 with h6 | ⟨host, h6⟩
  · exact va_get C.1 C.2.1 C.2.2.2.2.1 h3 C.2.2.2.1 C.2.2.2.2.2.1.1 hP q0 he h1 f h2 (C.2.2.2.2.1 _ h6) (fun _ h => h) hv hd (K H locs ls hP hD hS hl)
  · exact va_getN C.1 C.2.1 C.2.2.2.2.1 h3 C.2.2.2.1 C.2.2.2.2.2.1.1 hP q0 he h1 f h2 (zNest_use h6 C.2.2.2.2.2.1.2.1) (fun _ h => h) hv hd (K H locs ls hP hD hS hl)
theorem c_alen (C : zC p s m args meth c own cc nL none G A) {a t0 : Nat} {x : vp_A} {ty : FieldType} {v : Int32} (he : zHas ws a (.inl (G.2 t0, x))) (ht : (zT G.2)[t0]? = some (G.2 t0, ty)) (hv : Int32.ofNat x.1 = v) (hd : decode cc pc = .ok (.arraylength, 1)) (K : PC p l e k mc ms s m args below meth c G A nL F cells slots ws lv (pc + 1) (.int v :: st)) : PC p l e k mc ms s m args below meth c G A nL F cells slots ws lv pc (.ref a :: st) := by
  intro H locs ls hP hD hS hl
  obtain ⟨q0, he⟩ := he
  exact va_alen C.1 C.2.1 C.2.2.2.2.2.1.1 hP q0 t0 he ht hv hd (K H locs ls hP hD hS hl)
theorem c_put (C : zC p s m args meth c own cc nL none G A) {idx ci f : Nat} {a : Nat} {fs : List Value} {v : Value} {ty : FieldType} (hf : zFL own idx ci f) (ht : zFT ci f ty) (he : zUpd ws a (.inr (ci, fs)) (.inr (ci, fs.set f v)) ws') (hn : narrow ty v = v) (hfit : fits ty v = true) (hlen : f < fs.length) (hd : decode cc pc = .ok (.putfield idx, 3)) (K : PC p l e k mc ms s m args below meth c G A nL F cells slots ws' lv (pc + 3) st) : PC p l e k mc ms s m args below meth c G A nL F cells slots ws lv pc (v :: .ref a :: st) := by
  intro H locs ls hP hD hS hl
  obtain ⟨CC, T, N, ty0, h1, h2, h3, h4, h5, h6⟩ := hf
  obtain ⟨C', T', N', g1, g2, g3⟩ := ht
  obtain ⟨w, q0, p1, he, p2⟩ := he
  have e1 : (CC, T, N) = (C', T', N') := Option.some.inj (h1.symm.trans g1)
  cases e1
  rcases h6 with h6 | ⟨host, h6⟩
  · exact va_put C.1 C.2.1 C.2.2.2.2.1 h3 ty0 h4 h5 C.2.2.2.1 C.2.2.2.2.2.1.1 (zP.perm p1 hP) (zD.perm p1 hD) hS q0 he h1 f h2 (C.2.2.2.2.1 _ h6) (fun _ h => h) g2 g3 hn hfit hlen hd (fun H1 locs1 hP2 hD2 hS2 => K H1 locs1 ls (zP.perm p2 hP2) (zD.perm p2 hD2) hS2 hl)
  · exact va_putN C.1 C.2.1 C.2.2.2.2.1 h3 ty0 h4 h5 C.2.2.2.1 C.2.2.2.2.2.1.1 (zP.perm p1 hP) (zD.perm p1 hD) hS q0 he h1 f h2 (zNest_use h6 C.2.2.2.2.2.1.2.1) (fun _ h => h) g2 g3 hn hfit hlen hd (fun H1 locs1 hP2 hD2 hS2 => K H1 locs1 ls (zP.perm p2 hP2) (zD.perm p2 hD2) hS2 hl)
theorem c_putF (C : zC p s m args meth c own cc nL none G A) (hi : meth.name = "<init>") {idx ci f : Nat} {a : Nat} {fs : List Value} {v : Value} {ty : FieldType} (hf : zFL own idx ci f) (ht : zFF ci f ty) (ho : ∃ q, vwCl[ci]? = some q ∧ q.1 = own ∧ Cond.fieldLink own idx (q.2.1 f).1 (q.2.1 f).2.1 (q.2.1 f).2.2.1 ∈ zTb) (he : zUpd ws a (.inr (ci, fs)) (.inr (ci, fs.set f v)) ws') (hn : narrow ty v = v) (hfit : fits ty v = true) (hlen : f < fs.length) (hd : decode cc pc = .ok (.putfield idx, 3)) (K : PC p l e k mc ms s m args below meth c G A nL F cells slots ws' lv (pc + 3) st) : PC p l e k mc ms s m args below meth c G A nL F cells slots ws lv pc (v :: .ref a :: st) := by
  intro H locs ls hP hD hS hl
  obtain ⟨CC, T, N, ty0, h1, h2, h3, h4, h5, h6⟩ := hf
  obtain ⟨C', T', N', g1, g2, g4, g3⟩ := ht
  obtain ⟨q, o1, o2, h6⟩ := ho
  obtain ⟨w, q0, p1, he, p2⟩ := he
  have e1 : (CC, T, N) = (C', T', N') := Option.some.inj (h1.symm.trans g1)
  cases e1
  have e2 : (CC, T, N) = q := Option.some.inj (h1.symm.trans o1)
  cases e2
  have o2 : CC = own := o2
  exact va_putF C.1 C.2.1 C.2.2.2.2.1 h3 ty0 h4 h5 C.2.2.2.1 C.2.2.2.2.2.1.1 (zP.perm p1 hP) (zD.perm p1 hD) hS q0 he h1 f h2 (C.2.2.2.2.1 _ h6) (fun _ h => h) g2 hi (g4.trans o2) g3 hn hfit hlen hd (fun H1 locs1 hP2 hD2 hS2 => K H1 locs1 ls (zP.perm p2 hP2) (zD.perm p2 hD2) hS2 hl)
/-- a new object, a new row -/
theorem c_new (C : zC p s m args meth c own cc nL none G A) {idx ci N : Nat} {CC : String} {fs : List Value} (hw : zNw ci N CC fs) (hcl : Cond.classLink own idx CC ∈ zTb) (h1 : cells + 1 ≤ mc) (h2 : slots + N ≤ ms) (hd : decode cc pc = .ok (.new idx, 3)) (K : ∀ q, PC p l e k mc ms s m args below meth c G A nL F (cells + 1) (slots + N) ((q, .inr (ci, fs)) :: ws) lv (pc + 3) (.ref q :: st)) : PC p l e k mc ms s m args below meth c G A nL F cells slots ws lv pc st := by
  intro H locs ls hP hD hS hl
  obtain ⟨T, ty, g1, g2, g3, g4, g5, g6⟩ := hw
  exact va_new C.1 C.2.1 C.2.2.2.2.1 g2 ty g3 C.2.2.2.1 (C.2.2.2.2.1 _ hcl) (C.2.2.2.2.1 _ g5) (C.2.2.2.2.1 _ g6) C.2.2.2.2.2.1.1 hP hD hS C.2.2.2.2.2.2.1 g1 g4 h1 h2 hd (fun q H1 hP2 hD2 hS2 => K q H1 locs ls (zP.front hP2) (zD.front hD2) hS2 hl)
theorem zT_prim {G : zG} {s : State} {i : Nat} {ty : FieldType} {cA : ClassId} (hK : va_K G.1.1 vwCl (zT G.2) s) (hi : (zT G.2)[i]? = some (G.2 i, ty)) (hp : ∀ C, ty ≠ .object C) (h : s.vm.findClass ("[" ++ ty.toString) = some cA) : cA = G.2 i := by
  have h1 := (hK.2 i _ hi).2
  cases ty <;> first | exact absurd rfl (hp _) | exact Option.some.inj (h.symm.trans h1)
theorem c_newa (C : zC p s m args meth c own cc nL none G A) (i : Nat) {atype : ArrayType} {ty : FieldType} {n : Int32} {N : Nat} {a0 : vp_A} (harr : Cond.arrayClass (newarray.typeOf atype) ∈ zTb) (hty : newarray.typeOf atype = ty) (hi : (zT G.2)[i]? = some (G.2 i, ty)) (hp : ∀ C, ty ≠ .object C) (ha : ∀ cA : ClassId, vp_cell cA a0 = arrV cA N (fun _ => defaultValue ty)) (hn : ¬ n < 0) (hN : n.toNatClampNeg = N) (hb : N * componentBytes ty ≤ 536870912) (h1 : cells + 1 ≤ mc) (h2 : slots + N ≤ ms) (hd : decode cc pc = .ok (.newarray atype, 2)) (K : ∀ q, PC p l e k mc ms s m args below meth c G A nL F (cells + 1) (slots + N) ((q, .inl (G.2 i, a0)) :: ws) lv (pc + 2) (.ref q :: st)) : PC p l e k mc ms s m args below meth c G A nL F cells slots ws lv pc (.int n :: st) := by
  intro H locs ls hP hD hS hl
  refine va_newa C.1 C.2.1 (C.2.2.2.2.1 _ harr) hty C.2.2.2.2.2.1.1 hP hD hS C.2.2.2.2.2.2.1 ha hn hN hb h1 h2 hd (fun q cA H1 hK1 hP2 hD2 hS2 => ?_)
  have h3 := (hK1.2 6 (cA, ty) rfl).2
  have h4 : s.vm.findClass ("[" ++ ty.toString) = some cA := by cases ty <;> first | exact absurd rfl (hp _) | exact h3
  have h5 := zT_prim C.2.2.2.2.2.1.1 hi hp h4
  subst h5
  exact K q H1 locs ls (zP.front hP2) (zD.front hD2) hS2 hl
theorem c_newq (C : zC p s m args meth c own cc nL none G A) (i : Nat) {idx : Nat} {CC : String} {n : Int32} {N : Nat} (hcl : Cond.classLink own idx CC ∈ zTb) (hov : va_AO CC s) (hi : (zT G.2)[i]? = some (G.2 i, .object CC)) (hn : ¬ n < 0) (hN : n.toNatClampNeg = N) (hb : N * 4 ≤ 536870912) (h1 : cells + 1 ≤ mc) (h2 : slots + N ≤ ms) (hd : decode cc pc = .ok (.anewarray idx, 3)) (K : ∀ q, PC p l e k mc ms s m args below meth c G A nL F (cells + 1) (slots + N) ((q, .inl (G.2 i, N, .inr (.inr (.inr (.inr (fun _ => none)))))) :: ws) lv (pc + 3) (.ref q :: st)) : PC p l e k mc ms s m args below meth c G A nL F cells slots ws lv pc (.int n :: st) := by
  intro H locs ls hP hD hS hl
  refine va_newq C.1 C.2.1 C.2.2.2.1 (C.2.2.2.2.1 _ hcl) hov C.2.2.2.2.2.1.1 hP hD hS C.2.2.2.2.2.2.1 hn hN hb h1 h2 hd (fun q cA H1 hK1 hP2 hD2 hS2 => ?_)
  obtain ⟨kA, comp, -, -, -, h4⟩ := (hK1.2 6 (cA, .object CC) rfl).2
  obtain ⟨kB, comp2, -, -, -, h5⟩ := (C.2.2.2.2.2.1.1.2 i _ hi).2
  have h6 : cA = G.2 i := Option.some.inj (h4.symm.trans h5)
  subst h6
  exact K q H1 locs ls (zP.front hP2) (zD.front hD2) hS2 hl
theorem c_astq (C : zC p s m args meth c own cc nL none G A) (t0 : Nat) {a v ci n : Nat} {r : vw_C} {vs : List Value} {f : Nat → Option Nat} {i : Int32} (he : zUpd ws a (.inl (G.2 t0, n, .inr (.inr (.inr (.inr f))))) (.inl (G.2 t0, n, .inr (.inr (.inr (.inr (va_up f i.toNatClampNeg (some v))))))) ws') (hv : zHas ws v (.inr (ci, vs))) (hc : vwCl[ci]? = some r) (ht : (zT G.2)[t0]? = some (G.2 t0, .object r.1)) (hin : vp_in i n) (hd : decode cc pc = .ok (.aastore, 1)) (K : PC p l e k mc ms s m args below meth c G A nL F cells slots ws' lv (pc + 1) st) : PC p l e k mc ms s m args below meth c G A nL F cells slots ws lv pc (.ref v :: .int i :: .ref a :: st) := by
  intro H locs ls hP hD hS hl
  obtain ⟨w, q0, p1, he, p2⟩ := he
  obtain ⟨qk, hv⟩ := hv.perm p1.symm
  exact va_astq C.1 C.2.1 C.2.2.2.2.2.1.1 (zP.perm p1 hP) (zD.perm p1 hD) hS q0 t0 qk ci he ht hv hc hin hd (fun H1 locs1 hP2 hD2 hS2 => K H1 locs1 ls (zP.perm p2 hP2) (zD.perm p2 hD2) hS2 hl)
theorem c_iast (C : zC p s m args meth c own cc nL none G A) {a n : Nat} {f : Nat → Int32} {i x : Int32} (he : zUpd ws a (.inl (G.2 1, n, .inl f)) (.inl (G.2 1, n, .inl (upd f i.toNatClampNeg x))) ws') (hin : vp_in i n) (hd : decode cc pc = .ok (.iastore, 1)) (K : PC p l e k mc ms s m args below meth c G A nL F cells slots ws' lv (pc + 1) st) : PC p l e k mc ms s m args below meth c G A nL F cells slots ws lv pc (.int x :: .int i :: .ref a :: st) := by
  intro H locs ls hP hD hS hl
  obtain ⟨w, q0, p1, he, p2⟩ := he
  exact va_iast C.1 C.2.1 C.2.2.2.2.2.1.1 (zP.perm p1 hP) (zD.perm p1 hD) hS q0 1 he rfl hin hd (fun H1 locs1 hP2 hD2 hS2 => K H1 locs1 ls (zP.perm p2 hP2) (zD.perm p2 hD2) hS2 hl)
theorem mem_obj : Cond.instanceMethod objectInit ∈ zTb ∧ Cond.code objectInit ⟨#[0xb1]⟩ 1 none ∈ zTb := by decide +kernel
theorem c_obj (C : zC p s m args meth c own cc nL none G A) {idx a : Nat} (i : Nat) (hl' : tables_1[i]? = some (Cond.methodLink own idx objectInit)) (hk : 1 ≤ k) (hcat : (st.map fun v => v.category).sum ≤ 8) (hd : decode cc pc = .ok (.invokespecial idx, 3)) (K : PC p l e k mc ms s m args below meth c G A nL F cells slots ws lv (pc + 3) st) : PC p l e k mc ms s m args below meth c G A nL F cells slots ws lv pc (.ref a :: st) := fun H locs ls hP hD hS hl =>
  W.objInit C.1 C.2.1 C.2.2.2.1 (C.2.2.2.2.1 _ (mem_tb i hl' rfl)) (C.2.2.2.2.1 _ mem_obj.1) (C.2.2.2.2.1 _ mem_obj.2) rfl (by show ls.size = c.maxLocals; rw [C.2.2.1]; exact hl.1) rfl hd hk (by show 2 * 0 + _ + 12 ≤ 64 * k; omega) (W.eq (g2 := F0 m (pc + 3) ls st) rfl (K H locs ls hP hD hS hl))
theorem c_ret (C : zC p s m args meth c own cc nL none G A) (h1 : cells ≤ mc) (h2 : slots ≤ ms) (hd : decode cc pc = .ok (.return_, 1)) (hF : ∃ w, ws.Perm w ∧ F w) : PC p l e k mc ms s m args below meth c G A nL F cells slots ws lv pc [] := by
  intro H locs ls hP hD hS hl
  obtain ⟨w, hw, hF⟩ := hF
  refine W.widen (k := mc) (n := ms) h1 h2 ?_
  exact W.vret C.1 C.2.1 C.2.2.2.2.2.2.2.2 (fun t ht hW => ⟨⟨rfl, w, hF, by rw [ht]; exact zP.perm hw hP, zD.perm hw hD⟩, hS.F ht⟩) hS.2.2 hd C.2.2.2.2.2.2.2.1
/-- a constructor is called -/
theorem c_init (C : zC p s m args meth c own cc nL none G A) {y : MethodName} {cc1 : ByteArray} {nL1 n k1 mc1 ms1 idx : Nat} {b : Addr} {Ex : State → Prop} {ws1 : va_W} {F1 : va_W → Prop} (As rest : List Value) (hC : zCC l y cc1 nL1 k1 mc1 ms1 G (.ref b :: As) Ex ws1 F1) (hEx : ∀ U : State, U.heap.size = U.heap.size → s.WarmedH U.vm → Ex U) (hbl : ∀ (U : State) (g : JFrame) (mk : MethodId) (a : Array Value), Ex U → Ex (U.calling g mk a)) (hM : zMi y cc1 nL1 none n) (hy1 : y.name = "<init>") (hi : Cond.instanceMethod y ∈ zTb) (hL : zLk own idx y) (hk : k1 + 1 ≤ k) (h1 : cells + mc1 ≤ mc) (h2 : slots + ms1 ≤ ms) (hn : As.length = n) (hst : st = As.reverse ++ .ref b :: rest) (hd : decode cc pc = .ok (.invokespecial idx, 3)) (hcat : (rest.map fun v => v.category).sum ≤ 8) (hp : ws.Perm ws1) (K : ∀ w, F1 w → PC p l e k mc ms s m args below meth c G A nL F (cells + mc1) (slots + ms1) w lv (pc + 3) rest) : PC p l e k mc ms s m args below meth c G A nL F cells slots ws lv pc st := by
  intro H locs ls hP hD hS hl
  subst hst
  have hP1 := zP.perm hp hP
  have hD1 := zD.perm hp hD
  have hini := C.2.2.2.2.1 _ hM.2.1
  have hE := C.2.2.2.2.2.1
  have hfree : ∀ q, va_A ws1 H.size q → A q := by
    intro q h
    rcases h with ⟨i, e0, hi⟩ | h
    · exact hD1.2 i (q, e0) hi
    · exact C.2.2.2.2.2.2.1 q (Nat.le_trans hS.1 h)
  have hW2 : (zRC k1 mc1 ms1).frames + 1 ≤ (zRC k mc ms).frames ∧ 8 + (nL1 + 11) + (zRC k1 mc1 ms1).locals ≤ (zRC k mc ms).locals := ⟨hk, by show 8 + (nL1 + 11) + 64 * k1 ≤ 64 * k; have := hM.2.2.2; omega⟩
  have hpre : PreS s H (va_Pc (.ref b :: As) (fun U => U.heap.size = H.size ∧ va_P G.1.1 vwCl ws1 U.heap ∧ zE G (va_A ws1 H.size) U ∧ va_D (fun _ => True) ws1 ∧ Ex U)) (.ref b :: As) := ⟨fun _ U g mk h => ⟨h.1, h.2.1, h.2.2.1, h.2.2.2.1.blind, h.2.2.2.2.1, hbl U g mk _ h.2.2.2.2.2⟩, fun U hU hW => ⟨rfl, by rw [hU], by rw [hU]; exact hP1, hE.call hS hfree hU hW, hD1.weaken (fun _ _ _ _ => trivial), hEx U rfl hW⟩⟩
  have hR : va_Run p l e (zRC k mc ms) s m args below meth c H locs cells slots mc1 ms1 (F0 m pc ls (As.reverse ++ .ref b :: rest)) rest (zQC G (va_A ws1 H.size) F1 (Value.ref b :: As).toArray) (va_A ws1 H.size) := by
    rcases hL with hL | ⟨host, hL⟩
    · exact va_runI (n := n) ⟨C.1, C.2.1, C.2.2.1, C.2.2.2.1, C.2.2.2.2.1⟩ (hC H.size) ⟨callB_of n C.2.2.2.2.1 (zTb_good hM.1) rfl rfl rfl hini (C.2.2.2.2.1 _ hL) hM.2.2.1 hW2, hy1, C.2.2.2.2.1 _ hi⟩ hpre rfl hn hl.1 rfl (lv_room hcat) hd ⟨h1, h2⟩
    · exact va_runIN (n := n) ⟨C.1, C.2.1, C.2.2.1, C.2.2.2.1, C.2.2.2.2.1⟩ (hC H.size) ⟨va_cnB n C.2.2.2.2.1 (zTb_good hM.1) rfl rfl rfl (hE.2.1 _ hL) hini hM.2.2.1 hW2, hy1, C.2.2.2.2.1 _ hi⟩ hpre rfl hn hl.1 rfl (lv_room hcat) hd ⟨h1, h2⟩
  intro T hT X
  obtain ⟨v, st₀, t, T', L, h0, X', hL', e1, e2, ⟨⟨ho, w, hF1, hPw, hDw⟩, hz, hkk⟩, stp⟩ := hR T hT X
  have hv : v = none := by cases ho; rfl
  subst hv
  rw [h0] at hz hkk
  have hS' : va_S A s.heap T'.heap (locs ++ L) := ⟨Nat.le_trans hS.1 (by rw [e1]; exact hz), fun q h1 h2 => by
    rw [e1, hkk q (Nat.lt_of_lt_of_le h1 hS.1) (fun z => h2 (hfree q z))]
    exact hS.2.1 q h1 h2, fun q hq => by
    rcases List.mem_append.mp hq with h | h
    · exact hS.2.2 q h
    · exact hfree _ (hL' q h)⟩
  obtain ⟨t2, a1, b1⟩ := K w hF1 T'.heap (locs ++ L) ls (by rw [e1]; exact hPw) (hDw.weaken (fun _ q _ h => hfree q.1 h)) hS' hl T' rfl X'
  exact ⟨t2, stp t2 a1, b1⟩
end ZCR
theorem arrV_ext {cI : ClassId} {N : Nat} {f g : Nat → Value} (h : ∀ j, j < N → f j = g j) : arrV cI N f = arrV cI N g := by
  unfold arrV
  have e : (fun j : Fin N => f j.val) = fun j : Fin N => g j.val := funext fun j => h j.val j.isLt
  rw [e]
section ZC3
variable {p : Program} {l : Launch} {e : Env} {k mc ms : Nat} {s : State} {m : MethodId} {args : Array Value} {below : List Frame} {meth : Method} {c : Code} {G : zG} {A : Nat → Prop} {nL : Nat} {F : va_W → Prop} {cells slots : Nat} {ws ws' : va_W} {lv : List (Nat × Value)} {pc : Nat} {st : List Value} {cc : ByteArray} {own : String}
/-- a row of references is told by another function, alike within the row -/
theorem c_same {a n : Nat} {cA : ClassId} {f g : Nat → Option Nat} (he : zUpd ws a (.inl (cA, n, .inr (.inr (.inr (.inr f))))) (.inl (cA, n, .inr (.inr (.inr (.inr g))))) ws') (hx : ∀ j, j < n → f j = g j) (K : PC p l e k mc ms s m args below meth c G A nL F cells slots ws' lv pc st) : PC p l e k mc ms s m args below meth c G A nL F cells slots ws lv pc st := by
  intro H locs ls hP hD hS hl
  obtain ⟨v, q0, p1, hv, p2⟩ := he
  have hP1 := zP.perm p1 hP
  have hD1 := zD.perm p1 hD
  have hlt := (List.getElem?_eq_some_iff.mp hv).1
  refine K H locs ls (zP.perm p2 ?_) (zD.perm p2 (hD1.set hv)) hS hl
  intro i q hq
  by_cases hi : i = q0
  · subst hi
    rw [List.getElem?_set_self hlt] at hq
    have hq := Option.some.inj hq
    subst hq
    have h1 := hP1 i _ hv
    show H[a]? = some (arrV cA n (fun j => va_rf (g j)))
    have h2 : H[a]? = some (arrV cA n (fun j => va_rf (f j))) := h1
    rw [h2]
    exact congrArg some (arrV_ext (fun j hj => congrArg va_rf (hx j hj)))
  · rw [List.getElem?_set_ne (fun q => hi q.symm)] at hq
    exact hP1 i q hq
/-- a method of a known answer is called out of a constructor -/
theorem c_call (C : zC p s m args meth c own cc nL none G A) {y : MethodName} {cc1 : ByteArray} {nL1 n : Nat} {ret1 : Option FieldType} {k1 idx ci : Nat} {b : Addr} {fs : List Value} {σ₁ : Type} {W1 : σ₁ → va_W} {u1 r1 : σ₁} {res1 : Option σ₁} (As rest : List Value) (hC : zCt l y cc1 nL1 ret1 k1 G (.ref b :: As) W1 (fun _ : σ₁ => none) (fun r => r) u1 res1) (hres : res1 = some r1) (hM : zMi y cc1 nL1 ret1 n) (hi : Cond.instanceMethod y ∈ zTb) (hs : Cond.selects y.cls y y ∈ zTb) (hL : zLk own idx y) (hb : zHas (W1 u1) b (.inr (ci, fs))) (hc : ∃ q, vwCl[ci]? = some q ∧ q.1 = y.cls) (hk : k1 + 1 ≤ k) (hn : As.length = n) (hst : st = As.reverse ++ .ref b :: rest) (hd : decode cc pc = .ok (.invokevirtual idx, 3)) (hcat : (rest.map fun v => v.category).sum ≤ 8) (h1 : cells ≤ mc) (h2 : slots ≤ ms) (hp : ws.Perm (W1 u1)) (K : PC p l e k mc ms s m args below meth c G A nL F cells slots (W1 r1) lv (pc + 3) rest) : PC p l e k mc ms s m args below meth c G A nL F cells slots ws lv pc st := by
  intro H locs ls hP hD hS hl
  subst hst
  have hP1 := zP.perm hp hP
  have hD1 := zD.perm hp hD
  obtain ⟨q0, hb⟩ := hb
  obtain ⟨q, hc, hq⟩ := hc
  have hini := C.2.2.2.2.1 _ hM.2.1
  have hE := C.2.2.2.2.2.1
  have hfree : ∀ q, va_A (W1 u1) H.size q → A q := by
    intro q h
    rcases h with ⟨i, e0, hi⟩ | h
    · exact hD1.2 i (q, e0) hi
    · exact C.2.2.2.2.2.2.1 q (Nat.le_trans hS.1 h)
  have hW2 : (zRM k1).frames + 1 ≤ (zRC k mc ms).frames ∧ 8 + (nL1 + 11) + (zRM k1).locals ≤ (zRC k mc ms).locals := ⟨hk, by show 8 + (nL1 + 11) + 64 * k1 ≤ 64 * k; have := hM.2.2.2; omega⟩
  have hpre : PreV s H y.cls b (va_Pc (.ref b :: As) (fun U => U.heap.size = H.size ∧ va_P G.1.1 vwCl (W1 u1) U.heap ∧ zE G (va_A (W1 u1) H.size) U ∧ va_D (fun _ => True) (W1 u1))) As := ⟨z_blind, hq ▸ va_recv hE.1 hP1 hc hb, fun U hU hW => ⟨rfl, by rw [hU], by rw [hU]; exact hP1, hE.call hS hfree hU hW, hD1.weaken (fun _ _ _ _ => trivial)⟩⟩
  have hR : va_Run p l e (zRC k mc ms) s m args below meth c H locs cells slots 0 0 (F0 m pc ls (As.reverse ++ .ref b :: rest)) rest (zQ G (va_A (W1 u1) H.size) W1 (fun _ : σ₁ => none) (fun r => r) r1 (Value.ref b :: As).toArray) (va_A (W1 u1) H.size) := by
    rcases hL with hL | ⟨host, hL⟩
    · exact va_runV (C := y.cls) (n := n) ⟨C.1, C.2.1, C.2.2.1, C.2.2.2.1, C.2.2.2.2.1⟩ (hC r1 hres H.size) ⟨callB_of n C.2.2.2.2.1 (zTb_good hM.1) rfl rfl rfl hini (C.2.2.2.2.1 _ hL) hM.2.2.1 hW2, C.2.2.2.2.1 _ hi, C.2.2.2.2.1 _ hs⟩ hpre rfl hn hl.1 rfl (lv_room hcat) hd ⟨h1, h2⟩
    · exact va_runVN (C := y.cls) (n := n) ⟨C.1, C.2.1, C.2.2.1, C.2.2.2.1, C.2.2.2.2.1⟩ (hC r1 hres H.size) ⟨va_cnB n C.2.2.2.2.1 (zTb_good hM.1) rfl rfl rfl (hE.2.1 _ hL) hini hM.2.2.1 hW2, C.2.2.2.2.1 _ hi, C.2.2.2.2.1 _ hs⟩ hpre rfl hn hl.1 rfl (lv_room hcat) hd ⟨h1, h2⟩
  intro T hT X
  obtain ⟨v, st₀, t, T', L, h0, X', hL', e1, e2, ⟨⟨ho, hPw, hDw⟩, hz, hkk⟩, stp⟩ := hR T hT X
  have hv : v = none := by cases ho; rfl
  subst hv
  rw [h0] at hz hkk
  have hS' : va_S A s.heap T'.heap (locs ++ L) := ⟨Nat.le_trans hS.1 (by rw [e1]; exact hz), fun q h1 h2 => by
    rw [e1, hkk q (Nat.lt_of_lt_of_le h1 hS.1) (fun z => h2 (hfree q z))]
    exact hS.2.1 q h1 h2, fun q hq => by
    rcases List.mem_append.mp hq with h | h
    · exact hS.2.2 q h
    · exact hfree _ (hL' q h)⟩
  obtain ⟨t2, a1, b1⟩ := K T'.heap (locs ++ L) ls (by rw [e1]; exact hPw) (hDw.weaken (fun _ q _ h => hfree q.1 h)) hS' hl T' rfl X'
  exact ⟨t2, stp t2 a1, b1⟩
end ZC3
