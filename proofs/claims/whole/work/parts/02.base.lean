/-! base: a pure state beside the machine's world; a judgement PW that a functional text drives; one row an instruction -/
abbrev zM : Type := Nat → Nat → Int32
def zU (u : zM) (j k : Nat) (v : Int32) : zM := va_up u j (upd (u j) k v)
abbrev zG : Type := (va_G × ((Nat → Nat) × (Nat → Nat))) × (Nat → ClassId)
def zT (y : Nat → ClassId) : List (ClassId × FieldType) := [(y 0, .byte), (y 1, .int), (y 2, .boolean), (y 3, .object RX0), (y 4, .object RX1), (y 5, .object RX3)]
def zTb : List Cond := lw_tbl.filter goodWord
def zIsNest : Cond → Bool
  | .fieldLinkNest .. => true
  | .methodLinkNest .. => true
  | _ => false
def zNest : List Cond := lw_tbl.filter zIsNest
def zN (U : State) : Prop := ∀ w ∈ zNest, va_Nw w U
/-- the six constant texts of the teller, by their places; what the tables say of them, of two statics -/
def zLen : List Nat := [3, 3, 6, 6, 3, 4]
def zByt : List (List Int32) := [[111, 110, 101], [114, 101, 100], [121, 101, 108, 108, 111, 119], [111, 114, 112, 104, 97, 110], [112, 105, 110], [119, 105, 110, 100]]
def zKx : List Nat := [110, 116, 118, 120, 122, 124]
def zTx : List String := ["one", "red", "yellow", "orphan", "pin", "wind"]
def zStr (G : zG) (A : Nat → Prop) (U : State) : Prop := vk_S 6 zLen zByt G.1.2.1 G.1.2.2 A U U.heap ∧ (∀ i, i < 6 → vk_R RX5 (zKx.getD i 0) (zTx.getD i "") (G.1.2.1 i) U) ∧ va_Z "java/lang/String" "COMPACT_STRINGS" "Z" (.int 1) A U U.heap ∧ va_Zq "jdk/internal/util/Preconditions" "SIOOBE_FORMATTER" "Ljava/util/function/BiFunction;" A U U.heap
def zE (G : zG) (A : Nat → Prop) (U : State) : Prop := va_K G.1.1 vwCl (zT G.2) U ∧ zN U ∧ zStr G A U
def zRM (k : Nat) : Room := { frames := k, cells := 0, slots := 0, locals := 64 * k }
def zlet {α β : Type} (x : α) (f : α → β) : β := f x
def zb (b : Bool) : Int32 := if b then 1 else 0
theorem zN.warm {s U : State} (hW : s.WarmedH U.vm) (h : zN s) : zN U := by
  intro w hw
  have h1 := h w hw
  have h2 := (List.mem_filter.mp hw).2
  cases w <;> first | exact va_Nw.warmF hW h1 | exact va_Nw.warmM hW h1 | exact absurd h2 (by simp [zIsNest])
theorem zN.blind {U : State} {g : JFrame} {mk : MethodId} {a : Array Value} (h : zN U) : zN (U.calling g mk a) := by
  intro w hw
  have h1 := h w hw
  have h2 := (List.mem_filter.mp hw).2
  cases w <;> first | exact va_Nw.same rfl rfl h1 | exact absurd h2 (by simp [zIsNest])
theorem zE.call {G : zG} {A A1 : Nat → Prop} {s U : State} {H : Heap} {locs : List Loc} (hE : zE G A s) (hS : va_S A s.heap H locs) (hA : ∀ q, A1 q → A q) (hU : U.heap = H) (hW : s.WarmedH U.vm) : zE G A1 U := by
  obtain ⟨hK, hN, h1, h2, h3, h4⟩ := hE
  subst hU
  exact ⟨va_K.moved hW.alike hK, hN.warm hW, ((h1.kept hS.2.1).moved hW.alike).narrow hA, fun i hi => (h2 i hi).warm hW, ((h3.kept hS.2.1).moved hW.alike).narrow hA, ((h4.kept hS.2.1).moved hW.alike).narrow hA⟩
theorem zE.blind {G : zG} {A : Nat → Prop} {U : State} {g : JFrame} {mk : MethodId} {a : Array Value} (h : zE G A U) : zE G A (U.calling g mk a) := by
  obtain ⟨hK, hN, h1, h2, h3, h4⟩ := h
  have hv : U.vm.Alike (U.calling g mk a).vm := Vm.Alike.refl U.vm
  exact ⟨va_K.moved (u := U) (U := U.calling g mk a) hv hK, hN.blind, vk_S.moved (u := U) (U := U.calling g mk a) hv h1, fun i hi => vk_R.same (u := U) rfl (h2 i hi), va_Z.moved (u := U) (U := U.calling g mk a) hv h3, va_Zq.moved (u := U) (U := U.calling g mk a) hv h4⟩
theorem zNest_use {w : Cond} (hw : w ∈ zNest) {s : State} {args : Array Value} (h : zN s) : w.before args s = true := by
  have h1 := h w hw
  have h2 := (List.mem_filter.mp hw).2
  cases w <;> first | exact va_Nw.use rfl h1 | exact absurd h2 (by simp [zIsNest])
/-! worlds in any order -/
theorem zP.perm {D : va_G} {cl : List vw_C} {w1 w2 : va_W} {H : Heap} (h : w1.Perm w2) (hP : va_P D cl w1 H) : va_P D cl w2 H := by
  intro k q hk
  obtain ⟨i, hi⟩ := List.getElem?_of_mem (h.mem_iff.mpr (List.mem_of_getElem? hk))
  exact hP i q hi
theorem zD_iff {A : Nat → Prop} {ws : va_W} : va_D A ws ↔ (ws.map (·.1)).Nodup ∧ ∀ q ∈ ws, A q.1 := by
  constructor
  · intro h
    refine ⟨List.pairwise_iff_getElem.mpr (fun i j hi hj hij he => ?_), fun q hq => ?_⟩
    · rw [List.length_map] at hi hj
      rw [List.getElem_map, List.getElem_map] at he
      have := h.1 i j _ _ (List.getElem?_eq_getElem hi) (List.getElem?_eq_getElem hj) he
      omega
    · obtain ⟨k, hk⟩ := List.getElem?_of_mem hq
      exact h.2 k q hk
  · intro h
    refine ⟨fun i j p q hi hj he => ?_, fun k q hk => h.2 q (List.mem_of_getElem? hk)⟩
    have key : ∀ (i j : Nat) (p q : Nat × va_E), ws[i]? = some p → ws[j]? = some q → p.1 = q.1 → ¬ i < j := by
      intro i j p q hi hj he c
      obtain ⟨li, ei⟩ := List.getElem?_eq_some_iff.mp hi
      obtain ⟨lj, ej⟩ := List.getElem?_eq_some_iff.mp hj
      have := List.pairwise_iff_getElem.mp h.1 i j (by rw [List.length_map]; exact li) (by rw [List.length_map]; exact lj) c
      rw [List.getElem_map, List.getElem_map, ei, ej] at this
      exact this he
    rcases Nat.lt_trichotomy i j with c | c | c
    · exact absurd c (key i j p q hi hj he)
    · exact c
    · exact absurd c (key j i q p hj hi he.symm)
theorem zD.perm {A : Nat → Prop} {w1 w2 : va_W} (h : w1.Perm w2) (hD : va_D A w1) : va_D A w2 := by
  rw [zD_iff] at hD ⊢
  exact ⟨(h.map _).nodup_iff.mp hD.1, fun q hq => hD.2 q (h.mem_iff.mpr hq)⟩
/-- a cell is held; a cell becomes another -/
def zHas (ws : va_W) (a : Nat) (e : va_E) : Prop := ∃ q0 : Nat, ws[q0]? = some (a, e)
def zUpd (ws : va_W) (a : Nat) (e e' : va_E) (ws' : va_W) : Prop := ∃ (v : va_W) (q0 : Nat), ws.Perm v ∧ v[q0]? = some (a, e) ∧ (v.set q0 (a, e')).Perm ws'
theorem zHas.perm {w1 w2 : va_W} {a : Nat} {e : va_E} (h : w1.Perm w2) (h1 : zHas w2 a e) : zHas w1 a e := by
  obtain ⟨k, hk⟩ := h1
  exact List.getElem?_of_mem (h.mem_iff.mpr (List.mem_of_getElem? hk))
theorem zUpd.perm {w1 w2 v1 v2 : va_W} {a : Nat} {e e' : va_E} (h : w1.Perm w2) (h1 : zUpd w2 a e e' v2) (h2 : v2.Perm v1) : zUpd w1 a e e' v1 := by
  obtain ⟨v, k, p1, hk, p2⟩ := h1
  exact ⟨v, k, h.trans p1, hk, p2.trans h2⟩
theorem zUpd.at {ws : va_W} {a : Nat} {e e' : va_E} {ws' : va_W} (q0 : Nat) (h : ws[q0]? = some (a, e)) (h' : ws.set q0 (a, e') = ws') : zUpd ws a e e' ws' := ⟨ws, q0, List.Perm.refl _, h, h' ▸ List.Perm.refl _⟩
/-! the judgement -/
def zQ (G : zG) (A : Nat → Prop) {ρ σ : Type} (W' : σ → va_W) (kv : ρ → Option Value) (kw : ρ → σ) (r : ρ) : Array Value → State → Outcome → State → Prop := fun _ st o t => (o = .returned (kv r) ∧ va_P G.1.1 vwCl (W' (kw r)) t.heap ∧ va_D A (W' (kw r))) ∧ va_F A st t
def PW (p : Program) (l : Launch) (e : Env) (k : Nat) (s : State) (m : MethodId) (args : Array Value) (below : List Frame) (meth : Method) (c : Code) (G : zG) (A : Nat → Prop) (nL : Nat) {ρ σ : Type} (W' : σ → va_W) (kv : ρ → Option Value) (kw : ρ → σ) (u : σ) (lv : List (Nat × Value)) (pc : Nat) (st : List Value) (res : Option ρ) : Prop :=
  ∀ r : ρ, res = some r → ∀ (H : Heap) (locs : List Loc) (ls : Array Slot), va_P G.1.1 vwCl (W' u) H → va_D A (W' u) → va_S A s.heap H locs → lv_has ls nL lv → W p l e (zRM k) s m args below meth c H locs 0 0 (MQ below (zQ G A W' kv kw r) args s 0 0 A) (F0 m pc ls st)
def zC (p : Program) (s : State) (m : MethodId) (args : Array Value) (meth : Method) (c : Code) (own : String) (cc : ByteArray) (nL : Nat) (ret : Option FieldType) (G : zG) (A : Nat → Prop) : Prop :=
  p.tables.exec = Jvm.exec ∧ c.code = cc ∧ c.maxLocals = nL ∧ s.vm.findClass own = some m.cls ∧ (∀ w ∈ zTb, w.before args s = true) ∧ zE G A s ∧ (∀ q : Nat, s.heap.size ≤ q → A q) ∧ meth.locks = false ∧ meth.sig.returnType = ret
/-- a contract: from the world W' u (in which nothing else lies) the method answers as its functional text says -/
def zCt (l : Launch) (y : MethodName) (cc : ByteArray) (nL : Nat) (ret : Option FieldType) (k : Nat) (G : zG) (av : List Value) {ρ σ : Type} (W' : σ → va_W) (kv : ρ → Option Value) (kw : ρ → σ) (u : σ) (res : Option ρ) : Prop :=
  ∀ r : ρ, res = some r → ∀ sz : Nat, Met l y (.code y cc nL ret :: zTb) (zRM k) (va_Pc av (fun U => U.heap.size = sz ∧ va_P G.1.1 vwCl (W' u) U.heap ∧ zE G (va_A (W' u) sz) U ∧ va_D (fun _ => True) (W' u))) (zQ G (va_A (W' u) sz) W' kv kw r) 0 0 (va_A (W' u) sz)
theorem zCt.of {l : Launch} {y : MethodName} {cc : ByteArray} {nL : Nat} {ret : Option FieldType} {k : Nat} {G : zG} {av : List Value} {ρ σ : Type} {W' : σ → va_W} {kv : ρ → Option Value} {kw : ρ → σ} {u : σ} {res : Option ρ} (hy : plainName y.cls = true) (hn : (lg_sl av).length ≤ nL)
    (h : ∀ (p : Program) (e : Env) (s : State) (m : MethodId) (args : Array Value) (below : List Frame) (meth : Method) (c : Code) (A : Nat → Prop), zC p s m args meth c y.cls cc nL ret G A → PW p l e k s m args below meth c G A nL W' kv kw u (lv_args 0 av) 0 [] res) : zCt l y cc nL ret k G av W' kv kw u res := by
  intro r hr sz
  refine Met.ofW (cc := cc) (maxL := nL) (ret := ret) hy rfl ?_
  intro p e s m args below meth c s₁ B hml hv
  obtain ⟨rfl, hsz, hP, hE, hD0⟩ := hv
  have hts : ∀ w ∈ zTb, w.before av.toArray s = true := fun w hw => atoms_spec (ws := .code y cc nL ret :: zTb) B.pre w (List.mem_cons_of_mem _ hw)
  have hown : s.vm.findClass y.cls = some m.cls := findClass_of_methodNamed B.named
  subst hsz
  have hD := hD0.self (sz := s.heap.size)
  rw [lg_entry_eq]
  have hl := lv_entry av (n := nL) hn
  exact h p e s m av.toArray below meth c (va_A (W' u) s.heap.size) ⟨B.exec, B.bytes, hml, hown, hts, hE, fun q h => Or.inr h, B.notSynchronized, B.returns⟩ r hr s.heap [] _ hP hD va_S.rf hl
