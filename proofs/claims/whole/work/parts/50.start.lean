theorem zN_of {s : State} {A : Array Value} (hts : ∀ w ∈ lw_tbl, w.before A s = true) : zN s := by
  intro w hw
  have h1 := hts w (List.mem_filter.mp hw).1
  have h2 := (List.mem_filter.mp hw).2
  cases w <;> first | exact va_Nw.of rfl h1 | exact absurd h2 (by simp [zIsNest])
def zTm (i : Nat) : Term := .string RX5 (zKx.getD i 0)
def zFl : List Cond := flatC (Jvm.Cond.and given_1 narrow_1)
theorem fl_ex : ∀ i, i < 6 → Cond.exactly (zTm i) "java/lang/String" ∈ zFl := by decide +kernel
theorem fl_co : ∀ i, i < 6 → Cond.eq (.field (zTm i) "java/lang/String" "coder" "B") (.int 0) ∈ zFl := by decide +kernel
theorem fl_ar : ∀ i, i < 6 → Cond.arrayOf (.field (zTm i) "java/lang/String" "value" "[B") .byte ∈ zFl := by decide +kernel
theorem fl_le : ∀ i, i < 6 → Cond.eq (.length (.field (zTm i) "java/lang/String" "value" "[B")) (.int (Int32.ofNat (zLen.getD i 0))) ∈ zFl := by decide +kernel
theorem fl_el : ∀ i, i < 6 → ∀ j, j < zLen.getD i 0 → Cond.eq (.elem (.field (zTm i) "java/lang/String" "value" "[B") (.int (Int32.ofNat j))) (.int ((zByt.getD i []).getD j 0)) ∈ zFl := by decide +kernel
theorem fl_ne : ∀ i, i < 6 → ∀ j, j < 6 → i ≠ j → Cond.not (Cond.eq (zTm i) (zTm j)) ∈ zFl ∨ Cond.not (Cond.eq (zTm j) (zTm i)) ∈ zFl := by decide +kernel
theorem fl_sr : ∀ i, i < 6 → Cond.stringRef RX5 (zKx.getD i 0) (zTx.getD i "") ∈ lw_tbl := by decide +kernel
theorem fl_cs : Cond.eq (.static "java/lang/String" "COMPACT_STRINGS" "Z") (.int 1) ∈ zFl ∧ Cond.isRef (.static "jdk/internal/util/Preconditions" "SIOOBE_FORMATTER" "Ljava/util/function/BiFunction;") ∈ zFl := by decide +kernel
theorem fl_ls : Cond.laysStatic "java/lang/String" "COMPACT_STRINGS" "Z" ∈ lw_tbl ∧ Cond.initialized "java/lang/String" ∈ lw_tbl ∧ Cond.laysStatic "jdk/internal/util/Preconditions" "SIOOBE_FORMATTER" "Ljava/util/function/BiFunction;" ∈ lw_tbl ∧ Cond.initialized "jdk/internal/util/Preconditions" ∈ lw_tbl := by decide +kernel
theorem zStr_of {s : State} {A : Array Value} (hts : ∀ w ∈ lw_tbl, w.before A s = true) (hg : (Jvm.Cond.and given_1 narrow_1).before A s = true) : ∃ adK adV : Nat → Nat, ∀ (D : va_G) (y : Nat → ClassId), zStr ((D, (adK, adV)), y) (fun q : Nat => s.heap.size ≤ q) s := by
  have hf := flat_of_before _ hg
  have hA : ∀ a : Nat, a < s.heap.size → ¬ (fun q : Nat => s.heap.size ≤ q) a := fun a h => Nat.not_le.mpr h
  obtain ⟨adK, adV, h1, h2⟩ := vk_Sof (args := A) (s := s) (N := 6) (tm := zTm) (len := zLen) (byt := zByt) (A := fun q : Nat => s.heap.size ≤ q) (by decide) (fun i hi => hf _ (fl_ex i hi)) (fun i hi => hf _ (fl_co i hi)) (fun i hi => hf _ (fl_ar i hi)) (fun i hi => hf _ (fl_le i hi)) (fun i hi j hj => hf _ (fl_el i hi j hj)) (fun i j hi hj hij => (fl_ne i hi j hj hij).imp (hf _) (hf _)) hA
  refine ⟨adK, adV, fun D y => ⟨h1, fun i hi => vk_R.of (hts _ (fl_sr i hi)) (h2 i hi), va_Zof (hts _ fl_ls.1) (hts _ fl_ls.2.1) (va_eqt (hf _ fl_cs.1)) hA, va_Zqof (hts _ fl_ls.2.2.1) (hts _ fl_ls.2.2.2) (hf _ fl_cs.2) hA⟩⟩
theorem zA_of {s : State} {A : Array Value} {ty : FieldType} (h : (Cond.arrayClass ty).before A s = true) (hp : ∀ C, ty ≠ .object C) : ∃ cA : ClassId, ArrOfT s cA ty ∧ va_RA s cA ty := by
  obtain ⟨cA, kA, comp, h1, h2, h3⟩ := Cond.arrayClass_spec (args := A) (first := s) (o := none) (s := s) (idx := []) h
  refine ⟨cA, fun n z => ⟨(fun k h => by cases h), kA, h2, comp, h3⟩, ?_⟩
  cases ty <;> first | exact absurd rfl (hp _) | exact h1
theorem zO_of {s : State} {A : Array Value} {C : String} (h : (Cond.arrayOver (.object C)).before A s = true) : ∃ cA : ClassId, ArrOfT s cA (.object C) ∧ va_RA s cA (.object C) := by
  obtain ⟨comp, cA, kA, h0, -, h2, h3, h4⟩ := Cond.arrayOver_spec (args := A) (first := s) (o := none) (s := s) (idx := []) h
  exact ⟨cA, fun n z => ⟨(fun k h => by cases h), kA, h2, comp, h3⟩, kA, comp, h2, h3, h0, h4⟩
section ZST
variable {p : Program} {l : Launch} {e : Env} {s : State} {m : MethodId} {b0 : Addr} {below : List Frame} {meth : Method} {c : Code} {G : zG} {cells slots : Nat} {ws ws' : va_W} {lv : List (Nat × Value)} {pc : Nat} {st : List Value}
theorem l_new (C : zCL p s m b0 meth c G) {idx ci N : Nat} {CC : String} {fs : List Value} (hw : zNw ci N CC fs) (hcl : Cond.classLink RL idx CC ∈ zTb) (h1 : cells + 1 ≤ 600000) (h2 : slots + N ≤ 7302250) (hd : decode code pc = .ok (.new idx, 3)) (K : ∀ q, PL p l e s m b0 below meth c G (cells + 1) (slots + N) ((q, .inr (ci, fs)) :: ws) lv (pc + 3) (.ref q :: st)) : PL p l e s m b0 below meth c G cells slots ws lv pc st := by
  intro H locs ls hP hD hS hl
  obtain ⟨T, ty, g1, g2, g3, g4, g5, g6⟩ := hw
  exact va_new C.1 C.2.1 C.2.2.2.2.1 g2 ty g3 C.2.2.2.1 (C.2.2.2.2.1 _ hcl) (C.2.2.2.2.1 _ g5) (C.2.2.2.2.1 _ g6) C.2.2.2.2.2.1.1 hP hD hS (fun _ h => h) g1 g4 h1 h2 hd (fun q H1 hP2 hD2 hS2 => K q H1 locs ls (zP.front hP2) (zD.front hD2) hS2 hl)
theorem l_init (C : zCL p s m b0 meth c G) {y : MethodName} {cc1 : ByteArray} {nL1 n k1 mc1 ms1 idx : Nat} {b : Addr} {Ex : State → Prop} {ws1 : va_W} {F1 : va_W → Prop} (As rest : List Value) (hC : zCC l y cc1 nL1 k1 mc1 ms1 G (.ref b :: As) Ex ws1 F1) (hEx : ∀ U : State, s.WarmedH U.vm → Ex U) (hbl : ∀ (U : State) (g : JFrame) (mk : MethodId) (a : Array Value), Ex U → Ex (U.calling g mk a)) (hM : zMi y cc1 nL1 none n) (hy1 : y.name = "<init>") (hi : Cond.instanceMethod y ∈ zTb) (hL : zLk RL idx y) (hk : k1 ≤ 1000) (h1 : cells + mc1 ≤ 600000) (h2 : slots + ms1 ≤ 7302250) (hn : As.length = n) (hst : st = As.reverse ++ .ref b :: rest) (hd : decode code pc = .ok (.invokespecial idx, 3)) (hcat : (rest.map fun v => v.category).sum ≤ 8) (hp : ws.Perm ws1) (K : ∀ w, F1 w → PL p l e s m b0 below meth c G (cells + mc1) (slots + ms1) w lv (pc + 3) rest) : PL p l e s m b0 below meth c G cells slots ws lv pc st := by
  intro H locs ls hP hD hS hl
  subst hst
  have hP1 := zP.perm hp hP
  have hD1 := zD.perm hp hD
  have hini := C.2.2.2.2.1 _ hM.2.1
  have hE := C.2.2.2.2.2.1
  have hfree : ∀ q, va_A ws1 H.size q → s.heap.size ≤ q := by
    intro q h
    rcases h with ⟨i, e0, hi⟩ | h
    · exact hD1.2 i (q, e0) hi
    · exact Nat.le_trans hS.1 h
  have hW2 : (zRC k1 mc1 ms1).frames + 1 ≤ room_1.frames ∧ 8 + (nL1 + 11) + (zRC k1 mc1 ms1).locals ≤ room_1.locals := ⟨by show k1 + 1 ≤ 2048; omega, by show 8 + (nL1 + 11) + 64 * k1 ≤ 84000; have := hM.2.2.2; omega⟩
  have hpre : PreS s H (va_Pc (.ref b :: As) (fun U => U.heap.size = H.size ∧ va_P G.1.1 vwCl ws1 U.heap ∧ zE G (va_A ws1 H.size) U ∧ va_D (fun _ => True) ws1 ∧ Ex U)) (.ref b :: As) := ⟨fun _ U g mk h => ⟨h.1, h.2.1, h.2.2.1, h.2.2.2.1.blind, h.2.2.2.2.1, hbl U g mk _ h.2.2.2.2.2⟩, fun U hU hW => ⟨rfl, by rw [hU], by rw [hU]; exact hP1, hE.call hS hfree hU hW, hD1.weaken (fun _ _ _ _ => trivial), hEx U hW⟩⟩
  have hR : va_Run p l e room_1 s m #[Value.ref b0] below meth c H locs cells slots mc1 ms1 (F0 m pc ls (As.reverse ++ .ref b :: rest)) rest (zQC G (va_A ws1 H.size) F1 (Value.ref b :: As).toArray) (va_A ws1 H.size) := by
    rcases hL with hL | ⟨host, hL⟩
    · exact va_runI (n := n) ⟨C.1, C.2.1, C.2.2.1, C.2.2.2.1, C.2.2.2.2.1⟩ (hC H.size) ⟨callB_of n C.2.2.2.2.1 (zTb_good hM.1) rfl rfl rfl hini (C.2.2.2.2.1 _ hL) hM.2.2.1 hW2, hy1, C.2.2.2.2.1 _ hi⟩ hpre rfl hn hl.1 rfl (lv_room hcat) hd ⟨h1, h2⟩
    · exact va_runIN (n := n) ⟨C.1, C.2.1, C.2.2.1, C.2.2.2.1, C.2.2.2.2.1⟩ (hC H.size) ⟨va_cnB n C.2.2.2.2.1 (zTb_good hM.1) rfl rfl rfl (hE.2.1 _ hL) hini hM.2.2.1 hW2, hy1, C.2.2.2.2.1 _ hi⟩ hpre rfl hn hl.1 rfl (lv_room hcat) hd ⟨h1, h2⟩
  intro T hT X
  obtain ⟨v, st₀, t, T', L, h0, X', hL', e1, e2, ⟨⟨ho, w, hF1, hPw, hDw⟩, hz, hkk⟩, stp⟩ := hR T hT X
  have hv : v = none := by cases ho; rfl
  subst hv
  rw [h0] at hz hkk
  have hS' : va_S (fun q : Nat => s.heap.size ≤ q) s.heap T'.heap (locs ++ L) := ⟨Nat.le_trans hS.1 (by rw [e1]; exact hz), fun q h1 h2 => by
    rw [e1, hkk q (Nat.lt_of_lt_of_le h1 hS.1) (fun z => h2 (hfree q z))]
    exact hS.2.1 q h1 h2, fun q hq => by
    rcases List.mem_append.mp hq with h | h
    · exact hS.2.2 q h
    · exact hfree _ (hL' q h)⟩
  obtain ⟨t2, a1, b1⟩ := K w hF1 T'.heap (locs ++ L) ls (by rw [e1]; exact hPw) (hDw.weaken (fun _ q _ h => hfree q.1 h)) hS' hl T' rfl X'
  exact ⟨t2, stp t2 a1, b1⟩
end ZST
set_option maxHeartbeats 8000000 in
set_option maxRecDepth 100000 in
theorem whole_start {p : Program} {e : Env} {s : State} {m : MethodId} {below : List Frame} {meth : Method} {c : Code} (l : Launch) (hflags : l.flags = flags0) {b L : Nat} {xs : Nat → Int32} (hL : L ≤ 2560) (C0 : lw_At p s m meth c b L xs) : W p l e room_1 s m #[Value.ref b] below meth c s.heap [] 0 0 (lw_Z below #[Value.ref b] s) (entryFrame m ([Value.ref b] : List Value).toArray 4) := by
  obtain ⟨hx, hb, hr, hml, hown, hts, hX, hbl, hlocks, hgv⟩ := id C0
  have hts' : ∀ w ∈ zTb, w.before #[Value.ref b] s = true := fun w hw => hts w (List.mem_filter.mp hw).1
  obtain ⟨c0, i0, hK0⟩ := u_known (C := RX0) (T := TX0) (N := 12) (n := 12) hts' inTX0 (hts' (.instantiable RX0 12) (mem_tb 62 (by decide +kernel) rfl))
  obtain ⟨c1, i1, hK1⟩ := u_known (C := RX1) (T := TX1) (N := 3) (n := 3) hts' inTX1 (hts' (.instantiable RX1 3) (mem_tb 172 (by decide +kernel) rfl))
  obtain ⟨c2, i2, hK2⟩ := u_known (C := RX2) (T := TX2) (N := 4) (n := 4) hts' inTX2 (hts' (.instantiable RX2 4) (mem_tb 148 (by decide +kernel) rfl))
  obtain ⟨c3, i3, hK3⟩ := u_known (C := RX3) (T := TX3) (N := 3) (n := 3) hts' inTX3 (hts' (.instantiable RX3 3) (mem_tb 194 (by decide +kernel) rfl))
  obtain ⟨c4, i4, hK4⟩ := u_known (C := RX4) (T := TX4) (N := 6) (n := 6) hts' inTX4 (hts' (.instantiable RX4 6) (mem_tb 26 (by decide +kernel) rfl))
  obtain ⟨c5, i5, hK5⟩ := u_known (C := RX5) (T := TX5) (N := 7) (n := 7) hts' inTX5 (hts' (.instantiable RX5 7) (mem_tb 56 (by decide +kernel) rfl))
  obtain ⟨c6, i6, hK6⟩ := u_known (C := RX6) (T := TX6) (N := 10) (n := 10) hts' inTX6 (hts' (.instantiable RX6 10) (mem_tb 18 (by decide +kernel) rfl))
  obtain ⟨c7, i7, hK7⟩ := u_known (C := RX7) (T := TX7) (N := 29) (n := 29) hts' inTX7 (hts' (.instantiable RX7 29) (mem_tb 770 (by decide +kernel) rfl))
  obtain ⟨y0, hy0⟩ := zA_of (ty := .byte) (hts' (.arrayClass .byte) (mem_tb 54 (by decide +kernel) rfl)) (by intro _ h; cases h)
  obtain ⟨y1, hy1⟩ := zA_of (ty := .int) (hts' (.arrayClass .int) (mem_tb 118 (by decide +kernel) rfl)) (by intro _ h; cases h)
  obtain ⟨y2, hy2⟩ := zA_of (ty := .boolean) (hts' (.arrayClass .boolean) (mem_tb 871 (by decide +kernel) rfl)) (by intro _ h; cases h)
  have ho0 := hts (.arrayOver (.object RX0)) (List.mem_append_right _ (List.mem_of_getElem? (i := 167) (by decide +kernel)))
  obtain ⟨y3, hy3⟩ := zO_of (C := RX0) ho0
  have ho1 := hts (.arrayOver (.object RX1)) (List.mem_append_right _ (List.mem_of_getElem? (i := 169) (by decide +kernel)))
  obtain ⟨y4, hy4⟩ := zO_of (C := RX1) ho1
  have ho2 := hts (.arrayOver (.object RX3)) (List.mem_append_right _ (List.mem_of_getElem? (i := 171) (by decide +kernel)))
  obtain ⟨y5, hy5⟩ := zO_of (C := RX3) ho2
  obtain ⟨adK, adV, hStr⟩ := zStr_of hts hgv
  obtain ⟨D, hD0⟩ : ∃ D : va_G, ∀ (k : Nat) (q : vw_C), vwCl[k]? = some q → u_Kn s q.1 q.2.1 q.2.2 (D.1 k) (D.2 k) := by
    refine ⟨(fun k => [c0, c1, c2, c3, c4, c5, c6, c7].getD k 0, fun k => [i0, i1, i2, i3, i4, i5, i6, i7].getD k (fun _ => 0)), ?_⟩
    intro k q hq
    match k, hq with
    | 0, hq => cases hq; exact hK0
    | 1, hq => cases hq; exact hK1
    | 2, hq => cases hq; exact hK2
    | 3, hq => cases hq; exact hK3
    | 4, hq => cases hq; exact hK4
    | 5, hq => cases hq; exact hK5
    | 6, hq => cases hq; exact hK6
    | 7, hq => cases hq; exact hK7
    | k + 8, hq => simp [vwCl] at hq
  obtain ⟨y, hy⟩ : ∃ y : Nat → ClassId, ∀ (k : Nat) (q : ClassId × FieldType), (zT y)[k]? = some q → ArrOfT s q.1 q.2 ∧ va_RA s q.1 q.2 := by
    refine ⟨fun k => [y0, y1, y2, y3, y4, y5].getD k 0, ?_⟩
    intro k q hq
    match k, hq with
    | 0, hq => cases hq; exact hy0
    | 1, hq => cases hq; exact hy1
    | 2, hq => cases hq; exact hy2
    | 3, hq => cases hq; exact hy3
    | 4, hq => cases hq; exact hy4
    | 5, hq => cases hq; exact hy5
    | k + 6, hq => simp [zT] at hq
  have C : zCL p s m b meth c ((D, (adK, adV)), y) := ⟨hx, hb, hml, hown, hts', ⟨⟨hD0, hy⟩, zN_of hts, hStr D y⟩, fun _ h => h, hlocks, hr⟩
  generalize hG : (((D, (adK, adV)), y) : zG) = G at C
  obtain ⟨u8, u9, e1, e2, hR⟩ := rel_init
  have main : PL p l e s m b below meth c G 0 0 [] [(0, .ref b)] 0 [] := by
    refine l_new C zNw_6 (mem_tb 17 (by decide +kernel) rfl) (Nat.le_of_ble_eq_true rfl) (Nat.le_of_ble_eq_true rfl) dL_law_0 (fun q => ?_)
    refine l_dup C dL_law_3 rfl ?_
    refine l_init C [] [.ref q] (cc_X6_init l G q []) (fun U hW => ⟨va_AO.moved hW.alike (va_AO.of ho0), va_AO.moved hW.alike (va_AO.of ho1), va_AO.moved hW.alike (va_AO.of ho2)⟩) (fun U g mk a h => ⟨va_AO.moved (u := U) (U := U.calling g mk a) (Vm.Alike.refl U.vm) h.1, va_AO.moved (u := U) (U := U.calling g mk a) (Vm.Alike.refl U.vm) h.2.1, va_AO.moved (u := U) (U := U.calling g mk a) (Vm.Alike.refl U.vm) h.2.2⟩) mi_X6_init rfl md_X6_init ml_RL_9 (by decide) (Nat.le_of_ble_eq_true rfl) (Nat.le_of_ble_eq_true rfl) rfl rfl dL_law_4 (Nat.le_of_ble_eq_true rfl) (List.Perm.refl _) (fun w hw => ?_)
    obtain ⟨ad, rfl, rfl⟩ := hw
    refine l_astore_n C [(1, .ref (ad 0 0)), (0, .ref b)] dL_law_7 (by decide) rfl ?_
    refine l_new C zNw_7 (mem_tb 769 (by decide +kernel) rfl) (Nat.le_of_ble_eq_true rfl) (Nat.le_of_ble_eq_true rfl) dL_law_8 (fun q2 => ?_)
    refine l_dup C dL_law_11 rfl ?_
    refine l_init C [] [.ref q2] (cc_X7_init l G q2 (wS ad G.2 S0 ++ []) u8 u9 e1 e2) (fun _ _ => trivial) (fun _ _ _ _ h => h) mi_X7_init rfl md_X7_init ml_RL_12 (by decide) (Nat.le_of_ble_eq_true rfl) (Nat.le_of_ble_eq_true rfl) rfl rfl dL_law_12 (Nat.le_of_ble_eq_true rfl) (List.Perm.refl _) (fun w hw => ?_)
    obtain ⟨b2, rfl, rfl⟩ := hw
    refine l_astore_n C [(2, .ref (b2 0)), (1, .ref (ad 0 0)), (0, .ref b)] dL_law_15 (by decide) rfl ?_
    refine l_iconst (v := 0) C dL_law_16 (by decide) ?_
    refine l_istore_n C [(3, .int 0), (2, .ref (b2 0)), (1, .ref (ad 0 0)), (0, .ref b)] dL_law_17 (by decide) rfl ?_
    refine l_loc [(0, .ref b), (1, .ref (ad 0 0)), (2, .ref (b2 0)), (3, .int (Int32.ofNat 0))] [3, 2, 1, 0] rfl ?_
    refine l_perm (ws' := zWL ad b2 G.2 S0 u9 g7) lPerm ?_
    exact law_loop C hL hX hbl (Nat.le_of_ble_eq_true rfl) (Nat.le_of_ble_eq_true rfl) ad b2 (L + 1) 0 S0 u9 g7 (by omega) (by omega) hR
  rw [lg_entry_eq]
  have hl := lv_entry ([.ref b]) (n := 4) (Nat.le_of_ble_eq_true rfl)
  exact main s.heap [] _ (fun k q h => by simp at h) ⟨fun i j p q h => by simp at h, fun k q h => by simp at h⟩ va_S.rf hl
