def zLenV (i : Nat) : Int32 := Int32.ofNat (zLen.getD i 0) >>> ((0 : Int32) &&& 31)
def zCh (i : Nat) (j : Int32) : Int32 := ((zByt.getD i []).getD j.toNatClampNeg 0) &&& 255
noncomputable def f_ckx (v0 v1 : Int32) : Option Int32 := if v0 < 0 then none else if v0 < v1 then some v0 else none
noncomputable def f_charAt (i : Nat) (j : Int32) : Option Unit := (f_ckx j (Int32.ofNat (zLen.getD i 0))).bind fun _ => if z_in j (zLen.getD i 0) = true then some () else none
theorem y_callK {p : Program} {l : Launch} {e : Env} {k : Nat} {s : State} {m : MethodId} {args : Array Value} {below : List Frame} {meth : Method} {c : Code} {G : zG} {A : Nat → Prop} {nL : Nat} {ρ σ : Type} {W' : σ → va_W} {kv : ρ → Option Value} {kw : ρ → σ} {u : σ} {lv : List (Nat × Value)} {pc : Nat} {st : List Value} {res : Option ρ} {cc : ByteArray} {own : String} {ret : Option FieldType} (C : zC p s m args meth c own cc nL ret G A) {rest : List Value} {v : Value} {σ₁ : Type} {W1 : σ₁ → va_W} {u1 : σ₁} (hrun : zRun p l e k s m args below meth c G A nL pc st rest W1 (fun _ : Unit => some v) (fun _ => u1) u1 (some ())) (hp : (W' u).Perm (W1 u1)) (K : PW p l e k s m args below meth c G A nL W' kv kw u lv (pc + 3) (v :: rest) res) : PW p l e k s m args below meth c G A nL W' kv kw u lv pc st res := z_call (F := fun _ => res) (gg := fun _ => u) C hrun hp (fun _ => hp.symm) (fun _ => K)
theorem y_callB {p : Program} {l : Launch} {e : Env} {k : Nat} {s : State} {m : MethodId} {args : Array Value} {below : List Frame} {meth : Method} {c : Code} {G : zG} {A : Nat → Prop} {nL : Nat} {ρ σ : Type} {W' : σ → va_W} {kv : ρ → Option Value} {kw : ρ → σ} {u : σ} {lv : List (Nat × Value)} {pc : Nat} {st : List Value} {cc : ByteArray} {own : String} {ret : Option FieldType} (C : zC p s m args meth c own cc nL ret G A) {rest : List Value} {v : Value} {σ₁ : Type} {W1 : σ₁ → va_W} {u1 : σ₁} {res1 : Option Unit} {F : Unit → Option ρ} (hrun : zRun p l e k s m args below meth c G A nL pc st rest W1 (fun _ : Unit => some v) (fun _ => u1) u1 res1) (hp : (W' u).Perm (W1 u1)) (K : ∀ r1, PW p l e k s m args below meth c G A nL W' kv kw u lv (pc + 3) (v :: rest) (F r1)) : PW p l e k s m args below meth c G A nL W' kv kw u lv pc st (res1.bind F) := z_call (gg := fun _ => u) C hrun hp (fun _ => hp.symm) K
theorem ct_coder (l : Launch) (G : zG) (X : va_W) (i : Nat) (hi : i < 6) : zCt l yJ0_coder_7d493 cJ0_coder_7d493 1 (some .byte) 1 G [.ref (G.1.2.1 i)] (fun _ : Unit => X) (fun _ : Unit => some (.int 0)) (fun _ => ()) () (some ()) := by
  refine zCt.of (by decide) (Nat.le_of_ble_eq_true rfl) (fun p e s m args below meth c A C => ?_)
  refine y_lv (lv' := [(0, .ref (G.1.2.1 i))]) rfl ?_
  refine y_gsCS C rfl 324 (by decide +kernel) dJ0_coder_7d493_0 ?_
  refine z_ifeqF C 13 dJ0_coder_7d493_3 (by decide) (by decide) ?_
  refine z_aload_n C 0 dJ0_coder_7d493_6 rfl ?_
  refine y_getC C hi rfl 1232 (by decide +kernel) dJ0_coder_7d493_7 ?_
  refine z_goto C 14 dJ0_coder_7d493_10 (by decide) ?_
  exact z_iret C dJ0_coder_7d493_14 rfl rfl rfl
theorem ct_length (l : Launch) (G : zG) (X : va_W) (i : Nat) (hi : i < 6) : zCt l yJ0_length_8abf5 cJ0_length_8abf5 1 (some .int) 2 G [.ref (G.1.2.1 i)] (fun _ : Unit => X) (fun _ : Unit => some (.int (zLenV i))) (fun _ => ()) () (some ()) := by
  refine zCt.of (by decide) (Nat.le_of_ble_eq_true rfl) (fun p e s m args below meth c A C => ?_)
  refine y_lv (lv' := [(0, .ref (G.1.2.1 i))]) rfl ?_
  refine z_aload_n C 0 dJ0_length_8abf5_0 rfl ?_
  refine y_getV C hi rfl 1231 (by decide +kernel) dJ0_length_8abf5_1 ?_
  refine y_lenV C hi dJ0_length_8abf5_4 ?_
  refine z_aload_n C 0 dJ0_length_8abf5_5 rfl ?_
  refine y_callK C (z_invT C [] [.int (Int32.ofNat (zLen.getD i 0))] (ct_coder l G X i hi) mi_J0_coder_7d493 md_J0_coder_7d493 ms_J0_coder_7d493 ml_RJ0_335 hi rfl (by decide) rfl rfl dJ0_length_8abf5_6 (Nat.le_of_ble_eq_true rfl)) (List.Perm.refl _) ?_
  refine z_ishr C dJ0_length_8abf5_9 ?_
  exact z_iret C dJ0_length_8abf5_10 rfl rfl rfl
theorem ct_isLatin1 (l : Launch) (G : zG) (X : va_W) (i : Nat) (hi : i < 6) : zCt l yJ0_isLatin1_aae02 cJ0_isLatin1_aae02 1 (some .boolean) 1 G [.ref (G.1.2.1 i)] (fun _ : Unit => X) (fun _ : Unit => some (.int 1)) (fun _ => ()) () (some ()) := by
  refine zCt.of (by decide) (Nat.le_of_ble_eq_true rfl) (fun p e s m args below meth c A C => ?_)
  refine y_lv (lv' := [(0, .ref (G.1.2.1 i))]) rfl ?_
  refine y_gsCS C rfl 324 (by decide +kernel) dJ0_isLatin1_aae02_0 ?_
  refine z_ifeqF C 17 dJ0_isLatin1_aae02_3 (by decide) (by decide) ?_
  refine z_aload_n C 0 dJ0_isLatin1_aae02_6 rfl ?_
  refine y_getC C hi rfl 1232 (by decide +kernel) dJ0_isLatin1_aae02_7 ?_
  refine z_ifneF C 17 dJ0_isLatin1_aae02_10 (by decide) (by decide) ?_
  refine z_iconst (v := 1) C dJ0_isLatin1_aae02_13 (by decide) ?_
  refine z_goto C 18 dJ0_isLatin1_aae02_14 (by decide) ?_
  exact z_iret C dJ0_isLatin1_aae02_18 rfl rfl rfl
theorem ct_ckx (l : Launch) (G : zG) (X : va_W) (v0 v1 : Int32) (w : Value) (hw : w.category = 1) : zCt l yJ3_checkIndex_8e157 cJ3_checkIndex_8e157 3 (some .int) 1 G [.int v0, .int v1, w] (fun _ : Unit => X) (fun r : Int32 => some (.int r)) (fun _ => ()) () (f_ckx v0 v1) := by
  refine zCt.of (by decide) (by cases w <;> first | exact Nat.le_of_ble_eq_true rfl | exact absurd hw (by simp [Value.category])) (fun p e s m args below meth c A C => ?_)
  refine y_lv (lv' := [(0, .int v0), (1, .int v1), (2, w)]) rfl ?_
  rw [f_ckx]
  refine z_iload_n C 0 dJ3_checkIndex_8e157_0 rfl ?_
  refine z_iflt C 9 dJ3_checkIndex_8e157_1 (by decide) z_none ?_
  refine z_iload_n C 0 dJ3_checkIndex_8e157_4 rfl ?_
  refine z_iload_n C 1 dJ3_checkIndex_8e157_5 rfl ?_
  refine z_icmplt C 16 dJ3_checkIndex_8e157_6 (by decide) ?_ z_none
  refine z_iload_n C 0 dJ3_checkIndex_8e157_16 rfl ?_
  exact z_iret C dJ3_checkIndex_8e157_17 rfl rfl rfl
theorem ct_ckx2 (l : Launch) (G : zG) (X : va_W) (v0 v1 : Int32) : zCt l yJ0_checkIndex_df160 cJ0_checkIndex_df160 2 none 2 G [.int v0, .int v1] (fun _ : Unit => X) (fun _ : Int32 => none) (fun _ => ()) () (f_ckx v0 v1) := by
  refine zCt.of (by decide) (Nat.le_of_ble_eq_true rfl) (fun p e s m args below meth c A C => ?_)
  refine y_lv (lv' := [(0, .int v0), (1, .int v1)]) rfl ?_
  rw [show f_ckx v0 v1 = (f_ckx v0 v1).bind (fun r => some r) from by cases f_ckx v0 v1 <;> rfl]
  refine z_iload_n C 0 dJ0_checkIndex_df160_0 rfl ?_
  refine z_iload_n C 1 dJ0_checkIndex_df160_1 rfl ?_
  refine y_gsSI C rfl 340 (by decide +kernel) dJ0_checkIndex_df160_2 (fun w hw => ?_)
  refine y_callI C (z_invS C [.int v0, .int v1, w] [] (ct_ckx l G X v0 v1 w hw) mi_J3_checkIndex_8e157 mt_J3_checkIndex_8e157 ml_RJ0_1059 (by decide) rfl rfl dJ0_checkIndex_df160_5 (Nat.le_of_ble_eq_true rfl)) (List.Perm.refl _) (fun r => ?_)
  refine z_pop C dJ0_checkIndex_df160_8 rfl ?_
  exact z_vret C dJ0_checkIndex_df160_9 rfl rfl
theorem ct_lchar (l : Launch) (G : zG) (X : va_W) (i : Nat) (hi : i < 6) (j : Int32) : zCt l yJ1_charAt_3b067 cJ1_charAt_3b067 2 (some .char) 3 G [.ref (G.1.2.2 i), .int j] (fun _ : Unit => X) (fun _ : Unit => some (.int (zCh i j))) (fun _ => ()) () (f_charAt i j) := by
  refine zCt.of (by decide) (Nat.le_of_ble_eq_true rfl) (fun p e s m args below meth c A C => ?_)
  refine y_lv (lv' := [(0, .ref (G.1.2.2 i)), (1, .int j)]) rfl ?_
  rw [f_charAt]
  refine z_iload_n C 1 dJ1_charAt_3b067_0 rfl ?_
  refine z_aload_n C 0 dJ1_charAt_3b067_1 rfl ?_
  refine y_lenV C hi dJ1_charAt_3b067_2 ?_
  refine z_call (gg := fun _ => ()) C (z_invS C [.int j, .int (Int32.ofNat (zLen.getD i 0))] [] (ct_ckx2 l G X j (Int32.ofNat (zLen.getD i 0))) mi_J0_checkIndex_df160 mt_J0_checkIndex_df160 ml_RJ1_9 (by decide) rfl rfl dJ1_charAt_3b067_3 (Nat.le_of_ble_eq_true rfl)) (List.Perm.refl _) (fun _ => List.Perm.refl _) (fun r => ?_)
  refine z_aload_n C 0 dJ1_charAt_3b067_6 rfl ?_
  refine z_iload_n C 1 dJ1_charAt_3b067_7 rfl ?_
  refine y_baldV C hi dJ1_charAt_3b067_8 ?_
  refine z_sipush (v := 255) C dJ1_charAt_3b067_9 (by decide) ?_
  refine z_iand C dJ1_charAt_3b067_12 ?_
  refine y_i2c (v := zCh i j) C dJ1_charAt_3b067_13 (sc_c2 _) ?_
  exact z_iret C dJ1_charAt_3b067_14 (sc_nar _) rfl rfl
theorem ct_charAt (l : Launch) (G : zG) (X : va_W) (i : Nat) (hi : i < 6) (j : Int32) : zCt l yJ0_charAt_5068e cJ0_charAt_5068e 2 (some .char) 4 G [.ref (G.1.2.1 i), .int j] (fun _ : Unit => X) (fun _ : Unit => some (.int (zCh i j))) (fun _ => ()) () (f_charAt i j) := by
  refine zCt.of (by decide) (Nat.le_of_ble_eq_true rfl) (fun p e s m args below meth c A C => ?_)
  refine y_lv (lv' := [(0, .ref (G.1.2.1 i)), (1, .int j)]) rfl ?_
  rw [show f_charAt i j = (f_charAt i j).bind (fun r => some r) from by cases f_charAt i j <;> rfl]
  refine z_aload_n C 0 dJ0_charAt_5068e_0 rfl ?_
  refine y_callK C (z_invT C [] [] (ct_isLatin1 l G X i hi) mi_J0_isLatin1_aae02 md_J0_isLatin1_aae02 ms_J0_isLatin1_aae02 ml_RJ0_492 hi rfl (by decide) rfl rfl dJ0_charAt_5068e_1 (Nat.le_of_ble_eq_true rfl)) (List.Perm.refl _) ?_
  refine z_ifeqF C 16 dJ0_charAt_5068e_4 (by decide) (by decide) ?_
  refine z_aload_n C 0 dJ0_charAt_5068e_7 rfl ?_
  refine y_getV C hi rfl 1231 (by decide +kernel) dJ0_charAt_5068e_8 ?_
  refine z_iload_n C 1 dJ0_charAt_5068e_11 rfl ?_
  refine y_callB C (z_invS C [.ref (G.1.2.2 i), .int j] [] (ct_lchar l G X i hi j) mi_J1_charAt_3b067 mt_J1_charAt_3b067 ml_RJ0_495 (by decide) rfl rfl dJ0_charAt_5068e_12 (Nat.le_of_ble_eq_true rfl)) (List.Perm.refl _) (fun r => ?_)
  exact z_iret C dJ0_charAt_5068e_15 (sc_nar _) rfl rfl
noncomputable def f_X4_isName_28 (i : Nat) : Nat → zM → Int32 → Option Bool
  | 0, _, _ => none
  | n + 1, u, v2 => if zLenV i ≤ v2 then some true else if z_in ((u 0 3) + v2) 160 = true then (f_charAt i v2).bind fun _ => if (u 1 (Int32.toNatClampNeg ((u 0 3) + v2))) = zCh i v2 then f_X4_isName_28 i n u (v2 + 1) else some false else none
theorem w_X4_isName_28 {p : Program} {l : Launch} {e : Env} {s : State} {m : MethodId} {args : Array Value} {below : List Frame} {meth : Method} {c : Code} {G : zG} {A : Nat → Prop} (C : zC p s m args meth c RX4 cX4_isName 3 (some .boolean) G A) (a : Nat → Nat) (X : va_W) (u : zM) (i : Nat) (hi : i < 6) : ∀ (n : Nat) (v2 : Int32), PW p l e 5 s m args below meth c G A 3 (fun u : zM => wTp a G.2 u ++ X) (fun r : Bool => some (.int (zb r))) (fun _ => u) u [(0, .ref (a 0)), (1, .ref (G.1.2.1 i)), (2, .int v2)] 28 [] (f_X4_isName_28 i n u v2) := by
  intro n
  induction n with
  | zero => intros; exact z_none
  | succ n ih =>
    intro v2
    rw [f_X4_isName_28]
    refine z_iload_n C 2 dX4_isName_28 rfl ?_
    refine z_aload_n C 1 dX4_isName_29 rfl ?_
    refine y_callK C (z_invT C [] [.int v2] (ct_length l G (wTp a G.2 u ++ X) i hi) mi_J0_length_8abf5 md_J0_length_8abf5 ms_J0_length_8abf5 ml_RX4_44 hi rfl (by decide) rfl rfl dX4_isName_30 (Nat.le_of_ble_eq_true rfl)) (List.Perm.refl _) ?_
    refine z_icmpge C 63 dX4_isName_33 (by decide) ?_ ?_
    · refine z_iconst (v := 1) C dX4_isName_63 (by decide) ?_
      exact z_zret (b := true) C dX4_isName_64 rfl rfl
    refine z_aload_n C 0 dX4_isName_36 rfl ?_
    refine z_get C fl_RX4_9 has_Tp_0 rfl dX4_isName_37 ?_
    refine z_aload_n C 0 dX4_isName_40 rfl ?_
    refine z_get C fl_RX4_22 has_Tp_0 rfl dX4_isName_41 ?_
    refine z_iload_n C 2 dX4_isName_44 rfl ?_
    refine z_iadd C dX4_isName_45 ?_
    refine y_bald C has_Tp_1 dX4_isName_46 ?_
    refine z_aload_n C 1 dX4_isName_47 rfl ?_
    refine z_iload_n C 2 dX4_isName_48 rfl ?_
    refine y_callB C (z_invT C [.int v2] [.int (u 1 (Int32.toNatClampNeg ((u 0 3) + v2)))] (ct_charAt l G (wTp a G.2 u ++ X) i hi v2) mi_J0_charAt_5068e md_J0_charAt_5068e ms_J0_charAt_5068e ml_RX4_49 hi rfl (by decide) rfl rfl dX4_isName_49 (Nat.le_of_ble_eq_true rfl)) (List.Perm.refl _) (fun r => ?_)
    refine z_icmpeq C 57 dX4_isName_52 (by decide) ?_ ?_
    · refine z_iinc C (v := (v2 + 1)) 2 [(2, .int (v2 + 1)), (0, .ref (a 0)), (1, .ref (G.1.2.1 i))] dX4_isName_57 rfl rfl (by decide) rfl ?_
      refine z_goto C 28 dX4_isName_60 (by decide) ?_
      refine z_loc C [(0, .ref (a 0)), (1, .ref (G.1.2.1 i)), (2, .int (v2 + 1))] [1, 2, 0] rfl ?_
      exact ih (v2 + 1)
    refine z_iconst (v := 0) C dX4_isName_55 (by decide) ?_
    exact z_zret (b := false) C dX4_isName_56 rfl rfl
noncomputable def f_X4_isName (u : zM) (i : Nat) : Option Bool := if (u 0 2) = 1 then if ((u 0 4) - (u 0 3)) = zLenV i then f_X4_isName_28 i FU u 0 else some false else some false
theorem ct_X4_isName (l : Launch) (G : zG) (a : Nat → Nat) (X : va_W) (u : zM) (i : Nat) (hi : i < 6) : zCt l yX4_isName cX4_isName 3 (some .boolean) 5 G [.ref (a 0), .ref (G.1.2.1 i)] (fun u : zM => wTp a G.2 u ++ X) (fun r : Bool => some (.int (zb r))) (fun _ => u) u (f_X4_isName u i) := by
  refine zCt.of (by decide) (Nat.le_of_ble_eq_true rfl) (fun p e s m args below meth c A C => ?_)
  refine y_lv (lv' := [(0, .ref (a 0)), (1, .ref (G.1.2.1 i))]) rfl ?_
  rw [f_X4_isName]
  refine z_aload_n C 0 dX4_isName_0 rfl ?_
  refine z_get C fl_RX4_19 has_Tp_0 rfl dX4_isName_1 ?_
  refine z_iconst (v := 1) C dX4_isName_4 (by decide) ?_
  refine z_icmpne C 24 dX4_isName_5 (by decide) ?_ ?_
  · refine z_aload_n C 0 dX4_isName_8 rfl ?_
    refine z_get C fl_RX4_25 has_Tp_0 rfl dX4_isName_9 ?_
    refine z_aload_n C 0 dX4_isName_12 rfl ?_
    refine z_get C fl_RX4_22 has_Tp_0 rfl dX4_isName_13 ?_
    refine z_isub C dX4_isName_16 ?_
    refine z_aload_n C 1 dX4_isName_17 rfl ?_
    refine y_callK C (z_invT C [] [.int ((u 0 4) - (u 0 3))] (ct_length l G (wTp a G.2 u ++ X) i hi) mi_J0_length_8abf5 md_J0_length_8abf5 ms_J0_length_8abf5 ml_RX4_44 hi rfl (by decide) rfl rfl dX4_isName_18 (Nat.le_of_ble_eq_true rfl)) (List.Perm.refl _) ?_
    refine z_icmpeq C 26 dX4_isName_21 (by decide) ?_ ?_
    · refine z_iconst (v := 0) C dX4_isName_26 (by decide) ?_
      refine z_istore_n C [(2, .int 0), (0, .ref (a 0)), (1, .ref (G.1.2.1 i))] dX4_isName_27 (by decide) rfl ?_
      refine z_loc C [(0, .ref (a 0)), (1, .ref (G.1.2.1 i)), (2, .int 0)] [1, 2, 0] rfl ?_
      exact w_X4_isName_28 C a X u i hi FU 0
    refine z_iconst (v := 0) C dX4_isName_24 (by decide) ?_
    exact z_zret (b := false) C dX4_isName_25 rfl rfl
  refine z_iconst (v := 0) C dX4_isName_24 (by decide) ?_
  exact z_zret (b := false) C dX4_isName_25 rfl rfl
noncomputable def f_X5_lineNamed (S : Nat → zM) : Option Int32 := (f_X4_isName (S 1) 0).bind fun r1 => if r1 = true then some 4 else (f_X4_isName (S 1) 1).bind fun r2 => if r2 = true then some 0 else (f_X4_isName (S 1) 2).bind fun r3 => if r3 = true then some 1 else (f_X4_isName (S 1) 3).bind fun r4 => if r4 = true then some 2 else (f_X4_isName (S 1) 4).bind fun r5 => if r5 = true then some 3 else (f_X4_isName (S 1) 5).bind fun r6 => if r6 = true then some 5 else some 6
theorem ct_X5_lineNamed (l : Launch) (G : zG) (ad : Nat → Nat → Nat) (X : va_W) (S : Nat → zM) : zCt l yX5_lineNamed cX5_lineNamed 1 (some .int) 6 G [.ref (ad 2 0)] (fun S : Nat → zM => wT3 ad G.2 S ++ X) (fun r : Int32 => some (.int r)) (fun _ => S) S (f_X5_lineNamed S) := by
  refine zCt.of (by decide) (Nat.le_of_ble_eq_true rfl) (fun p e s m args below meth c A C => ?_)
  refine y_lv (lv' := [(0, .ref (ad 2 0))]) rfl ?_
  rw [f_X5_lineNamed]
  refine z_aload_n C 0 dX5_lineNamed_0 rfl ?_
  refine z_get C fl_RX5_35 (zHas.perm t3Out2 has_Tl_0) rfl dX5_lineNamed_1 ?_
  refine y_ldcS C 0 (by decide) rfl rfl dX5_lineNamed_4 ?_
  refine y_callZ C (z_invV C [.ref (G.1.2.1 0)] [] (ct_X4_isName l G (ad 1) (wTl ad G.2 (S 2) ++ (wC (ad 3) G.2 (S 3) ++ X)) (S 1) 0 (by decide)) mi_X4_isName md_X4_isName ms_X4_isName ml_RX5_112 has_Tp_0 ⟨_, rfl, rfl⟩ (by decide) rfl rfl dX5_lineNamed_6 (Nat.le_of_ble_eq_true rfl)) t3Out1 (fun r1 => ?_)
  refine z_zifeq C 14 dX5_lineNamed_9 (by decide) ?_ ?_
  · refine z_iconst (v := 4) C dX5_lineNamed_12 (by decide) ?_
    exact z_iret C dX5_lineNamed_13 rfl rfl rfl
  refine z_aload_n C 0 dX5_lineNamed_14 rfl ?_
  refine z_get C fl_RX5_35 (zHas.perm t3Out2 has_Tl_0) rfl dX5_lineNamed_15 ?_
  refine y_ldcS C 1 (by decide) rfl rfl dX5_lineNamed_18 ?_
  refine y_callZ C (z_invV C [.ref (G.1.2.1 1)] [] (ct_X4_isName l G (ad 1) (wTl ad G.2 (S 2) ++ (wC (ad 3) G.2 (S 3) ++ X)) (S 1) 1 (by decide)) mi_X4_isName md_X4_isName ms_X4_isName ml_RX5_112 has_Tp_0 ⟨_, rfl, rfl⟩ (by decide) rfl rfl dX5_lineNamed_20 (Nat.le_of_ble_eq_true rfl)) t3Out1 (fun r2 => ?_)
  refine z_zifeq C 28 dX5_lineNamed_23 (by decide) ?_ ?_
  · refine z_iconst (v := 0) C dX5_lineNamed_26 (by decide) ?_
    exact z_iret C dX5_lineNamed_27 rfl rfl rfl
  refine z_aload_n C 0 dX5_lineNamed_28 rfl ?_
  refine z_get C fl_RX5_35 (zHas.perm t3Out2 has_Tl_0) rfl dX5_lineNamed_29 ?_
  refine y_ldcS C 2 (by decide) rfl rfl dX5_lineNamed_32 ?_
  refine y_callZ C (z_invV C [.ref (G.1.2.1 2)] [] (ct_X4_isName l G (ad 1) (wTl ad G.2 (S 2) ++ (wC (ad 3) G.2 (S 3) ++ X)) (S 1) 2 (by decide)) mi_X4_isName md_X4_isName ms_X4_isName ml_RX5_112 has_Tp_0 ⟨_, rfl, rfl⟩ (by decide) rfl rfl dX5_lineNamed_34 (Nat.le_of_ble_eq_true rfl)) t3Out1 (fun r3 => ?_)
  refine z_zifeq C 42 dX5_lineNamed_37 (by decide) ?_ ?_
  · refine z_iconst (v := 1) C dX5_lineNamed_40 (by decide) ?_
    exact z_iret C dX5_lineNamed_41 rfl rfl rfl
  refine z_aload_n C 0 dX5_lineNamed_42 rfl ?_
  refine z_get C fl_RX5_35 (zHas.perm t3Out2 has_Tl_0) rfl dX5_lineNamed_43 ?_
  refine y_ldcS C 3 (by decide) rfl rfl dX5_lineNamed_46 ?_
  refine y_callZ C (z_invV C [.ref (G.1.2.1 3)] [] (ct_X4_isName l G (ad 1) (wTl ad G.2 (S 2) ++ (wC (ad 3) G.2 (S 3) ++ X)) (S 1) 3 (by decide)) mi_X4_isName md_X4_isName ms_X4_isName ml_RX5_112 has_Tp_0 ⟨_, rfl, rfl⟩ (by decide) rfl rfl dX5_lineNamed_48 (Nat.le_of_ble_eq_true rfl)) t3Out1 (fun r4 => ?_)
  refine z_zifeq C 56 dX5_lineNamed_51 (by decide) ?_ ?_
  · refine z_iconst (v := 2) C dX5_lineNamed_54 (by decide) ?_
    exact z_iret C dX5_lineNamed_55 rfl rfl rfl
  refine z_aload_n C 0 dX5_lineNamed_56 rfl ?_
  refine z_get C fl_RX5_35 (zHas.perm t3Out2 has_Tl_0) rfl dX5_lineNamed_57 ?_
  refine y_ldcS C 4 (by decide) rfl rfl dX5_lineNamed_60 ?_
  refine y_callZ C (z_invV C [.ref (G.1.2.1 4)] [] (ct_X4_isName l G (ad 1) (wTl ad G.2 (S 2) ++ (wC (ad 3) G.2 (S 3) ++ X)) (S 1) 4 (by decide)) mi_X4_isName md_X4_isName ms_X4_isName ml_RX5_112 has_Tp_0 ⟨_, rfl, rfl⟩ (by decide) rfl rfl dX5_lineNamed_62 (Nat.le_of_ble_eq_true rfl)) t3Out1 (fun r5 => ?_)
  refine z_zifeq C 70 dX5_lineNamed_65 (by decide) ?_ ?_
  · refine z_iconst (v := 3) C dX5_lineNamed_68 (by decide) ?_
    exact z_iret C dX5_lineNamed_69 rfl rfl rfl
  refine z_aload_n C 0 dX5_lineNamed_70 rfl ?_
  refine z_get C fl_RX5_35 (zHas.perm t3Out2 has_Tl_0) rfl dX5_lineNamed_71 ?_
  refine y_ldcS C 5 (by decide) rfl rfl dX5_lineNamed_74 ?_
  refine y_callZ C (z_invV C [.ref (G.1.2.1 5)] [] (ct_X4_isName l G (ad 1) (wTl ad G.2 (S 2) ++ (wC (ad 3) G.2 (S 3) ++ X)) (S 1) 5 (by decide)) mi_X4_isName md_X4_isName ms_X4_isName ml_RX5_112 has_Tp_0 ⟨_, rfl, rfl⟩ (by decide) rfl rfl dX5_lineNamed_76 (Nat.le_of_ble_eq_true rfl)) t3Out1 (fun r6 => ?_)
  refine z_zifeq C 86 dX5_lineNamed_79 (by decide) ?_ ?_
  · refine z_iconst (v := 5) C dX5_lineNamed_82 (by decide) ?_
    refine z_goto C 88 dX5_lineNamed_83 (by decide) ?_
    exact z_iret C dX5_lineNamed_88 rfl rfl rfl
  refine z_bipush (v := 6) C dX5_lineNamed_86 (by decide) ?_
  exact z_iret C dX5_lineNamed_88 rfl rfl rfl
