noncomputable def f_J6_bitCount_0f7a4 (v0 : Int32) : Option (Int32) := some ((((((((v0 - ((z_ushr v0 1) &&& 1431655765)) &&& 858993459) + ((z_ushr (v0 - ((z_ushr v0 1) &&& 1431655765)) 2) &&& 858993459)) + (z_ushr (((v0 - ((z_ushr v0 1) &&& 1431655765)) &&& 858993459) + ((z_ushr (v0 - ((z_ushr v0 1) &&& 1431655765)) 2) &&& 858993459)) 4)) &&& 252645135) + (z_ushr (((((v0 - ((z_ushr v0 1) &&& 1431655765)) &&& 858993459) + ((z_ushr (v0 - ((z_ushr v0 1) &&& 1431655765)) 2) &&& 858993459)) + (z_ushr (((v0 - ((z_ushr v0 1) &&& 1431655765)) &&& 858993459) + ((z_ushr (v0 - ((z_ushr v0 1) &&& 1431655765)) 2) &&& 858993459)) 4)) &&& 252645135) 8)) + (z_ushr ((((((v0 - ((z_ushr v0 1) &&& 1431655765)) &&& 858993459) + ((z_ushr (v0 - ((z_ushr v0 1) &&& 1431655765)) 2) &&& 858993459)) + (z_ushr (((v0 - ((z_ushr v0 1) &&& 1431655765)) &&& 858993459) + ((z_ushr (v0 - ((z_ushr v0 1) &&& 1431655765)) 2) &&& 858993459)) 4)) &&& 252645135) + (z_ushr (((((v0 - ((z_ushr v0 1) &&& 1431655765)) &&& 858993459) + ((z_ushr (v0 - ((z_ushr v0 1) &&& 1431655765)) 2) &&& 858993459)) + (z_ushr (((v0 - ((z_ushr v0 1) &&& 1431655765)) &&& 858993459) + ((z_ushr (v0 - ((z_ushr v0 1) &&& 1431655765)) 2) &&& 858993459)) 4)) &&& 252645135) 8)) 16)) &&& 63)
set_option maxHeartbeats 4000000 in
set_option maxRecDepth 100000 in
theorem ct_J6_bitCount_0f7a4 (l : Launch) (G : zG) (X : va_W) (v0 : Int32) : zCt l yJ6_bitCount_0f7a4 cJ6_bitCount_0f7a4 1 (some .int) 1 G [.int v0] (fun _ : Unit => X) (fun r : Int32 => some (.int r)) (fun _ => ()) () (f_J6_bitCount_0f7a4 v0) := by
  refine zCt.of (by decide) (Nat.le_of_ble_eq_true rfl) (fun p e s m args below meth c A C => ?_)
  refine y_lv (lv' := [(0, .int v0)]) rfl ?_
  rw [f_J6_bitCount_0f7a4]
  refine z_iload_n C 0 dJ6_bitCount_0f7a4_0 rfl ?_
  refine z_iload_n C 0 dJ6_bitCount_0f7a4_1 rfl ?_
  refine z_iconst (v := 1) C dJ6_bitCount_0f7a4_2 (by decide) ?_
  refine z_iushr C dJ6_bitCount_0f7a4_3 ?_
  refine z_ldcw C kc_RJ6_265 dJ6_bitCount_0f7a4_4 ?_
  refine z_iand C dJ6_bitCount_0f7a4_7 ?_
  refine z_isub C dJ6_bitCount_0f7a4_8 ?_
  refine z_istore_n C [(0, .int (v0 - ((z_ushr v0 1) &&& 1431655765)))] dJ6_bitCount_0f7a4_9 (by decide) rfl ?_
  refine z_iload_n C 0 dJ6_bitCount_0f7a4_10 rfl ?_
  refine z_ldcw C kc_RJ6_266 dJ6_bitCount_0f7a4_11 ?_
  refine z_iand C dJ6_bitCount_0f7a4_14 ?_
  refine z_iload_n C 0 dJ6_bitCount_0f7a4_15 rfl ?_
  refine z_iconst (v := 2) C dJ6_bitCount_0f7a4_16 (by decide) ?_
  refine z_iushr C dJ6_bitCount_0f7a4_17 ?_
  refine z_ldcw C kc_RJ6_266 dJ6_bitCount_0f7a4_18 ?_
  refine z_iand C dJ6_bitCount_0f7a4_21 ?_
  refine z_iadd C dJ6_bitCount_0f7a4_22 ?_
  refine z_istore_n C [(0, .int (((v0 - ((z_ushr v0 1) &&& 1431655765)) &&& 858993459) + ((z_ushr (v0 - ((z_ushr v0 1) &&& 1431655765)) 2) &&& 858993459)))] dJ6_bitCount_0f7a4_23 (by decide) rfl ?_
  refine z_iload_n C 0 dJ6_bitCount_0f7a4_24 rfl ?_
  refine z_iload_n C 0 dJ6_bitCount_0f7a4_25 rfl ?_
  refine z_iconst (v := 4) C dJ6_bitCount_0f7a4_26 (by decide) ?_
  refine z_iushr C dJ6_bitCount_0f7a4_27 ?_
  refine z_iadd C dJ6_bitCount_0f7a4_28 ?_
  refine z_ldcw C kc_RJ6_267 dJ6_bitCount_0f7a4_29 ?_
  refine z_iand C dJ6_bitCount_0f7a4_32 ?_
  refine z_istore_n C [(0, .int (((((v0 - ((z_ushr v0 1) &&& 1431655765)) &&& 858993459) + ((z_ushr (v0 - ((z_ushr v0 1) &&& 1431655765)) 2) &&& 858993459)) + (z_ushr (((v0 - ((z_ushr v0 1) &&& 1431655765)) &&& 858993459) + ((z_ushr (v0 - ((z_ushr v0 1) &&& 1431655765)) 2) &&& 858993459)) 4)) &&& 252645135))] dJ6_bitCount_0f7a4_33 (by decide) rfl ?_
  refine z_iload_n C 0 dJ6_bitCount_0f7a4_34 rfl ?_
  refine z_iload_n C 0 dJ6_bitCount_0f7a4_35 rfl ?_
  refine z_bipush (v := 8) C dJ6_bitCount_0f7a4_36 (by decide) ?_
  refine z_iushr C dJ6_bitCount_0f7a4_38 ?_
  refine z_iadd C dJ6_bitCount_0f7a4_39 ?_
  refine z_istore_n C [(0, .int ((((((v0 - ((z_ushr v0 1) &&& 1431655765)) &&& 858993459) + ((z_ushr (v0 - ((z_ushr v0 1) &&& 1431655765)) 2) &&& 858993459)) + (z_ushr (((v0 - ((z_ushr v0 1) &&& 1431655765)) &&& 858993459) + ((z_ushr (v0 - ((z_ushr v0 1) &&& 1431655765)) 2) &&& 858993459)) 4)) &&& 252645135) + (z_ushr (((((v0 - ((z_ushr v0 1) &&& 1431655765)) &&& 858993459) + ((z_ushr (v0 - ((z_ushr v0 1) &&& 1431655765)) 2) &&& 858993459)) + (z_ushr (((v0 - ((z_ushr v0 1) &&& 1431655765)) &&& 858993459) + ((z_ushr (v0 - ((z_ushr v0 1) &&& 1431655765)) 2) &&& 858993459)) 4)) &&& 252645135) 8)))] dJ6_bitCount_0f7a4_40 (by decide) rfl ?_
  refine z_iload_n C 0 dJ6_bitCount_0f7a4_41 rfl ?_
  refine z_iload_n C 0 dJ6_bitCount_0f7a4_42 rfl ?_
  refine z_bipush (v := 16) C dJ6_bitCount_0f7a4_43 (by decide) ?_
  refine z_iushr C dJ6_bitCount_0f7a4_45 ?_
  refine z_iadd C dJ6_bitCount_0f7a4_46 ?_
  refine z_istore_n C [(0, .int (((((((v0 - ((z_ushr v0 1) &&& 1431655765)) &&& 858993459) + ((z_ushr (v0 - ((z_ushr v0 1) &&& 1431655765)) 2) &&& 858993459)) + (z_ushr (((v0 - ((z_ushr v0 1) &&& 1431655765)) &&& 858993459) + ((z_ushr (v0 - ((z_ushr v0 1) &&& 1431655765)) 2) &&& 858993459)) 4)) &&& 252645135) + (z_ushr (((((v0 - ((z_ushr v0 1) &&& 1431655765)) &&& 858993459) + ((z_ushr (v0 - ((z_ushr v0 1) &&& 1431655765)) 2) &&& 858993459)) + (z_ushr (((v0 - ((z_ushr v0 1) &&& 1431655765)) &&& 858993459) + ((z_ushr (v0 - ((z_ushr v0 1) &&& 1431655765)) 2) &&& 858993459)) 4)) &&& 252645135) 8)) + (z_ushr ((((((v0 - ((z_ushr v0 1) &&& 1431655765)) &&& 858993459) + ((z_ushr (v0 - ((z_ushr v0 1) &&& 1431655765)) 2) &&& 858993459)) + (z_ushr (((v0 - ((z_ushr v0 1) &&& 1431655765)) &&& 858993459) + ((z_ushr (v0 - ((z_ushr v0 1) &&& 1431655765)) 2) &&& 858993459)) 4)) &&& 252645135) + (z_ushr (((((v0 - ((z_ushr v0 1) &&& 1431655765)) &&& 858993459) + ((z_ushr (v0 - ((z_ushr v0 1) &&& 1431655765)) 2) &&& 858993459)) + (z_ushr (((v0 - ((z_ushr v0 1) &&& 1431655765)) &&& 858993459) + ((z_ushr (v0 - ((z_ushr v0 1) &&& 1431655765)) 2) &&& 858993459)) 4)) &&& 252645135) 8)) 16)))] dJ6_bitCount_0f7a4_47 (by decide) rfl ?_
  refine z_iload_n C 0 dJ6_bitCount_0f7a4_48 rfl ?_
  refine z_bipush (v := 63) C dJ6_bitCount_0f7a4_49 (by decide) ?_
  refine z_iand C dJ6_bitCount_0f7a4_51 ?_
  exact z_iret C dJ6_bitCount_0f7a4_52 rfl rfl rfl
noncomputable def f_X4_isFigure (v0 : Int32) : Option (Bool) := if v0 < 48 then some false else if 57 < v0 then some false else some true
set_option maxHeartbeats 4000000 in
set_option maxRecDepth 100000 in
theorem ct_X4_isFigure (l : Launch) (G : zG) (X : va_W) (v0 : Int32) : zCt l yX4_isFigure cX4_isFigure 1 (some .boolean) 1 G [.int v0] (fun _ : Unit => X) (fun r : Bool => some (.int (zb r))) (fun _ => ()) () (f_X4_isFigure v0) := by
  refine zCt.of (by decide) (Nat.le_of_ble_eq_true rfl) (fun p e s m args below meth c A C => ?_)
  refine y_lv (lv' := [(0, .int v0)]) rfl ?_
  rw [f_X4_isFigure]
  refine z_iload_n C 0 dX4_isFigure_0 rfl ?_
  refine z_bipush (v := 48) C dX4_isFigure_1 (by decide) ?_
  refine z_icmplt C 16 dX4_isFigure_3 (by decide) ?_ ?_
  · refine z_iconst (v := 0) C dX4_isFigure_16 (by decide) ?_
    exact z_zret (b := false) C dX4_isFigure_17 rfl rfl
  refine z_iload_n C 0 dX4_isFigure_6 rfl ?_
  refine z_bipush (v := 57) C dX4_isFigure_7 (by decide) ?_
  refine z_icmpgt C 16 dX4_isFigure_9 (by decide) ?_ ?_
  · refine z_iconst (v := 0) C dX4_isFigure_16 (by decide) ?_
    exact z_zret (b := false) C dX4_isFigure_17 rfl rfl
  refine z_iconst (v := 1) C dX4_isFigure_12 (by decide) ?_
  refine z_goto C 17 dX4_isFigure_13 (by decide) ?_
  exact z_zret (b := true) C dX4_isFigure_17 rfl rfl
noncomputable def f_X4_isLetter (v0 : Int32) : Option (Bool) := if v0 < 97 then some false else if 122 < v0 then some false else some true
set_option maxHeartbeats 4000000 in
set_option maxRecDepth 100000 in
theorem ct_X4_isLetter (l : Launch) (G : zG) (X : va_W) (v0 : Int32) : zCt l yX4_isLetter cX4_isLetter 1 (some .boolean) 1 G [.int v0] (fun _ : Unit => X) (fun r : Bool => some (.int (zb r))) (fun _ => ()) () (f_X4_isLetter v0) := by
  refine zCt.of (by decide) (Nat.le_of_ble_eq_true rfl) (fun p e s m args below meth c A C => ?_)
  refine y_lv (lv' := [(0, .int v0)]) rfl ?_
  rw [f_X4_isLetter]
  refine z_iload_n C 0 dX4_isLetter_0 rfl ?_
  refine z_bipush (v := 97) C dX4_isLetter_1 (by decide) ?_
  refine z_icmplt C 16 dX4_isLetter_3 (by decide) ?_ ?_
  · refine z_iconst (v := 0) C dX4_isLetter_16 (by decide) ?_
    exact z_zret (b := false) C dX4_isLetter_17 rfl rfl
  refine z_iload_n C 0 dX4_isLetter_6 rfl ?_
  refine z_bipush (v := 122) C dX4_isLetter_7 (by decide) ?_
  refine z_icmpgt C 16 dX4_isLetter_9 (by decide) ?_ ?_
  · refine z_iconst (v := 0) C dX4_isLetter_16 (by decide) ?_
    exact z_zret (b := false) C dX4_isLetter_17 rfl rfl
  refine z_iconst (v := 1) C dX4_isLetter_12 (by decide) ?_
  refine z_goto C 17 dX4_isLetter_13 (by decide) ?_
  exact z_zret (b := true) C dX4_isLetter_17 rfl rfl
noncomputable def f_X5_numbersOf (v0 : Int32) : Option (Int32) := if v0 = 4 then some 1 else if v0 = 5 then some 2 else some 3
set_option maxHeartbeats 4000000 in
set_option maxRecDepth 100000 in
theorem ct_X5_numbersOf (l : Launch) (G : zG) (X : va_W) (v0 : Int32) : zCt l yX5_numbersOf cX5_numbersOf 1 (some .int) 1 G [.int v0] (fun _ : Unit => X) (fun r : Int32 => some (.int r)) (fun _ => ()) () (f_X5_numbersOf v0) := by
  refine zCt.of (by decide) (Nat.le_of_ble_eq_true rfl) (fun p e s m args below meth c A C => ?_)
  refine y_lv (lv' := [(0, .int v0)]) rfl ?_
  rw [f_X5_numbersOf]
  refine z_iload_n C 0 dX5_numbersOf_0 rfl ?_
  refine z_iconst (v := 4) C dX5_numbersOf_1 (by decide) ?_
  refine z_icmpne C 7 dX5_numbersOf_2 (by decide) ?_ ?_
  · refine z_iconst (v := 1) C dX5_numbersOf_5 (by decide) ?_
    exact z_iret C dX5_numbersOf_6 rfl rfl rfl
  refine z_iload_n C 0 dX5_numbersOf_7 rfl ?_
  refine z_iconst (v := 5) C dX5_numbersOf_8 (by decide) ?_
  refine z_icmpne C 16 dX5_numbersOf_9 (by decide) ?_ ?_
  · refine z_iconst (v := 2) C dX5_numbersOf_12 (by decide) ?_
    refine z_goto C 17 dX5_numbersOf_13 (by decide) ?_
    exact z_iret C dX5_numbersOf_17 rfl rfl rfl
  refine z_iconst (v := 3) C dX5_numbersOf_16 (by decide) ?_
  exact z_iret C dX5_numbersOf_17 rfl rfl rfl
noncomputable def f_X6_fractionOfTens_76 (k32 : Int32 → Int32 → Int64 → Int64 → Int32 → Option (Int64)) (v2 : Int32) (v3 : Int32) (v4 : Int64) (v6 : Int64) (v8 : Int32) : Option (Int64) := if (lg_cmp (v4 - v4 / (5 : Int64) * (5 : Int64)) (0 : Int64)) = 0 then if (lg_cmp (v6 - v6 / (5 : Int64) * (5 : Int64)) (0 : Int64)) = 0 then k32 v2 v3 (v4 / (5 : Int64)) (v6 / (5 : Int64)) (v8 + 1) else k32 v2 v3 v4 v6 (v8 + 1) else k32 v2 v3 v4 v6 (v8 + 1)
set_option maxHeartbeats 4000000 in
set_option maxRecDepth 100000 in
theorem w_X6_fractionOfTens_76 {p : Program} {l : Launch} {e : Env} {s : State} {m : MethodId} {args : Array Value} {below : List Frame} {meth : Method} {c : Code} {G : zG} {A : Nat → Prop} (C : zC p s m args meth c RX6 cX6_fractionOfTens 9 (some .long) G A) (X : va_W) (k32 : Int32 → Int32 → Int64 → Int64 → Int32 → Option (Int64)) (hk32 : ∀ (v2 : Int32) (v3 : Int32) (v4 : Int64) (v6 : Int64) (v8 : Int32), PW p l e 1 s m args below meth c G A 9 (fun _ : Unit => X) (fun r : Int64 => some (.long r)) (fun _ => ()) () [(2, .int v2), (3, .int v3), (4, .long v4), (6, .long v6), (8, .int v8)] 32 [] (k32 v2 v3 v4 v6 v8)) : ∀ (v2 : Int32) (v3 : Int32) (v4 : Int64) (v6 : Int64) (v8 : Int32), PW p l e 1 s m args below meth c G A 9 (fun _ : Unit => X) (fun r : Int64 => some (.long r)) (fun _ => ()) () [(2, .int v2), (3, .int v3), (4, .long v4), (6, .long v6), (8, .int v8)] 76 [] (f_X6_fractionOfTens_76 k32 v2 v3 v4 v6 v8) := by
  intro v2 v3 v4 v6 v8
  rw [f_X6_fractionOfTens_76]
  refine z_lload C 2 dX6_fractionOfTens_76 rfl ?_
  refine z_ldc2 C kc_RX6_288 dX6_fractionOfTens_78 ?_
  refine z_lremK C (by decide) dX6_fractionOfTens_81 ?_
  refine z_lconst (v := 0) C dX6_fractionOfTens_82 (by decide) ?_
  refine z_lcmp C dX6_fractionOfTens_83 ?_
  refine z_ifne C 114 dX6_fractionOfTens_84 (by decide) ?_ ?_
  · refine z_lload C 3 dX6_fractionOfTens_87 rfl ?_
    refine z_ldc2 C kc_RX6_288 dX6_fractionOfTens_89 ?_
    refine z_lremK C (by decide) dX6_fractionOfTens_92 ?_
    refine z_lconst (v := 0) C dX6_fractionOfTens_93 (by decide) ?_
    refine z_lcmp C dX6_fractionOfTens_94 ?_
    refine z_ifne C 114 dX6_fractionOfTens_95 (by decide) ?_ ?_
    · refine z_lload C 2 dX6_fractionOfTens_98 rfl ?_
      refine z_ldc2 C kc_RX6_288 dX6_fractionOfTens_100 ?_
      refine z_ldivK C (by decide) dX6_fractionOfTens_103 ?_
      refine z_lstore C [(4, .long (v4 / (5 : Int64))), (2, .int v2), (3, .int v3), (6, .long v6), (8, .int v8)] dX6_fractionOfTens_104 (by decide) rfl ?_
      refine z_lload C 3 dX6_fractionOfTens_106 rfl ?_
      refine z_ldc2 C kc_RX6_288 dX6_fractionOfTens_108 ?_
      refine z_ldivK C (by decide) dX6_fractionOfTens_111 ?_
      refine z_lstore C [(6, .long (v6 / (5 : Int64))), (4, .long (v4 / (5 : Int64))), (2, .int v2), (3, .int v3), (8, .int v8)] dX6_fractionOfTens_112 (by decide) rfl ?_
      refine z_iinc C (v := (v8 + 1)) 4 [(8, .int (v8 + 1)), (6, .long (v6 / (5 : Int64))), (4, .long (v4 / (5 : Int64))), (2, .int v2), (3, .int v3)] dX6_fractionOfTens_114 rfl rfl (by decide) rfl ?_
      refine z_goto C 32 dX6_fractionOfTens_117 (by decide) ?_
      refine z_loc C [(2, .int v2), (3, .int v3), (4, .long (v4 / (5 : Int64))), (6, .long (v6 / (5 : Int64))), (8, .int (v8 + 1))] [3, 4, 2, 1, 0] rfl ?_
      exact hk32 v2 v3 (v4 / (5 : Int64)) (v6 / (5 : Int64)) (v8 + 1)
    refine z_iinc C (v := (v8 + 1)) 4 [(8, .int (v8 + 1)), (2, .int v2), (3, .int v3), (4, .long v4), (6, .long v6)] dX6_fractionOfTens_114 rfl rfl (by decide) rfl ?_
    refine z_goto C 32 dX6_fractionOfTens_117 (by decide) ?_
    refine z_loc C [(2, .int v2), (3, .int v3), (4, .long v4), (6, .long v6), (8, .int (v8 + 1))] [1, 2, 3, 4, 0] rfl ?_
    exact hk32 v2 v3 v4 v6 (v8 + 1)
  refine z_iinc C (v := (v8 + 1)) 4 [(8, .int (v8 + 1)), (2, .int v2), (3, .int v3), (4, .long v4), (6, .long v6)] dX6_fractionOfTens_114 rfl rfl (by decide) rfl ?_
  refine z_goto C 32 dX6_fractionOfTens_117 (by decide) ?_
  refine z_loc C [(2, .int v2), (3, .int v3), (4, .long v4), (6, .long v6), (8, .int (v8 + 1))] [1, 2, 3, 4, 0] rfl ?_
  exact hk32 v2 v3 v4 v6 (v8 + 1)
noncomputable def f_X6_fractionOfTens_32 : Nat → Int32 → Int32 → Int64 → Int64 → Int32 → Option (Int64)
  | 0, _, _, _, _, _ => none
  | n + 1, v2, v3, v4, v6, v8 => if v2 ≤ v8 then if v3 = 0 then some v4 else some v6 else if (lg_cmp (v4 - v4 / (2 : Int64) * (2 : Int64)) (0 : Int64)) = 0 then if (lg_cmp (v6 - v6 / (2 : Int64) * (2 : Int64)) (0 : Int64)) = 0 then f_X6_fractionOfTens_76 (fun v2 v3 v4 v6 v8 => f_X6_fractionOfTens_32 n v2 v3 v4 v6 v8) v2 v3 (v4 / (2 : Int64)) (v6 / (2 : Int64)) v8 else f_X6_fractionOfTens_76 (fun v2 v3 v4 v6 v8 => f_X6_fractionOfTens_32 n v2 v3 v4 v6 v8) v2 v3 v4 v6 v8 else f_X6_fractionOfTens_76 (fun v2 v3 v4 v6 v8 => f_X6_fractionOfTens_32 n v2 v3 v4 v6 v8) v2 v3 v4 v6 v8
set_option maxHeartbeats 4000000 in
set_option maxRecDepth 100000 in
theorem w_X6_fractionOfTens_32 {p : Program} {l : Launch} {e : Env} {s : State} {m : MethodId} {args : Array Value} {below : List Frame} {meth : Method} {c : Code} {G : zG} {A : Nat → Prop} (C : zC p s m args meth c RX6 cX6_fractionOfTens 9 (some .long) G A) (X : va_W) : ∀ (n : Nat) (v2 : Int32) (v3 : Int32) (v4 : Int64) (v6 : Int64) (v8 : Int32), PW p l e 1 s m args below meth c G A 9 (fun _ : Unit => X) (fun r : Int64 => some (.long r)) (fun _ => ()) () [(2, .int v2), (3, .int v3), (4, .long v4), (6, .long v6), (8, .int v8)] 32 [] (f_X6_fractionOfTens_32 n v2 v3 v4 v6 v8) := by
  intro n
  induction n with
  | zero => intros; exact z_none
  | succ n ih =>
    intro v2 v3 v4 v6 v8
    rw [f_X6_fractionOfTens_32]
    refine z_iload C 4 dX6_fractionOfTens_32 rfl ?_
    refine z_iload_n C 0 dX6_fractionOfTens_34 rfl ?_
    refine z_icmpge C 120 dX6_fractionOfTens_35 (by decide) ?_ ?_
    · refine z_iload_n C 1 dX6_fractionOfTens_120 rfl ?_
      refine z_ifne C 129 dX6_fractionOfTens_121 (by decide) ?_ ?_
      · refine z_lload C 2 dX6_fractionOfTens_124 rfl ?_
        refine z_goto C 131 dX6_fractionOfTens_126 (by decide) ?_
        exact z_lret C dX6_fractionOfTens_131 rfl rfl
      refine z_lload C 3 dX6_fractionOfTens_129 rfl ?_
      exact z_lret C dX6_fractionOfTens_131 rfl rfl
    refine z_lload C 2 dX6_fractionOfTens_38 rfl ?_
    refine z_ldc2 C kc_RX6_286 dX6_fractionOfTens_40 ?_
    refine z_lremK C (by decide) dX6_fractionOfTens_43 ?_
    refine z_lconst (v := 0) C dX6_fractionOfTens_44 (by decide) ?_
    refine z_lcmp C dX6_fractionOfTens_45 ?_
    refine z_ifne C 76 dX6_fractionOfTens_46 (by decide) ?_ ?_
    · refine z_lload C 3 dX6_fractionOfTens_49 rfl ?_
      refine z_ldc2 C kc_RX6_286 dX6_fractionOfTens_51 ?_
      refine z_lremK C (by decide) dX6_fractionOfTens_54 ?_
      refine z_lconst (v := 0) C dX6_fractionOfTens_55 (by decide) ?_
      refine z_lcmp C dX6_fractionOfTens_56 ?_
      refine z_ifne C 76 dX6_fractionOfTens_57 (by decide) ?_ ?_
      · refine z_lload C 2 dX6_fractionOfTens_60 rfl ?_
        refine z_ldc2 C kc_RX6_286 dX6_fractionOfTens_62 ?_
        refine z_ldivK C (by decide) dX6_fractionOfTens_65 ?_
        refine z_lstore C [(4, .long (v4 / (2 : Int64))), (2, .int v2), (3, .int v3), (6, .long v6), (8, .int v8)] dX6_fractionOfTens_66 (by decide) rfl ?_
        refine z_lload C 3 dX6_fractionOfTens_68 rfl ?_
        refine z_ldc2 C kc_RX6_286 dX6_fractionOfTens_70 ?_
        refine z_ldivK C (by decide) dX6_fractionOfTens_73 ?_
        refine z_lstore C [(6, .long (v6 / (2 : Int64))), (4, .long (v4 / (2 : Int64))), (2, .int v2), (3, .int v3), (8, .int v8)] dX6_fractionOfTens_74 (by decide) rfl ?_
        refine z_loc C [(2, .int v2), (3, .int v3), (4, .long (v4 / (2 : Int64))), (6, .long (v6 / (2 : Int64))), (8, .int v8)] [2, 3, 1, 0, 4] rfl ?_
        exact w_X6_fractionOfTens_76 C X  (fun v2 v3 v4 v6 v8 => f_X6_fractionOfTens_32 n v2 v3 v4 v6 v8) ih  v2 v3 (v4 / (2 : Int64)) (v6 / (2 : Int64)) v8
      exact w_X6_fractionOfTens_76 C X  (fun v2 v3 v4 v6 v8 => f_X6_fractionOfTens_32 n v2 v3 v4 v6 v8) ih  v2 v3 v4 v6 v8
    exact w_X6_fractionOfTens_76 C X  (fun v2 v3 v4 v6 v8 => f_X6_fractionOfTens_32 n v2 v3 v4 v6 v8) ih  v2 v3 v4 v6 v8
noncomputable def f_X6_fractionOfTens_9 : Nat → Int32 → Int32 → Int64 → Int64 → Int32 → Option (Int64)
  | 0, _, _, _, _, _ => none
  | n + 1, v2, v3, v4, v6, v8 => if v2 ≤ v8 then f_X6_fractionOfTens_32 FU v2 v3 v4 v6 0 else f_X6_fractionOfTens_9 n v2 v3 v4 (v6 * (10 : Int64)) (v8 + 1)
set_option maxHeartbeats 4000000 in
set_option maxRecDepth 100000 in
theorem w_X6_fractionOfTens_9 {p : Program} {l : Launch} {e : Env} {s : State} {m : MethodId} {args : Array Value} {below : List Frame} {meth : Method} {c : Code} {G : zG} {A : Nat → Prop} (C : zC p s m args meth c RX6 cX6_fractionOfTens 9 (some .long) G A) (X : va_W) : ∀ (n : Nat) (v2 : Int32) (v3 : Int32) (v4 : Int64) (v6 : Int64) (v8 : Int32), PW p l e 1 s m args below meth c G A 9 (fun _ : Unit => X) (fun r : Int64 => some (.long r)) (fun _ => ()) () [(2, .int v2), (3, .int v3), (4, .long v4), (6, .long v6), (8, .int v8)] 9 [] (f_X6_fractionOfTens_9 n v2 v3 v4 v6 v8) := by
  intro n
  induction n with
  | zero => intros; exact z_none
  | succ n ih =>
    intro v2 v3 v4 v6 v8
    rw [f_X6_fractionOfTens_9]
    refine z_iload C 4 dX6_fractionOfTens_9 rfl ?_
    refine z_iload_n C 0 dX6_fractionOfTens_11 rfl ?_
    refine z_icmpge C 29 dX6_fractionOfTens_12 (by decide) ?_ ?_
    · refine z_iconst (v := 0) C dX6_fractionOfTens_29 (by decide) ?_
      refine z_istore C [(8, .int 0), (2, .int v2), (3, .int v3), (4, .long v4), (6, .long v6)] dX6_fractionOfTens_30 (by decide) rfl ?_
      refine z_loc C [(2, .int v2), (3, .int v3), (4, .long v4), (6, .long v6), (8, .int 0)] [1, 2, 3, 4, 0] rfl ?_
      exact w_X6_fractionOfTens_32 C X    FU v2 v3 v4 v6 0
    refine z_lload C 3 dX6_fractionOfTens_15 rfl ?_
    refine z_ldc2 C kc_RX6_284 dX6_fractionOfTens_17 ?_
    refine z_lmul C dX6_fractionOfTens_20 ?_
    refine z_lstore C [(6, .long (v6 * (10 : Int64))), (2, .int v2), (3, .int v3), (4, .long v4), (8, .int v8)] dX6_fractionOfTens_21 (by decide) rfl ?_
    refine z_iinc C (v := (v8 + 1)) 4 [(8, .int (v8 + 1)), (6, .long (v6 * (10 : Int64))), (2, .int v2), (3, .int v3), (4, .long v4)] dX6_fractionOfTens_23 rfl rfl (by decide) rfl ?_
    refine z_goto C 9 dX6_fractionOfTens_26 (by decide) ?_
    refine z_loc C [(2, .int v2), (3, .int v3), (4, .long v4), (6, .long (v6 * (10 : Int64))), (8, .int (v8 + 1))] [2, 3, 4, 1, 0] rfl ?_
    exact ih v2 v3 v4 (v6 * (10 : Int64)) (v8 + 1)
noncomputable def f_X6_fractionOfTens (v0 : Int64) (v2 : Int32) (v3 : Int32) : Option (Int64) := f_X6_fractionOfTens_9 FU v2 v3 v0 (1 : Int64) 0
set_option maxHeartbeats 4000000 in
set_option maxRecDepth 100000 in
theorem ct_X6_fractionOfTens (l : Launch) (G : zG) (X : va_W) (v0 : Int64) (v2 : Int32) (v3 : Int32) : zCt l yX6_fractionOfTens cX6_fractionOfTens 9 (some .long) 1 G [.long v0, .int v2, .int v3] (fun _ : Unit => X) (fun r : Int64 => some (.long r)) (fun _ => ()) () (f_X6_fractionOfTens v0 v2 v3) := by
  refine zCt.of (by decide) (Nat.le_of_ble_eq_true rfl) (fun p e s m args below meth c A C => ?_)
  refine y_lv (lv' := [(0, .long v0), (2, .int v2), (3, .int v3)]) rfl ?_
  rw [f_X6_fractionOfTens]
  refine z_lload_n C 0 dX6_fractionOfTens_0 rfl ?_
  refine z_lstore C [(4, .long v0), (0, .long v0), (2, .int v2), (3, .int v3)] dX6_fractionOfTens_1 (by decide) rfl ?_
  refine z_lconst (v := 1) C dX6_fractionOfTens_3 (by decide) ?_
  refine z_lstore C [(6, .long (1 : Int64)), (4, .long v0), (0, .long v0), (2, .int v2), (3, .int v3)] dX6_fractionOfTens_4 (by decide) rfl ?_
  refine z_iconst (v := 0) C dX6_fractionOfTens_6 (by decide) ?_
  refine z_istore C [(8, .int 0), (6, .long (1 : Int64)), (4, .long v0), (0, .long v0), (2, .int v2), (3, .int v3)] dX6_fractionOfTens_7 (by decide) rfl ?_
  refine z_loc C [(2, .int v2), (3, .int v3), (4, .long v0), (6, .long (1 : Int64)), (8, .int 0)] [4, 5, 2, 1, 0] rfl ?_
  exact w_X6_fractionOfTens_9 C X    FU v2 v3 v0 (1 : Int64) 0
noncomputable def f_X6_isWithin (v0 : Int32) (v1 : Int32) (v2 : Int32) : Option (Bool) := if v0 < v1 then some false else if v2 < v0 then some false else some true
set_option maxHeartbeats 4000000 in
set_option maxRecDepth 100000 in
theorem ct_X6_isWithin (l : Launch) (G : zG) (X : va_W) (v0 : Int32) (v1 : Int32) (v2 : Int32) : zCt l yX6_isWithin cX6_isWithin 3 (some .boolean) 1 G [.int v0, .int v1, .int v2] (fun _ : Unit => X) (fun r : Bool => some (.int (zb r))) (fun _ => ()) () (f_X6_isWithin v0 v1 v2) := by
  refine zCt.of (by decide) (Nat.le_of_ble_eq_true rfl) (fun p e s m args below meth c A C => ?_)
  refine y_lv (lv' := [(0, .int v0), (1, .int v1), (2, .int v2)]) rfl ?_
  rw [f_X6_isWithin]
  refine z_iload_n C 0 dX6_isWithin_0 rfl ?_
  refine z_iload_n C 1 dX6_isWithin_1 rfl ?_
  refine z_icmplt C 14 dX6_isWithin_2 (by decide) ?_ ?_
  · refine z_iconst (v := 0) C dX6_isWithin_14 (by decide) ?_
    exact z_zret (b := false) C dX6_isWithin_15 rfl rfl
  refine z_iload_n C 0 dX6_isWithin_5 rfl ?_
  refine z_iload_n C 2 dX6_isWithin_6 rfl ?_
  refine z_icmpgt C 14 dX6_isWithin_7 (by decide) ?_ ?_
  · refine z_iconst (v := 0) C dX6_isWithin_14 (by decide) ?_
    exact z_zret (b := false) C dX6_isWithin_15 rfl rfl
  refine z_iconst (v := 1) C dX6_isWithin_10 (by decide) ?_
  refine z_goto C 15 dX6_isWithin_11 (by decide) ?_
  exact z_zret (b := true) C dX6_isWithin_15 rfl rfl
noncomputable def f_X7_common_6 : Nat → Int64 → Int64 → Option (Int64)
  | 0, _, _ => none
  | n + 1, v4, v6 => if (lg_cmp v6 (0 : Int64)) = 0 then some v4 else if v6 = 0 then none else f_X7_common_6 n v6 (v4 - v4 / v6 * v6)
set_option maxHeartbeats 4000000 in
set_option maxRecDepth 100000 in
theorem w_X7_common_6 {p : Program} {l : Launch} {e : Env} {s : State} {m : MethodId} {args : Array Value} {below : List Frame} {meth : Method} {c : Code} {G : zG} {A : Nat → Prop} (C : zC p s m args meth c RX7 cX7_common 10 (some .long) G A) (X : va_W) : ∀ (n : Nat) (v4 : Int64) (v6 : Int64), PW p l e 1 s m args below meth c G A 10 (fun _ : Unit => X) (fun r : Int64 => some (.long r)) (fun _ => ()) () [(4, .long v4), (6, .long v6)] 6 [] (f_X7_common_6 n v4 v6) := by
  intro n
  induction n with
  | zero => intros; exact z_none
  | succ n ih =>
    intro v4 v6
    rw [f_X7_common_6]
    refine z_lload C 1 dX7_common_6 rfl ?_
    refine z_lconst (v := 0) C dX7_common_8 (by decide) ?_
    refine z_lcmp C dX7_common_9 ?_
    refine z_ifeq C 31 dX7_common_10 (by decide) ?_ ?_
    · refine z_lload C 0 dX7_common_31 rfl ?_
      exact z_lret C dX7_common_33 rfl rfl
    refine z_lload C 0 dX7_common_13 rfl ?_
    refine z_lload C 1 dX7_common_15 rfl ?_
    refine z_lrem C dX7_common_17 ?_
    refine z_lstore C [(8, .long (v4 - v4 / v6 * v6)), (4, .long v4), (6, .long v6)] dX7_common_18 (by decide) rfl ?_
    refine z_lload C 2 dX7_common_20 rfl ?_
    refine z_lstore C [(4, .long v6), (8, .long (v4 - v4 / v6 * v6)), (6, .long v6)] dX7_common_22 (by decide) rfl ?_
    refine z_lload C 1 dX7_common_24 rfl ?_
    refine z_lstore C [(6, .long (v4 - v4 / v6 * v6)), (4, .long v6), (8, .long (v4 - v4 / v6 * v6))] dX7_common_26 (by decide) rfl ?_
    refine z_goto C 6 dX7_common_28 (by decide) ?_
    refine z_loc C [(4, .long v6), (6, .long (v4 - v4 / v6 * v6))] [1, 0] rfl ?_
    exact ih v6 (v4 - v4 / v6 * v6)
noncomputable def f_X7_common (v0 : Int64) (v2 : Int64) : Option (Int64) := f_X7_common_6 FU v0 v2
set_option maxHeartbeats 4000000 in
set_option maxRecDepth 100000 in
theorem ct_X7_common (l : Launch) (G : zG) (X : va_W) (v0 : Int64) (v2 : Int64) : zCt l yX7_common cX7_common 10 (some .long) 1 G [.long v0, .long v2] (fun _ : Unit => X) (fun r : Int64 => some (.long r)) (fun _ => ()) () (f_X7_common v0 v2) := by
  refine zCt.of (by decide) (Nat.le_of_ble_eq_true rfl) (fun p e s m args below meth c A C => ?_)
  refine y_lv (lv' := [(0, .long v0), (2, .long v2)]) rfl ?_
  rw [f_X7_common]
  refine z_lload_n C 0 dX7_common_0 rfl ?_
  refine z_lstore C [(4, .long v0), (0, .long v0), (2, .long v2)] dX7_common_1 (by decide) rfl ?_
  refine z_lload_n C 2 dX7_common_3 rfl ?_
  refine z_lstore C [(6, .long v2), (4, .long v0), (0, .long v0), (2, .long v2)] dX7_common_4 (by decide) rfl ?_
  refine z_loc C [(4, .long v0), (6, .long v2)] [1, 0] rfl ?_
  exact w_X7_common_6 C X    FU v0 v2
noncomputable def f_X7_flag (v0 : Int32) : Option (Int32) := if v0 = 0 then some 0 else some 1
set_option maxHeartbeats 4000000 in
set_option maxRecDepth 100000 in
theorem ct_X7_flag (l : Launch) (G : zG) (X : va_W) (v0 : Int32) : zCt l yX7_flag cX7_flag 1 (some .int) 1 G [.int v0] (fun _ : Unit => X) (fun r : Int32 => some (.int r)) (fun _ => ()) () (f_X7_flag v0) := by
  refine zCt.of (by decide) (Nat.le_of_ble_eq_true rfl) (fun p e s m args below meth c A C => ?_)
  refine y_lv (lv' := [(0, .int v0)]) rfl ?_
  rw [f_X7_flag]
  refine z_iload_n C 0 dX7_flag_0 rfl ?_
  refine z_ifeq C 8 dX7_flag_1 (by decide) ?_ ?_
  · refine z_iconst (v := 0) C dX7_flag_8 (by decide) ?_
    exact z_iret C dX7_flag_9 rfl rfl rfl
  refine z_iconst (v := 1) C dX7_flag_4 (by decide) ?_
  refine z_goto C 9 dX7_flag_5 (by decide) ?_
  exact z_iret C dX7_flag_9 rfl rfl rfl
noncomputable def f_X7_in (v0 : Int64) (v2 : Int64) (v4 : Int64) : Option (Bool) := if (lg_cmp v0 v2) < 0 then some false else if 0 < (lg_cmp v0 v4) then some false else some true
set_option maxHeartbeats 4000000 in
set_option maxRecDepth 100000 in
theorem ct_X7_in (l : Launch) (G : zG) (X : va_W) (v0 : Int64) (v2 : Int64) (v4 : Int64) : zCt l yX7_in cX7_in 6 (some .boolean) 1 G [.long v0, .long v2, .long v4] (fun _ : Unit => X) (fun r : Bool => some (.int (zb r))) (fun _ => ()) () (f_X7_in v0 v2 v4) := by
  refine zCt.of (by decide) (Nat.le_of_ble_eq_true rfl) (fun p e s m args below meth c A C => ?_)
  refine y_lv (lv' := [(0, .long v0), (2, .long v2), (4, .long v4)]) rfl ?_
  rw [f_X7_in]
  refine z_lload_n C 0 dX7_in_0 rfl ?_
  refine z_lload_n C 1 dX7_in_1 rfl ?_
  refine z_lcmp C dX7_in_2 ?_
  refine z_iflt C 17 dX7_in_3 (by decide) ?_ ?_
  · refine z_iconst (v := 0) C dX7_in_17 (by decide) ?_
    exact z_zret (b := false) C dX7_in_18 rfl rfl
  refine z_lload_n C 0 dX7_in_6 rfl ?_
  refine z_lload C 2 dX7_in_7 rfl ?_
  refine z_lcmp C dX7_in_9 ?_
  refine z_ifgt C 17 dX7_in_10 (by decide) ?_ ?_
  · refine z_iconst (v := 0) C dX7_in_17 (by decide) ?_
    exact z_zret (b := false) C dX7_in_18 rfl rfl
  refine z_iconst (v := 1) C dX7_in_13 (by decide) ?_
  refine z_goto C 18 dX7_in_14 (by decide) ?_
  exact z_zret (b := true) C dX7_in_18 rfl rfl
noncomputable def f_X7_lesser (v0 : Int32) (v1 : Int32) : Option (Int32) := if v1 ≤ v0 then some v1 else some v0
set_option maxHeartbeats 4000000 in
set_option maxRecDepth 100000 in
theorem ct_X7_lesser (l : Launch) (G : zG) (X : va_W) (v0 : Int32) (v1 : Int32) : zCt l yX7_lesser cX7_lesser 2 (some .int) 1 G [.int v0, .int v1] (fun _ : Unit => X) (fun r : Int32 => some (.int r)) (fun _ => ()) () (f_X7_lesser v0 v1) := by
  refine zCt.of (by decide) (Nat.le_of_ble_eq_true rfl) (fun p e s m args below meth c A C => ?_)
  refine y_lv (lv' := [(0, .int v0), (1, .int v1)]) rfl ?_
  rw [f_X7_lesser]
  refine z_iload_n C 0 dX7_lesser_0 rfl ?_
  refine z_iload_n C 1 dX7_lesser_1 rfl ?_
  refine z_icmpge C 9 dX7_lesser_2 (by decide) ?_ ?_
  · refine z_iload_n C 1 dX7_lesser_9 rfl ?_
    exact z_iret C dX7_lesser_10 rfl rfl rfl
  refine z_iload_n C 0 dX7_lesser_5 rfl ?_
  refine z_goto C 10 dX7_lesser_6 (by decide) ?_
  exact z_iret C dX7_lesser_10 rfl rfl rfl
noncomputable def f_X6_isKind (v0 : Int32) : Option (Bool) := (f_X6_isWithin v0 0 3).bind fun r1 => some r1
set_option maxHeartbeats 4000000 in
set_option maxRecDepth 100000 in
theorem ct_X6_isKind (l : Launch) (G : zG) (X : va_W) (v0 : Int32) : zCt l yX6_isKind cX6_isKind 1 (some .boolean) 2 G [.int v0] (fun _ : Unit => X) (fun r : Bool => some (.int (zb r))) (fun _ => ()) () (f_X6_isKind v0) := by
  refine zCt.of (by decide) (Nat.le_of_ble_eq_true rfl) (fun p e s m args below meth c A C => ?_)
  refine y_lv (lv' := [(0, .int v0)]) rfl ?_
  rw [f_X6_isKind]
  refine z_iload_n C 0 dX6_isKind_0 rfl ?_
  refine z_iconst (v := 0) C dX6_isKind_1 (by decide) ?_
  refine z_iconst (v := 3) C dX6_isKind_2 (by decide) ?_
  refine y_callZ C (z_invS C [.int v0, .int 0, .int 3] [] (ct_X6_isWithin l G X v0 0 3) mi_X6_isWithin mt_X6_isWithin ml_RX6_68 (by decide) rfl rfl dX6_isKind_3 (Nat.le_of_ble_eq_true rfl)) (List.Perm.refl _) (fun r1 => ?_)
  exact z_zret (b := r1) C dX6_isKind_6 rfl rfl
noncomputable def f_X7_isFar (v0 : Int32) : Option (Bool) := (f_X7_in (Int32.toInt64 v0) (0 : Int64) (60 : Int64)).bind fun r1 => some r1
set_option maxHeartbeats 4000000 in
set_option maxRecDepth 100000 in
theorem ct_X7_isFar (l : Launch) (G : zG) (X : va_W) (v0 : Int32) : zCt l yX7_isFar cX7_isFar 1 (some .boolean) 2 G [.int v0] (fun _ : Unit => X) (fun r : Bool => some (.int (zb r))) (fun _ => ()) () (f_X7_isFar v0) := by
  refine zCt.of (by decide) (Nat.le_of_ble_eq_true rfl) (fun p e s m args below meth c A C => ?_)
  refine y_lv (lv' := [(0, .int v0)]) rfl ?_
  rw [f_X7_isFar]
  refine z_iload_n C 0 dX7_isFar_0 rfl ?_
  refine z_i2l C dX7_isFar_1 ?_
  refine z_lconst (v := 0) C dX7_isFar_2 (by decide) ?_
  refine z_ldc2 C kc_RX7_232 dX7_isFar_3 ?_
  refine y_callZ C (z_invS C [.long (Int32.toInt64 v0), .long (0 : Int64), .long (60 : Int64)] [] (ct_X7_in l G X (Int32.toInt64 v0) (0 : Int64) (60 : Int64)) mi_X7_in mt_X7_in ml_RX7_65 (by decide) rfl rfl dX7_isFar_6 (Nat.le_of_ble_eq_true rfl)) (List.Perm.refl _) (fun r1 => ?_)
  exact z_zret (b := r1) C dX7_isFar_9 rfl rfl
noncomputable def f_X7_isPart (v0 : Int32) : Option (Bool) := (f_X7_in (Int32.toInt64 v0) (0 : Int64) (1 : Int64)).bind fun r1 => some r1
set_option maxHeartbeats 4000000 in
set_option maxRecDepth 100000 in
theorem ct_X7_isPart (l : Launch) (G : zG) (X : va_W) (v0 : Int32) : zCt l yX7_isPart cX7_isPart 1 (some .boolean) 2 G [.int v0] (fun _ : Unit => X) (fun r : Bool => some (.int (zb r))) (fun _ => ()) () (f_X7_isPart v0) := by
  refine zCt.of (by decide) (Nat.le_of_ble_eq_true rfl) (fun p e s m args below meth c A C => ?_)
  refine y_lv (lv' := [(0, .int v0)]) rfl ?_
  rw [f_X7_isPart]
  refine z_iload_n C 0 dX7_isPart_0 rfl ?_
  refine z_i2l C dX7_isPart_1 ?_
  refine z_lconst (v := 0) C dX7_isPart_2 (by decide) ?_
  refine z_lconst (v := 1) C dX7_isPart_3 (by decide) ?_
  refine y_callZ C (z_invS C [.long (Int32.toInt64 v0), .long (0 : Int64), .long (1 : Int64)] [] (ct_X7_in l G X (Int32.toInt64 v0) (0 : Int64) (1 : Int64)) mi_X7_in mt_X7_in ml_RX7_65 (by decide) rfl rfl dX7_isPart_4 (Nat.le_of_ble_eq_true rfl)) (List.Perm.refl _) (fun r1 => ?_)
  exact z_zret (b := r1) C dX7_isPart_7 rfl rfl
noncomputable def f_X7_isPlace (v0 : Int32) : Option (Bool) := (f_X7_in (Int32.toInt64 v0) (0 : Int64) (9 : Int64)).bind fun r1 => some r1
set_option maxHeartbeats 4000000 in
set_option maxRecDepth 100000 in
theorem ct_X7_isPlace (l : Launch) (G : zG) (X : va_W) (v0 : Int32) : zCt l yX7_isPlace cX7_isPlace 1 (some .boolean) 2 G [.int v0] (fun _ : Unit => X) (fun r : Bool => some (.int (zb r))) (fun _ => ()) () (f_X7_isPlace v0) := by
  refine zCt.of (by decide) (Nat.le_of_ble_eq_true rfl) (fun p e s m args below meth c A C => ?_)
  refine y_lv (lv' := [(0, .int v0)]) rfl ?_
  rw [f_X7_isPlace]
  refine z_iload_n C 0 dX7_isPlace_0 rfl ?_
  refine z_i2l C dX7_isPlace_1 ?_
  refine z_lconst (v := 0) C dX7_isPlace_2 (by decide) ?_
  refine z_ldc2 C kc_RX7_138 dX7_isPlace_3 ?_
  refine y_callZ C (z_invS C [.long (Int32.toInt64 v0), .long (0 : Int64), .long (9 : Int64)] [] (ct_X7_in l G X (Int32.toInt64 v0) (0 : Int64) (9 : Int64)) mi_X7_in mt_X7_in ml_RX7_65 (by decide) rfl rfl dX7_isPlace_6 (Nat.le_of_ble_eq_true rfl)) (List.Perm.refl _) (fun r1 => ?_)
  exact z_zret (b := r1) C dX7_isPlace_9 rfl rfl
noncomputable def f_X7_isSheet (v0 : Int32) (v1 : Int32) : Option (Bool) := (f_X7_in (Int32.toInt64 v0) (0 : Int64) (3 : Int64)).bind fun r1 => if r1 = true then (f_X7_in (Int32.toInt64 v1) (0 : Int64) (2 : Int64)).bind fun r2 => if r2 = true then some true else some false else some false
set_option maxHeartbeats 4000000 in
set_option maxRecDepth 100000 in
theorem ct_X7_isSheet (l : Launch) (G : zG) (X : va_W) (v0 : Int32) (v1 : Int32) : zCt l yX7_isSheet cX7_isSheet 2 (some .boolean) 2 G [.int v0, .int v1] (fun _ : Unit => X) (fun r : Bool => some (.int (zb r))) (fun _ => ()) () (f_X7_isSheet v0 v1) := by
  refine zCt.of (by decide) (Nat.le_of_ble_eq_true rfl) (fun p e s m args below meth c A C => ?_)
  refine y_lv (lv' := [(0, .int v0), (1, .int v1)]) rfl ?_
  rw [f_X7_isSheet]
  refine z_iload_n C 0 dX7_isSheet_0 rfl ?_
  refine z_i2l C dX7_isSheet_1 ?_
  refine z_lconst (v := 0) C dX7_isSheet_2 (by decide) ?_
  refine z_ldc2 C kc_RX7_212 dX7_isSheet_3 ?_
  refine y_callZ C (z_invS C [.long (Int32.toInt64 v0), .long (0 : Int64), .long (3 : Int64)] [] (ct_X7_in l G X (Int32.toInt64 v0) (0 : Int64) (3 : Int64)) mi_X7_in mt_X7_in ml_RX7_65 (by decide) rfl rfl dX7_isSheet_6 (Nat.le_of_ble_eq_true rfl)) (List.Perm.refl _) (fun r1 => ?_)
  refine z_zifeq C 28 dX7_isSheet_9 (by decide) ?_ ?_
  · refine z_iload_n C 1 dX7_isSheet_12 rfl ?_
    refine z_i2l C dX7_isSheet_13 ?_
    refine z_lconst (v := 0) C dX7_isSheet_14 (by decide) ?_
    refine z_ldc2 C kc_RX7_289 dX7_isSheet_15 ?_
    refine y_callZ C (z_invS C [.long (Int32.toInt64 v1), .long (0 : Int64), .long (2 : Int64)] [] (ct_X7_in l G X (Int32.toInt64 v1) (0 : Int64) (2 : Int64)) mi_X7_in mt_X7_in ml_RX7_65 (by decide) rfl rfl dX7_isSheet_18 (Nat.le_of_ble_eq_true rfl)) (List.Perm.refl _) (fun r2 => ?_)
    refine z_zifeq C 28 dX7_isSheet_21 (by decide) ?_ ?_
    · refine z_iconst (v := 1) C dX7_isSheet_24 (by decide) ?_
      refine z_goto C 29 dX7_isSheet_25 (by decide) ?_
      exact z_zret (b := true) C dX7_isSheet_29 rfl rfl
    refine z_iconst (v := 0) C dX7_isSheet_28 (by decide) ?_
    exact z_zret (b := false) C dX7_isSheet_29 rfl rfl
  refine z_iconst (v := 0) C dX7_isSheet_28 (by decide) ?_
  exact z_zret (b := false) C dX7_isSheet_29 rfl rfl
noncomputable def f_X7_told (v0 : Int64) (v2 : Int64) (v4 : Int32) : Option (Int64) := (f_X7_common v2 v0).bind fun r1 => if v4 = 0 then if r1 = 0 then none else some (v0 / r1) else if r1 = 0 then none else some (v2 / r1)
set_option maxHeartbeats 4000000 in
set_option maxRecDepth 100000 in
theorem ct_X7_told (l : Launch) (G : zG) (X : va_W) (v0 : Int64) (v2 : Int64) (v4 : Int32) : zCt l yX7_told cX7_told 7 (some .long) 2 G [.long v0, .long v2, .int v4] (fun _ : Unit => X) (fun r : Int64 => some (.long r)) (fun _ => ()) () (f_X7_told v0 v2 v4) := by
  refine zCt.of (by decide) (Nat.le_of_ble_eq_true rfl) (fun p e s m args below meth c A C => ?_)
  refine y_lv (lv' := [(0, .long v0), (2, .long v2), (4, .int v4)]) rfl ?_
  rw [f_X7_told]
  refine z_lload_n C 1 dX7_told_0 rfl ?_
  refine z_lload_n C 0 dX7_told_1 rfl ?_
  refine y_callL C (z_invS C [.long v2, .long v0] [] (ct_X7_common l G X v2 v0) mi_X7_common mt_X7_common ml_RX7_250 (by decide) rfl rfl dX7_told_2 (Nat.le_of_ble_eq_true rfl)) (List.Perm.refl _) (fun r1 => ?_)
  refine z_lstore C [(5, .long r1), (0, .long v0), (2, .long v2), (4, .int v4)] dX7_told_5 (by decide) rfl ?_
  refine z_iload C 3 dX7_told_7 rfl ?_
  refine z_ifne C 19 dX7_told_9 (by decide) ?_ ?_
  · refine z_lload_n C 1 dX7_told_12 rfl ?_
    refine z_lload C 0 dX7_told_13 rfl ?_
    refine z_ldiv C dX7_told_15 ?_
    refine z_goto C 23 dX7_told_16 (by decide) ?_
    exact z_lret C dX7_told_23 rfl rfl
  refine z_lload_n C 2 dX7_told_19 rfl ?_
  refine z_lload C 0 dX7_told_20 rfl ?_
  refine z_ldiv C dX7_told_22 ?_
  exact z_lret C dX7_told_23 rfl rfl
noncomputable def f_X5_leastOf (v0 : Int32) (v1 : Int32) : Option (Int32) := (f_X6_isKind v0).bind fun r1 => if r1 = true then if v1 = 0 then some 1 else some 0 else some 0
set_option maxHeartbeats 4000000 in
set_option maxRecDepth 100000 in
theorem ct_X5_leastOf (l : Launch) (G : zG) (X : va_W) (v0 : Int32) (v1 : Int32) : zCt l yX5_leastOf cX5_leastOf 2 (some .int) 3 G [.int v0, .int v1] (fun _ : Unit => X) (fun r : Int32 => some (.int r)) (fun _ => ()) () (f_X5_leastOf v0 v1) := by
  refine zCt.of (by decide) (Nat.le_of_ble_eq_true rfl) (fun p e s m args below meth c A C => ?_)
  refine y_lv (lv' := [(0, .int v0), (1, .int v1)]) rfl ?_
  rw [f_X5_leastOf]
  refine z_iload_n C 0 dX5_leastOf_0 rfl ?_
  refine y_callZ C (z_invS C [.int v0] [] (ct_X6_isKind l G X v0) mi_X6_isKind mt_X6_isKind ml_RX5_131 (by decide) rfl rfl dX5_leastOf_1 (Nat.le_of_ble_eq_true rfl)) (List.Perm.refl _) (fun r1 => ?_)
  refine z_zifeq C 15 dX5_leastOf_4 (by decide) ?_ ?_
  · refine z_iload_n C 1 dX5_leastOf_7 rfl ?_
    refine z_ifne C 15 dX5_leastOf_8 (by decide) ?_ ?_
    · refine z_iconst (v := 1) C dX5_leastOf_11 (by decide) ?_
      refine z_goto C 16 dX5_leastOf_12 (by decide) ?_
      exact z_iret C dX5_leastOf_16 rfl rfl rfl
    refine z_iconst (v := 0) C dX5_leastOf_15 (by decide) ?_
    exact z_iret C dX5_leastOf_16 rfl rfl rfl
  refine z_iconst (v := 0) C dX5_leastOf_15 (by decide) ?_
  exact z_iret C dX5_leastOf_16 rfl rfl rfl
noncomputable def f_X5_mostOf_30 (v0 : Int32) (v1 : Int32) : Option (Int32) := (f_X6_isKind v0).bind fun r2 => if r2 = true then if v1 = 1 then some 3 else some 9 else some 9
set_option maxHeartbeats 4000000 in
set_option maxRecDepth 100000 in
theorem w_X5_mostOf_30 {p : Program} {l : Launch} {e : Env} {s : State} {m : MethodId} {args : Array Value} {below : List Frame} {meth : Method} {c : Code} {G : zG} {A : Nat → Prop} (C : zC p s m args meth c RX5 cX5_mostOf 2 (some .int) G A) (X : va_W) : ∀ (v0 : Int32) (v1 : Int32), PW p l e 3 s m args below meth c G A 2 (fun _ : Unit => X) (fun r : Int32 => some (.int r)) (fun _ => ()) () [(0, .int v0), (1, .int v1)] 30 [] (f_X5_mostOf_30 v0 v1) := by
  intro v0 v1
  rw [f_X5_mostOf_30]
  refine z_iload_n C 0 dX5_mostOf_30 rfl ?_
  refine y_callZ C (z_invS C [.int v0] [] (ct_X6_isKind l G X v0) mi_X6_isKind mt_X6_isKind ml_RX5_131 (by decide) rfl rfl dX5_mostOf_31 (Nat.le_of_ble_eq_true rfl)) (List.Perm.refl _) (fun r2 => ?_)
  refine z_zifeq C 46 dX5_mostOf_34 (by decide) ?_ ?_
  · refine z_iload_n C 1 dX5_mostOf_37 rfl ?_
    refine z_iconst (v := 1) C dX5_mostOf_38 (by decide) ?_
    refine z_icmpne C 46 dX5_mostOf_39 (by decide) ?_ ?_
    · refine z_iconst (v := 3) C dX5_mostOf_42 (by decide) ?_
      refine z_goto C 48 dX5_mostOf_43 (by decide) ?_
      exact z_iret C dX5_mostOf_48 rfl rfl rfl
    refine z_bipush (v := 9) C dX5_mostOf_46 (by decide) ?_
    exact z_iret C dX5_mostOf_48 rfl rfl rfl
  refine z_bipush (v := 9) C dX5_mostOf_46 (by decide) ?_
  exact z_iret C dX5_mostOf_48 rfl rfl rfl
noncomputable def f_X5_mostOf (v0 : Int32) (v1 : Int32) : Option (Int32) := if v0 = 5 then if v1 = 0 then some 5 else some 9 else (f_X6_isKind v0).bind fun r1 => if r1 = true then if v1 = 0 then some 9 else f_X5_mostOf_30  v0 v1 else f_X5_mostOf_30  v0 v1
set_option maxHeartbeats 4000000 in
set_option maxRecDepth 100000 in
theorem ct_X5_mostOf (l : Launch) (G : zG) (X : va_W) (v0 : Int32) (v1 : Int32) : zCt l yX5_mostOf cX5_mostOf 2 (some .int) 3 G [.int v0, .int v1] (fun _ : Unit => X) (fun r : Int32 => some (.int r)) (fun _ => ()) () (f_X5_mostOf v0 v1) := by
  refine zCt.of (by decide) (Nat.le_of_ble_eq_true rfl) (fun p e s m args below meth c A C => ?_)
  refine y_lv (lv' := [(0, .int v0), (1, .int v1)]) rfl ?_
  rw [f_X5_mostOf]
  refine z_iload_n C 0 dX5_mostOf_0 rfl ?_
  refine z_iconst (v := 5) C dX5_mostOf_1 (by decide) ?_
  refine z_icmpne C 16 dX5_mostOf_2 (by decide) ?_ ?_
  · refine z_iload_n C 1 dX5_mostOf_5 rfl ?_
    refine z_ifne C 13 dX5_mostOf_6 (by decide) ?_ ?_
    · refine z_iconst (v := 5) C dX5_mostOf_9 (by decide) ?_
      refine z_goto C 15 dX5_mostOf_10 (by decide) ?_
      exact z_iret C dX5_mostOf_15 rfl rfl rfl
    refine z_bipush (v := 9) C dX5_mostOf_13 (by decide) ?_
    exact z_iret C dX5_mostOf_15 rfl rfl rfl
  refine z_iload_n C 0 dX5_mostOf_16 rfl ?_
  refine y_callZ C (z_invS C [.int v0] [] (ct_X6_isKind l G X v0) mi_X6_isKind mt_X6_isKind ml_RX5_131 (by decide) rfl rfl dX5_mostOf_17 (Nat.le_of_ble_eq_true rfl)) (List.Perm.refl _) (fun r1 => ?_)
  refine z_zifeq C 30 dX5_mostOf_20 (by decide) ?_ ?_
  · refine z_iload_n C 1 dX5_mostOf_23 rfl ?_
    refine z_ifne C 30 dX5_mostOf_24 (by decide) ?_ ?_
    · refine z_bipush (v := 9) C dX5_mostOf_27 (by decide) ?_
      exact z_iret C dX5_mostOf_29 rfl rfl rfl
    exact w_X5_mostOf_30 C X     v0 v1
  exact w_X5_mostOf_30 C X     v0 v1
