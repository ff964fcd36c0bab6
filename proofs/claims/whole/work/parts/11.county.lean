noncomputable def f_X0_allWinds_4 : Nat → zM → Int32 → Int32 → Option (Int32)
  | 0, _, _, _ => none
  | n + 1, u, v1, v2 => if 6 ≤ v2 then some v1 else if z_in v2 6 = true then f_X0_allWinds_4 n u (v1 + (u 7 (Int32.toNatClampNeg v2))) (v2 + 1) else none
set_option maxHeartbeats 4000000 in
set_option maxRecDepth 100000 in
theorem w_X0_allWinds_4 {p : Program} {l : Launch} {e : Env} {s : State} {m : MethodId} {args : Array Value} {below : List Frame} {meth : Method} {c : Code} {G : zG} {A : Nat → Prop} (C : zC p s m args meth c RX0 cX0_allWinds 3 (some .int) G A) (a : Nat → Nat) (X : va_W) (u : zM) : ∀ (n : Nat) (v1 : Int32) (v2 : Int32), PW p l e 1 s m args below meth c G A 3 (fun u : zM => wC a G.2 u ++ X) (fun r : Int32 => some (.int r)) (fun _ => u) u [(0, .ref (a 0)), (1, .int v1), (2, .int v2)] 4 [] (f_X0_allWinds_4 n u v1 v2) := by
  intro n
  induction n with
  | zero => intros; exact z_none
  | succ n ih =>
    intro v1 v2
    rw [f_X0_allWinds_4]
    refine z_iload_n C 2 dX0_allWinds_4 rfl ?_
    refine z_bipush (v := 6) C dX0_allWinds_5 (by decide) ?_
    refine z_icmpge C 25 dX0_allWinds_7 (by decide) ?_ ?_
    · refine z_iload_n C 1 dX0_allWinds_25 rfl ?_
      exact z_iret C dX0_allWinds_26 rfl rfl rfl
    refine z_iload_n C 1 dX0_allWinds_10 rfl ?_
    refine z_aload_n C 0 dX0_allWinds_11 rfl ?_
    refine z_get C fl_RX0_46 has_C_0 rfl dX0_allWinds_12 ?_
    refine z_iload_n C 2 dX0_allWinds_15 rfl ?_
    refine y_iald C has_C_7 dX0_allWinds_16 ?_
    refine z_iadd C dX0_allWinds_17 ?_
    refine z_istore_n C [(1, .int (v1 + (u 7 (Int32.toNatClampNeg v2)))), (0, .ref (a 0)), (2, .int v2)] dX0_allWinds_18 (by decide) rfl ?_
    refine z_iinc C (v := (v2 + 1)) 2 [(2, .int (v2 + 1)), (1, .int (v1 + (u 7 (Int32.toNatClampNeg v2)))), (0, .ref (a 0))] dX0_allWinds_19 rfl rfl (by decide) rfl ?_
    refine z_goto C 4 dX0_allWinds_22 (by decide) ?_
    refine z_loc C [(0, .ref (a 0)), (1, .int (v1 + (u 7 (Int32.toNatClampNeg v2)))), (2, .int (v2 + 1))] [2, 1, 0] rfl ?_
    exact ih (v1 + (u 7 (Int32.toNatClampNeg v2))) (v2 + 1)
noncomputable def f_X0_allWinds (u : zM) : Option (Int32) := f_X0_allWinds_4 FU u 0 0
set_option maxHeartbeats 4000000 in
set_option maxRecDepth 100000 in
theorem ct_X0_allWinds (l : Launch) (G : zG) (a : Nat → Nat) (X : va_W) (u : zM) : zCt l yX0_allWinds cX0_allWinds 3 (some .int) 1 G [.ref (a 0)] (fun u : zM => wC a G.2 u ++ X) (fun r : Int32 => some (.int r)) (fun _ => u) u (f_X0_allWinds u) := by
  refine zCt.of (by decide) (Nat.le_of_ble_eq_true rfl) (fun p e s m args below meth c A C => ?_)
  refine y_lv (lv' := [(0, .ref (a 0))]) rfl ?_
  rw [f_X0_allWinds]
  refine z_iconst (v := 0) C dX0_allWinds_0 (by decide) ?_
  refine z_istore_n C [(1, .int 0), (0, .ref (a 0))] dX0_allWinds_1 (by decide) rfl ?_
  refine z_iconst (v := 0) C dX0_allWinds_2 (by decide) ?_
  refine z_istore_n C [(2, .int 0), (1, .int 0), (0, .ref (a 0))] dX0_allWinds_3 (by decide) rfl ?_
  refine z_loc C [(0, .ref (a 0)), (1, .int 0), (2, .int 0)] [2, 1, 0] rfl ?_
  exact w_X0_allWinds_4 C a X u   FU 0 0
noncomputable def f_X0_hasBeetle (u : zM) (v1 : Int32) : Option (Bool) := if v1 < 0 then some false else if (u 0 1) ≤ v1 then some false else some true
set_option maxHeartbeats 4000000 in
set_option maxRecDepth 100000 in
theorem ct_X0_hasBeetle (l : Launch) (G : zG) (a : Nat → Nat) (X : va_W) (u : zM) (v1 : Int32) : zCt l yX0_hasBeetle cX0_hasBeetle 2 (some .boolean) 1 G [.ref (a 0), .int v1] (fun u : zM => wC a G.2 u ++ X) (fun r : Bool => some (.int (zb r))) (fun _ => u) u (f_X0_hasBeetle u v1) := by
  refine zCt.of (by decide) (Nat.le_of_ble_eq_true rfl) (fun p e s m args below meth c A C => ?_)
  refine y_lv (lv' := [(0, .ref (a 0)), (1, .int v1)]) rfl ?_
  rw [f_X0_hasBeetle]
  refine z_iload_n C 1 dX0_hasBeetle_0 rfl ?_
  refine z_iflt C 16 dX0_hasBeetle_1 (by decide) ?_ ?_
  · refine z_iconst (v := 0) C dX0_hasBeetle_16 (by decide) ?_
    exact z_zret (b := false) C dX0_hasBeetle_17 rfl rfl
  refine z_iload_n C 1 dX0_hasBeetle_4 rfl ?_
  refine z_aload_n C 0 dX0_hasBeetle_5 rfl ?_
  refine z_get C fl_RX0_15 has_C_0 rfl dX0_hasBeetle_6 ?_
  refine z_icmpge C 16 dX0_hasBeetle_9 (by decide) ?_ ?_
  · refine z_iconst (v := 0) C dX0_hasBeetle_16 (by decide) ?_
    exact z_zret (b := false) C dX0_hasBeetle_17 rfl rfl
  refine z_iconst (v := 1) C dX0_hasBeetle_12 (by decide) ?_
  refine z_goto C 17 dX0_hasBeetle_13 (by decide) ?_
  exact z_zret (b := true) C dX0_hasBeetle_17 rfl rfl
noncomputable def f_X0_hasOne (u : zM) (v1 : Int32) : Option (Bool) := if v1 < 0 then some false else if (u 0 0) ≤ v1 then some false else some true
set_option maxHeartbeats 4000000 in
set_option maxRecDepth 100000 in
theorem ct_X0_hasOne (l : Launch) (G : zG) (a : Nat → Nat) (X : va_W) (u : zM) (v1 : Int32) : zCt l yX0_hasOne cX0_hasOne 2 (some .boolean) 1 G [.ref (a 0), .int v1] (fun u : zM => wC a G.2 u ++ X) (fun r : Bool => some (.int (zb r))) (fun _ => u) u (f_X0_hasOne u v1) := by
  refine zCt.of (by decide) (Nat.le_of_ble_eq_true rfl) (fun p e s m args below meth c A C => ?_)
  refine y_lv (lv' := [(0, .ref (a 0)), (1, .int v1)]) rfl ?_
  rw [f_X0_hasOne]
  refine z_iload_n C 1 dX0_hasOne_0 rfl ?_
  refine z_iflt C 16 dX0_hasOne_1 (by decide) ?_ ?_
  · refine z_iconst (v := 0) C dX0_hasOne_16 (by decide) ?_
    exact z_zret (b := false) C dX0_hasOne_17 rfl rfl
  refine z_iload_n C 1 dX0_hasOne_4 rfl ?_
  refine z_aload_n C 0 dX0_hasOne_5 rfl ?_
  refine z_get C fl_RX0_9 has_C_0 rfl dX0_hasOne_6 ?_
  refine z_icmpge C 16 dX0_hasOne_9 (by decide) ?_ ?_
  · refine z_iconst (v := 0) C dX0_hasOne_16 (by decide) ?_
    exact z_zret (b := false) C dX0_hasOne_17 rfl rfl
  refine z_iconst (v := 1) C dX0_hasOne_12 (by decide) ?_
  refine z_goto C 17 dX0_hasOne_13 (by decide) ?_
  exact z_zret (b := true) C dX0_hasOne_17 rfl rfl
noncomputable def f_X0_hasRoomForBeetle (u : zM) : Option (Bool) := if 6 ≤ (u 0 1) then some false else some true
set_option maxHeartbeats 4000000 in
set_option maxRecDepth 100000 in
theorem ct_X0_hasRoomForBeetle (l : Launch) (G : zG) (a : Nat → Nat) (X : va_W) (u : zM) : zCt l yX0_hasRoomForBeetle cX0_hasRoomForBeetle 1 (some .boolean) 1 G [.ref (a 0)] (fun u : zM => wC a G.2 u ++ X) (fun r : Bool => some (.int (zb r))) (fun _ => u) u (f_X0_hasRoomForBeetle u) := by
  refine zCt.of (by decide) (Nat.le_of_ble_eq_true rfl) (fun p e s m args below meth c A C => ?_)
  refine y_lv (lv' := [(0, .ref (a 0))]) rfl ?_
  rw [f_X0_hasRoomForBeetle]
  refine z_aload_n C 0 dX0_hasRoomForBeetle_0 rfl ?_
  refine z_get C fl_RX0_15 has_C_0 rfl dX0_hasRoomForBeetle_1 ?_
  refine z_bipush (v := 6) C dX0_hasRoomForBeetle_4 (by decide) ?_
  refine z_icmpge C 13 dX0_hasRoomForBeetle_6 (by decide) ?_ ?_
  · refine z_iconst (v := 0) C dX0_hasRoomForBeetle_13 (by decide) ?_
    exact z_zret (b := false) C dX0_hasRoomForBeetle_14 rfl rfl
  refine z_iconst (v := 1) C dX0_hasRoomForBeetle_9 (by decide) ?_
  refine z_goto C 14 dX0_hasRoomForBeetle_10 (by decide) ?_
  exact z_zret (b := true) C dX0_hasRoomForBeetle_14 rfl rfl
noncomputable def f_X0_hasRoomForOne (u : zM) : Option (Bool) := if 4 ≤ (u 0 0) then some false else some true
set_option maxHeartbeats 4000000 in
set_option maxRecDepth 100000 in
theorem ct_X0_hasRoomForOne (l : Launch) (G : zG) (a : Nat → Nat) (X : va_W) (u : zM) : zCt l yX0_hasRoomForOne cX0_hasRoomForOne 1 (some .boolean) 1 G [.ref (a 0)] (fun u : zM => wC a G.2 u ++ X) (fun r : Bool => some (.int (zb r))) (fun _ => u) u (f_X0_hasRoomForOne u) := by
  refine zCt.of (by decide) (Nat.le_of_ble_eq_true rfl) (fun p e s m args below meth c A C => ?_)
  refine y_lv (lv' := [(0, .ref (a 0))]) rfl ?_
  rw [f_X0_hasRoomForOne]
  refine z_aload_n C 0 dX0_hasRoomForOne_0 rfl ?_
  refine z_get C fl_RX0_9 has_C_0 rfl dX0_hasRoomForOne_1 ?_
  refine z_iconst (v := 4) C dX0_hasRoomForOne_4 (by decide) ?_
  refine z_icmpge C 12 dX0_hasRoomForOne_5 (by decide) ?_ ?_
  · refine z_iconst (v := 0) C dX0_hasRoomForOne_12 (by decide) ?_
    exact z_zret (b := false) C dX0_hasRoomForOne_13 rfl rfl
  refine z_iconst (v := 1) C dX0_hasRoomForOne_8 (by decide) ?_
  refine z_goto C 13 dX0_hasRoomForOne_9 (by decide) ?_
  exact z_zret (b := true) C dX0_hasRoomForOne_13 rfl rfl
noncomputable def f_X0_pace (u : zM) (v1 : Int32) : Option (Int32) := if z_in v1 6 = true then if (u 2 (Int32.toNatClampNeg v1)) = 1 then some 2 else if (u 2 (Int32.toNatClampNeg v1)) = 3 then some 3 else some 1 else none
set_option maxHeartbeats 4000000 in
set_option maxRecDepth 100000 in
theorem ct_X0_pace (l : Launch) (G : zG) (a : Nat → Nat) (X : va_W) (u : zM) (v1 : Int32) : zCt l yX0_pace cX0_pace 2 (some .int) 1 G [.ref (a 0), .int v1] (fun u : zM => wC a G.2 u ++ X) (fun r : Int32 => some (.int r)) (fun _ => u) u (f_X0_pace u v1) := by
  refine zCt.of (by decide) (Nat.le_of_ble_eq_true rfl) (fun p e s m args below meth c A C => ?_)
  refine y_lv (lv' := [(0, .ref (a 0)), (1, .int v1)]) rfl ?_
  rw [f_X0_pace]
  refine z_aload_n C 0 dX0_pace_0 rfl ?_
  refine z_get C fl_RX0_31 has_C_0 rfl dX0_pace_1 ?_
  refine z_iload_n C 1 dX0_pace_4 rfl ?_
  refine y_iald C has_C_2 dX0_pace_5 ?_
  refine z_ite (fun h1 => ?_) (fun h1 => ?_)
  · refine z_lookup C 32 dX0_pace_6 (by decide) (by rw [h1]) (by decide) ?_
    refine z_iconst (v := 2) C dX0_pace_32 (by decide) ?_
    exact z_iret C dX0_pace_33 rfl rfl rfl
  refine z_ite (fun h2 => ?_) (fun h2 => ?_)
  · refine z_lookup C 34 dX0_pace_6 (by decide) (by rw [h2]) (by decide) ?_
    refine z_iconst (v := 3) C dX0_pace_34 (by decide) ?_
    exact z_iret C dX0_pace_35 rfl rfl rfl
  have g3 := z_ni h1
  have g4 := z_ni h2
  refine z_lookup C 36 dX0_pace_6 (by decide) (z_off2 (by exact g3) (by exact g4)) (by decide) ?_
  refine z_iconst (v := 1) C dX0_pace_36 (by decide) ?_
  exact z_iret C dX0_pace_37 rfl rfl rfl
noncomputable def f_X0_putInAir (u : zM) (v1 : Int32) (v2 : Int32) : Option (zM) := if z_in v1 6 = true then zlet (zU u 5 (Int32.toNatClampNeg v1) (-4)) (fun u1 => if z_in v1 6 = true then zlet (zU u1 6 (Int32.toNatClampNeg v1) v2) (fun u2 => some u2) else none) else none
set_option maxHeartbeats 4000000 in
set_option maxRecDepth 100000 in
theorem ct_X0_putInAir (l : Launch) (G : zG) (a : Nat → Nat) (X : va_W) (u : zM) (v1 : Int32) (v2 : Int32) : zCt l yX0_putInAir cX0_putInAir 3 none 1 G [.ref (a 0), .int v1, .int v2] (fun u : zM => wC a G.2 u ++ X) (fun _ : zM => none) (fun r => r) u (f_X0_putInAir u v1 v2) := by
  refine zCt.of (by decide) (Nat.le_of_ble_eq_true rfl) (fun p e s m args below meth c A C => ?_)
  refine y_lv (lv' := [(0, .ref (a 0)), (1, .int v1), (2, .int v2)]) rfl ?_
  rw [f_X0_putInAir]
  refine z_aload_n C 0 dX0_putInAir_0 rfl ?_
  refine z_get C fl_RX0_40 has_C_0 rfl dX0_putInAir_1 ?_
  refine z_iload_n C 1 dX0_putInAir_4 rfl ?_
  refine z_bipush (v := (-4)) C dX0_putInAir_5 (by decide) ?_
  refine y_iast C upd_C_5 dX0_putInAir_7 (fun u1 => ?_)
  refine z_aload_n C 0 dX0_putInAir_8 rfl ?_
  refine z_get C fl_RX0_43 has_C_0 rfl dX0_putInAir_9 ?_
  refine z_iload_n C 1 dX0_putInAir_12 rfl ?_
  refine z_iload_n C 2 dX0_putInAir_13 rfl ?_
  refine y_iast C upd_C_6 dX0_putInAir_14 (fun u2 => ?_)
  exact z_vret C dX0_putInAir_15 rfl rfl
noncomputable def f_X0_sits (u : zM) (v1 : Int32) : Option (Bool) := if z_in v1 6 = true then if (u 5 (Int32.toNatClampNeg v1)) = (-4) then some false else some true else none
set_option maxHeartbeats 4000000 in
set_option maxRecDepth 100000 in
theorem ct_X0_sits (l : Launch) (G : zG) (a : Nat → Nat) (X : va_W) (u : zM) (v1 : Int32) : zCt l yX0_sits cX0_sits 2 (some .boolean) 1 G [.ref (a 0), .int v1] (fun u : zM => wC a G.2 u ++ X) (fun r : Bool => some (.int (zb r))) (fun _ => u) u (f_X0_sits u v1) := by
  refine zCt.of (by decide) (Nat.le_of_ble_eq_true rfl) (fun p e s m args below meth c A C => ?_)
  refine y_lv (lv' := [(0, .ref (a 0)), (1, .int v1)]) rfl ?_
  rw [f_X0_sits]
  refine z_aload_n C 0 dX0_sits_0 rfl ?_
  refine z_get C fl_RX0_40 has_C_0 rfl dX0_sits_1 ?_
  refine z_iload_n C 1 dX0_sits_4 rfl ?_
  refine y_iald C has_C_5 dX0_sits_5 ?_
  refine z_bipush (v := (-4)) C dX0_sits_6 (by decide) ?_
  refine z_icmpeq C 15 dX0_sits_8 (by decide) ?_ ?_
  · refine z_iconst (v := 0) C dX0_sits_15 (by decide) ?_
    exact z_zret (b := false) C dX0_sits_16 rfl rfl
  refine z_iconst (v := 1) C dX0_sits_11 (by decide) ?_
  refine z_goto C 16 dX0_sits_12 (by decide) ?_
  exact z_zret (b := true) C dX0_sits_16 rfl rfl
noncomputable def f_X0_sittersOn_4 : Nat → zM → Int32 → Int32 → Int32 → Option (Int32)
  | 0, _, _, _, _ => none
  | n + 1, u, v1, v2, v3 => if (u 0 1) ≤ v3 then some v2 else if z_in v3 6 = true then if (u 5 (Int32.toNatClampNeg v3)) = v1 then f_X0_sittersOn_4 n u v1 (v2 ||| (1 <<< ((v3 : Int32) &&& 31))) (v3 + 1) else f_X0_sittersOn_4 n u v1 v2 (v3 + 1) else none
set_option maxHeartbeats 4000000 in
set_option maxRecDepth 100000 in
theorem w_X0_sittersOn_4 {p : Program} {l : Launch} {e : Env} {s : State} {m : MethodId} {args : Array Value} {below : List Frame} {meth : Method} {c : Code} {G : zG} {A : Nat → Prop} (C : zC p s m args meth c RX0 cX0_sittersOn 4 (some .int) G A) (a : Nat → Nat) (X : va_W) (u : zM) : ∀ (n : Nat) (v1 : Int32) (v2 : Int32) (v3 : Int32), PW p l e 1 s m args below meth c G A 4 (fun u : zM => wC a G.2 u ++ X) (fun r : Int32 => some (.int r)) (fun _ => u) u [(0, .ref (a 0)), (1, .int v1), (2, .int v2), (3, .int v3)] 4 [] (f_X0_sittersOn_4 n u v1 v2 v3) := by
  intro n
  induction n with
  | zero => intros; exact z_none
  | succ n ih =>
    intro v1 v2 v3
    rw [f_X0_sittersOn_4]
    refine z_iload_n C 3 dX0_sittersOn_4 rfl ?_
    refine z_aload_n C 0 dX0_sittersOn_5 rfl ?_
    refine z_get C fl_RX0_15 has_C_0 rfl dX0_sittersOn_6 ?_
    refine z_icmpge C 34 dX0_sittersOn_9 (by decide) ?_ ?_
    · refine z_iload_n C 2 dX0_sittersOn_34 rfl ?_
      exact z_iret C dX0_sittersOn_35 rfl rfl rfl
    refine z_aload_n C 0 dX0_sittersOn_12 rfl ?_
    refine z_get C fl_RX0_40 has_C_0 rfl dX0_sittersOn_13 ?_
    refine z_iload_n C 3 dX0_sittersOn_16 rfl ?_
    refine y_iald C has_C_5 dX0_sittersOn_17 ?_
    refine z_iload_n C 1 dX0_sittersOn_18 rfl ?_
    refine z_icmpne C 28 dX0_sittersOn_19 (by decide) ?_ ?_
    · refine z_iload_n C 2 dX0_sittersOn_22 rfl ?_
      refine z_iconst (v := 1) C dX0_sittersOn_23 (by decide) ?_
      refine z_iload_n C 3 dX0_sittersOn_24 rfl ?_
      refine z_ishl C dX0_sittersOn_25 ?_
      refine z_ior C dX0_sittersOn_26 ?_
      refine z_istore_n C [(2, .int (v2 ||| (1 <<< ((v3 : Int32) &&& 31)))), (0, .ref (a 0)), (1, .int v1), (3, .int v3)] dX0_sittersOn_27 (by decide) rfl ?_
      refine z_iinc C (v := (v3 + 1)) 3 [(3, .int (v3 + 1)), (2, .int (v2 ||| (1 <<< ((v3 : Int32) &&& 31)))), (0, .ref (a 0)), (1, .int v1)] dX0_sittersOn_28 rfl rfl (by decide) rfl ?_
      refine z_goto C 4 dX0_sittersOn_31 (by decide) ?_
      refine z_loc C [(0, .ref (a 0)), (1, .int v1), (2, .int (v2 ||| (1 <<< ((v3 : Int32) &&& 31)))), (3, .int (v3 + 1))] [2, 3, 1, 0] rfl ?_
      exact ih v1 (v2 ||| (1 <<< ((v3 : Int32) &&& 31))) (v3 + 1)
    refine z_iinc C (v := (v3 + 1)) 3 [(3, .int (v3 + 1)), (0, .ref (a 0)), (1, .int v1), (2, .int v2)] dX0_sittersOn_28 rfl rfl (by decide) rfl ?_
    refine z_goto C 4 dX0_sittersOn_31 (by decide) ?_
    refine z_loc C [(0, .ref (a 0)), (1, .int v1), (2, .int v2), (3, .int (v3 + 1))] [1, 2, 3, 0] rfl ?_
    exact ih v1 v2 (v3 + 1)
noncomputable def f_X0_sittersOn (u : zM) (v1 : Int32) : Option (Int32) := f_X0_sittersOn_4 FU u v1 0 0
set_option maxHeartbeats 4000000 in
set_option maxRecDepth 100000 in
theorem ct_X0_sittersOn (l : Launch) (G : zG) (a : Nat → Nat) (X : va_W) (u : zM) (v1 : Int32) : zCt l yX0_sittersOn cX0_sittersOn 4 (some .int) 1 G [.ref (a 0), .int v1] (fun u : zM => wC a G.2 u ++ X) (fun r : Int32 => some (.int r)) (fun _ => u) u (f_X0_sittersOn u v1) := by
  refine zCt.of (by decide) (Nat.le_of_ble_eq_true rfl) (fun p e s m args below meth c A C => ?_)
  refine y_lv (lv' := [(0, .ref (a 0)), (1, .int v1)]) rfl ?_
  rw [f_X0_sittersOn]
  refine z_iconst (v := 0) C dX0_sittersOn_0 (by decide) ?_
  refine z_istore_n C [(2, .int 0), (0, .ref (a 0)), (1, .int v1)] dX0_sittersOn_1 (by decide) rfl ?_
  refine z_iconst (v := 0) C dX0_sittersOn_2 (by decide) ?_
  refine z_istore_n C [(3, .int 0), (2, .int 0), (0, .ref (a 0)), (1, .int v1)] dX0_sittersOn_3 (by decide) rfl ?_
  refine z_loc C [(0, .ref (a 0)), (1, .int v1), (2, .int 0), (3, .int 0)] [2, 3, 1, 0] rfl ?_
  exact w_X0_sittersOn_4 C a X u   FU v1 0 0
noncomputable def f_X0_spotsOfAll_4 : Nat → zM → Int32 → Int32 → Option (Int32)
  | 0, _, _, _ => none
  | n + 1, u, v1, v2 => if (u 0 1) ≤ v2 then some v1 else if z_in v2 6 = true then f_X0_spotsOfAll_4 n u (v1 + (u 3 (Int32.toNatClampNeg v2))) (v2 + 1) else none
set_option maxHeartbeats 4000000 in
set_option maxRecDepth 100000 in
theorem w_X0_spotsOfAll_4 {p : Program} {l : Launch} {e : Env} {s : State} {m : MethodId} {args : Array Value} {below : List Frame} {meth : Method} {c : Code} {G : zG} {A : Nat → Prop} (C : zC p s m args meth c RX0 cX0_spotsOfAll 3 (some .int) G A) (a : Nat → Nat) (X : va_W) (u : zM) : ∀ (n : Nat) (v1 : Int32) (v2 : Int32), PW p l e 1 s m args below meth c G A 3 (fun u : zM => wC a G.2 u ++ X) (fun r : Int32 => some (.int r)) (fun _ => u) u [(0, .ref (a 0)), (1, .int v1), (2, .int v2)] 4 [] (f_X0_spotsOfAll_4 n u v1 v2) := by
  intro n
  induction n with
  | zero => intros; exact z_none
  | succ n ih =>
    intro v1 v2
    rw [f_X0_spotsOfAll_4]
    refine z_iload_n C 2 dX0_spotsOfAll_4 rfl ?_
    refine z_aload_n C 0 dX0_spotsOfAll_5 rfl ?_
    refine z_get C fl_RX0_15 has_C_0 rfl dX0_spotsOfAll_6 ?_
    refine z_icmpge C 27 dX0_spotsOfAll_9 (by decide) ?_ ?_
    · refine z_iload_n C 1 dX0_spotsOfAll_27 rfl ?_
      exact z_iret C dX0_spotsOfAll_28 rfl rfl rfl
    refine z_iload_n C 1 dX0_spotsOfAll_12 rfl ?_
    refine z_aload_n C 0 dX0_spotsOfAll_13 rfl ?_
    refine z_get C fl_RX0_34 has_C_0 rfl dX0_spotsOfAll_14 ?_
    refine z_iload_n C 2 dX0_spotsOfAll_17 rfl ?_
    refine y_iald C has_C_3 dX0_spotsOfAll_18 ?_
    refine z_iadd C dX0_spotsOfAll_19 ?_
    refine z_istore_n C [(1, .int (v1 + (u 3 (Int32.toNatClampNeg v2)))), (0, .ref (a 0)), (2, .int v2)] dX0_spotsOfAll_20 (by decide) rfl ?_
    refine z_iinc C (v := (v2 + 1)) 2 [(2, .int (v2 + 1)), (1, .int (v1 + (u 3 (Int32.toNatClampNeg v2)))), (0, .ref (a 0))] dX0_spotsOfAll_21 rfl rfl (by decide) rfl ?_
    refine z_goto C 4 dX0_spotsOfAll_24 (by decide) ?_
    refine z_loc C [(0, .ref (a 0)), (1, .int (v1 + (u 3 (Int32.toNatClampNeg v2)))), (2, .int (v2 + 1))] [2, 1, 0] rfl ?_
    exact ih (v1 + (u 3 (Int32.toNatClampNeg v2))) (v2 + 1)
noncomputable def f_X0_spotsOfAll (u : zM) : Option (Int32) := f_X0_spotsOfAll_4 FU u 0 0
set_option maxHeartbeats 4000000 in
set_option maxRecDepth 100000 in
theorem ct_X0_spotsOfAll (l : Launch) (G : zG) (a : Nat → Nat) (X : va_W) (u : zM) : zCt l yX0_spotsOfAll cX0_spotsOfAll 3 (some .int) 1 G [.ref (a 0)] (fun u : zM => wC a G.2 u ++ X) (fun r : Int32 => some (.int r)) (fun _ => u) u (f_X0_spotsOfAll u) := by
  refine zCt.of (by decide) (Nat.le_of_ble_eq_true rfl) (fun p e s m args below meth c A C => ?_)
  refine y_lv (lv' := [(0, .ref (a 0))]) rfl ?_
  rw [f_X0_spotsOfAll]
  refine z_iconst (v := 0) C dX0_spotsOfAll_0 (by decide) ?_
  refine z_istore_n C [(1, .int 0), (0, .ref (a 0))] dX0_spotsOfAll_1 (by decide) rfl ?_
  refine z_iconst (v := 0) C dX0_spotsOfAll_2 (by decide) ?_
  refine z_istore_n C [(2, .int 0), (1, .int 0), (0, .ref (a 0))] dX0_spotsOfAll_3 (by decide) rfl ?_
  refine z_loc C [(0, .ref (a 0)), (1, .int 0), (2, .int 0)] [2, 1, 0] rfl ?_
  exact w_X0_spotsOfAll_4 C a X u   FU 0 0
noncomputable def f_X0_takeAway_2 : Nat → zM → Int32 → Option (zM)
  | 0, _, _ => none
  | n + 1, u, v2 => if (u 0 1) ≤ (v2 + 1) then zlet (zU u 0 1 ((u 0 1) - 1)) fun u1 => some u1 else if z_in (v2 + 1) 6 = true then if z_in v2 6 = true then zlet (zU u 2 (Int32.toNatClampNeg v2) (u 2 (Int32.toNatClampNeg (v2 + 1)))) (fun u2 => if z_in (v2 + 1) 6 = true then if z_in v2 6 = true then zlet (zU u2 3 (Int32.toNatClampNeg v2) (u2 3 (Int32.toNatClampNeg (v2 + 1)))) (fun u3 => if z_in (v2 + 1) 6 = true then if z_in v2 6 = true then zlet (zU u3 4 (Int32.toNatClampNeg v2) (u3 4 (Int32.toNatClampNeg (v2 + 1)))) (fun u4 => if z_in (v2 + 1) 6 = true then if z_in v2 6 = true then zlet (zU u4 5 (Int32.toNatClampNeg v2) (u4 5 (Int32.toNatClampNeg (v2 + 1)))) (fun u5 => if z_in (v2 + 1) 6 = true then if z_in v2 6 = true then zlet (zU u5 6 (Int32.toNatClampNeg v2) (u5 6 (Int32.toNatClampNeg (v2 + 1)))) (fun u6 => f_X0_takeAway_2 n u6 (v2 + 1)) else none else none) else none else none) else none else none) else none else none) else none else none
set_option maxHeartbeats 4000000 in
set_option maxRecDepth 100000 in
theorem w_X0_takeAway_2 {p : Program} {l : Launch} {e : Env} {s : State} {m : MethodId} {args : Array Value} {below : List Frame} {meth : Method} {c : Code} {G : zG} {A : Nat → Prop} (C : zC p s m args meth c RX0 cX0_takeAway 3 none G A) (a : Nat → Nat) (X : va_W) : ∀ (n : Nat) (u : zM) (v2 : Int32), PW p l e 1 s m args below meth c G A 3 (fun u : zM => wC a G.2 u ++ X) (fun _ : zM => none) (fun r => r) u [(0, .ref (a 0)), (2, .int v2)] 2 [] (f_X0_takeAway_2 n u v2) := by
  intro n
  induction n with
  | zero => intros; exact z_none
  | succ n ih =>
    intro u v2
    rw [f_X0_takeAway_2]
    refine z_iload_n C 1 dX0_takeAway_2 rfl ?_
    refine z_iconst (v := 1) C dX0_takeAway_3 (by decide) ?_
    refine z_iadd C dX0_takeAway_4 ?_
    refine z_aload_n C 0 dX0_takeAway_5 rfl ?_
    refine z_get C fl_RX0_15 has_C_0 rfl dX0_takeAway_6 ?_
    refine z_icmpge C 88 dX0_takeAway_9 (by decide) ?_ ?_
    · refine z_aload_n C 0 dX0_takeAway_88 rfl ?_
      refine z_dup C dX0_takeAway_89 rfl ?_
      refine z_get C fl_RX0_15 has_C_0 rfl dX0_takeAway_90 ?_
      refine z_iconst (v := 1) C dX0_takeAway_93 (by decide) ?_
      refine z_isub C dX0_takeAway_94 ?_
      refine z_put C fl_RX0_15 ft_0_1 upd_C_0_1 rfl rfl (Nat.le_of_ble_eq_true rfl) dX0_takeAway_95 (fun u1 => ?_)
      exact z_vret C dX0_takeAway_98 rfl rfl
    refine z_aload_n C 0 dX0_takeAway_12 rfl ?_
    refine z_get C fl_RX0_31 has_C_0 rfl dX0_takeAway_13 ?_
    refine z_iload_n C 1 dX0_takeAway_16 rfl ?_
    refine z_aload_n C 0 dX0_takeAway_17 rfl ?_
    refine z_get C fl_RX0_31 has_C_0 rfl dX0_takeAway_18 ?_
    refine z_iload_n C 1 dX0_takeAway_21 rfl ?_
    refine z_iconst (v := 1) C dX0_takeAway_22 (by decide) ?_
    refine z_iadd C dX0_takeAway_23 ?_
    refine y_iald C has_C_2 dX0_takeAway_24 ?_
    refine y_iast C upd_C_2 dX0_takeAway_25 (fun u2 => ?_)
    refine z_aload_n C 0 dX0_takeAway_26 rfl ?_
    refine z_get C fl_RX0_34 has_C_0 rfl dX0_takeAway_27 ?_
    refine z_iload_n C 1 dX0_takeAway_30 rfl ?_
    refine z_aload_n C 0 dX0_takeAway_31 rfl ?_
    refine z_get C fl_RX0_34 has_C_0 rfl dX0_takeAway_32 ?_
    refine z_iload_n C 1 dX0_takeAway_35 rfl ?_
    refine z_iconst (v := 1) C dX0_takeAway_36 (by decide) ?_
    refine z_iadd C dX0_takeAway_37 ?_
    refine y_iald C has_C_3 dX0_takeAway_38 ?_
    refine y_iast C upd_C_3 dX0_takeAway_39 (fun u3 => ?_)
    refine z_aload_n C 0 dX0_takeAway_40 rfl ?_
    refine z_get C fl_RX0_37 has_C_0 rfl dX0_takeAway_41 ?_
    refine z_iload_n C 1 dX0_takeAway_44 rfl ?_
    refine z_aload_n C 0 dX0_takeAway_45 rfl ?_
    refine z_get C fl_RX0_37 has_C_0 rfl dX0_takeAway_46 ?_
    refine z_iload_n C 1 dX0_takeAway_49 rfl ?_
    refine z_iconst (v := 1) C dX0_takeAway_50 (by decide) ?_
    refine z_iadd C dX0_takeAway_51 ?_
    refine y_iald C has_C_4 dX0_takeAway_52 ?_
    refine y_iast C upd_C_4 dX0_takeAway_53 (fun u4 => ?_)
    refine z_aload_n C 0 dX0_takeAway_54 rfl ?_
    refine z_get C fl_RX0_40 has_C_0 rfl dX0_takeAway_55 ?_
    refine z_iload_n C 1 dX0_takeAway_58 rfl ?_
    refine z_aload_n C 0 dX0_takeAway_59 rfl ?_
    refine z_get C fl_RX0_40 has_C_0 rfl dX0_takeAway_60 ?_
    refine z_iload_n C 1 dX0_takeAway_63 rfl ?_
    refine z_iconst (v := 1) C dX0_takeAway_64 (by decide) ?_
    refine z_iadd C dX0_takeAway_65 ?_
    refine y_iald C has_C_5 dX0_takeAway_66 ?_
    refine y_iast C upd_C_5 dX0_takeAway_67 (fun u5 => ?_)
    refine z_aload_n C 0 dX0_takeAway_68 rfl ?_
    refine z_get C fl_RX0_43 has_C_0 rfl dX0_takeAway_69 ?_
    refine z_iload_n C 1 dX0_takeAway_72 rfl ?_
    refine z_aload_n C 0 dX0_takeAway_73 rfl ?_
    refine z_get C fl_RX0_43 has_C_0 rfl dX0_takeAway_74 ?_
    refine z_iload_n C 1 dX0_takeAway_77 rfl ?_
    refine z_iconst (v := 1) C dX0_takeAway_78 (by decide) ?_
    refine z_iadd C dX0_takeAway_79 ?_
    refine y_iald C has_C_6 dX0_takeAway_80 ?_
    refine y_iast C upd_C_6 dX0_takeAway_81 (fun u6 => ?_)
    refine z_iinc C (v := (v2 + 1)) 1 [(2, .int (v2 + 1)), (0, .ref (a 0))] dX0_takeAway_82 rfl rfl (by decide) rfl ?_
    refine z_goto C 2 dX0_takeAway_85 (by decide) ?_
    refine z_loc C [(0, .ref (a 0)), (2, .int (v2 + 1))] [1, 0] rfl ?_
    exact ih u6 (v2 + 1)
noncomputable def f_X0_takeAway (u : zM) (v1 : Int32) : Option (zM) := f_X0_takeAway_2 FU u v1
set_option maxHeartbeats 4000000 in
set_option maxRecDepth 100000 in
theorem ct_X0_takeAway (l : Launch) (G : zG) (a : Nat → Nat) (X : va_W) (u : zM) (v1 : Int32) : zCt l yX0_takeAway cX0_takeAway 3 none 1 G [.ref (a 0), .int v1] (fun u : zM => wC a G.2 u ++ X) (fun _ : zM => none) (fun r => r) u (f_X0_takeAway u v1) := by
  refine zCt.of (by decide) (Nat.le_of_ble_eq_true rfl) (fun p e s m args below meth c A C => ?_)
  refine y_lv (lv' := [(0, .ref (a 0)), (1, .int v1)]) rfl ?_
  rw [f_X0_takeAway]
  refine z_iload_n C 1 dX0_takeAway_0 rfl ?_
  refine z_istore_n C [(2, .int v1), (0, .ref (a 0)), (1, .int v1)] dX0_takeAway_1 (by decide) rfl ?_
  refine z_loc C [(0, .ref (a 0)), (2, .int v1)] [1, 0] rfl ?_
  exact w_X0_takeAway_2 C a X    FU u v1
noncomputable def f_X0_weight (u : zM) (v1 : Int32) : Option (Int32) := if z_in v1 6 = true then if z_in v1 6 = true then if (u 2 (Int32.toNatClampNeg v1)) = 1 then some (((u 3 (Int32.toNatClampNeg v1)) + 1) / 2) else if (u 2 (Int32.toNatClampNeg v1)) = 2 then some ((((u 3 (Int32.toNatClampNeg v1)) + 1) / 2) + 1) else if (u 2 (Int32.toNatClampNeg v1)) = 3 then if z_in v1 6 = true then some (2 * (u 3 (Int32.toNatClampNeg v1))) else none else if z_in v1 6 = true then some (u 3 (Int32.toNatClampNeg v1)) else none else none else none
set_option maxHeartbeats 4000000 in
set_option maxRecDepth 100000 in
theorem ct_X0_weight (l : Launch) (G : zG) (a : Nat → Nat) (X : va_W) (u : zM) (v1 : Int32) : zCt l yX0_weight cX0_weight 3 (some .int) 1 G [.ref (a 0), .int v1] (fun u : zM => wC a G.2 u ++ X) (fun r : Int32 => some (.int r)) (fun _ => u) u (f_X0_weight u v1) := by
  refine zCt.of (by decide) (Nat.le_of_ble_eq_true rfl) (fun p e s m args below meth c A C => ?_)
  refine y_lv (lv' := [(0, .ref (a 0)), (1, .int v1)]) rfl ?_
  rw [f_X0_weight]
  refine z_aload_n C 0 dX0_weight_0 rfl ?_
  refine z_get C fl_RX0_34 has_C_0 rfl dX0_weight_1 ?_
  refine z_iload_n C 1 dX0_weight_4 rfl ?_
  refine y_iald C has_C_3 dX0_weight_5 ?_
  refine z_iconst (v := 1) C dX0_weight_6 (by decide) ?_
  refine z_iadd C dX0_weight_7 ?_
  refine z_iconst (v := 2) C dX0_weight_8 (by decide) ?_
  refine z_idivK C (by decide) dX0_weight_9 ?_
  refine z_istore_n C [(2, .int (((u 3 (Int32.toNatClampNeg v1)) + 1) / 2)), (0, .ref (a 0)), (1, .int v1)] dX0_weight_10 (by decide) rfl ?_
  refine z_aload_n C 1 dX0_weight_11 rfl ?_
  refine z_get C fl_RX0_31 has_C_0 rfl dX0_weight_12 ?_
  refine z_iload_n C 2 dX0_weight_15 rfl ?_
  refine y_iald C has_C_2 dX0_weight_16 ?_
  refine z_ite (fun h1 => ?_) (fun h1 => ?_)
  · refine z_tableIn C 44 dX0_weight_17 (by rw [h1]; decide) (by rw [h1]; decide) (by rw [h1]; rfl) (by decide) ?_
    refine z_iload_n C 0 dX0_weight_44 rfl ?_
    exact z_iret C dX0_weight_45 rfl rfl rfl
  refine z_ite (fun h2 => ?_) (fun h2 => ?_)
  · refine z_tableIn C 46 dX0_weight_17 (by rw [h2]; decide) (by rw [h2]; decide) (by rw [h2]; rfl) (by decide) ?_
    refine z_iload_n C 0 dX0_weight_46 rfl ?_
    refine z_iconst (v := 1) C dX0_weight_47 (by decide) ?_
    refine z_iadd C dX0_weight_48 ?_
    exact z_iret C dX0_weight_49 rfl rfl rfl
  refine z_ite (fun h3 => ?_) (fun h3 => ?_)
  · refine z_tableIn C 50 dX0_weight_17 (by rw [h3]; decide) (by rw [h3]; decide) (by rw [h3]; rfl) (by decide) ?_
    refine z_iconst (v := 2) C dX0_weight_50 (by decide) ?_
    refine z_aload_n C 1 dX0_weight_51 rfl ?_
    refine z_get C fl_RX0_34 has_C_0 rfl dX0_weight_52 ?_
    refine z_iload_n C 2 dX0_weight_55 rfl ?_
    refine y_iald C has_C_3 dX0_weight_56 ?_
    refine z_imul C dX0_weight_57 ?_
    exact z_iret C dX0_weight_58 rfl rfl rfl
  have g4 := z_ni h1
  have g5 := z_ni h2
  have g6 := z_ni h3
  refine z_tableOut C 59 dX0_weight_17 (by simp only [show Int32.toInt 1 = 1 from by decide, show Int32.toInt 2 = 2 from by decide, show Int32.toInt 3 = 3 from by decide] at g4 g5 g6; omega) (by decide) ?_
  refine z_aload_n C 1 dX0_weight_59 rfl ?_
  refine z_get C fl_RX0_34 has_C_0 rfl dX0_weight_60 ?_
  refine z_iload_n C 2 dX0_weight_63 rfl ?_
  refine y_iald C has_C_3 dX0_weight_64 ?_
  exact z_iret C dX0_weight_65 rfl rfl rfl
noncomputable def f_X0_windToday (u : zM) : Option (Int32) := if z_in ((u 0 2) - (u 0 2) / 6 * 6) 6 = true then some (u 7 (Int32.toNatClampNeg ((u 0 2) - (u 0 2) / 6 * 6))) else none
set_option maxHeartbeats 4000000 in
set_option maxRecDepth 100000 in
theorem ct_X0_windToday (l : Launch) (G : zG) (a : Nat → Nat) (X : va_W) (u : zM) : zCt l yX0_windToday cX0_windToday 1 (some .int) 1 G [.ref (a 0)] (fun u : zM => wC a G.2 u ++ X) (fun r : Int32 => some (.int r)) (fun _ => u) u (f_X0_windToday u) := by
  refine zCt.of (by decide) (Nat.le_of_ble_eq_true rfl) (fun p e s m args below meth c A C => ?_)
  refine y_lv (lv' := [(0, .ref (a 0))]) rfl ?_
  rw [f_X0_windToday]
  refine z_aload_n C 0 dX0_windToday_0 rfl ?_
  refine z_get C fl_RX0_46 has_C_0 rfl dX0_windToday_1 ?_
  refine z_aload_n C 0 dX0_windToday_4 rfl ?_
  refine z_get C fl_RX0_18 has_C_0 rfl dX0_windToday_5 ?_
  refine z_bipush (v := 6) C dX0_windToday_8 (by decide) ?_
  refine z_iremK C (by decide) dX0_windToday_10 ?_
  refine y_iald C has_C_7 dX0_windToday_11 ?_
  exact z_iret C dX0_windToday_12 rfl rfl rfl
noncomputable def f_X0_addBeetle (u : zM) (v1 : Int32) (v2 : Int32) (v3 : Int32) (v4 : Int32) : Option (zM) := (f_X0_hasRoomForBeetle u).bind fun r1 => if r1 = true then if z_in (u 0 1) 6 = true then zlet (zU u 2 (Int32.toNatClampNeg (u 0 1)) v1) (fun u2 => if z_in (u2 0 1) 6 = true then zlet (zU u2 3 (Int32.toNatClampNeg (u2 0 1)) v2) (fun u3 => if z_in (u3 0 1) 6 = true then zlet (zU u3 4 (Int32.toNatClampNeg (u3 0 1)) v3) (fun u4 => if z_in (u4 0 1) 6 = true then zlet (zU u4 5 (Int32.toNatClampNeg (u4 0 1)) (-4)) (fun u5 => if z_in (u5 0 1) 6 = true then zlet (zU u5 6 (Int32.toNatClampNeg (u5 0 1)) v4) (fun u6 => zlet (zU u6 0 1 ((u6 0 1) + 1)) fun u7 => some u7) else none) else none) else none) else none) else none else some u
set_option maxHeartbeats 4000000 in
set_option maxRecDepth 100000 in
theorem ct_X0_addBeetle (l : Launch) (G : zG) (a : Nat → Nat) (X : va_W) (u : zM) (v1 : Int32) (v2 : Int32) (v3 : Int32) (v4 : Int32) : zCt l yX0_addBeetle cX0_addBeetle 5 none 2 G [.ref (a 0), .int v1, .int v2, .int v3, .int v4] (fun u : zM => wC a G.2 u ++ X) (fun _ : zM => none) (fun r => r) u (f_X0_addBeetle u v1 v2 v3 v4) := by
  refine zCt.of (by decide) (Nat.le_of_ble_eq_true rfl) (fun p e s m args below meth c A C => ?_)
  refine y_lv (lv' := [(0, .ref (a 0)), (1, .int v1), (2, .int v2), (3, .int v3), (4, .int v4)]) rfl ?_
  rw [f_X0_addBeetle]
  refine z_aload_n C 0 dX0_addBeetle_0 rfl ?_
  refine y_callZ C (z_invV C [] [] (ct_X0_hasRoomForBeetle l G a X u ) mi_X0_hasRoomForBeetle md_X0_hasRoomForBeetle ms_X0_hasRoomForBeetle ml_RX0_65 has_C_0 ⟨_, rfl, rfl⟩ (by decide) rfl rfl dX0_addBeetle_1 (Nat.le_of_ble_eq_true rfl)) (List.Perm.refl _) (fun r1 => ?_)
  refine z_zifeq C 69 dX0_addBeetle_4 (by decide) ?_ ?_
  · refine z_aload_n C 0 dX0_addBeetle_7 rfl ?_
    refine z_get C fl_RX0_31 has_C_0 rfl dX0_addBeetle_8 ?_
    refine z_aload_n C 0 dX0_addBeetle_11 rfl ?_
    refine z_get C fl_RX0_15 has_C_0 rfl dX0_addBeetle_12 ?_
    refine z_iload_n C 1 dX0_addBeetle_15 rfl ?_
    refine y_iast C upd_C_2 dX0_addBeetle_16 (fun u2 => ?_)
    refine z_aload_n C 0 dX0_addBeetle_17 rfl ?_
    refine z_get C fl_RX0_34 has_C_0 rfl dX0_addBeetle_18 ?_
    refine z_aload_n C 0 dX0_addBeetle_21 rfl ?_
    refine z_get C fl_RX0_15 has_C_0 rfl dX0_addBeetle_22 ?_
    refine z_iload_n C 2 dX0_addBeetle_25 rfl ?_
    refine y_iast C upd_C_3 dX0_addBeetle_26 (fun u3 => ?_)
    refine z_aload_n C 0 dX0_addBeetle_27 rfl ?_
    refine z_get C fl_RX0_37 has_C_0 rfl dX0_addBeetle_28 ?_
    refine z_aload_n C 0 dX0_addBeetle_31 rfl ?_
    refine z_get C fl_RX0_15 has_C_0 rfl dX0_addBeetle_32 ?_
    refine z_iload_n C 3 dX0_addBeetle_35 rfl ?_
    refine y_iast C upd_C_4 dX0_addBeetle_36 (fun u4 => ?_)
    refine z_aload_n C 0 dX0_addBeetle_37 rfl ?_
    refine z_get C fl_RX0_40 has_C_0 rfl dX0_addBeetle_38 ?_
    refine z_aload_n C 0 dX0_addBeetle_41 rfl ?_
    refine z_get C fl_RX0_15 has_C_0 rfl dX0_addBeetle_42 ?_
    refine z_bipush (v := (-4)) C dX0_addBeetle_45 (by decide) ?_
    refine y_iast C upd_C_5 dX0_addBeetle_47 (fun u5 => ?_)
    refine z_aload_n C 0 dX0_addBeetle_48 rfl ?_
    refine z_get C fl_RX0_43 has_C_0 rfl dX0_addBeetle_49 ?_
    refine z_aload_n C 0 dX0_addBeetle_52 rfl ?_
    refine z_get C fl_RX0_15 has_C_0 rfl dX0_addBeetle_53 ?_
    refine z_iload C 4 dX0_addBeetle_56 rfl ?_
    refine y_iast C upd_C_6 dX0_addBeetle_58 (fun u6 => ?_)
    refine z_aload_n C 0 dX0_addBeetle_59 rfl ?_
    refine z_dup C dX0_addBeetle_60 rfl ?_
    refine z_get C fl_RX0_15 has_C_0 rfl dX0_addBeetle_61 ?_
    refine z_iconst (v := 1) C dX0_addBeetle_64 (by decide) ?_
    refine z_iadd C dX0_addBeetle_65 ?_
    refine z_put C fl_RX0_15 ft_0_1 upd_C_0_1 rfl rfl (Nat.le_of_ble_eq_true rfl) dX0_addBeetle_66 (fun u7 => ?_)
    exact z_vret C dX0_addBeetle_69 rfl rfl
  exact z_vret C dX0_addBeetle_69 rfl rfl
noncomputable def f_X0_addOne (u : zM) (v1 : Int32) : Option (zM) := (f_X0_hasRoomForOne u).bind fun r1 => if r1 = true then if z_in (u 0 0) 4 = true then zlet (zU u 1 (Int32.toNatClampNeg (u 0 0)) v1) (fun u2 => zlet (zU u2 0 0 ((u2 0 0) + 1)) fun u3 => some u3) else none else some u
set_option maxHeartbeats 4000000 in
set_option maxRecDepth 100000 in
theorem ct_X0_addOne (l : Launch) (G : zG) (a : Nat → Nat) (X : va_W) (u : zM) (v1 : Int32) : zCt l yX0_addOne cX0_addOne 2 none 2 G [.ref (a 0), .int v1] (fun u : zM => wC a G.2 u ++ X) (fun _ : zM => none) (fun r => r) u (f_X0_addOne u v1) := by
  refine zCt.of (by decide) (Nat.le_of_ble_eq_true rfl) (fun p e s m args below meth c A C => ?_)
  refine y_lv (lv' := [(0, .ref (a 0)), (1, .int v1)]) rfl ?_
  rw [f_X0_addOne]
  refine z_aload_n C 0 dX0_addOne_0 rfl ?_
  refine y_callZ C (z_invV C [] [] (ct_X0_hasRoomForOne l G a X u ) mi_X0_hasRoomForOne md_X0_hasRoomForOne ms_X0_hasRoomForOne ml_RX0_61 has_C_0 ⟨_, rfl, rfl⟩ (by decide) rfl rfl dX0_addOne_1 (Nat.le_of_ble_eq_true rfl)) (List.Perm.refl _) (fun r1 => ?_)
  refine z_zifeq C 27 dX0_addOne_4 (by decide) ?_ ?_
  · refine z_aload_n C 0 dX0_addOne_7 rfl ?_
    refine z_get C fl_RX0_27 has_C_0 rfl dX0_addOne_8 ?_
    refine z_aload_n C 0 dX0_addOne_11 rfl ?_
    refine z_get C fl_RX0_9 has_C_0 rfl dX0_addOne_12 ?_
    refine z_iload_n C 1 dX0_addOne_15 rfl ?_
    refine y_iast C upd_C_1 dX0_addOne_16 (fun u2 => ?_)
    refine z_aload_n C 0 dX0_addOne_17 rfl ?_
    refine z_dup C dX0_addOne_18 rfl ?_
    refine z_get C fl_RX0_9 has_C_0 rfl dX0_addOne_19 ?_
    refine z_iconst (v := 1) C dX0_addOne_22 (by decide) ?_
    refine z_iadd C dX0_addOne_23 ?_
    refine z_put C fl_RX0_9 ft_0_0 upd_C_0_0 rfl rfl (Nat.le_of_ble_eq_true rfl) dX0_addOne_24 (fun u3 => ?_)
    exact z_vret C dX0_addOne_27 rfl rfl
  exact z_vret C dX0_addOne_27 rfl rfl
noncomputable def f_X0_clear (u : zM) : Option (zM) := zlet (zU u 0 0 0) fun u1 => zlet (zU u1 0 1 0) fun u2 => zlet (zU u2 0 2 0) fun u3 => zlet (zU u3 0 3 0) fun u4 => zlet (zU u4 0 4 0) fun u5 => (f_fill 6 (u5 7) 0).bind fun r7 => zlet (va_up u5 7 r7) fun u6 => some u6
set_option maxHeartbeats 4000000 in
set_option maxRecDepth 100000 in
theorem ct_X0_clear (l : Launch) (G : zG) (a : Nat → Nat) (X : va_W) (u : zM) : zCt l yX0_clear cX0_clear 1 none 2 G [.ref (a 0)] (fun u : zM => wC a G.2 u ++ X) (fun _ : zM => none) (fun r => r) u (f_X0_clear u) := by
  refine zCt.of (by decide) (Nat.le_of_ble_eq_true rfl) (fun p e s m args below meth c A C => ?_)
  refine y_lv (lv' := [(0, .ref (a 0))]) rfl ?_
  rw [f_X0_clear]
  refine z_aload_n C 0 dX0_clear_0 rfl ?_
  refine z_iconst (v := 0) C dX0_clear_1 (by decide) ?_
  refine z_put C fl_RX0_9 ft_0_0 upd_C_0_0 rfl rfl (Nat.le_of_ble_eq_true rfl) dX0_clear_2 (fun u1 => ?_)
  refine z_aload_n C 0 dX0_clear_5 rfl ?_
  refine z_iconst (v := 0) C dX0_clear_6 (by decide) ?_
  refine z_put C fl_RX0_15 ft_0_1 upd_C_0_1 rfl rfl (Nat.le_of_ble_eq_true rfl) dX0_clear_7 (fun u2 => ?_)
  refine z_aload_n C 0 dX0_clear_10 rfl ?_
  refine z_iconst (v := 0) C dX0_clear_11 (by decide) ?_
  refine z_put C fl_RX0_18 ft_0_2 upd_C_0_2 rfl rfl (Nat.le_of_ble_eq_true rfl) dX0_clear_12 (fun u3 => ?_)
  refine z_aload_n C 0 dX0_clear_15 rfl ?_
  refine z_iconst (v := 0) C dX0_clear_16 (by decide) ?_
  refine z_put C fl_RX0_21 ft_0_3 upd_C_0_3 rfl rfl (Nat.le_of_ble_eq_true rfl) dX0_clear_17 (fun u4 => ?_)
  refine z_aload_n C 0 dX0_clear_20 rfl ?_
  refine z_iconst (v := 0) C dX0_clear_21 (by decide) ?_
  refine z_put C fl_RX0_24 ft_0_4 upd_C_0_4 rfl rfl (Nat.le_of_ble_eq_true rfl) dX0_clear_22 (fun u5 => ?_)
  refine z_aload_n C 0 dX0_clear_25 rfl ?_
  refine z_get C fl_RX0_46 has_C_0 rfl dX0_clear_26 ?_
  refine z_iconst (v := 0) C dX0_clear_29 (by decide) ?_
  refine y_callVS C (z_invS C [.ref (a 7), .int 0] [] (ct_fill l G (a 7) 6 _ (u5 7) 0) mi_J7_fill_53178 mt_J7_fill_53178 ml_RX0_49 (by decide) rfl rfl dX0_clear_30 (Nat.le_of_ble_eq_true rfl)) (zSplit (q0 := 7) rfl) (fun _ => zSplit2 (q0 := 7) rfl) (fun r7 u6 => ?_)
  exact z_vret C dX0_clear_33 rfl rfl
noncomputable def f_X0_copyFrom (v : zM) (u : zM) : Option (zM) := zlet (zU u 0 0 (v 0 0)) fun u1 => zlet (zU u1 0 1 (v 0 1)) fun u2 => zlet (zU u2 0 2 (v 0 2)) fun u3 => zlet (zU u3 0 3 0) fun u4 => zlet (zU u4 0 4 0) fun u5 => zlet (va_up u5 1 (va_cpy (v 1) (u5 1) 0 0 4)) fun u6 => zlet (va_up u6 2 (va_cpy (v 2) (u6 2) 0 0 6)) fun u7 => zlet (va_up u7 3 (va_cpy (v 3) (u7 3) 0 0 6)) fun u8 => zlet (va_up u8 4 (va_cpy (v 4) (u8 4) 0 0 6)) fun u9 => zlet (va_up u9 5 (va_cpy (v 5) (u9 5) 0 0 6)) fun u10 => zlet (va_up u10 6 (va_cpy (v 6) (u10 6) 0 0 6)) fun u11 => zlet (va_up u11 7 (va_cpy (v 7) (u11 7) 0 0 6)) fun u12 => some u12
set_option maxHeartbeats 4000000 in
set_option maxRecDepth 100000 in
theorem ct_X0_copyFrom (l : Launch) (G : zG) (a b : Nat → Nat) (X : va_W) (v : zM) (u : zM) : zCt l yX0_copyFrom cX0_copyFrom 2 none 2 G [.ref (a 0), .ref (b 0)] (fun u : zM => wC a G.2 u ++ (wC b G.2 v ++ X)) (fun _ : zM => none) (fun r => r) u (f_X0_copyFrom v u) := by
  refine zCt.of (by decide) (Nat.le_of_ble_eq_true rfl) (fun p e s m args below meth c A C => ?_)
  refine y_lv (lv' := [(0, .ref (a 0)), (1, .ref (b 0))]) rfl ?_
  rw [f_X0_copyFrom]
  refine z_aload_n C 0 dX0_copyFrom_0 rfl ?_
  refine z_aload_n C 1 dX0_copyFrom_1 rfl ?_
  refine z_get C fl_RX0_9 (zHas.app has_C_0) rfl dX0_copyFrom_2 ?_
  refine z_put C fl_RX0_9 ft_0_0 upd_C_0_0 rfl rfl (Nat.le_of_ble_eq_true rfl) dX0_copyFrom_5 (fun u1 => ?_)
  refine z_aload_n C 0 dX0_copyFrom_8 rfl ?_
  refine z_aload_n C 1 dX0_copyFrom_9 rfl ?_
  refine z_get C fl_RX0_15 (zHas.app has_C_0) rfl dX0_copyFrom_10 ?_
  refine z_put C fl_RX0_15 ft_0_1 upd_C_0_1 rfl rfl (Nat.le_of_ble_eq_true rfl) dX0_copyFrom_13 (fun u2 => ?_)
  refine z_aload_n C 0 dX0_copyFrom_16 rfl ?_
  refine z_aload_n C 1 dX0_copyFrom_17 rfl ?_
  refine z_get C fl_RX0_18 (zHas.app has_C_0) rfl dX0_copyFrom_18 ?_
  refine z_put C fl_RX0_18 ft_0_2 upd_C_0_2 rfl rfl (Nat.le_of_ble_eq_true rfl) dX0_copyFrom_21 (fun u3 => ?_)
  refine z_aload_n C 0 dX0_copyFrom_24 rfl ?_
  refine z_iconst (v := 0) C dX0_copyFrom_25 (by decide) ?_
  refine z_put C fl_RX0_21 ft_0_3 upd_C_0_3 rfl rfl (Nat.le_of_ble_eq_true rfl) dX0_copyFrom_26 (fun u4 => ?_)
  refine z_aload_n C 0 dX0_copyFrom_29 rfl ?_
  refine z_iconst (v := 0) C dX0_copyFrom_30 (by decide) ?_
  refine z_put C fl_RX0_24 ft_0_4 upd_C_0_4 rfl rfl (Nat.le_of_ble_eq_true rfl) dX0_copyFrom_31 (fun u5 => ?_)
  refine z_aload_n C 1 dX0_copyFrom_34 rfl ?_
  refine z_get C fl_RX0_27 (zHas.app has_C_0) rfl dX0_copyFrom_35 ?_
  refine z_iconst (v := 0) C dX0_copyFrom_38 (by decide) ?_
  refine z_aload_n C 0 dX0_copyFrom_39 rfl ?_
  refine z_get C fl_RX0_27 has_C_0 rfl dX0_copyFrom_40 ?_
  refine z_iconst (v := 0) C dX0_copyFrom_43 (by decide) ?_
  refine z_iconst (v := 4) C dX0_copyFrom_44 (by decide) ?_
  refine y_copy (nn := 4) C 424 (by decide +kernel) (by decide) dX0_copyFrom_45 (zHas.app has_C_1) updA_C_1 (by decide) (by decide) (by decide) (by decide) (Nat.le_of_ble_eq_true rfl) (fun u6 => ?_)
  refine z_aload_n C 1 dX0_copyFrom_48 rfl ?_
  refine z_get C fl_RX0_31 (zHas.app has_C_0) rfl dX0_copyFrom_49 ?_
  refine z_iconst (v := 0) C dX0_copyFrom_52 (by decide) ?_
  refine z_aload_n C 0 dX0_copyFrom_53 rfl ?_
  refine z_get C fl_RX0_31 has_C_0 rfl dX0_copyFrom_54 ?_
  refine z_iconst (v := 0) C dX0_copyFrom_57 (by decide) ?_
  refine z_bipush (v := 6) C dX0_copyFrom_58 (by decide) ?_
  refine y_copy (nn := 6) C 424 (by decide +kernel) (by decide) dX0_copyFrom_60 (zHas.app has_C_2) updA_C_2 (by decide) (by decide) (by decide) (by decide) (Nat.le_of_ble_eq_true rfl) (fun u7 => ?_)
  refine z_aload_n C 1 dX0_copyFrom_63 rfl ?_
  refine z_get C fl_RX0_34 (zHas.app has_C_0) rfl dX0_copyFrom_64 ?_
  refine z_iconst (v := 0) C dX0_copyFrom_67 (by decide) ?_
  refine z_aload_n C 0 dX0_copyFrom_68 rfl ?_
  refine z_get C fl_RX0_34 has_C_0 rfl dX0_copyFrom_69 ?_
  refine z_iconst (v := 0) C dX0_copyFrom_72 (by decide) ?_
  refine z_bipush (v := 6) C dX0_copyFrom_73 (by decide) ?_
  refine y_copy (nn := 6) C 424 (by decide +kernel) (by decide) dX0_copyFrom_75 (zHas.app has_C_3) updA_C_3 (by decide) (by decide) (by decide) (by decide) (Nat.le_of_ble_eq_true rfl) (fun u8 => ?_)
  refine z_aload_n C 1 dX0_copyFrom_78 rfl ?_
  refine z_get C fl_RX0_37 (zHas.app has_C_0) rfl dX0_copyFrom_79 ?_
  refine z_iconst (v := 0) C dX0_copyFrom_82 (by decide) ?_
  refine z_aload_n C 0 dX0_copyFrom_83 rfl ?_
  refine z_get C fl_RX0_37 has_C_0 rfl dX0_copyFrom_84 ?_
  refine z_iconst (v := 0) C dX0_copyFrom_87 (by decide) ?_
  refine z_bipush (v := 6) C dX0_copyFrom_88 (by decide) ?_
  refine y_copy (nn := 6) C 424 (by decide +kernel) (by decide) dX0_copyFrom_90 (zHas.app has_C_4) updA_C_4 (by decide) (by decide) (by decide) (by decide) (Nat.le_of_ble_eq_true rfl) (fun u9 => ?_)
  refine z_aload_n C 1 dX0_copyFrom_93 rfl ?_
  refine z_get C fl_RX0_40 (zHas.app has_C_0) rfl dX0_copyFrom_94 ?_
  refine z_iconst (v := 0) C dX0_copyFrom_97 (by decide) ?_
  refine z_aload_n C 0 dX0_copyFrom_98 rfl ?_
  refine z_get C fl_RX0_40 has_C_0 rfl dX0_copyFrom_99 ?_
  refine z_iconst (v := 0) C dX0_copyFrom_102 (by decide) ?_
  refine z_bipush (v := 6) C dX0_copyFrom_103 (by decide) ?_
  refine y_copy (nn := 6) C 424 (by decide +kernel) (by decide) dX0_copyFrom_105 (zHas.app has_C_5) updA_C_5 (by decide) (by decide) (by decide) (by decide) (Nat.le_of_ble_eq_true rfl) (fun u10 => ?_)
  refine z_aload_n C 1 dX0_copyFrom_108 rfl ?_
  refine z_get C fl_RX0_43 (zHas.app has_C_0) rfl dX0_copyFrom_109 ?_
  refine z_iconst (v := 0) C dX0_copyFrom_112 (by decide) ?_
  refine z_aload_n C 0 dX0_copyFrom_113 rfl ?_
  refine z_get C fl_RX0_43 has_C_0 rfl dX0_copyFrom_114 ?_
  refine z_iconst (v := 0) C dX0_copyFrom_117 (by decide) ?_
  refine z_bipush (v := 6) C dX0_copyFrom_118 (by decide) ?_
  refine y_copy (nn := 6) C 424 (by decide +kernel) (by decide) dX0_copyFrom_120 (zHas.app has_C_6) updA_C_6 (by decide) (by decide) (by decide) (by decide) (Nat.le_of_ble_eq_true rfl) (fun u11 => ?_)
  refine z_aload_n C 1 dX0_copyFrom_123 rfl ?_
  refine z_get C fl_RX0_46 (zHas.app has_C_0) rfl dX0_copyFrom_124 ?_
  refine z_iconst (v := 0) C dX0_copyFrom_127 (by decide) ?_
  refine z_aload_n C 0 dX0_copyFrom_128 rfl ?_
  refine z_get C fl_RX0_46 has_C_0 rfl dX0_copyFrom_129 ?_
  refine z_iconst (v := 0) C dX0_copyFrom_132 (by decide) ?_
  refine z_bipush (v := 6) C dX0_copyFrom_133 (by decide) ?_
  refine y_copy (nn := 6) C 424 (by decide +kernel) (by decide) dX0_copyFrom_135 (zHas.app has_C_7) updA_C_7 (by decide) (by decide) (by decide) (by decide) (Nat.le_of_ble_eq_true rfl) (fun u12 => ?_)
  exact z_vret C dX0_copyFrom_138 rfl rfl
noncomputable def f_X0_counted_4 : Nat → zM → Int32 → Int32 → Int32 → Option (Int32)
  | 0, _, _, _, _ => none
  | n + 1, u, v1, v2, v3 => if (u 0 1) ≤ v3 then some v2 else if z_in v3 6 = true then if (u 5 (Int32.toNatClampNeg v3)) = v1 then (f_X0_weight u v3).bind fun r1 => f_X0_counted_4 n u v1 (v2 + r1) (v3 + 1) else f_X0_counted_4 n u v1 v2 (v3 + 1) else none
set_option maxHeartbeats 4000000 in
set_option maxRecDepth 100000 in
theorem w_X0_counted_4 {p : Program} {l : Launch} {e : Env} {s : State} {m : MethodId} {args : Array Value} {below : List Frame} {meth : Method} {c : Code} {G : zG} {A : Nat → Prop} (C : zC p s m args meth c RX0 cX0_counted 4 (some .int) G A) (a : Nat → Nat) (X : va_W) (u : zM) : ∀ (n : Nat) (v1 : Int32) (v2 : Int32) (v3 : Int32), PW p l e 2 s m args below meth c G A 4 (fun u : zM => wC a G.2 u ++ X) (fun r : Int32 => some (.int r)) (fun _ => u) u [(0, .ref (a 0)), (1, .int v1), (2, .int v2), (3, .int v3)] 4 [] (f_X0_counted_4 n u v1 v2 v3) := by
  intro n
  induction n with
  | zero => intros; exact z_none
  | succ n ih =>
    intro v1 v2 v3
    rw [f_X0_counted_4]
    refine z_iload_n C 3 dX0_counted_4 rfl ?_
    refine z_aload_n C 0 dX0_counted_5 rfl ?_
    refine z_get C fl_RX0_15 has_C_0 rfl dX0_counted_6 ?_
    refine z_icmpge C 36 dX0_counted_9 (by decide) ?_ ?_
    · refine z_iload_n C 2 dX0_counted_36 rfl ?_
      exact z_iret C dX0_counted_37 rfl rfl rfl
    refine z_aload_n C 0 dX0_counted_12 rfl ?_
    refine z_get C fl_RX0_40 has_C_0 rfl dX0_counted_13 ?_
    refine z_iload_n C 3 dX0_counted_16 rfl ?_
    refine y_iald C has_C_5 dX0_counted_17 ?_
    refine z_iload_n C 1 dX0_counted_18 rfl ?_
    refine z_icmpne C 30 dX0_counted_19 (by decide) ?_ ?_
    · refine z_iload_n C 2 dX0_counted_22 rfl ?_
      refine z_aload_n C 0 dX0_counted_23 rfl ?_
      refine z_iload_n C 3 dX0_counted_24 rfl ?_
      refine y_callI C (z_invV C [.int v3] [.int v2] (ct_X0_weight l G a X u v3) mi_X0_weight md_X0_weight ms_X0_weight ml_RX0_90 has_C_0 ⟨_, rfl, rfl⟩ (by decide) rfl rfl dX0_counted_25 (Nat.le_of_ble_eq_true rfl)) (List.Perm.refl _) (fun r1 => ?_)
      refine z_iadd C dX0_counted_28 ?_
      refine z_istore_n C [(2, .int (v2 + r1)), (0, .ref (a 0)), (1, .int v1), (3, .int v3)] dX0_counted_29 (by decide) rfl ?_
      refine z_iinc C (v := (v3 + 1)) 3 [(3, .int (v3 + 1)), (2, .int (v2 + r1)), (0, .ref (a 0)), (1, .int v1)] dX0_counted_30 rfl rfl (by decide) rfl ?_
      refine z_goto C 4 dX0_counted_33 (by decide) ?_
      refine z_loc C [(0, .ref (a 0)), (1, .int v1), (2, .int (v2 + r1)), (3, .int (v3 + 1))] [2, 3, 1, 0] rfl ?_
      exact ih v1 (v2 + r1) (v3 + 1)
    refine z_iinc C (v := (v3 + 1)) 3 [(3, .int (v3 + 1)), (0, .ref (a 0)), (1, .int v1), (2, .int v2)] dX0_counted_30 rfl rfl (by decide) rfl ?_
    refine z_goto C 4 dX0_counted_33 (by decide) ?_
    refine z_loc C [(0, .ref (a 0)), (1, .int v1), (2, .int v2), (3, .int (v3 + 1))] [1, 2, 3, 0] rfl ?_
    exact ih v1 v2 (v3 + 1)
noncomputable def f_X0_counted (u : zM) (v1 : Int32) : Option (Int32) := f_X0_counted_4 FU u v1 0 0
set_option maxHeartbeats 4000000 in
set_option maxRecDepth 100000 in
theorem ct_X0_counted (l : Launch) (G : zG) (a : Nat → Nat) (X : va_W) (u : zM) (v1 : Int32) : zCt l yX0_counted cX0_counted 4 (some .int) 2 G [.ref (a 0), .int v1] (fun u : zM => wC a G.2 u ++ X) (fun r : Int32 => some (.int r)) (fun _ => u) u (f_X0_counted u v1) := by
  refine zCt.of (by decide) (Nat.le_of_ble_eq_true rfl) (fun p e s m args below meth c A C => ?_)
  refine y_lv (lv' := [(0, .ref (a 0)), (1, .int v1)]) rfl ?_
  rw [f_X0_counted]
  refine z_iconst (v := 0) C dX0_counted_0 (by decide) ?_
  refine z_istore_n C [(2, .int 0), (0, .ref (a 0)), (1, .int v1)] dX0_counted_1 (by decide) rfl ?_
  refine z_iconst (v := 0) C dX0_counted_2 (by decide) ?_
  refine z_istore_n C [(3, .int 0), (2, .int 0), (0, .ref (a 0)), (1, .int v1)] dX0_counted_3 (by decide) rfl ?_
  refine z_loc C [(0, .ref (a 0)), (1, .int v1), (2, .int 0), (3, .int 0)] [2, 3, 1, 0] rfl ?_
  exact w_X0_counted_4 C a X u   FU v1 0 0
noncomputable def f_X0_countedByPins_4 : Nat → zM → Int32 → Int32 → Int32 → Option (Int32)
  | 0, _, _, _, _ => none
  | n + 1, u, v1, v2, v3 => if (u 0 1) ≤ v3 then some v2 else if z_in v3 6 = true then if (u 5 (Int32.toNatClampNeg v3)) = v1 then if z_in v3 6 = true then if (u 2 (Int32.toNatClampNeg v3)) = 3 then (f_X0_weight u v3).bind fun r1 => f_X0_countedByPins_4 n u v1 (v2 + r1) (v3 + 1) else f_X0_countedByPins_4 n u v1 v2 (v3 + 1) else none else f_X0_countedByPins_4 n u v1 v2 (v3 + 1) else none
set_option maxHeartbeats 4000000 in
set_option maxRecDepth 100000 in
theorem w_X0_countedByPins_4 {p : Program} {l : Launch} {e : Env} {s : State} {m : MethodId} {args : Array Value} {below : List Frame} {meth : Method} {c : Code} {G : zG} {A : Nat → Prop} (C : zC p s m args meth c RX0 cX0_countedByPins 4 (some .int) G A) (a : Nat → Nat) (X : va_W) (u : zM) : ∀ (n : Nat) (v1 : Int32) (v2 : Int32) (v3 : Int32), PW p l e 2 s m args below meth c G A 4 (fun u : zM => wC a G.2 u ++ X) (fun r : Int32 => some (.int r)) (fun _ => u) u [(0, .ref (a 0)), (1, .int v1), (2, .int v2), (3, .int v3)] 4 [] (f_X0_countedByPins_4 n u v1 v2 v3) := by
  intro n
  induction n with
  | zero => intros; exact z_none
  | succ n ih =>
    intro v1 v2 v3
    rw [f_X0_countedByPins_4]
    refine z_iload_n C 3 dX0_countedByPins_4 rfl ?_
    refine z_aload_n C 0 dX0_countedByPins_5 rfl ?_
    refine z_get C fl_RX0_15 has_C_0 rfl dX0_countedByPins_6 ?_
    refine z_icmpge C 46 dX0_countedByPins_9 (by decide) ?_ ?_
    · refine z_iload_n C 2 dX0_countedByPins_46 rfl ?_
      exact z_iret C dX0_countedByPins_47 rfl rfl rfl
    refine z_aload_n C 0 dX0_countedByPins_12 rfl ?_
    refine z_get C fl_RX0_40 has_C_0 rfl dX0_countedByPins_13 ?_
    refine z_iload_n C 3 dX0_countedByPins_16 rfl ?_
    refine y_iald C has_C_5 dX0_countedByPins_17 ?_
    refine z_iload_n C 1 dX0_countedByPins_18 rfl ?_
    refine z_icmpne C 40 dX0_countedByPins_19 (by decide) ?_ ?_
    · refine z_aload_n C 0 dX0_countedByPins_22 rfl ?_
      refine z_get C fl_RX0_31 has_C_0 rfl dX0_countedByPins_23 ?_
      refine z_iload_n C 3 dX0_countedByPins_26 rfl ?_
      refine y_iald C has_C_2 dX0_countedByPins_27 ?_
      refine z_iconst (v := 3) C dX0_countedByPins_28 (by decide) ?_
      refine z_icmpne C 40 dX0_countedByPins_29 (by decide) ?_ ?_
      · refine z_iload_n C 2 dX0_countedByPins_32 rfl ?_
        refine z_aload_n C 0 dX0_countedByPins_33 rfl ?_
        refine z_iload_n C 3 dX0_countedByPins_34 rfl ?_
        refine y_callI C (z_invV C [.int v3] [.int v2] (ct_X0_weight l G a X u v3) mi_X0_weight md_X0_weight ms_X0_weight ml_RX0_90 has_C_0 ⟨_, rfl, rfl⟩ (by decide) rfl rfl dX0_countedByPins_35 (Nat.le_of_ble_eq_true rfl)) (List.Perm.refl _) (fun r1 => ?_)
        refine z_iadd C dX0_countedByPins_38 ?_
        refine z_istore_n C [(2, .int (v2 + r1)), (0, .ref (a 0)), (1, .int v1), (3, .int v3)] dX0_countedByPins_39 (by decide) rfl ?_
        refine z_iinc C (v := (v3 + 1)) 3 [(3, .int (v3 + 1)), (2, .int (v2 + r1)), (0, .ref (a 0)), (1, .int v1)] dX0_countedByPins_40 rfl rfl (by decide) rfl ?_
        refine z_goto C 4 dX0_countedByPins_43 (by decide) ?_
        refine z_loc C [(0, .ref (a 0)), (1, .int v1), (2, .int (v2 + r1)), (3, .int (v3 + 1))] [2, 3, 1, 0] rfl ?_
        exact ih v1 (v2 + r1) (v3 + 1)
      refine z_iinc C (v := (v3 + 1)) 3 [(3, .int (v3 + 1)), (0, .ref (a 0)), (1, .int v1), (2, .int v2)] dX0_countedByPins_40 rfl rfl (by decide) rfl ?_
      refine z_goto C 4 dX0_countedByPins_43 (by decide) ?_
      refine z_loc C [(0, .ref (a 0)), (1, .int v1), (2, .int v2), (3, .int (v3 + 1))] [1, 2, 3, 0] rfl ?_
      exact ih v1 v2 (v3 + 1)
    refine z_iinc C (v := (v3 + 1)) 3 [(3, .int (v3 + 1)), (0, .ref (a 0)), (1, .int v1), (2, .int v2)] dX0_countedByPins_40 rfl rfl (by decide) rfl ?_
    refine z_goto C 4 dX0_countedByPins_43 (by decide) ?_
    refine z_loc C [(0, .ref (a 0)), (1, .int v1), (2, .int v2), (3, .int (v3 + 1))] [1, 2, 3, 0] rfl ?_
    exact ih v1 v2 (v3 + 1)
noncomputable def f_X0_countedByPins (u : zM) (v1 : Int32) : Option (Int32) := f_X0_countedByPins_4 FU u v1 0 0
set_option maxHeartbeats 4000000 in
set_option maxRecDepth 100000 in
theorem ct_X0_countedByPins (l : Launch) (G : zG) (a : Nat → Nat) (X : va_W) (u : zM) (v1 : Int32) : zCt l yX0_countedByPins cX0_countedByPins 4 (some .int) 2 G [.ref (a 0), .int v1] (fun u : zM => wC a G.2 u ++ X) (fun r : Int32 => some (.int r)) (fun _ => u) u (f_X0_countedByPins u v1) := by
  refine zCt.of (by decide) (Nat.le_of_ble_eq_true rfl) (fun p e s m args below meth c A C => ?_)
  refine y_lv (lv' := [(0, .ref (a 0)), (1, .int v1)]) rfl ?_
  rw [f_X0_countedByPins]
  refine z_iconst (v := 0) C dX0_countedByPins_0 (by decide) ?_
  refine z_istore_n C [(2, .int 0), (0, .ref (a 0)), (1, .int v1)] dX0_countedByPins_1 (by decide) rfl ?_
  refine z_iconst (v := 0) C dX0_countedByPins_2 (by decide) ?_
  refine z_istore_n C [(3, .int 0), (2, .int 0), (0, .ref (a 0)), (1, .int v1)] dX0_countedByPins_3 (by decide) rfl ?_
  refine z_loc C [(0, .ref (a 0)), (1, .int v1), (2, .int 0), (3, .int 0)] [2, 3, 1, 0] rfl ?_
  exact w_X0_countedByPins_4 C a X u   FU v1 0 0
noncomputable def f_X0_flyTowards (u : zM) (v1 : Int32) (v2 : Int32) : Option (zM) := if z_in v2 4 = true then if z_in v1 6 = true then (f_X0_pace u v1).bind fun r1 => if z_in v1 6 = true then if z_in v1 6 = true then zlet (zU u 6 (Int32.toNatClampNeg v1) ((u 6 (Int32.toNatClampNeg v1)) + (if (-r1) < (if r1 < ((u 1 (Int32.toNatClampNeg v2)) - (u 6 (Int32.toNatClampNeg v1))) then r1 else ((u 1 (Int32.toNatClampNeg v2)) - (u 6 (Int32.toNatClampNeg v1)))) then (if r1 < ((u 1 (Int32.toNatClampNeg v2)) - (u 6 (Int32.toNatClampNeg v1))) then r1 else ((u 1 (Int32.toNatClampNeg v2)) - (u 6 (Int32.toNatClampNeg v1)))) else (-r1)))) (fun u2 => if z_in v1 6 = true then if z_in v2 4 = true then if (u2 6 (Int32.toNatClampNeg v1)) = (u2 1 (Int32.toNatClampNeg v2)) then if z_in v1 6 = true then zlet (zU u2 5 (Int32.toNatClampNeg v1) v2) (fun u3 => zlet (zU u3 0 4 ((u3 0 4) + 1)) fun u4 => some u4) else none else some u2 else none else none) else none else none else none else none
set_option maxHeartbeats 4000000 in
set_option maxRecDepth 100000 in
theorem ct_X0_flyTowards (l : Launch) (G : zG) (a : Nat → Nat) (X : va_W) (u : zM) (v1 : Int32) (v2 : Int32) : zCt l yX0_flyTowards cX0_flyTowards 5 none 2 G [.ref (a 0), .int v1, .int v2] (fun u : zM => wC a G.2 u ++ X) (fun _ : zM => none) (fun r => r) u (f_X0_flyTowards u v1 v2) := by
  refine zCt.of (by decide) (Nat.le_of_ble_eq_true rfl) (fun p e s m args below meth c A C => ?_)
  refine y_lv (lv' := [(0, .ref (a 0)), (1, .int v1), (2, .int v2)]) rfl ?_
  rw [f_X0_flyTowards]
  refine z_aload_n C 0 dX0_flyTowards_0 rfl ?_
  refine z_get C fl_RX0_27 has_C_0 rfl dX0_flyTowards_1 ?_
  refine z_iload_n C 2 dX0_flyTowards_4 rfl ?_
  refine y_iald C has_C_1 dX0_flyTowards_5 ?_
  refine z_aload_n C 0 dX0_flyTowards_6 rfl ?_
  refine z_get C fl_RX0_43 has_C_0 rfl dX0_flyTowards_7 ?_
  refine z_iload_n C 1 dX0_flyTowards_10 rfl ?_
  refine y_iald C has_C_6 dX0_flyTowards_11 ?_
  refine z_isub C dX0_flyTowards_12 ?_
  refine z_istore_n C [(3, .int ((u 1 (Int32.toNatClampNeg v2)) - (u 6 (Int32.toNatClampNeg v1)))), (0, .ref (a 0)), (1, .int v1), (2, .int v2)] dX0_flyTowards_13 (by decide) rfl ?_
  refine z_aload_n C 1 dX0_flyTowards_14 rfl ?_
  refine z_iload_n C 2 dX0_flyTowards_15 rfl ?_
  refine y_callI C (z_invV C [.int v1] [] (ct_X0_pace l G a X u v1) mi_X0_pace md_X0_pace ms_X0_pace ml_RX0_126 has_C_0 ⟨_, rfl, rfl⟩ (by decide) rfl rfl dX0_flyTowards_16 (Nat.le_of_ble_eq_true rfl)) (List.Perm.refl _) (fun r1 => ?_)
  refine z_istore C [(4, .int r1), (3, .int ((u 1 (Int32.toNatClampNeg v2)) - (u 6 (Int32.toNatClampNeg v1)))), (0, .ref (a 0)), (1, .int v1), (2, .int v2)] dX0_flyTowards_19 (by decide) rfl ?_
  refine z_aload_n C 2 dX0_flyTowards_21 rfl ?_
  refine z_get C fl_RX0_43 has_C_0 rfl dX0_flyTowards_22 ?_
  refine z_iload_n C 3 dX0_flyTowards_25 rfl ?_
  refine z_dup2 C dX0_flyTowards_26 rfl rfl ?_
  refine y_iald C has_C_6 dX0_flyTowards_27 ?_
  refine z_iload C 0 dX0_flyTowards_28 rfl ?_
  refine z_ineg C dX0_flyTowards_30 ?_
  refine z_iload_n C 1 dX0_flyTowards_31 rfl ?_
  refine z_iload C 0 dX0_flyTowards_32 rfl ?_
  refine y_min C 553 (by decide +kernel) (by decide) dX0_flyTowards_34 (Nat.le_of_ble_eq_true rfl) ?_
  refine y_max C 557 (by decide +kernel) (by decide) dX0_flyTowards_37 (Nat.le_of_ble_eq_true rfl) ?_
  refine z_iadd C dX0_flyTowards_40 ?_
  refine y_iast C upd_C_6 dX0_flyTowards_41 (fun u2 => ?_)
  refine z_aload_n C 2 dX0_flyTowards_42 rfl ?_
  refine z_get C fl_RX0_43 has_C_0 rfl dX0_flyTowards_43 ?_
  refine z_iload_n C 3 dX0_flyTowards_46 rfl ?_
  refine y_iald C has_C_6 dX0_flyTowards_47 ?_
  refine z_aload_n C 2 dX0_flyTowards_48 rfl ?_
  refine z_get C fl_RX0_27 has_C_0 rfl dX0_flyTowards_49 ?_
  refine z_iload_n C 4 dX0_flyTowards_52 rfl ?_
  refine y_iald C has_C_1 dX0_flyTowards_53 ?_
  refine z_icmpne C 74 dX0_flyTowards_54 (by decide) ?_ ?_
  · refine z_aload_n C 2 dX0_flyTowards_57 rfl ?_
    refine z_get C fl_RX0_40 has_C_0 rfl dX0_flyTowards_58 ?_
    refine z_iload_n C 3 dX0_flyTowards_61 rfl ?_
    refine z_iload_n C 4 dX0_flyTowards_62 rfl ?_
    refine y_iast C upd_C_5 dX0_flyTowards_63 (fun u3 => ?_)
    refine z_aload_n C 2 dX0_flyTowards_64 rfl ?_
    refine z_dup C dX0_flyTowards_65 rfl ?_
    refine z_get C fl_RX0_24 has_C_0 rfl dX0_flyTowards_66 ?_
    refine z_iconst (v := 1) C dX0_flyTowards_69 (by decide) ?_
    refine z_iadd C dX0_flyTowards_70 ?_
    refine z_put C fl_RX0_24 ft_0_4 upd_C_0_4 rfl rfl (Nat.le_of_ble_eq_true rfl) dX0_flyTowards_71 (fun u4 => ?_)
    exact z_vret C dX0_flyTowards_74 rfl rfl
  exact z_vret C dX0_flyTowards_74 rfl rfl
noncomputable def f_X0_placeOf (u : zM) (v1 : Int32) : Option (Int32) := (f_X0_sits u v1).bind fun r1 => if r1 = true then if z_in v1 6 = true then if z_in (u 5 (Int32.toNatClampNeg v1)) 4 = true then some (u 1 (Int32.toNatClampNeg (u 5 (Int32.toNatClampNeg v1)))) else none else none else if z_in v1 6 = true then some (u 6 (Int32.toNatClampNeg v1)) else none
set_option maxHeartbeats 4000000 in
set_option maxRecDepth 100000 in
theorem ct_X0_placeOf (l : Launch) (G : zG) (a : Nat → Nat) (X : va_W) (u : zM) (v1 : Int32) : zCt l yX0_placeOf cX0_placeOf 2 (some .int) 2 G [.ref (a 0), .int v1] (fun u : zM => wC a G.2 u ++ X) (fun r : Int32 => some (.int r)) (fun _ => u) u (f_X0_placeOf u v1) := by
  refine zCt.of (by decide) (Nat.le_of_ble_eq_true rfl) (fun p e s m args below meth c A C => ?_)
  refine y_lv (lv' := [(0, .ref (a 0)), (1, .int v1)]) rfl ?_
  rw [f_X0_placeOf]
  refine z_aload_n C 0 dX0_placeOf_0 rfl ?_
  refine z_iload_n C 1 dX0_placeOf_1 rfl ?_
  refine y_callZ C (z_invV C [.int v1] [] (ct_X0_sits l G a X u v1) mi_X0_sits md_X0_sits ms_X0_sits ml_RX0_83 has_C_0 ⟨_, rfl, rfl⟩ (by decide) rfl rfl dX0_placeOf_2 (Nat.le_of_ble_eq_true rfl)) (List.Perm.refl _) (fun r1 => ?_)
  refine z_zifeq C 22 dX0_placeOf_5 (by decide) ?_ ?_
  · refine z_aload_n C 0 dX0_placeOf_8 rfl ?_
    refine z_get C fl_RX0_27 has_C_0 rfl dX0_placeOf_9 ?_
    refine z_aload_n C 0 dX0_placeOf_12 rfl ?_
    refine z_get C fl_RX0_40 has_C_0 rfl dX0_placeOf_13 ?_
    refine z_iload_n C 1 dX0_placeOf_16 rfl ?_
    refine y_iald C has_C_5 dX0_placeOf_17 ?_
    refine y_iald C has_C_1 dX0_placeOf_18 ?_
    refine z_goto C 28 dX0_placeOf_19 (by decide) ?_
    exact z_iret C dX0_placeOf_28 rfl rfl rfl
  refine z_aload_n C 0 dX0_placeOf_22 rfl ?_
  refine z_get C fl_RX0_43 has_C_0 rfl dX0_placeOf_23 ?_
  refine z_iload_n C 1 dX0_placeOf_26 rfl ?_
  refine y_iald C has_C_6 dX0_placeOf_27 ?_
  exact z_iret C dX0_placeOf_28 rfl rfl rfl
noncomputable def f_X0_sitting_4 : Nat → zM → Int32 → Int32 → Option (Int32)
  | 0, _, _, _ => none
  | n + 1, u, v1, v2 => if (u 0 1) ≤ v2 then some v1 else (f_X0_sits u v2).bind fun r1 => if r1 = true then f_X0_sitting_4 n u (v1 + 1) (v2 + 1) else f_X0_sitting_4 n u v1 (v2 + 1)
set_option maxHeartbeats 4000000 in
set_option maxRecDepth 100000 in
theorem w_X0_sitting_4 {p : Program} {l : Launch} {e : Env} {s : State} {m : MethodId} {args : Array Value} {below : List Frame} {meth : Method} {c : Code} {G : zG} {A : Nat → Prop} (C : zC p s m args meth c RX0 cX0_sitting 3 (some .int) G A) (a : Nat → Nat) (X : va_W) (u : zM) : ∀ (n : Nat) (v1 : Int32) (v2 : Int32), PW p l e 2 s m args below meth c G A 3 (fun u : zM => wC a G.2 u ++ X) (fun r : Int32 => some (.int r)) (fun _ => u) u [(0, .ref (a 0)), (1, .int v1), (2, .int v2)] 4 [] (f_X0_sitting_4 n u v1 v2) := by
  intro n
  induction n with
  | zero => intros; exact z_none
  | succ n ih =>
    intro v1 v2
    rw [f_X0_sitting_4]
    refine z_iload_n C 2 dX0_sitting_4 rfl ?_
    refine z_aload_n C 0 dX0_sitting_5 rfl ?_
    refine z_get C fl_RX0_15 has_C_0 rfl dX0_sitting_6 ?_
    refine z_icmpge C 29 dX0_sitting_9 (by decide) ?_ ?_
    · refine z_iload_n C 1 dX0_sitting_29 rfl ?_
      exact z_iret C dX0_sitting_30 rfl rfl rfl
    refine z_aload_n C 0 dX0_sitting_12 rfl ?_
    refine z_iload_n C 2 dX0_sitting_13 rfl ?_
    refine y_callZ C (z_invV C [.int v2] [] (ct_X0_sits l G a X u v2) mi_X0_sits md_X0_sits ms_X0_sits ml_RX0_83 has_C_0 ⟨_, rfl, rfl⟩ (by decide) rfl rfl dX0_sitting_14 (Nat.le_of_ble_eq_true rfl)) (List.Perm.refl _) (fun r1 => ?_)
    refine z_zifeq C 23 dX0_sitting_17 (by decide) ?_ ?_
    · refine z_iinc C (v := (v1 + 1)) 1 [(1, .int (v1 + 1)), (0, .ref (a 0)), (2, .int v2)] dX0_sitting_20 rfl rfl (by decide) rfl ?_
      refine z_iinc C (v := (v2 + 1)) 2 [(2, .int (v2 + 1)), (1, .int (v1 + 1)), (0, .ref (a 0))] dX0_sitting_23 rfl rfl (by decide) rfl ?_
      refine z_goto C 4 dX0_sitting_26 (by decide) ?_
      refine z_loc C [(0, .ref (a 0)), (1, .int (v1 + 1)), (2, .int (v2 + 1))] [2, 1, 0] rfl ?_
      exact ih (v1 + 1) (v2 + 1)
    refine z_iinc C (v := (v2 + 1)) 2 [(2, .int (v2 + 1)), (0, .ref (a 0)), (1, .int v1)] dX0_sitting_23 rfl rfl (by decide) rfl ?_
    refine z_goto C 4 dX0_sitting_26 (by decide) ?_
    refine z_loc C [(0, .ref (a 0)), (1, .int v1), (2, .int (v2 + 1))] [1, 2, 0] rfl ?_
    exact ih v1 (v2 + 1)
noncomputable def f_X0_sitting (u : zM) : Option (Int32) := f_X0_sitting_4 FU u 0 0
set_option maxHeartbeats 4000000 in
set_option maxRecDepth 100000 in
theorem ct_X0_sitting (l : Launch) (G : zG) (a : Nat → Nat) (X : va_W) (u : zM) : zCt l yX0_sitting cX0_sitting 3 (some .int) 2 G [.ref (a 0)] (fun u : zM => wC a G.2 u ++ X) (fun r : Int32 => some (.int r)) (fun _ => u) u (f_X0_sitting u) := by
  refine zCt.of (by decide) (Nat.le_of_ble_eq_true rfl) (fun p e s m args below meth c A C => ?_)
  refine y_lv (lv' := [(0, .ref (a 0))]) rfl ?_
  rw [f_X0_sitting]
  refine z_iconst (v := 0) C dX0_sitting_0 (by decide) ?_
  refine z_istore_n C [(1, .int 0), (0, .ref (a 0))] dX0_sitting_1 (by decide) rfl ?_
  refine z_iconst (v := 0) C dX0_sitting_2 (by decide) ?_
  refine z_istore_n C [(2, .int 0), (1, .int 0), (0, .ref (a 0))] dX0_sitting_3 (by decide) rfl ?_
  refine z_loc C [(0, .ref (a 0)), (1, .int 0), (2, .int 0)] [2, 1, 0] rfl ?_
  exact w_X0_sitting_4 C a X u   FU 0 0
noncomputable def f_X0_allMakeWayFor_2 : Nat → zM → Int32 → Int32 → Option (Bool)
  | 0, _, _, _ => none
  | n + 1, u, v1, v2 => if (u 0 0) ≤ v2 then some true else if v2 = v1 then f_X0_allMakeWayFor_2 n u v1 (v2 + 1) else (f_X0_counted u v2).bind fun r1 => (f_X0_counted u v1).bind fun r2 => if r1 < r2 then f_X0_allMakeWayFor_2 n u v1 (v2 + 1) else some false
set_option maxHeartbeats 4000000 in
set_option maxRecDepth 100000 in
theorem w_X0_allMakeWayFor_2 {p : Program} {l : Launch} {e : Env} {s : State} {m : MethodId} {args : Array Value} {below : List Frame} {meth : Method} {c : Code} {G : zG} {A : Nat → Prop} (C : zC p s m args meth c RX0 cX0_allMakeWayFor 3 (some .boolean) G A) (a : Nat → Nat) (X : va_W) (u : zM) : ∀ (n : Nat) (v1 : Int32) (v2 : Int32), PW p l e 3 s m args below meth c G A 3 (fun u : zM => wC a G.2 u ++ X) (fun r : Bool => some (.int (zb r))) (fun _ => u) u [(0, .ref (a 0)), (1, .int v1), (2, .int v2)] 2 [] (f_X0_allMakeWayFor_2 n u v1 v2) := by
  intro n
  induction n with
  | zero => intros; exact z_none
  | succ n ih =>
    intro v1 v2
    rw [f_X0_allMakeWayFor_2]
    refine z_iload_n C 2 dX0_allMakeWayFor_2 rfl ?_
    refine z_aload_n C 0 dX0_allMakeWayFor_3 rfl ?_
    refine z_get C fl_RX0_9 has_C_0 rfl dX0_allMakeWayFor_4 ?_
    refine z_icmpge C 36 dX0_allMakeWayFor_7 (by decide) ?_ ?_
    · refine z_iconst (v := 1) C dX0_allMakeWayFor_36 (by decide) ?_
      exact z_zret (b := true) C dX0_allMakeWayFor_37 rfl rfl
    refine z_iload_n C 2 dX0_allMakeWayFor_10 rfl ?_
    refine z_iload_n C 1 dX0_allMakeWayFor_11 rfl ?_
    refine z_icmpeq C 30 dX0_allMakeWayFor_12 (by decide) ?_ ?_
    · refine z_iinc C (v := (v2 + 1)) 2 [(2, .int (v2 + 1)), (0, .ref (a 0)), (1, .int v1)] dX0_allMakeWayFor_30 rfl rfl (by decide) rfl ?_
      refine z_goto C 2 dX0_allMakeWayFor_33 (by decide) ?_
      refine z_loc C [(0, .ref (a 0)), (1, .int v1), (2, .int (v2 + 1))] [1, 2, 0] rfl ?_
      exact ih v1 (v2 + 1)
    refine z_aload_n C 0 dX0_allMakeWayFor_15 rfl ?_
    refine z_iload_n C 2 dX0_allMakeWayFor_16 rfl ?_
    refine y_callI C (z_invV C [.int v2] [] (ct_X0_counted l G a X u v2) mi_X0_counted md_X0_counted ms_X0_counted ml_RX0_86 has_C_0 ⟨_, rfl, rfl⟩ (by decide) rfl rfl dX0_allMakeWayFor_17 (Nat.le_of_ble_eq_true rfl)) (List.Perm.refl _) (fun r1 => ?_)
    refine z_aload_n C 0 dX0_allMakeWayFor_20 rfl ?_
    refine z_iload_n C 1 dX0_allMakeWayFor_21 rfl ?_
    refine y_callI C (z_invV C [.int v1] [.int r1] (ct_X0_counted l G a X u v1) mi_X0_counted md_X0_counted ms_X0_counted ml_RX0_86 has_C_0 ⟨_, rfl, rfl⟩ (by decide) rfl rfl dX0_allMakeWayFor_22 (Nat.le_of_ble_eq_true rfl)) (List.Perm.refl _) (fun r2 => ?_)
    refine z_icmplt C 30 dX0_allMakeWayFor_25 (by decide) ?_ ?_
    · refine z_iinc C (v := (v2 + 1)) 2 [(2, .int (v2 + 1)), (0, .ref (a 0)), (1, .int v1)] dX0_allMakeWayFor_30 rfl rfl (by decide) rfl ?_
      refine z_goto C 2 dX0_allMakeWayFor_33 (by decide) ?_
      refine z_loc C [(0, .ref (a 0)), (1, .int v1), (2, .int (v2 + 1))] [1, 2, 0] rfl ?_
      exact ih v1 (v2 + 1)
    refine z_iconst (v := 0) C dX0_allMakeWayFor_28 (by decide) ?_
    exact z_zret (b := false) C dX0_allMakeWayFor_29 rfl rfl
noncomputable def f_X0_allMakeWayFor (u : zM) (v1 : Int32) : Option (Bool) := f_X0_allMakeWayFor_2 FU u v1 0
set_option maxHeartbeats 4000000 in
set_option maxRecDepth 100000 in
theorem ct_X0_allMakeWayFor (l : Launch) (G : zG) (a : Nat → Nat) (X : va_W) (u : zM) (v1 : Int32) : zCt l yX0_allMakeWayFor cX0_allMakeWayFor 3 (some .boolean) 3 G [.ref (a 0), .int v1] (fun u : zM => wC a G.2 u ++ X) (fun r : Bool => some (.int (zb r))) (fun _ => u) u (f_X0_allMakeWayFor u v1) := by
  refine zCt.of (by decide) (Nat.le_of_ble_eq_true rfl) (fun p e s m args below meth c A C => ?_)
  refine y_lv (lv' := [(0, .ref (a 0)), (1, .int v1)]) rfl ?_
  rw [f_X0_allMakeWayFor]
  refine z_iconst (v := 0) C dX0_allMakeWayFor_0 (by decide) ?_
  refine z_istore_n C [(2, .int 0), (0, .ref (a 0)), (1, .int v1)] dX0_allMakeWayFor_1 (by decide) rfl ?_
  refine z_loc C [(0, .ref (a 0)), (1, .int v1), (2, .int 0)] [1, 2, 0] rfl ?_
  exact w_X0_allMakeWayFor_2 C a X u   FU v1 0
noncomputable def f_X0_blowOff (u : zM) (v1 : Int32) (v2 : Int32) : Option (zM) := (f_X0_placeOf u v1).bind fun r1 => if ((u 0 2) - (u 0 2) / 2 * 2) = 0 then (f_X0_putInAir u v1 (if 9 < (r1 + v2) then 9 else (r1 + v2))).bind fun r2 => zlet r2 fun u3 => zlet (zU u3 0 3 ((u3 0 3) + 1)) fun u4 => some u4 else (f_X0_putInAir u v1 (if (r1 - v2) < 0 then 0 else (r1 - v2))).bind fun r5 => zlet r5 fun u6 => zlet (zU u6 0 3 ((u6 0 3) + 1)) fun u7 => some u7
set_option maxHeartbeats 4000000 in
set_option maxRecDepth 100000 in
theorem ct_X0_blowOff (l : Launch) (G : zG) (a : Nat → Nat) (X : va_W) (u : zM) (v1 : Int32) (v2 : Int32) : zCt l yX0_blowOff cX0_blowOff 4 none 3 G [.ref (a 0), .int v1, .int v2] (fun u : zM => wC a G.2 u ++ X) (fun _ : zM => none) (fun r => r) u (f_X0_blowOff u v1 v2) := by
  refine zCt.of (by decide) (Nat.le_of_ble_eq_true rfl) (fun p e s m args below meth c A C => ?_)
  refine y_lv (lv' := [(0, .ref (a 0)), (1, .int v1), (2, .int v2)]) rfl ?_
  rw [f_X0_blowOff]
  refine z_aload_n C 0 dX0_blowOff_0 rfl ?_
  refine z_iload_n C 1 dX0_blowOff_1 rfl ?_
  refine y_callI C (z_invV C [.int v1] [] (ct_X0_placeOf l G a X u v1) mi_X0_placeOf md_X0_placeOf ms_X0_placeOf ml_RX0_111 has_C_0 ⟨_, rfl, rfl⟩ (by decide) rfl rfl dX0_blowOff_2 (Nat.le_of_ble_eq_true rfl)) (List.Perm.refl _) (fun r1 => ?_)
  refine z_istore_n C [(3, .int r1), (0, .ref (a 0)), (1, .int v1), (2, .int v2)] dX0_blowOff_5 (by decide) rfl ?_
  refine z_aload_n C 1 dX0_blowOff_6 rfl ?_
  refine z_get C fl_RX0_18 has_C_0 rfl dX0_blowOff_7 ?_
  refine z_iconst (v := 2) C dX0_blowOff_10 (by decide) ?_
  refine z_iremK C (by decide) dX0_blowOff_11 ?_
  refine z_ifne C 31 dX0_blowOff_12 (by decide) ?_ ?_
  · refine z_aload_n C 1 dX0_blowOff_15 rfl ?_
    refine z_iload_n C 2 dX0_blowOff_16 rfl ?_
    refine z_iload_n C 0 dX0_blowOff_17 rfl ?_
    refine z_iload_n C 3 dX0_blowOff_18 rfl ?_
    refine z_iadd C dX0_blowOff_19 ?_
    refine z_bipush (v := 9) C dX0_blowOff_20 (by decide) ?_
    refine y_min C 553 (by decide +kernel) (by decide) dX0_blowOff_22 (Nat.le_of_ble_eq_true rfl) ?_
    refine y_callVS C (z_invV C [.int v1, .int (if 9 < (r1 + v2) then 9 else (r1 + v2))] [] (ct_X0_putInAir l G a X u v1 (if 9 < (r1 + v2) then 9 else (r1 + v2))) mi_X0_putInAir md_X0_putInAir ms_X0_putInAir ml_RX0_120 has_C_0 ⟨_, rfl, rfl⟩ (by decide) rfl rfl dX0_blowOff_25 (Nat.le_of_ble_eq_true rfl)) (List.Perm.refl _) (fun _ => List.Perm.refl _) (fun r2 u3 => ?_)
    refine z_goto C 43 dX0_blowOff_28 (by decide) ?_
    refine z_aload_n C 1 dX0_blowOff_43 rfl ?_
    refine z_dup C dX0_blowOff_44 rfl ?_
    refine z_get C fl_RX0_21 has_C_0 rfl dX0_blowOff_45 ?_
    refine z_iconst (v := 1) C dX0_blowOff_48 (by decide) ?_
    refine z_iadd C dX0_blowOff_49 ?_
    refine z_put C fl_RX0_21 ft_0_3 upd_C_0_3 rfl rfl (Nat.le_of_ble_eq_true rfl) dX0_blowOff_50 (fun u4 => ?_)
    exact z_vret C dX0_blowOff_53 rfl rfl
  refine z_aload_n C 1 dX0_blowOff_31 rfl ?_
  refine z_iload_n C 2 dX0_blowOff_32 rfl ?_
  refine z_iload_n C 0 dX0_blowOff_33 rfl ?_
  refine z_iload_n C 3 dX0_blowOff_34 rfl ?_
  refine z_isub C dX0_blowOff_35 ?_
  refine z_iconst (v := 0) C dX0_blowOff_36 (by decide) ?_
  refine y_max C 557 (by decide +kernel) (by decide) dX0_blowOff_37 (Nat.le_of_ble_eq_true rfl) ?_
  refine y_callVS C (z_invV C [.int v1, .int (if (r1 - v2) < 0 then 0 else (r1 - v2))] [] (ct_X0_putInAir l G a X u v1 (if (r1 - v2) < 0 then 0 else (r1 - v2))) mi_X0_putInAir md_X0_putInAir ms_X0_putInAir ml_RX0_120 has_C_0 ⟨_, rfl, rfl⟩ (by decide) rfl rfl dX0_blowOff_40 (Nat.le_of_ble_eq_true rfl)) (List.Perm.refl _) (fun _ => List.Perm.refl _) (fun r5 u6 => ?_)
  refine z_aload_n C 1 dX0_blowOff_43 rfl ?_
  refine z_dup C dX0_blowOff_44 rfl ?_
  refine z_get C fl_RX0_21 has_C_0 rfl dX0_blowOff_45 ?_
  refine z_iconst (v := 1) C dX0_blowOff_48 (by decide) ?_
  refine z_iadd C dX0_blowOff_49 ?_
  refine z_put C fl_RX0_21 ft_0_3 upd_C_0_3 rfl rfl (Nat.le_of_ble_eq_true rfl) dX0_blowOff_50 (fun u7 => ?_)
  exact z_vret C dX0_blowOff_53 rfl rfl
noncomputable def f_X0_countedOfAll_4 : Nat → zM → Int32 → Int32 → Option (Int32)
  | 0, _, _, _ => none
  | n + 1, u, v1, v2 => if (u 0 0) ≤ v2 then some v1 else (f_X0_counted u v2).bind fun r1 => f_X0_countedOfAll_4 n u (v1 + r1) (v2 + 1)
set_option maxHeartbeats 4000000 in
set_option maxRecDepth 100000 in
theorem w_X0_countedOfAll_4 {p : Program} {l : Launch} {e : Env} {s : State} {m : MethodId} {args : Array Value} {below : List Frame} {meth : Method} {c : Code} {G : zG} {A : Nat → Prop} (C : zC p s m args meth c RX0 cX0_countedOfAll 3 (some .int) G A) (a : Nat → Nat) (X : va_W) (u : zM) : ∀ (n : Nat) (v1 : Int32) (v2 : Int32), PW p l e 3 s m args below meth c G A 3 (fun u : zM => wC a G.2 u ++ X) (fun r : Int32 => some (.int r)) (fun _ => u) u [(0, .ref (a 0)), (1, .int v1), (2, .int v2)] 4 [] (f_X0_countedOfAll_4 n u v1 v2) := by
  intro n
  induction n with
  | zero => intros; exact z_none
  | succ n ih =>
    intro v1 v2
    rw [f_X0_countedOfAll_4]
    refine z_iload_n C 2 dX0_countedOfAll_4 rfl ?_
    refine z_aload_n C 0 dX0_countedOfAll_5 rfl ?_
    refine z_get C fl_RX0_9 has_C_0 rfl dX0_countedOfAll_6 ?_
    refine z_icmpge C 26 dX0_countedOfAll_9 (by decide) ?_ ?_
    · refine z_iload_n C 1 dX0_countedOfAll_26 rfl ?_
      exact z_iret C dX0_countedOfAll_27 rfl rfl rfl
    refine z_iload_n C 1 dX0_countedOfAll_12 rfl ?_
    refine z_aload_n C 0 dX0_countedOfAll_13 rfl ?_
    refine z_iload_n C 2 dX0_countedOfAll_14 rfl ?_
    refine y_callI C (z_invV C [.int v2] [.int v1] (ct_X0_counted l G a X u v2) mi_X0_counted md_X0_counted ms_X0_counted ml_RX0_86 has_C_0 ⟨_, rfl, rfl⟩ (by decide) rfl rfl dX0_countedOfAll_15 (Nat.le_of_ble_eq_true rfl)) (List.Perm.refl _) (fun r1 => ?_)
    refine z_iadd C dX0_countedOfAll_18 ?_
    refine z_istore_n C [(1, .int (v1 + r1)), (0, .ref (a 0)), (2, .int v2)] dX0_countedOfAll_19 (by decide) rfl ?_
    refine z_iinc C (v := (v2 + 1)) 2 [(2, .int (v2 + 1)), (1, .int (v1 + r1)), (0, .ref (a 0))] dX0_countedOfAll_20 rfl rfl (by decide) rfl ?_
    refine z_goto C 4 dX0_countedOfAll_23 (by decide) ?_
    refine z_loc C [(0, .ref (a 0)), (1, .int (v1 + r1)), (2, .int (v2 + 1))] [2, 1, 0] rfl ?_
    exact ih (v1 + r1) (v2 + 1)
noncomputable def f_X0_countedOfAll (u : zM) : Option (Int32) := f_X0_countedOfAll_4 FU u 0 0
set_option maxHeartbeats 4000000 in
set_option maxRecDepth 100000 in
theorem ct_X0_countedOfAll (l : Launch) (G : zG) (a : Nat → Nat) (X : va_W) (u : zM) : zCt l yX0_countedOfAll cX0_countedOfAll 3 (some .int) 3 G [.ref (a 0)] (fun u : zM => wC a G.2 u ++ X) (fun r : Int32 => some (.int r)) (fun _ => u) u (f_X0_countedOfAll u) := by
  refine zCt.of (by decide) (Nat.le_of_ble_eq_true rfl) (fun p e s m args below meth c A C => ?_)
  refine y_lv (lv' := [(0, .ref (a 0))]) rfl ?_
  rw [f_X0_countedOfAll]
  refine z_iconst (v := 0) C dX0_countedOfAll_0 (by decide) ?_
  refine z_istore_n C [(1, .int 0), (0, .ref (a 0))] dX0_countedOfAll_1 (by decide) rfl ?_
  refine z_iconst (v := 0) C dX0_countedOfAll_2 (by decide) ?_
  refine z_istore_n C [(2, .int 0), (1, .int 0), (0, .ref (a 0))] dX0_countedOfAll_3 (by decide) rfl ?_
  refine z_loc C [(0, .ref (a 0)), (1, .int 0), (2, .int 0)] [2, 1, 0] rfl ?_
  exact w_X0_countedOfAll_4 C a X u   FU 0 0
noncomputable def f_X0_mostCounted_7 : Nat → zM → Int32 → Int32 → Int32 → Option (Int32)
  | 0, _, _, _, _ => none
  | n + 1, u, v1, v2, v3 => if (u 0 0) ≤ v3 then some v1 else (f_X0_counted u v3).bind fun r1 => if r1 ≤ v2 then f_X0_mostCounted_7 n u v1 v2 (v3 + 1) else f_X0_mostCounted_7 n u v3 r1 (v3 + 1)
set_option maxHeartbeats 4000000 in
set_option maxRecDepth 100000 in
theorem w_X0_mostCounted_7 {p : Program} {l : Launch} {e : Env} {s : State} {m : MethodId} {args : Array Value} {below : List Frame} {meth : Method} {c : Code} {G : zG} {A : Nat → Prop} (C : zC p s m args meth c RX0 cX0_mostCounted 5 (some .int) G A) (a : Nat → Nat) (X : va_W) (u : zM) : ∀ (n : Nat) (v1 : Int32) (v2 : Int32) (v3 : Int32), PW p l e 3 s m args below meth c G A 5 (fun u : zM => wC a G.2 u ++ X) (fun r : Int32 => some (.int r)) (fun _ => u) u [(0, .ref (a 0)), (1, .int v1), (2, .int v2), (3, .int v3)] 7 [] (f_X0_mostCounted_7 n u v1 v2 v3) := by
  intro n
  induction n with
  | zero => intros; exact z_none
  | succ n ih =>
    intro v1 v2 v3
    rw [f_X0_mostCounted_7]
    refine z_iload_n C 3 dX0_mostCounted_7 rfl ?_
    refine z_aload_n C 0 dX0_mostCounted_8 rfl ?_
    refine z_get C fl_RX0_9 has_C_0 rfl dX0_mostCounted_9 ?_
    refine z_icmpge C 39 dX0_mostCounted_12 (by decide) ?_ ?_
    · refine z_iload_n C 1 dX0_mostCounted_39 rfl ?_
      exact z_iret C dX0_mostCounted_40 rfl rfl rfl
    refine z_aload_n C 0 dX0_mostCounted_15 rfl ?_
    refine z_iload_n C 3 dX0_mostCounted_16 rfl ?_
    refine y_callI C (z_invV C [.int v3] [] (ct_X0_counted l G a X u v3) mi_X0_counted md_X0_counted ms_X0_counted ml_RX0_86 has_C_0 ⟨_, rfl, rfl⟩ (by decide) rfl rfl dX0_mostCounted_17 (Nat.le_of_ble_eq_true rfl)) (List.Perm.refl _) (fun r1 => ?_)
    refine z_istore C [(4, .int r1), (0, .ref (a 0)), (1, .int v1), (2, .int v2), (3, .int v3)] dX0_mostCounted_20 (by decide) rfl ?_
    refine z_iload C 0 dX0_mostCounted_22 rfl ?_
    refine z_iload_n C 3 dX0_mostCounted_24 rfl ?_
    refine z_icmple C 33 dX0_mostCounted_25 (by decide) ?_ ?_
    · refine z_iinc C (v := (v3 + 1)) 4 [(3, .int (v3 + 1)), (4, .int r1), (0, .ref (a 0)), (1, .int v1), (2, .int v2)] dX0_mostCounted_33 rfl rfl (by decide) rfl ?_
      refine z_goto C 7 dX0_mostCounted_36 (by decide) ?_
      refine z_loc C [(0, .ref (a 0)), (1, .int v1), (2, .int v2), (3, .int (v3 + 1))] [2, 3, 4, 0] rfl ?_
      exact ih v1 v2 (v3 + 1)
    refine z_iload_n C 4 dX0_mostCounted_28 rfl ?_
    refine z_istore_n C [(1, .int v3), (4, .int r1), (0, .ref (a 0)), (2, .int v2), (3, .int v3)] dX0_mostCounted_29 (by decide) rfl ?_
    refine z_iload C 1 dX0_mostCounted_30 rfl ?_
    refine z_istore_n C [(2, .int r1), (1, .int v3), (4, .int r1), (0, .ref (a 0)), (3, .int v3)] dX0_mostCounted_32 (by decide) rfl ?_
    refine z_iinc C (v := (v3 + 1)) 4 [(3, .int (v3 + 1)), (2, .int r1), (1, .int v3), (4, .int r1), (0, .ref (a 0))] dX0_mostCounted_33 rfl rfl (by decide) rfl ?_
    refine z_goto C 7 dX0_mostCounted_36 (by decide) ?_
    refine z_loc C [(0, .ref (a 0)), (1, .int v3), (2, .int r1), (3, .int (v3 + 1))] [4, 2, 1, 0] rfl ?_
    exact ih v3 r1 (v3 + 1)
noncomputable def f_X0_mostCounted (u : zM) : Option (Int32) := f_X0_mostCounted_7 FU u (-4) 0 0
set_option maxHeartbeats 4000000 in
set_option maxRecDepth 100000 in
theorem ct_X0_mostCounted (l : Launch) (G : zG) (a : Nat → Nat) (X : va_W) (u : zM) : zCt l yX0_mostCounted cX0_mostCounted 5 (some .int) 3 G [.ref (a 0)] (fun u : zM => wC a G.2 u ++ X) (fun r : Int32 => some (.int r)) (fun _ => u) u (f_X0_mostCounted u) := by
  refine zCt.of (by decide) (Nat.le_of_ble_eq_true rfl) (fun p e s m args below meth c A C => ?_)
  refine y_lv (lv' := [(0, .ref (a 0))]) rfl ?_
  rw [f_X0_mostCounted]
  refine z_bipush (v := (-4)) C dX0_mostCounted_0 (by decide) ?_
  refine z_istore_n C [(1, .int (-4)), (0, .ref (a 0))] dX0_mostCounted_2 (by decide) rfl ?_
  refine z_iconst (v := 0) C dX0_mostCounted_3 (by decide) ?_
  refine z_istore_n C [(2, .int 0), (1, .int (-4)), (0, .ref (a 0))] dX0_mostCounted_4 (by decide) rfl ?_
  refine z_iconst (v := 0) C dX0_mostCounted_5 (by decide) ?_
  refine z_istore_n C [(3, .int 0), (2, .int 0), (1, .int (-4)), (0, .ref (a 0))] dX0_mostCounted_6 (by decide) rfl ?_
  refine z_loc C [(0, .ref (a 0)), (1, .int (-4)), (2, .int 0), (3, .int 0)] [3, 2, 1, 0] rfl ?_
  exact w_X0_mostCounted_7 C a X u   FU (-4) 0 0
noncomputable def f_X0_sought_66 : Nat → zM → Int32 → Int32 → Int32 → Option (Int32)
  | 0, _, _, _, _ => none
  | n + 1, u, v2, v3, v4 => if (u 0 0) ≤ v4 then some v2 else (f_X0_counted u v4).bind fun r2 => if v3 ≤ r2 then f_X0_sought_66 n u v2 v3 (v4 + 1) else f_X0_sought_66 n u v4 r2 (v4 + 1)
set_option maxHeartbeats 4000000 in
set_option maxRecDepth 100000 in
theorem w_X0_sought_66 {p : Program} {l : Launch} {e : Env} {s : State} {m : MethodId} {args : Array Value} {below : List Frame} {meth : Method} {c : Code} {G : zG} {A : Nat → Prop} (C : zC p s m args meth c RX0 cX0_sought 6 (some .int) G A) (a : Nat → Nat) (X : va_W) (u : zM) : ∀ (n : Nat) (v2 : Int32) (v3 : Int32) (v4 : Int32), PW p l e 3 s m args below meth c G A 6 (fun u : zM => wC a G.2 u ++ X) (fun r : Int32 => some (.int r)) (fun _ => u) u [(0, .ref (a 0)), (2, .int v2), (3, .int v3), (4, .int v4)] 66 [] (f_X0_sought_66 n u v2 v3 v4) := by
  intro n
  induction n with
  | zero => intros; exact z_none
  | succ n ih =>
    intro v2 v3 v4
    rw [f_X0_sought_66]
    refine z_iload C 3 dX0_sought_66 rfl ?_
    refine z_aload_n C 0 dX0_sought_68 rfl ?_
    refine z_get C fl_RX0_9 has_C_0 rfl dX0_sought_69 ?_
    refine z_icmpge C 101 dX0_sought_72 (by decide) ?_ ?_
    · refine z_iload_n C 1 dX0_sought_101 rfl ?_
      exact z_iret C dX0_sought_102 rfl rfl rfl
    refine z_aload_n C 0 dX0_sought_75 rfl ?_
    refine z_iload C 3 dX0_sought_76 rfl ?_
    refine y_callI C (z_invV C [.int v4] [] (ct_X0_counted l G a X u v4) mi_X0_counted md_X0_counted ms_X0_counted ml_RX0_86 has_C_0 ⟨_, rfl, rfl⟩ (by decide) rfl rfl dX0_sought_78 (Nat.le_of_ble_eq_true rfl)) (List.Perm.refl _) (fun r2 => ?_)
    refine z_istore C [(5, .int r2), (0, .ref (a 0)), (2, .int v2), (3, .int v3), (4, .int v4)] dX0_sought_81 (by decide) rfl ?_
    refine z_iload C 0 dX0_sought_83 rfl ?_
    refine z_iload_n C 3 dX0_sought_85 rfl ?_
    refine z_icmpge C 95 dX0_sought_86 (by decide) ?_ ?_
    · refine z_iinc C (v := (v4 + 1)) 4 [(4, .int (v4 + 1)), (5, .int r2), (0, .ref (a 0)), (2, .int v2), (3, .int v3)] dX0_sought_95 rfl rfl (by decide) rfl ?_
      refine z_goto C 66 dX0_sought_98 (by decide) ?_
      refine z_loc C [(0, .ref (a 0)), (2, .int v2), (3, .int v3), (4, .int (v4 + 1))] [2, 3, 4, 0] rfl ?_
      exact ih v2 v3 (v4 + 1)
    refine z_iload C 4 dX0_sought_89 rfl ?_
    refine z_istore_n C [(2, .int v4), (5, .int r2), (0, .ref (a 0)), (3, .int v3), (4, .int v4)] dX0_sought_91 (by decide) rfl ?_
    refine z_iload C 1 dX0_sought_92 rfl ?_
    refine z_istore_n C [(3, .int r2), (2, .int v4), (5, .int r2), (0, .ref (a 0)), (4, .int v4)] dX0_sought_94 (by decide) rfl ?_
    refine z_iinc C (v := (v4 + 1)) 4 [(4, .int (v4 + 1)), (3, .int r2), (2, .int v4), (5, .int r2), (0, .ref (a 0))] dX0_sought_95 rfl rfl (by decide) rfl ?_
    refine z_goto C 66 dX0_sought_98 (by decide) ?_
    refine z_loc C [(0, .ref (a 0)), (2, .int v4), (3, .int r2), (4, .int (v4 + 1))] [4, 2, 1, 0] rfl ?_
    exact ih v4 r2 (v4 + 1)
noncomputable def f_X0_sought (u : zM) (v1 : Int32) : Option (Int32) := if z_in v1 6 = true then if (u 2 (Int32.toNatClampNeg v1)) = 1 then if z_in v1 6 = true then if (u 0 0) ≤ ((u 4 (Int32.toNatClampNeg v1)) + 1) then some 0 else if z_in v1 6 = true then some ((u 4 (Int32.toNatClampNeg v1)) + 1) else none else none else if z_in v1 6 = true then if (u 2 (Int32.toNatClampNeg v1)) = 2 then (f_X0_counted u 0).bind fun r1 => f_X0_sought_66 FU u 0 r1 1 else if z_in v1 6 = true then some (u 4 (Int32.toNatClampNeg v1)) else none else none else none
set_option maxHeartbeats 4000000 in
set_option maxRecDepth 100000 in
theorem ct_X0_sought (l : Launch) (G : zG) (a : Nat → Nat) (X : va_W) (u : zM) (v1 : Int32) : zCt l yX0_sought cX0_sought 6 (some .int) 3 G [.ref (a 0), .int v1] (fun u : zM => wC a G.2 u ++ X) (fun r : Int32 => some (.int r)) (fun _ => u) u (f_X0_sought u v1) := by
  refine zCt.of (by decide) (Nat.le_of_ble_eq_true rfl) (fun p e s m args below meth c A C => ?_)
  refine y_lv (lv' := [(0, .ref (a 0)), (1, .int v1)]) rfl ?_
  rw [f_X0_sought]
  refine z_aload_n C 0 dX0_sought_0 rfl ?_
  refine z_get C fl_RX0_31 has_C_0 rfl dX0_sought_1 ?_
  refine z_iload_n C 1 dX0_sought_4 rfl ?_
  refine y_iald C has_C_2 dX0_sought_5 ?_
  refine z_iconst (v := 1) C dX0_sought_6 (by decide) ?_
  refine z_icmpne C 38 dX0_sought_7 (by decide) ?_ ?_
  · refine z_aload_n C 0 dX0_sought_10 rfl ?_
    refine z_get C fl_RX0_37 has_C_0 rfl dX0_sought_11 ?_
    refine z_iload_n C 1 dX0_sought_14 rfl ?_
    refine y_iald C has_C_4 dX0_sought_15 ?_
    refine z_iconst (v := 1) C dX0_sought_16 (by decide) ?_
    refine z_iadd C dX0_sought_17 ?_
    refine z_aload_n C 0 dX0_sought_18 rfl ?_
    refine z_get C fl_RX0_9 has_C_0 rfl dX0_sought_19 ?_
    refine z_icmpge C 36 dX0_sought_22 (by decide) ?_ ?_
    · refine z_iconst (v := 0) C dX0_sought_36 (by decide) ?_
      exact z_iret C dX0_sought_37 rfl rfl rfl
    refine z_aload_n C 0 dX0_sought_25 rfl ?_
    refine z_get C fl_RX0_37 has_C_0 rfl dX0_sought_26 ?_
    refine z_iload_n C 1 dX0_sought_29 rfl ?_
    refine y_iald C has_C_4 dX0_sought_30 ?_
    refine z_iconst (v := 1) C dX0_sought_31 (by decide) ?_
    refine z_iadd C dX0_sought_32 ?_
    refine z_goto C 37 dX0_sought_33 (by decide) ?_
    exact z_iret C dX0_sought_37 rfl rfl rfl
  refine z_aload_n C 0 dX0_sought_38 rfl ?_
  refine z_get C fl_RX0_31 has_C_0 rfl dX0_sought_39 ?_
  refine z_iload_n C 1 dX0_sought_42 rfl ?_
  refine y_iald C has_C_2 dX0_sought_43 ?_
  refine z_iconst (v := 2) C dX0_sought_44 (by decide) ?_
  refine z_icmpeq C 55 dX0_sought_45 (by decide) ?_ ?_
  · refine z_iconst (v := 0) C dX0_sought_55 (by decide) ?_
    refine z_istore_n C [(2, .int 0), (0, .ref (a 0)), (1, .int v1)] dX0_sought_56 (by decide) rfl ?_
    refine z_aload_n C 1 dX0_sought_57 rfl ?_
    refine z_iload_n C 0 dX0_sought_58 rfl ?_
    refine y_callI C (z_invV C [.int 0] [] (ct_X0_counted l G a X u 0) mi_X0_counted md_X0_counted ms_X0_counted ml_RX0_86 has_C_0 ⟨_, rfl, rfl⟩ (by decide) rfl rfl dX0_sought_59 (Nat.le_of_ble_eq_true rfl)) (List.Perm.refl _) (fun r1 => ?_)
    refine z_istore_n C [(3, .int r1), (2, .int 0), (0, .ref (a 0)), (1, .int v1)] dX0_sought_62 (by decide) rfl ?_
    refine z_iconst (v := 1) C dX0_sought_63 (by decide) ?_
    refine z_istore C [(4, .int 1), (3, .int r1), (2, .int 0), (0, .ref (a 0)), (1, .int v1)] dX0_sought_64 (by decide) rfl ?_
    refine z_loc C [(0, .ref (a 0)), (2, .int 0), (3, .int r1), (4, .int 1)] [3, 2, 1, 0] rfl ?_
    exact w_X0_sought_66 C a X u   FU 0 r1 1
  refine z_aload_n C 0 dX0_sought_48 rfl ?_
  refine z_get C fl_RX0_37 has_C_0 rfl dX0_sought_49 ?_
  refine z_iload_n C 1 dX0_sought_52 rfl ?_
  refine y_iald C has_C_4 dX0_sought_53 ?_
  exact z_iret C dX0_sought_54 rfl rfl rfl
noncomputable def f_X0_takeDabbed (u : zM) (v1 : Int32) (v2 : Int32) (v3 : Int32) : Option (Int32 × zM) := (f_X6_isKind v1).bind fun r1 => if r1 = true then (f_X6_isWithin v2 1 9).bind fun r2 => if r2 = true then (f_X0_hasOne u v3).bind fun r3 => if r3 = true then (f_X0_hasRoomForBeetle u).bind fun r4 => if r4 = true then if z_in v3 4 = true then (f_X0_addBeetle u v1 v2 v3 (u 1 (Int32.toNatClampNeg v3))).bind fun r5 => zlet r5 fun u6 => if z_in (u 0 1) 6 = true then zlet (zU u6 5 (Int32.toNatClampNeg (u 0 1)) v3) (fun u7 => some ((u7 0 1), u7)) else none else none else some ((-3), u) else some ((-1), u) else some ((-1), u) else some ((-1), u)
set_option maxHeartbeats 4000000 in
set_option maxRecDepth 100000 in
theorem ct_X0_takeDabbed (l : Launch) (G : zG) (a : Nat → Nat) (X : va_W) (u : zM) (v1 : Int32) (v2 : Int32) (v3 : Int32) : zCt l yX0_takeDabbed cX0_takeDabbed 5 (some .int) 3 G [.ref (a 0), .int v1, .int v2, .int v3] (fun u : zM => wC a G.2 u ++ X) (fun r : Int32 × zM => some (.int r.1)) (fun r => r.2) u (f_X0_takeDabbed u v1 v2 v3) := by
  refine zCt.of (by decide) (Nat.le_of_ble_eq_true rfl) (fun p e s m args below meth c A C => ?_)
  refine y_lv (lv' := [(0, .ref (a 0)), (1, .int v1), (2, .int v2), (3, .int v3)]) rfl ?_
  rw [f_X0_takeDabbed]
  refine z_iload_n C 1 dX0_takeDabbed_0 rfl ?_
  refine y_callZ C (z_invS C [.int v1] [] (ct_X6_isKind l G ((fun u : zM => wC a G.2 u ++ X) u) v1) mi_X6_isKind mt_X6_isKind ml_RX0_68 (by decide) rfl rfl dX0_takeDabbed_1 (Nat.le_of_ble_eq_true rfl)) (List.Perm.refl _) (fun r1 => ?_)
  refine z_zifeq C 25 dX0_takeDabbed_4 (by decide) ?_ ?_
  · refine z_iload_n C 2 dX0_takeDabbed_7 rfl ?_
    refine z_iconst (v := 1) C dX0_takeDabbed_8 (by decide) ?_
    refine z_bipush (v := 9) C dX0_takeDabbed_9 (by decide) ?_
    refine y_callZ C (z_invS C [.int v2, .int 1, .int 9] [] (ct_X6_isWithin l G ((fun u : zM => wC a G.2 u ++ X) u) v2 1 9) mi_X6_isWithin mt_X6_isWithin ml_RX0_72 (by decide) rfl rfl dX0_takeDabbed_11 (Nat.le_of_ble_eq_true rfl)) (List.Perm.refl _) (fun r2 => ?_)
    refine z_zifeq C 25 dX0_takeDabbed_14 (by decide) ?_ ?_
    · refine z_aload_n C 0 dX0_takeDabbed_17 rfl ?_
      refine z_iload_n C 3 dX0_takeDabbed_18 rfl ?_
      refine y_callZ C (z_invV C [.int v3] [] (ct_X0_hasOne l G a X u v3) mi_X0_hasOne md_X0_hasOne ms_X0_hasOne ml_RX0_76 has_C_0 ⟨_, rfl, rfl⟩ (by decide) rfl rfl dX0_takeDabbed_19 (Nat.le_of_ble_eq_true rfl)) (List.Perm.refl _) (fun r3 => ?_)
      refine z_zifne C 27 dX0_takeDabbed_22 (by decide) ?_ ?_
      · refine z_aload_n C 0 dX0_takeDabbed_27 rfl ?_
        refine y_callZ C (z_invV C [] [] (ct_X0_hasRoomForBeetle l G a X u ) mi_X0_hasRoomForBeetle md_X0_hasRoomForBeetle ms_X0_hasRoomForBeetle ml_RX0_65 has_C_0 ⟨_, rfl, rfl⟩ (by decide) rfl rfl dX0_takeDabbed_28 (Nat.le_of_ble_eq_true rfl)) (List.Perm.refl _) (fun r4 => ?_)
        refine z_zifne C 37 dX0_takeDabbed_31 (by decide) ?_ ?_
        · refine z_aload_n C 0 dX0_takeDabbed_37 rfl ?_
          refine z_get C fl_RX0_15 has_C_0 rfl dX0_takeDabbed_38 ?_
          refine z_istore C [(4, .int (u 0 1)), (0, .ref (a 0)), (1, .int v1), (2, .int v2), (3, .int v3)] dX0_takeDabbed_41 (by decide) rfl ?_
          refine z_aload_n C 1 dX0_takeDabbed_43 rfl ?_
          refine z_iload_n C 2 dX0_takeDabbed_44 rfl ?_
          refine z_iload_n C 3 dX0_takeDabbed_45 rfl ?_
          refine z_iload_n C 4 dX0_takeDabbed_46 rfl ?_
          refine z_aload_n C 1 dX0_takeDabbed_47 rfl ?_
          refine z_get C fl_RX0_27 has_C_0 rfl dX0_takeDabbed_48 ?_
          refine z_iload_n C 4 dX0_takeDabbed_51 rfl ?_
          refine y_iald C has_C_1 dX0_takeDabbed_52 ?_
          refine y_callVS C (z_invV C [.int v1, .int v2, .int v3, .int (u 1 (Int32.toNatClampNeg v3))] [] (ct_X0_addBeetle l G a X u v1 v2 v3 (u 1 (Int32.toNatClampNeg v3))) mi_X0_addBeetle md_X0_addBeetle ms_X0_addBeetle ml_RX0_79 has_C_0 ⟨_, rfl, rfl⟩ (by decide) rfl rfl dX0_takeDabbed_53 (Nat.le_of_ble_eq_true rfl)) (List.Perm.refl _) (fun _ => List.Perm.refl _) (fun r5 u6 => ?_)
          refine z_aload_n C 1 dX0_takeDabbed_56 rfl ?_
          refine z_get C fl_RX0_40 has_C_0 rfl dX0_takeDabbed_57 ?_
          refine z_iload C 0 dX0_takeDabbed_60 rfl ?_
          refine z_iload_n C 4 dX0_takeDabbed_62 rfl ?_
          refine y_iast C upd_C_5 dX0_takeDabbed_63 (fun u7 => ?_)
          refine z_aload_n C 1 dX0_takeDabbed_64 rfl ?_
          refine z_get C fl_RX0_15 has_C_0 rfl dX0_takeDabbed_65 ?_
          exact z_iret C dX0_takeDabbed_68 rfl rfl rfl
        refine z_bipush (v := (-3)) C dX0_takeDabbed_34 (by decide) ?_
        exact z_iret C dX0_takeDabbed_36 rfl rfl rfl
      refine z_iconst (v := (-1)) C dX0_takeDabbed_25 (by decide) ?_
      exact z_iret C dX0_takeDabbed_26 rfl rfl rfl
    refine z_iconst (v := (-1)) C dX0_takeDabbed_25 (by decide) ?_
    exact z_iret C dX0_takeDabbed_26 rfl rfl rfl
  refine z_iconst (v := (-1)) C dX0_takeDabbed_25 (by decide) ?_
  exact z_iret C dX0_takeDabbed_26 rfl rfl rfl
noncomputable def f_X0_passDay_42 : Nat → zM → Int32 → Option (zM)
  | 0, _, _ => none
  | n + 1, u, v2 => if (u 0 1) ≤ v2 then zlet (zU u 0 2 ((u 0 2) + 1)) fun u1 => some u1 else (f_X0_sits u v2).bind fun r2 => if r2 = true then f_X0_passDay_42 n u (v2 + 1) else (f_X0_sought u v2).bind fun r3 => (f_X0_flyTowards u v2 r3).bind fun r4 => zlet r4 fun u5 => f_X0_passDay_42 n u5 (v2 + 1)
set_option maxHeartbeats 4000000 in
set_option maxRecDepth 100000 in
theorem w_X0_passDay_42 {p : Program} {l : Launch} {e : Env} {s : State} {m : MethodId} {args : Array Value} {below : List Frame} {meth : Method} {c : Code} {G : zG} {A : Nat → Prop} (C : zC p s m args meth c RX0 cX0_passDay 3 none G A) (a : Nat → Nat) (X : va_W) : ∀ (n : Nat) (u : zM) (v2 : Int32), PW p l e 4 s m args below meth c G A 3 (fun u : zM => wC a G.2 u ++ X) (fun _ : zM => none) (fun r => r) u [(0, .ref (a 0)), (2, .int v2)] 42 [] (f_X0_passDay_42 n u v2) := by
  intro n
  induction n with
  | zero => intros; exact z_none
  | succ n ih =>
    intro u v2
    rw [f_X0_passDay_42]
    refine z_iload_n C 1 dX0_passDay_42 rfl ?_
    refine z_aload_n C 0 dX0_passDay_43 rfl ?_
    refine z_get C fl_RX0_15 has_C_0 rfl dX0_passDay_44 ?_
    refine z_icmpge C 74 dX0_passDay_47 (by decide) ?_ ?_
    · refine z_aload_n C 0 dX0_passDay_74 rfl ?_
      refine z_dup C dX0_passDay_75 rfl ?_
      refine z_get C fl_RX0_18 has_C_0 rfl dX0_passDay_76 ?_
      refine z_iconst (v := 1) C dX0_passDay_79 (by decide) ?_
      refine z_iadd C dX0_passDay_80 ?_
      refine z_put C fl_RX0_18 ft_0_2 upd_C_0_2 rfl rfl (Nat.le_of_ble_eq_true rfl) dX0_passDay_81 (fun u1 => ?_)
      exact z_vret C dX0_passDay_84 rfl rfl
    refine z_aload_n C 0 dX0_passDay_50 rfl ?_
    refine z_iload_n C 1 dX0_passDay_51 rfl ?_
    refine y_callZ C (z_invV C [.int v2] [] (ct_X0_sits l G a X u v2) mi_X0_sits md_X0_sits ms_X0_sits ml_RX0_83 has_C_0 ⟨_, rfl, rfl⟩ (by decide) rfl rfl dX0_passDay_52 (Nat.le_of_ble_eq_true rfl)) (List.Perm.refl _) (fun r2 => ?_)
    refine z_zifne C 68 dX0_passDay_55 (by decide) ?_ ?_
    · refine z_iinc C (v := (v2 + 1)) 1 [(2, .int (v2 + 1)), (0, .ref (a 0))] dX0_passDay_68 rfl rfl (by decide) rfl ?_
      refine z_goto C 42 dX0_passDay_71 (by decide) ?_
      refine z_loc C [(0, .ref (a 0)), (2, .int (v2 + 1))] [1, 0] rfl ?_
      exact ih u (v2 + 1)
    refine z_aload_n C 0 dX0_passDay_58 rfl ?_
    refine z_iload_n C 1 dX0_passDay_59 rfl ?_
    refine z_aload_n C 0 dX0_passDay_60 rfl ?_
    refine z_iload_n C 1 dX0_passDay_61 rfl ?_
    refine y_callI C (z_invV C [.int v2] [.int v2, .ref (a 0)] (ct_X0_sought l G a X u v2) mi_X0_sought md_X0_sought ms_X0_sought ml_RX0_105 has_C_0 ⟨_, rfl, rfl⟩ (by decide) rfl rfl dX0_passDay_62 (Nat.le_of_ble_eq_true rfl)) (List.Perm.refl _) (fun r3 => ?_)
    refine y_callVS C (z_invV C [.int v2, .int r3] [] (ct_X0_flyTowards l G a X u v2 r3) mi_X0_flyTowards md_X0_flyTowards ms_X0_flyTowards ml_RX0_108 has_C_0 ⟨_, rfl, rfl⟩ (by decide) rfl rfl dX0_passDay_65 (Nat.le_of_ble_eq_true rfl)) (List.Perm.refl _) (fun _ => List.Perm.refl _) (fun r4 u5 => ?_)
    refine z_iinc C (v := (v2 + 1)) 1 [(2, .int (v2 + 1)), (0, .ref (a 0))] dX0_passDay_68 rfl rfl (by decide) rfl ?_
    refine z_goto C 42 dX0_passDay_71 (by decide) ?_
    refine z_loc C [(0, .ref (a 0)), (2, .int (v2 + 1))] [1, 0] rfl ?_
    exact ih u5 (v2 + 1)
noncomputable def f_X0_passDay_2 : Nat → zM → Int32 → Int32 → Option (zM)
  | 0, _, _, _ => none
  | n + 1, u, v1, v2 => if (u 0 1) ≤ v2 then f_X0_passDay_42 FU u 0 else (f_X0_sits u v2).bind fun r6 => if r6 = true then if z_in v2 6 = true then if v1 ≤ (u 3 (Int32.toNatClampNeg v2)) then f_X0_passDay_2 n u v1 (v2 + 1) else (f_X0_blowOff u v2 v1).bind fun r7 => zlet r7 fun u8 => f_X0_passDay_2 n u8 v1 (v2 + 1) else none else f_X0_passDay_2 n u v1 (v2 + 1)
set_option maxHeartbeats 4000000 in
set_option maxRecDepth 100000 in
theorem w_X0_passDay_2 {p : Program} {l : Launch} {e : Env} {s : State} {m : MethodId} {args : Array Value} {below : List Frame} {meth : Method} {c : Code} {G : zG} {A : Nat → Prop} (C : zC p s m args meth c RX0 cX0_passDay 3 none G A) (a : Nat → Nat) (X : va_W) : ∀ (n : Nat) (u : zM) (v1 : Int32) (v2 : Int32), PW p l e 4 s m args below meth c G A 3 (fun u : zM => wC a G.2 u ++ X) (fun _ : zM => none) (fun r => r) u [(0, .ref (a 0)), (1, .int v1), (2, .int v2)] 2 [] (f_X0_passDay_2 n u v1 v2) := by
  intro n
  induction n with
  | zero => intros; exact z_none
  | succ n ih =>
    intro u v1 v2
    rw [f_X0_passDay_2]
    refine z_iload_n C 2 dX0_passDay_2 rfl ?_
    refine z_aload_n C 0 dX0_passDay_3 rfl ?_
    refine z_get C fl_RX0_15 has_C_0 rfl dX0_passDay_4 ?_
    refine z_icmpge C 40 dX0_passDay_7 (by decide) ?_ ?_
    · refine z_iconst (v := 0) C dX0_passDay_40 (by decide) ?_
      refine z_istore_n C [(2, .int 0), (0, .ref (a 0)), (1, .int v1)] dX0_passDay_41 (by decide) rfl ?_
      refine z_loc C [(0, .ref (a 0)), (2, .int 0)] [1, 0] rfl ?_
      exact w_X0_passDay_42 C a X    FU u 0
    refine z_aload_n C 0 dX0_passDay_10 rfl ?_
    refine z_iload_n C 2 dX0_passDay_11 rfl ?_
    refine y_callZ C (z_invV C [.int v2] [] (ct_X0_sits l G a X u v2) mi_X0_sits md_X0_sits ms_X0_sits ml_RX0_83 has_C_0 ⟨_, rfl, rfl⟩ (by decide) rfl rfl dX0_passDay_12 (Nat.le_of_ble_eq_true rfl)) (List.Perm.refl _) (fun r6 => ?_)
    refine z_zifeq C 34 dX0_passDay_15 (by decide) ?_ ?_
    · refine z_aload_n C 0 dX0_passDay_18 rfl ?_
      refine z_get C fl_RX0_34 has_C_0 rfl dX0_passDay_19 ?_
      refine z_iload_n C 2 dX0_passDay_22 rfl ?_
      refine y_iald C has_C_3 dX0_passDay_23 ?_
      refine z_iload_n C 1 dX0_passDay_24 rfl ?_
      refine z_icmpge C 34 dX0_passDay_25 (by decide) ?_ ?_
      · refine z_iinc C (v := (v2 + 1)) 2 [(2, .int (v2 + 1)), (0, .ref (a 0)), (1, .int v1)] dX0_passDay_34 rfl rfl (by decide) rfl ?_
        refine z_goto C 2 dX0_passDay_37 (by decide) ?_
        refine z_loc C [(0, .ref (a 0)), (1, .int v1), (2, .int (v2 + 1))] [1, 2, 0] rfl ?_
        exact ih u v1 (v2 + 1)
      refine z_aload_n C 0 dX0_passDay_28 rfl ?_
      refine z_iload_n C 2 dX0_passDay_29 rfl ?_
      refine z_iload_n C 1 dX0_passDay_30 rfl ?_
      refine y_callVS C (z_invV C [.int v2, .int v1] [] (ct_X0_blowOff l G a X u v2 v1) mi_X0_blowOff md_X0_blowOff ms_X0_blowOff ml_RX0_101 has_C_0 ⟨_, rfl, rfl⟩ (by decide) rfl rfl dX0_passDay_31 (Nat.le_of_ble_eq_true rfl)) (List.Perm.refl _) (fun _ => List.Perm.refl _) (fun r7 u8 => ?_)
      refine z_iinc C (v := (v2 + 1)) 2 [(2, .int (v2 + 1)), (0, .ref (a 0)), (1, .int v1)] dX0_passDay_34 rfl rfl (by decide) rfl ?_
      refine z_goto C 2 dX0_passDay_37 (by decide) ?_
      refine z_loc C [(0, .ref (a 0)), (1, .int v1), (2, .int (v2 + 1))] [1, 2, 0] rfl ?_
      exact ih u8 v1 (v2 + 1)
    refine z_iinc C (v := (v2 + 1)) 2 [(2, .int (v2 + 1)), (0, .ref (a 0)), (1, .int v1)] dX0_passDay_34 rfl rfl (by decide) rfl ?_
    refine z_goto C 2 dX0_passDay_37 (by decide) ?_
    refine z_loc C [(0, .ref (a 0)), (1, .int v1), (2, .int (v2 + 1))] [1, 2, 0] rfl ?_
    exact ih u v1 (v2 + 1)
noncomputable def f_X0_passDay (u : zM) (v1 : Int32) : Option (zM) := f_X0_passDay_2 FU u v1 0
set_option maxHeartbeats 4000000 in
set_option maxRecDepth 100000 in
theorem ct_X0_passDay (l : Launch) (G : zG) (a : Nat → Nat) (X : va_W) (u : zM) (v1 : Int32) : zCt l yX0_passDay cX0_passDay 3 none 4 G [.ref (a 0), .int v1] (fun u : zM => wC a G.2 u ++ X) (fun _ : zM => none) (fun r => r) u (f_X0_passDay u v1) := by
  refine zCt.of (by decide) (Nat.le_of_ble_eq_true rfl) (fun p e s m args below meth c A C => ?_)
  refine y_lv (lv' := [(0, .ref (a 0)), (1, .int v1)]) rfl ?_
  rw [f_X0_passDay]
  refine z_iconst (v := 0) C dX0_passDay_0 (by decide) ?_
  refine z_istore_n C [(2, .int 0), (0, .ref (a 0)), (1, .int v1)] dX0_passDay_1 (by decide) rfl ?_
  refine z_loc C [(0, .ref (a 0)), (1, .int v1), (2, .int 0)] [1, 2, 0] rfl ?_
  exact w_X0_passDay_2 C a X    FU u v1 0
noncomputable def f_X0_daysTillAllSit_2 : Nat → zM → Int32 → Int32 → Option (Int32 × zM)
  | 0, _, _, _ => none
  | n + 1, u, v1, v2 => if v1 < v2 then some ((-4), u) else (f_X0_sitting u).bind fun r1 => if r1 = (u 0 1) then some (v2, u) else (f_X0_windToday u).bind fun r2 => (f_X0_passDay u r2).bind fun r3 => zlet r3 fun u4 => f_X0_daysTillAllSit_2 n u4 v1 (v2 + 1)
set_option maxHeartbeats 4000000 in
set_option maxRecDepth 100000 in
theorem w_X0_daysTillAllSit_2 {p : Program} {l : Launch} {e : Env} {s : State} {m : MethodId} {args : Array Value} {below : List Frame} {meth : Method} {c : Code} {G : zG} {A : Nat → Prop} (C : zC p s m args meth c RX0 cX0_daysTillAllSit 3 (some .int) G A) (a : Nat → Nat) (X : va_W) : ∀ (n : Nat) (u : zM) (v1 : Int32) (v2 : Int32), PW p l e 5 s m args below meth c G A 3 (fun u : zM => wC a G.2 u ++ X) (fun r : Int32 × zM => some (.int r.1)) (fun r => r.2) u [(0, .ref (a 0)), (1, .int v1), (2, .int v2)] 2 [] (f_X0_daysTillAllSit_2 n u v1 v2) := by
  intro n
  induction n with
  | zero => intros; exact z_none
  | succ n ih =>
    intro u v1 v2
    rw [f_X0_daysTillAllSit_2]
    refine z_iload_n C 2 dX0_daysTillAllSit_2 rfl ?_
    refine z_iload_n C 1 dX0_daysTillAllSit_3 rfl ?_
    refine z_icmpgt C 34 dX0_daysTillAllSit_4 (by decide) ?_ ?_
    · refine z_bipush (v := (-4)) C dX0_daysTillAllSit_34 (by decide) ?_
      exact z_iret C dX0_daysTillAllSit_36 rfl rfl rfl
    refine z_aload_n C 0 dX0_daysTillAllSit_7 rfl ?_
    refine y_callI C (z_invV C [] [] (ct_X0_sitting l G a X u ) mi_X0_sitting md_X0_sitting ms_X0_sitting ml_RX0_129 has_C_0 ⟨_, rfl, rfl⟩ (by decide) rfl rfl dX0_daysTillAllSit_8 (Nat.le_of_ble_eq_true rfl)) (List.Perm.refl _) (fun r1 => ?_)
    refine z_aload_n C 0 dX0_daysTillAllSit_11 rfl ?_
    refine z_get C fl_RX0_15 has_C_0 rfl dX0_daysTillAllSit_12 ?_
    refine z_icmpne C 20 dX0_daysTillAllSit_15 (by decide) ?_ ?_
    · refine z_iload_n C 2 dX0_daysTillAllSit_18 rfl ?_
      exact z_iret C dX0_daysTillAllSit_19 rfl rfl rfl
    refine z_aload_n C 0 dX0_daysTillAllSit_20 rfl ?_
    refine z_aload_n C 0 dX0_daysTillAllSit_21 rfl ?_
    refine y_callI C (z_invV C [] [.ref (a 0)] (ct_X0_windToday l G a X u ) mi_X0_windToday md_X0_windToday ms_X0_windToday ml_RX0_93 has_C_0 ⟨_, rfl, rfl⟩ (by decide) rfl rfl dX0_daysTillAllSit_22 (Nat.le_of_ble_eq_true rfl)) (List.Perm.refl _) (fun r2 => ?_)
    refine y_callVS C (z_invV C [.int r2] [] (ct_X0_passDay l G a X u r2) mi_X0_passDay md_X0_passDay ms_X0_passDay ml_RX0_97 has_C_0 ⟨_, rfl, rfl⟩ (by decide) rfl rfl dX0_daysTillAllSit_25 (Nat.le_of_ble_eq_true rfl)) (List.Perm.refl _) (fun _ => List.Perm.refl _) (fun r3 u4 => ?_)
    refine z_iinc C (v := (v2 + 1)) 2 [(2, .int (v2 + 1)), (0, .ref (a 0)), (1, .int v1)] dX0_daysTillAllSit_28 rfl rfl (by decide) rfl ?_
    refine z_goto C 2 dX0_daysTillAllSit_31 (by decide) ?_
    refine z_loc C [(0, .ref (a 0)), (1, .int v1), (2, .int (v2 + 1))] [1, 2, 0] rfl ?_
    exact ih u4 v1 (v2 + 1)
noncomputable def f_X0_daysTillAllSit (u : zM) (v1 : Int32) : Option (Int32 × zM) := f_X0_daysTillAllSit_2 FU u v1 0
set_option maxHeartbeats 4000000 in
set_option maxRecDepth 100000 in
theorem ct_X0_daysTillAllSit (l : Launch) (G : zG) (a : Nat → Nat) (X : va_W) (u : zM) (v1 : Int32) : zCt l yX0_daysTillAllSit cX0_daysTillAllSit 3 (some .int) 5 G [.ref (a 0), .int v1] (fun u : zM => wC a G.2 u ++ X) (fun r : Int32 × zM => some (.int r.1)) (fun r => r.2) u (f_X0_daysTillAllSit u v1) := by
  refine zCt.of (by decide) (Nat.le_of_ble_eq_true rfl) (fun p e s m args below meth c A C => ?_)
  refine y_lv (lv' := [(0, .ref (a 0)), (1, .int v1)]) rfl ?_
  rw [f_X0_daysTillAllSit]
  refine z_iconst (v := 0) C dX0_daysTillAllSit_0 (by decide) ?_
  refine z_istore_n C [(2, .int 0), (0, .ref (a 0)), (1, .int v1)] dX0_daysTillAllSit_1 (by decide) rfl ?_
  refine z_loc C [(0, .ref (a 0)), (1, .int v1), (2, .int 0)] [1, 2, 0] rfl ?_
  exact w_X0_daysTillAllSit_2 C a X    FU u v1 0
noncomputable def f_X0_daysTillSits_2 : Nat → zM → Int32 → Int32 → Int32 → Option (Int32 × zM)
  | 0, _, _, _, _ => none
  | n + 1, u, v1, v2, v3 => if v2 < v3 then some ((-4), u) else (f_X0_sits u v1).bind fun r1 => if r1 = true then some (v3, u) else (f_X0_windToday u).bind fun r2 => (f_X0_passDay u r2).bind fun r3 => zlet r3 fun u4 => f_X0_daysTillSits_2 n u4 v1 v2 (v3 + 1)
set_option maxHeartbeats 4000000 in
set_option maxRecDepth 100000 in
theorem w_X0_daysTillSits_2 {p : Program} {l : Launch} {e : Env} {s : State} {m : MethodId} {args : Array Value} {below : List Frame} {meth : Method} {c : Code} {G : zG} {A : Nat → Prop} (C : zC p s m args meth c RX0 cX0_daysTillSits 4 (some .int) G A) (a : Nat → Nat) (X : va_W) : ∀ (n : Nat) (u : zM) (v1 : Int32) (v2 : Int32) (v3 : Int32), PW p l e 5 s m args below meth c G A 4 (fun u : zM => wC a G.2 u ++ X) (fun r : Int32 × zM => some (.int r.1)) (fun r => r.2) u [(0, .ref (a 0)), (1, .int v1), (2, .int v2), (3, .int v3)] 2 [] (f_X0_daysTillSits_2 n u v1 v2 v3) := by
  intro n
  induction n with
  | zero => intros; exact z_none
  | succ n ih =>
    intro u v1 v2 v3
    rw [f_X0_daysTillSits_2]
    refine z_iload_n C 3 dX0_daysTillSits_2 rfl ?_
    refine z_iload_n C 2 dX0_daysTillSits_3 rfl ?_
    refine z_icmpgt C 31 dX0_daysTillSits_4 (by decide) ?_ ?_
    · refine z_bipush (v := (-4)) C dX0_daysTillSits_31 (by decide) ?_
      exact z_iret C dX0_daysTillSits_33 rfl rfl rfl
    refine z_aload_n C 0 dX0_daysTillSits_7 rfl ?_
    refine z_iload_n C 1 dX0_daysTillSits_8 rfl ?_
    refine y_callZ C (z_invV C [.int v1] [] (ct_X0_sits l G a X u v1) mi_X0_sits md_X0_sits ms_X0_sits ml_RX0_83 has_C_0 ⟨_, rfl, rfl⟩ (by decide) rfl rfl dX0_daysTillSits_9 (Nat.le_of_ble_eq_true rfl)) (List.Perm.refl _) (fun r1 => ?_)
    refine z_zifeq C 17 dX0_daysTillSits_12 (by decide) ?_ ?_
    · refine z_iload_n C 3 dX0_daysTillSits_15 rfl ?_
      exact z_iret C dX0_daysTillSits_16 rfl rfl rfl
    refine z_aload_n C 0 dX0_daysTillSits_17 rfl ?_
    refine z_aload_n C 0 dX0_daysTillSits_18 rfl ?_
    refine y_callI C (z_invV C [] [.ref (a 0)] (ct_X0_windToday l G a X u ) mi_X0_windToday md_X0_windToday ms_X0_windToday ml_RX0_93 has_C_0 ⟨_, rfl, rfl⟩ (by decide) rfl rfl dX0_daysTillSits_19 (Nat.le_of_ble_eq_true rfl)) (List.Perm.refl _) (fun r2 => ?_)
    refine y_callVS C (z_invV C [.int r2] [] (ct_X0_passDay l G a X u r2) mi_X0_passDay md_X0_passDay ms_X0_passDay ml_RX0_97 has_C_0 ⟨_, rfl, rfl⟩ (by decide) rfl rfl dX0_daysTillSits_22 (Nat.le_of_ble_eq_true rfl)) (List.Perm.refl _) (fun _ => List.Perm.refl _) (fun r3 u4 => ?_)
    refine z_iinc C (v := (v3 + 1)) 3 [(3, .int (v3 + 1)), (0, .ref (a 0)), (1, .int v1), (2, .int v2)] dX0_daysTillSits_25 rfl rfl (by decide) rfl ?_
    refine z_goto C 2 dX0_daysTillSits_28 (by decide) ?_
    refine z_loc C [(0, .ref (a 0)), (1, .int v1), (2, .int v2), (3, .int (v3 + 1))] [1, 2, 3, 0] rfl ?_
    exact ih u4 v1 v2 (v3 + 1)
noncomputable def f_X0_daysTillSits (u : zM) (v1 : Int32) (v2 : Int32) : Option (Int32 × zM) := f_X0_daysTillSits_2 FU u v1 v2 0
set_option maxHeartbeats 4000000 in
set_option maxRecDepth 100000 in
theorem ct_X0_daysTillSits (l : Launch) (G : zG) (a : Nat → Nat) (X : va_W) (u : zM) (v1 : Int32) (v2 : Int32) : zCt l yX0_daysTillSits cX0_daysTillSits 4 (some .int) 5 G [.ref (a 0), .int v1, .int v2] (fun u : zM => wC a G.2 u ++ X) (fun r : Int32 × zM => some (.int r.1)) (fun r => r.2) u (f_X0_daysTillSits u v1 v2) := by
  refine zCt.of (by decide) (Nat.le_of_ble_eq_true rfl) (fun p e s m args below meth c A C => ?_)
  refine y_lv (lv' := [(0, .ref (a 0)), (1, .int v1), (2, .int v2)]) rfl ?_
  rw [f_X0_daysTillSits]
  refine z_iconst (v := 0) C dX0_daysTillSits_0 (by decide) ?_
  refine z_istore_n C [(3, .int 0), (0, .ref (a 0)), (1, .int v1), (2, .int v2)] dX0_daysTillSits_1 (by decide) rfl ?_
  refine z_loc C [(0, .ref (a 0)), (1, .int v1), (2, .int v2), (3, .int 0)] [1, 2, 3, 0] rfl ?_
  exact w_X0_daysTillSits_2 C a X    FU u v1 v2 0
noncomputable def f_X0_passDays_2 : Nat → zM → Int32 → Int32 → Option (zM)
  | 0, _, _, _ => none
  | n + 1, u, v1, v2 => if v1 ≤ v2 then some u else (f_X0_windToday u).bind fun r1 => (f_X0_passDay u r1).bind fun r2 => zlet r2 fun u3 => f_X0_passDays_2 n u3 v1 (v2 + 1)
set_option maxHeartbeats 4000000 in
set_option maxRecDepth 100000 in
theorem w_X0_passDays_2 {p : Program} {l : Launch} {e : Env} {s : State} {m : MethodId} {args : Array Value} {below : List Frame} {meth : Method} {c : Code} {G : zG} {A : Nat → Prop} (C : zC p s m args meth c RX0 cX0_passDays 3 none G A) (a : Nat → Nat) (X : va_W) : ∀ (n : Nat) (u : zM) (v1 : Int32) (v2 : Int32), PW p l e 5 s m args below meth c G A 3 (fun u : zM => wC a G.2 u ++ X) (fun _ : zM => none) (fun r => r) u [(0, .ref (a 0)), (1, .int v1), (2, .int v2)] 2 [] (f_X0_passDays_2 n u v1 v2) := by
  intro n
  induction n with
  | zero => intros; exact z_none
  | succ n ih =>
    intro u v1 v2
    rw [f_X0_passDays_2]
    refine z_iload_n C 2 dX0_passDays_2 rfl ?_
    refine z_iload_n C 1 dX0_passDays_3 rfl ?_
    refine z_icmpge C 21 dX0_passDays_4 (by decide) ?_ ?_
    · exact z_vret C dX0_passDays_21 rfl rfl
    refine z_aload_n C 0 dX0_passDays_7 rfl ?_
    refine z_aload_n C 0 dX0_passDays_8 rfl ?_
    refine y_callI C (z_invV C [] [.ref (a 0)] (ct_X0_windToday l G a X u ) mi_X0_windToday md_X0_windToday ms_X0_windToday ml_RX0_93 has_C_0 ⟨_, rfl, rfl⟩ (by decide) rfl rfl dX0_passDays_9 (Nat.le_of_ble_eq_true rfl)) (List.Perm.refl _) (fun r1 => ?_)
    refine y_callVS C (z_invV C [.int r1] [] (ct_X0_passDay l G a X u r1) mi_X0_passDay md_X0_passDay ms_X0_passDay ml_RX0_97 has_C_0 ⟨_, rfl, rfl⟩ (by decide) rfl rfl dX0_passDays_12 (Nat.le_of_ble_eq_true rfl)) (List.Perm.refl _) (fun _ => List.Perm.refl _) (fun r2 u3 => ?_)
    refine z_iinc C (v := (v2 + 1)) 2 [(2, .int (v2 + 1)), (0, .ref (a 0)), (1, .int v1)] dX0_passDays_15 rfl rfl (by decide) rfl ?_
    refine z_goto C 2 dX0_passDays_18 (by decide) ?_
    refine z_loc C [(0, .ref (a 0)), (1, .int v1), (2, .int (v2 + 1))] [1, 2, 0] rfl ?_
    exact ih u3 v1 (v2 + 1)
noncomputable def f_X0_passDays (u : zM) (v1 : Int32) : Option (zM) := f_X0_passDays_2 FU u v1 0
set_option maxHeartbeats 4000000 in
set_option maxRecDepth 100000 in
theorem ct_X0_passDays (l : Launch) (G : zG) (a : Nat → Nat) (X : va_W) (u : zM) (v1 : Int32) : zCt l yX0_passDays cX0_passDays 3 none 5 G [.ref (a 0), .int v1] (fun u : zM => wC a G.2 u ++ X) (fun _ : zM => none) (fun r => r) u (f_X0_passDays u v1) := by
  refine zCt.of (by decide) (Nat.le_of_ble_eq_true rfl) (fun p e s m args below meth c A C => ?_)
  refine y_lv (lv' := [(0, .ref (a 0)), (1, .int v1)]) rfl ?_
  rw [f_X0_passDays]
  refine z_iconst (v := 0) C dX0_passDays_0 (by decide) ?_
  refine z_istore_n C [(2, .int 0), (0, .ref (a 0)), (1, .int v1)] dX0_passDays_1 (by decide) rfl ?_
  refine z_loc C [(0, .ref (a 0)), (1, .int v1), (2, .int 0)] [1, 2, 0] rfl ?_
  exact w_X0_passDays_2 C a X    FU u v1 0
