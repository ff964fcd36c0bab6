noncomputable def f_X2_append (u : zM) (v1 : Int32) (v2 : Int32) (v3 : Int32) : Option (Bool × zM) := if (u 0 0) < 6 then if z_in (u 0 0) 6 = true then zlet (zU u 1 (Int32.toNatClampNeg (u 0 0)) v1) (fun u1 => if z_in (u1 0 0) 6 = true then zlet (zU u1 2 (Int32.toNatClampNeg (u1 0 0)) v2) (fun u2 => if z_in (u2 0 0) 6 = true then zlet (zU u2 3 (Int32.toNatClampNeg (u2 0 0)) v3) (fun u3 => zlet (zU u3 0 0 ((u3 0 0) + 1)) fun u4 => some (true, u4)) else none) else none) else none else some (false, u)
set_option maxHeartbeats 4000000 in
set_option maxRecDepth 100000 in
theorem ct_X2_append (l : Launch) (G : zG) (a : Nat → Nat) (X : va_W) (u : zM) (v1 : Int32) (v2 : Int32) (v3 : Int32) : zCt l yX2_append cX2_append 4 (some .boolean) 1 G [.ref (a 0), .int v1, .int v2, .int v3] (fun u : zM => wSn a G.2 u ++ X) (fun r : Bool × zM => some (.int (zb r.1))) (fun r => r.2) u (f_X2_append u v1 v2 v3) := by
  refine zCt.of (by decide) (Nat.le_of_ble_eq_true rfl) (fun p e s m args below meth c A C => ?_)
  refine y_lv (lv' := [(0, .ref (a 0)), (1, .int v1), (2, .int v2), (3, .int v3)]) rfl ?_
  rw [f_X2_append]
  refine z_aload_n C 0 dX2_append_0 rfl ?_
  refine z_get C fl_RX2_9 has_Sn_0 rfl dX2_append_1 ?_
  refine z_bipush (v := 6) C dX2_append_4 (by decide) ?_
  refine z_icmplt C 11 dX2_append_6 (by decide) ?_ ?_
  · refine z_aload_n C 0 dX2_append_11 rfl ?_
    refine z_get C fl_RX2_15 has_Sn_0 rfl dX2_append_12 ?_
    refine z_aload_n C 0 dX2_append_15 rfl ?_
    refine z_get C fl_RX2_9 has_Sn_0 rfl dX2_append_16 ?_
    refine z_iload_n C 1 dX2_append_19 rfl ?_
    refine y_iast C upd_Sn_1 dX2_append_20 (fun u1 => ?_)
    refine z_aload_n C 0 dX2_append_21 rfl ?_
    refine z_get C fl_RX2_19 has_Sn_0 rfl dX2_append_22 ?_
    refine z_aload_n C 0 dX2_append_25 rfl ?_
    refine z_get C fl_RX2_9 has_Sn_0 rfl dX2_append_26 ?_
    refine z_iload_n C 2 dX2_append_29 rfl ?_
    refine y_iast C upd_Sn_2 dX2_append_30 (fun u2 => ?_)
    refine z_aload_n C 0 dX2_append_31 rfl ?_
    refine z_get C fl_RX2_22 has_Sn_0 rfl dX2_append_32 ?_
    refine z_aload_n C 0 dX2_append_35 rfl ?_
    refine z_get C fl_RX2_9 has_Sn_0 rfl dX2_append_36 ?_
    refine z_iload_n C 3 dX2_append_39 rfl ?_
    refine y_iast C upd_Sn_3 dX2_append_40 (fun u3 => ?_)
    refine z_aload_n C 0 dX2_append_41 rfl ?_
    refine z_dup C dX2_append_42 rfl ?_
    refine z_get C fl_RX2_9 has_Sn_0 rfl dX2_append_43 ?_
    refine z_iconst (v := 1) C dX2_append_46 (by decide) ?_
    refine z_iadd C dX2_append_47 ?_
    refine z_put C fl_RX2_9 ft_2_0 upd_Sn_0_0 rfl rfl (Nat.le_of_ble_eq_true rfl) dX2_append_48 (fun u4 => ?_)
    refine z_iconst (v := 1) C dX2_append_51 (by decide) ?_
    exact z_zret (b := true) C dX2_append_52 rfl rfl
  refine z_iconst (v := 0) C dX2_append_9 (by decide) ?_
  exact z_zret (b := false) C dX2_append_10 rfl rfl
noncomputable def f_X3_faultAt (u : zM) (v1 : Int32) (v2 : Int32) (v3 : Int32) : Option (Int32) := if (u 0 1) = (-4) then some 1 else if v1 = (u 0 0) then if v2 < 0 then some 2 else if v2 ≤ ((u 0 1) - v3) then some 0 else some 2 else some 3
set_option maxHeartbeats 4000000 in
set_option maxRecDepth 100000 in
theorem ct_X3_faultAt (l : Launch) (G : zG) (a : Nat → Nat) (X : va_W) (u : zM) (v1 : Int32) (v2 : Int32) (v3 : Int32) : zCt l yX3_faultAt cX3_faultAt 4 (some .int) 1 G [.ref (a 0), .int v1, .int v2, .int v3] (fun u : zM => wSh a G.2 u ++ X) (fun r : Int32 => some (.int r)) (fun _ => u) u (f_X3_faultAt u v1 v2 v3) := by
  refine zCt.of (by decide) (Nat.le_of_ble_eq_true rfl) (fun p e s m args below meth c A C => ?_)
  refine y_lv (lv' := [(0, .ref (a 0)), (1, .int v1), (2, .int v2), (3, .int v3)]) rfl ?_
  rw [f_X3_faultAt]
  refine z_aload_n C 0 dX3_faultAt_0 rfl ?_
  refine z_get C fl_RX3_15 has_Sh_0 rfl dX3_faultAt_1 ?_
  refine z_bipush (v := (-4)) C dX3_faultAt_4 (by decide) ?_
  refine z_icmpne C 11 dX3_faultAt_6 (by decide) ?_ ?_
  · refine z_iconst (v := 1) C dX3_faultAt_9 (by decide) ?_
    exact z_iret C dX3_faultAt_10 rfl rfl rfl
  refine z_iload_n C 1 dX3_faultAt_11 rfl ?_
  refine z_aload_n C 0 dX3_faultAt_12 rfl ?_
  refine z_get C fl_RX3_9 has_Sh_0 rfl dX3_faultAt_13 ?_
  refine z_icmpeq C 21 dX3_faultAt_16 (by decide) ?_ ?_
  · refine z_iload_n C 2 dX3_faultAt_21 rfl ?_
    refine z_iflt C 35 dX3_faultAt_22 (by decide) ?_ ?_
    · refine z_iconst (v := 2) C dX3_faultAt_35 (by decide) ?_
      refine z_goto C 40 dX3_faultAt_36 (by decide) ?_
      exact z_iret C dX3_faultAt_40 rfl rfl rfl
    refine z_iload_n C 2 dX3_faultAt_25 rfl ?_
    refine z_aload_n C 0 dX3_faultAt_26 rfl ?_
    refine z_get C fl_RX3_15 has_Sh_0 rfl dX3_faultAt_27 ?_
    refine z_iload_n C 3 dX3_faultAt_30 rfl ?_
    refine z_isub C dX3_faultAt_31 ?_
    refine z_icmple C 39 dX3_faultAt_32 (by decide) ?_ ?_
    · refine z_iconst (v := 0) C dX3_faultAt_39 (by decide) ?_
      exact z_iret C dX3_faultAt_40 rfl rfl rfl
    refine z_iconst (v := 2) C dX3_faultAt_35 (by decide) ?_
    refine z_goto C 40 dX3_faultAt_36 (by decide) ?_
    exact z_iret C dX3_faultAt_40 rfl rfl rfl
  refine z_iconst (v := 3) C dX3_faultAt_19 (by decide) ?_
  exact z_iret C dX3_faultAt_20 rfl rfl rfl
noncomputable def f_X3_put (u : zM) (v1 : Int32) (v2 : Int32) : Option (zM) := if (u 0 0) = 0 then if z_in v1 40 = true then zlet (zU u 1 (Int32.toNatClampNeg v1) (Int8.toInt32 (Int32.toInt8 v2))) (fun u1 => some u1) else none else if (u 0 0) = 1 then if z_in v1 40 = true then zlet (zU u 1 (Int32.toNatClampNeg v1) (Int16.toInt32 (Int32.toInt16 v2))) (fun u2 => some u2) else none else if z_in v1 40 = true then zlet (zU u 1 (Int32.toNatClampNeg v1) v2) (fun u3 => some u3) else none
set_option maxHeartbeats 4000000 in
set_option maxRecDepth 100000 in
theorem ct_X3_put (l : Launch) (G : zG) (a : Nat → Nat) (X : va_W) (u : zM) (v1 : Int32) (v2 : Int32) : zCt l yX3_put cX3_put 3 none 1 G [.ref (a 0), .int v1, .int v2] (fun u : zM => wSh a G.2 u ++ X) (fun _ : zM => none) (fun r => r) u (f_X3_put u v1 v2) := by
  refine zCt.of (by decide) (Nat.le_of_ble_eq_true rfl) (fun p e s m args below meth c A C => ?_)
  refine y_lv (lv' := [(0, .ref (a 0)), (1, .int v1), (2, .int v2)]) rfl ?_
  rw [f_X3_put]
  refine z_aload_n C 0 dX3_put_0 rfl ?_
  refine z_get C fl_RX3_9 has_Sh_0 rfl dX3_put_1 ?_
  refine z_ifne C 18 dX3_put_4 (by decide) ?_ ?_
  · refine z_aload_n C 0 dX3_put_7 rfl ?_
    refine z_get C fl_RX3_18 has_Sh_0 rfl dX3_put_8 ?_
    refine z_iload_n C 1 dX3_put_11 rfl ?_
    refine z_iload_n C 2 dX3_put_12 rfl ?_
    refine z_i2b C dX3_put_13 ?_
    refine y_iast C upd_Sh_1 dX3_put_14 (fun u1 => ?_)
    refine z_goto C 44 dX3_put_15 (by decide) ?_
    exact z_vret C dX3_put_44 rfl rfl
  refine z_aload_n C 0 dX3_put_18 rfl ?_
  refine z_get C fl_RX3_9 has_Sh_0 rfl dX3_put_19 ?_
  refine z_iconst (v := 1) C dX3_put_22 (by decide) ?_
  refine z_icmpne C 37 dX3_put_23 (by decide) ?_ ?_
  · refine z_aload_n C 0 dX3_put_26 rfl ?_
    refine z_get C fl_RX3_18 has_Sh_0 rfl dX3_put_27 ?_
    refine z_iload_n C 1 dX3_put_30 rfl ?_
    refine z_iload_n C 2 dX3_put_31 rfl ?_
    refine z_i2s C dX3_put_32 ?_
    refine y_iast C upd_Sh_1 dX3_put_33 (fun u2 => ?_)
    refine z_goto C 44 dX3_put_34 (by decide) ?_
    exact z_vret C dX3_put_44 rfl rfl
  refine z_aload_n C 0 dX3_put_37 rfl ?_
  refine z_get C fl_RX3_18 has_Sh_0 rfl dX3_put_38 ?_
  refine z_iload_n C 1 dX3_put_41 rfl ?_
  refine z_iload_n C 2 dX3_put_42 rfl ?_
  refine y_iast C upd_Sh_1 dX3_put_43 (fun u3 => ?_)
  exact z_vret C dX3_put_44 rfl rfl
noncomputable def f_X4_append (u : zM) (v1 : Int32) : Option (Bool × zM) := if (u 0 1) < 160 then if z_in (u 0 1) 160 = true then zlet (zU u 1 (Int32.toNatClampNeg (u 0 1)) (vp_nar .byte (Int8.toInt32 (Int32.toInt8 v1)))) (fun u1 => zlet (zU u1 0 1 ((u1 0 1) + 1)) fun u2 => some (true, u2)) else none else some (false, u)
set_option maxHeartbeats 4000000 in
set_option maxRecDepth 100000 in
theorem ct_X4_append (l : Launch) (G : zG) (a : Nat → Nat) (X : va_W) (u : zM) (v1 : Int32) : zCt l yX4_append cX4_append 2 (some .boolean) 1 G [.ref (a 0), .int v1] (fun u : zM => wTp a G.2 u ++ X) (fun r : Bool × zM => some (.int (zb r.1))) (fun r => r.2) u (f_X4_append u v1) := by
  refine zCt.of (by decide) (Nat.le_of_ble_eq_true rfl) (fun p e s m args below meth c A C => ?_)
  refine y_lv (lv' := [(0, .ref (a 0)), (1, .int v1)]) rfl ?_
  rw [f_X4_append]
  refine z_aload_n C 0 dX4_append_0 rfl ?_
  refine z_get C fl_RX4_15 has_Tp_0 rfl dX4_append_1 ?_
  refine z_sipush (v := 160) C dX4_append_4 (by decide) ?_
  refine z_icmplt C 12 dX4_append_7 (by decide) ?_ ?_
  · refine z_aload_n C 0 dX4_append_12 rfl ?_
    refine z_get C fl_RX4_9 has_Tp_0 rfl dX4_append_13 ?_
    refine z_aload_n C 0 dX4_append_16 rfl ?_
    refine z_get C fl_RX4_15 has_Tp_0 rfl dX4_append_17 ?_
    refine z_iload_n C 1 dX4_append_20 rfl ?_
    refine z_i2b C dX4_append_21 ?_
    refine y_bast C upd_Tp_1 dX4_append_22 (fun u1 => ?_)
    refine z_aload_n C 0 dX4_append_23 rfl ?_
    refine z_dup C dX4_append_24 rfl ?_
    refine z_get C fl_RX4_15 has_Tp_0 rfl dX4_append_25 ?_
    refine z_iconst (v := 1) C dX4_append_28 (by decide) ?_
    refine z_iadd C dX4_append_29 ?_
    refine z_put C fl_RX4_15 ft_4_1 upd_Tp_0_1 rfl rfl (Nat.le_of_ble_eq_true rfl) dX4_append_30 (fun u2 => ?_)
    refine z_iconst (v := 1) C dX4_append_33 (by decide) ?_
    exact z_zret (b := true) C dX4_append_34 rfl rfl
  refine z_iconst (v := 0) C dX4_append_10 (by decide) ?_
  exact z_zret (b := false) C dX4_append_11 rfl rfl
noncomputable def f_X4_rewind (u : zM) : Option (zM) := zlet (zU u 0 4 0) fun u1 => some u1
set_option maxHeartbeats 4000000 in
set_option maxRecDepth 100000 in
theorem ct_X4_rewind (l : Launch) (G : zG) (a : Nat → Nat) (X : va_W) (u : zM) : zCt l yX4_rewind cX4_rewind 1 none 1 G [.ref (a 0)] (fun u : zM => wTp a G.2 u ++ X) (fun _ : zM => none) (fun r => r) u (f_X4_rewind u) := by
  refine zCt.of (by decide) (Nat.le_of_ble_eq_true rfl) (fun p e s m args below meth c A C => ?_)
  refine y_lv (lv' := [(0, .ref (a 0))]) rfl ?_
  rw [f_X4_rewind]
  refine z_aload_n C 0 dX4_rewind_0 rfl ?_
  refine z_iconst (v := 0) C dX4_rewind_1 (by decide) ?_
  refine z_put C fl_RX4_25 ft_4_4 upd_Tp_0_4 rfl rfl (Nat.le_of_ble_eq_true rfl) dX4_rewind_2 (fun u1 => ?_)
  exact z_vret C dX4_rewind_5 rfl rfl
noncomputable def f_X2_copyFrom (v : zM) (u : zM) : Option (zM) := zlet (zU u 0 0 (v 0 0)) fun u1 => zlet (va_up u1 1 (va_cpy (v 1) (u1 1) 0 0 6)) fun u2 => zlet (va_up u2 2 (va_cpy (v 2) (u2 2) 0 0 6)) fun u3 => zlet (va_up u3 3 (va_cpy (v 3) (u3 3) 0 0 6)) fun u4 => some u4
set_option maxHeartbeats 4000000 in
set_option maxRecDepth 100000 in
theorem ct_X2_copyFrom (l : Launch) (G : zG) (a b : Nat → Nat) (X : va_W) (v : zM) (u : zM) : zCt l yX2_copyFrom cX2_copyFrom 2 none 2 G [.ref (a 0), .ref (b 0)] (fun u : zM => wSn a G.2 u ++ (wSn b G.2 v ++ X)) (fun _ : zM => none) (fun r => r) u (f_X2_copyFrom v u) := by
  refine zCt.of (by decide) (Nat.le_of_ble_eq_true rfl) (fun p e s m args below meth c A C => ?_)
  refine y_lv (lv' := [(0, .ref (a 0)), (1, .ref (b 0))]) rfl ?_
  rw [f_X2_copyFrom]
  refine z_aload_n C 0 dX2_copyFrom_0 rfl ?_
  refine z_aload_n C 1 dX2_copyFrom_1 rfl ?_
  refine z_get C fl_RX2_9 (zHas.app has_Sn_0) rfl dX2_copyFrom_2 ?_
  refine z_put C fl_RX2_9 ft_2_0 upd_Sn_0_0 rfl rfl (Nat.le_of_ble_eq_true rfl) dX2_copyFrom_5 (fun u1 => ?_)
  refine z_aload_n C 1 dX2_copyFrom_8 rfl ?_
  refine z_get C fl_RX2_15 (zHas.app has_Sn_0) rfl dX2_copyFrom_9 ?_
  refine z_iconst (v := 0) C dX2_copyFrom_12 (by decide) ?_
  refine z_aload_n C 0 dX2_copyFrom_13 rfl ?_
  refine z_get C fl_RX2_15 has_Sn_0 rfl dX2_copyFrom_14 ?_
  refine z_iconst (v := 0) C dX2_copyFrom_17 (by decide) ?_
  refine z_bipush (v := 6) C dX2_copyFrom_18 (by decide) ?_
  refine y_copy (nn := 6) C 710 (by decide +kernel) (by decide) dX2_copyFrom_20 (zHas.app has_Sn_1) updA_Sn_1 (by decide) (by decide) (by decide) (by decide) (Nat.le_of_ble_eq_true rfl) (fun u2 => ?_)
  refine z_aload_n C 1 dX2_copyFrom_23 rfl ?_
  refine z_get C fl_RX2_19 (zHas.app has_Sn_0) rfl dX2_copyFrom_24 ?_
  refine z_iconst (v := 0) C dX2_copyFrom_27 (by decide) ?_
  refine z_aload_n C 0 dX2_copyFrom_28 rfl ?_
  refine z_get C fl_RX2_19 has_Sn_0 rfl dX2_copyFrom_29 ?_
  refine z_iconst (v := 0) C dX2_copyFrom_32 (by decide) ?_
  refine z_bipush (v := 6) C dX2_copyFrom_33 (by decide) ?_
  refine y_copy (nn := 6) C 710 (by decide +kernel) (by decide) dX2_copyFrom_35 (zHas.app has_Sn_2) updA_Sn_2 (by decide) (by decide) (by decide) (by decide) (Nat.le_of_ble_eq_true rfl) (fun u3 => ?_)
  refine z_aload_n C 1 dX2_copyFrom_38 rfl ?_
  refine z_get C fl_RX2_22 (zHas.app has_Sn_0) rfl dX2_copyFrom_39 ?_
  refine z_iconst (v := 0) C dX2_copyFrom_42 (by decide) ?_
  refine z_aload_n C 0 dX2_copyFrom_43 rfl ?_
  refine z_get C fl_RX2_22 has_Sn_0 rfl dX2_copyFrom_44 ?_
  refine z_iconst (v := 0) C dX2_copyFrom_47 (by decide) ?_
  refine z_bipush (v := 6) C dX2_copyFrom_48 (by decide) ?_
  refine y_copy (nn := 6) C 710 (by decide +kernel) (by decide) dX2_copyFrom_50 (zHas.app has_Sn_3) updA_Sn_3 (by decide) (by decide) (by decide) (by decide) (Nat.le_of_ble_eq_true rfl) (fun u4 => ?_)
  exact z_vret C dX2_copyFrom_53 rfl rfl
noncomputable def f_X3_faultAt_ (u : zM) (v1 : Int32) (v2 : Int32) : Option (Int32) := (f_X3_faultAt u v1 v2 1).bind fun r1 => some r1
set_option maxHeartbeats 4000000 in
set_option maxRecDepth 100000 in
theorem ct_X3_faultAt_ (l : Launch) (G : zG) (a : Nat → Nat) (X : va_W) (u : zM) (v1 : Int32) (v2 : Int32) : zCt l yX3_faultAt_ cX3_faultAt_ 3 (some .int) 2 G [.ref (a 0), .int v1, .int v2] (fun u : zM => wSh a G.2 u ++ X) (fun r : Int32 => some (.int r)) (fun _ => u) u (f_X3_faultAt_ u v1 v2) := by
  refine zCt.of (by decide) (Nat.le_of_ble_eq_true rfl) (fun p e s m args below meth c A C => ?_)
  refine y_lv (lv' := [(0, .ref (a 0)), (1, .int v1), (2, .int v2)]) rfl ?_
  rw [f_X3_faultAt_]
  refine z_aload_n C 0 dX3_faultAt__0 rfl ?_
  refine z_iload_n C 1 dX3_faultAt__1 rfl ?_
  refine z_iload_n C 2 dX3_faultAt__2 rfl ?_
  refine z_iconst (v := 1) C dX3_faultAt__3 (by decide) ?_
  refine y_callI C (z_invV C [.int v1, .int v2, .int 1] [] (ct_X3_faultAt l G a X u v1 v2 1) mi_X3_faultAt md_X3_faultAt ms_X3_faultAt ml_RX3_28 has_Sh_0 ⟨_, rfl, rfl⟩ (by decide) rfl rfl dX3_faultAt__4 (Nat.le_of_ble_eq_true rfl)) (List.Perm.refl _) (fun r1 => ?_)
  exact z_iret C dX3_faultAt__7 rfl rfl rfl
noncomputable def f_X3_renew (u : zM) (v1 : Int32) (v2 : Int32) : Option (zM) := zlet (zU u 0 0 v1) fun u1 => zlet (zU u1 0 1 v2) fun u2 => (f_fill 40 (u2 1) 0).bind fun r4 => zlet (va_up u2 1 r4) fun u3 => some u3
set_option maxHeartbeats 4000000 in
set_option maxRecDepth 100000 in
theorem ct_X3_renew (l : Launch) (G : zG) (a : Nat → Nat) (X : va_W) (u : zM) (v1 : Int32) (v2 : Int32) : zCt l yX3_renew cX3_renew 3 none 2 G [.ref (a 0), .int v1, .int v2] (fun u : zM => wSh a G.2 u ++ X) (fun _ : zM => none) (fun r => r) u (f_X3_renew u v1 v2) := by
  refine zCt.of (by decide) (Nat.le_of_ble_eq_true rfl) (fun p e s m args below meth c A C => ?_)
  refine y_lv (lv' := [(0, .ref (a 0)), (1, .int v1), (2, .int v2)]) rfl ?_
  rw [f_X3_renew]
  refine z_aload_n C 0 dX3_renew_0 rfl ?_
  refine z_iload_n C 1 dX3_renew_1 rfl ?_
  refine z_put C fl_RX3_9 ft_3_0 upd_Sh_0_0 rfl rfl (Nat.le_of_ble_eq_true rfl) dX3_renew_2 (fun u1 => ?_)
  refine z_aload_n C 0 dX3_renew_5 rfl ?_
  refine z_iload_n C 2 dX3_renew_6 rfl ?_
  refine z_put C fl_RX3_15 ft_3_1 upd_Sh_0_1 rfl rfl (Nat.le_of_ble_eq_true rfl) dX3_renew_7 (fun u2 => ?_)
  refine z_aload_n C 0 dX3_renew_10 rfl ?_
  refine z_get C fl_RX3_18 has_Sh_0 rfl dX3_renew_11 ?_
  refine z_iconst (v := 0) C dX3_renew_14 (by decide) ?_
  refine y_callVS C (z_invS C [.ref (a 1), .int 0] [] (ct_fill l G (a 1) 40 _ (u2 1) 0) mi_J7_fill_53178 mt_J7_fill_53178 ml_RX3_22 (by decide) rfl rfl dX3_renew_15 (Nat.le_of_ble_eq_true rfl)) (zSplit (q0 := 1) rfl) (fun _ => zSplit2 (q0 := 1) rfl) (fun r4 u3 => ?_)
  exact z_vret C dX3_renew_18 rfl rfl
noncomputable def f_X4_readName_5 : Nat → zM → Option (zM)
  | 0, _ => none
  | n + 1, u => if (u 0 1) ≤ (u 0 4) then some u else if z_in (u 0 4) 160 = true then (f_X4_isLetter (u 1 (Int32.toNatClampNeg (u 0 4)))).bind fun r2 => if r2 = true then zlet (zU u 0 4 ((u 0 4) + 1)) fun u3 => f_X4_readName_5 n u3 else some u else none
set_option maxHeartbeats 4000000 in
set_option maxRecDepth 100000 in
theorem w_X4_readName_5 {p : Program} {l : Launch} {e : Env} {s : State} {m : MethodId} {args : Array Value} {below : List Frame} {meth : Method} {c : Code} {G : zG} {A : Nat → Prop} (C : zC p s m args meth c RX4 cX4_readName 1 none G A) (a : Nat → Nat) (X : va_W) : ∀ (n : Nat) (u : zM), PW p l e 2 s m args below meth c G A 1 (fun u : zM => wTp a G.2 u ++ X) (fun _ : zM => none) (fun r => r) u [(0, .ref (a 0))] 5 [] (f_X4_readName_5 n u) := by
  intro n
  induction n with
  | zero => intros; exact z_none
  | succ n ih =>
    intro u
    rw [f_X4_readName_5]
    refine z_aload_n C 0 dX4_readName_5 rfl ?_
    refine z_get C fl_RX4_25 has_Tp_0 rfl dX4_readName_6 ?_
    refine z_aload_n C 0 dX4_readName_9 rfl ?_
    refine z_get C fl_RX4_15 has_Tp_0 rfl dX4_readName_10 ?_
    refine z_icmpge C 44 dX4_readName_13 (by decide) ?_ ?_
    · exact z_vret C dX4_readName_44 rfl rfl
    refine z_aload_n C 0 dX4_readName_16 rfl ?_
    refine z_get C fl_RX4_9 has_Tp_0 rfl dX4_readName_17 ?_
    refine z_aload_n C 0 dX4_readName_20 rfl ?_
    refine z_get C fl_RX4_25 has_Tp_0 rfl dX4_readName_21 ?_
    refine y_bald C has_Tp_1 dX4_readName_24 ?_
    refine y_callZ C (z_invS C [.int (u 1 (Int32.toNatClampNeg (u 0 4)))] [] (ct_X4_isLetter l G ((fun u : zM => wTp a G.2 u ++ X) u) (u 1 (Int32.toNatClampNeg (u 0 4)))) mi_X4_isLetter mt_X4_isLetter ml_RX4_31 (by decide) rfl rfl dX4_readName_25 (Nat.le_of_ble_eq_true rfl)) (List.Perm.refl _) (fun r2 => ?_)
    refine z_zifeq C 44 dX4_readName_28 (by decide) ?_ ?_
    · refine z_aload_n C 0 dX4_readName_31 rfl ?_
      refine z_dup C dX4_readName_32 rfl ?_
      refine z_get C fl_RX4_25 has_Tp_0 rfl dX4_readName_33 ?_
      refine z_iconst (v := 1) C dX4_readName_36 (by decide) ?_
      refine z_iadd C dX4_readName_37 ?_
      refine z_put C fl_RX4_25 ft_4_4 upd_Tp_0_4 rfl rfl (Nat.le_of_ble_eq_true rfl) dX4_readName_38 (fun u3 => ?_)
      refine z_goto C 5 dX4_readName_41 (by decide) ?_
      exact ih u3
    exact z_vret C dX4_readName_44 rfl rfl
noncomputable def f_X4_readName (u : zM) : Option (zM) := zlet (zU u 0 2 1) fun u1 => f_X4_readName_5 FU u1
set_option maxHeartbeats 4000000 in
set_option maxRecDepth 100000 in
theorem ct_X4_readName (l : Launch) (G : zG) (a : Nat → Nat) (X : va_W) (u : zM) : zCt l yX4_readName cX4_readName 1 none 2 G [.ref (a 0)] (fun u : zM => wTp a G.2 u ++ X) (fun _ : zM => none) (fun r => r) u (f_X4_readName u) := by
  refine zCt.of (by decide) (Nat.le_of_ble_eq_true rfl) (fun p e s m args below meth c A C => ?_)
  refine y_lv (lv' := [(0, .ref (a 0))]) rfl ?_
  rw [f_X4_readName]
  refine z_aload_n C 0 dX4_readName_0 rfl ?_
  refine z_iconst (v := 1) C dX4_readName_1 (by decide) ?_
  refine z_put C fl_RX4_19 ft_4_2 upd_Tp_0_2 rfl rfl (Nat.le_of_ble_eq_true rfl) dX4_readName_2 (fun u1 => ?_)
  exact w_X4_readName_5 C a X    FU u1
noncomputable def f_X4_readNumber_81 (u : zM) : Option (zM) := if ((u 0 4) - (u 0 3)) ≤ 2 then zlet (zU u 0 2 2) fun u2 => some u2 else zlet (zU u 0 2 4) fun u3 => some u3
set_option maxHeartbeats 4000000 in
set_option maxRecDepth 100000 in
theorem w_X4_readNumber_81 {p : Program} {l : Launch} {e : Env} {s : State} {m : MethodId} {args : Array Value} {below : List Frame} {meth : Method} {c : Code} {G : zG} {A : Nat → Prop} (C : zC p s m args meth c RX4 cX4_readNumber 1 none G A) (a : Nat → Nat) (X : va_W) : ∀ (u : zM), PW p l e 2 s m args below meth c G A 1 (fun u : zM => wTp a G.2 u ++ X) (fun _ : zM => none) (fun r => r) u [(0, .ref (a 0))] 81 [] (f_X4_readNumber_81 u) := by
  intro u
  rw [f_X4_readNumber_81]
  refine z_aload_n C 0 dX4_readNumber_81 rfl ?_
  refine z_aload_n C 0 dX4_readNumber_82 rfl ?_
  refine z_get C fl_RX4_25 has_Tp_0 rfl dX4_readNumber_83 ?_
  refine z_aload_n C 0 dX4_readNumber_86 rfl ?_
  refine z_get C fl_RX4_22 has_Tp_0 rfl dX4_readNumber_87 ?_
  refine z_isub C dX4_readNumber_90 ?_
  refine z_iconst (v := 2) C dX4_readNumber_91 (by decide) ?_
  refine z_icmple C 99 dX4_readNumber_92 (by decide) ?_ ?_
  · refine z_iconst (v := 2) C dX4_readNumber_99 (by decide) ?_
    refine z_put C fl_RX4_19 ft_4_2 upd_Tp_0_2 rfl rfl (Nat.le_of_ble_eq_true rfl) dX4_readNumber_100 (fun u2 => ?_)
    exact z_vret C dX4_readNumber_103 rfl rfl
  refine z_iconst (v := 4) C dX4_readNumber_95 (by decide) ?_
  refine z_goto C 100 dX4_readNumber_96 (by decide) ?_
  refine z_put C fl_RX4_19 ft_4_2 upd_Tp_0_2 rfl rfl (Nat.le_of_ble_eq_true rfl) dX4_readNumber_100 (fun u3 => ?_)
  exact z_vret C dX4_readNumber_103 rfl rfl
noncomputable def f_X4_readNumber_5 : Nat → zM → Option (zM)
  | 0, _ => none
  | n + 1, u => if (u 0 1) ≤ (u 0 4) then f_X4_readNumber_81  u else if z_in (u 0 4) 160 = true then (f_X4_isFigure (u 1 (Int32.toNatClampNeg (u 0 4)))).bind fun r4 => if r4 = true then if 2 ≤ ((u 0 4) - (u 0 3)) then zlet (zU u 0 4 ((u 0 4) + 1)) fun u5 => f_X4_readNumber_5 n u5 else if z_in (u 0 4) 160 = true then zlet (zU u 0 5 (((10 * (u 0 5)) + (u 1 (Int32.toNatClampNeg (u 0 4)))) - 48)) fun u6 => zlet (zU u6 0 4 ((u6 0 4) + 1)) fun u7 => f_X4_readNumber_5 n u7 else none else f_X4_readNumber_81  u else none
set_option maxHeartbeats 4000000 in
set_option maxRecDepth 100000 in
theorem w_X4_readNumber_5 {p : Program} {l : Launch} {e : Env} {s : State} {m : MethodId} {args : Array Value} {below : List Frame} {meth : Method} {c : Code} {G : zG} {A : Nat → Prop} (C : zC p s m args meth c RX4 cX4_readNumber 1 none G A) (a : Nat → Nat) (X : va_W) : ∀ (n : Nat) (u : zM), PW p l e 2 s m args below meth c G A 1 (fun u : zM => wTp a G.2 u ++ X) (fun _ : zM => none) (fun r => r) u [(0, .ref (a 0))] 5 [] (f_X4_readNumber_5 n u) := by
  intro n
  induction n with
  | zero => intros; exact z_none
  | succ n ih =>
    intro u
    rw [f_X4_readNumber_5]
    refine z_aload_n C 0 dX4_readNumber_5 rfl ?_
    refine z_get C fl_RX4_25 has_Tp_0 rfl dX4_readNumber_6 ?_
    refine z_aload_n C 0 dX4_readNumber_9 rfl ?_
    refine z_get C fl_RX4_15 has_Tp_0 rfl dX4_readNumber_10 ?_
    refine z_icmpge C 81 dX4_readNumber_13 (by decide) ?_ ?_
    · exact w_X4_readNumber_81 C a X     u
    refine z_aload_n C 0 dX4_readNumber_16 rfl ?_
    refine z_get C fl_RX4_9 has_Tp_0 rfl dX4_readNumber_17 ?_
    refine z_aload_n C 0 dX4_readNumber_20 rfl ?_
    refine z_get C fl_RX4_25 has_Tp_0 rfl dX4_readNumber_21 ?_
    refine y_bald C has_Tp_1 dX4_readNumber_24 ?_
    refine y_callZ C (z_invS C [.int (u 1 (Int32.toNatClampNeg (u 0 4)))] [] (ct_X4_isFigure l G ((fun u : zM => wTp a G.2 u ++ X) u) (u 1 (Int32.toNatClampNeg (u 0 4)))) mi_X4_isFigure mt_X4_isFigure ml_RX4_38 (by decide) rfl rfl dX4_readNumber_25 (Nat.le_of_ble_eq_true rfl)) (List.Perm.refl _) (fun r4 => ?_)
    refine z_zifeq C 81 dX4_readNumber_28 (by decide) ?_ ?_
    · refine z_aload_n C 0 dX4_readNumber_31 rfl ?_
      refine z_get C fl_RX4_25 has_Tp_0 rfl dX4_readNumber_32 ?_
      refine z_aload_n C 0 dX4_readNumber_35 rfl ?_
      refine z_get C fl_RX4_22 has_Tp_0 rfl dX4_readNumber_36 ?_
      refine z_isub C dX4_readNumber_39 ?_
      refine z_iconst (v := 2) C dX4_readNumber_40 (by decide) ?_
      refine z_icmpge C 68 dX4_readNumber_41 (by decide) ?_ ?_
      · refine z_aload_n C 0 dX4_readNumber_68 rfl ?_
        refine z_dup C dX4_readNumber_69 rfl ?_
        refine z_get C fl_RX4_25 has_Tp_0 rfl dX4_readNumber_70 ?_
        refine z_iconst (v := 1) C dX4_readNumber_73 (by decide) ?_
        refine z_iadd C dX4_readNumber_74 ?_
        refine z_put C fl_RX4_25 ft_4_4 upd_Tp_0_4 rfl rfl (Nat.le_of_ble_eq_true rfl) dX4_readNumber_75 (fun u5 => ?_)
        refine z_goto C 5 dX4_readNumber_78 (by decide) ?_
        exact ih u5
      refine z_aload_n C 0 dX4_readNumber_44 rfl ?_
      refine z_bipush (v := 10) C dX4_readNumber_45 (by decide) ?_
      refine z_aload_n C 0 dX4_readNumber_47 rfl ?_
      refine z_get C fl_RX4_28 has_Tp_0 rfl dX4_readNumber_48 ?_
      refine z_imul C dX4_readNumber_51 ?_
      refine z_aload_n C 0 dX4_readNumber_52 rfl ?_
      refine z_get C fl_RX4_9 has_Tp_0 rfl dX4_readNumber_53 ?_
      refine z_aload_n C 0 dX4_readNumber_56 rfl ?_
      refine z_get C fl_RX4_25 has_Tp_0 rfl dX4_readNumber_57 ?_
      refine y_bald C has_Tp_1 dX4_readNumber_60 ?_
      refine z_iadd C dX4_readNumber_61 ?_
      refine z_bipush (v := 48) C dX4_readNumber_62 (by decide) ?_
      refine z_isub C dX4_readNumber_64 ?_
      refine z_put C fl_RX4_28 ft_4_5 upd_Tp_0_5 rfl rfl (Nat.le_of_ble_eq_true rfl) dX4_readNumber_65 (fun u6 => ?_)
      refine z_aload_n C 0 dX4_readNumber_68 rfl ?_
      refine z_dup C dX4_readNumber_69 rfl ?_
      refine z_get C fl_RX4_25 has_Tp_0 rfl dX4_readNumber_70 ?_
      refine z_iconst (v := 1) C dX4_readNumber_73 (by decide) ?_
      refine z_iadd C dX4_readNumber_74 ?_
      refine z_put C fl_RX4_25 ft_4_4 upd_Tp_0_4 rfl rfl (Nat.le_of_ble_eq_true rfl) dX4_readNumber_75 (fun u7 => ?_)
      refine z_goto C 5 dX4_readNumber_78 (by decide) ?_
      exact ih u7
    exact w_X4_readNumber_81 C a X     u
noncomputable def f_X4_readNumber (u : zM) : Option (zM) := zlet (zU u 0 5 0) fun u1 => f_X4_readNumber_5 FU u1
set_option maxHeartbeats 4000000 in
set_option maxRecDepth 100000 in
theorem ct_X4_readNumber (l : Launch) (G : zG) (a : Nat → Nat) (X : va_W) (u : zM) : zCt l yX4_readNumber cX4_readNumber 1 none 2 G [.ref (a 0)] (fun u : zM => wTp a G.2 u ++ X) (fun _ : zM => none) (fun r => r) u (f_X4_readNumber u) := by
  refine zCt.of (by decide) (Nat.le_of_ble_eq_true rfl) (fun p e s m args below meth c A C => ?_)
  refine y_lv (lv' := [(0, .ref (a 0))]) rfl ?_
  rw [f_X4_readNumber]
  refine z_aload_n C 0 dX4_readNumber_0 rfl ?_
  refine z_iconst (v := 0) C dX4_readNumber_1 (by decide) ?_
  refine z_put C fl_RX4_28 ft_4_5 upd_Tp_0_5 rfl rfl (Nat.le_of_ble_eq_true rfl) dX4_readNumber_2 (fun u1 => ?_)
  exact w_X4_readNumber_5 C a X    FU u1
noncomputable def f_X4_readToken_38 (u : zM) : Option (zM) := zlet (zU u 0 3 (u 0 4)) fun u1 => if (u1 0 3) < (u1 0 1) then if z_in (u1 0 3) 160 = true then (f_X4_isLetter (u1 1 (Int32.toNatClampNeg (u1 0 3)))).bind fun r2 => if r2 = true then (f_X4_readName u1).bind fun r3 => zlet r3 fun u4 => some u4 else if z_in (u1 0 3) 160 = true then (f_X4_isFigure (u1 1 (Int32.toNatClampNeg (u1 0 3)))).bind fun r5 => if r5 = true then (f_X4_readNumber u1).bind fun r6 => zlet r6 fun u7 => some u7 else if z_in (u1 0 3) 160 = true then if (u1 1 (Int32.toNatClampNeg (u1 0 3))) = 59 then zlet (zU u1 0 2 3) fun u8 => zlet (zU u8 0 4 ((u8 0 4) + 1)) fun u9 => some u9 else zlet (zU u1 0 2 4) fun u10 => zlet (zU u10 0 4 ((u10 0 4) + 1)) fun u11 => some u11 else none else none else none else zlet (zU u1 0 2 0) fun u12 => some u12
set_option maxHeartbeats 4000000 in
set_option maxRecDepth 100000 in
theorem w_X4_readToken_38 {p : Program} {l : Launch} {e : Env} {s : State} {m : MethodId} {args : Array Value} {below : List Frame} {meth : Method} {c : Code} {G : zG} {A : Nat → Prop} (C : zC p s m args meth c RX4 cX4_readToken 1 none G A) (a : Nat → Nat) (X : va_W) : ∀ (u : zM), PW p l e 3 s m args below meth c G A 1 (fun u : zM => wTp a G.2 u ++ X) (fun _ : zM => none) (fun r => r) u [(0, .ref (a 0))] 38 [] (f_X4_readToken_38 u) := by
  intro u
  rw [f_X4_readToken_38]
  refine z_aload_n C 0 dX4_readToken_38 rfl ?_
  refine z_aload_n C 0 dX4_readToken_39 rfl ?_
  refine z_get C fl_RX4_25 has_Tp_0 rfl dX4_readToken_40 ?_
  refine z_put C fl_RX4_22 ft_4_3 upd_Tp_0_3 rfl rfl (Nat.le_of_ble_eq_true rfl) dX4_readToken_43 (fun u1 => ?_)
  refine z_aload_n C 0 dX4_readToken_46 rfl ?_
  refine z_get C fl_RX4_22 has_Tp_0 rfl dX4_readToken_47 ?_
  refine z_aload_n C 0 dX4_readToken_50 rfl ?_
  refine z_get C fl_RX4_15 has_Tp_0 rfl dX4_readToken_51 ?_
  refine z_icmplt C 65 dX4_readToken_54 (by decide) ?_ ?_
  · refine z_aload_n C 0 dX4_readToken_65 rfl ?_
    refine z_get C fl_RX4_9 has_Tp_0 rfl dX4_readToken_66 ?_
    refine z_aload_n C 0 dX4_readToken_69 rfl ?_
    refine z_get C fl_RX4_22 has_Tp_0 rfl dX4_readToken_70 ?_
    refine y_bald C has_Tp_1 dX4_readToken_73 ?_
    refine y_callZ C (z_invS C [.int (u1 1 (Int32.toNatClampNeg (u1 0 3)))] [] (ct_X4_isLetter l G ((fun u : zM => wTp a G.2 u ++ X) u1) (u1 1 (Int32.toNatClampNeg (u1 0 3)))) mi_X4_isLetter mt_X4_isLetter ml_RX4_31 (by decide) rfl rfl dX4_readToken_74 (Nat.le_of_ble_eq_true rfl)) (List.Perm.refl _) (fun r2 => ?_)
    refine z_zifeq C 87 dX4_readToken_77 (by decide) ?_ ?_
    · refine z_aload_n C 0 dX4_readToken_80 rfl ?_
      refine y_callVS C (z_invV C [] [] (ct_X4_readName l G a X u1 ) mi_X4_readName md_X4_readName ms_X4_readName ml_RX4_35 has_Tp_0 ⟨_, rfl, rfl⟩ (by decide) rfl rfl dX4_readToken_81 (Nat.le_of_ble_eq_true rfl)) (List.Perm.refl _) (fun _ => List.Perm.refl _) (fun r3 u4 => ?_)
      refine z_goto C 142 dX4_readToken_84 (by decide) ?_
      exact z_vret C dX4_readToken_142 rfl rfl
    refine z_aload_n C 0 dX4_readToken_87 rfl ?_
    refine z_get C fl_RX4_9 has_Tp_0 rfl dX4_readToken_88 ?_
    refine z_aload_n C 0 dX4_readToken_91 rfl ?_
    refine z_get C fl_RX4_22 has_Tp_0 rfl dX4_readToken_92 ?_
    refine y_bald C has_Tp_1 dX4_readToken_95 ?_
    refine y_callZ C (z_invS C [.int (u1 1 (Int32.toNatClampNeg (u1 0 3)))] [] (ct_X4_isFigure l G ((fun u : zM => wTp a G.2 u ++ X) u1) (u1 1 (Int32.toNatClampNeg (u1 0 3)))) mi_X4_isFigure mt_X4_isFigure ml_RX4_38 (by decide) rfl rfl dX4_readToken_96 (Nat.le_of_ble_eq_true rfl)) (List.Perm.refl _) (fun r5 => ?_)
    refine z_zifeq C 109 dX4_readToken_99 (by decide) ?_ ?_
    · refine z_aload_n C 0 dX4_readToken_102 rfl ?_
      refine y_callVS C (z_invV C [] [] (ct_X4_readNumber l G a X u1 ) mi_X4_readNumber md_X4_readNumber ms_X4_readNumber ml_RX4_41 has_Tp_0 ⟨_, rfl, rfl⟩ (by decide) rfl rfl dX4_readToken_103 (Nat.le_of_ble_eq_true rfl)) (List.Perm.refl _) (fun _ => List.Perm.refl _) (fun r6 u7 => ?_)
      refine z_goto C 142 dX4_readToken_106 (by decide) ?_
      exact z_vret C dX4_readToken_142 rfl rfl
    refine z_aload_n C 0 dX4_readToken_109 rfl ?_
    refine z_aload_n C 0 dX4_readToken_110 rfl ?_
    refine z_get C fl_RX4_9 has_Tp_0 rfl dX4_readToken_111 ?_
    refine z_aload_n C 0 dX4_readToken_114 rfl ?_
    refine z_get C fl_RX4_22 has_Tp_0 rfl dX4_readToken_115 ?_
    refine y_bald C has_Tp_1 dX4_readToken_118 ?_
    refine z_bipush (v := 59) C dX4_readToken_119 (by decide) ?_
    refine z_icmpne C 128 dX4_readToken_121 (by decide) ?_ ?_
    · refine z_iconst (v := 3) C dX4_readToken_124 (by decide) ?_
      refine z_goto C 129 dX4_readToken_125 (by decide) ?_
      refine z_put C fl_RX4_19 ft_4_2 upd_Tp_0_2 rfl rfl (Nat.le_of_ble_eq_true rfl) dX4_readToken_129 (fun u8 => ?_)
      refine z_aload_n C 0 dX4_readToken_132 rfl ?_
      refine z_dup C dX4_readToken_133 rfl ?_
      refine z_get C fl_RX4_25 has_Tp_0 rfl dX4_readToken_134 ?_
      refine z_iconst (v := 1) C dX4_readToken_137 (by decide) ?_
      refine z_iadd C dX4_readToken_138 ?_
      refine z_put C fl_RX4_25 ft_4_4 upd_Tp_0_4 rfl rfl (Nat.le_of_ble_eq_true rfl) dX4_readToken_139 (fun u9 => ?_)
      exact z_vret C dX4_readToken_142 rfl rfl
    refine z_iconst (v := 4) C dX4_readToken_128 (by decide) ?_
    refine z_put C fl_RX4_19 ft_4_2 upd_Tp_0_2 rfl rfl (Nat.le_of_ble_eq_true rfl) dX4_readToken_129 (fun u10 => ?_)
    refine z_aload_n C 0 dX4_readToken_132 rfl ?_
    refine z_dup C dX4_readToken_133 rfl ?_
    refine z_get C fl_RX4_25 has_Tp_0 rfl dX4_readToken_134 ?_
    refine z_iconst (v := 1) C dX4_readToken_137 (by decide) ?_
    refine z_iadd C dX4_readToken_138 ?_
    refine z_put C fl_RX4_25 ft_4_4 upd_Tp_0_4 rfl rfl (Nat.le_of_ble_eq_true rfl) dX4_readToken_139 (fun u11 => ?_)
    exact z_vret C dX4_readToken_142 rfl rfl
  refine z_aload_n C 0 dX4_readToken_57 rfl ?_
  refine z_iconst (v := 0) C dX4_readToken_58 (by decide) ?_
  refine z_put C fl_RX4_19 ft_4_2 upd_Tp_0_2 rfl rfl (Nat.le_of_ble_eq_true rfl) dX4_readToken_59 (fun u12 => ?_)
  refine z_goto C 142 dX4_readToken_62 (by decide) ?_
  exact z_vret C dX4_readToken_142 rfl rfl
noncomputable def f_X4_readToken_0 : Nat → zM → Option (zM)
  | 0, _ => none
  | n + 1, u => if (u 0 1) ≤ (u 0 4) then f_X4_readToken_38  u else if z_in (u 0 4) 160 = true then if (u 1 (Int32.toNatClampNeg (u 0 4))) = 32 then zlet (zU u 0 4 ((u 0 4) + 1)) fun u13 => f_X4_readToken_0 n u13 else f_X4_readToken_38  u else none
set_option maxHeartbeats 4000000 in
set_option maxRecDepth 100000 in
theorem w_X4_readToken_0 {p : Program} {l : Launch} {e : Env} {s : State} {m : MethodId} {args : Array Value} {below : List Frame} {meth : Method} {c : Code} {G : zG} {A : Nat → Prop} (C : zC p s m args meth c RX4 cX4_readToken 1 none G A) (a : Nat → Nat) (X : va_W) : ∀ (n : Nat) (u : zM), PW p l e 3 s m args below meth c G A 1 (fun u : zM => wTp a G.2 u ++ X) (fun _ : zM => none) (fun r => r) u [(0, .ref (a 0))] 0 [] (f_X4_readToken_0 n u) := by
  intro n
  induction n with
  | zero => intros; exact z_none
  | succ n ih =>
    intro u
    rw [f_X4_readToken_0]
    refine z_aload_n C 0 dX4_readToken_0 rfl ?_
    refine z_get C fl_RX4_25 has_Tp_0 rfl dX4_readToken_1 ?_
    refine z_aload_n C 0 dX4_readToken_4 rfl ?_
    refine z_get C fl_RX4_15 has_Tp_0 rfl dX4_readToken_5 ?_
    refine z_icmpge C 38 dX4_readToken_8 (by decide) ?_ ?_
    · exact w_X4_readToken_38 C a X     u
    refine z_aload_n C 0 dX4_readToken_11 rfl ?_
    refine z_get C fl_RX4_9 has_Tp_0 rfl dX4_readToken_12 ?_
    refine z_aload_n C 0 dX4_readToken_15 rfl ?_
    refine z_get C fl_RX4_25 has_Tp_0 rfl dX4_readToken_16 ?_
    refine y_bald C has_Tp_1 dX4_readToken_19 ?_
    refine z_bipush (v := 32) C dX4_readToken_20 (by decide) ?_
    refine z_icmpne C 38 dX4_readToken_22 (by decide) ?_ ?_
    · refine z_aload_n C 0 dX4_readToken_25 rfl ?_
      refine z_dup C dX4_readToken_26 rfl ?_
      refine z_get C fl_RX4_25 has_Tp_0 rfl dX4_readToken_27 ?_
      refine z_iconst (v := 1) C dX4_readToken_30 (by decide) ?_
      refine z_iadd C dX4_readToken_31 ?_
      refine z_put C fl_RX4_25 ft_4_4 upd_Tp_0_4 rfl rfl (Nat.le_of_ble_eq_true rfl) dX4_readToken_32 (fun u13 => ?_)
      refine z_goto C 0 dX4_readToken_35 (by decide) ?_
      exact ih u13
    exact w_X4_readToken_38 C a X     u
noncomputable def f_X4_readToken (u : zM) : Option (zM) := f_X4_readToken_0 FU u
set_option maxHeartbeats 4000000 in
set_option maxRecDepth 100000 in
theorem ct_X4_readToken (l : Launch) (G : zG) (a : Nat → Nat) (X : va_W) (u : zM) : zCt l yX4_readToken cX4_readToken 1 none 3 G [.ref (a 0)] (fun u : zM => wTp a G.2 u ++ X) (fun _ : zM => none) (fun r => r) u (f_X4_readToken u) := by
  refine zCt.of (by decide) (Nat.le_of_ble_eq_true rfl) (fun p e s m args below meth c A C => ?_)
  refine y_lv (lv' := [(0, .ref (a 0))]) rfl ?_
  rw [f_X4_readToken]
  exact w_X4_readToken_0 C a X    FU u
noncomputable def f_X2_isAsIn_39 (v : zM) (k31 : zM → Int32 → Int32 → Option (Bool × zM)) : Nat → zM → Int32 → Int32 → Int32 → Option (Bool × zM)
  | 0, _, _, _, _ => none
  | n + 1, u, v2, v3, v4 => if (v 0 0) ≤ v4 then (f_X0_windToday u).bind fun r1 => (f_X0_passDay u r1).bind fun r2 => zlet r2 fun u3 => k31 u3 v2 (v3 + 1) else if z_in v4 6 = true then if (v 1 (Int32.toNatClampNeg v4)) = v3 then if z_in v4 6 = true then (f_X0_counted u (v 2 (Int32.toNatClampNeg v4))).bind fun r4 => if z_in v4 6 = true then if r4 = (v 3 (Int32.toNatClampNeg v4)) then f_X2_isAsIn_39 v k31 n u v2 v3 (v4 + 1) else some (false, u) else none else none else f_X2_isAsIn_39 v k31 n u v2 v3 (v4 + 1) else none
set_option maxHeartbeats 4000000 in
set_option maxRecDepth 100000 in
theorem w_X2_isAsIn_39 {p : Program} {l : Launch} {e : Env} {s : State} {m : MethodId} {args : Array Value} {below : List Frame} {meth : Method} {c : Code} {G : zG} {A : Nat → Prop} (C : zC p s m args meth c RX2 cX2_isAsIn 5 (some .boolean) G A) (a b : Nat → Nat) (X : va_W) (v : zM) (k31 : zM → Int32 → Int32 → Option (Bool × zM)) (hk31 : ∀ (u : zM) (v2 : Int32) (v3 : Int32), PW p l e 5 s m args below meth c G A 5 (fun u : zM => wC b G.2 u ++ (wSn a G.2 v ++ X)) (fun r : Bool × zM => some (.int (zb r.1))) (fun r => r.2) u [(0, .ref (a 0)), (1, .ref (b 0)), (2, .int v2), (3, .int v3)] 31 [] (k31 u v2 v3)) : ∀ (n : Nat) (u : zM) (v2 : Int32) (v3 : Int32) (v4 : Int32), PW p l e 5 s m args below meth c G A 5 (fun u : zM => wC b G.2 u ++ (wSn a G.2 v ++ X)) (fun r : Bool × zM => some (.int (zb r.1))) (fun r => r.2) u [(0, .ref (a 0)), (1, .ref (b 0)), (2, .int v2), (3, .int v3), (4, .int v4)] 39 [] (f_X2_isAsIn_39 v k31 n u v2 v3 v4) := by
  intro n
  induction n with
  | zero => intros; exact z_none
  | succ n ih =>
    intro u v2 v3 v4
    rw [f_X2_isAsIn_39]
    refine z_iload C 4 dX2_isAsIn_39 rfl ?_
    refine z_aload_n C 0 dX2_isAsIn_41 rfl ?_
    refine z_get C fl_RX2_9 (zHas.app has_Sn_0) rfl dX2_isAsIn_42 ?_
    refine z_icmpge C 88 dX2_isAsIn_45 (by decide) ?_ ?_
    · refine z_aload_n C 1 dX2_isAsIn_88 rfl ?_
      refine z_aload_n C 1 dX2_isAsIn_89 rfl ?_
      refine y_callI C (z_invV C [] [.ref (b 0)] (ct_X0_windToday l G b (wSn a G.2 v ++ X) u ) mi_X0_windToday md_X0_windToday ms_X0_windToday ml_RX2_42 has_C_0 ⟨_, rfl, rfl⟩ (by decide) rfl rfl dX2_isAsIn_90 (Nat.le_of_ble_eq_true rfl)) (List.Perm.refl _) (fun r1 => ?_)
      refine y_callVS C (z_invV C [.int r1] [] (ct_X0_passDay l G b (wSn a G.2 v ++ X) u r1) mi_X0_passDay md_X0_passDay ms_X0_passDay ml_RX2_46 has_C_0 ⟨_, rfl, rfl⟩ (by decide) rfl rfl dX2_isAsIn_93 (Nat.le_of_ble_eq_true rfl)) (List.Perm.refl _) (fun _ => List.Perm.refl _) (fun r2 u3 => ?_)
      refine z_iinc C (v := (v3 + 1)) 3 [(3, .int (v3 + 1)), (0, .ref (a 0)), (1, .ref (b 0)), (2, .int v2), (4, .int v4)] dX2_isAsIn_96 rfl rfl (by decide) rfl ?_
      refine z_goto C 31 dX2_isAsIn_99 (by decide) ?_
      refine z_loc C [(0, .ref (a 0)), (1, .ref (b 0)), (2, .int v2), (3, .int (v3 + 1))] [1, 2, 3, 0] rfl ?_
      exact hk31 u3 v2 (v3 + 1)
    refine z_aload_n C 0 dX2_isAsIn_48 rfl ?_
    refine z_get C fl_RX2_15 (zHas.app has_Sn_0) rfl dX2_isAsIn_49 ?_
    refine z_iload C 4 dX2_isAsIn_52 rfl ?_
    refine y_iald C (zHas.app has_Sn_1) dX2_isAsIn_54 ?_
    refine z_iload_n C 3 dX2_isAsIn_55 rfl ?_
    refine z_icmpne C 82 dX2_isAsIn_56 (by decide) ?_ ?_
    · refine z_aload_n C 1 dX2_isAsIn_59 rfl ?_
      refine z_aload_n C 0 dX2_isAsIn_60 rfl ?_
      refine z_get C fl_RX2_19 (zHas.app has_Sn_0) rfl dX2_isAsIn_61 ?_
      refine z_iload C 4 dX2_isAsIn_64 rfl ?_
      refine y_iald C (zHas.app has_Sn_2) dX2_isAsIn_66 ?_
      refine y_callI C (z_invV C [.int (v 2 (Int32.toNatClampNeg v4))] [] (ct_X0_counted l G b (wSn a G.2 v ++ X) u (v 2 (Int32.toNatClampNeg v4))) mi_X0_counted md_X0_counted ms_X0_counted ml_RX2_37 has_C_0 ⟨_, rfl, rfl⟩ (by decide) rfl rfl dX2_isAsIn_67 (Nat.le_of_ble_eq_true rfl)) (List.Perm.refl _) (fun r4 => ?_)
      refine z_aload_n C 0 dX2_isAsIn_70 rfl ?_
      refine z_get C fl_RX2_22 (zHas.app has_Sn_0) rfl dX2_isAsIn_71 ?_
      refine z_iload C 4 dX2_isAsIn_74 rfl ?_
      refine y_iald C (zHas.app has_Sn_3) dX2_isAsIn_76 ?_
      refine z_icmpeq C 82 dX2_isAsIn_77 (by decide) ?_ ?_
      · refine z_iinc C (v := (v4 + 1)) 4 [(4, .int (v4 + 1)), (0, .ref (a 0)), (1, .ref (b 0)), (2, .int v2), (3, .int v3)] dX2_isAsIn_82 rfl rfl (by decide) rfl ?_
        refine z_goto C 39 dX2_isAsIn_85 (by decide) ?_
        refine z_loc C [(0, .ref (a 0)), (1, .ref (b 0)), (2, .int v2), (3, .int v3), (4, .int (v4 + 1))] [1, 2, 3, 4, 0] rfl ?_
        exact ih u v2 v3 (v4 + 1)
      refine z_iconst (v := 0) C dX2_isAsIn_80 (by decide) ?_
      exact z_zret (b := false) C dX2_isAsIn_81 rfl rfl
    refine z_iinc C (v := (v4 + 1)) 4 [(4, .int (v4 + 1)), (0, .ref (a 0)), (1, .ref (b 0)), (2, .int v2), (3, .int v3)] dX2_isAsIn_82 rfl rfl (by decide) rfl ?_
    refine z_goto C 39 dX2_isAsIn_85 (by decide) ?_
    refine z_loc C [(0, .ref (a 0)), (1, .ref (b 0)), (2, .int v2), (3, .int v3), (4, .int (v4 + 1))] [1, 2, 3, 4, 0] rfl ?_
    exact ih u v2 v3 (v4 + 1)
noncomputable def f_X2_isAsIn_31 (v : zM) : Nat → zM → Int32 → Int32 → Option (Bool × zM)
  | 0, _, _, _ => none
  | n + 1, u, v2, v3 => if v2 < v3 then some (true, u) else f_X2_isAsIn_39 v (fun u v2 v3 => f_X2_isAsIn_31 v n u v2 v3) FU u v2 v3 0
set_option maxHeartbeats 4000000 in
set_option maxRecDepth 100000 in
theorem w_X2_isAsIn_31 {p : Program} {l : Launch} {e : Env} {s : State} {m : MethodId} {args : Array Value} {below : List Frame} {meth : Method} {c : Code} {G : zG} {A : Nat → Prop} (C : zC p s m args meth c RX2 cX2_isAsIn 5 (some .boolean) G A) (a b : Nat → Nat) (X : va_W) (v : zM) : ∀ (n : Nat) (u : zM) (v2 : Int32) (v3 : Int32), PW p l e 5 s m args below meth c G A 5 (fun u : zM => wC b G.2 u ++ (wSn a G.2 v ++ X)) (fun r : Bool × zM => some (.int (zb r.1))) (fun r => r.2) u [(0, .ref (a 0)), (1, .ref (b 0)), (2, .int v2), (3, .int v3)] 31 [] (f_X2_isAsIn_31 v n u v2 v3) := by
  intro n
  induction n with
  | zero => intros; exact z_none
  | succ n ih =>
    intro u v2 v3
    rw [f_X2_isAsIn_31]
    refine z_iload_n C 3 dX2_isAsIn_31 rfl ?_
    refine z_iload_n C 2 dX2_isAsIn_32 rfl ?_
    refine z_icmpgt C 102 dX2_isAsIn_33 (by decide) ?_ ?_
    · refine z_iconst (v := 1) C dX2_isAsIn_102 (by decide) ?_
      exact z_zret (b := true) C dX2_isAsIn_103 rfl rfl
    refine z_iconst (v := 0) C dX2_isAsIn_36 (by decide) ?_
    refine z_istore C [(4, .int 0), (0, .ref (a 0)), (1, .ref (b 0)), (2, .int v2), (3, .int v3)] dX2_isAsIn_37 (by decide) rfl ?_
    refine z_loc C [(0, .ref (a 0)), (1, .ref (b 0)), (2, .int v2), (3, .int v3), (4, .int 0)] [1, 2, 3, 4, 0] rfl ?_
    exact w_X2_isAsIn_39 C a b X v  (fun u v2 v3 => f_X2_isAsIn_31 v n u v2 v3) ih FU u v2 v3 0
noncomputable def f_X2_isAsIn_4 (v : zM) : Nat → zM → Int32 → Int32 → Option (Bool × zM)
  | 0, _, _, _ => none
  | n + 1, u, v2, v3 => if (v 0 0) ≤ v3 then f_X2_isAsIn_31 v FU u v2 0 else if z_in v3 6 = true then f_X2_isAsIn_4 v n u (if v2 < (v 1 (Int32.toNatClampNeg v3)) then (v 1 (Int32.toNatClampNeg v3)) else v2) (v3 + 1) else none
set_option maxHeartbeats 4000000 in
set_option maxRecDepth 100000 in
theorem w_X2_isAsIn_4 {p : Program} {l : Launch} {e : Env} {s : State} {m : MethodId} {args : Array Value} {below : List Frame} {meth : Method} {c : Code} {G : zG} {A : Nat → Prop} (C : zC p s m args meth c RX2 cX2_isAsIn 5 (some .boolean) G A) (a b : Nat → Nat) (X : va_W) (v : zM) : ∀ (n : Nat) (u : zM) (v2 : Int32) (v3 : Int32), PW p l e 5 s m args below meth c G A 5 (fun u : zM => wC b G.2 u ++ (wSn a G.2 v ++ X)) (fun r : Bool × zM => some (.int (zb r.1))) (fun r => r.2) u [(0, .ref (a 0)), (1, .ref (b 0)), (2, .int v2), (3, .int v3)] 4 [] (f_X2_isAsIn_4 v n u v2 v3) := by
  intro n
  induction n with
  | zero => intros; exact z_none
  | succ n ih =>
    intro u v2 v3
    rw [f_X2_isAsIn_4]
    refine z_iload_n C 3 dX2_isAsIn_4 rfl ?_
    refine z_aload_n C 0 dX2_isAsIn_5 rfl ?_
    refine z_get C fl_RX2_9 (zHas.app has_Sn_0) rfl dX2_isAsIn_6 ?_
    refine z_icmpge C 29 dX2_isAsIn_9 (by decide) ?_ ?_
    · refine z_iconst (v := 0) C dX2_isAsIn_29 (by decide) ?_
      refine z_istore_n C [(3, .int 0), (0, .ref (a 0)), (1, .ref (b 0)), (2, .int v2)] dX2_isAsIn_30 (by decide) rfl ?_
      refine z_loc C [(0, .ref (a 0)), (1, .ref (b 0)), (2, .int v2), (3, .int 0)] [1, 2, 3, 0] rfl ?_
      exact w_X2_isAsIn_31 C a b X v    FU u v2 0
    refine z_iload_n C 2 dX2_isAsIn_12 rfl ?_
    refine z_aload_n C 0 dX2_isAsIn_13 rfl ?_
    refine z_get C fl_RX2_15 (zHas.app has_Sn_0) rfl dX2_isAsIn_14 ?_
    refine z_iload_n C 3 dX2_isAsIn_17 rfl ?_
    refine y_iald C (zHas.app has_Sn_1) dX2_isAsIn_18 ?_
    refine y_max C 674 (by decide +kernel) (by decide) dX2_isAsIn_19 (Nat.le_of_ble_eq_true rfl) ?_
    refine z_istore_n C [(2, .int (if v2 < (v 1 (Int32.toNatClampNeg v3)) then (v 1 (Int32.toNatClampNeg v3)) else v2)), (0, .ref (a 0)), (1, .ref (b 0)), (3, .int v3)] dX2_isAsIn_22 (by decide) rfl ?_
    refine z_iinc C (v := (v3 + 1)) 3 [(3, .int (v3 + 1)), (2, .int (if v2 < (v 1 (Int32.toNatClampNeg v3)) then (v 1 (Int32.toNatClampNeg v3)) else v2)), (0, .ref (a 0)), (1, .ref (b 0))] dX2_isAsIn_23 rfl rfl (by decide) rfl ?_
    refine z_goto C 4 dX2_isAsIn_26 (by decide) ?_
    refine z_loc C [(0, .ref (a 0)), (1, .ref (b 0)), (2, .int (if v2 < (v 1 (Int32.toNatClampNeg v3)) then (v 1 (Int32.toNatClampNeg v3)) else v2)), (3, .int (v3 + 1))] [2, 3, 1, 0] rfl ?_
    exact ih u (if v2 < (v 1 (Int32.toNatClampNeg v3)) then (v 1 (Int32.toNatClampNeg v3)) else v2) (v3 + 1)
noncomputable def f_X2_isAsIn (v : zM) (u : zM) : Option (Bool × zM) := f_X2_isAsIn_4 v FU u 0 0
set_option maxHeartbeats 4000000 in
set_option maxRecDepth 100000 in
theorem ct_X2_isAsIn (l : Launch) (G : zG) (a b : Nat → Nat) (X : va_W) (v : zM) (u : zM) : zCt l yX2_isAsIn cX2_isAsIn 5 (some .boolean) 5 G [.ref (a 0), .ref (b 0)] (fun u : zM => wC b G.2 u ++ (wSn a G.2 v ++ X)) (fun r : Bool × zM => some (.int (zb r.1))) (fun r => r.2) u (f_X2_isAsIn v u) := by
  refine zCt.of (by decide) (Nat.le_of_ble_eq_true rfl) (fun p e s m args below meth c A C => ?_)
  refine y_lv (lv' := [(0, .ref (a 0)), (1, .ref (b 0))]) rfl ?_
  rw [f_X2_isAsIn]
  refine z_iconst (v := 0) C dX2_isAsIn_0 (by decide) ?_
  refine z_istore_n C [(2, .int 0), (0, .ref (a 0)), (1, .ref (b 0))] dX2_isAsIn_1 (by decide) rfl ?_
  refine z_iconst (v := 0) C dX2_isAsIn_2 (by decide) ?_
  refine z_istore_n C [(3, .int 0), (2, .int 0), (0, .ref (a 0)), (1, .ref (b 0))] dX2_isAsIn_3 (by decide) rfl ?_
  refine z_loc C [(0, .ref (a 0)), (1, .ref (b 0)), (2, .int 0), (3, .int 0)] [2, 3, 1, 0] rfl ?_
  exact w_X2_isAsIn_4 C a b X v    FU u 0 0
