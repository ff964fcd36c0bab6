noncomputable def f_X5_stopsBy (S : (Nat → zM)) (v1 : Int32) : Option (Bool × (Nat → zM)) := zlet (va_up S 2 (zU (S 2) 0 5 v1)) fun S1 => zlet (va_up S1 2 (zU (S1 2) 0 6 ((S1 1) 0 3))) fun S2 => some (false, S2)
set_option maxHeartbeats 4000000 in
set_option maxRecDepth 100000 in
theorem ct_X5_stopsBy (l : Launch) (G : zG) (ad : Nat → Nat → Nat) (X : va_W) (S : (Nat → zM)) (v1 : Int32) : zCt l yX5_stopsBy cX5_stopsBy 2 (some .boolean) 1 G [.ref (ad 2 0), .int v1] (fun S : Nat → zM => wT3 ad G.2 S ++ X) (fun r : Bool × (Nat → zM) => some (.int (zb r.1))) (fun r => r.2) S (f_X5_stopsBy S v1) := by
  refine zCt.of (by decide) (Nat.le_of_ble_eq_true rfl) (fun p e s m args below meth c A C => ?_)
  refine y_lv (lv' := [(0, .ref (ad 2 0)), (1, .int v1)]) rfl ?_
  rw [f_X5_stopsBy]
  refine z_aload_n C 0 dX5_stopsBy_0 rfl ?_
  refine z_iload_n C 1 dX5_stopsBy_1 rfl ?_
  refine z_put C fl_RX5_29 ft_5_5 (zUpd.perm t3Out2 upd_Tl_0_5 (t3In2 _)) rfl rfl (Nat.le_of_ble_eq_true rfl) dX5_stopsBy_2 (fun S1 => ?_)
  refine z_aload_n C 0 dX5_stopsBy_5 rfl ?_
  refine z_aload_n C 0 dX5_stopsBy_6 rfl ?_
  refine z_get C fl_RX5_35 (zHas.perm t3Out2 has_Tl_0) rfl dX5_stopsBy_7 ?_
  refine z_get C fl_RX5_143 (zHas.perm t3Out1 has_Tp_0) rfl dX5_stopsBy_10 ?_
  refine z_put C fl_RX5_32 ft_5_6 (zUpd.perm t3Out2 upd_Tl_0_6 (t3In2 _)) rfl rfl (Nat.le_of_ble_eq_true rfl) dX5_stopsBy_13 (fun S2 => ?_)
  refine z_iconst (v := 0) C dX5_stopsBy_16 (by decide) ?_
  exact z_zret (b := false) C dX5_stopsBy_17 rfl rfl
noncomputable def f_X5_hasRoomFor (S : (Nat → zM)) (v1 : Int32) : Option (Bool) := if v1 = 5 then some true else if v1 = 4 then (f_X0_hasRoomForOne (S 3)).bind fun r1 => some r1 else (f_X0_hasRoomForBeetle (S 3)).bind fun r2 => some r2
set_option maxHeartbeats 4000000 in
set_option maxRecDepth 100000 in
theorem ct_X5_hasRoomFor (l : Launch) (G : zG) (ad : Nat → Nat → Nat) (X : va_W) (S : (Nat → zM)) (v1 : Int32) : zCt l yX5_hasRoomFor cX5_hasRoomFor 2 (some .boolean) 2 G [.ref (ad 2 0), .int v1] (fun S : Nat → zM => wT3 ad G.2 S ++ X) (fun r : Bool => some (.int (zb r))) (fun _ => S) S (f_X5_hasRoomFor S v1) := by
  refine zCt.of (by decide) (Nat.le_of_ble_eq_true rfl) (fun p e s m args below meth c A C => ?_)
  refine y_lv (lv' := [(0, .ref (ad 2 0)), (1, .int v1)]) rfl ?_
  rw [f_X5_hasRoomFor]
  refine z_iload_n C 1 dX5_hasRoomFor_0 rfl ?_
  refine z_iconst (v := 5) C dX5_hasRoomFor_1 (by decide) ?_
  refine z_icmpne C 7 dX5_hasRoomFor_2 (by decide) ?_ ?_
  · refine z_iconst (v := 1) C dX5_hasRoomFor_5 (by decide) ?_
    exact z_zret (b := true) C dX5_hasRoomFor_6 rfl rfl
  refine z_iload_n C 1 dX5_hasRoomFor_7 rfl ?_
  refine z_iconst (v := 4) C dX5_hasRoomFor_8 (by decide) ?_
  refine z_icmpne C 22 dX5_hasRoomFor_9 (by decide) ?_ ?_
  · refine z_aload_n C 0 dX5_hasRoomFor_12 rfl ?_
    refine z_get C fl_RX5_12 (zHas.perm t3Out2 has_Tl_0) rfl dX5_hasRoomFor_13 ?_
    refine y_callZ C (z_invV C [] [] (ct_X0_hasRoomForOne l G (ad 3) (wTp (ad 1) G.2 (S 1) ++ (wTl ad G.2 (S 2) ++ X)) (S 3) ) mi_X0_hasRoomForOne md_X0_hasRoomForOne ms_X0_hasRoomForOne ml_RX5_125 has_C_0 ⟨_, rfl, rfl⟩ (by decide) rfl rfl dX5_hasRoomFor_16 (Nat.le_of_ble_eq_true rfl)) t3Out3 (fun r1 => ?_)
    refine z_goto C 29 dX5_hasRoomFor_19 (by decide) ?_
    exact z_zret (b := r1) C dX5_hasRoomFor_29 rfl rfl
  refine z_aload_n C 0 dX5_hasRoomFor_22 rfl ?_
  refine z_get C fl_RX5_12 (zHas.perm t3Out2 has_Tl_0) rfl dX5_hasRoomFor_23 ?_
  refine y_callZ C (z_invV C [] [] (ct_X0_hasRoomForBeetle l G (ad 3) (wTp (ad 1) G.2 (S 1) ++ (wTl ad G.2 (S 2) ++ X)) (S 3) ) mi_X0_hasRoomForBeetle md_X0_hasRoomForBeetle ms_X0_hasRoomForBeetle ml_RX5_128 has_C_0 ⟨_, rfl, rfl⟩ (by decide) rfl rfl dX5_hasRoomFor_26 (Nat.le_of_ble_eq_true rfl)) t3Out3 (fun r2 => ?_)
  exact z_zret (b := r2) C dX5_hasRoomFor_29 rfl rfl
noncomputable def f_X5_isTokenOf (S : (Nat → zM)) (v1 : Int32) : Option (Bool × (Nat → zM)) := if ((S 1) 0 2) = 4 then (f_X5_stopsBy S 1).bind fun r1 => zlet r1.2 fun S2 => some (r1.1, S2) else if ((S 1) 0 2) = v1 then some (true, S) else (f_X5_stopsBy S 2).bind fun r3 => zlet r3.2 fun S4 => if r3.1 = true then some (true, S4) else some (false, S4)
set_option maxHeartbeats 4000000 in
set_option maxRecDepth 100000 in
theorem ct_X5_isTokenOf (l : Launch) (G : zG) (ad : Nat → Nat → Nat) (X : va_W) (S : (Nat → zM)) (v1 : Int32) : zCt l yX5_isTokenOf cX5_isTokenOf 2 (some .boolean) 2 G [.ref (ad 2 0), .int v1] (fun S : Nat → zM => wT3 ad G.2 S ++ X) (fun r : Bool × (Nat → zM) => some (.int (zb r.1))) (fun r => r.2) S (f_X5_isTokenOf S v1) := by
  refine zCt.of (by decide) (Nat.le_of_ble_eq_true rfl) (fun p e s m args below meth c A C => ?_)
  refine y_lv (lv' := [(0, .ref (ad 2 0)), (1, .int v1)]) rfl ?_
  rw [f_X5_isTokenOf]
  refine z_aload_n C 0 dX5_isTokenOf_0 rfl ?_
  refine z_get C fl_RX5_35 (zHas.perm t3Out2 has_Tl_0) rfl dX5_isTokenOf_1 ?_
  refine z_get C fl_RX5_50 (zHas.perm t3Out1 has_Tp_0) rfl dX5_isTokenOf_4 ?_
  refine z_iconst (v := 4) C dX5_isTokenOf_7 (by decide) ?_
  refine z_icmpne C 17 dX5_isTokenOf_8 (by decide) ?_ ?_
  · refine z_aload_n C 0 dX5_isTokenOf_11 rfl ?_
    refine z_iconst (v := 1) C dX5_isTokenOf_12 (by decide) ?_
    refine y_callZS C (z_invV C [.int 1] [] (ct_X5_stopsBy l G ad X S 1) mi_X5_stopsBy md_X5_stopsBy ms_X5_stopsBy ml_RX5_60 (zHas.perm t3Out2 has_Tl_0) ⟨_, rfl, rfl⟩ (by decide) rfl rfl dX5_isTokenOf_13 (Nat.le_of_ble_eq_true rfl)) (List.Perm.refl _) (fun _ => List.Perm.refl _) (fun r1 S2 => ?_)
    exact z_zret (b := r1.1) C dX5_isTokenOf_16 rfl rfl
  refine z_aload_n C 0 dX5_isTokenOf_17 rfl ?_
  refine z_get C fl_RX5_35 (zHas.perm t3Out2 has_Tl_0) rfl dX5_isTokenOf_18 ?_
  refine z_get C fl_RX5_50 (zHas.perm t3Out1 has_Tp_0) rfl dX5_isTokenOf_21 ?_
  refine z_iload_n C 1 dX5_isTokenOf_24 rfl ?_
  refine z_icmpeq C 36 dX5_isTokenOf_25 (by decide) ?_ ?_
  · refine z_iconst (v := 1) C dX5_isTokenOf_36 (by decide) ?_
    refine z_goto C 41 dX5_isTokenOf_37 (by decide) ?_
    exact z_zret (b := true) C dX5_isTokenOf_41 rfl rfl
  refine z_aload_n C 0 dX5_isTokenOf_28 rfl ?_
  refine z_iconst (v := 2) C dX5_isTokenOf_29 (by decide) ?_
  refine y_callZS C (z_invV C [.int 2] [] (ct_X5_stopsBy l G ad X S 2) mi_X5_stopsBy md_X5_stopsBy ms_X5_stopsBy ml_RX5_60 (zHas.perm t3Out2 has_Tl_0) ⟨_, rfl, rfl⟩ (by decide) rfl rfl dX5_isTokenOf_30 (Nat.le_of_ble_eq_true rfl)) (List.Perm.refl _) (fun _ => List.Perm.refl _) (fun r3 S4 => ?_)
  refine z_zifeq C 40 dX5_isTokenOf_33 (by decide) ?_ ?_
  · refine z_iconst (v := 1) C dX5_isTokenOf_36 (by decide) ?_
    refine z_goto C 41 dX5_isTokenOf_37 (by decide) ?_
    exact z_zret (b := true) C dX5_isTokenOf_41 rfl rfl
  refine z_iconst (v := 0) C dX5_isTokenOf_40 (by decide) ?_
  exact z_zret (b := false) C dX5_isTokenOf_41 rfl rfl
noncomputable def f_X5_ownersAreThere_2 : Nat → (Nat → zM) → Int32 → Option (Bool)
  | 0, _, _ => none
  | n + 1, S, v1 => if ((S 3) 0 1) ≤ v1 then some true else if z_in v1 6 = true then (f_X0_hasOne (S 3) ((S 3) 4 (Int32.toNatClampNeg v1))).bind fun r1 => if r1 = true then f_X5_ownersAreThere_2 n S (v1 + 1) else some false else none
set_option maxHeartbeats 4000000 in
set_option maxRecDepth 100000 in
theorem w_X5_ownersAreThere_2 {p : Program} {l : Launch} {e : Env} {s : State} {m : MethodId} {args : Array Value} {below : List Frame} {meth : Method} {c : Code} {G : zG} {A : Nat → Prop} (C : zC p s m args meth c RX5 cX5_ownersAreThere 2 (some .boolean) G A) (ad : Nat → Nat → Nat) (X : va_W) (S : (Nat → zM)) : ∀ (n : Nat) (v1 : Int32), PW p l e 2 s m args below meth c G A 2 (fun S : Nat → zM => wT3 ad G.2 S ++ X) (fun r : Bool => some (.int (zb r))) (fun _ => S) S [(0, .ref (ad 2 0)), (1, .int v1)] 2 [] (f_X5_ownersAreThere_2 n S v1) := by
  intro n
  induction n with
  | zero => intros; exact z_none
  | succ n ih =>
    intro v1
    rw [f_X5_ownersAreThere_2]
    refine z_iload_n C 1 dX5_ownersAreThere_2 rfl ?_
    refine z_aload_n C 0 dX5_ownersAreThere_3 rfl ?_
    refine z_get C fl_RX5_12 (zHas.perm t3Out2 has_Tl_0) rfl dX5_ownersAreThere_4 ?_
    refine z_get C fl_RX5_134 (zHas.perm t3Out3 has_C_0) rfl dX5_ownersAreThere_7 ?_
    refine z_icmpge C 40 dX5_ownersAreThere_10 (by decide) ?_ ?_
    · refine z_iconst (v := 1) C dX5_ownersAreThere_40 (by decide) ?_
      exact z_zret (b := true) C dX5_ownersAreThere_41 rfl rfl
    refine z_aload_n C 0 dX5_ownersAreThere_13 rfl ?_
    refine z_get C fl_RX5_12 (zHas.perm t3Out2 has_Tl_0) rfl dX5_ownersAreThere_14 ?_
    refine z_aload_n C 0 dX5_ownersAreThere_17 rfl ?_
    refine z_get C fl_RX5_12 (zHas.perm t3Out2 has_Tl_0) rfl dX5_ownersAreThere_18 ?_
    refine z_get C fl_RX5_137 (zHas.perm t3Out3 has_C_0) rfl dX5_ownersAreThere_21 ?_
    refine z_iload_n C 1 dX5_ownersAreThere_24 rfl ?_
    refine y_iald C (zHas.perm t3Out3 has_C_4) dX5_ownersAreThere_25 ?_
    refine y_callZ C (z_invV C [.int ((S 3) 4 (Int32.toNatClampNeg v1))] [] (ct_X0_hasOne l G (ad 3) (wTp (ad 1) G.2 (S 1) ++ (wTl ad G.2 (S 2) ++ X)) (S 3) ((S 3) 4 (Int32.toNatClampNeg v1))) mi_X0_hasOne md_X0_hasOne ms_X0_hasOne ml_RX5_140 has_C_0 ⟨_, rfl, rfl⟩ (by decide) rfl rfl dX5_ownersAreThere_26 (Nat.le_of_ble_eq_true rfl)) t3Out3 (fun r1 => ?_)
    refine z_zifne C 34 dX5_ownersAreThere_29 (by decide) ?_ ?_
    · refine z_iinc C (v := (v1 + 1)) 1 [(1, .int (v1 + 1)), (0, .ref (ad 2 0))] dX5_ownersAreThere_34 rfl rfl (by decide) rfl ?_
      refine z_goto C 2 dX5_ownersAreThere_37 (by decide) ?_
      refine z_loc C [(0, .ref (ad 2 0)), (1, .int (v1 + 1))] [1, 0] rfl ?_
      exact ih (v1 + 1)
    refine z_iconst (v := 0) C dX5_ownersAreThere_32 (by decide) ?_
    exact z_zret (b := false) C dX5_ownersAreThere_33 rfl rfl
noncomputable def f_X5_ownersAreThere (S : (Nat → zM)) : Option (Bool) := f_X5_ownersAreThere_2 FU S 0
set_option maxHeartbeats 4000000 in
set_option maxRecDepth 100000 in
theorem ct_X5_ownersAreThere (l : Launch) (G : zG) (ad : Nat → Nat → Nat) (X : va_W) (S : (Nat → zM)) : zCt l yX5_ownersAreThere cX5_ownersAreThere 2 (some .boolean) 2 G [.ref (ad 2 0)] (fun S : Nat → zM => wT3 ad G.2 S ++ X) (fun r : Bool => some (.int (zb r))) (fun _ => S) S (f_X5_ownersAreThere S) := by
  refine zCt.of (by decide) (Nat.le_of_ble_eq_true rfl) (fun p e s m args below meth c A C => ?_)
  refine y_lv (lv' := [(0, .ref (ad 2 0))]) rfl ?_
  rw [f_X5_ownersAreThere]
  refine z_iconst (v := 0) C dX5_ownersAreThere_0 (by decide) ?_
  refine z_istore_n C [(1, .int 0), (0, .ref (ad 2 0))] dX5_ownersAreThere_1 (by decide) rfl ?_
  refine z_loc C [(0, .ref (ad 2 0)), (1, .int 0)] [1, 0] rfl ?_
  exact w_X5_ownersAreThere_2 C ad X S   FU 0
noncomputable def f_X5_take (S : (Nat → zM)) (v1 : Int32) : Option ((Nat → zM)) := if v1 = 4 then if z_in 0 3 = true then (f_X0_addOne (S 3) ((S 2) 1 (Int32.toNatClampNeg 0))).bind fun r1 => zlet (va_up S 3 r1) fun S2 => some S2 else none else if v1 = 5 then if z_in 0 3 = true then if z_in 1 3 = true then if z_in ((S 2) 1 (Int32.toNatClampNeg 0)) 6 = true then zlet (va_up S 3 (zU (S 3) 7 (Int32.toNatClampNeg ((S 2) 1 (Int32.toNatClampNeg 0))) ((S 2) 1 (Int32.toNatClampNeg 1)))) (fun S3 => if z_in 0 3 = true then zlet (va_up S3 2 (zU (S3 2) 0 3 (((S3 2) 0 3) ||| (1 <<< ((((S3 2) 1 (Int32.toNatClampNeg 0)) : Int32) &&& 31))))) fun S4 => some S4 else none) else none else none else none else if z_in 0 3 = true then if z_in 1 3 = true then if z_in 2 3 = true then (f_X0_addBeetle (S 3) v1 ((S 2) 1 (Int32.toNatClampNeg 0)) ((S 2) 1 (Int32.toNatClampNeg 1)) ((S 2) 1 (Int32.toNatClampNeg 2))).bind fun r5 => zlet (va_up S 3 r5) fun S6 => some S6 else none else none else none
set_option maxHeartbeats 4000000 in
set_option maxRecDepth 100000 in
theorem ct_X5_take (l : Launch) (G : zG) (ad : Nat → Nat → Nat) (X : va_W) (S : (Nat → zM)) (v1 : Int32) : zCt l yX5_take cX5_take 2 none 3 G [.ref (ad 2 0), .int v1] (fun S : Nat → zM => wT3 ad G.2 S ++ X) (fun _ : (Nat → zM) => none) (fun r => r) S (f_X5_take S v1) := by
  refine zCt.of (by decide) (Nat.le_of_ble_eq_true rfl) (fun p e s m args below meth c A C => ?_)
  refine y_lv (lv' := [(0, .ref (ad 2 0)), (1, .int v1)]) rfl ?_
  rw [f_X5_take]
  refine z_iload_n C 1 dX5_take_0 rfl ?_
  refine z_iconst (v := 4) C dX5_take_1 (by decide) ?_
  refine z_icmpne C 21 dX5_take_2 (by decide) ?_ ?_
  · refine z_aload_n C 0 dX5_take_5 rfl ?_
    refine z_get C fl_RX5_12 (zHas.perm t3Out2 has_Tl_0) rfl dX5_take_6 ?_
    refine z_aload_n C 0 dX5_take_9 rfl ?_
    refine z_get C fl_RX5_18 (zHas.perm t3Out2 has_Tl_0) rfl dX5_take_10 ?_
    refine z_iconst (v := 0) C dX5_take_13 (by decide) ?_
    refine y_iald C (zHas.perm t3Out2 has_Tl_1) dX5_take_14 ?_
    refine y_callVS C (z_invV C [.int ((S 2) 1 (Int32.toNatClampNeg 0))] [] (ct_X0_addOne l G (ad 3) (wTp (ad 1) G.2 (S 1) ++ (wTl ad G.2 (S 2) ++ X)) (S 3) ((S 2) 1 (Int32.toNatClampNeg 0))) mi_X0_addOne md_X0_addOne ms_X0_addOne ml_RX5_100 has_C_0 ⟨_, rfl, rfl⟩ (by decide) rfl rfl dX5_take_15 (Nat.le_of_ble_eq_true rfl)) t3Out3 (fun _ => t3In3 _) (fun r1 S2 => ?_)
    refine z_goto C 92 dX5_take_18 (by decide) ?_
    exact z_vret C dX5_take_92 rfl rfl
  refine z_iload_n C 1 dX5_take_21 rfl ?_
  refine z_iconst (v := 5) C dX5_take_22 (by decide) ?_
  refine z_icmpne C 66 dX5_take_23 (by decide) ?_ ?_
  · refine z_aload_n C 0 dX5_take_26 rfl ?_
    refine z_get C fl_RX5_12 (zHas.perm t3Out2 has_Tl_0) rfl dX5_take_27 ?_
    refine z_get C fl_RX5_103 (zHas.perm t3Out3 has_C_0) rfl dX5_take_30 ?_
    refine z_aload_n C 0 dX5_take_33 rfl ?_
    refine z_get C fl_RX5_18 (zHas.perm t3Out2 has_Tl_0) rfl dX5_take_34 ?_
    refine z_iconst (v := 0) C dX5_take_37 (by decide) ?_
    refine y_iald C (zHas.perm t3Out2 has_Tl_1) dX5_take_38 ?_
    refine z_aload_n C 0 dX5_take_39 rfl ?_
    refine z_get C fl_RX5_18 (zHas.perm t3Out2 has_Tl_0) rfl dX5_take_40 ?_
    refine z_iconst (v := 1) C dX5_take_43 (by decide) ?_
    refine y_iald C (zHas.perm t3Out2 has_Tl_1) dX5_take_44 ?_
    refine y_iast C (zUpd.perm t3Out3 upd_C_7 (t3In3 _)) dX5_take_45 (fun S3 => ?_)
    refine z_aload_n C 0 dX5_take_46 rfl ?_
    refine z_dup C dX5_take_47 rfl ?_
    refine z_get C fl_RX5_22 (zHas.perm t3Out2 has_Tl_0) rfl dX5_take_48 ?_
    refine z_iconst (v := 1) C dX5_take_51 (by decide) ?_
    refine z_aload_n C 0 dX5_take_52 rfl ?_
    refine z_get C fl_RX5_18 (zHas.perm t3Out2 has_Tl_0) rfl dX5_take_53 ?_
    refine z_iconst (v := 0) C dX5_take_56 (by decide) ?_
    refine y_iald C (zHas.perm t3Out2 has_Tl_1) dX5_take_57 ?_
    refine z_ishl C dX5_take_58 ?_
    refine z_ior C dX5_take_59 ?_
    refine z_put C fl_RX5_22 ft_5_3 (zUpd.perm t3Out2 upd_Tl_0_3 (t3In2 _)) rfl rfl (Nat.le_of_ble_eq_true rfl) dX5_take_60 (fun S4 => ?_)
    refine z_goto C 92 dX5_take_63 (by decide) ?_
    exact z_vret C dX5_take_92 rfl rfl
  refine z_aload_n C 0 dX5_take_66 rfl ?_
  refine z_get C fl_RX5_12 (zHas.perm t3Out2 has_Tl_0) rfl dX5_take_67 ?_
  refine z_iload_n C 1 dX5_take_70 rfl ?_
  refine z_aload_n C 0 dX5_take_71 rfl ?_
  refine z_get C fl_RX5_18 (zHas.perm t3Out2 has_Tl_0) rfl dX5_take_72 ?_
  refine z_iconst (v := 0) C dX5_take_75 (by decide) ?_
  refine y_iald C (zHas.perm t3Out2 has_Tl_1) dX5_take_76 ?_
  refine z_aload_n C 0 dX5_take_77 rfl ?_
  refine z_get C fl_RX5_18 (zHas.perm t3Out2 has_Tl_0) rfl dX5_take_78 ?_
  refine z_iconst (v := 1) C dX5_take_81 (by decide) ?_
  refine y_iald C (zHas.perm t3Out2 has_Tl_1) dX5_take_82 ?_
  refine z_aload_n C 0 dX5_take_83 rfl ?_
  refine z_get C fl_RX5_18 (zHas.perm t3Out2 has_Tl_0) rfl dX5_take_84 ?_
  refine z_iconst (v := 2) C dX5_take_87 (by decide) ?_
  refine y_iald C (zHas.perm t3Out2 has_Tl_1) dX5_take_88 ?_
  refine y_callVS C (z_invV C [.int v1, .int ((S 2) 1 (Int32.toNatClampNeg 0)), .int ((S 2) 1 (Int32.toNatClampNeg 1)), .int ((S 2) 1 (Int32.toNatClampNeg 2))] [] (ct_X0_addBeetle l G (ad 3) (wTp (ad 1) G.2 (S 1) ++ (wTl ad G.2 (S 2) ++ X)) (S 3) v1 ((S 2) 1 (Int32.toNatClampNeg 0)) ((S 2) 1 (Int32.toNatClampNeg 1)) ((S 2) 1 (Int32.toNatClampNeg 2))) mi_X0_addBeetle md_X0_addBeetle ms_X0_addBeetle ml_RX5_106 has_C_0 ⟨_, rfl, rfl⟩ (by decide) rfl rfl dX5_take_89 (Nat.le_of_ble_eq_true rfl)) t3Out3 (fun _ => t3In3 _) (fun r5 S6 => ?_)
  exact z_vret C dX5_take_92 rfl rfl
noncomputable def f_X5_takeNumber (S : (Nat → zM)) (v1 : Int32) (v2 : Int32) : Option (Bool × (Nat → zM)) := (f_X4_readToken (S 1)).bind fun r1 => zlet (va_up S 1 r1) fun S2 => (f_X5_isTokenOf S2 2).bind fun r3 => zlet r3.2 fun S4 => if r3.1 = true then (f_X5_leastOf v1 v2).bind fun r5 => (f_X5_mostOf v1 v2).bind fun r6 => (f_X6_isWithin ((S4 1) 0 5) r5 r6).bind fun r7 => if r7 = true then if v1 = 5 then if v2 = 0 then if ((((S4 2) 0 3) >>> ((((S4 1) 0 5) : Int32) &&& 31)) &&& 1) = 1 then (f_X5_stopsBy S4 4).bind fun r8 => zlet r8.2 fun S9 => some (r8.1, S9) else if z_in v2 3 = true then zlet (va_up S4 2 (zU (S4 2) 1 (Int32.toNatClampNeg v2) ((S4 1) 0 5))) (fun S10 => some (true, S10)) else none else if z_in v2 3 = true then zlet (va_up S4 2 (zU (S4 2) 1 (Int32.toNatClampNeg v2) ((S4 1) 0 5))) (fun S11 => some (true, S11)) else none else if z_in v2 3 = true then zlet (va_up S4 2 (zU (S4 2) 1 (Int32.toNatClampNeg v2) ((S4 1) 0 5))) (fun S12 => some (true, S12)) else none else (f_X5_stopsBy S4 3).bind fun r13 => zlet r13.2 fun S14 => some (r13.1, S14) else some (false, S4)
set_option maxHeartbeats 4000000 in
set_option maxRecDepth 100000 in
theorem ct_X5_takeNumber (l : Launch) (G : zG) (ad : Nat → Nat → Nat) (X : va_W) (S : (Nat → zM)) (v1 : Int32) (v2 : Int32) : zCt l yX5_takeNumber cX5_takeNumber 3 (some .boolean) 4 G [.ref (ad 2 0), .int v1, .int v2] (fun S : Nat → zM => wT3 ad G.2 S ++ X) (fun r : Bool × (Nat → zM) => some (.int (zb r.1))) (fun r => r.2) S (f_X5_takeNumber S v1 v2) := by
  refine zCt.of (by decide) (Nat.le_of_ble_eq_true rfl) (fun p e s m args below meth c A C => ?_)
  refine y_lv (lv' := [(0, .ref (ad 2 0)), (1, .int v1), (2, .int v2)]) rfl ?_
  rw [f_X5_takeNumber]
  refine z_aload_n C 0 dX5_takeNumber_0 rfl ?_
  refine z_get C fl_RX5_35 (zHas.perm t3Out2 has_Tl_0) rfl dX5_takeNumber_1 ?_
  refine y_callVS C (z_invV C [] [] (ct_X4_readToken l G (ad 1) (wTl ad G.2 (S 2) ++ (wC (ad 3) G.2 (S 3) ++ X)) (S 1) ) mi_X4_readToken md_X4_readToken ms_X4_readToken ml_RX5_47 has_Tp_0 ⟨_, rfl, rfl⟩ (by decide) rfl rfl dX5_takeNumber_4 (Nat.le_of_ble_eq_true rfl)) t3Out1 (fun _ => t3In1 _) (fun r1 S2 => ?_)
  refine z_aload_n C 0 dX5_takeNumber_7 rfl ?_
  refine z_iconst (v := 2) C dX5_takeNumber_8 (by decide) ?_
  refine y_callZS C (z_invV C [.int 2] [] (ct_X5_isTokenOf l G ad X S2 2) mi_X5_isTokenOf md_X5_isTokenOf ms_X5_isTokenOf ml_RX5_64 (zHas.perm t3Out2 has_Tl_0) ⟨_, rfl, rfl⟩ (by decide) rfl rfl dX5_takeNumber_9 (Nat.le_of_ble_eq_true rfl)) (List.Perm.refl _) (fun _ => List.Perm.refl _) (fun r3 S4 => ?_)
  refine z_zifne C 17 dX5_takeNumber_12 (by decide) ?_ ?_
  · refine z_aload_n C 0 dX5_takeNumber_17 rfl ?_
    refine z_get C fl_RX5_35 (zHas.perm t3Out2 has_Tl_0) rfl dX5_takeNumber_18 ?_
    refine z_get C fl_RX5_86 (zHas.perm t3Out1 has_Tp_0) rfl dX5_takeNumber_21 ?_
    refine z_iload_n C 1 dX5_takeNumber_24 rfl ?_
    refine z_iload_n C 2 dX5_takeNumber_25 rfl ?_
    refine y_callI C (z_invS C [.int v1, .int v2] [.int ((S4 1) 0 5)] (ct_X5_leastOf l G ((fun S : Nat → zM => wT3 ad G.2 S ++ X) S4) v1 v2) mi_X5_leastOf mt_X5_leastOf ml_RX5_89 (by decide) rfl rfl dX5_takeNumber_26 (Nat.le_of_ble_eq_true rfl)) (List.Perm.refl _) (fun r5 => ?_)
    refine z_iload_n C 1 dX5_takeNumber_29 rfl ?_
    refine z_iload_n C 2 dX5_takeNumber_30 rfl ?_
    refine y_callI C (z_invS C [.int v1, .int v2] [.int r5, .int ((S4 1) 0 5)] (ct_X5_mostOf l G ((fun S : Nat → zM => wT3 ad G.2 S ++ X) S4) v1 v2) mi_X5_mostOf mt_X5_mostOf ml_RX5_93 (by decide) rfl rfl dX5_takeNumber_31 (Nat.le_of_ble_eq_true rfl)) (List.Perm.refl _) (fun r6 => ?_)
    refine y_callZ C (z_invS C [.int ((S4 1) 0 5), .int r5, .int r6] [] (ct_X6_isWithin l G ((fun S : Nat → zM => wT3 ad G.2 S ++ X) S4) ((S4 1) 0 5) r5 r6) mi_X6_isWithin mt_X6_isWithin ml_RX5_96 (by decide) rfl rfl dX5_takeNumber_34 (Nat.le_of_ble_eq_true rfl)) (List.Perm.refl _) (fun r7 => ?_)
    refine z_zifne C 46 dX5_takeNumber_37 (by decide) ?_ ?_
    · refine z_iload_n C 1 dX5_takeNumber_46 rfl ?_
      refine z_iconst (v := 5) C dX5_takeNumber_47 (by decide) ?_
      refine z_icmpne C 79 dX5_takeNumber_48 (by decide) ?_ ?_
      · refine z_iload_n C 2 dX5_takeNumber_51 rfl ?_
        refine z_ifne C 79 dX5_takeNumber_52 (by decide) ?_ ?_
        · refine z_aload_n C 0 dX5_takeNumber_55 rfl ?_
          refine z_get C fl_RX5_22 (zHas.perm t3Out2 has_Tl_0) rfl dX5_takeNumber_56 ?_
          refine z_aload_n C 0 dX5_takeNumber_59 rfl ?_
          refine z_get C fl_RX5_35 (zHas.perm t3Out2 has_Tl_0) rfl dX5_takeNumber_60 ?_
          refine z_get C fl_RX5_86 (zHas.perm t3Out1 has_Tp_0) rfl dX5_takeNumber_63 ?_
          refine z_ishr C dX5_takeNumber_66 ?_
          refine z_iconst (v := 1) C dX5_takeNumber_67 (by decide) ?_
          refine z_iand C dX5_takeNumber_68 ?_
          refine z_iconst (v := 1) C dX5_takeNumber_69 (by decide) ?_
          refine z_icmpne C 79 dX5_takeNumber_70 (by decide) ?_ ?_
          · refine z_aload_n C 0 dX5_takeNumber_73 rfl ?_
            refine z_iconst (v := 4) C dX5_takeNumber_74 (by decide) ?_
            refine y_callZS C (z_invV C [.int 4] [] (ct_X5_stopsBy l G ad X S4 4) mi_X5_stopsBy md_X5_stopsBy ms_X5_stopsBy ml_RX5_60 (zHas.perm t3Out2 has_Tl_0) ⟨_, rfl, rfl⟩ (by decide) rfl rfl dX5_takeNumber_75 (Nat.le_of_ble_eq_true rfl)) (List.Perm.refl _) (fun _ => List.Perm.refl _) (fun r8 S9 => ?_)
            exact z_zret (b := r8.1) C dX5_takeNumber_78 rfl rfl
          refine z_aload_n C 0 dX5_takeNumber_79 rfl ?_
          refine z_get C fl_RX5_18 (zHas.perm t3Out2 has_Tl_0) rfl dX5_takeNumber_80 ?_
          refine z_iload_n C 2 dX5_takeNumber_83 rfl ?_
          refine z_aload_n C 0 dX5_takeNumber_84 rfl ?_
          refine z_get C fl_RX5_35 (zHas.perm t3Out2 has_Tl_0) rfl dX5_takeNumber_85 ?_
          refine z_get C fl_RX5_86 (zHas.perm t3Out1 has_Tp_0) rfl dX5_takeNumber_88 ?_
          refine y_iast C (zUpd.perm t3Out2 upd_Tl_1 (t3In2 _)) dX5_takeNumber_91 (fun S10 => ?_)
          refine z_iconst (v := 1) C dX5_takeNumber_92 (by decide) ?_
          exact z_zret (b := true) C dX5_takeNumber_93 rfl rfl
        refine z_aload_n C 0 dX5_takeNumber_79 rfl ?_
        refine z_get C fl_RX5_18 (zHas.perm t3Out2 has_Tl_0) rfl dX5_takeNumber_80 ?_
        refine z_iload_n C 2 dX5_takeNumber_83 rfl ?_
        refine z_aload_n C 0 dX5_takeNumber_84 rfl ?_
        refine z_get C fl_RX5_35 (zHas.perm t3Out2 has_Tl_0) rfl dX5_takeNumber_85 ?_
        refine z_get C fl_RX5_86 (zHas.perm t3Out1 has_Tp_0) rfl dX5_takeNumber_88 ?_
        refine y_iast C (zUpd.perm t3Out2 upd_Tl_1 (t3In2 _)) dX5_takeNumber_91 (fun S11 => ?_)
        refine z_iconst (v := 1) C dX5_takeNumber_92 (by decide) ?_
        exact z_zret (b := true) C dX5_takeNumber_93 rfl rfl
      refine z_aload_n C 0 dX5_takeNumber_79 rfl ?_
      refine z_get C fl_RX5_18 (zHas.perm t3Out2 has_Tl_0) rfl dX5_takeNumber_80 ?_
      refine z_iload_n C 2 dX5_takeNumber_83 rfl ?_
      refine z_aload_n C 0 dX5_takeNumber_84 rfl ?_
      refine z_get C fl_RX5_35 (zHas.perm t3Out2 has_Tl_0) rfl dX5_takeNumber_85 ?_
      refine z_get C fl_RX5_86 (zHas.perm t3Out1 has_Tp_0) rfl dX5_takeNumber_88 ?_
      refine y_iast C (zUpd.perm t3Out2 upd_Tl_1 (t3In2 _)) dX5_takeNumber_91 (fun S12 => ?_)
      refine z_iconst (v := 1) C dX5_takeNumber_92 (by decide) ?_
      exact z_zret (b := true) C dX5_takeNumber_93 rfl rfl
    refine z_aload_n C 0 dX5_takeNumber_40 rfl ?_
    refine z_iconst (v := 3) C dX5_takeNumber_41 (by decide) ?_
    refine y_callZS C (z_invV C [.int 3] [] (ct_X5_stopsBy l G ad X S4 3) mi_X5_stopsBy md_X5_stopsBy ms_X5_stopsBy ml_RX5_60 (zHas.perm t3Out2 has_Tl_0) ⟨_, rfl, rfl⟩ (by decide) rfl rfl dX5_takeNumber_42 (Nat.le_of_ble_eq_true rfl)) (List.Perm.refl _) (fun _ => List.Perm.refl _) (fun r13 S14 => ?_)
    exact z_zret (b := r13.1) C dX5_takeNumber_45 rfl rfl
  refine z_iconst (v := 0) C dX5_takeNumber_15 (by decide) ?_
  exact z_zret (b := false) C dX5_takeNumber_16 rfl rfl
noncomputable def f_X5_takeLine_43 : Nat → (Nat → zM) → Int32 → Int32 → Option (Bool × (Nat → zM))
  | 0, _, _, _ => none
  | n + 1, S, v1, v2 => (f_X5_numbersOf v1).bind fun r7 => if r7 ≤ v2 then (f_X4_readToken (S 1)).bind fun r8 => zlet (va_up S 1 r8) fun S9 => (f_X5_isTokenOf S9 3).bind fun r10 => zlet r10.2 fun S11 => if r10.1 = true then (f_X5_take S11 v1).bind fun r12 => zlet r12 fun S13 => some (true, S13) else some (false, S11) else (f_X5_takeNumber S v1 v2).bind fun r14 => zlet r14.2 fun S15 => if r14.1 = true then f_X5_takeLine_43 n S15 v1 (v2 + 1) else some (false, S15)
set_option maxHeartbeats 4000000 in
set_option maxRecDepth 100000 in
theorem w_X5_takeLine_43 {p : Program} {l : Launch} {e : Env} {s : State} {m : MethodId} {args : Array Value} {below : List Frame} {meth : Method} {c : Code} {G : zG} {A : Nat → Prop} (C : zC p s m args meth c RX5 cX5_takeLine 3 (some .boolean) G A) (ad : Nat → Nat → Nat) (X : va_W) : ∀ (n : Nat) (S : (Nat → zM)) (v1 : Int32) (v2 : Int32), PW p l e 7 s m args below meth c G A 3 (fun S : Nat → zM => wT3 ad G.2 S ++ X) (fun r : Bool × (Nat → zM) => some (.int (zb r.1))) (fun r => r.2) S [(0, .ref (ad 2 0)), (1, .int v1), (2, .int v2)] 43 [] (f_X5_takeLine_43 n S v1 v2) := by
  intro n
  induction n with
  | zero => intros; exact z_none
  | succ n ih =>
    intro S v1 v2
    rw [f_X5_takeLine_43]
    refine z_iload_n C 2 dX5_takeLine_43 rfl ?_
    refine z_iload_n C 1 dX5_takeLine_44 rfl ?_
    refine y_callI C (z_invS C [.int v1] [.int v2] (ct_X5_numbersOf l G ((fun S : Nat → zM => wT3 ad G.2 S ++ X) S) v1) mi_X5_numbersOf mt_X5_numbersOf ml_RX5_74 (by decide) rfl rfl dX5_takeLine_45 (Nat.le_of_ble_eq_true rfl)) (List.Perm.refl _) (fun r7 => ?_)
    refine z_icmpge C 68 dX5_takeLine_48 (by decide) ?_ ?_
    · refine z_aload_n C 0 dX5_takeLine_68 rfl ?_
      refine z_get C fl_RX5_35 (zHas.perm t3Out2 has_Tl_0) rfl dX5_takeLine_69 ?_
      refine y_callVS C (z_invV C [] [] (ct_X4_readToken l G (ad 1) (wTl ad G.2 (S 2) ++ (wC (ad 3) G.2 (S 3) ++ X)) (S 1) ) mi_X4_readToken md_X4_readToken ms_X4_readToken ml_RX5_47 has_Tp_0 ⟨_, rfl, rfl⟩ (by decide) rfl rfl dX5_takeLine_72 (Nat.le_of_ble_eq_true rfl)) t3Out1 (fun _ => t3In1 _) (fun r8 S9 => ?_)
      refine z_aload_n C 0 dX5_takeLine_75 rfl ?_
      refine z_iconst (v := 3) C dX5_takeLine_76 (by decide) ?_
      refine y_callZS C (z_invV C [.int 3] [] (ct_X5_isTokenOf l G ad X S9 3) mi_X5_isTokenOf md_X5_isTokenOf ms_X5_isTokenOf ml_RX5_64 (zHas.perm t3Out2 has_Tl_0) ⟨_, rfl, rfl⟩ (by decide) rfl rfl dX5_takeLine_77 (Nat.le_of_ble_eq_true rfl)) (List.Perm.refl _) (fun _ => List.Perm.refl _) (fun r10 S11 => ?_)
      refine z_zifne C 85 dX5_takeLine_80 (by decide) ?_ ?_
      · refine z_aload_n C 0 dX5_takeLine_85 rfl ?_
        refine z_iload_n C 1 dX5_takeLine_86 rfl ?_
        refine y_callVS C (z_invV C [.int v1] [] (ct_X5_take l G ad X S11 v1) mi_X5_take md_X5_take ms_X5_take ml_RX5_82 (zHas.perm t3Out2 has_Tl_0) ⟨_, rfl, rfl⟩ (by decide) rfl rfl dX5_takeLine_87 (Nat.le_of_ble_eq_true rfl)) (List.Perm.refl _) (fun _ => List.Perm.refl _) (fun r12 S13 => ?_)
        refine z_iconst (v := 1) C dX5_takeLine_90 (by decide) ?_
        exact z_zret (b := true) C dX5_takeLine_91 rfl rfl
      refine z_iconst (v := 0) C dX5_takeLine_83 (by decide) ?_
      exact z_zret (b := false) C dX5_takeLine_84 rfl rfl
    refine z_aload_n C 0 dX5_takeLine_51 rfl ?_
    refine z_iload_n C 1 dX5_takeLine_52 rfl ?_
    refine z_iload_n C 2 dX5_takeLine_53 rfl ?_
    refine y_callZS C (z_invV C [.int v1, .int v2] [] (ct_X5_takeNumber l G ad X S v1 v2) mi_X5_takeNumber md_X5_takeNumber ms_X5_takeNumber ml_RX5_78 (zHas.perm t3Out2 has_Tl_0) ⟨_, rfl, rfl⟩ (by decide) rfl rfl dX5_takeLine_54 (Nat.le_of_ble_eq_true rfl)) (List.Perm.refl _) (fun _ => List.Perm.refl _) (fun r14 S15 => ?_)
    refine z_zifne C 62 dX5_takeLine_57 (by decide) ?_ ?_
    · refine z_iinc C (v := (v2 + 1)) 2 [(2, .int (v2 + 1)), (0, .ref (ad 2 0)), (1, .int v1)] dX5_takeLine_62 rfl rfl (by decide) rfl ?_
      refine z_goto C 43 dX5_takeLine_65 (by decide) ?_
      refine z_loc C [(0, .ref (ad 2 0)), (1, .int v1), (2, .int (v2 + 1))] [1, 2, 0] rfl ?_
      exact ih S15 v1 (v2 + 1)
    refine z_iconst (v := 0) C dX5_takeLine_60 (by decide) ?_
    exact z_zret (b := false) C dX5_takeLine_61 rfl rfl
noncomputable def f_X5_takeLine (S : (Nat → zM)) : Option (Bool × (Nat → zM)) := (f_X5_isTokenOf S 1).bind fun r1 => zlet r1.2 fun S2 => if r1.1 = true then (f_X5_lineNamed S2).bind fun r3 => if r3 = 6 then (f_X5_stopsBy S2 2).bind fun r4 => zlet r4.2 fun S5 => some (r4.1, S5) else (f_X5_hasRoomFor S2 r3).bind fun r6 => if r6 = true then f_X5_takeLine_43 FU S2 r3 0 else (f_X5_stopsBy S2 5).bind fun r16 => zlet r16.2 fun S17 => some (r16.1, S17) else some (false, S2)
set_option maxHeartbeats 4000000 in
set_option maxRecDepth 100000 in
theorem ct_X5_takeLine (l : Launch) (G : zG) (ad : Nat → Nat → Nat) (X : va_W) (S : (Nat → zM)) : zCt l yX5_takeLine cX5_takeLine 3 (some .boolean) 7 G [.ref (ad 2 0)] (fun S : Nat → zM => wT3 ad G.2 S ++ X) (fun r : Bool × (Nat → zM) => some (.int (zb r.1))) (fun r => r.2) S (f_X5_takeLine S) := by
  refine zCt.of (by decide) (Nat.le_of_ble_eq_true rfl) (fun p e s m args below meth c A C => ?_)
  refine y_lv (lv' := [(0, .ref (ad 2 0))]) rfl ?_
  rw [f_X5_takeLine]
  refine z_aload_n C 0 dX5_takeLine_0 rfl ?_
  refine z_iconst (v := 1) C dX5_takeLine_1 (by decide) ?_
  refine y_callZS C (z_invV C [.int 1] [] (ct_X5_isTokenOf l G ad X S 1) mi_X5_isTokenOf md_X5_isTokenOf ms_X5_isTokenOf ml_RX5_64 (zHas.perm t3Out2 has_Tl_0) ⟨_, rfl, rfl⟩ (by decide) rfl rfl dX5_takeLine_2 (Nat.le_of_ble_eq_true rfl)) (List.Perm.refl _) (fun _ => List.Perm.refl _) (fun r1 S2 => ?_)
  refine z_zifne C 10 dX5_takeLine_5 (by decide) ?_ ?_
  · refine z_aload_n C 0 dX5_takeLine_10 rfl ?_
    refine y_callI C (z_invV C [] [] (ct_X5_lineNamed l G ad X S2 ) mi_X5_lineNamed md_X5_lineNamed ms_X5_lineNamed ml_RX5_67 (zHas.perm t3Out2 has_Tl_0) ⟨_, rfl, rfl⟩ (by decide) rfl rfl dX5_takeLine_11 (Nat.le_of_ble_eq_true rfl)) (List.Perm.refl _) (fun r3 => ?_)
    refine z_istore_n C [(1, .int r3), (0, .ref (ad 2 0))] dX5_takeLine_14 (by decide) rfl ?_
    refine z_iload_n C 0 dX5_takeLine_15 rfl ?_
    refine z_bipush (v := 6) C dX5_takeLine_16 (by decide) ?_
    refine z_icmpne C 27 dX5_takeLine_18 (by decide) ?_ ?_
    · refine z_aload_n C 1 dX5_takeLine_21 rfl ?_
      refine z_iconst (v := 2) C dX5_takeLine_22 (by decide) ?_
      refine y_callZS C (z_invV C [.int 2] [] (ct_X5_stopsBy l G ad X S2 2) mi_X5_stopsBy md_X5_stopsBy ms_X5_stopsBy ml_RX5_60 (zHas.perm t3Out2 has_Tl_0) ⟨_, rfl, rfl⟩ (by decide) rfl rfl dX5_takeLine_23 (Nat.le_of_ble_eq_true rfl)) (List.Perm.refl _) (fun _ => List.Perm.refl _) (fun r4 S5 => ?_)
      exact z_zret (b := r4.1) C dX5_takeLine_26 rfl rfl
    refine z_aload_n C 1 dX5_takeLine_27 rfl ?_
    refine z_iload_n C 0 dX5_takeLine_28 rfl ?_
    refine y_callZ C (z_invV C [.int r3] [] (ct_X5_hasRoomFor l G ad X S2 r3) mi_X5_hasRoomFor md_X5_hasRoomFor ms_X5_hasRoomFor ml_RX5_71 (zHas.perm t3Out2 has_Tl_0) ⟨_, rfl, rfl⟩ (by decide) rfl rfl dX5_takeLine_29 (Nat.le_of_ble_eq_true rfl)) (List.Perm.refl _) (fun r6 => ?_)
    refine z_zifne C 41 dX5_takeLine_32 (by decide) ?_ ?_
    · refine z_iconst (v := 0) C dX5_takeLine_41 (by decide) ?_
      refine z_istore_n C [(2, .int 0), (1, .int r3), (0, .ref (ad 2 0))] dX5_takeLine_42 (by decide) rfl ?_
      refine z_loc C [(0, .ref (ad 2 0)), (1, .int r3), (2, .int 0)] [2, 1, 0] rfl ?_
      exact w_X5_takeLine_43 C ad X    FU S2 r3 0
    refine z_aload_n C 1 dX5_takeLine_35 rfl ?_
    refine z_iconst (v := 5) C dX5_takeLine_36 (by decide) ?_
    refine y_callZS C (z_invV C [.int 5] [] (ct_X5_stopsBy l G ad X S2 5) mi_X5_stopsBy md_X5_stopsBy ms_X5_stopsBy ml_RX5_60 (zHas.perm t3Out2 has_Tl_0) ⟨_, rfl, rfl⟩ (by decide) rfl rfl dX5_takeLine_37 (Nat.le_of_ble_eq_true rfl)) (List.Perm.refl _) (fun _ => List.Perm.refl _) (fun r16 S17 => ?_)
    exact z_zret (b := r16.1) C dX5_takeLine_40 rfl rfl
  refine z_iconst (v := 0) C dX5_takeLine_8 (by decide) ?_
  exact z_zret (b := false) C dX5_takeLine_9 rfl rfl
noncomputable def f_X5_takeText_87 (S : (Nat → zM)) : Option (Bool × (Nat → zM)) := (f_X5_ownersAreThere S).bind fun r10 => if r10 = true then some (true, S) else (f_X5_stopsBy S 6).bind fun r11 => zlet r11.2 fun S12 => if r11.1 = true then some (true, S12) else some (false, S12)
set_option maxHeartbeats 4000000 in
set_option maxRecDepth 100000 in
theorem w_X5_takeText_87 {p : Program} {l : Launch} {e : Env} {s : State} {m : MethodId} {args : Array Value} {below : List Frame} {meth : Method} {c : Code} {G : zG} {A : Nat → Prop} (C : zC p s m args meth c RX5 cX5_takeText 2 (some .boolean) G A) (ad : Nat → Nat → Nat) (X : va_W) : ∀ (S : (Nat → zM)), PW p l e 8 s m args below meth c G A 2 (fun S : Nat → zM => wT3 ad G.2 S ++ X) (fun r : Bool × (Nat → zM) => some (.int (zb r.1))) (fun r => r.2) S [(0, .ref (ad 2 0))] 87 [] (f_X5_takeText_87 S) := by
  intro S
  rw [f_X5_takeText_87]
  refine z_aload_n C 0 dX5_takeText_87 rfl ?_
  refine y_callZ C (z_invV C [] [] (ct_X5_ownersAreThere l G ad X S ) mi_X5_ownersAreThere md_X5_ownersAreThere ms_X5_ownersAreThere ml_RX5_57 (zHas.perm t3Out2 has_Tl_0) ⟨_, rfl, rfl⟩ (by decide) rfl rfl dX5_takeText_88 (Nat.le_of_ble_eq_true rfl)) (List.Perm.refl _) (fun r10 => ?_)
  refine z_zifne C 103 dX5_takeText_91 (by decide) ?_ ?_
  · refine z_iconst (v := 1) C dX5_takeText_103 (by decide) ?_
    refine z_goto C 108 dX5_takeText_104 (by decide) ?_
    exact z_zret (b := true) C dX5_takeText_108 rfl rfl
  refine z_aload_n C 0 dX5_takeText_94 rfl ?_
  refine z_bipush (v := 6) C dX5_takeText_95 (by decide) ?_
  refine y_callZS C (z_invV C [.int 6] [] (ct_X5_stopsBy l G ad X S 6) mi_X5_stopsBy md_X5_stopsBy ms_X5_stopsBy ml_RX5_60 (zHas.perm t3Out2 has_Tl_0) ⟨_, rfl, rfl⟩ (by decide) rfl rfl dX5_takeText_97 (Nat.le_of_ble_eq_true rfl)) (List.Perm.refl _) (fun _ => List.Perm.refl _) (fun r11 S12 => ?_)
  refine z_zifeq C 107 dX5_takeText_100 (by decide) ?_ ?_
  · refine z_iconst (v := 1) C dX5_takeText_103 (by decide) ?_
    refine z_goto C 108 dX5_takeText_104 (by decide) ?_
    exact z_zret (b := true) C dX5_takeText_108 rfl rfl
  refine z_iconst (v := 0) C dX5_takeText_107 (by decide) ?_
  exact z_zret (b := false) C dX5_takeText_108 rfl rfl
noncomputable def f_X5_takeText_38 : Nat → (Nat → zM) → Int32 → Option (Bool × (Nat → zM))
  | 0, _, _ => none
  | n + 1, S, v1 => if 160 ≤ v1 then f_X5_takeText_87  S else if ((S 1) 0 2) = 0 then f_X5_takeText_87  S else (f_X5_takeLine S).bind fun r13 => zlet r13.2 fun S14 => if r13.1 = true then zlet (va_up S14 2 (zU (S14 2) 0 4 (((S14 2) 0 4) + 1))) fun S15 => (f_X4_readToken (S15 1)).bind fun r16 => zlet (va_up S15 1 r16) fun S17 => f_X5_takeText_38 n S17 (v1 + 1) else some (false, S14)
set_option maxHeartbeats 4000000 in
set_option maxRecDepth 100000 in
theorem w_X5_takeText_38 {p : Program} {l : Launch} {e : Env} {s : State} {m : MethodId} {args : Array Value} {below : List Frame} {meth : Method} {c : Code} {G : zG} {A : Nat → Prop} (C : zC p s m args meth c RX5 cX5_takeText 2 (some .boolean) G A) (ad : Nat → Nat → Nat) (X : va_W) : ∀ (n : Nat) (S : (Nat → zM)) (v1 : Int32), PW p l e 8 s m args below meth c G A 2 (fun S : Nat → zM => wT3 ad G.2 S ++ X) (fun r : Bool × (Nat → zM) => some (.int (zb r.1))) (fun r => r.2) S [(0, .ref (ad 2 0)), (1, .int v1)] 38 [] (f_X5_takeText_38 n S v1) := by
  intro n
  induction n with
  | zero => intros; exact z_none
  | succ n ih =>
    intro S v1
    rw [f_X5_takeText_38]
    refine z_iload_n C 1 dX5_takeText_38 rfl ?_
    refine z_sipush (v := 160) C dX5_takeText_39 (by decide) ?_
    refine z_icmpge C 87 dX5_takeText_42 (by decide) ?_ ?_
    · refine z_loc C [(0, .ref (ad 2 0))] [0] rfl ?_
      exact w_X5_takeText_87 C ad X     S
    refine z_aload_n C 0 dX5_takeText_45 rfl ?_
    refine z_get C fl_RX5_35 (zHas.perm t3Out2 has_Tl_0) rfl dX5_takeText_46 ?_
    refine z_get C fl_RX5_50 (zHas.perm t3Out1 has_Tp_0) rfl dX5_takeText_49 ?_
    refine z_ifeq C 87 dX5_takeText_52 (by decide) ?_ ?_
    · refine z_loc C [(0, .ref (ad 2 0))] [0] rfl ?_
      exact w_X5_takeText_87 C ad X     S
    refine z_aload_n C 0 dX5_takeText_55 rfl ?_
    refine y_callZS C (z_invV C [] [] (ct_X5_takeLine l G ad X S ) mi_X5_takeLine md_X5_takeLine ms_X5_takeLine ml_RX5_53 (zHas.perm t3Out2 has_Tl_0) ⟨_, rfl, rfl⟩ (by decide) rfl rfl dX5_takeText_56 (Nat.le_of_ble_eq_true rfl)) (List.Perm.refl _) (fun _ => List.Perm.refl _) (fun r13 S14 => ?_)
    refine z_zifne C 64 dX5_takeText_59 (by decide) ?_ ?_
    · refine z_aload_n C 0 dX5_takeText_64 rfl ?_
      refine z_dup C dX5_takeText_65 rfl ?_
      refine z_get C fl_RX5_26 (zHas.perm t3Out2 has_Tl_0) rfl dX5_takeText_66 ?_
      refine z_iconst (v := 1) C dX5_takeText_69 (by decide) ?_
      refine z_iadd C dX5_takeText_70 ?_
      refine z_put C fl_RX5_26 ft_5_4 (zUpd.perm t3Out2 upd_Tl_0_4 (t3In2 _)) rfl rfl (Nat.le_of_ble_eq_true rfl) dX5_takeText_71 (fun S15 => ?_)
      refine z_aload_n C 0 dX5_takeText_74 rfl ?_
      refine z_get C fl_RX5_35 (zHas.perm t3Out2 has_Tl_0) rfl dX5_takeText_75 ?_
      refine y_callVS C (z_invV C [] [] (ct_X4_readToken l G (ad 1) (wTl ad G.2 (S15 2) ++ (wC (ad 3) G.2 (S15 3) ++ X)) (S15 1) ) mi_X4_readToken md_X4_readToken ms_X4_readToken ml_RX5_47 has_Tp_0 ⟨_, rfl, rfl⟩ (by decide) rfl rfl dX5_takeText_78 (Nat.le_of_ble_eq_true rfl)) t3Out1 (fun _ => t3In1 _) (fun r16 S17 => ?_)
      refine z_iinc C (v := (v1 + 1)) 1 [(1, .int (v1 + 1)), (0, .ref (ad 2 0))] dX5_takeText_81 rfl rfl (by decide) rfl ?_
      refine z_goto C 38 dX5_takeText_84 (by decide) ?_
      refine z_loc C [(0, .ref (ad 2 0)), (1, .int (v1 + 1))] [1, 0] rfl ?_
      exact ih S17 (v1 + 1)
    refine z_iconst (v := 0) C dX5_takeText_62 (by decide) ?_
    exact z_zret (b := false) C dX5_takeText_63 rfl rfl
noncomputable def f_X5_takeText (S : (Nat → zM)) : Option (Bool × (Nat → zM)) := (f_X0_clear (S 3)).bind fun r1 => zlet (va_up S 3 r1) fun S2 => zlet (va_up S2 2 (zU (S2 2) 0 3 0)) fun S3 => zlet (va_up S3 2 (zU (S3 2) 0 4 0)) fun S4 => zlet (va_up S4 2 (zU (S4 2) 0 5 0)) fun S5 => (f_X4_rewind (S5 1)).bind fun r6 => zlet (va_up S5 1 r6) fun S7 => (f_X4_readToken (S7 1)).bind fun r8 => zlet (va_up S7 1 r8) fun S9 => f_X5_takeText_38 FU S9 0
set_option maxHeartbeats 4000000 in
set_option maxRecDepth 100000 in
theorem ct_X5_takeText (l : Launch) (G : zG) (ad : Nat → Nat → Nat) (X : va_W) (S : (Nat → zM)) : zCt l yX5_takeText cX5_takeText 2 (some .boolean) 8 G [.ref (ad 2 0)] (fun S : Nat → zM => wT3 ad G.2 S ++ X) (fun r : Bool × (Nat → zM) => some (.int (zb r.1))) (fun r => r.2) S (f_X5_takeText S) := by
  refine zCt.of (by decide) (Nat.le_of_ble_eq_true rfl) (fun p e s m args below meth c A C => ?_)
  refine y_lv (lv' := [(0, .ref (ad 2 0))]) rfl ?_
  rw [f_X5_takeText]
  refine z_aload_n C 0 dX5_takeText_0 rfl ?_
  refine z_get C fl_RX5_12 (zHas.perm t3Out2 has_Tl_0) rfl dX5_takeText_1 ?_
  refine y_callVS C (z_invV C [] [] (ct_X0_clear l G (ad 3) (wTp (ad 1) G.2 (S 1) ++ (wTl ad G.2 (S 2) ++ X)) (S 3) ) mi_X0_clear md_X0_clear ms_X0_clear ml_RX5_39 has_C_0 ⟨_, rfl, rfl⟩ (by decide) rfl rfl dX5_takeText_4 (Nat.le_of_ble_eq_true rfl)) t3Out3 (fun _ => t3In3 _) (fun r1 S2 => ?_)
  refine z_aload_n C 0 dX5_takeText_7 rfl ?_
  refine z_iconst (v := 0) C dX5_takeText_8 (by decide) ?_
  refine z_put C fl_RX5_22 ft_5_3 (zUpd.perm t3Out2 upd_Tl_0_3 (t3In2 _)) rfl rfl (Nat.le_of_ble_eq_true rfl) dX5_takeText_9 (fun S3 => ?_)
  refine z_aload_n C 0 dX5_takeText_12 rfl ?_
  refine z_iconst (v := 0) C dX5_takeText_13 (by decide) ?_
  refine z_put C fl_RX5_26 ft_5_4 (zUpd.perm t3Out2 upd_Tl_0_4 (t3In2 _)) rfl rfl (Nat.le_of_ble_eq_true rfl) dX5_takeText_14 (fun S4 => ?_)
  refine z_aload_n C 0 dX5_takeText_17 rfl ?_
  refine z_iconst (v := 0) C dX5_takeText_18 (by decide) ?_
  refine z_put C fl_RX5_29 ft_5_5 (zUpd.perm t3Out2 upd_Tl_0_5 (t3In2 _)) rfl rfl (Nat.le_of_ble_eq_true rfl) dX5_takeText_19 (fun S5 => ?_)
  refine z_aload_n C 0 dX5_takeText_22 rfl ?_
  refine z_get C fl_RX5_35 (zHas.perm t3Out2 has_Tl_0) rfl dX5_takeText_23 ?_
  refine y_callVS C (z_invV C [] [] (ct_X4_rewind l G (ad 1) (wTl ad G.2 (S5 2) ++ (wC (ad 3) G.2 (S5 3) ++ X)) (S5 1) ) mi_X4_rewind md_X4_rewind ms_X4_rewind ml_RX5_42 has_Tp_0 ⟨_, rfl, rfl⟩ (by decide) rfl rfl dX5_takeText_26 (Nat.le_of_ble_eq_true rfl)) t3Out1 (fun _ => t3In1 _) (fun r6 S7 => ?_)
  refine z_aload_n C 0 dX5_takeText_29 rfl ?_
  refine z_get C fl_RX5_35 (zHas.perm t3Out2 has_Tl_0) rfl dX5_takeText_30 ?_
  refine y_callVS C (z_invV C [] [] (ct_X4_readToken l G (ad 1) (wTl ad G.2 (S7 2) ++ (wC (ad 3) G.2 (S7 3) ++ X)) (S7 1) ) mi_X4_readToken md_X4_readToken ms_X4_readToken ml_RX5_47 has_Tp_0 ⟨_, rfl, rfl⟩ (by decide) rfl rfl dX5_takeText_33 (Nat.le_of_ble_eq_true rfl)) t3Out1 (fun _ => t3In1 _) (fun r8 S9 => ?_)
  refine z_iconst (v := 0) C dX5_takeText_36 (by decide) ?_
  refine z_istore_n C [(1, .int 0), (0, .ref (ad 2 0))] dX5_takeText_37 (by decide) rfl ?_
  refine z_loc C [(0, .ref (ad 2 0)), (1, .int 0)] [1, 0] rfl ?_
  exact w_X5_takeText_38 C ad X    FU S9 0
