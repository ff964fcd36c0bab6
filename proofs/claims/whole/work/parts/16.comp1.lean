noncomputable def f_X6_fault (S : (Nat → zM)) : Option (Int32) := some ((S 2) 0 5)
set_option maxHeartbeats 4000000 in
set_option maxRecDepth 100000 in
theorem ct_X6_fault (l : Launch) (G : zG) (ad : Nat → Nat → Nat) (X : va_W) (S : (Nat → zM)) : zCt l yX6_fault cX6_fault 1 (some .int) 1 G [.ref (ad 0 0)] (fun S : Nat → zM => wS ad G.2 S ++ X) (fun r : Int32 => some (.int r)) (fun _ => S) S (f_X6_fault S) := by
  refine zCt.of (by decide) (Nat.le_of_ble_eq_true rfl) (fun p e s m args below meth c A C => ?_)
  refine y_lv (lv' := [(0, .ref (ad 0 0))]) rfl ?_
  rw [f_X6_fault]
  refine z_aload_n C 0 dX6_fault_0 rfl ?_
  refine z_get C fl_RX6_21 (sHas 0 (by decide) wB_0 (fun _ => has_Top_0)) rfl dX6_fault_1 ?_
  refine z_get C fl_RX6_103 (sHas 2 (by decide) wB_2 (fun _ => has_Tl_0)) rfl dX6_fault_4 ?_
  exact z_iret C dX6_fault_7 rfl rfl rfl
noncomputable def f_X6_imagesKept_4 : Nat → (Nat → zM) → Int32 → Int32 → Option (Int32)
  | 0, _, _, _ => none
  | n + 1, S, v1, v2 => if 2 ≤ v2 then some v1 else if z_in v2 2 = true then if ((S (7 + (Int32.toNatClampNeg v2))) 0 0) = 0 then f_X6_imagesKept_4 n S v1 (v2 + 1) else f_X6_imagesKept_4 n S (v1 + 1) (v2 + 1) else none
set_option maxHeartbeats 4000000 in
set_option maxRecDepth 100000 in
theorem w_X6_imagesKept_4 {p : Program} {l : Launch} {e : Env} {s : State} {m : MethodId} {args : Array Value} {below : List Frame} {meth : Method} {c : Code} {G : zG} {A : Nat → Prop} (C : zC p s m args meth c RX6 cX6_imagesKept 3 (some .int) G A) (ad : Nat → Nat → Nat) (X : va_W) (S : (Nat → zM)) : ∀ (n : Nat) (v1 : Int32) (v2 : Int32), PW p l e 1 s m args below meth c G A 3 (fun S : Nat → zM => wS ad G.2 S ++ X) (fun r : Int32 => some (.int r)) (fun _ => S) S [(0, .ref (ad 0 0)), (1, .int v1), (2, .int v2)] 4 [] (f_X6_imagesKept_4 n S v1 v2) := by
  intro n
  induction n with
  | zero => intros; exact z_none
  | succ n ih =>
    intro v1 v2
    rw [f_X6_imagesKept_4]
    refine z_iload_n C 2 dX6_imagesKept_4 rfl ?_
    refine z_aload_n C 0 dX6_imagesKept_5 rfl ?_
    refine z_get C fl_RX6_52 (sHas 0 (by decide) wB_0 (fun _ => has_Top_0)) rfl dX6_imagesKept_6 ?_
    refine z_alen (t0 := 4) (v := 2) C (sHas 0 (by decide) wB_0 (fun _ => has_Top_3)) rfl rfl dX6_imagesKept_9 ?_
    refine z_icmpge C 34 dX6_imagesKept_10 (by decide) ?_ ?_
    · refine z_iload_n C 1 dX6_imagesKept_34 rfl ?_
      exact z_iret C dX6_imagesKept_35 rfl rfl rfl
    refine z_aload_n C 0 dX6_imagesKept_13 rfl ?_
    refine z_get C fl_RX6_52 (sHas 0 (by decide) wB_0 (fun _ => has_Top_0)) rfl dX6_imagesKept_14 ?_
    refine z_iload_n C 2 dX6_imagesKept_17 rfl ?_
    refine y_aald (t0 := 4) (g := fun k => ad (7 + k) 0) C (sHas 0 (by decide) wB_0 (fun _ => has_Top_3)) rfl (fun _ _ => rfl) dX6_imagesKept_18 (fun hv1 hq1 => ?_)
    refine z_get C fl_RX6_96 (sHas (7 + (Int32.toNatClampNeg v2)) (by have := hq1; omega) (wB_7 hq1) (fun _ => has_Im_0)) rfl dX6_imagesKept_19 ?_
    refine z_ifeq C 28 dX6_imagesKept_22 (by decide) ?_ ?_
    · refine z_iinc C (v := (v2 + 1)) 2 [(2, .int (v2 + 1)), (0, .ref (ad 0 0)), (1, .int v1)] dX6_imagesKept_28 rfl rfl (by decide) rfl ?_
      refine z_goto C 4 dX6_imagesKept_31 (by decide) ?_
      refine z_loc C [(0, .ref (ad 0 0)), (1, .int v1), (2, .int (v2 + 1))] [1, 2, 0] rfl ?_
      exact ih v1 (v2 + 1)
    refine z_iinc C (v := (v1 + 1)) 1 [(1, .int (v1 + 1)), (0, .ref (ad 0 0)), (2, .int v2)] dX6_imagesKept_25 rfl rfl (by decide) rfl ?_
    refine z_iinc C (v := (v2 + 1)) 2 [(2, .int (v2 + 1)), (1, .int (v1 + 1)), (0, .ref (ad 0 0))] dX6_imagesKept_28 rfl rfl (by decide) rfl ?_
    refine z_goto C 4 dX6_imagesKept_31 (by decide) ?_
    refine z_loc C [(0, .ref (ad 0 0)), (1, .int (v1 + 1)), (2, .int (v2 + 1))] [2, 1, 0] rfl ?_
    exact ih (v1 + 1) (v2 + 1)
noncomputable def f_X6_imagesKept (S : (Nat → zM)) : Option (Int32) := f_X6_imagesKept_4 FU S 0 0
set_option maxHeartbeats 4000000 in
set_option maxRecDepth 100000 in
theorem ct_X6_imagesKept (l : Launch) (G : zG) (ad : Nat → Nat → Nat) (X : va_W) (S : (Nat → zM)) : zCt l yX6_imagesKept cX6_imagesKept 3 (some .int) 1 G [.ref (ad 0 0)] (fun S : Nat → zM => wS ad G.2 S ++ X) (fun r : Int32 => some (.int r)) (fun _ => S) S (f_X6_imagesKept S) := by
  refine zCt.of (by decide) (Nat.le_of_ble_eq_true rfl) (fun p e s m args below meth c A C => ?_)
  refine y_lv (lv' := [(0, .ref (ad 0 0))]) rfl ?_
  rw [f_X6_imagesKept]
  refine z_iconst (v := 0) C dX6_imagesKept_0 (by decide) ?_
  refine z_istore_n C [(1, .int 0), (0, .ref (ad 0 0))] dX6_imagesKept_1 (by decide) rfl ?_
  refine z_iconst (v := 0) C dX6_imagesKept_2 (by decide) ?_
  refine z_istore_n C [(2, .int 0), (1, .int 0), (0, .ref (ad 0 0))] dX6_imagesKept_3 (by decide) rfl ?_
  refine z_loc C [(0, .ref (ad 0 0)), (1, .int 0), (2, .int 0)] [2, 1, 0] rfl ?_
  exact w_X6_imagesKept_4 C ad X S   FU 0 0
noncomputable def f_X6_torn (S : (Nat → zM)) : Option (Int32) := some ((S 0) 0 9)
set_option maxHeartbeats 4000000 in
set_option maxRecDepth 100000 in
theorem ct_X6_torn (l : Launch) (G : zG) (ad : Nat → Nat → Nat) (X : va_W) (S : (Nat → zM)) : zCt l yX6_torn cX6_torn 1 (some .int) 1 G [.ref (ad 0 0)] (fun S : Nat → zM => wS ad G.2 S ++ X) (fun r : Int32 => some (.int r)) (fun _ => S) S (f_X6_torn S) := by
  refine zCt.of (by decide) (Nat.le_of_ble_eq_true rfl) (fun p e s m args below meth c A C => ?_)
  refine y_lv (lv' := [(0, .ref (ad 0 0))]) rfl ?_
  rw [f_X6_torn]
  refine z_aload_n C 0 dX6_torn_0 rfl ?_
  refine z_get C fl_RX6_62 (sHas 0 (by decide) wB_0 (fun _ => has_Top_0)) rfl dX6_torn_1 ?_
  exact z_iret C dX6_torn_4 rfl rfl rfl
noncomputable def f_X6_blow (S : (Nat → zM)) (v1 : Int32) (v2 : Int32) : Option (Int32 × (Nat → zM)) := (f_X6_isWithin v1 0 5).bind fun r1 => if r1 = true then (f_X6_isWithin v2 0 9).bind fun r2 => if r2 = true then if z_in v1 6 = true then if z_in v1 6 = true then zlet (va_up S 4 (zU (S 4) 7 (Int32.toNatClampNeg v1) v2)) (fun S3 => some (((S 4) 7 (Int32.toNatClampNeg v1)), S3)) else none else none else some ((-1), S) else some ((-1), S)
set_option maxHeartbeats 4000000 in
set_option maxRecDepth 100000 in
theorem ct_X6_blow (l : Launch) (G : zG) (ad : Nat → Nat → Nat) (X : va_W) (S : (Nat → zM)) (v1 : Int32) (v2 : Int32) : zCt l yX6_blow cX6_blow 4 (some .int) 2 G [.ref (ad 0 0), .int v1, .int v2] (fun S : Nat → zM => wS ad G.2 S ++ X) (fun r : Int32 × (Nat → zM) => some (.int r.1)) (fun r => r.2) S (f_X6_blow S v1 v2) := by
  refine zCt.of (by decide) (Nat.le_of_ble_eq_true rfl) (fun p e s m args below meth c A C => ?_)
  refine y_lv (lv' := [(0, .ref (ad 0 0)), (1, .int v1), (2, .int v2)]) rfl ?_
  rw [f_X6_blow]
  refine z_iload_n C 1 dX6_blow_0 rfl ?_
  refine z_iconst (v := 0) C dX6_blow_1 (by decide) ?_
  refine z_iconst (v := 5) C dX6_blow_2 (by decide) ?_
  refine y_callZ C (z_invS C [.int v1, .int 0, .int 5] [] (ct_X6_isWithin l G ((fun S : Nat → zM => wS ad G.2 S ++ X) S) v1 0 5) mi_X6_isWithin mt_X6_isWithin ml_RX6_68 (by decide) rfl rfl dX6_blow_3 (Nat.le_of_ble_eq_true rfl)) (List.Perm.refl _) (fun r1 => ?_)
  refine z_zifeq C 19 dX6_blow_6 (by decide) ?_ ?_
  · refine z_iload_n C 2 dX6_blow_9 rfl ?_
    refine z_iconst (v := 0) C dX6_blow_10 (by decide) ?_
    refine z_bipush (v := 9) C dX6_blow_11 (by decide) ?_
    refine y_callZ C (z_invS C [.int v2, .int 0, .int 9] [] (ct_X6_isWithin l G ((fun S : Nat → zM => wS ad G.2 S ++ X) S) v2 0 9) mi_X6_isWithin mt_X6_isWithin ml_RX6_68 (by decide) rfl rfl dX6_blow_13 (Nat.le_of_ble_eq_true rfl)) (List.Perm.refl _) (fun r2 => ?_)
    refine z_zifne C 21 dX6_blow_16 (by decide) ?_ ?_
    · refine z_aload_n C 0 dX6_blow_21 rfl ?_
      refine z_get C fl_RX6_28 (sHas 0 (by decide) wB_0 (fun _ => has_Top_0)) rfl dX6_blow_22 ?_
      refine z_get C fl_RX6_165 (sHas 4 (by decide) wB_4 (fun _ => has_C_0)) rfl dX6_blow_25 ?_
      refine z_iload_n C 1 dX6_blow_28 rfl ?_
      refine y_iald C (sHas 4 (by decide) wB_4 (fun _ => has_C_7)) dX6_blow_29 ?_
      refine z_istore_n C [(3, .int ((S 4) 7 (Int32.toNatClampNeg v1))), (0, .ref (ad 0 0)), (1, .int v1), (2, .int v2)] dX6_blow_30 (by decide) rfl ?_
      refine z_aload_n C 1 dX6_blow_31 rfl ?_
      refine z_get C fl_RX6_28 (sHas 0 (by decide) wB_0 (fun _ => has_Top_0)) rfl dX6_blow_32 ?_
      refine z_get C fl_RX6_165 (sHas 4 (by decide) wB_4 (fun _ => has_C_0)) rfl dX6_blow_35 ?_
      refine z_iload_n C 2 dX6_blow_38 rfl ?_
      refine z_iload_n C 3 dX6_blow_39 rfl ?_
      refine y_iast C (sUpd 4 (by decide) wB_4 (fun _ => upd_C_7)) dX6_blow_40 (fun S3 => ?_)
      refine z_iload_n C 0 dX6_blow_41 rfl ?_
      exact z_iret C dX6_blow_42 rfl rfl rfl
    refine z_iconst (v := (-1)) C dX6_blow_19 (by decide) ?_
    exact z_iret C dX6_blow_20 rfl rfl rfl
  refine z_iconst (v := (-1)) C dX6_blow_19 (by decide) ?_
  exact z_iret C dX6_blow_20 rfl rfl rfl
noncomputable def f_X6_count (S : (Nat → zM)) (v1 : Int32) : Option (Int32) := if v1 = 0 then some ((S 6) 0 0) else if v1 = 1 then (f_X6_imagesKept S).bind fun r3 => some r3 else if v1 = 2 then some ((S 1) 0 1) else if v1 = 3 then if z_in 0 4 = true then some ((S (13 + (Int32.toNatClampNeg 0))) 0 1) else none else if v1 = 4 then (f_X0_spotsOfAll (S 4)).bind fun r8 => some r8 else if v1 = 5 then (f_X0_allWinds (S 4)).bind fun r10 => some r10 else some (-1)
set_option maxHeartbeats 4000000 in
set_option maxRecDepth 100000 in
theorem ct_X6_count (l : Launch) (G : zG) (ad : Nat → Nat → Nat) (X : va_W) (S : (Nat → zM)) (v1 : Int32) : zCt l yX6_count cX6_count 2 (some .int) 2 G [.ref (ad 0 0), .int v1] (fun S : Nat → zM => wS ad G.2 S ++ X) (fun r : Int32 => some (.int r)) (fun _ => S) S (f_X6_count S v1) := by
  refine zCt.of (by decide) (Nat.le_of_ble_eq_true rfl) (fun p e s m args below meth c A C => ?_)
  refine y_lv (lv' := [(0, .ref (ad 0 0)), (1, .int v1)]) rfl ?_
  rw [f_X6_count]
  refine z_iload_n C 1 dX6_count_0 rfl ?_
  refine z_ite (fun h1 => ?_) (fun h1 => ?_)
  · refine z_tableIn C 40 dX6_count_1 (by rw [h1]; decide) (by rw [h1]; decide) (by rw [h1]; rfl) (by decide) ?_
    refine z_aload_n C 0 dX6_count_40 rfl ?_
    refine z_get C fl_RX6_35 (sHas 0 (by decide) wB_0 (fun _ => has_Top_0)) rfl dX6_count_41 ?_
    refine z_get C fl_RX6_93 (sHas 6 (by decide) wB_6 (fun _ => has_Sn_0)) rfl dX6_count_44 ?_
    exact z_iret C dX6_count_47 rfl rfl rfl
  refine z_ite (fun h2 => ?_) (fun h2 => ?_)
  · refine z_tableIn C 48 dX6_count_1 (by rw [h2]; decide) (by rw [h2]; decide) (by rw [h2]; rfl) (by decide) ?_
    refine z_aload_n C 0 dX6_count_48 rfl ?_
    refine y_callI C (z_invV C [] [] (ct_X6_imagesKept l G ad X S ) mi_X6_imagesKept md_X6_imagesKept ms_X6_imagesKept ml_RX6_259 (sHas 0 (by decide) wB_0 (fun _ => has_Top_0)) ⟨_, rfl, rfl⟩ (by decide) rfl rfl dX6_count_49 (Nat.le_of_ble_eq_true rfl)) (List.Perm.refl _) (fun r3 => ?_)
    exact z_iret C dX6_count_52 rfl rfl rfl
  refine z_ite (fun h4 => ?_) (fun h4 => ?_)
  · refine z_tableIn C 53 dX6_count_1 (by rw [h4]; decide) (by rw [h4]; decide) (by rw [h4]; rfl) (by decide) ?_
    refine z_aload_n C 0 dX6_count_53 rfl ?_
    refine z_get C fl_RX6_10 (sHas 0 (by decide) wB_0 (fun _ => has_Top_0)) rfl dX6_count_54 ?_
    refine z_get C fl_RX6_76 (sHas 1 (by decide) wB_1 (fun _ => has_Tp_0)) rfl dX6_count_57 ?_
    exact z_iret C dX6_count_60 rfl rfl rfl
  refine z_ite (fun h5 => ?_) (fun h5 => ?_)
  · refine z_tableIn C 61 dX6_count_1 (by rw [h5]; decide) (by rw [h5]; decide) (by rw [h5]; rfl) (by decide) ?_
    refine z_aload_n C 0 dX6_count_61 rfl ?_
    refine z_get C fl_RX6_58 (sHas 0 (by decide) wB_0 (fun _ => has_Top_0)) rfl dX6_count_62 ?_
    refine z_iconst (v := 0) C dX6_count_65 (by decide) ?_
    refine y_aald (t0 := 5) (g := fun k => ad (13 + k) 0) C (sHas 0 (by decide) wB_0 (fun _ => has_Top_4)) rfl (fun _ _ => rfl) dX6_count_66 (fun hv6 hq6 => ?_)
    refine z_get C fl_RX6_262 (sHas (13 + (Int32.toNatClampNeg 0)) (by have := hq6; omega) (wB_13 hq6) (fun _ => has_Sh_0)) rfl dX6_count_67 ?_
    exact z_iret C dX6_count_70 rfl rfl rfl
  refine z_ite (fun h7 => ?_) (fun h7 => ?_)
  · refine z_tableIn C 71 dX6_count_1 (by rw [h7]; decide) (by rw [h7]; decide) (by rw [h7]; rfl) (by decide) ?_
    refine z_aload_n C 0 dX6_count_71 rfl ?_
    refine z_get C fl_RX6_28 (sHas 0 (by decide) wB_0 (fun _ => has_Top_0)) rfl dX6_count_72 ?_
    refine y_callI C (z_invV C [] [] (ct_X0_spotsOfAll l G (ad 4) (wR ad G.2 S 4 ++ X) (S 4) ) mi_X0_spotsOfAll md_X0_spotsOfAll ms_X0_spotsOfAll ml_RX6_265 has_C_0 ⟨_, rfl, rfl⟩ (by decide) rfl rfl dX6_count_75 (Nat.le_of_ble_eq_true rfl)) (sOut 4 (by decide) wB_4) (fun r8 => ?_)
    exact z_iret C dX6_count_78 rfl rfl rfl
  refine z_ite (fun h9 => ?_) (fun h9 => ?_)
  · refine z_tableIn C 79 dX6_count_1 (by rw [h9]; decide) (by rw [h9]; decide) (by rw [h9]; rfl) (by decide) ?_
    refine z_aload_n C 0 dX6_count_79 rfl ?_
    refine z_get C fl_RX6_28 (sHas 0 (by decide) wB_0 (fun _ => has_Top_0)) rfl dX6_count_80 ?_
    refine y_callI C (z_invV C [] [] (ct_X0_allWinds l G (ad 4) (wR ad G.2 S 4 ++ X) (S 4) ) mi_X0_allWinds md_X0_allWinds ms_X0_allWinds ml_RX6_268 has_C_0 ⟨_, rfl, rfl⟩ (by decide) rfl rfl dX6_count_83 (Nat.le_of_ble_eq_true rfl)) (sOut 4 (by decide) wB_4) (fun r10 => ?_)
    exact z_iret C dX6_count_86 rfl rfl rfl
  have g11 := z_ni h1
  have g12 := z_ni h2
  have g13 := z_ni h4
  have g14 := z_ni h5
  have g15 := z_ni h7
  have g16 := z_ni h9
  refine z_tableOut C 87 dX6_count_1 (by simp only [show Int32.toInt 0 = 0 from by decide, show Int32.toInt 1 = 1 from by decide, show Int32.toInt 2 = 2 from by decide, show Int32.toInt 3 = 3 from by decide, show Int32.toInt 4 = 4 from by decide, show Int32.toInt 5 = 5 from by decide] at g11 g12 g13 g14 g15 g16; omega) (by decide) ?_
  refine z_iconst (v := (-1)) C dX6_count_87 (by decide) ?_
  exact z_iret C dX6_count_88 rfl rfl rfl
noncomputable def f_X6_end (S : (Nat → zM)) (v1 : Int32) : Option (Int32 × (Nat → zM)) := (f_X6_isWithin v1 0 ((S 1) 0 1)).bind fun r1 => if r1 = true then zlet (va_up S 1 (zU (S 1) 0 1 v1)) fun S2 => some (((S 1) 0 1), S2) else some ((-1), S)
set_option maxHeartbeats 4000000 in
set_option maxRecDepth 100000 in
theorem ct_X6_end (l : Launch) (G : zG) (ad : Nat → Nat → Nat) (X : va_W) (S : (Nat → zM)) (v1 : Int32) : zCt l yX6_end cX6_end 3 (some .int) 2 G [.ref (ad 0 0), .int v1] (fun S : Nat → zM => wS ad G.2 S ++ X) (fun r : Int32 × (Nat → zM) => some (.int r.1)) (fun r => r.2) S (f_X6_end S v1) := by
  refine zCt.of (by decide) (Nat.le_of_ble_eq_true rfl) (fun p e s m args below meth c A C => ?_)
  refine y_lv (lv' := [(0, .ref (ad 0 0)), (1, .int v1)]) rfl ?_
  rw [f_X6_end]
  refine z_iload_n C 1 dX6_end_0 rfl ?_
  refine z_iconst (v := 0) C dX6_end_1 (by decide) ?_
  refine z_aload_n C 0 dX6_end_2 rfl ?_
  refine z_get C fl_RX6_10 (sHas 0 (by decide) wB_0 (fun _ => has_Top_0)) rfl dX6_end_3 ?_
  refine z_get C fl_RX6_76 (sHas 1 (by decide) wB_1 (fun _ => has_Tp_0)) rfl dX6_end_6 ?_
  refine y_callZ C (z_invS C [.int v1, .int 0, .int ((S 1) 0 1)] [] (ct_X6_isWithin l G ((fun S : Nat → zM => wS ad G.2 S ++ X) S) v1 0 ((S 1) 0 1)) mi_X6_isWithin mt_X6_isWithin ml_RX6_68 (by decide) rfl rfl dX6_end_9 (Nat.le_of_ble_eq_true rfl)) (List.Perm.refl _) (fun r1 => ?_)
  refine z_zifne C 17 dX6_end_12 (by decide) ?_ ?_
  · refine z_aload_n C 0 dX6_end_17 rfl ?_
    refine z_get C fl_RX6_10 (sHas 0 (by decide) wB_0 (fun _ => has_Top_0)) rfl dX6_end_18 ?_
    refine z_get C fl_RX6_76 (sHas 1 (by decide) wB_1 (fun _ => has_Tp_0)) rfl dX6_end_21 ?_
    refine z_istore_n C [(2, .int ((S 1) 0 1)), (0, .ref (ad 0 0)), (1, .int v1)] dX6_end_24 (by decide) rfl ?_
    refine z_aload_n C 1 dX6_end_25 rfl ?_
    refine z_get C fl_RX6_10 (sHas 0 (by decide) wB_0 (fun _ => has_Top_0)) rfl dX6_end_26 ?_
    refine z_iload_n C 2 dX6_end_29 rfl ?_
    refine z_put C fl_RX6_76 ft_4_1 (sUpd 1 (by decide) wB_1 (fun _ => upd_Tp_0_1)) rfl rfl (Nat.le_of_ble_eq_true rfl) dX6_end_30 (fun S2 => ?_)
    refine z_iload_n C 0 dX6_end_33 rfl ?_
    exact z_iret C dX6_end_34 rfl rfl rfl
  refine z_iconst (v := (-1)) C dX6_end_15 (by decide) ?_
  exact z_iret C dX6_end_16 rfl rfl rfl
noncomputable def f_X6_feed (S : (Nat → zM)) (v1 : Int32) : Option (Int32 × (Nat → zM)) := (f_X6_isWithin v1 0 127).bind fun r1 => if r1 = true then (f_X4_append (S 1) v1).bind fun r2 => zlet (va_up S 1 r2.2) fun S3 => if r2.1 = true then some (((S3 1) 0 1), S3) else some ((-3), S3) else some ((-1), S)
set_option maxHeartbeats 4000000 in
set_option maxRecDepth 100000 in
theorem ct_X6_feed (l : Launch) (G : zG) (ad : Nat → Nat → Nat) (X : va_W) (S : (Nat → zM)) (v1 : Int32) : zCt l yX6_feed cX6_feed 2 (some .int) 2 G [.ref (ad 0 0), .int v1] (fun S : Nat → zM => wS ad G.2 S ++ X) (fun r : Int32 × (Nat → zM) => some (.int r.1)) (fun r => r.2) S (f_X6_feed S v1) := by
  refine zCt.of (by decide) (Nat.le_of_ble_eq_true rfl) (fun p e s m args below meth c A C => ?_)
  refine y_lv (lv' := [(0, .ref (ad 0 0)), (1, .int v1)]) rfl ?_
  rw [f_X6_feed]
  refine z_iload_n C 1 dX6_feed_0 rfl ?_
  refine z_iconst (v := 0) C dX6_feed_1 (by decide) ?_
  refine z_bipush (v := 127) C dX6_feed_2 (by decide) ?_
  refine y_callZ C (z_invS C [.int v1, .int 0, .int 127] [] (ct_X6_isWithin l G ((fun S : Nat → zM => wS ad G.2 S ++ X) S) v1 0 127) mi_X6_isWithin mt_X6_isWithin ml_RX6_68 (by decide) rfl rfl dX6_feed_4 (Nat.le_of_ble_eq_true rfl)) (List.Perm.refl _) (fun r1 => ?_)
  refine z_zifne C 12 dX6_feed_7 (by decide) ?_ ?_
  · refine z_aload_n C 0 dX6_feed_12 rfl ?_
    refine z_get C fl_RX6_10 (sHas 0 (by decide) wB_0 (fun _ => has_Top_0)) rfl dX6_feed_13 ?_
    refine z_iload_n C 1 dX6_feed_16 rfl ?_
    refine y_callZS C (z_invV C [.int v1] [] (ct_X4_append l G (ad 1) (wR ad G.2 S 1 ++ X) (S 1) v1) mi_X4_append md_X4_append ms_X4_append ml_RX6_72 has_Tp_0 ⟨_, rfl, rfl⟩ (by decide) rfl rfl dX6_feed_17 (Nat.le_of_ble_eq_true rfl)) (sOut 1 (by decide) wB_1) (fun _ => sIn 1 (by decide) wB_1 _) (fun r2 S3 => ?_)
    refine z_zifeq C 33 dX6_feed_20 (by decide) ?_ ?_
    · refine z_aload_n C 0 dX6_feed_23 rfl ?_
      refine z_get C fl_RX6_10 (sHas 0 (by decide) wB_0 (fun _ => has_Top_0)) rfl dX6_feed_24 ?_
      refine z_get C fl_RX6_76 (sHas 1 (by decide) wB_1 (fun _ => has_Tp_0)) rfl dX6_feed_27 ?_
      refine z_goto C 35 dX6_feed_30 (by decide) ?_
      exact z_iret C dX6_feed_35 rfl rfl rfl
    refine z_bipush (v := (-3)) C dX6_feed_33 (by decide) ?_
    exact z_iret C dX6_feed_35 rfl rfl rfl
  refine z_iconst (v := (-1)) C dX6_feed_10 (by decide) ?_
  exact z_iret C dX6_feed_11 rfl rfl rfl
noncomputable def f_X6_forget (S : (Nat → zM)) (v1 : Int32) : Option (Int32 × (Nat → zM)) := (f_X6_isWithin v1 0 ((S 6) 0 0)).bind fun r1 => if r1 = true then zlet (va_up S 6 (zU (S 6) 0 0 v1)) fun S2 => some (((S 6) 0 0), S2) else some ((-1), S)
set_option maxHeartbeats 4000000 in
set_option maxRecDepth 100000 in
theorem ct_X6_forget (l : Launch) (G : zG) (ad : Nat → Nat → Nat) (X : va_W) (S : (Nat → zM)) (v1 : Int32) : zCt l yX6_forget cX6_forget 3 (some .int) 2 G [.ref (ad 0 0), .int v1] (fun S : Nat → zM => wS ad G.2 S ++ X) (fun r : Int32 × (Nat → zM) => some (.int r.1)) (fun r => r.2) S (f_X6_forget S v1) := by
  refine zCt.of (by decide) (Nat.le_of_ble_eq_true rfl) (fun p e s m args below meth c A C => ?_)
  refine y_lv (lv' := [(0, .ref (ad 0 0)), (1, .int v1)]) rfl ?_
  rw [f_X6_forget]
  refine z_iload_n C 1 dX6_forget_0 rfl ?_
  refine z_iconst (v := 0) C dX6_forget_1 (by decide) ?_
  refine z_aload_n C 0 dX6_forget_2 rfl ?_
  refine z_get C fl_RX6_35 (sHas 0 (by decide) wB_0 (fun _ => has_Top_0)) rfl dX6_forget_3 ?_
  refine z_get C fl_RX6_93 (sHas 6 (by decide) wB_6 (fun _ => has_Sn_0)) rfl dX6_forget_6 ?_
  refine y_callZ C (z_invS C [.int v1, .int 0, .int ((S 6) 0 0)] [] (ct_X6_isWithin l G ((fun S : Nat → zM => wS ad G.2 S ++ X) S) v1 0 ((S 6) 0 0)) mi_X6_isWithin mt_X6_isWithin ml_RX6_68 (by decide) rfl rfl dX6_forget_9 (Nat.le_of_ble_eq_true rfl)) (List.Perm.refl _) (fun r1 => ?_)
  refine z_zifne C 17 dX6_forget_12 (by decide) ?_ ?_
  · refine z_aload_n C 0 dX6_forget_17 rfl ?_
    refine z_get C fl_RX6_35 (sHas 0 (by decide) wB_0 (fun _ => has_Top_0)) rfl dX6_forget_18 ?_
    refine z_get C fl_RX6_93 (sHas 6 (by decide) wB_6 (fun _ => has_Sn_0)) rfl dX6_forget_21 ?_
    refine z_istore_n C [(2, .int ((S 6) 0 0)), (0, .ref (ad 0 0)), (1, .int v1)] dX6_forget_24 (by decide) rfl ?_
    refine z_aload_n C 1 dX6_forget_25 rfl ?_
    refine z_get C fl_RX6_35 (sHas 0 (by decide) wB_0 (fun _ => has_Top_0)) rfl dX6_forget_26 ?_
    refine z_iload_n C 2 dX6_forget_29 rfl ?_
    refine z_put C fl_RX6_93 ft_2_0 (sUpd 6 (by decide) wB_6 (fun _ => upd_Sn_0_0)) rfl rfl (Nat.le_of_ble_eq_true rfl) dX6_forget_30 (fun S2 => ?_)
    refine z_iload_n C 0 dX6_forget_33 rfl ?_
    exact z_iret C dX6_forget_34 rfl rfl rfl
  refine z_iconst (v := (-1)) C dX6_forget_15 (by decide) ?_
  exact z_iret C dX6_forget_16 rfl rfl rfl
noncomputable def f_X6_lift (S : (Nat → zM)) (v1 : Int32) (v2 : Int32) : Option (Int32 × (Nat → zM)) := (f_X0_hasBeetle (S 4) v1).bind fun r1 => if r1 = true then (f_X6_isWithin v2 0 9).bind fun r2 => if r2 = true then (f_X0_sits (S 4) v1).bind fun r3 => if r3 = true then if z_in v1 6 = true then (f_X0_putInAir (S 4) v1 v2).bind fun r4 => zlet (va_up S 4 r4) fun S5 => some (((S 4) 5 (Int32.toNatClampNeg v1)), S5) else none else some ((-2), S) else some ((-1), S) else some ((-1), S)
set_option maxHeartbeats 4000000 in
set_option maxRecDepth 100000 in
theorem ct_X6_lift (l : Launch) (G : zG) (ad : Nat → Nat → Nat) (X : va_W) (S : (Nat → zM)) (v1 : Int32) (v2 : Int32) : zCt l yX6_lift cX6_lift 4 (some .int) 2 G [.ref (ad 0 0), .int v1, .int v2] (fun S : Nat → zM => wS ad G.2 S ++ X) (fun r : Int32 × (Nat → zM) => some (.int r.1)) (fun r => r.2) S (f_X6_lift S v1 v2) := by
  refine zCt.of (by decide) (Nat.le_of_ble_eq_true rfl) (fun p e s m args below meth c A C => ?_)
  refine y_lv (lv' := [(0, .ref (ad 0 0)), (1, .int v1), (2, .int v2)]) rfl ?_
  rw [f_X6_lift]
  refine z_aload_n C 0 dX6_lift_0 rfl ?_
  refine z_get C fl_RX6_28 (sHas 0 (by decide) wB_0 (fun _ => has_Top_0)) rfl dX6_lift_1 ?_
  refine z_iload_n C 1 dX6_lift_4 rfl ?_
  refine y_callZ C (z_invV C [.int v1] [] (ct_X0_hasBeetle l G (ad 4) (wR ad G.2 S 4 ++ X) (S 4) v1) mi_X0_hasBeetle md_X0_hasBeetle ms_X0_hasBeetle ml_RX6_141 has_C_0 ⟨_, rfl, rfl⟩ (by decide) rfl rfl dX6_lift_5 (Nat.le_of_ble_eq_true rfl)) (sOut 4 (by decide) wB_4) (fun r1 => ?_)
  refine z_zifeq C 21 dX6_lift_8 (by decide) ?_ ?_
  · refine z_iload_n C 2 dX6_lift_11 rfl ?_
    refine z_iconst (v := 0) C dX6_lift_12 (by decide) ?_
    refine z_bipush (v := 9) C dX6_lift_13 (by decide) ?_
    refine y_callZ C (z_invS C [.int v2, .int 0, .int 9] [] (ct_X6_isWithin l G ((fun S : Nat → zM => wS ad G.2 S ++ X) S) v2 0 9) mi_X6_isWithin mt_X6_isWithin ml_RX6_68 (by decide) rfl rfl dX6_lift_15 (Nat.le_of_ble_eq_true rfl)) (List.Perm.refl _) (fun r2 => ?_)
    refine z_zifne C 23 dX6_lift_18 (by decide) ?_ ?_
    · refine z_aload_n C 0 dX6_lift_23 rfl ?_
      refine z_get C fl_RX6_28 (sHas 0 (by decide) wB_0 (fun _ => has_Top_0)) rfl dX6_lift_24 ?_
      refine z_iload_n C 1 dX6_lift_27 rfl ?_
      refine y_callZ C (z_invV C [.int v1] [] (ct_X0_sits l G (ad 4) (wR ad G.2 S 4 ++ X) (S 4) v1) mi_X0_sits md_X0_sits ms_X0_sits ml_RX6_175 has_C_0 ⟨_, rfl, rfl⟩ (by decide) rfl rfl dX6_lift_28 (Nat.le_of_ble_eq_true rfl)) (sOut 4 (by decide) wB_4) (fun r3 => ?_)
      refine z_zifne C 37 dX6_lift_31 (by decide) ?_ ?_
      · refine z_aload_n C 0 dX6_lift_37 rfl ?_
        refine z_get C fl_RX6_28 (sHas 0 (by decide) wB_0 (fun _ => has_Top_0)) rfl dX6_lift_38 ?_
        refine z_get C fl_RX6_156 (sHas 4 (by decide) wB_4 (fun _ => has_C_0)) rfl dX6_lift_41 ?_
        refine z_iload_n C 1 dX6_lift_44 rfl ?_
        refine y_iald C (sHas 4 (by decide) wB_4 (fun _ => has_C_5)) dX6_lift_45 ?_
        refine z_istore_n C [(3, .int ((S 4) 5 (Int32.toNatClampNeg v1))), (0, .ref (ad 0 0)), (1, .int v1), (2, .int v2)] dX6_lift_46 (by decide) rfl ?_
        refine z_aload_n C 1 dX6_lift_47 rfl ?_
        refine z_get C fl_RX6_28 (sHas 0 (by decide) wB_0 (fun _ => has_Top_0)) rfl dX6_lift_48 ?_
        refine z_iload_n C 2 dX6_lift_51 rfl ?_
        refine z_iload_n C 3 dX6_lift_52 rfl ?_
        refine y_callVS C (z_invV C [.int v1, .int v2] [] (ct_X0_putInAir l G (ad 4) (wR ad G.2 S 4 ++ X) (S 4) v1 v2) mi_X0_putInAir md_X0_putInAir ms_X0_putInAir ml_RX6_178 has_C_0 ⟨_, rfl, rfl⟩ (by decide) rfl rfl dX6_lift_53 (Nat.le_of_ble_eq_true rfl)) (sOut 4 (by decide) wB_4) (fun _ => sIn 4 (by decide) wB_4 _) (fun r4 S5 => ?_)
        refine z_iload_n C 0 dX6_lift_56 rfl ?_
        exact z_iret C dX6_lift_57 rfl rfl rfl
      refine z_bipush (v := (-2)) C dX6_lift_34 (by decide) ?_
      exact z_iret C dX6_lift_36 rfl rfl rfl
    refine z_iconst (v := (-1)) C dX6_lift_21 (by decide) ?_
    exact z_iret C dX6_lift_22 rfl rfl rfl
  refine z_iconst (v := (-1)) C dX6_lift_21 (by decide) ?_
  exact z_iret C dX6_lift_22 rfl rfl rfl
noncomputable def f_X6_see (S : (Nat → zM)) (v1 : Int32) (v2 : Int32) (v3 : Int32) : Option (Int32 × (Nat → zM)) := (f_X6_isWithin v1 0 20).bind fun r1 => if r1 = true then (f_X0_hasOne (S 4) v2).bind fun r2 => if r2 = true then (f_X6_isWithin v3 0 99).bind fun r3 => if r3 = true then (f_X2_append (S 6) v1 v2 v3).bind fun r4 => zlet (va_up S 6 r4.2) fun S5 => if r4.1 = true then some (((S5 6) 0 0), S5) else some ((-3), S5) else some ((-1), S) else some ((-1), S) else some ((-1), S)
set_option maxHeartbeats 4000000 in
set_option maxRecDepth 100000 in
theorem ct_X6_see (l : Launch) (G : zG) (ad : Nat → Nat → Nat) (X : va_W) (S : (Nat → zM)) (v1 : Int32) (v2 : Int32) (v3 : Int32) : zCt l yX6_see cX6_see 4 (some .int) 2 G [.ref (ad 0 0), .int v1, .int v2, .int v3] (fun S : Nat → zM => wS ad G.2 S ++ X) (fun r : Int32 × (Nat → zM) => some (.int r.1)) (fun r => r.2) S (f_X6_see S v1 v2 v3) := by
  refine zCt.of (by decide) (Nat.le_of_ble_eq_true rfl) (fun p e s m args below meth c A C => ?_)
  refine y_lv (lv' := [(0, .ref (ad 0 0)), (1, .int v1), (2, .int v2), (3, .int v3)]) rfl ?_
  rw [f_X6_see]
  refine z_iload_n C 1 dX6_see_0 rfl ?_
  refine z_iconst (v := 0) C dX6_see_1 (by decide) ?_
  refine z_bipush (v := 20) C dX6_see_2 (by decide) ?_
  refine y_callZ C (z_invS C [.int v1, .int 0, .int 20] [] (ct_X6_isWithin l G ((fun S : Nat → zM => wS ad G.2 S ++ X) S) v1 0 20) mi_X6_isWithin mt_X6_isWithin ml_RX6_68 (by decide) rfl rfl dX6_see_4 (Nat.le_of_ble_eq_true rfl)) (List.Perm.refl _) (fun r1 => ?_)
  refine z_zifeq C 21 dX6_see_7 (by decide) ?_ ?_
  · refine z_aload_n C 0 dX6_see_10 rfl ?_
    refine z_get C fl_RX6_28 (sHas 0 (by decide) wB_0 (fun _ => has_Top_0)) rfl dX6_see_11 ?_
    refine z_iload_n C 2 dX6_see_14 rfl ?_
    refine y_callZ C (z_invV C [.int v2] [] (ct_X0_hasOne l G (ad 4) (wR ad G.2 S 4 ++ X) (S 4) v2) mi_X0_hasOne md_X0_hasOne ms_X0_hasOne ml_RX6_125 has_C_0 ⟨_, rfl, rfl⟩ (by decide) rfl rfl dX6_see_15 (Nat.le_of_ble_eq_true rfl)) (sOut 4 (by decide) wB_4) (fun r2 => ?_)
    refine z_zifne C 23 dX6_see_18 (by decide) ?_ ?_
    · refine z_iload_n C 3 dX6_see_23 rfl ?_
      refine z_iconst (v := 0) C dX6_see_24 (by decide) ?_
      refine z_bipush (v := 99) C dX6_see_25 (by decide) ?_
      refine y_callZ C (z_invS C [.int v3, .int 0, .int 99] [] (ct_X6_isWithin l G ((fun S : Nat → zM => wS ad G.2 S ++ X) S) v3 0 99) mi_X6_isWithin mt_X6_isWithin ml_RX6_68 (by decide) rfl rfl dX6_see_27 (Nat.le_of_ble_eq_true rfl)) (List.Perm.refl _) (fun r3 => ?_)
      refine z_zifne C 35 dX6_see_30 (by decide) ?_ ?_
      · refine z_aload_n C 0 dX6_see_35 rfl ?_
        refine z_get C fl_RX6_35 (sHas 0 (by decide) wB_0 (fun _ => has_Top_0)) rfl dX6_see_36 ?_
        refine z_iload_n C 1 dX6_see_39 rfl ?_
        refine z_iload_n C 2 dX6_see_40 rfl ?_
        refine z_iload_n C 3 dX6_see_41 rfl ?_
        refine y_callZS C (z_invV C [.int v1, .int v2, .int v3] [] (ct_X2_append l G (ad 6) (wR ad G.2 S 6 ++ X) (S 6) v1 v2 v3) mi_X2_append md_X2_append ms_X2_append ml_RX6_211 has_Sn_0 ⟨_, rfl, rfl⟩ (by decide) rfl rfl dX6_see_42 (Nat.le_of_ble_eq_true rfl)) (sOut 6 (by decide) wB_6) (fun _ => sIn 6 (by decide) wB_6 _) (fun r4 S5 => ?_)
        refine z_zifeq C 58 dX6_see_45 (by decide) ?_ ?_
        · refine z_aload_n C 0 dX6_see_48 rfl ?_
          refine z_get C fl_RX6_35 (sHas 0 (by decide) wB_0 (fun _ => has_Top_0)) rfl dX6_see_49 ?_
          refine z_get C fl_RX6_93 (sHas 6 (by decide) wB_6 (fun _ => has_Sn_0)) rfl dX6_see_52 ?_
          refine z_goto C 60 dX6_see_55 (by decide) ?_
          exact z_iret C dX6_see_60 rfl rfl rfl
        refine z_bipush (v := (-3)) C dX6_see_58 (by decide) ?_
        exact z_iret C dX6_see_60 rfl rfl rfl
      refine z_iconst (v := (-1)) C dX6_see_33 (by decide) ?_
      exact z_iret C dX6_see_34 rfl rfl rfl
    refine z_iconst (v := (-1)) C dX6_see_21 (by decide) ?_
    exact z_iret C dX6_see_22 rfl rfl rfl
  refine z_iconst (v := (-1)) C dX6_see_21 (by decide) ?_
  exact z_iret C dX6_see_22 rfl rfl rfl
noncomputable def f_X6_walk (S : (Nat → zM)) (v1 : Int32) (v2 : Int32) : Option (Int32 × (Nat → zM)) := (f_X0_hasOne (S 4) v1).bind fun r1 => if r1 = true then (f_X6_isWithin v2 0 9).bind fun r2 => if r2 = true then if z_in v1 4 = true then if z_in v1 4 = true then zlet (va_up S 4 (zU (S 4) 1 (Int32.toNatClampNeg v1) v2)) (fun S3 => some (((S 4) 1 (Int32.toNatClampNeg v1)), S3)) else none else none else some ((-1), S) else some ((-1), S)
set_option maxHeartbeats 4000000 in
set_option maxRecDepth 100000 in
theorem ct_X6_walk (l : Launch) (G : zG) (ad : Nat → Nat → Nat) (X : va_W) (S : (Nat → zM)) (v1 : Int32) (v2 : Int32) : zCt l yX6_walk cX6_walk 4 (some .int) 2 G [.ref (ad 0 0), .int v1, .int v2] (fun S : Nat → zM => wS ad G.2 S ++ X) (fun r : Int32 × (Nat → zM) => some (.int r.1)) (fun r => r.2) S (f_X6_walk S v1 v2) := by
  refine zCt.of (by decide) (Nat.le_of_ble_eq_true rfl) (fun p e s m args below meth c A C => ?_)
  refine y_lv (lv' := [(0, .ref (ad 0 0)), (1, .int v1), (2, .int v2)]) rfl ?_
  rw [f_X6_walk]
  refine z_aload_n C 0 dX6_walk_0 rfl ?_
  refine z_get C fl_RX6_28 (sHas 0 (by decide) wB_0 (fun _ => has_Top_0)) rfl dX6_walk_1 ?_
  refine z_iload_n C 1 dX6_walk_4 rfl ?_
  refine y_callZ C (z_invV C [.int v1] [] (ct_X0_hasOne l G (ad 4) (wR ad G.2 S 4 ++ X) (S 4) v1) mi_X0_hasOne md_X0_hasOne ms_X0_hasOne ml_RX6_125 has_C_0 ⟨_, rfl, rfl⟩ (by decide) rfl rfl dX6_walk_5 (Nat.le_of_ble_eq_true rfl)) (sOut 4 (by decide) wB_4) (fun r1 => ?_)
  refine z_zifeq C 21 dX6_walk_8 (by decide) ?_ ?_
  · refine z_iload_n C 2 dX6_walk_11 rfl ?_
    refine z_iconst (v := 0) C dX6_walk_12 (by decide) ?_
    refine z_bipush (v := 9) C dX6_walk_13 (by decide) ?_
    refine y_callZ C (z_invS C [.int v2, .int 0, .int 9] [] (ct_X6_isWithin l G ((fun S : Nat → zM => wS ad G.2 S ++ X) S) v2 0 9) mi_X6_isWithin mt_X6_isWithin ml_RX6_68 (by decide) rfl rfl dX6_walk_15 (Nat.le_of_ble_eq_true rfl)) (List.Perm.refl _) (fun r2 => ?_)
    refine z_zifne C 23 dX6_walk_18 (by decide) ?_ ?_
    · refine z_aload_n C 0 dX6_walk_23 rfl ?_
      refine z_get C fl_RX6_28 (sHas 0 (by decide) wB_0 (fun _ => has_Top_0)) rfl dX6_walk_24 ?_
      refine z_get C fl_RX6_128 (sHas 4 (by decide) wB_4 (fun _ => has_C_0)) rfl dX6_walk_27 ?_
      refine z_iload_n C 1 dX6_walk_30 rfl ?_
      refine y_iald C (sHas 4 (by decide) wB_4 (fun _ => has_C_1)) dX6_walk_31 ?_
      refine z_istore_n C [(3, .int ((S 4) 1 (Int32.toNatClampNeg v1))), (0, .ref (ad 0 0)), (1, .int v1), (2, .int v2)] dX6_walk_32 (by decide) rfl ?_
      refine z_aload_n C 1 dX6_walk_33 rfl ?_
      refine z_get C fl_RX6_28 (sHas 0 (by decide) wB_0 (fun _ => has_Top_0)) rfl dX6_walk_34 ?_
      refine z_get C fl_RX6_128 (sHas 4 (by decide) wB_4 (fun _ => has_C_0)) rfl dX6_walk_37 ?_
      refine z_iload_n C 2 dX6_walk_40 rfl ?_
      refine z_iload_n C 3 dX6_walk_41 rfl ?_
      refine y_iast C (sUpd 4 (by decide) wB_4 (fun _ => upd_C_1)) dX6_walk_42 (fun S3 => ?_)
      refine z_iload_n C 0 dX6_walk_43 rfl ?_
      exact z_iret C dX6_walk_44 rfl rfl rfl
    refine z_iconst (v := (-1)) C dX6_walk_21 (by decide) ?_
    exact z_iret C dX6_walk_22 rfl rfl rfl
  refine z_iconst (v := (-1)) C dX6_walk_21 (by decide) ?_
  exact z_iret C dX6_walk_22 rfl rfl rfl
noncomputable def f_X6_wind (S : (Nat → zM)) (v1 : Int32) : Option (Int32) := (f_X6_isWithin v1 0 5).bind fun r1 => if r1 = true then if z_in v1 6 = true then some ((S 4) 7 (Int32.toNatClampNeg v1)) else none else some (-1)
set_option maxHeartbeats 4000000 in
set_option maxRecDepth 100000 in
theorem ct_X6_wind (l : Launch) (G : zG) (ad : Nat → Nat → Nat) (X : va_W) (S : (Nat → zM)) (v1 : Int32) : zCt l yX6_wind cX6_wind 2 (some .int) 2 G [.ref (ad 0 0), .int v1] (fun S : Nat → zM => wS ad G.2 S ++ X) (fun r : Int32 => some (.int r)) (fun _ => S) S (f_X6_wind S v1) := by
  refine zCt.of (by decide) (Nat.le_of_ble_eq_true rfl) (fun p e s m args below meth c A C => ?_)
  refine y_lv (lv' := [(0, .ref (ad 0 0)), (1, .int v1)]) rfl ?_
  rw [f_X6_wind]
  refine z_iload_n C 1 dX6_wind_0 rfl ?_
  refine z_iconst (v := 0) C dX6_wind_1 (by decide) ?_
  refine z_iconst (v := 5) C dX6_wind_2 (by decide) ?_
  refine y_callZ C (z_invS C [.int v1, .int 0, .int 5] [] (ct_X6_isWithin l G ((fun S : Nat → zM => wS ad G.2 S ++ X) S) v1 0 5) mi_X6_isWithin mt_X6_isWithin ml_RX6_68 (by decide) rfl rfl dX6_wind_3 (Nat.le_of_ble_eq_true rfl)) (List.Perm.refl _) (fun r1 => ?_)
  refine z_zifeq C 21 dX6_wind_6 (by decide) ?_ ?_
  · refine z_aload_n C 0 dX6_wind_9 rfl ?_
    refine z_get C fl_RX6_28 (sHas 0 (by decide) wB_0 (fun _ => has_Top_0)) rfl dX6_wind_10 ?_
    refine z_get C fl_RX6_165 (sHas 4 (by decide) wB_4 (fun _ => has_C_0)) rfl dX6_wind_13 ?_
    refine z_iload_n C 1 dX6_wind_16 rfl ?_
    refine y_iald C (sHas 4 (by decide) wB_4 (fun _ => has_C_7)) dX6_wind_17 ?_
    refine z_goto C 22 dX6_wind_18 (by decide) ?_
    exact z_iret C dX6_wind_22 rfl rfl rfl
  refine z_iconst (v := (-1)) C dX6_wind_21 (by decide) ?_
  exact z_iret C dX6_wind_22 rfl rfl rfl
noncomputable def f_X6_alter_87 (S : (Nat → zM)) (v1 : Int32) (v2 : Int32) (v3 : Int32) : Option (Int32 × (Nat → zM)) := if v2 = 2 then (f_X0_hasOne (S 4) v3).bind fun r6 => if r6 = true then if z_in v1 6 = true then if z_in v1 6 = true then zlet (va_up S 4 (zU (S 4) 4 (Int32.toNatClampNeg v1) v3)) (fun S7 => some (((S 4) 4 (Int32.toNatClampNeg v1)), S7)) else none else none else some ((-1), S) else some ((-1), S)
set_option maxHeartbeats 4000000 in
set_option maxRecDepth 100000 in
theorem w_X6_alter_87 {p : Program} {l : Launch} {e : Env} {s : State} {m : MethodId} {args : Array Value} {below : List Frame} {meth : Method} {c : Code} {G : zG} {A : Nat → Prop} (C : zC p s m args meth c RX6 cX6_alter 5 (some .int) G A) (ad : Nat → Nat → Nat) (X : va_W) : ∀ (S : (Nat → zM)) (v1 : Int32) (v2 : Int32) (v3 : Int32), PW p l e 3 s m args below meth c G A 5 (fun S : Nat → zM => wS ad G.2 S ++ X) (fun r : Int32 × (Nat → zM) => some (.int r.1)) (fun r => r.2) S [(0, .ref (ad 0 0)), (1, .int v1), (2, .int v2), (3, .int v3)] 87 [] (f_X6_alter_87 S v1 v2 v3) := by
  intro S v1 v2 v3
  rw [f_X6_alter_87]
  refine z_iload_n C 2 dX6_alter_87 rfl ?_
  refine z_iconst (v := 2) C dX6_alter_88 (by decide) ?_
  refine z_icmpne C 127 dX6_alter_89 (by decide) ?_ ?_
  · refine z_aload_n C 0 dX6_alter_92 rfl ?_
    refine z_get C fl_RX6_28 (sHas 0 (by decide) wB_0 (fun _ => has_Top_0)) rfl dX6_alter_93 ?_
    refine z_iload_n C 3 dX6_alter_96 rfl ?_
    refine y_callZ C (z_invV C [.int v3] [] (ct_X0_hasOne l G (ad 4) (wR ad G.2 S 4 ++ X) (S 4) v3) mi_X0_hasOne md_X0_hasOne ms_X0_hasOne ml_RX6_125 has_C_0 ⟨_, rfl, rfl⟩ (by decide) rfl rfl dX6_alter_97 (Nat.le_of_ble_eq_true rfl)) (sOut 4 (by decide) wB_4) (fun r6 => ?_)
    refine z_zifeq C 127 dX6_alter_100 (by decide) ?_ ?_
    · refine z_aload_n C 0 dX6_alter_103 rfl ?_
      refine z_get C fl_RX6_28 (sHas 0 (by decide) wB_0 (fun _ => has_Top_0)) rfl dX6_alter_104 ?_
      refine z_get C fl_RX6_150 (sHas 4 (by decide) wB_4 (fun _ => has_C_0)) rfl dX6_alter_107 ?_
      refine z_iload_n C 1 dX6_alter_110 rfl ?_
      refine y_iald C (sHas 4 (by decide) wB_4 (fun _ => has_C_4)) dX6_alter_111 ?_
      refine z_istore C [(4, .int ((S 4) 4 (Int32.toNatClampNeg v1))), (0, .ref (ad 0 0)), (1, .int v1), (2, .int v2), (3, .int v3)] dX6_alter_112 (by decide) rfl ?_
      refine z_aload_n C 1 dX6_alter_114 rfl ?_
      refine z_get C fl_RX6_28 (sHas 0 (by decide) wB_0 (fun _ => has_Top_0)) rfl dX6_alter_115 ?_
      refine z_get C fl_RX6_150 (sHas 4 (by decide) wB_4 (fun _ => has_C_0)) rfl dX6_alter_118 ?_
      refine z_iload_n C 2 dX6_alter_121 rfl ?_
      refine z_iload_n C 4 dX6_alter_122 rfl ?_
      refine y_iast C (sUpd 4 (by decide) wB_4 (fun _ => upd_C_4)) dX6_alter_123 (fun S7 => ?_)
      refine z_goto C 129 dX6_alter_124 (by decide) ?_
      refine z_iload C 0 dX6_alter_129 rfl ?_
      exact z_iret C dX6_alter_131 rfl rfl rfl
    refine z_iconst (v := (-1)) C dX6_alter_127 (by decide) ?_
    exact z_iret C dX6_alter_128 rfl rfl rfl
  refine z_iconst (v := (-1)) C dX6_alter_127 (by decide) ?_
  exact z_iret C dX6_alter_128 rfl rfl rfl
noncomputable def f_X6_alter_48 (S : (Nat → zM)) (v1 : Int32) (v2 : Int32) (v3 : Int32) : Option (Int32 × (Nat → zM)) := if v2 = 1 then (f_X6_isWithin v3 1 9).bind fun r4 => if r4 = true then if z_in v1 6 = true then if z_in v1 6 = true then zlet (va_up S 4 (zU (S 4) 3 (Int32.toNatClampNeg v1) v3)) (fun S5 => some (((S 4) 3 (Int32.toNatClampNeg v1)), S5)) else none else none else f_X6_alter_87  S v1 v2 v3 else f_X6_alter_87  S v1 v2 v3
set_option maxHeartbeats 4000000 in
set_option maxRecDepth 100000 in
theorem w_X6_alter_48 {p : Program} {l : Launch} {e : Env} {s : State} {m : MethodId} {args : Array Value} {below : List Frame} {meth : Method} {c : Code} {G : zG} {A : Nat → Prop} (C : zC p s m args meth c RX6 cX6_alter 5 (some .int) G A) (ad : Nat → Nat → Nat) (X : va_W) : ∀ (S : (Nat → zM)) (v1 : Int32) (v2 : Int32) (v3 : Int32), PW p l e 3 s m args below meth c G A 5 (fun S : Nat → zM => wS ad G.2 S ++ X) (fun r : Int32 × (Nat → zM) => some (.int r.1)) (fun r => r.2) S [(0, .ref (ad 0 0)), (1, .int v1), (2, .int v2), (3, .int v3)] 48 [] (f_X6_alter_48 S v1 v2 v3) := by
  intro S v1 v2 v3
  rw [f_X6_alter_48]
  refine z_iload_n C 2 dX6_alter_48 rfl ?_
  refine z_iconst (v := 1) C dX6_alter_49 (by decide) ?_
  refine z_icmpne C 87 dX6_alter_50 (by decide) ?_ ?_
  · refine z_iload_n C 3 dX6_alter_53 rfl ?_
    refine z_iconst (v := 1) C dX6_alter_54 (by decide) ?_
    refine z_bipush (v := 9) C dX6_alter_55 (by decide) ?_
    refine y_callZ C (z_invS C [.int v3, .int 1, .int 9] [] (ct_X6_isWithin l G ((fun S : Nat → zM => wS ad G.2 S ++ X) S) v3 1 9) mi_X6_isWithin mt_X6_isWithin ml_RX6_68 (by decide) rfl rfl dX6_alter_57 (Nat.le_of_ble_eq_true rfl)) (List.Perm.refl _) (fun r4 => ?_)
    refine z_zifeq C 87 dX6_alter_60 (by decide) ?_ ?_
    · refine z_aload_n C 0 dX6_alter_63 rfl ?_
      refine z_get C fl_RX6_28 (sHas 0 (by decide) wB_0 (fun _ => has_Top_0)) rfl dX6_alter_64 ?_
      refine z_get C fl_RX6_147 (sHas 4 (by decide) wB_4 (fun _ => has_C_0)) rfl dX6_alter_67 ?_
      refine z_iload_n C 1 dX6_alter_70 rfl ?_
      refine y_iald C (sHas 4 (by decide) wB_4 (fun _ => has_C_3)) dX6_alter_71 ?_
      refine z_istore C [(4, .int ((S 4) 3 (Int32.toNatClampNeg v1))), (0, .ref (ad 0 0)), (1, .int v1), (2, .int v2), (3, .int v3)] dX6_alter_72 (by decide) rfl ?_
      refine z_aload_n C 1 dX6_alter_74 rfl ?_
      refine z_get C fl_RX6_28 (sHas 0 (by decide) wB_0 (fun _ => has_Top_0)) rfl dX6_alter_75 ?_
      refine z_get C fl_RX6_147 (sHas 4 (by decide) wB_4 (fun _ => has_C_0)) rfl dX6_alter_78 ?_
      refine z_iload_n C 2 dX6_alter_81 rfl ?_
      refine z_iload_n C 4 dX6_alter_82 rfl ?_
      refine y_iast C (sUpd 4 (by decide) wB_4 (fun _ => upd_C_3)) dX6_alter_83 (fun S5 => ?_)
      refine z_goto C 129 dX6_alter_84 (by decide) ?_
      refine z_iload C 0 dX6_alter_129 rfl ?_
      exact z_iret C dX6_alter_131 rfl rfl rfl
    exact w_X6_alter_87 C ad X     S v1 v2 v3
  exact w_X6_alter_87 C ad X     S v1 v2 v3
noncomputable def f_X6_alter (S : (Nat → zM)) (v1 : Int32) (v2 : Int32) (v3 : Int32) : Option (Int32 × (Nat → zM)) := (f_X0_hasBeetle (S 4) v1).bind fun r1 => if r1 = true then if v2 = 0 then (f_X6_isKind v3).bind fun r2 => if r2 = true then if z_in v1 6 = true then if z_in v1 6 = true then zlet (va_up S 4 (zU (S 4) 2 (Int32.toNatClampNeg v1) v3)) (fun S3 => some (((S 4) 2 (Int32.toNatClampNeg v1)), S3)) else none else none else f_X6_alter_48  S v1 v2 v3 else f_X6_alter_48  S v1 v2 v3 else some ((-1), S)
set_option maxHeartbeats 4000000 in
set_option maxRecDepth 100000 in
theorem ct_X6_alter (l : Launch) (G : zG) (ad : Nat → Nat → Nat) (X : va_W) (S : (Nat → zM)) (v1 : Int32) (v2 : Int32) (v3 : Int32) : zCt l yX6_alter cX6_alter 5 (some .int) 3 G [.ref (ad 0 0), .int v1, .int v2, .int v3] (fun S : Nat → zM => wS ad G.2 S ++ X) (fun r : Int32 × (Nat → zM) => some (.int r.1)) (fun r => r.2) S (f_X6_alter S v1 v2 v3) := by
  refine zCt.of (by decide) (Nat.le_of_ble_eq_true rfl) (fun p e s m args below meth c A C => ?_)
  refine y_lv (lv' := [(0, .ref (ad 0 0)), (1, .int v1), (2, .int v2), (3, .int v3)]) rfl ?_
  rw [f_X6_alter]
  refine z_aload_n C 0 dX6_alter_0 rfl ?_
  refine z_get C fl_RX6_28 (sHas 0 (by decide) wB_0 (fun _ => has_Top_0)) rfl dX6_alter_1 ?_
  refine z_iload_n C 1 dX6_alter_4 rfl ?_
  refine y_callZ C (z_invV C [.int v1] [] (ct_X0_hasBeetle l G (ad 4) (wR ad G.2 S 4 ++ X) (S 4) v1) mi_X0_hasBeetle md_X0_hasBeetle ms_X0_hasBeetle ml_RX6_141 has_C_0 ⟨_, rfl, rfl⟩ (by decide) rfl rfl dX6_alter_5 (Nat.le_of_ble_eq_true rfl)) (sOut 4 (by decide) wB_4) (fun r1 => ?_)
  refine z_zifne C 13 dX6_alter_8 (by decide) ?_ ?_
  · refine z_iload_n C 2 dX6_alter_13 rfl ?_
    refine z_ifne C 48 dX6_alter_14 (by decide) ?_ ?_
    · refine z_iload_n C 3 dX6_alter_17 rfl ?_
      refine y_callZ C (z_invS C [.int v3] [] (ct_X6_isKind l G ((fun S : Nat → zM => wS ad G.2 S ++ X) S) v3) mi_X6_isKind mt_X6_isKind ml_RX6_168 (by decide) rfl rfl dX6_alter_18 (Nat.le_of_ble_eq_true rfl)) (List.Perm.refl _) (fun r2 => ?_)
      refine z_zifeq C 48 dX6_alter_21 (by decide) ?_ ?_
      · refine z_aload_n C 0 dX6_alter_24 rfl ?_
        refine z_get C fl_RX6_28 (sHas 0 (by decide) wB_0 (fun _ => has_Top_0)) rfl dX6_alter_25 ?_
        refine z_get C fl_RX6_144 (sHas 4 (by decide) wB_4 (fun _ => has_C_0)) rfl dX6_alter_28 ?_
        refine z_iload_n C 1 dX6_alter_31 rfl ?_
        refine y_iald C (sHas 4 (by decide) wB_4 (fun _ => has_C_2)) dX6_alter_32 ?_
        refine z_istore C [(4, .int ((S 4) 2 (Int32.toNatClampNeg v1))), (0, .ref (ad 0 0)), (1, .int v1), (2, .int v2), (3, .int v3)] dX6_alter_33 (by decide) rfl ?_
        refine z_aload_n C 1 dX6_alter_35 rfl ?_
        refine z_get C fl_RX6_28 (sHas 0 (by decide) wB_0 (fun _ => has_Top_0)) rfl dX6_alter_36 ?_
        refine z_get C fl_RX6_144 (sHas 4 (by decide) wB_4 (fun _ => has_C_0)) rfl dX6_alter_39 ?_
        refine z_iload_n C 2 dX6_alter_42 rfl ?_
        refine z_iload_n C 4 dX6_alter_43 rfl ?_
        refine y_iast C (sUpd 4 (by decide) wB_4 (fun _ => upd_C_2)) dX6_alter_44 (fun S3 => ?_)
        refine z_goto C 129 dX6_alter_45 (by decide) ?_
        refine z_iload C 0 dX6_alter_129 rfl ?_
        exact z_iret C dX6_alter_131 rfl rfl rfl
      exact w_X6_alter_48 C ad X     S v1 v2 v3
    exact w_X6_alter_48 C ad X     S v1 v2 v3
  refine z_iconst (v := (-1)) C dX6_alter_11 (by decide) ?_
  exact z_iret C dX6_alter_12 rfl rfl rfl
noncomputable def f_X6_back (S : (Nat → zM)) (v1 : Int32) : Option (Int32 × (Nat → zM)) := (f_X6_isWithin v1 0 1).bind fun r1 => if r1 = true then if z_in v1 2 = true then if ((S (7 + (Int32.toNatClampNeg v1))) 0 0) = 0 then some ((-2), S) else if z_in v1 2 = true then (f_X0_copyFrom (S (9 + (Int32.toNatClampNeg v1))) (S 4)).bind fun r4 => zlet (va_up S 4 r4) fun S5 => if z_in v1 2 = true then (f_X2_copyFrom (S5 (11 + (Int32.toNatClampNeg v1))) (S5 6)).bind fun r7 => zlet (va_up S5 6 r7) fun S8 => some (((S8 4) 0 2), S8) else none else none else none else some ((-1), S)
set_option maxHeartbeats 4000000 in
set_option maxRecDepth 100000 in
theorem ct_X6_back (l : Launch) (G : zG) (ad : Nat → Nat → Nat) (X : va_W) (S : (Nat → zM)) (v1 : Int32) : zCt l yX6_back cX6_back 2 (some .int) 3 G [.ref (ad 0 0), .int v1] (fun S : Nat → zM => wS ad G.2 S ++ X) (fun r : Int32 × (Nat → zM) => some (.int r.1)) (fun r => r.2) S (f_X6_back S v1) := by
  refine zCt.of (by decide) (Nat.le_of_ble_eq_true rfl) (fun p e s m args below meth c A C => ?_)
  refine y_lv (lv' := [(0, .ref (ad 0 0)), (1, .int v1)]) rfl ?_
  rw [f_X6_back]
  refine z_iload_n C 1 dX6_back_0 rfl ?_
  refine z_iconst (v := 0) C dX6_back_1 (by decide) ?_
  refine z_iconst (v := 1) C dX6_back_2 (by decide) ?_
  refine y_callZ C (z_invS C [.int v1, .int 0, .int 1] [] (ct_X6_isWithin l G ((fun S : Nat → zM => wS ad G.2 S ++ X) S) v1 0 1) mi_X6_isWithin mt_X6_isWithin ml_RX6_68 (by decide) rfl rfl dX6_back_3 (Nat.le_of_ble_eq_true rfl)) (List.Perm.refl _) (fun r1 => ?_)
  refine z_zifne C 11 dX6_back_6 (by decide) ?_ ?_
  · refine z_aload_n C 0 dX6_back_11 rfl ?_
    refine z_get C fl_RX6_52 (sHas 0 (by decide) wB_0 (fun _ => has_Top_0)) rfl dX6_back_12 ?_
    refine z_iload_n C 1 dX6_back_15 rfl ?_
    refine y_aald (t0 := 4) (g := fun k => ad (7 + k) 0) C (sHas 0 (by decide) wB_0 (fun _ => has_Top_3)) rfl (fun _ _ => rfl) dX6_back_16 (fun hv2 hq2 => ?_)
    refine z_get C fl_RX6_96 (sHas (7 + (Int32.toNatClampNeg v1)) (by have := hq2; omega) (wB_7 hq2) (fun _ => has_Im_0)) rfl dX6_back_17 ?_
    refine z_ifne C 26 dX6_back_20 (by decide) ?_ ?_
    · refine z_bipush (v := (-2)) C dX6_back_23 (by decide) ?_
      exact z_iret C dX6_back_25 rfl rfl rfl
    refine z_aload_n C 0 dX6_back_26 rfl ?_
    refine z_get C fl_RX6_28 (sHas 0 (by decide) wB_0 (fun _ => has_Top_0)) rfl dX6_back_27 ?_
    refine z_aload_n C 0 dX6_back_30 rfl ?_
    refine z_get C fl_RX6_52 (sHas 0 (by decide) wB_0 (fun _ => has_Top_0)) rfl dX6_back_31 ?_
    refine z_iload_n C 1 dX6_back_34 rfl ?_
    refine y_aald (t0 := 4) (g := fun k => ad (7 + k) 0) C (sHas 0 (by decide) wB_0 (fun _ => has_Top_3)) rfl (fun _ _ => rfl) dX6_back_35 (fun hv3 hq3 => ?_)
    refine z_get C fl_RX6_235 (sHas (7 + (Int32.toNatClampNeg v1)) (by have := hq3; omega) (wB_7 hq3) (fun _ => has_Im_0)) rfl dX6_back_36 ?_
    refine y_callVS C (z_invV C [.ref (ad (9 + (Int32.toNatClampNeg v1)) 0)] [] (ct_X0_copyFrom l G (ad 4) (ad (9 + (Int32.toNatClampNeg v1))) (wR2 ad G.2 S 4 (9 + (Int32.toNatClampNeg v1)) ++ X) (S (9 + (Int32.toNatClampNeg v1))) (S 4) ) mi_X0_copyFrom md_X0_copyFrom ms_X0_copyFrom ml_RX6_89 has_C_0 ⟨_, rfl, rfl⟩ (by decide) rfl rfl dX6_back_39 (Nat.le_of_ble_eq_true rfl)) (sOut2 4 (9 + (Int32.toNatClampNeg v1)) (by decide) (by have := hq3; omega) (by have := hq3; omega) wB_4 (wB_9 hq3)) (fun _ => sIn2 4 (9 + (Int32.toNatClampNeg v1)) (by decide) (by have := hq3; omega) (by have := hq3; omega) wB_4 (wB_9 hq3) _) (fun r4 S5 => ?_)
    refine z_aload_n C 0 dX6_back_42 rfl ?_
    refine z_get C fl_RX6_35 (sHas 0 (by decide) wB_0 (fun _ => has_Top_0)) rfl dX6_back_43 ?_
    refine z_aload_n C 0 dX6_back_46 rfl ?_
    refine z_get C fl_RX6_52 (sHas 0 (by decide) wB_0 (fun _ => has_Top_0)) rfl dX6_back_47 ?_
    refine z_iload_n C 1 dX6_back_50 rfl ?_
    refine y_aald (t0 := 4) (g := fun k => ad (7 + k) 0) C (sHas 0 (by decide) wB_0 (fun _ => has_Top_3)) rfl (fun _ _ => rfl) dX6_back_51 (fun hv6 hq6 => ?_)
    refine z_get C fl_RX6_238 (sHas (7 + (Int32.toNatClampNeg v1)) (by have := hq6; omega) (wB_7 hq6) (fun _ => has_Im_0)) rfl dX6_back_52 ?_
    refine y_callVS C (z_invV C [.ref (ad (11 + (Int32.toNatClampNeg v1)) 0)] [] (ct_X2_copyFrom l G (ad 6) (ad (11 + (Int32.toNatClampNeg v1))) (wR2 ad G.2 S5 6 (11 + (Int32.toNatClampNeg v1)) ++ X) (S5 (11 + (Int32.toNatClampNeg v1))) (S5 6) ) mi_X2_copyFrom md_X2_copyFrom ms_X2_copyFrom ml_RX6_239 has_Sn_0 ⟨_, rfl, rfl⟩ (by decide) rfl rfl dX6_back_55 (Nat.le_of_ble_eq_true rfl)) (sOut2 6 (11 + (Int32.toNatClampNeg v1)) (by decide) (by have := hq6; omega) (by have := hq6; omega) wB_6 (wB_11 hq6)) (fun _ => sIn2 6 (11 + (Int32.toNatClampNeg v1)) (by decide) (by have := hq6; omega) (by have := hq6; omega) wB_6 (wB_11 hq6) _) (fun r7 S8 => ?_)
    refine z_aload_n C 0 dX6_back_58 rfl ?_
    refine z_get C fl_RX6_28 (sHas 0 (by decide) wB_0 (fun _ => has_Top_0)) rfl dX6_back_59 ?_
    refine z_get C fl_RX6_112 (sHas 4 (by decide) wB_4 (fun _ => has_C_0)) rfl dX6_back_62 ?_
    exact z_iret C dX6_back_65 rfl rfl rfl
  refine z_iconst (v := (-1)) C dX6_back_9 (by decide) ?_
  exact z_iret C dX6_back_10 rfl rfl rfl
noncomputable def f_X6_keep_28 (S : (Nat → zM)) (v1 : Int32) (t0 : Bool) : Option (Int32 × (Nat → zM)) := if z_in v1 2 = true then (f_X0_copyFrom (S 4) (S (9 + (Int32.toNatClampNeg v1)))).bind fun r4 => zlet (va_up S (9 + (Int32.toNatClampNeg v1)) r4) fun S5 => if z_in v1 2 = true then (f_X2_copyFrom (S5 6) (S5 (11 + (Int32.toNatClampNeg v1)))).bind fun r7 => zlet (va_up S5 (11 + (Int32.toNatClampNeg v1)) r7) fun S8 => if z_in v1 2 = true then zlet (va_up S8 (7 + (Int32.toNatClampNeg v1)) (zU (S8 (7 + (Int32.toNatClampNeg v1))) 0 0 1)) fun S10 => some ((zb t0), S10) else none else none else none
set_option maxHeartbeats 4000000 in
set_option maxRecDepth 100000 in
theorem w_X6_keep_28 {p : Program} {l : Launch} {e : Env} {s : State} {m : MethodId} {args : Array Value} {below : List Frame} {meth : Method} {c : Code} {G : zG} {A : Nat → Prop} (C : zC p s m args meth c RX6 cX6_keep 3 (some .int) G A) (ad : Nat → Nat → Nat) (X : va_W) : ∀ (S : (Nat → zM)) (v1 : Int32) (t0 : Bool), PW p l e 3 s m args below meth c G A 3 (fun S : Nat → zM => wS ad G.2 S ++ X) (fun r : Int32 × (Nat → zM) => some (.int r.1)) (fun r => r.2) S [(0, .ref (ad 0 0)), (1, .int v1)] 28 [.int (zb t0)] (f_X6_keep_28 S v1 t0) := by
  intro S v1 t0
  rw [f_X6_keep_28]
  refine z_istore_n C [(2, .int (zb t0)), (0, .ref (ad 0 0)), (1, .int v1)] dX6_keep_28 (by decide) rfl ?_
  refine z_aload_n C 1 dX6_keep_29 rfl ?_
  refine z_get C fl_RX6_52 (sHas 0 (by decide) wB_0 (fun _ => has_Top_0)) rfl dX6_keep_30 ?_
  refine z_iload_n C 2 dX6_keep_33 rfl ?_
  refine y_aald (t0 := 4) (g := fun k => ad (7 + k) 0) C (sHas 0 (by decide) wB_0 (fun _ => has_Top_3)) rfl (fun _ _ => rfl) dX6_keep_34 (fun hv3 hq3 => ?_)
  refine z_get C fl_RX6_235 (sHas (7 + (Int32.toNatClampNeg v1)) (by have := hq3; omega) (wB_7 hq3) (fun _ => has_Im_0)) rfl dX6_keep_35 ?_
  refine z_aload_n C 1 dX6_keep_38 rfl ?_
  refine z_get C fl_RX6_28 (sHas 0 (by decide) wB_0 (fun _ => has_Top_0)) rfl dX6_keep_39 ?_
  refine y_callVS C (z_invV C [.ref (ad 4 0)] [] (ct_X0_copyFrom l G (ad (9 + (Int32.toNatClampNeg v1))) (ad 4) (wR2 ad G.2 S (9 + (Int32.toNatClampNeg v1)) 4 ++ X) (S 4) (S (9 + (Int32.toNatClampNeg v1))) ) mi_X0_copyFrom md_X0_copyFrom ms_X0_copyFrom ml_RX6_89 has_C_0 ⟨_, rfl, rfl⟩ (by decide) rfl rfl dX6_keep_42 (Nat.le_of_ble_eq_true rfl)) (sOut2 (9 + (Int32.toNatClampNeg v1)) 4 (by have := hq3; omega) (by decide) (by have := hq3; omega) (wB_9 hq3) wB_4) (fun _ => sIn2 (9 + (Int32.toNatClampNeg v1)) 4 (by have := hq3; omega) (by decide) (by have := hq3; omega) (wB_9 hq3) wB_4 _) (fun r4 S5 => ?_)
  refine z_aload_n C 1 dX6_keep_45 rfl ?_
  refine z_get C fl_RX6_52 (sHas 0 (by decide) wB_0 (fun _ => has_Top_0)) rfl dX6_keep_46 ?_
  refine z_iload_n C 2 dX6_keep_49 rfl ?_
  refine y_aald (t0 := 4) (g := fun k => ad (7 + k) 0) C (sHas 0 (by decide) wB_0 (fun _ => has_Top_3)) rfl (fun _ _ => rfl) dX6_keep_50 (fun hv6 hq6 => ?_)
  refine z_get C fl_RX6_238 (sHas (7 + (Int32.toNatClampNeg v1)) (by have := hq6; omega) (wB_7 hq6) (fun _ => has_Im_0)) rfl dX6_keep_51 ?_
  refine z_aload_n C 1 dX6_keep_54 rfl ?_
  refine z_get C fl_RX6_35 (sHas 0 (by decide) wB_0 (fun _ => has_Top_0)) rfl dX6_keep_55 ?_
  refine y_callVS C (z_invV C [.ref (ad 6 0)] [] (ct_X2_copyFrom l G (ad (11 + (Int32.toNatClampNeg v1))) (ad 6) (wR2 ad G.2 S5 (11 + (Int32.toNatClampNeg v1)) 6 ++ X) (S5 6) (S5 (11 + (Int32.toNatClampNeg v1))) ) mi_X2_copyFrom md_X2_copyFrom ms_X2_copyFrom ml_RX6_239 has_Sn_0 ⟨_, rfl, rfl⟩ (by decide) rfl rfl dX6_keep_58 (Nat.le_of_ble_eq_true rfl)) (sOut2 (11 + (Int32.toNatClampNeg v1)) 6 (by have := hq6; omega) (by decide) (by have := hq6; omega) (wB_11 hq6) wB_6) (fun _ => sIn2 (11 + (Int32.toNatClampNeg v1)) 6 (by have := hq6; omega) (by decide) (by have := hq6; omega) (wB_11 hq6) wB_6 _) (fun r7 S8 => ?_)
  refine z_aload_n C 1 dX6_keep_61 rfl ?_
  refine z_get C fl_RX6_52 (sHas 0 (by decide) wB_0 (fun _ => has_Top_0)) rfl dX6_keep_62 ?_
  refine z_iload_n C 2 dX6_keep_65 rfl ?_
  refine y_aald (t0 := 4) (g := fun k => ad (7 + k) 0) C (sHas 0 (by decide) wB_0 (fun _ => has_Top_3)) rfl (fun _ _ => rfl) dX6_keep_66 (fun hv9 hq9 => ?_)
  refine z_iconst (v := 1) C dX6_keep_67 (by decide) ?_
  refine z_put C fl_RX6_96 ft_1_0 (sUpd (7 + (Int32.toNatClampNeg v1)) (by have := hq9; omega) (wB_7 hq9) (fun _ => upd_Im_0_0)) rfl rfl (Nat.le_of_ble_eq_true rfl) dX6_keep_68 (fun S10 => ?_)
  refine z_iload_n C 0 dX6_keep_71 rfl ?_
  exact z_iret C dX6_keep_72 rfl rfl rfl
noncomputable def f_X6_keep (S : (Nat → zM)) (v1 : Int32) : Option (Int32 × (Nat → zM)) := (f_X6_isWithin v1 0 1).bind fun r1 => if r1 = true then if z_in v1 2 = true then if ((S (7 + (Int32.toNatClampNeg v1))) 0 0) = 0 then f_X6_keep_28  S v1 false else f_X6_keep_28  S v1 true else none else some ((-1), S)
set_option maxHeartbeats 4000000 in
set_option maxRecDepth 100000 in
theorem ct_X6_keep (l : Launch) (G : zG) (ad : Nat → Nat → Nat) (X : va_W) (S : (Nat → zM)) (v1 : Int32) : zCt l yX6_keep cX6_keep 3 (some .int) 3 G [.ref (ad 0 0), .int v1] (fun S : Nat → zM => wS ad G.2 S ++ X) (fun r : Int32 × (Nat → zM) => some (.int r.1)) (fun r => r.2) S (f_X6_keep S v1) := by
  refine zCt.of (by decide) (Nat.le_of_ble_eq_true rfl) (fun p e s m args below meth c A C => ?_)
  refine y_lv (lv' := [(0, .ref (ad 0 0)), (1, .int v1)]) rfl ?_
  rw [f_X6_keep]
  refine z_iload_n C 1 dX6_keep_0 rfl ?_
  refine z_iconst (v := 0) C dX6_keep_1 (by decide) ?_
  refine z_iconst (v := 1) C dX6_keep_2 (by decide) ?_
  refine y_callZ C (z_invS C [.int v1, .int 0, .int 1] [] (ct_X6_isWithin l G ((fun S : Nat → zM => wS ad G.2 S ++ X) S) v1 0 1) mi_X6_isWithin mt_X6_isWithin ml_RX6_68 (by decide) rfl rfl dX6_keep_3 (Nat.le_of_ble_eq_true rfl)) (List.Perm.refl _) (fun r1 => ?_)
  refine z_zifne C 11 dX6_keep_6 (by decide) ?_ ?_
  · refine z_aload_n C 0 dX6_keep_11 rfl ?_
    refine z_get C fl_RX6_52 (sHas 0 (by decide) wB_0 (fun _ => has_Top_0)) rfl dX6_keep_12 ?_
    refine z_iload_n C 1 dX6_keep_15 rfl ?_
    refine y_aald (t0 := 4) (g := fun k => ad (7 + k) 0) C (sHas 0 (by decide) wB_0 (fun _ => has_Top_3)) rfl (fun _ _ => rfl) dX6_keep_16 (fun hv2 hq2 => ?_)
    refine z_get C fl_RX6_96 (sHas (7 + (Int32.toNatClampNeg v1)) (by have := hq2; omega) (wB_7 hq2) (fun _ => has_Im_0)) rfl dX6_keep_17 ?_
    refine z_ifeq C 27 dX6_keep_20 (by decide) ?_ ?_
    · refine z_iconst (v := 0) C dX6_keep_27 (by decide) ?_
      exact w_X6_keep_28 C ad X     S v1 false
    refine z_iconst (v := 1) C dX6_keep_23 (by decide) ?_
    refine z_goto C 28 dX6_keep_24 (by decide) ?_
    exact w_X6_keep_28 C ad X     S v1 true
  refine z_iconst (v := (-1)) C dX6_keep_9 (by decide) ?_
  exact z_iret C dX6_keep_10 rfl rfl rfl
noncomputable def f_X6_lay (S : (Nat → zM)) (v1 : Int32) (v2 : Int32) (v3 : Int32) : Option (Int32 × (Nat → zM)) := (f_X6_isWithin v1 0 3).bind fun r1 => if r1 = true then if z_in v1 4 = true then if z_in v1 4 = true then (f_X3_faultAt_ (S (13 + (Int32.toNatClampNeg v1))) ((S (13 + (Int32.toNatClampNeg v1))) 0 0) v2).bind fun r4 => if r4 = 0 then if z_in v1 4 = true then (f_X3_put (S (13 + (Int32.toNatClampNeg v1))) v2 v3).bind fun r6 => zlet (va_up S (13 + (Int32.toNatClampNeg v1)) r6) fun S7 => some (1, S7) else none else some (((-10) - r4), S) else none else none else some ((-1), S)
set_option maxHeartbeats 4000000 in
set_option maxRecDepth 100000 in
theorem ct_X6_lay (l : Launch) (G : zG) (ad : Nat → Nat → Nat) (X : va_W) (S : (Nat → zM)) (v1 : Int32) (v2 : Int32) (v3 : Int32) : zCt l yX6_lay cX6_lay 5 (some .int) 3 G [.ref (ad 0 0), .int v1, .int v2, .int v3] (fun S : Nat → zM => wS ad G.2 S ++ X) (fun r : Int32 × (Nat → zM) => some (.int r.1)) (fun r => r.2) S (f_X6_lay S v1 v2 v3) := by
  refine zCt.of (by decide) (Nat.le_of_ble_eq_true rfl) (fun p e s m args below meth c A C => ?_)
  refine y_lv (lv' := [(0, .ref (ad 0 0)), (1, .int v1), (2, .int v2), (3, .int v3)]) rfl ?_
  rw [f_X6_lay]
  refine z_iload_n C 1 dX6_lay_0 rfl ?_
  refine z_iconst (v := 0) C dX6_lay_1 (by decide) ?_
  refine z_iconst (v := 3) C dX6_lay_2 (by decide) ?_
  refine y_callZ C (z_invS C [.int v1, .int 0, .int 3] [] (ct_X6_isWithin l G ((fun S : Nat → zM => wS ad G.2 S ++ X) S) v1 0 3) mi_X6_isWithin mt_X6_isWithin ml_RX6_68 (by decide) rfl rfl dX6_lay_3 (Nat.le_of_ble_eq_true rfl)) (List.Perm.refl _) (fun r1 => ?_)
  refine z_zifne C 11 dX6_lay_6 (by decide) ?_ ?_
  · refine z_aload_n C 0 dX6_lay_11 rfl ?_
    refine z_get C fl_RX6_58 (sHas 0 (by decide) wB_0 (fun _ => has_Top_0)) rfl dX6_lay_12 ?_
    refine z_iload_n C 1 dX6_lay_15 rfl ?_
    refine y_aald (t0 := 5) (g := fun k => ad (13 + k) 0) C (sHas 0 (by decide) wB_0 (fun _ => has_Top_4)) rfl (fun _ _ => rfl) dX6_lay_16 (fun hv2 hq2 => ?_)
    refine z_aload_n C 0 dX6_lay_17 rfl ?_
    refine z_get C fl_RX6_58 (sHas 0 (by decide) wB_0 (fun _ => has_Top_0)) rfl dX6_lay_18 ?_
    refine z_iload_n C 1 dX6_lay_21 rfl ?_
    refine y_aald (t0 := 5) (g := fun k => ad (13 + k) 0) C (sHas 0 (by decide) wB_0 (fun _ => has_Top_4)) rfl (fun _ _ => rfl) dX6_lay_22 (fun hv3 hq3 => ?_)
    refine z_get C fl_RX6_245 (sHas (13 + (Int32.toNatClampNeg v1)) (by have := hq3; omega) (wB_13 hq3) (fun _ => has_Sh_0)) rfl dX6_lay_23 ?_
    refine z_iload_n C 2 dX6_lay_26 rfl ?_
    refine y_callI C (z_invV C [.int ((S (13 + (Int32.toNatClampNeg v1))) 0 0), .int v2] [] (ct_X3_faultAt_ l G (ad (13 + (Int32.toNatClampNeg v1))) (wR ad G.2 S (13 + (Int32.toNatClampNeg v1)) ++ X) (S (13 + (Int32.toNatClampNeg v1))) ((S (13 + (Int32.toNatClampNeg v1))) 0 0) v2) mi_X3_faultAt_ md_X3_faultAt_ ms_X3_faultAt_ ml_RX6_248 has_Sh_0 ⟨_, rfl, rfl⟩ (by decide) rfl rfl dX6_lay_27 (Nat.le_of_ble_eq_true rfl)) (sOut (13 + (Int32.toNatClampNeg v1)) (by have := hq2; omega) (wB_13 hq2)) (fun r4 => ?_)
    refine z_istore C [(4, .int r4), (0, .ref (ad 0 0)), (1, .int v1), (2, .int v2), (3, .int v3)] dX6_lay_30 (by decide) rfl ?_
    refine z_iload C 0 dX6_lay_32 rfl ?_
    refine z_ifeq C 43 dX6_lay_34 (by decide) ?_ ?_
    · refine z_aload_n C 1 dX6_lay_43 rfl ?_
      refine z_get C fl_RX6_58 (sHas 0 (by decide) wB_0 (fun _ => has_Top_0)) rfl dX6_lay_44 ?_
      refine z_iload_n C 2 dX6_lay_47 rfl ?_
      refine y_aald (t0 := 5) (g := fun k => ad (13 + k) 0) C (sHas 0 (by decide) wB_0 (fun _ => has_Top_4)) rfl (fun _ _ => rfl) dX6_lay_48 (fun hv5 hq5 => ?_)
      refine z_iload_n C 3 dX6_lay_49 rfl ?_
      refine z_iload_n C 4 dX6_lay_50 rfl ?_
      refine y_callVS C (z_invV C [.int v2, .int v3] [] (ct_X3_put l G (ad (13 + (Int32.toNatClampNeg v1))) (wR ad G.2 S (13 + (Int32.toNatClampNeg v1)) ++ X) (S (13 + (Int32.toNatClampNeg v1))) v2 v3) mi_X3_put md_X3_put ms_X3_put ml_RX6_250 has_Sh_0 ⟨_, rfl, rfl⟩ (by decide) rfl rfl dX6_lay_51 (Nat.le_of_ble_eq_true rfl)) (sOut (13 + (Int32.toNatClampNeg v1)) (by have := hq5; omega) (wB_13 hq5)) (fun _ => sIn (13 + (Int32.toNatClampNeg v1)) (by have := hq5; omega) (wB_13 hq5) _) (fun r6 S7 => ?_)
      refine z_iconst (v := 1) C dX6_lay_54 (by decide) ?_
      exact z_iret C dX6_lay_55 rfl rfl rfl
    refine z_bipush (v := (-10)) C dX6_lay_37 (by decide) ?_
    refine z_iload C 0 dX6_lay_39 rfl ?_
    refine z_isub C dX6_lay_41 ?_
    exact z_iret C dX6_lay_42 rfl rfl rfl
  refine z_iconst (v := (-1)) C dX6_lay_9 (by decide) ?_
  exact z_iret C dX6_lay_10 rfl rfl rfl
noncomputable def f_X6_meet (S : (Nat → zM)) (v1 : Int32) (v2 : Int32) : Option (Int32) := (f_X0_hasOne (S 4) v1).bind fun r1 => if r1 = true then (f_X0_hasOne (S 4) v2).bind fun r2 => if r2 = true then if v1 = v2 then some (-1) else (f_X0_counted (S 4) v1).bind fun r3 => (f_X0_counted (S 4) v2).bind fun r4 => if r3 = r4 then some (-4) else if r4 ≤ r3 then some v2 else some v1 else some (-1) else some (-1)
set_option maxHeartbeats 4000000 in
set_option maxRecDepth 100000 in
theorem ct_X6_meet (l : Launch) (G : zG) (ad : Nat → Nat → Nat) (X : va_W) (S : (Nat → zM)) (v1 : Int32) (v2 : Int32) : zCt l yX6_meet cX6_meet 5 (some .int) 3 G [.ref (ad 0 0), .int v1, .int v2] (fun S : Nat → zM => wS ad G.2 S ++ X) (fun r : Int32 => some (.int r)) (fun _ => S) S (f_X6_meet S v1 v2) := by
  refine zCt.of (by decide) (Nat.le_of_ble_eq_true rfl) (fun p e s m args below meth c A C => ?_)
  refine y_lv (lv' := [(0, .ref (ad 0 0)), (1, .int v1), (2, .int v2)]) rfl ?_
  rw [f_X6_meet]
  refine z_aload_n C 0 dX6_meet_0 rfl ?_
  refine z_get C fl_RX6_28 (sHas 0 (by decide) wB_0 (fun _ => has_Top_0)) rfl dX6_meet_1 ?_
  refine z_iload_n C 1 dX6_meet_4 rfl ?_
  refine y_callZ C (z_invV C [.int v1] [] (ct_X0_hasOne l G (ad 4) (wR ad G.2 S 4 ++ X) (S 4) v1) mi_X0_hasOne md_X0_hasOne ms_X0_hasOne ml_RX6_125 has_C_0 ⟨_, rfl, rfl⟩ (by decide) rfl rfl dX6_meet_5 (Nat.le_of_ble_eq_true rfl)) (sOut 4 (by decide) wB_4) (fun r1 => ?_)
  refine z_zifeq C 27 dX6_meet_8 (by decide) ?_ ?_
  · refine z_aload_n C 0 dX6_meet_11 rfl ?_
    refine z_get C fl_RX6_28 (sHas 0 (by decide) wB_0 (fun _ => has_Top_0)) rfl dX6_meet_12 ?_
    refine z_iload_n C 2 dX6_meet_15 rfl ?_
    refine y_callZ C (z_invV C [.int v2] [] (ct_X0_hasOne l G (ad 4) (wR ad G.2 S 4 ++ X) (S 4) v2) mi_X0_hasOne md_X0_hasOne ms_X0_hasOne ml_RX6_125 has_C_0 ⟨_, rfl, rfl⟩ (by decide) rfl rfl dX6_meet_16 (Nat.le_of_ble_eq_true rfl)) (sOut 4 (by decide) wB_4) (fun r2 => ?_)
    refine z_zifeq C 27 dX6_meet_19 (by decide) ?_ ?_
    · refine z_iload_n C 1 dX6_meet_22 rfl ?_
      refine z_iload_n C 2 dX6_meet_23 rfl ?_
      refine z_icmpne C 29 dX6_meet_24 (by decide) ?_ ?_
      · refine z_iconst (v := (-1)) C dX6_meet_27 (by decide) ?_
        exact z_iret C dX6_meet_28 rfl rfl rfl
      refine z_aload_n C 0 dX6_meet_29 rfl ?_
      refine z_get C fl_RX6_28 (sHas 0 (by decide) wB_0 (fun _ => has_Top_0)) rfl dX6_meet_30 ?_
      refine z_iload_n C 1 dX6_meet_33 rfl ?_
      refine y_callI C (z_invV C [.int v1] [] (ct_X0_counted l G (ad 4) (wR ad G.2 S 4 ++ X) (S 4) v1) mi_X0_counted md_X0_counted ms_X0_counted ml_RX6_135 has_C_0 ⟨_, rfl, rfl⟩ (by decide) rfl rfl dX6_meet_34 (Nat.le_of_ble_eq_true rfl)) (sOut 4 (by decide) wB_4) (fun r3 => ?_)
      refine z_istore_n C [(3, .int r3), (0, .ref (ad 0 0)), (1, .int v1), (2, .int v2)] dX6_meet_37 (by decide) rfl ?_
      refine z_aload_n C 1 dX6_meet_38 rfl ?_
      refine z_get C fl_RX6_28 (sHas 0 (by decide) wB_0 (fun _ => has_Top_0)) rfl dX6_meet_39 ?_
      refine z_iload_n C 3 dX6_meet_42 rfl ?_
      refine y_callI C (z_invV C [.int v2] [] (ct_X0_counted l G (ad 4) (wR ad G.2 S 4 ++ X) (S 4) v2) mi_X0_counted md_X0_counted ms_X0_counted ml_RX6_135 has_C_0 ⟨_, rfl, rfl⟩ (by decide) rfl rfl dX6_meet_43 (Nat.le_of_ble_eq_true rfl)) (sOut 4 (by decide) wB_4) (fun r4 => ?_)
      refine z_istore C [(4, .int r4), (3, .int r3), (0, .ref (ad 0 0)), (1, .int v1), (2, .int v2)] dX6_meet_46 (by decide) rfl ?_
      refine z_iload_n C 1 dX6_meet_48 rfl ?_
      refine z_iload C 0 dX6_meet_49 rfl ?_
      refine z_icmpne C 57 dX6_meet_51 (by decide) ?_ ?_
      · refine z_bipush (v := (-4)) C dX6_meet_54 (by decide) ?_
        exact z_iret C dX6_meet_56 rfl rfl rfl
      refine z_iload_n C 1 dX6_meet_57 rfl ?_
      refine z_iload C 0 dX6_meet_58 rfl ?_
      refine z_icmpge C 67 dX6_meet_60 (by decide) ?_ ?_
      · refine z_iload_n C 4 dX6_meet_67 rfl ?_
        exact z_iret C dX6_meet_68 rfl rfl rfl
      refine z_iload_n C 3 dX6_meet_63 rfl ?_
      refine z_goto C 68 dX6_meet_64 (by decide) ?_
      exact z_iret C dX6_meet_68 rfl rfl rfl
    refine z_iconst (v := (-1)) C dX6_meet_27 (by decide) ?_
    exact z_iret C dX6_meet_28 rfl rfl rfl
  refine z_iconst (v := (-1)) C dX6_meet_27 (by decide) ?_
  exact z_iret C dX6_meet_28 rfl rfl rfl
noncomputable def f_X6_mostLeftBy_58 (k40 : (Nat → zM) → Int32 → Int32 → Int32 → Option (Int32 × (Nat → zM))) : Nat → (Nat → zM) → Int32 → Int32 → Int32 → Int32 → Int32 → Option (Int32 × (Nat → zM))
  | 0, _, _, _, _, _, _ => none
  | n + 1, S, v2, v3, v4, v5, v6 => if ((S 4) 0 0) ≤ v6 then if ((v2 >>> ((v4 : Int32) &&& 31)) &&& 1) = 1 then k40 S v2 (if v3 < v5 then v5 else v3) (v4 + 1) else k40 S v2 v3 (v4 + 1) else if ((v2 >>> ((v6 : Int32) &&& 31)) &&& 1) = 1 then if z_in v6 4 = true then if z_in v4 4 = true then if ((S 0) 1 (Int32.toNatClampNeg v6)) = ((S 0) 1 (Int32.toNatClampNeg v4)) then f_X6_mostLeftBy_58 k40 n S v2 v3 v4 (v5 + 1) (v6 + 1) else f_X6_mostLeftBy_58 k40 n S v2 v3 v4 v5 (v6 + 1) else none else none else f_X6_mostLeftBy_58 k40 n S v2 v3 v4 v5 (v6 + 1)
set_option maxHeartbeats 4000000 in
set_option maxRecDepth 100000 in
theorem w_X6_mostLeftBy_58 {p : Program} {l : Launch} {e : Env} {s : State} {m : MethodId} {args : Array Value} {below : List Frame} {meth : Method} {c : Code} {G : zG} {A : Nat → Prop} (C : zC p s m args meth c RX6 cX6_mostLeftBy 7 (some .int) G A) (ad : Nat → Nat → Nat) (X : va_W) (k40 : (Nat → zM) → Int32 → Int32 → Int32 → Option (Int32 × (Nat → zM))) (hk40 : ∀ (S : (Nat → zM)) (v2 : Int32) (v3 : Int32) (v4 : Int32), PW p l e 3 s m args below meth c G A 7 (fun S : Nat → zM => wS ad G.2 S ++ X) (fun r : Int32 × (Nat → zM) => some (.int r.1)) (fun r => r.2) S [(0, .ref (ad 0 0)), (2, .int v2), (3, .int v3), (4, .int v4)] 40 [] (k40 S v2 v3 v4)) : ∀ (n : Nat) (S : (Nat → zM)) (v2 : Int32) (v3 : Int32) (v4 : Int32) (v5 : Int32) (v6 : Int32), PW p l e 3 s m args below meth c G A 7 (fun S : Nat → zM => wS ad G.2 S ++ X) (fun r : Int32 × (Nat → zM) => some (.int r.1)) (fun r => r.2) S [(0, .ref (ad 0 0)), (2, .int v2), (3, .int v3), (4, .int v4), (5, .int v5), (6, .int v6)] 58 [] (f_X6_mostLeftBy_58 k40 n S v2 v3 v4 v5 v6) := by
  intro n
  induction n with
  | zero => intros; exact z_none
  | succ n ih =>
    intro S v2 v3 v4 v5 v6
    rw [f_X6_mostLeftBy_58]
    refine z_iload C 5 dX6_mostLeftBy_58 rfl ?_
    refine z_aload_n C 0 dX6_mostLeftBy_60 rfl ?_
    refine z_get C fl_RX6_28 (sHas 0 (by decide) wB_0 (fun _ => has_Top_0)) rfl dX6_mostLeftBy_61 ?_
    refine z_get C fl_RX6_106 (sHas 4 (by decide) wB_4 (fun _ => has_C_0)) rfl dX6_mostLeftBy_64 ?_
    refine z_icmpge C 106 dX6_mostLeftBy_67 (by decide) ?_ ?_
    · refine z_iload_n C 1 dX6_mostLeftBy_106 rfl ?_
      refine z_iload C 3 dX6_mostLeftBy_107 rfl ?_
      refine z_ishr C dX6_mostLeftBy_109 ?_
      refine z_iconst (v := 1) C dX6_mostLeftBy_110 (by decide) ?_
      refine z_iand C dX6_mostLeftBy_111 ?_
      refine z_iconst (v := 1) C dX6_mostLeftBy_112 (by decide) ?_
      refine z_icmpne C 123 dX6_mostLeftBy_113 (by decide) ?_ ?_
      · refine z_iload_n C 2 dX6_mostLeftBy_116 rfl ?_
        refine z_iload C 4 dX6_mostLeftBy_117 rfl ?_
        refine y_max C 696 (by decide +kernel) (by decide) dX6_mostLeftBy_119 (Nat.le_of_ble_eq_true rfl) ?_
        refine z_istore_n C [(3, .int (if v3 < v5 then v5 else v3)), (0, .ref (ad 0 0)), (2, .int v2), (4, .int v4), (5, .int v5), (6, .int v6)] dX6_mostLeftBy_122 (by decide) rfl ?_
        refine z_iinc C (v := (v4 + 1)) 3 [(4, .int (v4 + 1)), (3, .int (if v3 < v5 then v5 else v3)), (0, .ref (ad 0 0)), (2, .int v2), (5, .int v5), (6, .int v6)] dX6_mostLeftBy_123 rfl rfl (by decide) rfl ?_
        refine z_goto C 40 dX6_mostLeftBy_126 (by decide) ?_
        refine z_loc C [(0, .ref (ad 0 0)), (2, .int v2), (3, .int (if v3 < v5 then v5 else v3)), (4, .int (v4 + 1))] [2, 3, 1, 0] rfl ?_
        exact hk40 S v2 (if v3 < v5 then v5 else v3) (v4 + 1)
      refine z_iinc C (v := (v4 + 1)) 3 [(4, .int (v4 + 1)), (0, .ref (ad 0 0)), (2, .int v2), (3, .int v3), (5, .int v5), (6, .int v6)] dX6_mostLeftBy_123 rfl rfl (by decide) rfl ?_
      refine z_goto C 40 dX6_mostLeftBy_126 (by decide) ?_
      refine z_loc C [(0, .ref (ad 0 0)), (2, .int v2), (3, .int v3), (4, .int (v4 + 1))] [1, 2, 3, 0] rfl ?_
      exact hk40 S v2 v3 (v4 + 1)
    refine z_iload_n C 1 dX6_mostLeftBy_70 rfl ?_
    refine z_iload C 5 dX6_mostLeftBy_71 rfl ?_
    refine z_ishr C dX6_mostLeftBy_73 ?_
    refine z_iconst (v := 1) C dX6_mostLeftBy_74 (by decide) ?_
    refine z_iand C dX6_mostLeftBy_75 ?_
    refine z_iconst (v := 1) C dX6_mostLeftBy_76 (by decide) ?_
    refine z_icmpne C 100 dX6_mostLeftBy_77 (by decide) ?_ ?_
    · refine z_aload_n C 0 dX6_mostLeftBy_80 rfl ?_
      refine z_get C fl_RX6_46 (sHas 0 (by decide) wB_0 (fun _ => has_Top_0)) rfl dX6_mostLeftBy_81 ?_
      refine z_iload C 5 dX6_mostLeftBy_84 rfl ?_
      refine y_iald C (sHas 0 (by decide) wB_0 (fun _ => has_Top_1)) dX6_mostLeftBy_86 ?_
      refine z_aload_n C 0 dX6_mostLeftBy_87 rfl ?_
      refine z_get C fl_RX6_46 (sHas 0 (by decide) wB_0 (fun _ => has_Top_0)) rfl dX6_mostLeftBy_88 ?_
      refine z_iload C 3 dX6_mostLeftBy_91 rfl ?_
      refine y_iald C (sHas 0 (by decide) wB_0 (fun _ => has_Top_1)) dX6_mostLeftBy_93 ?_
      refine z_icmpne C 100 dX6_mostLeftBy_94 (by decide) ?_ ?_
      · refine z_iinc C (v := (v5 + 1)) 4 [(5, .int (v5 + 1)), (0, .ref (ad 0 0)), (2, .int v2), (3, .int v3), (4, .int v4), (6, .int v6)] dX6_mostLeftBy_97 rfl rfl (by decide) rfl ?_
        refine z_iinc C (v := (v6 + 1)) 5 [(6, .int (v6 + 1)), (5, .int (v5 + 1)), (0, .ref (ad 0 0)), (2, .int v2), (3, .int v3), (4, .int v4)] dX6_mostLeftBy_100 rfl rfl (by decide) rfl ?_
        refine z_goto C 58 dX6_mostLeftBy_103 (by decide) ?_
        refine z_loc C [(0, .ref (ad 0 0)), (2, .int v2), (3, .int v3), (4, .int v4), (5, .int (v5 + 1)), (6, .int (v6 + 1))] [2, 3, 4, 5, 1, 0] rfl ?_
        exact ih S v2 v3 v4 (v5 + 1) (v6 + 1)
      refine z_iinc C (v := (v6 + 1)) 5 [(6, .int (v6 + 1)), (0, .ref (ad 0 0)), (2, .int v2), (3, .int v3), (4, .int v4), (5, .int v5)] dX6_mostLeftBy_100 rfl rfl (by decide) rfl ?_
      refine z_goto C 58 dX6_mostLeftBy_103 (by decide) ?_
      refine z_loc C [(0, .ref (ad 0 0)), (2, .int v2), (3, .int v3), (4, .int v4), (5, .int v5), (6, .int (v6 + 1))] [1, 2, 3, 4, 5, 0] rfl ?_
      exact ih S v2 v3 v4 v5 (v6 + 1)
    refine z_iinc C (v := (v6 + 1)) 5 [(6, .int (v6 + 1)), (0, .ref (ad 0 0)), (2, .int v2), (3, .int v3), (4, .int v4), (5, .int v5)] dX6_mostLeftBy_100 rfl rfl (by decide) rfl ?_
    refine z_goto C 58 dX6_mostLeftBy_103 (by decide) ?_
    refine z_loc C [(0, .ref (ad 0 0)), (2, .int v2), (3, .int v3), (4, .int v4), (5, .int v5), (6, .int (v6 + 1))] [1, 2, 3, 4, 5, 0] rfl ?_
    exact ih S v2 v3 v4 v5 (v6 + 1)
noncomputable def f_X6_mostLeftBy_40 : Nat → (Nat → zM) → Int32 → Int32 → Int32 → Option (Int32 × (Nat → zM))
  | 0, _, _, _, _ => none
  | n + 1, S, v2, v3, v4 => if ((S 4) 0 0) ≤ v4 then some (v3, S) else f_X6_mostLeftBy_58 (fun S v2 v3 v4 => f_X6_mostLeftBy_40 n S v2 v3 v4) FU S v2 v3 v4 0 0
set_option maxHeartbeats 4000000 in
set_option maxRecDepth 100000 in
theorem w_X6_mostLeftBy_40 {p : Program} {l : Launch} {e : Env} {s : State} {m : MethodId} {args : Array Value} {below : List Frame} {meth : Method} {c : Code} {G : zG} {A : Nat → Prop} (C : zC p s m args meth c RX6 cX6_mostLeftBy 7 (some .int) G A) (ad : Nat → Nat → Nat) (X : va_W) : ∀ (n : Nat) (S : (Nat → zM)) (v2 : Int32) (v3 : Int32) (v4 : Int32), PW p l e 3 s m args below meth c G A 7 (fun S : Nat → zM => wS ad G.2 S ++ X) (fun r : Int32 × (Nat → zM) => some (.int r.1)) (fun r => r.2) S [(0, .ref (ad 0 0)), (2, .int v2), (3, .int v3), (4, .int v4)] 40 [] (f_X6_mostLeftBy_40 n S v2 v3 v4) := by
  intro n
  induction n with
  | zero => intros; exact z_none
  | succ n ih =>
    intro S v2 v3 v4
    rw [f_X6_mostLeftBy_40]
    refine z_iload C 3 dX6_mostLeftBy_40 rfl ?_
    refine z_aload_n C 0 dX6_mostLeftBy_42 rfl ?_
    refine z_get C fl_RX6_28 (sHas 0 (by decide) wB_0 (fun _ => has_Top_0)) rfl dX6_mostLeftBy_43 ?_
    refine z_get C fl_RX6_106 (sHas 4 (by decide) wB_4 (fun _ => has_C_0)) rfl dX6_mostLeftBy_46 ?_
    refine z_icmpge C 129 dX6_mostLeftBy_49 (by decide) ?_ ?_
    · refine z_iload_n C 2 dX6_mostLeftBy_129 rfl ?_
      exact z_iret C dX6_mostLeftBy_130 rfl rfl rfl
    refine z_iconst (v := 0) C dX6_mostLeftBy_52 (by decide) ?_
    refine z_istore C [(5, .int 0), (0, .ref (ad 0 0)), (2, .int v2), (3, .int v3), (4, .int v4)] dX6_mostLeftBy_53 (by decide) rfl ?_
    refine z_iconst (v := 0) C dX6_mostLeftBy_55 (by decide) ?_
    refine z_istore C [(6, .int 0), (5, .int 0), (0, .ref (ad 0 0)), (2, .int v2), (3, .int v3), (4, .int v4)] dX6_mostLeftBy_56 (by decide) rfl ?_
    refine z_loc C [(0, .ref (ad 0 0)), (2, .int v2), (3, .int v3), (4, .int v4), (5, .int 0), (6, .int 0)] [2, 3, 4, 5, 1, 0] rfl ?_
    exact w_X6_mostLeftBy_58 C ad X  (fun S v2 v3 v4 => f_X6_mostLeftBy_40 n S v2 v3 v4) ih FU S v2 v3 v4 0 0
noncomputable def f_X6_mostLeftBy_2 : Nat → (Nat → zM) → Int32 → Int32 → Int32 → Option (Int32 × (Nat → zM))
  | 0, _, _, _, _ => none
  | n + 1, S, v1, v2, v3 => if ((S 4) 0 0) ≤ v3 then f_X6_mostLeftBy_40 FU S v2 0 0 else if z_in v3 9 = true then (f_X0_counted (S (17 + (Int32.toNatClampNeg v3))) v1).bind fun r2 => if z_in v3 4 = true then zlet (va_up S 0 (zU (S 0) 1 (Int32.toNatClampNeg v3) r2)) (fun S3 => f_X6_mostLeftBy_2 n S3 v1 v2 (v3 + 1)) else none else none
set_option maxHeartbeats 4000000 in
set_option maxRecDepth 100000 in
theorem w_X6_mostLeftBy_2 {p : Program} {l : Launch} {e : Env} {s : State} {m : MethodId} {args : Array Value} {below : List Frame} {meth : Method} {c : Code} {G : zG} {A : Nat → Prop} (C : zC p s m args meth c RX6 cX6_mostLeftBy 7 (some .int) G A) (ad : Nat → Nat → Nat) (X : va_W) : ∀ (n : Nat) (S : (Nat → zM)) (v1 : Int32) (v2 : Int32) (v3 : Int32), PW p l e 3 s m args below meth c G A 7 (fun S : Nat → zM => wS ad G.2 S ++ X) (fun r : Int32 × (Nat → zM) => some (.int r.1)) (fun r => r.2) S [(0, .ref (ad 0 0)), (1, .int v1), (2, .int v2), (3, .int v3)] 2 [] (f_X6_mostLeftBy_2 n S v1 v2 v3) := by
  intro n
  induction n with
  | zero => intros; exact z_none
  | succ n ih =>
    intro S v1 v2 v3
    rw [f_X6_mostLeftBy_2]
    refine z_iload_n C 3 dX6_mostLeftBy_2 rfl ?_
    refine z_aload_n C 0 dX6_mostLeftBy_3 rfl ?_
    refine z_get C fl_RX6_28 (sHas 0 (by decide) wB_0 (fun _ => has_Top_0)) rfl dX6_mostLeftBy_4 ?_
    refine z_get C fl_RX6_106 (sHas 4 (by decide) wB_4 (fun _ => has_C_0)) rfl dX6_mostLeftBy_7 ?_
    refine z_icmpge C 35 dX6_mostLeftBy_10 (by decide) ?_ ?_
    · refine z_iconst (v := 0) C dX6_mostLeftBy_35 (by decide) ?_
      refine z_istore_n C [(3, .int 0), (0, .ref (ad 0 0)), (1, .int v1), (2, .int v2)] dX6_mostLeftBy_36 (by decide) rfl ?_
      refine z_iconst (v := 0) C dX6_mostLeftBy_37 (by decide) ?_
      refine z_istore C [(4, .int 0), (3, .int 0), (0, .ref (ad 0 0)), (1, .int v1), (2, .int v2)] dX6_mostLeftBy_38 (by decide) rfl ?_
      refine z_loc C [(0, .ref (ad 0 0)), (2, .int v2), (3, .int 0), (4, .int 0)] [2, 4, 1, 0] rfl ?_
      exact w_X6_mostLeftBy_40 C ad X    FU S v2 0 0
    refine z_aload_n C 0 dX6_mostLeftBy_13 rfl ?_
    refine z_get C fl_RX6_46 (sHas 0 (by decide) wB_0 (fun _ => has_Top_0)) rfl dX6_mostLeftBy_14 ?_
    refine z_iload_n C 3 dX6_mostLeftBy_17 rfl ?_
    refine z_aload_n C 0 dX6_mostLeftBy_18 rfl ?_
    refine z_get C fl_RX6_42 (sHas 0 (by decide) wB_0 (fun _ => has_Top_0)) rfl dX6_mostLeftBy_19 ?_
    refine z_iload_n C 3 dX6_mostLeftBy_22 rfl ?_
    refine y_aald (t0 := 3) (g := fun k => ad (17 + k) 0) C (sHas 0 (by decide) wB_0 (fun _ => has_Top_2)) rfl (fun _ _ => rfl) dX6_mostLeftBy_23 (fun hv1 hq1 => ?_)
    refine z_iload_n C 1 dX6_mostLeftBy_24 rfl ?_
    refine y_callI C (z_invV C [.int v1] [.int v3, .ref (ad 0 1)] (ct_X0_counted l G (ad (17 + (Int32.toNatClampNeg v3))) (wR ad G.2 S (17 + (Int32.toNatClampNeg v3)) ++ X) (S (17 + (Int32.toNatClampNeg v3))) v1) mi_X0_counted md_X0_counted ms_X0_counted ml_RX6_135 has_C_0 ⟨_, rfl, rfl⟩ (by decide) rfl rfl dX6_mostLeftBy_25 (Nat.le_of_ble_eq_true rfl)) (sOut (17 + (Int32.toNatClampNeg v3)) (by have := hq1; omega) (wB_17 hq1)) (fun r2 => ?_)
    refine y_iast C (sUpd 0 (by decide) wB_0 (fun _ => upd_Top_1)) dX6_mostLeftBy_28 (fun S3 => ?_)
    refine z_iinc C (v := (v3 + 1)) 3 [(3, .int (v3 + 1)), (0, .ref (ad 0 0)), (1, .int v1), (2, .int v2)] dX6_mostLeftBy_29 rfl rfl (by decide) rfl ?_
    refine z_goto C 2 dX6_mostLeftBy_32 (by decide) ?_
    refine z_loc C [(0, .ref (ad 0 0)), (1, .int v1), (2, .int v2), (3, .int (v3 + 1))] [1, 2, 3, 0] rfl ?_
    exact ih S3 v1 v2 (v3 + 1)
noncomputable def f_X6_mostLeftBy (S : (Nat → zM)) (v1 : Int32) (v2 : Int32) : Option (Int32 × (Nat → zM)) := f_X6_mostLeftBy_2 FU S v1 v2 0
set_option maxHeartbeats 4000000 in
set_option maxRecDepth 100000 in
theorem ct_X6_mostLeftBy (l : Launch) (G : zG) (ad : Nat → Nat → Nat) (X : va_W) (S : (Nat → zM)) (v1 : Int32) (v2 : Int32) : zCt l yX6_mostLeftBy cX6_mostLeftBy 7 (some .int) 3 G [.ref (ad 0 0), .int v1, .int v2] (fun S : Nat → zM => wS ad G.2 S ++ X) (fun r : Int32 × (Nat → zM) => some (.int r.1)) (fun r => r.2) S (f_X6_mostLeftBy S v1 v2) := by
  refine zCt.of (by decide) (Nat.le_of_ble_eq_true rfl) (fun p e s m args below meth c A C => ?_)
  refine y_lv (lv' := [(0, .ref (ad 0 0)), (1, .int v1), (2, .int v2)]) rfl ?_
  rw [f_X6_mostLeftBy]
  refine z_iconst (v := 0) C dX6_mostLeftBy_0 (by decide) ?_
  refine z_istore_n C [(3, .int 0), (0, .ref (ad 0 0)), (1, .int v1), (2, .int v2)] dX6_mostLeftBy_1 (by decide) rfl ?_
  refine z_loc C [(0, .ref (ad 0 0)), (1, .int v1), (2, .int v2), (3, .int 0)] [1, 2, 3, 0] rfl ?_
  exact w_X6_mostLeftBy_2 C ad X    FU S v1 v2 0
noncomputable def f_X6_one (S : (Nat → zM)) (v1 : Int32) (v2 : Int32) : Option (Int32) := (f_X0_hasOne (S 4) v1).bind fun r1 => if r1 = true then if v2 = 0 then if z_in v1 4 = true then some ((S 4) 1 (Int32.toNatClampNeg v1)) else none else if v2 = 1 then (f_X0_sittersOn (S 4) v1).bind fun r4 => some r4 else if v2 = 2 then (f_X0_counted (S 4) v1).bind fun r6 => some r6 else if v2 = 3 then (f_X0_countedByPins (S 4) v1).bind fun r8 => some r8 else some (-1) else some (-1)
set_option maxHeartbeats 4000000 in
set_option maxRecDepth 100000 in
theorem ct_X6_one (l : Launch) (G : zG) (ad : Nat → Nat → Nat) (X : va_W) (S : (Nat → zM)) (v1 : Int32) (v2 : Int32) : zCt l yX6_one cX6_one 3 (some .int) 3 G [.ref (ad 0 0), .int v1, .int v2] (fun S : Nat → zM => wS ad G.2 S ++ X) (fun r : Int32 => some (.int r)) (fun _ => S) S (f_X6_one S v1 v2) := by
  refine zCt.of (by decide) (Nat.le_of_ble_eq_true rfl) (fun p e s m args below meth c A C => ?_)
  refine y_lv (lv' := [(0, .ref (ad 0 0)), (1, .int v1), (2, .int v2)]) rfl ?_
  rw [f_X6_one]
  refine z_aload_n C 0 dX6_one_0 rfl ?_
  refine z_get C fl_RX6_28 (sHas 0 (by decide) wB_0 (fun _ => has_Top_0)) rfl dX6_one_1 ?_
  refine z_iload_n C 1 dX6_one_4 rfl ?_
  refine y_callZ C (z_invV C [.int v1] [] (ct_X0_hasOne l G (ad 4) (wR ad G.2 S 4 ++ X) (S 4) v1) mi_X0_hasOne md_X0_hasOne ms_X0_hasOne ml_RX6_125 has_C_0 ⟨_, rfl, rfl⟩ (by decide) rfl rfl dX6_one_5 (Nat.le_of_ble_eq_true rfl)) (sOut 4 (by decide) wB_4) (fun r1 => ?_)
  refine z_zifne C 13 dX6_one_8 (by decide) ?_ ?_
  · refine z_iload_n C 2 dX6_one_13 rfl ?_
    refine z_ite (fun h2 => ?_) (fun h2 => ?_)
    · refine z_tableIn C 44 dX6_one_14 (by rw [h2]; decide) (by rw [h2]; decide) (by rw [h2]; rfl) (by decide) ?_
      refine z_aload_n C 0 dX6_one_44 rfl ?_
      refine z_get C fl_RX6_28 (sHas 0 (by decide) wB_0 (fun _ => has_Top_0)) rfl dX6_one_45 ?_
      refine z_get C fl_RX6_128 (sHas 4 (by decide) wB_4 (fun _ => has_C_0)) rfl dX6_one_48 ?_
      refine z_iload_n C 1 dX6_one_51 rfl ?_
      refine y_iald C (sHas 4 (by decide) wB_4 (fun _ => has_C_1)) dX6_one_52 ?_
      exact z_iret C dX6_one_53 rfl rfl rfl
    refine z_ite (fun h3 => ?_) (fun h3 => ?_)
    · refine z_tableIn C 54 dX6_one_14 (by rw [h3]; decide) (by rw [h3]; decide) (by rw [h3]; rfl) (by decide) ?_
      refine z_aload_n C 0 dX6_one_54 rfl ?_
      refine z_get C fl_RX6_28 (sHas 0 (by decide) wB_0 (fun _ => has_Top_0)) rfl dX6_one_55 ?_
      refine z_iload_n C 1 dX6_one_58 rfl ?_
      refine y_callI C (z_invV C [.int v1] [] (ct_X0_sittersOn l G (ad 4) (wR ad G.2 S 4 ++ X) (S 4) v1) mi_X0_sittersOn md_X0_sittersOn ms_X0_sittersOn ml_RX6_131 has_C_0 ⟨_, rfl, rfl⟩ (by decide) rfl rfl dX6_one_59 (Nat.le_of_ble_eq_true rfl)) (sOut 4 (by decide) wB_4) (fun r4 => ?_)
      exact z_iret C dX6_one_62 rfl rfl rfl
    refine z_ite (fun h5 => ?_) (fun h5 => ?_)
    · refine z_tableIn C 63 dX6_one_14 (by rw [h5]; decide) (by rw [h5]; decide) (by rw [h5]; rfl) (by decide) ?_
      refine z_aload_n C 0 dX6_one_63 rfl ?_
      refine z_get C fl_RX6_28 (sHas 0 (by decide) wB_0 (fun _ => has_Top_0)) rfl dX6_one_64 ?_
      refine z_iload_n C 1 dX6_one_67 rfl ?_
      refine y_callI C (z_invV C [.int v1] [] (ct_X0_counted l G (ad 4) (wR ad G.2 S 4 ++ X) (S 4) v1) mi_X0_counted md_X0_counted ms_X0_counted ml_RX6_135 has_C_0 ⟨_, rfl, rfl⟩ (by decide) rfl rfl dX6_one_68 (Nat.le_of_ble_eq_true rfl)) (sOut 4 (by decide) wB_4) (fun r6 => ?_)
      exact z_iret C dX6_one_71 rfl rfl rfl
    refine z_ite (fun h7 => ?_) (fun h7 => ?_)
    · refine z_tableIn C 72 dX6_one_14 (by rw [h7]; decide) (by rw [h7]; decide) (by rw [h7]; rfl) (by decide) ?_
      refine z_aload_n C 0 dX6_one_72 rfl ?_
      refine z_get C fl_RX6_28 (sHas 0 (by decide) wB_0 (fun _ => has_Top_0)) rfl dX6_one_73 ?_
      refine z_iload_n C 1 dX6_one_76 rfl ?_
      refine y_callI C (z_invV C [.int v1] [] (ct_X0_countedByPins l G (ad 4) (wR ad G.2 S 4 ++ X) (S 4) v1) mi_X0_countedByPins md_X0_countedByPins ms_X0_countedByPins ml_RX6_138 has_C_0 ⟨_, rfl, rfl⟩ (by decide) rfl rfl dX6_one_77 (Nat.le_of_ble_eq_true rfl)) (sOut 4 (by decide) wB_4) (fun r8 => ?_)
      exact z_iret C dX6_one_80 rfl rfl rfl
    have g9 := z_ni h2
    have g10 := z_ni h3
    have g11 := z_ni h5
    have g12 := z_ni h7
    refine z_tableOut C 81 dX6_one_14 (by simp only [show Int32.toInt 0 = 0 from by decide, show Int32.toInt 1 = 1 from by decide, show Int32.toInt 2 = 2 from by decide, show Int32.toInt 3 = 3 from by decide] at g9 g10 g11 g12; omega) (by decide) ?_
    refine z_iconst (v := (-1)) C dX6_one_81 (by decide) ?_
    exact z_iret C dX6_one_82 rfl rfl rfl
  refine z_iconst (v := (-1)) C dX6_one_11 (by decide) ?_
  exact z_iret C dX6_one_12 rfl rfl rfl
noncomputable def f_X6_sheet (S : (Nat → zM)) (v1 : Int32) (v2 : Int32) (v3 : Int32) : Option (Int32 × (Nat → zM)) := (f_X6_isWithin v1 0 3).bind fun r1 => if r1 = true then (f_X6_isWithin v2 0 2).bind fun r2 => if r2 = true then if v3 ≤ 40 then if 0 ≤ v3 then if z_in v1 4 = true then (f_X3_renew (S (13 + (Int32.toNatClampNeg v1))) v2 v3).bind fun r4 => zlet (va_up S (13 + (Int32.toNatClampNeg v1)) r4) fun S5 => some (1, S5) else none else some ((-14), S) else some ((-1), S) else some ((-1), S) else some ((-1), S)
set_option maxHeartbeats 4000000 in
set_option maxRecDepth 100000 in
theorem ct_X6_sheet (l : Launch) (G : zG) (ad : Nat → Nat → Nat) (X : va_W) (S : (Nat → zM)) (v1 : Int32) (v2 : Int32) (v3 : Int32) : zCt l yX6_sheet cX6_sheet 4 (some .int) 3 G [.ref (ad 0 0), .int v1, .int v2, .int v3] (fun S : Nat → zM => wS ad G.2 S ++ X) (fun r : Int32 × (Nat → zM) => some (.int r.1)) (fun r => r.2) S (f_X6_sheet S v1 v2 v3) := by
  refine zCt.of (by decide) (Nat.le_of_ble_eq_true rfl) (fun p e s m args below meth c A C => ?_)
  refine y_lv (lv' := [(0, .ref (ad 0 0)), (1, .int v1), (2, .int v2), (3, .int v3)]) rfl ?_
  rw [f_X6_sheet]
  refine z_iload_n C 1 dX6_sheet_0 rfl ?_
  refine z_iconst (v := 0) C dX6_sheet_1 (by decide) ?_
  refine z_iconst (v := 3) C dX6_sheet_2 (by decide) ?_
  refine y_callZ C (z_invS C [.int v1, .int 0, .int 3] [] (ct_X6_isWithin l G ((fun S : Nat → zM => wS ad G.2 S ++ X) S) v1 0 3) mi_X6_isWithin mt_X6_isWithin ml_RX6_68 (by decide) rfl rfl dX6_sheet_3 (Nat.le_of_ble_eq_true rfl)) (List.Perm.refl _) (fun r1 => ?_)
  refine z_zifeq C 24 dX6_sheet_6 (by decide) ?_ ?_
  · refine z_iload_n C 2 dX6_sheet_9 rfl ?_
    refine z_iconst (v := 0) C dX6_sheet_10 (by decide) ?_
    refine z_iconst (v := 2) C dX6_sheet_11 (by decide) ?_
    refine y_callZ C (z_invS C [.int v2, .int 0, .int 2] [] (ct_X6_isWithin l G ((fun S : Nat → zM => wS ad G.2 S ++ X) S) v2 0 2) mi_X6_isWithin mt_X6_isWithin ml_RX6_68 (by decide) rfl rfl dX6_sheet_12 (Nat.le_of_ble_eq_true rfl)) (List.Perm.refl _) (fun r2 => ?_)
    refine z_zifeq C 24 dX6_sheet_15 (by decide) ?_ ?_
    · refine z_iload_n C 3 dX6_sheet_18 rfl ?_
      refine z_bipush (v := 40) C dX6_sheet_19 (by decide) ?_
      refine z_icmple C 26 dX6_sheet_21 (by decide) ?_ ?_
      · refine z_iload_n C 3 dX6_sheet_26 rfl ?_
        refine z_ifge C 33 dX6_sheet_27 (by decide) ?_ ?_
        · refine z_aload_n C 0 dX6_sheet_33 rfl ?_
          refine z_get C fl_RX6_58 (sHas 0 (by decide) wB_0 (fun _ => has_Top_0)) rfl dX6_sheet_34 ?_
          refine z_iload_n C 1 dX6_sheet_37 rfl ?_
          refine y_aald (t0 := 5) (g := fun k => ad (13 + k) 0) C (sHas 0 (by decide) wB_0 (fun _ => has_Top_4)) rfl (fun _ _ => rfl) dX6_sheet_38 (fun hv3 hq3 => ?_)
          refine z_iload_n C 2 dX6_sheet_39 rfl ?_
          refine z_iload_n C 3 dX6_sheet_40 rfl ?_
          refine y_callVS C (z_invV C [.int v2, .int v3] [] (ct_X3_renew l G (ad (13 + (Int32.toNatClampNeg v1))) (wR ad G.2 S (13 + (Int32.toNatClampNeg v1)) ++ X) (S (13 + (Int32.toNatClampNeg v1))) v2 v3) mi_X3_renew md_X3_renew ms_X3_renew ml_RX6_242 has_Sh_0 ⟨_, rfl, rfl⟩ (by decide) rfl rfl dX6_sheet_41 (Nat.le_of_ble_eq_true rfl)) (sOut (13 + (Int32.toNatClampNeg v1)) (by have := hq3; omega) (wB_13 hq3)) (fun _ => sIn (13 + (Int32.toNatClampNeg v1)) (by have := hq3; omega) (wB_13 hq3) _) (fun r4 S5 => ?_)
          refine z_iconst (v := 1) C dX6_sheet_44 (by decide) ?_
          exact z_iret C dX6_sheet_45 rfl rfl rfl
        refine z_bipush (v := (-14)) C dX6_sheet_30 (by decide) ?_
        exact z_iret C dX6_sheet_32 rfl rfl rfl
      refine z_iconst (v := (-1)) C dX6_sheet_24 (by decide) ?_
      exact z_iret C dX6_sheet_25 rfl rfl rfl
    refine z_iconst (v := (-1)) C dX6_sheet_24 (by decide) ?_
    exact z_iret C dX6_sheet_25 rfl rfl rfl
  refine z_iconst (v := (-1)) C dX6_sheet_24 (by decide) ?_
  exact z_iret C dX6_sheet_25 rfl rfl rfl
noncomputable def f_X6_beetle (S : (Nat → zM)) (v1 : Int32) (v2 : Int32) : Option (Int32) := (f_X0_hasBeetle (S 4) v1).bind fun r1 => if r1 = true then if v2 = 0 then if z_in v1 6 = true then some ((S 4) 2 (Int32.toNatClampNeg v1)) else none else if v2 = 1 then if z_in v1 6 = true then some ((S 4) 3 (Int32.toNatClampNeg v1)) else none else if v2 = 2 then if z_in v1 6 = true then some ((S 4) 4 (Int32.toNatClampNeg v1)) else none else if v2 = 3 then (f_X0_placeOf (S 4) v1).bind fun r6 => some r6 else if v2 = 4 then if z_in v1 6 = true then some ((S 4) 5 (Int32.toNatClampNeg v1)) else none else if v2 = 5 then (f_X0_sought (S 4) v1).bind fun r9 => some r9 else if v2 = 6 then (f_X0_weight (S 4) v1).bind fun r11 => some r11 else some (-1) else some (-1)
set_option maxHeartbeats 4000000 in
set_option maxRecDepth 100000 in
theorem ct_X6_beetle (l : Launch) (G : zG) (ad : Nat → Nat → Nat) (X : va_W) (S : (Nat → zM)) (v1 : Int32) (v2 : Int32) : zCt l yX6_beetle cX6_beetle 3 (some .int) 4 G [.ref (ad 0 0), .int v1, .int v2] (fun S : Nat → zM => wS ad G.2 S ++ X) (fun r : Int32 => some (.int r)) (fun _ => S) S (f_X6_beetle S v1 v2) := by
  refine zCt.of (by decide) (Nat.le_of_ble_eq_true rfl) (fun p e s m args below meth c A C => ?_)
  refine y_lv (lv' := [(0, .ref (ad 0 0)), (1, .int v1), (2, .int v2)]) rfl ?_
  rw [f_X6_beetle]
  refine z_aload_n C 0 dX6_beetle_0 rfl ?_
  refine z_get C fl_RX6_28 (sHas 0 (by decide) wB_0 (fun _ => has_Top_0)) rfl dX6_beetle_1 ?_
  refine z_iload_n C 1 dX6_beetle_4 rfl ?_
  refine y_callZ C (z_invV C [.int v1] [] (ct_X0_hasBeetle l G (ad 4) (wR ad G.2 S 4 ++ X) (S 4) v1) mi_X0_hasBeetle md_X0_hasBeetle ms_X0_hasBeetle ml_RX6_141 has_C_0 ⟨_, rfl, rfl⟩ (by decide) rfl rfl dX6_beetle_5 (Nat.le_of_ble_eq_true rfl)) (sOut 4 (by decide) wB_4) (fun r1 => ?_)
  refine z_zifne C 13 dX6_beetle_8 (by decide) ?_ ?_
  · refine z_iload_n C 2 dX6_beetle_13 rfl ?_
    refine z_ite (fun h2 => ?_) (fun h2 => ?_)
    · refine z_tableIn C 56 dX6_beetle_14 (by rw [h2]; decide) (by rw [h2]; decide) (by rw [h2]; rfl) (by decide) ?_
      refine z_aload_n C 0 dX6_beetle_56 rfl ?_
      refine z_get C fl_RX6_28 (sHas 0 (by decide) wB_0 (fun _ => has_Top_0)) rfl dX6_beetle_57 ?_
      refine z_get C fl_RX6_144 (sHas 4 (by decide) wB_4 (fun _ => has_C_0)) rfl dX6_beetle_60 ?_
      refine z_iload_n C 1 dX6_beetle_63 rfl ?_
      refine y_iald C (sHas 4 (by decide) wB_4 (fun _ => has_C_2)) dX6_beetle_64 ?_
      exact z_iret C dX6_beetle_65 rfl rfl rfl
    refine z_ite (fun h3 => ?_) (fun h3 => ?_)
    · refine z_tableIn C 66 dX6_beetle_14 (by rw [h3]; decide) (by rw [h3]; decide) (by rw [h3]; rfl) (by decide) ?_
      refine z_aload_n C 0 dX6_beetle_66 rfl ?_
      refine z_get C fl_RX6_28 (sHas 0 (by decide) wB_0 (fun _ => has_Top_0)) rfl dX6_beetle_67 ?_
      refine z_get C fl_RX6_147 (sHas 4 (by decide) wB_4 (fun _ => has_C_0)) rfl dX6_beetle_70 ?_
      refine z_iload_n C 1 dX6_beetle_73 rfl ?_
      refine y_iald C (sHas 4 (by decide) wB_4 (fun _ => has_C_3)) dX6_beetle_74 ?_
      exact z_iret C dX6_beetle_75 rfl rfl rfl
    refine z_ite (fun h4 => ?_) (fun h4 => ?_)
    · refine z_tableIn C 76 dX6_beetle_14 (by rw [h4]; decide) (by rw [h4]; decide) (by rw [h4]; rfl) (by decide) ?_
      refine z_aload_n C 0 dX6_beetle_76 rfl ?_
      refine z_get C fl_RX6_28 (sHas 0 (by decide) wB_0 (fun _ => has_Top_0)) rfl dX6_beetle_77 ?_
      refine z_get C fl_RX6_150 (sHas 4 (by decide) wB_4 (fun _ => has_C_0)) rfl dX6_beetle_80 ?_
      refine z_iload_n C 1 dX6_beetle_83 rfl ?_
      refine y_iald C (sHas 4 (by decide) wB_4 (fun _ => has_C_4)) dX6_beetle_84 ?_
      exact z_iret C dX6_beetle_85 rfl rfl rfl
    refine z_ite (fun h5 => ?_) (fun h5 => ?_)
    · refine z_tableIn C 86 dX6_beetle_14 (by rw [h5]; decide) (by rw [h5]; decide) (by rw [h5]; rfl) (by decide) ?_
      refine z_aload_n C 0 dX6_beetle_86 rfl ?_
      refine z_get C fl_RX6_28 (sHas 0 (by decide) wB_0 (fun _ => has_Top_0)) rfl dX6_beetle_87 ?_
      refine z_iload_n C 1 dX6_beetle_90 rfl ?_
      refine y_callI C (z_invV C [.int v1] [] (ct_X0_placeOf l G (ad 4) (wR ad G.2 S 4 ++ X) (S 4) v1) mi_X0_placeOf md_X0_placeOf ms_X0_placeOf ml_RX6_153 has_C_0 ⟨_, rfl, rfl⟩ (by decide) rfl rfl dX6_beetle_91 (Nat.le_of_ble_eq_true rfl)) (sOut 4 (by decide) wB_4) (fun r6 => ?_)
      exact z_iret C dX6_beetle_94 rfl rfl rfl
    refine z_ite (fun h7 => ?_) (fun h7 => ?_)
    · refine z_tableIn C 95 dX6_beetle_14 (by rw [h7]; decide) (by rw [h7]; decide) (by rw [h7]; rfl) (by decide) ?_
      refine z_aload_n C 0 dX6_beetle_95 rfl ?_
      refine z_get C fl_RX6_28 (sHas 0 (by decide) wB_0 (fun _ => has_Top_0)) rfl dX6_beetle_96 ?_
      refine z_get C fl_RX6_156 (sHas 4 (by decide) wB_4 (fun _ => has_C_0)) rfl dX6_beetle_99 ?_
      refine z_iload_n C 1 dX6_beetle_102 rfl ?_
      refine y_iald C (sHas 4 (by decide) wB_4 (fun _ => has_C_5)) dX6_beetle_103 ?_
      exact z_iret C dX6_beetle_104 rfl rfl rfl
    refine z_ite (fun h8 => ?_) (fun h8 => ?_)
    · refine z_tableIn C 105 dX6_beetle_14 (by rw [h8]; decide) (by rw [h8]; decide) (by rw [h8]; rfl) (by decide) ?_
      refine z_aload_n C 0 dX6_beetle_105 rfl ?_
      refine z_get C fl_RX6_28 (sHas 0 (by decide) wB_0 (fun _ => has_Top_0)) rfl dX6_beetle_106 ?_
      refine z_iload_n C 1 dX6_beetle_109 rfl ?_
      refine y_callI C (z_invV C [.int v1] [] (ct_X0_sought l G (ad 4) (wR ad G.2 S 4 ++ X) (S 4) v1) mi_X0_sought md_X0_sought ms_X0_sought ml_RX6_159 has_C_0 ⟨_, rfl, rfl⟩ (by decide) rfl rfl dX6_beetle_110 (Nat.le_of_ble_eq_true rfl)) (sOut 4 (by decide) wB_4) (fun r9 => ?_)
      exact z_iret C dX6_beetle_113 rfl rfl rfl
    refine z_ite (fun h10 => ?_) (fun h10 => ?_)
    · refine z_tableIn C 114 dX6_beetle_14 (by rw [h10]; decide) (by rw [h10]; decide) (by rw [h10]; rfl) (by decide) ?_
      refine z_aload_n C 0 dX6_beetle_114 rfl ?_
      refine z_get C fl_RX6_28 (sHas 0 (by decide) wB_0 (fun _ => has_Top_0)) rfl dX6_beetle_115 ?_
      refine z_iload_n C 1 dX6_beetle_118 rfl ?_
      refine y_callI C (z_invV C [.int v1] [] (ct_X0_weight l G (ad 4) (wR ad G.2 S 4 ++ X) (S 4) v1) mi_X0_weight md_X0_weight ms_X0_weight ml_RX6_162 has_C_0 ⟨_, rfl, rfl⟩ (by decide) rfl rfl dX6_beetle_119 (Nat.le_of_ble_eq_true rfl)) (sOut 4 (by decide) wB_4) (fun r11 => ?_)
      exact z_iret C dX6_beetle_122 rfl rfl rfl
    have g12 := z_ni h2
    have g13 := z_ni h3
    have g14 := z_ni h4
    have g15 := z_ni h5
    have g16 := z_ni h7
    have g17 := z_ni h8
    have g18 := z_ni h10
    refine z_tableOut C 123 dX6_beetle_14 (by simp only [show Int32.toInt 0 = 0 from by decide, show Int32.toInt 1 = 1 from by decide, show Int32.toInt 2 = 2 from by decide, show Int32.toInt 3 = 3 from by decide, show Int32.toInt 4 = 4 from by decide, show Int32.toInt 5 = 5 from by decide, show Int32.toInt 6 = 6 from by decide] at g12 g13 g14 g15 g16 g17 g18; omega) (by decide) ?_
    refine z_iconst (v := (-1)) C dX6_beetle_123 (by decide) ?_
    exact z_iret C dX6_beetle_124 rfl rfl rfl
  refine z_iconst (v := (-1)) C dX6_beetle_11 (by decide) ?_
  exact z_iret C dX6_beetle_12 rfl rfl rfl
noncomputable def f_X6_dab (S : (Nat → zM)) (v1 : Int32) (v2 : Int32) (v3 : Int32) : Option (Int32 × (Nat → zM)) := (f_X0_takeDabbed (S 4) v1 v2 v3).bind fun r1 => zlet (va_up S 4 r1.2) fun S2 => some (r1.1, S2)
set_option maxHeartbeats 4000000 in
set_option maxRecDepth 100000 in
theorem ct_X6_dab (l : Launch) (G : zG) (ad : Nat → Nat → Nat) (X : va_W) (S : (Nat → zM)) (v1 : Int32) (v2 : Int32) (v3 : Int32) : zCt l yX6_dab cX6_dab 4 (some .int) 4 G [.ref (ad 0 0), .int v1, .int v2, .int v3] (fun S : Nat → zM => wS ad G.2 S ++ X) (fun r : Int32 × (Nat → zM) => some (.int r.1)) (fun r => r.2) S (f_X6_dab S v1 v2 v3) := by
  refine zCt.of (by decide) (Nat.le_of_ble_eq_true rfl) (fun p e s m args below meth c A C => ?_)
  refine y_lv (lv' := [(0, .ref (ad 0 0)), (1, .int v1), (2, .int v2), (3, .int v3)]) rfl ?_
  rw [f_X6_dab]
  refine z_aload_n C 0 dX6_dab_0 rfl ?_
  refine z_get C fl_RX6_28 (sHas 0 (by decide) wB_0 (fun _ => has_Top_0)) rfl dX6_dab_1 ?_
  refine z_iload_n C 1 dX6_dab_4 rfl ?_
  refine z_iload_n C 2 dX6_dab_5 rfl ?_
  refine z_iload_n C 3 dX6_dab_6 rfl ?_
  refine y_callIS C (z_invV C [.int v1, .int v2, .int v3] [] (ct_X0_takeDabbed l G (ad 4) (wR ad G.2 S 4 ++ X) (S 4) v1 v2 v3) mi_X0_takeDabbed md_X0_takeDabbed ms_X0_takeDabbed ml_RX6_171 has_C_0 ⟨_, rfl, rfl⟩ (by decide) rfl rfl dX6_dab_7 (Nat.le_of_ble_eq_true rfl)) (sOut 4 (by decide) wB_4) (fun _ => sIn 4 (by decide) wB_4 _) (fun r1 S2 => ?_)
  exact z_iret C dX6_dab_10 rfl rfl rfl
noncomputable def f_X6_dabFromSheet (q : Nat) (S : (Nat → zM)) (v2 : Int32) : Option (Bool × (Nat → zM)) := if z_in v2 40 = true then if z_in (v2 + 1) 40 = true then if z_in (v2 + 2) 40 = true then (f_X0_takeDabbed (S 5) ((S (13 + q)) 1 (Int32.toNatClampNeg v2)) ((S (13 + q)) 1 (Int32.toNatClampNeg (v2 + 1))) ((S (13 + q)) 1 (Int32.toNatClampNeg (v2 + 2)))).bind fun r1 => zlet (va_up S 5 r1.2) fun S2 => if r1.1 < 0 then some (false, S2) else some (true, S2) else none else none else none
set_option maxHeartbeats 4000000 in
set_option maxRecDepth 100000 in
theorem ct_X6_dabFromSheet (l : Launch) (G : zG) (ad : Nat → Nat → Nat) (X : va_W) (q : Nat) (hq : q < 4) (S : (Nat → zM)) (v2 : Int32) : zCt l yX6_dabFromSheet cX6_dabFromSheet 3 (some .boolean) 4 G [.ref (ad 0 0), .ref (ad (13 + q) 0), .int v2] (fun S : Nat → zM => wS ad G.2 S ++ X) (fun r : Bool × (Nat → zM) => some (.int (zb r.1))) (fun r => r.2) S (f_X6_dabFromSheet q S v2) := by
  refine zCt.of (by decide) (Nat.le_of_ble_eq_true rfl) (fun p e s m args below meth c A C => ?_)
  refine y_lv (lv' := [(0, .ref (ad 0 0)), (1, .ref (ad (13 + q) 0)), (2, .int v2)]) rfl ?_
  rw [f_X6_dabFromSheet]
  refine z_aload_n C 0 dX6_dabFromSheet_0 rfl ?_
  refine z_get C fl_RX6_39 (sHas 0 (by decide) wB_0 (fun _ => has_Top_0)) rfl dX6_dabFromSheet_1 ?_
  refine z_aload_n C 1 dX6_dabFromSheet_4 rfl ?_
  refine z_get C fl_RX6_290 (sHas (13 + q) (by have := hq; omega) (wB_13 hq) (fun _ => has_Sh_0)) rfl dX6_dabFromSheet_5 ?_
  refine z_iload_n C 2 dX6_dabFromSheet_8 rfl ?_
  refine y_iald C (sHas (13 + q) (by have := hq; omega) (wB_13 hq) (fun _ => has_Sh_1)) dX6_dabFromSheet_9 ?_
  refine z_aload_n C 1 dX6_dabFromSheet_10 rfl ?_
  refine z_get C fl_RX6_290 (sHas (13 + q) (by have := hq; omega) (wB_13 hq) (fun _ => has_Sh_0)) rfl dX6_dabFromSheet_11 ?_
  refine z_iload_n C 2 dX6_dabFromSheet_14 rfl ?_
  refine z_iconst (v := 1) C dX6_dabFromSheet_15 (by decide) ?_
  refine z_iadd C dX6_dabFromSheet_16 ?_
  refine y_iald C (sHas (13 + q) (by have := hq; omega) (wB_13 hq) (fun _ => has_Sh_1)) dX6_dabFromSheet_17 ?_
  refine z_aload_n C 1 dX6_dabFromSheet_18 rfl ?_
  refine z_get C fl_RX6_290 (sHas (13 + q) (by have := hq; omega) (wB_13 hq) (fun _ => has_Sh_0)) rfl dX6_dabFromSheet_19 ?_
  refine z_iload_n C 2 dX6_dabFromSheet_22 rfl ?_
  refine z_iconst (v := 2) C dX6_dabFromSheet_23 (by decide) ?_
  refine z_iadd C dX6_dabFromSheet_24 ?_
  refine y_iald C (sHas (13 + q) (by have := hq; omega) (wB_13 hq) (fun _ => has_Sh_1)) dX6_dabFromSheet_25 ?_
  refine y_callIS C (z_invV C [.int ((S (13 + q)) 1 (Int32.toNatClampNeg v2)), .int ((S (13 + q)) 1 (Int32.toNatClampNeg (v2 + 1))), .int ((S (13 + q)) 1 (Int32.toNatClampNeg (v2 + 2)))] [] (ct_X0_takeDabbed l G (ad 5) (wR ad G.2 S 5 ++ X) (S 5) ((S (13 + q)) 1 (Int32.toNatClampNeg v2)) ((S (13 + q)) 1 (Int32.toNatClampNeg (v2 + 1))) ((S (13 + q)) 1 (Int32.toNatClampNeg (v2 + 2)))) mi_X0_takeDabbed md_X0_takeDabbed ms_X0_takeDabbed ml_RX6_171 has_C_0 ⟨_, rfl, rfl⟩ (by decide) rfl rfl dX6_dabFromSheet_26 (Nat.le_of_ble_eq_true rfl)) (sOut 5 (by decide) wB_5) (fun _ => sIn 5 (by decide) wB_5 _) (fun r1 S2 => ?_)
  refine z_iflt C 36 dX6_dabFromSheet_29 (by decide) ?_ ?_
  · refine z_iconst (v := 0) C dX6_dabFromSheet_36 (by decide) ?_
    exact z_zret (b := false) C dX6_dabFromSheet_37 rfl rfl
  refine z_iconst (v := 1) C dX6_dabFromSheet_32 (by decide) ?_
  refine z_goto C 37 dX6_dabFromSheet_33 (by decide) ?_
  exact z_zret (b := true) C dX6_dabFromSheet_37 rfl rfl
