noncomputable def f_X7_becomes (u : zM) (v1 : Int32) (v2 : Int32) : Option (Int32 × zM) := if z_in v1 183 = true then if z_in v1 183 = true then zlet (zU u 1 (Int32.toNatClampNeg v1) v2) (fun u1 => some ((u 1 (Int32.toNatClampNeg v1)), u1)) else none else none
set_option maxHeartbeats 4000000 in
set_option maxRecDepth 100000 in
theorem ct_X7_becomes (l : Launch) (G : zG) (b : Nat → Nat) (g : Nat → Int64) (X : va_W) (u : zM) (v1 : Int32) (v2 : Int32) : zCt l yX7_becomes cX7_becomes 4 (some .int) 1 G [.ref (b 0), .int v1, .int v2] (fun u : zM => wM b G.2 u g ++ X) (fun r : Int32 × zM => some (.int r.1)) (fun r => r.2) u (f_X7_becomes u v1 v2) := by
  refine zCt.of (by decide) (Nat.le_of_ble_eq_true rfl) (fun p e s m args below meth c A C => ?_)
  refine y_lv (lv' := [(0, .ref (b 0)), (1, .int v1), (2, .int v2)]) rfl ?_
  rw [f_X7_becomes]
  refine z_aload_n C 0 dX7_becomes_0 rfl ?_
  refine z_get C fl_RX7_7 has_M_0 rfl dX7_becomes_1 ?_
  refine z_iload_n C 1 dX7_becomes_4 rfl ?_
  refine y_iald C has_M_1 dX7_becomes_5 ?_
  refine z_istore_n C [(3, .int (u 1 (Int32.toNatClampNeg v1))), (0, .ref (b 0)), (1, .int v1), (2, .int v2)] dX7_becomes_6 (by decide) rfl ?_
  refine z_aload_n C 1 dX7_becomes_7 rfl ?_
  refine z_get C fl_RX7_7 has_M_0 rfl dX7_becomes_8 ?_
  refine z_iload_n C 2 dX7_becomes_11 rfl ?_
  refine z_iload_n C 3 dX7_becomes_12 rfl ?_
  refine y_iast C upd_M_1 dX7_becomes_13 (fun u1 => ?_)
  refine z_iload_n C 0 dX7_becomes_14 rfl ?_
  exact z_iret C dX7_becomes_15 rfl rfl rfl
noncomputable def f_X7_becomesOf (u : zM) (v1 : Int32) (v2 : Int32) (v3 : Int32) : Option (zM) := if z_in ((4 + (5 * v1)) + v2) 61 = true then zlet (zU u 2 (Int32.toNatClampNeg ((4 + (5 * v1)) + v2)) v3) (fun u1 => some u1) else none
set_option maxHeartbeats 4000000 in
set_option maxRecDepth 100000 in
theorem ct_X7_becomesOf (l : Launch) (G : zG) (b : Nat → Nat) (g : Nat → Int64) (X : va_W) (u : zM) (v1 : Int32) (v2 : Int32) (v3 : Int32) : zCt l yX7_becomesOf cX7_becomesOf 4 none 1 G [.ref (b 0), .int v1, .int v2, .int v3] (fun u : zM => wM b G.2 u g ++ X) (fun _ : zM => none) (fun r => r) u (f_X7_becomesOf u v1 v2 v3) := by
  refine zCt.of (by decide) (Nat.le_of_ble_eq_true rfl) (fun p e s m args below meth c A C => ?_)
  refine y_lv (lv' := [(0, .ref (b 0)), (1, .int v1), (2, .int v2), (3, .int v3)]) rfl ?_
  rw [f_X7_becomesOf]
  refine z_aload_n C 0 dX7_becomesOf_0 rfl ?_
  refine z_get C fl_RX7_13 has_M_0 rfl dX7_becomesOf_1 ?_
  refine z_iconst (v := 4) C dX7_becomesOf_4 (by decide) ?_
  refine z_iconst (v := 5) C dX7_becomesOf_5 (by decide) ?_
  refine z_iload_n C 1 dX7_becomesOf_6 rfl ?_
  refine z_imul C dX7_becomesOf_7 ?_
  refine z_iadd C dX7_becomesOf_8 ?_
  refine z_iload_n C 2 dX7_becomesOf_9 rfl ?_
  refine z_iadd C dX7_becomesOf_10 ?_
  refine z_iload_n C 3 dX7_becomesOf_11 rfl ?_
  refine y_iast C upd_M_2 dX7_becomesOf_12 (fun u1 => ?_)
  exact z_vret C dX7_becomesOf_13 rfl rfl
noncomputable def f_X7_byteAt (u : zM) (v1 : Int32) : Option (Int32) := if (u 0 9) ≤ v1 then some (-1) else if z_in v1 160 = true then some (u 5 (Int32.toNatClampNeg v1)) else none
set_option maxHeartbeats 4000000 in
set_option maxRecDepth 100000 in
theorem ct_X7_byteAt (l : Launch) (G : zG) (b : Nat → Nat) (g : Nat → Int64) (X : va_W) (u : zM) (v1 : Int32) : zCt l yX7_byteAt cX7_byteAt 2 (some .int) 1 G [.ref (b 0), .int v1] (fun u : zM => wM b G.2 u g ++ X) (fun r : Int32 => some (.int r)) (fun _ => u) u (f_X7_byteAt u v1) := by
  refine zCt.of (by decide) (Nat.le_of_ble_eq_true rfl) (fun p e s m args below meth c A C => ?_)
  refine y_lv (lv' := [(0, .ref (b 0)), (1, .int v1)]) rfl ?_
  rw [f_X7_byteAt]
  refine z_iload_n C 1 dX7_byteAt_0 rfl ?_
  refine z_aload_n C 0 dX7_byteAt_1 rfl ?_
  refine z_get C fl_RX7_69 has_M_0 rfl dX7_byteAt_2 ?_
  refine z_icmpge C 17 dX7_byteAt_5 (by decide) ?_ ?_
  · refine z_iconst (v := (-1)) C dX7_byteAt_17 (by decide) ?_
    exact z_iret C dX7_byteAt_18 rfl rfl rfl
  refine z_aload_n C 0 dX7_byteAt_8 rfl ?_
  refine z_get C fl_RX7_23 has_M_0 rfl dX7_byteAt_9 ?_
  refine z_iload_n C 1 dX7_byteAt_12 rfl ?_
  refine y_iald C has_M_5 dX7_byteAt_13 ?_
  refine z_goto C 18 dX7_byteAt_14 (by decide) ?_
  exact z_iret C dX7_byteAt_18 rfl rfl rfl
noncomputable def f_X7_copies_2 : Nat → zM → Int32 → Int32 → Int32 → Option (zM)
  | 0, _, _, _, _ => none
  | n + 1, u, v1, v2, v3 => if 61 ≤ v3 then some u else if z_in (v2 + v3) 183 = true then if z_in (v1 + v3) 183 = true then zlet (zU u 1 (Int32.toNatClampNeg (v1 + v3)) (u 1 (Int32.toNatClampNeg (v2 + v3)))) (fun u1 => f_X7_copies_2 n u1 v1 v2 (v3 + 1)) else none else none
set_option maxHeartbeats 4000000 in
set_option maxRecDepth 100000 in
theorem w_X7_copies_2 {p : Program} {l : Launch} {e : Env} {s : State} {m : MethodId} {args : Array Value} {below : List Frame} {meth : Method} {c : Code} {G : zG} {A : Nat → Prop} (C : zC p s m args meth c RX7 cX7_copies 4 none G A) (b : Nat → Nat) (g : Nat → Int64) (X : va_W) : ∀ (n : Nat) (u : zM) (v1 : Int32) (v2 : Int32) (v3 : Int32), PW p l e 1 s m args below meth c G A 4 (fun u : zM => wM b G.2 u g ++ X) (fun _ : zM => none) (fun r => r) u [(0, .ref (b 0)), (1, .int v1), (2, .int v2), (3, .int v3)] 2 [] (f_X7_copies_2 n u v1 v2 v3) := by
  intro n
  induction n with
  | zero => intros; exact z_none
  | succ n ih =>
    intro u v1 v2 v3
    rw [f_X7_copies_2]
    refine z_iload_n C 3 dX7_copies_2 rfl ?_
    refine z_bipush (v := 61) C dX7_copies_3 (by decide) ?_
    refine z_icmpge C 30 dX7_copies_5 (by decide) ?_ ?_
    · exact z_vret C dX7_copies_30 rfl rfl
    refine z_aload_n C 0 dX7_copies_8 rfl ?_
    refine z_get C fl_RX7_7 has_M_0 rfl dX7_copies_9 ?_
    refine z_iload_n C 1 dX7_copies_12 rfl ?_
    refine z_iload_n C 3 dX7_copies_13 rfl ?_
    refine z_iadd C dX7_copies_14 ?_
    refine z_aload_n C 0 dX7_copies_15 rfl ?_
    refine z_get C fl_RX7_7 has_M_0 rfl dX7_copies_16 ?_
    refine z_iload_n C 2 dX7_copies_19 rfl ?_
    refine z_iload_n C 3 dX7_copies_20 rfl ?_
    refine z_iadd C dX7_copies_21 ?_
    refine y_iald C has_M_1 dX7_copies_22 ?_
    refine y_iast C upd_M_1 dX7_copies_23 (fun u1 => ?_)
    refine z_iinc C (v := (v3 + 1)) 3 [(3, .int (v3 + 1)), (0, .ref (b 0)), (1, .int v1), (2, .int v2)] dX7_copies_24 rfl rfl (by decide) rfl ?_
    refine z_goto C 2 dX7_copies_27 (by decide) ?_
    refine z_loc C [(0, .ref (b 0)), (1, .int v1), (2, .int v2), (3, .int (v3 + 1))] [1, 2, 3, 0] rfl ?_
    exact ih u1 v1 v2 (v3 + 1)
noncomputable def f_X7_copies (u : zM) (v1 : Int32) (v2 : Int32) : Option (zM) := f_X7_copies_2 FU u v1 v2 0
set_option maxHeartbeats 4000000 in
set_option maxRecDepth 100000 in
theorem ct_X7_copies (l : Launch) (G : zG) (b : Nat → Nat) (g : Nat → Int64) (X : va_W) (u : zM) (v1 : Int32) (v2 : Int32) : zCt l yX7_copies cX7_copies 4 none 1 G [.ref (b 0), .int v1, .int v2] (fun u : zM => wM b G.2 u g ++ X) (fun _ : zM => none) (fun r => r) u (f_X7_copies u v1 v2) := by
  refine zCt.of (by decide) (Nat.le_of_ble_eq_true rfl) (fun p e s m args below meth c A C => ?_)
  refine y_lv (lv' := [(0, .ref (b 0)), (1, .int v1), (2, .int v2)]) rfl ?_
  rw [f_X7_copies]
  refine z_iconst (v := 0) C dX7_copies_0 (by decide) ?_
  refine z_istore_n C [(3, .int 0), (0, .ref (b 0)), (1, .int v1), (2, .int v2)] dX7_copies_1 (by decide) rfl ?_
  refine z_loc C [(0, .ref (b 0)), (1, .int v1), (2, .int v2), (3, .int 0)] [1, 2, 3, 0] rfl ?_
  exact w_X7_copies_2 C b g X    FU u v1 v2 0
noncomputable def f_X7_fault (u : zM) : Option (Int32) := some (u 0 14)
set_option maxHeartbeats 4000000 in
set_option maxRecDepth 100000 in
theorem ct_X7_fault (l : Launch) (G : zG) (b : Nat → Nat) (g : Nat → Int64) (X : va_W) (u : zM) : zCt l yX7_fault cX7_fault 1 (some .int) 1 G [.ref (b 0)] (fun u : zM => wM b G.2 u g ++ X) (fun r : Int32 => some (.int r)) (fun _ => u) u (f_X7_fault u) := by
  refine zCt.of (by decide) (Nat.le_of_ble_eq_true rfl) (fun p e s m args below meth c A C => ?_)
  refine y_lv (lv' := [(0, .ref (b 0))]) rfl ?_
  rw [f_X7_fault]
  refine z_aload_n C 0 dX7_fault_0 rfl ?_
  refine z_get C fl_RX7_72 has_M_0 rfl dX7_fault_1 ?_
  exact z_iret C dX7_fault_4 rfl rfl rfl
noncomputable def f_X7_firstDraft_2 : Nat → zM → Int32 → Option (zM)
  | 0, _, _ => none
  | n + 1, u, v1 => if 61 ≤ v1 then zlet (zU u 0 5 0) fun u1 => zlet (zU u1 0 6 0) fun u2 => zlet (zU u2 0 7 (-4)) fun u3 => some u3 else if z_in v1 61 = true then zlet (zU u 4 (Int32.toNatClampNeg v1) 0) (fun u4 => f_X7_firstDraft_2 n u4 (v1 + 1)) else none
set_option maxHeartbeats 4000000 in
set_option maxRecDepth 100000 in
theorem w_X7_firstDraft_2 {p : Program} {l : Launch} {e : Env} {s : State} {m : MethodId} {args : Array Value} {below : List Frame} {meth : Method} {c : Code} {G : zG} {A : Nat → Prop} (C : zC p s m args meth c RX7 cX7_firstDraft 2 none G A) (b : Nat → Nat) (g : Nat → Int64) (X : va_W) : ∀ (n : Nat) (u : zM) (v1 : Int32), PW p l e 1 s m args below meth c G A 2 (fun u : zM => wM b G.2 u g ++ X) (fun _ : zM => none) (fun r => r) u [(0, .ref (b 0)), (1, .int v1)] 2 [] (f_X7_firstDraft_2 n u v1) := by
  intro n
  induction n with
  | zero => intros; exact z_none
  | succ n ih =>
    intro u v1
    rw [f_X7_firstDraft_2]
    refine z_iload_n C 1 dX7_firstDraft_2 rfl ?_
    refine z_bipush (v := 61) C dX7_firstDraft_3 (by decide) ?_
    refine z_icmpge C 21 dX7_firstDraft_5 (by decide) ?_ ?_
    · refine z_aload_n C 0 dX7_firstDraft_21 rfl ?_
      refine z_iconst (v := 0) C dX7_firstDraft_22 (by decide) ?_
      refine z_put C fl_RX7_50 ft_7_5 upd_M_0_5 rfl rfl (Nat.le_of_ble_eq_true rfl) dX7_firstDraft_23 (fun u1 => ?_)
      refine z_aload_n C 0 dX7_firstDraft_26 rfl ?_
      refine z_iconst (v := 0) C dX7_firstDraft_27 (by decide) ?_
      refine z_put C fl_RX7_54 ft_7_6 upd_M_0_6 rfl rfl (Nat.le_of_ble_eq_true rfl) dX7_firstDraft_28 (fun u2 => ?_)
      refine z_aload_n C 0 dX7_firstDraft_31 rfl ?_
      refine z_bipush (v := (-4)) C dX7_firstDraft_32 (by decide) ?_
      refine z_put C fl_RX7_57 ft_7_7 upd_M_0_7 rfl rfl (Nat.le_of_ble_eq_true rfl) dX7_firstDraft_34 (fun u3 => ?_)
      exact z_vret C dX7_firstDraft_37 rfl rfl
    refine z_aload_n C 0 dX7_firstDraft_8 rfl ?_
    refine z_get C fl_RX7_20 has_M_0 rfl dX7_firstDraft_9 ?_
    refine z_iload_n C 1 dX7_firstDraft_12 rfl ?_
    refine z_iconst (v := 0) C dX7_firstDraft_13 (by decide) ?_
    refine y_iast C upd_M_4 dX7_firstDraft_14 (fun u4 => ?_)
    refine z_iinc C (v := (v1 + 1)) 1 [(1, .int (v1 + 1)), (0, .ref (b 0))] dX7_firstDraft_15 rfl rfl (by decide) rfl ?_
    refine z_goto C 2 dX7_firstDraft_18 (by decide) ?_
    refine z_loc C [(0, .ref (b 0)), (1, .int (v1 + 1))] [1, 0] rfl ?_
    exact ih u4 (v1 + 1)
noncomputable def f_X7_firstDraft (u : zM) : Option (zM) := f_X7_firstDraft_2 FU u 0
set_option maxHeartbeats 4000000 in
set_option maxRecDepth 100000 in
theorem ct_X7_firstDraft (l : Launch) (G : zG) (b : Nat → Nat) (g : Nat → Int64) (X : va_W) (u : zM) : zCt l yX7_firstDraft cX7_firstDraft 2 none 1 G [.ref (b 0)] (fun u : zM => wM b G.2 u g ++ X) (fun _ : zM => none) (fun r => r) u (f_X7_firstDraft u) := by
  refine zCt.of (by decide) (Nat.le_of_ble_eq_true rfl) (fun p e s m args below meth c A C => ?_)
  refine y_lv (lv' := [(0, .ref (b 0))]) rfl ?_
  rw [f_X7_firstDraft]
  refine z_iconst (v := 0) C dX7_firstDraft_0 (by decide) ?_
  refine z_istore_n C [(1, .int 0), (0, .ref (b 0))] dX7_firstDraft_1 (by decide) rfl ?_
  refine z_loc C [(0, .ref (b 0)), (1, .int 0)] [1, 0] rfl ?_
  exact w_X7_firstDraft_2 C b g X    FU u 0
noncomputable def f_X7_keepDraft_2 : Nat → zM → Int32 → Option (zM)
  | 0, _, _ => none
  | n + 1, u, v1 => if 61 ≤ v1 then zlet (zU u 0 3 (u 0 5)) fun u1 => if z_in 0 2 = true then zlet (zU u1 3 (Int32.toNatClampNeg 0) (vp_nar .boolean 0)) (fun u2 => if z_in 1 2 = true then zlet (zU u2 3 (Int32.toNatClampNeg 1) (vp_nar .boolean 0)) (fun u3 => some u3) else none) else none else if z_in v1 61 = true then if z_in v1 183 = true then zlet (zU u 1 (Int32.toNatClampNeg v1) (u 4 (Int32.toNatClampNeg v1))) (fun u4 => f_X7_keepDraft_2 n u4 (v1 + 1)) else none else none
set_option maxHeartbeats 4000000 in
set_option maxRecDepth 100000 in
theorem w_X7_keepDraft_2 {p : Program} {l : Launch} {e : Env} {s : State} {m : MethodId} {args : Array Value} {below : List Frame} {meth : Method} {c : Code} {G : zG} {A : Nat → Prop} (C : zC p s m args meth c RX7 cX7_keepDraft 2 none G A) (b : Nat → Nat) (g : Nat → Int64) (X : va_W) : ∀ (n : Nat) (u : zM) (v1 : Int32), PW p l e 1 s m args below meth c G A 2 (fun u : zM => wM b G.2 u g ++ X) (fun _ : zM => none) (fun r => r) u [(0, .ref (b 0)), (1, .int v1)] 2 [] (f_X7_keepDraft_2 n u v1) := by
  intro n
  induction n with
  | zero => intros; exact z_none
  | succ n ih =>
    intro u v1
    rw [f_X7_keepDraft_2]
    refine z_iload_n C 1 dX7_keepDraft_2 rfl ?_
    refine z_bipush (v := 61) C dX7_keepDraft_3 (by decide) ?_
    refine z_icmpge C 26 dX7_keepDraft_5 (by decide) ?_ ?_
    · refine z_aload_n C 0 dX7_keepDraft_26 rfl ?_
      refine z_aload_n C 0 dX7_keepDraft_27 rfl ?_
      refine z_get C fl_RX7_50 has_M_0 rfl dX7_keepDraft_28 ?_
      refine z_put C fl_RX7_60 ft_7_3 upd_M_0_3 rfl rfl (Nat.le_of_ble_eq_true rfl) dX7_keepDraft_31 (fun u1 => ?_)
      refine z_aload_n C 0 dX7_keepDraft_34 rfl ?_
      refine z_get C fl_RX7_16 has_M_0 rfl dX7_keepDraft_35 ?_
      refine z_iconst (v := 0) C dX7_keepDraft_38 (by decide) ?_
      refine z_iconst (v := 0) C dX7_keepDraft_39 (by decide) ?_
      refine y_zast C upd_M_3 dX7_keepDraft_40 (fun u2 => ?_)
      refine z_aload_n C 0 dX7_keepDraft_41 rfl ?_
      refine z_get C fl_RX7_16 has_M_0 rfl dX7_keepDraft_42 ?_
      refine z_iconst (v := 1) C dX7_keepDraft_45 (by decide) ?_
      refine z_iconst (v := 0) C dX7_keepDraft_46 (by decide) ?_
      refine y_zast C upd_M_3 dX7_keepDraft_47 (fun u3 => ?_)
      exact z_vret C dX7_keepDraft_48 rfl rfl
    refine z_aload_n C 0 dX7_keepDraft_8 rfl ?_
    refine z_get C fl_RX7_7 has_M_0 rfl dX7_keepDraft_9 ?_
    refine z_iload_n C 1 dX7_keepDraft_12 rfl ?_
    refine z_aload_n C 0 dX7_keepDraft_13 rfl ?_
    refine z_get C fl_RX7_20 has_M_0 rfl dX7_keepDraft_14 ?_
    refine z_iload_n C 1 dX7_keepDraft_17 rfl ?_
    refine y_iald C has_M_4 dX7_keepDraft_18 ?_
    refine y_iast C upd_M_1 dX7_keepDraft_19 (fun u4 => ?_)
    refine z_iinc C (v := (v1 + 1)) 1 [(1, .int (v1 + 1)), (0, .ref (b 0))] dX7_keepDraft_20 rfl rfl (by decide) rfl ?_
    refine z_goto C 2 dX7_keepDraft_23 (by decide) ?_
    refine z_loc C [(0, .ref (b 0)), (1, .int (v1 + 1))] [1, 0] rfl ?_
    exact ih u4 (v1 + 1)
noncomputable def f_X7_keepDraft (u : zM) : Option (zM) := f_X7_keepDraft_2 FU u 0
set_option maxHeartbeats 4000000 in
set_option maxRecDepth 100000 in
theorem ct_X7_keepDraft (l : Launch) (G : zG) (b : Nat → Nat) (g : Nat → Int64) (X : va_W) (u : zM) : zCt l yX7_keepDraft cX7_keepDraft 2 none 1 G [.ref (b 0)] (fun u : zM => wM b G.2 u g ++ X) (fun _ : zM => none) (fun r => r) u (f_X7_keepDraft u) := by
  refine zCt.of (by decide) (Nat.le_of_ble_eq_true rfl) (fun p e s m args below meth c A C => ?_)
  refine y_lv (lv' := [(0, .ref (b 0))]) rfl ?_
  rw [f_X7_keepDraft]
  refine z_iconst (v := 0) C dX7_keepDraft_0 (by decide) ?_
  refine z_istore_n C [(1, .int 0), (0, .ref (b 0))] dX7_keepDraft_1 (by decide) rfl ?_
  refine z_loc C [(0, .ref (b 0)), (1, .int 0)] [1, 0] rfl ?_
  exact w_X7_keepDraft_2 C b g X    FU u 0
noncomputable def f_X7_needs (u : zM) (v1 : Int32) (v2 : Int32) : Option (zM) := if v1 = 0 then if (u 0 14) = 0 then zlet (zU u 0 14 v2) fun u1 => zlet (zU u1 0 15 (u1 0 11)) fun u2 => some u2 else some u else some u
set_option maxHeartbeats 4000000 in
set_option maxRecDepth 100000 in
theorem ct_X7_needs (l : Launch) (G : zG) (b : Nat → Nat) (g : Nat → Int64) (X : va_W) (u : zM) (v1 : Int32) (v2 : Int32) : zCt l yX7_needs cX7_needs 3 none 1 G [.ref (b 0), .int v1, .int v2] (fun u : zM => wM b G.2 u g ++ X) (fun _ : zM => none) (fun r => r) u (f_X7_needs u v1 v2) := by
  refine zCt.of (by decide) (Nat.le_of_ble_eq_true rfl) (fun p e s m args below meth c A C => ?_)
  refine y_lv (lv' := [(0, .ref (b 0)), (1, .int v1), (2, .int v2)]) rfl ?_
  rw [f_X7_needs]
  refine z_iload_n C 1 dX7_needs_0 rfl ?_
  refine z_ifne C 24 dX7_needs_1 (by decide) ?_ ?_
  · refine z_aload_n C 0 dX7_needs_4 rfl ?_
    refine z_get C fl_RX7_72 has_M_0 rfl dX7_needs_5 ?_
    refine z_ifne C 24 dX7_needs_8 (by decide) ?_ ?_
    · refine z_aload_n C 0 dX7_needs_11 rfl ?_
      refine z_iload_n C 2 dX7_needs_12 rfl ?_
      refine z_put C fl_RX7_72 ft_7_14 upd_M_0_14 rfl rfl (Nat.le_of_ble_eq_true rfl) dX7_needs_13 (fun u1 => ?_)
      refine z_aload_n C 0 dX7_needs_16 rfl ?_
      refine z_aload_n C 0 dX7_needs_17 rfl ?_
      refine z_get C fl_RX7_75 has_M_0 rfl dX7_needs_18 ?_
      refine z_put C fl_RX7_78 ft_7_15 upd_M_0_15 rfl rfl (Nat.le_of_ble_eq_true rfl) dX7_needs_21 (fun u2 => ?_)
      exact z_vret C dX7_needs_24 rfl rfl
    exact z_vret C dX7_needs_24 rfl rfl
  exact z_vret C dX7_needs_24 rfl rfl
noncomputable def f_X7_of (u : zM) (v1 : Int32) (v2 : Int32) : Option (Int32) := if z_in ((4 + (5 * v1)) + v2) 61 = true then some (u 2 (Int32.toNatClampNeg ((4 + (5 * v1)) + v2))) else none
set_option maxHeartbeats 4000000 in
set_option maxRecDepth 100000 in
theorem ct_X7_of (l : Launch) (G : zG) (b : Nat → Nat) (g : Nat → Int64) (X : va_W) (u : zM) (v1 : Int32) (v2 : Int32) : zCt l yX7_of cX7_of 3 (some .int) 1 G [.ref (b 0), .int v1, .int v2] (fun u : zM => wM b G.2 u g ++ X) (fun r : Int32 => some (.int r)) (fun _ => u) u (f_X7_of u v1 v2) := by
  refine zCt.of (by decide) (Nat.le_of_ble_eq_true rfl) (fun p e s m args below meth c A C => ?_)
  refine y_lv (lv' := [(0, .ref (b 0)), (1, .int v1), (2, .int v2)]) rfl ?_
  rw [f_X7_of]
  refine z_aload_n C 0 dX7_of_0 rfl ?_
  refine z_get C fl_RX7_13 has_M_0 rfl dX7_of_1 ?_
  refine z_iconst (v := 4) C dX7_of_4 (by decide) ?_
  refine z_iconst (v := 5) C dX7_of_5 (by decide) ?_
  refine z_iload_n C 1 dX7_of_6 rfl ?_
  refine z_imul C dX7_of_7 ?_
  refine z_iadd C dX7_of_8 ?_
  refine z_iload_n C 2 dX7_of_9 rfl ?_
  refine z_iadd C dX7_of_10 ?_
  refine y_iald C has_M_2 dX7_of_11 ?_
  exact z_iret C dX7_of_12 rfl rfl rfl
noncomputable def f_X7_settles_2 : Nat → zM → Int32 → Option (zM)
  | 0, _, _ => none
  | n + 1, u, v1 => if 61 ≤ v1 then some u else if z_in v1 61 = true then if z_in v1 183 = true then zlet (zU u 1 (Int32.toNatClampNeg v1) (u 2 (Int32.toNatClampNeg v1))) (fun u1 => f_X7_settles_2 n u1 (v1 + 1)) else none else none
set_option maxHeartbeats 4000000 in
set_option maxRecDepth 100000 in
theorem w_X7_settles_2 {p : Program} {l : Launch} {e : Env} {s : State} {m : MethodId} {args : Array Value} {below : List Frame} {meth : Method} {c : Code} {G : zG} {A : Nat → Prop} (C : zC p s m args meth c RX7 cX7_settles 2 none G A) (b : Nat → Nat) (g : Nat → Int64) (X : va_W) : ∀ (n : Nat) (u : zM) (v1 : Int32), PW p l e 1 s m args below meth c G A 2 (fun u : zM => wM b G.2 u g ++ X) (fun _ : zM => none) (fun r => r) u [(0, .ref (b 0)), (1, .int v1)] 2 [] (f_X7_settles_2 n u v1) := by
  intro n
  induction n with
  | zero => intros; exact z_none
  | succ n ih =>
    intro u v1
    rw [f_X7_settles_2]
    refine z_iload_n C 1 dX7_settles_2 rfl ?_
    refine z_bipush (v := 61) C dX7_settles_3 (by decide) ?_
    refine z_icmpge C 26 dX7_settles_5 (by decide) ?_ ?_
    · exact z_vret C dX7_settles_26 rfl rfl
    refine z_aload_n C 0 dX7_settles_8 rfl ?_
    refine z_get C fl_RX7_7 has_M_0 rfl dX7_settles_9 ?_
    refine z_iload_n C 1 dX7_settles_12 rfl ?_
    refine z_aload_n C 0 dX7_settles_13 rfl ?_
    refine z_get C fl_RX7_13 has_M_0 rfl dX7_settles_14 ?_
    refine z_iload_n C 1 dX7_settles_17 rfl ?_
    refine y_iald C has_M_2 dX7_settles_18 ?_
    refine y_iast C upd_M_1 dX7_settles_19 (fun u1 => ?_)
    refine z_iinc C (v := (v1 + 1)) 1 [(1, .int (v1 + 1)), (0, .ref (b 0))] dX7_settles_20 rfl rfl (by decide) rfl ?_
    refine z_goto C 2 dX7_settles_23 (by decide) ?_
    refine z_loc C [(0, .ref (b 0)), (1, .int (v1 + 1))] [1, 0] rfl ?_
    exact ih u1 (v1 + 1)
noncomputable def f_X7_settles (u : zM) : Option (zM) := f_X7_settles_2 FU u 0
set_option maxHeartbeats 4000000 in
set_option maxRecDepth 100000 in
theorem ct_X7_settles (l : Launch) (G : zG) (b : Nat → Nat) (g : Nat → Int64) (X : va_W) (u : zM) : zCt l yX7_settles cX7_settles 2 none 1 G [.ref (b 0)] (fun u : zM => wM b G.2 u g ++ X) (fun _ : zM => none) (fun r => r) u (f_X7_settles u) := by
  refine zCt.of (by decide) (Nat.le_of_ble_eq_true rfl) (fun p e s m args below meth c A C => ?_)
  refine y_lv (lv' := [(0, .ref (b 0))]) rfl ?_
  rw [f_X7_settles]
  refine z_iconst (v := 0) C dX7_settles_0 (by decide) ?_
  refine z_istore_n C [(1, .int 0), (0, .ref (b 0))] dX7_settles_1 (by decide) rfl ?_
  refine z_loc C [(0, .ref (b 0)), (1, .int 0)] [1, 0] rfl ?_
  exact w_X7_settles_2 C b g X    FU u 0
noncomputable def f_X7_starts_2 : Nat → zM → Int32 → Option (zM)
  | 0, _, _ => none
  | n + 1, u, v1 => if 61 ≤ v1 then zlet (zU u 0 16 (-4)) fun u1 => some u1 else if z_in v1 183 = true then if z_in v1 61 = true then zlet (zU u 2 (Int32.toNatClampNeg v1) (u 1 (Int32.toNatClampNeg v1))) (fun u2 => f_X7_starts_2 n u2 (v1 + 1)) else none else none
set_option maxHeartbeats 4000000 in
set_option maxRecDepth 100000 in
theorem w_X7_starts_2 {p : Program} {l : Launch} {e : Env} {s : State} {m : MethodId} {args : Array Value} {below : List Frame} {meth : Method} {c : Code} {G : zG} {A : Nat → Prop} (C : zC p s m args meth c RX7 cX7_starts 2 none G A) (b : Nat → Nat) (g : Nat → Int64) (X : va_W) : ∀ (n : Nat) (u : zM) (v1 : Int32), PW p l e 1 s m args below meth c G A 2 (fun u : zM => wM b G.2 u g ++ X) (fun _ : zM => none) (fun r => r) u [(0, .ref (b 0)), (1, .int v1)] 2 [] (f_X7_starts_2 n u v1) := by
  intro n
  induction n with
  | zero => intros; exact z_none
  | succ n ih =>
    intro u v1
    rw [f_X7_starts_2]
    refine z_iload_n C 1 dX7_starts_2 rfl ?_
    refine z_bipush (v := 61) C dX7_starts_3 (by decide) ?_
    refine z_icmpge C 26 dX7_starts_5 (by decide) ?_ ?_
    · refine z_aload_n C 0 dX7_starts_26 rfl ?_
      refine z_bipush (v := (-4)) C dX7_starts_27 (by decide) ?_
      refine z_put C fl_RX7_140 ft_7_16 upd_M_0_16 rfl rfl (Nat.le_of_ble_eq_true rfl) dX7_starts_29 (fun u1 => ?_)
      exact z_vret C dX7_starts_32 rfl rfl
    refine z_aload_n C 0 dX7_starts_8 rfl ?_
    refine z_get C fl_RX7_13 has_M_0 rfl dX7_starts_9 ?_
    refine z_iload_n C 1 dX7_starts_12 rfl ?_
    refine z_aload_n C 0 dX7_starts_13 rfl ?_
    refine z_get C fl_RX7_7 has_M_0 rfl dX7_starts_14 ?_
    refine z_iload_n C 1 dX7_starts_17 rfl ?_
    refine y_iald C has_M_1 dX7_starts_18 ?_
    refine y_iast C upd_M_2 dX7_starts_19 (fun u2 => ?_)
    refine z_iinc C (v := (v1 + 1)) 1 [(1, .int (v1 + 1)), (0, .ref (b 0))] dX7_starts_20 rfl rfl (by decide) rfl ?_
    refine z_goto C 2 dX7_starts_23 (by decide) ?_
    refine z_loc C [(0, .ref (b 0)), (1, .int (v1 + 1))] [1, 0] rfl ?_
    exact ih u2 (v1 + 1)
noncomputable def f_X7_starts (u : zM) : Option (zM) := f_X7_starts_2 FU u 0
set_option maxHeartbeats 4000000 in
set_option maxRecDepth 100000 in
theorem ct_X7_starts (l : Launch) (G : zG) (b : Nat → Nat) (g : Nat → Int64) (X : va_W) (u : zM) : zCt l yX7_starts cX7_starts 2 none 1 G [.ref (b 0)] (fun u : zM => wM b G.2 u g ++ X) (fun _ : zM => none) (fun r => r) u (f_X7_starts u) := by
  refine zCt.of (by decide) (Nat.le_of_ble_eq_true rfl) (fun p e s m args below meth c A C => ?_)
  refine y_lv (lv' := [(0, .ref (b 0))]) rfl ?_
  rw [f_X7_starts]
  refine z_iconst (v := 0) C dX7_starts_0 (by decide) ?_
  refine z_istore_n C [(1, .int 0), (0, .ref (b 0))] dX7_starts_1 (by decide) rfl ?_
  refine z_loc C [(0, .ref (b 0)), (1, .int 0)] [1, 0] rfl ?_
  exact w_X7_starts_2 C b g X    FU u 0
noncomputable def f_X7_strengthNow (u : zM) : Option (Int32) := if z_in 41 61 = true then if z_in (35 + ((u 2 (Int32.toNatClampNeg 41)) - (u 2 (Int32.toNatClampNeg 41)) / 6 * 6)) 61 = true then some (u 2 (Int32.toNatClampNeg (35 + ((u 2 (Int32.toNatClampNeg 41)) - (u 2 (Int32.toNatClampNeg 41)) / 6 * 6)))) else none else none
set_option maxHeartbeats 4000000 in
set_option maxRecDepth 100000 in
theorem ct_X7_strengthNow (l : Launch) (G : zG) (b : Nat → Nat) (g : Nat → Int64) (X : va_W) (u : zM) : zCt l yX7_strengthNow cX7_strengthNow 1 (some .int) 1 G [.ref (b 0)] (fun u : zM => wM b G.2 u g ++ X) (fun r : Int32 => some (.int r)) (fun _ => u) u (f_X7_strengthNow u) := by
  refine zCt.of (by decide) (Nat.le_of_ble_eq_true rfl) (fun p e s m args below meth c A C => ?_)
  refine y_lv (lv' := [(0, .ref (b 0))]) rfl ?_
  rw [f_X7_strengthNow]
  refine z_aload_n C 0 dX7_strengthNow_0 rfl ?_
  refine z_get C fl_RX7_13 has_M_0 rfl dX7_strengthNow_1 ?_
  refine z_bipush (v := 35) C dX7_strengthNow_4 (by decide) ?_
  refine z_aload_n C 0 dX7_strengthNow_6 rfl ?_
  refine z_get C fl_RX7_13 has_M_0 rfl dX7_strengthNow_7 ?_
  refine z_bipush (v := 41) C dX7_strengthNow_10 (by decide) ?_
  refine y_iald C has_M_2 dX7_strengthNow_12 ?_
  refine z_bipush (v := 6) C dX7_strengthNow_13 (by decide) ?_
  refine z_iremK C (by decide) dX7_strengthNow_15 ?_
  refine z_iadd C dX7_strengthNow_16 ?_
  refine y_iald C has_M_2 dX7_strengthNow_17 ?_
  exact z_iret C dX7_strengthNow_18 rfl rfl rfl
noncomputable def f_X7_torn (u : zM) : Option (Int32) := some (u 0 27)
set_option maxHeartbeats 4000000 in
set_option maxRecDepth 100000 in
theorem ct_X7_torn (l : Launch) (G : zG) (b : Nat → Nat) (g : Nat → Int64) (X : va_W) (u : zM) : zCt l yX7_torn cX7_torn 1 (some .int) 1 G [.ref (b 0)] (fun u : zM => wM b G.2 u g ++ X) (fun r : Int32 => some (.int r)) (fun _ => u) u (f_X7_torn u) := by
  refine zCt.of (by decide) (Nat.le_of_ble_eq_true rfl) (fun p e s m args below meth c A C => ?_)
  refine y_lv (lv' := [(0, .ref (b 0))]) rfl ?_
  rw [f_X7_torn]
  refine z_aload_n C 0 dX7_torn_0 rfl ?_
  refine z_get C fl_RX7_300 has_M_0 rfl dX7_torn_1 ?_
  exact z_iret C dX7_torn_4 rfl rfl rfl
noncomputable def f_X7_back (u : zM) (v1 : Int32) : Option (Int32 × zM) := (f_X7_in (Int32.toInt64 v1) (0 : Int64) (1 : Int64)).bind fun r1 => if r1 = true then if z_in v1 2 = true then if (u 3 (Int32.toNatClampNeg v1)) = 0 then some ((-2), u) else (f_X7_copies u 0 (61 * (v1 + 1))).bind fun r2 => zlet r2 fun u3 => if z_in 41 183 = true then some ((u3 1 (Int32.toNatClampNeg 41)), u3) else none else none else some ((-1), u)
set_option maxHeartbeats 4000000 in
set_option maxRecDepth 100000 in
theorem ct_X7_back (l : Launch) (G : zG) (b : Nat → Nat) (g : Nat → Int64) (X : va_W) (u : zM) (v1 : Int32) : zCt l yX7_back cX7_back 2 (some .int) 2 G [.ref (b 0), .int v1] (fun u : zM => wM b G.2 u g ++ X) (fun r : Int32 × zM => some (.int r.1)) (fun r => r.2) u (f_X7_back u v1) := by
  refine zCt.of (by decide) (Nat.le_of_ble_eq_true rfl) (fun p e s m args below meth c A C => ?_)
  refine y_lv (lv' := [(0, .ref (b 0)), (1, .int v1)]) rfl ?_
  rw [f_X7_back]
  refine z_iload_n C 1 dX7_back_0 rfl ?_
  refine z_i2l C dX7_back_1 ?_
  refine z_lconst (v := 0) C dX7_back_2 (by decide) ?_
  refine z_lconst (v := 1) C dX7_back_3 (by decide) ?_
  refine y_callZ C (z_invS C [.long (Int32.toInt64 v1), .long (0 : Int64), .long (1 : Int64)] [] (ct_X7_in l G ((fun u : zM => wM b G.2 u g ++ X) u) (Int32.toInt64 v1) (0 : Int64) (1 : Int64)) mi_X7_in mt_X7_in ml_RX7_65 (by decide) rfl rfl dX7_back_4 (Nat.le_of_ble_eq_true rfl)) (List.Perm.refl _) (fun r1 => ?_)
  refine z_zifne C 12 dX7_back_7 (by decide) ?_ ?_
  · refine z_aload_n C 0 dX7_back_12 rfl ?_
    refine z_get C fl_RX7_16 has_M_0 rfl dX7_back_13 ?_
    refine z_iload_n C 1 dX7_back_16 rfl ?_
    refine y_zald C has_M_3 dX7_back_17 ?_
    refine z_ifne C 24 dX7_back_18 (by decide) ?_ ?_
    · refine z_bipush (v := (-2)) C dX7_back_21 (by decide) ?_
      exact z_iret C dX7_back_23 rfl rfl rfl
    refine z_aload_n C 0 dX7_back_24 rfl ?_
    refine z_iconst (v := 0) C dX7_back_25 (by decide) ?_
    refine z_bipush (v := 61) C dX7_back_26 (by decide) ?_
    refine z_iload_n C 1 dX7_back_28 rfl ?_
    refine z_iconst (v := 1) C dX7_back_29 (by decide) ?_
    refine z_iadd C dX7_back_30 ?_
    refine z_imul C dX7_back_31 ?_
    refine y_callVS C (z_invV C [.int 0, .int (61 * (v1 + 1))] [] (ct_X7_copies l G b g X u 0 (61 * (v1 + 1))) mi_X7_copies md_X7_copies ms_X7_copies ml_RX7_286 has_M_0 ⟨_, rfl, rfl⟩ (by decide) rfl rfl dX7_back_32 (Nat.le_of_ble_eq_true rfl)) (List.Perm.refl _) (fun _ => List.Perm.refl _) (fun r2 u3 => ?_)
    refine z_aload_n C 0 dX7_back_35 rfl ?_
    refine z_get C fl_RX7_7 has_M_0 rfl dX7_back_36 ?_
    refine z_bipush (v := 41) C dX7_back_39 (by decide) ?_
    refine y_iald C has_M_1 dX7_back_41 ?_
    exact z_iret C dX7_back_42 rfl rfl rfl
  refine z_iconst (v := (-1)) C dX7_back_10 (by decide) ?_
  exact z_iret C dX7_back_11 rfl rfl rfl
noncomputable def f_X7_blow (u : zM) (v1 : Int32) (v2 : Int32) : Option (Int32 × zM) := (f_X7_in (Int32.toInt64 v1) (0 : Int64) (5 : Int64)).bind fun r1 => if r1 = true then (f_X7_in (Int32.toInt64 v2) (0 : Int64) (9 : Int64)).bind fun r2 => if r2 = true then (f_X7_becomes u (35 + v1) v2).bind fun r3 => zlet r3.2 fun u4 => some (r3.1, u4) else some ((-1), u) else some ((-1), u)
set_option maxHeartbeats 4000000 in
set_option maxRecDepth 100000 in
theorem ct_X7_blow (l : Launch) (G : zG) (b : Nat → Nat) (g : Nat → Int64) (X : va_W) (u : zM) (v1 : Int32) (v2 : Int32) : zCt l yX7_blow cX7_blow 3 (some .int) 2 G [.ref (b 0), .int v1, .int v2] (fun u : zM => wM b G.2 u g ++ X) (fun r : Int32 × zM => some (.int r.1)) (fun r => r.2) u (f_X7_blow u v1 v2) := by
  refine zCt.of (by decide) (Nat.le_of_ble_eq_true rfl) (fun p e s m args below meth c A C => ?_)
  refine y_lv (lv' := [(0, .ref (b 0)), (1, .int v1), (2, .int v2)]) rfl ?_
  rw [f_X7_blow]
  refine z_iload_n C 1 dX7_blow_0 rfl ?_
  refine z_i2l C dX7_blow_1 ?_
  refine z_lconst (v := 0) C dX7_blow_2 (by decide) ?_
  refine z_ldc2 C kc_RX7_210 dX7_blow_3 ?_
  refine y_callZ C (z_invS C [.long (Int32.toInt64 v1), .long (0 : Int64), .long (5 : Int64)] [] (ct_X7_in l G ((fun u : zM => wM b G.2 u g ++ X) u) (Int32.toInt64 v1) (0 : Int64) (5 : Int64)) mi_X7_in mt_X7_in ml_RX7_65 (by decide) rfl rfl dX7_blow_6 (Nat.le_of_ble_eq_true rfl)) (List.Perm.refl _) (fun r1 => ?_)
  refine z_zifeq C 36 dX7_blow_9 (by decide) ?_ ?_
  · refine z_iload_n C 2 dX7_blow_12 rfl ?_
    refine z_i2l C dX7_blow_13 ?_
    refine z_lconst (v := 0) C dX7_blow_14 (by decide) ?_
    refine z_ldc2 C kc_RX7_138 dX7_blow_15 ?_
    refine y_callZ C (z_invS C [.long (Int32.toInt64 v2), .long (0 : Int64), .long (9 : Int64)] [] (ct_X7_in l G ((fun u : zM => wM b G.2 u g ++ X) u) (Int32.toInt64 v2) (0 : Int64) (9 : Int64)) mi_X7_in mt_X7_in ml_RX7_65 (by decide) rfl rfl dX7_blow_18 (Nat.le_of_ble_eq_true rfl)) (List.Perm.refl _) (fun r2 => ?_)
    refine z_zifeq C 36 dX7_blow_21 (by decide) ?_ ?_
    · refine z_aload_n C 0 dX7_blow_24 rfl ?_
      refine z_bipush (v := 35) C dX7_blow_25 (by decide) ?_
      refine z_iload_n C 1 dX7_blow_27 rfl ?_
      refine z_iadd C dX7_blow_28 ?_
      refine z_iload_n C 2 dX7_blow_29 rfl ?_
      refine y_callIS C (z_invV C [.int (35 + v1), .int v2] [] (ct_X7_becomes l G b g X u (35 + v1) v2) mi_X7_becomes md_X7_becomes ms_X7_becomes ml_RX7_218 has_M_0 ⟨_, rfl, rfl⟩ (by decide) rfl rfl dX7_blow_30 (Nat.le_of_ble_eq_true rfl)) (List.Perm.refl _) (fun _ => List.Perm.refl _) (fun r3 u4 => ?_)
      refine z_goto C 37 dX7_blow_33 (by decide) ?_
      exact z_iret C dX7_blow_37 rfl rfl rfl
    refine z_iconst (v := (-1)) C dX7_blow_36 (by decide) ?_
    exact z_iret C dX7_blow_37 rfl rfl rfl
  refine z_iconst (v := (-1)) C dX7_blow_36 (by decide) ?_
  exact z_iret C dX7_blow_37 rfl rfl rfl
noncomputable def f_X7_count_42 : Nat → zM → Int32 → Int32 → Int32 → Int32 → Option (Int32 × zM)
  | 0, _, _, _, _, _ => none
  | n + 1, u, v1, v2, v3, v4 => if 6 ≤ v4 then if v1 = 0 then if z_in 42 183 = true then some ((u 1 (Int32.toNatClampNeg 42)), u) else none else if v1 = 1 then if z_in 0 2 = true then (f_X7_flag (u 3 (Int32.toNatClampNeg 0))).bind fun r5 => if z_in 1 2 = true then (f_X7_flag (u 3 (Int32.toNatClampNeg 1))).bind fun r6 => some ((r5 + r6), u) else none else none else if v1 = 2 then some ((u 0 9), u) else if v1 = 3 then if z_in 0 4 = true then if (u 8 (Int32.toNatClampNeg 0)) = (-4) then some ((-4), u) else if z_in 0 4 = true then some ((u 9 (Int32.toNatClampNeg 0)), u) else none else none else if v1 = 4 then some (v2, u) else if v1 = 5 then some (v3, u) else some ((-1), u) else if z_in (35 + v4) 183 = true then f_X7_count_42 n u v1 v2 (v3 + (u 1 (Int32.toNatClampNeg (35 + v4)))) (v4 + 1) else none
set_option maxHeartbeats 4000000 in
set_option maxRecDepth 100000 in
theorem w_X7_count_42 {p : Program} {l : Launch} {e : Env} {s : State} {m : MethodId} {args : Array Value} {below : List Frame} {meth : Method} {c : Code} {G : zG} {A : Nat → Prop} (C : zC p s m args meth c RX7 cX7_count 5 (some .int) G A) (b : Nat → Nat) (g : Nat → Int64) (X : va_W) : ∀ (n : Nat) (u : zM) (v1 : Int32) (v2 : Int32) (v3 : Int32) (v4 : Int32), PW p l e 2 s m args below meth c G A 5 (fun u : zM => wM b G.2 u g ++ X) (fun r : Int32 × zM => some (.int r.1)) (fun r => r.2) u [(0, .ref (b 0)), (1, .int v1), (2, .int v2), (3, .int v3), (4, .int v4)] 42 [] (f_X7_count_42 n u v1 v2 v3 v4) := by
  intro n
  induction n with
  | zero => intros; exact z_none
  | succ n ih =>
    intro u v1 v2 v3 v4
    rw [f_X7_count_42]
    refine z_iload C 4 dX7_count_42 rfl ?_
    refine z_bipush (v := 6) C dX7_count_44 (by decide) ?_
    refine z_icmpge C 68 dX7_count_46 (by decide) ?_ ?_
    · refine z_iload_n C 1 dX7_count_68 rfl ?_
      refine z_ite (fun h3 => ?_) (fun h3 => ?_)
      · refine z_tableIn C 108 dX7_count_69 (by rw [h3]; decide) (by rw [h3]; decide) (by rw [h3]; rfl) (by decide) ?_
        refine z_aload_n C 0 dX7_count_108 rfl ?_
        refine z_get C fl_RX7_7 has_M_0 rfl dX7_count_109 ?_
        refine z_bipush (v := 42) C dX7_count_112 (by decide) ?_
        refine y_iald C has_M_1 dX7_count_114 ?_
        exact z_iret C dX7_count_115 rfl rfl rfl
      refine z_ite (fun h4 => ?_) (fun h4 => ?_)
      · refine z_tableIn C 116 dX7_count_69 (by rw [h4]; decide) (by rw [h4]; decide) (by rw [h4]; rfl) (by decide) ?_
        refine z_aload_n C 0 dX7_count_116 rfl ?_
        refine z_get C fl_RX7_16 has_M_0 rfl dX7_count_117 ?_
        refine z_iconst (v := 0) C dX7_count_120 (by decide) ?_
        refine y_zald C has_M_3 dX7_count_121 ?_
        refine y_callI C (z_invS C [.int (u 3 (Int32.toNatClampNeg 0))] [] (ct_X7_flag l G ((fun u : zM => wM b G.2 u g ++ X) u) (u 3 (Int32.toNatClampNeg 0))) mi_X7_flag mt_X7_flag ml_RX7_187 (by decide) rfl rfl dX7_count_122 (Nat.le_of_ble_eq_true rfl)) (List.Perm.refl _) (fun r5 => ?_)
        refine z_aload_n C 0 dX7_count_125 rfl ?_
        refine z_get C fl_RX7_16 has_M_0 rfl dX7_count_126 ?_
        refine z_iconst (v := 1) C dX7_count_129 (by decide) ?_
        refine y_zald C has_M_3 dX7_count_130 ?_
        refine y_callI C (z_invS C [.int (u 3 (Int32.toNatClampNeg 1))] [.int r5] (ct_X7_flag l G ((fun u : zM => wM b G.2 u g ++ X) u) (u 3 (Int32.toNatClampNeg 1))) mi_X7_flag mt_X7_flag ml_RX7_187 (by decide) rfl rfl dX7_count_131 (Nat.le_of_ble_eq_true rfl)) (List.Perm.refl _) (fun r6 => ?_)
        refine z_iadd C dX7_count_134 ?_
        exact z_iret C dX7_count_135 rfl rfl rfl
      refine z_ite (fun h7 => ?_) (fun h7 => ?_)
      · refine z_tableIn C 136 dX7_count_69 (by rw [h7]; decide) (by rw [h7]; decide) (by rw [h7]; rfl) (by decide) ?_
        refine z_aload_n C 0 dX7_count_136 rfl ?_
        refine z_get C fl_RX7_69 has_M_0 rfl dX7_count_137 ?_
        exact z_iret C dX7_count_140 rfl rfl rfl
      refine z_ite (fun h8 => ?_) (fun h8 => ?_)
      · refine z_tableIn C 141 dX7_count_69 (by rw [h8]; decide) (by rw [h8]; decide) (by rw [h8]; rfl) (by decide) ?_
        refine z_aload_n C 0 dX7_count_141 rfl ?_
        refine z_get C fl_RX7_32 has_M_0 rfl dX7_count_142 ?_
        refine z_iconst (v := 0) C dX7_count_145 (by decide) ?_
        refine y_iald C has_M_8 dX7_count_146 ?_
        refine z_bipush (v := (-4)) C dX7_count_147 (by decide) ?_
        refine z_icmpne C 157 dX7_count_149 (by decide) ?_ ?_
        · refine z_bipush (v := (-4)) C dX7_count_152 (by decide) ?_
          refine z_goto C 163 dX7_count_154 (by decide) ?_
          exact z_iret C dX7_count_163 rfl rfl rfl
        refine z_aload_n C 0 dX7_count_157 rfl ?_
        refine z_get C fl_RX7_35 has_M_0 rfl dX7_count_158 ?_
        refine z_iconst (v := 0) C dX7_count_161 (by decide) ?_
        refine y_iald C has_M_9 dX7_count_162 ?_
        exact z_iret C dX7_count_163 rfl rfl rfl
      refine z_ite (fun h9 => ?_) (fun h9 => ?_)
      · refine z_tableIn C 164 dX7_count_69 (by rw [h9]; decide) (by rw [h9]; decide) (by rw [h9]; rfl) (by decide) ?_
        refine z_iload_n C 2 dX7_count_164 rfl ?_
        exact z_iret C dX7_count_165 rfl rfl rfl
      refine z_ite (fun h10 => ?_) (fun h10 => ?_)
      · refine z_tableIn C 166 dX7_count_69 (by rw [h10]; decide) (by rw [h10]; decide) (by rw [h10]; rfl) (by decide) ?_
        refine z_iload_n C 3 dX7_count_166 rfl ?_
        exact z_iret C dX7_count_167 rfl rfl rfl
      have g11 := z_ni h3
      have g12 := z_ni h4
      have g13 := z_ni h7
      have g14 := z_ni h8
      have g15 := z_ni h9
      have g16 := z_ni h10
      refine z_tableOut C 168 dX7_count_69 (by simp only [show Int32.toInt 0 = 0 from by decide, show Int32.toInt 1 = 1 from by decide, show Int32.toInt 2 = 2 from by decide, show Int32.toInt 3 = 3 from by decide, show Int32.toInt 4 = 4 from by decide, show Int32.toInt 5 = 5 from by decide] at g11 g12 g13 g14 g15 g16; omega) (by decide) ?_
      refine z_iconst (v := (-1)) C dX7_count_168 (by decide) ?_
      exact z_iret C dX7_count_169 rfl rfl rfl
    refine z_iload_n C 3 dX7_count_49 rfl ?_
    refine z_aload_n C 0 dX7_count_50 rfl ?_
    refine z_get C fl_RX7_7 has_M_0 rfl dX7_count_51 ?_
    refine z_bipush (v := 35) C dX7_count_54 (by decide) ?_
    refine z_iload C 4 dX7_count_56 rfl ?_
    refine z_iadd C dX7_count_58 ?_
    refine y_iald C has_M_1 dX7_count_59 ?_
    refine z_iadd C dX7_count_60 ?_
    refine z_istore_n C [(3, .int (v3 + (u 1 (Int32.toNatClampNeg (35 + v4))))), (0, .ref (b 0)), (1, .int v1), (2, .int v2), (4, .int v4)] dX7_count_61 (by decide) rfl ?_
    refine z_iinc C (v := (v4 + 1)) 4 [(4, .int (v4 + 1)), (3, .int (v3 + (u 1 (Int32.toNatClampNeg (35 + v4))))), (0, .ref (b 0)), (1, .int v1), (2, .int v2)] dX7_count_62 rfl rfl (by decide) rfl ?_
    refine z_goto C 42 dX7_count_65 (by decide) ?_
    refine z_loc C [(0, .ref (b 0)), (1, .int v1), (2, .int v2), (3, .int (v3 + (u 1 (Int32.toNatClampNeg (35 + v4))))), (4, .int (v4 + 1))] [2, 3, 4, 1, 0] rfl ?_
    exact ih u v1 v2 (v3 + (u 1 (Int32.toNatClampNeg (35 + v4)))) (v4 + 1)
noncomputable def f_X7_count_11 : Nat → zM → Int32 → Int32 → Bool → Int32 → Option (Int32 × zM)
  | 0, _, _, _, _, _ => none
  | n + 1, u, v1, v2, v3, v4 => if z_in 34 183 = true then if (u 1 (Int32.toNatClampNeg 34)) ≤ v4 then f_X7_count_42 FU u v1 v2 (zb v3) 0 else (f_X7_of u v4 1).bind fun r17 => f_X7_count_11 n u v1 (v2 + r17) v3 (v4 + 1) else none
set_option maxHeartbeats 4000000 in
set_option maxRecDepth 100000 in
theorem w_X7_count_11 {p : Program} {l : Launch} {e : Env} {s : State} {m : MethodId} {args : Array Value} {below : List Frame} {meth : Method} {c : Code} {G : zG} {A : Nat → Prop} (C : zC p s m args meth c RX7 cX7_count 5 (some .int) G A) (b : Nat → Nat) (g : Nat → Int64) (X : va_W) : ∀ (n : Nat) (u : zM) (v1 : Int32) (v2 : Int32) (v3 : Bool) (v4 : Int32), PW p l e 2 s m args below meth c G A 5 (fun u : zM => wM b G.2 u g ++ X) (fun r : Int32 × zM => some (.int r.1)) (fun r => r.2) u [(0, .ref (b 0)), (1, .int v1), (2, .int v2), (3, .int (zb v3)), (4, .int v4)] 11 [] (f_X7_count_11 n u v1 v2 v3 v4) := by
  intro n
  induction n with
  | zero => intros; exact z_none
  | succ n ih =>
    intro u v1 v2 v3 v4
    rw [f_X7_count_11]
    refine z_iload C 4 dX7_count_11 rfl ?_
    refine z_aload_n C 0 dX7_count_13 rfl ?_
    refine z_get C fl_RX7_7 has_M_0 rfl dX7_count_14 ?_
    refine z_bipush (v := 34) C dX7_count_17 (by decide) ?_
    refine y_iald C has_M_1 dX7_count_19 ?_
    refine z_icmpge C 39 dX7_count_20 (by decide) ?_ ?_
    · refine z_iconst (v := 0) C dX7_count_39 (by decide) ?_
      refine z_istore C [(4, .int 0), (0, .ref (b 0)), (1, .int v1), (2, .int v2), (3, .int (zb v3))] dX7_count_40 (by decide) rfl ?_
      refine z_loc C [(0, .ref (b 0)), (1, .int v1), (2, .int v2), (3, .int (zb v3)), (4, .int 0)] [1, 2, 3, 4, 0] rfl ?_
      exact w_X7_count_42 C b g X    FU u v1 v2 (zb v3) 0
    refine z_iload_n C 2 dX7_count_23 rfl ?_
    refine z_aload_n C 0 dX7_count_24 rfl ?_
    refine z_iload C 4 dX7_count_25 rfl ?_
    refine z_iconst (v := 1) C dX7_count_27 (by decide) ?_
    refine y_callI C (z_invV C [.int v4, .int 1] [.int v2] (ct_X7_of l G b g X u v4 1) mi_X7_of md_X7_of ms_X7_of ml_RX7_143 has_M_0 ⟨_, rfl, rfl⟩ (by decide) rfl rfl dX7_count_28 (Nat.le_of_ble_eq_true rfl)) (List.Perm.refl _) (fun r17 => ?_)
    refine z_iadd C dX7_count_31 ?_
    refine z_istore_n C [(2, .int (v2 + r17)), (0, .ref (b 0)), (1, .int v1), (3, .int (zb v3)), (4, .int v4)] dX7_count_32 (by decide) rfl ?_
    refine z_iinc C (v := (v4 + 1)) 4 [(4, .int (v4 + 1)), (2, .int (v2 + r17)), (0, .ref (b 0)), (1, .int v1), (3, .int (zb v3))] dX7_count_33 rfl rfl (by decide) rfl ?_
    refine z_goto C 11 dX7_count_36 (by decide) ?_
    refine z_loc C [(0, .ref (b 0)), (1, .int v1), (2, .int (v2 + r17)), (3, .int (zb v3)), (4, .int (v4 + 1))] [2, 3, 1, 4, 0] rfl ?_
    exact ih u v1 (v2 + r17) v3 (v4 + 1)
noncomputable def f_X7_count (u : zM) (v1 : Int32) : Option (Int32 × zM) := (f_X7_starts u).bind fun r1 => zlet r1 fun u2 => f_X7_count_11 FU u2 v1 0 false 0
set_option maxHeartbeats 4000000 in
set_option maxRecDepth 100000 in
theorem ct_X7_count (l : Launch) (G : zG) (b : Nat → Nat) (g : Nat → Int64) (X : va_W) (u : zM) (v1 : Int32) : zCt l yX7_count cX7_count 5 (some .int) 2 G [.ref (b 0), .int v1] (fun u : zM => wM b G.2 u g ++ X) (fun r : Int32 × zM => some (.int r.1)) (fun r => r.2) u (f_X7_count u v1) := by
  refine zCt.of (by decide) (Nat.le_of_ble_eq_true rfl) (fun p e s m args below meth c A C => ?_)
  refine y_lv (lv' := [(0, .ref (b 0)), (1, .int v1)]) rfl ?_
  rw [f_X7_count]
  refine z_aload_n C 0 dX7_count_0 rfl ?_
  refine y_callVS C (z_invV C [] [] (ct_X7_starts l G b g X u ) mi_X7_starts md_X7_starts ms_X7_starts ml_RX7_191 has_M_0 ⟨_, rfl, rfl⟩ (by decide) rfl rfl dX7_count_1 (Nat.le_of_ble_eq_true rfl)) (List.Perm.refl _) (fun _ => List.Perm.refl _) (fun r1 u2 => ?_)
  refine z_iconst (v := 0) C dX7_count_4 (by decide) ?_
  refine z_istore_n C [(2, .int 0), (0, .ref (b 0)), (1, .int v1)] dX7_count_5 (by decide) rfl ?_
  refine z_iconst (v := 0) C dX7_count_6 (by decide) ?_
  refine z_istore_n C [(3, .int 0), (2, .int 0), (0, .ref (b 0)), (1, .int v1)] dX7_count_7 (by decide) rfl ?_
  refine z_iconst (v := 0) C dX7_count_8 (by decide) ?_
  refine z_istore C [(4, .int 0), (3, .int 0), (2, .int 0), (0, .ref (b 0)), (1, .int v1)] dX7_count_9 (by decide) rfl ?_
  refine z_loc C [(0, .ref (b 0)), (1, .int v1), (2, .int 0), (3, .int (zb false)), (4, .int 0)] [3, 4, 2, 1, 0] rfl ?_
  exact w_X7_count_11 C b g X    FU u2 v1 0 false 0
noncomputable def f_X7_end (u : zM) (v1 : Int32) : Option (Int32 × zM) := (f_X7_in (Int32.toInt64 v1) (0 : Int64) (Int32.toInt64 (u 0 9))).bind fun r1 => if r1 = true then zlet (zU u 0 9 v1) fun u2 => some ((u 0 9), u2) else some ((-1), u)
set_option maxHeartbeats 4000000 in
set_option maxRecDepth 100000 in
theorem ct_X7_end (l : Launch) (G : zG) (b : Nat → Nat) (g : Nat → Int64) (X : va_W) (u : zM) (v1 : Int32) : zCt l yX7_end cX7_end 3 (some .int) 2 G [.ref (b 0), .int v1] (fun u : zM => wM b G.2 u g ++ X) (fun r : Int32 × zM => some (.int r.1)) (fun r => r.2) u (f_X7_end u v1) := by
  refine zCt.of (by decide) (Nat.le_of_ble_eq_true rfl) (fun p e s m args below meth c A C => ?_)
  refine y_lv (lv' := [(0, .ref (b 0)), (1, .int v1)]) rfl ?_
  rw [f_X7_end]
  refine z_iload_n C 1 dX7_end_0 rfl ?_
  refine z_i2l C dX7_end_1 ?_
  refine z_lconst (v := 0) C dX7_end_2 (by decide) ?_
  refine z_aload_n C 0 dX7_end_3 rfl ?_
  refine z_get C fl_RX7_69 has_M_0 rfl dX7_end_4 ?_
  refine z_i2l C dX7_end_7 ?_
  refine y_callZ C (z_invS C [.long (Int32.toInt64 v1), .long (0 : Int64), .long (Int32.toInt64 (u 0 9))] [] (ct_X7_in l G ((fun u : zM => wM b G.2 u g ++ X) u) (Int32.toInt64 v1) (0 : Int64) (Int32.toInt64 (u 0 9))) mi_X7_in mt_X7_in ml_RX7_65 (by decide) rfl rfl dX7_end_8 (Nat.le_of_ble_eq_true rfl)) (List.Perm.refl _) (fun r1 => ?_)
  refine z_zifne C 16 dX7_end_11 (by decide) ?_ ?_
  · refine z_aload_n C 0 dX7_end_16 rfl ?_
    refine z_get C fl_RX7_69 has_M_0 rfl dX7_end_17 ?_
    refine z_istore_n C [(2, .int (u 0 9)), (0, .ref (b 0)), (1, .int v1)] dX7_end_20 (by decide) rfl ?_
    refine z_aload_n C 1 dX7_end_21 rfl ?_
    refine z_iload_n C 2 dX7_end_22 rfl ?_
    refine z_put C fl_RX7_69 ft_7_9 upd_M_0_9 rfl rfl (Nat.le_of_ble_eq_true rfl) dX7_end_23 (fun u2 => ?_)
    refine z_iload_n C 0 dX7_end_26 rfl ?_
    exact z_iret C dX7_end_27 rfl rfl rfl
  refine z_iconst (v := (-1)) C dX7_end_14 (by decide) ?_
  exact z_iret C dX7_end_15 rfl rfl rfl
noncomputable def f_X7_ends_32 (u : zM) (v3 : Int32) : Option (Bool) := if v3 = 0 then some true else (f_X7_byteAt u ((u 0 11) + 5)).bind fun r2 => if r2 = v3 then some true else some false
set_option maxHeartbeats 4000000 in
set_option maxRecDepth 100000 in
theorem w_X7_ends_32 {p : Program} {l : Launch} {e : Env} {s : State} {m : MethodId} {args : Array Value} {below : List Frame} {meth : Method} {c : Code} {G : zG} {A : Nat → Prop} (C : zC p s m args meth c RX7 cX7_ends 4 (some .boolean) G A) (b : Nat → Nat) (g : Nat → Int64) (X : va_W) (u : zM) : ∀ (v3 : Int32), PW p l e 2 s m args below meth c G A 4 (fun u : zM => wM b G.2 u g ++ X) (fun r : Bool => some (.int (zb r))) (fun _ => u) u [(0, .ref (b 0)), (3, .int v3)] 32 [] (f_X7_ends_32 u v3) := by
  intro v3
  rw [f_X7_ends_32]
  refine z_iload_n C 1 dX7_ends_32 rfl ?_
  refine z_ifeq C 50 dX7_ends_33 (by decide) ?_ ?_
  · refine z_iconst (v := 1) C dX7_ends_50 (by decide) ?_
    refine z_goto C 55 dX7_ends_51 (by decide) ?_
    exact z_zret (b := true) C dX7_ends_55 rfl rfl
  refine z_aload_n C 0 dX7_ends_36 rfl ?_
  refine z_aload_n C 0 dX7_ends_37 rfl ?_
  refine z_get C fl_RX7_75 has_M_0 rfl dX7_ends_38 ?_
  refine z_iconst (v := 5) C dX7_ends_41 (by decide) ?_
  refine z_iadd C dX7_ends_42 ?_
  refine y_callI C (z_invV C [.int ((u 0 11) + 5)] [] (ct_X7_byteAt l G b g X u ((u 0 11) + 5)) mi_X7_byteAt md_X7_byteAt ms_X7_byteAt ml_RX7_84 has_M_0 ⟨_, rfl, rfl⟩ (by decide) rfl rfl dX7_ends_43 (Nat.le_of_ble_eq_true rfl)) (List.Perm.refl _) (fun r2 => ?_)
  refine z_iload_n C 1 dX7_ends_46 rfl ?_
  refine z_icmpne C 54 dX7_ends_47 (by decide) ?_ ?_
  · refine z_iconst (v := 1) C dX7_ends_50 (by decide) ?_
    refine z_goto C 55 dX7_ends_51 (by decide) ?_
    exact z_zret (b := true) C dX7_ends_55 rfl rfl
  refine z_iconst (v := 0) C dX7_ends_54 (by decide) ?_
  exact z_zret (b := false) C dX7_ends_55 rfl rfl
noncomputable def f_X7_ends (u : zM) (v1 : Int32) (v2 : Int32) (v3 : Int32) : Option (Bool) := (f_X7_byteAt u ((u 0 11) + 3)).bind fun r1 => if r1 = v1 then if v2 = 0 then f_X7_ends_32  u v3 else (f_X7_byteAt u ((u 0 11) + 4)).bind fun r3 => if r3 = v2 then f_X7_ends_32  u v3 else some false else some false
set_option maxHeartbeats 4000000 in
set_option maxRecDepth 100000 in
theorem ct_X7_ends (l : Launch) (G : zG) (b : Nat → Nat) (g : Nat → Int64) (X : va_W) (u : zM) (v1 : Int32) (v2 : Int32) (v3 : Int32) : zCt l yX7_ends cX7_ends 4 (some .boolean) 2 G [.ref (b 0), .int v1, .int v2, .int v3] (fun u : zM => wM b G.2 u g ++ X) (fun r : Bool => some (.int (zb r))) (fun _ => u) u (f_X7_ends u v1 v2 v3) := by
  refine zCt.of (by decide) (Nat.le_of_ble_eq_true rfl) (fun p e s m args below meth c A C => ?_)
  refine y_lv (lv' := [(0, .ref (b 0)), (1, .int v1), (2, .int v2), (3, .int v3)]) rfl ?_
  rw [f_X7_ends]
  refine z_aload_n C 0 dX7_ends_0 rfl ?_
  refine z_aload_n C 0 dX7_ends_1 rfl ?_
  refine z_get C fl_RX7_75 has_M_0 rfl dX7_ends_2 ?_
  refine z_iconst (v := 3) C dX7_ends_5 (by decide) ?_
  refine z_iadd C dX7_ends_6 ?_
  refine y_callI C (z_invV C [.int ((u 0 11) + 3)] [] (ct_X7_byteAt l G b g X u ((u 0 11) + 3)) mi_X7_byteAt md_X7_byteAt ms_X7_byteAt ml_RX7_84 has_M_0 ⟨_, rfl, rfl⟩ (by decide) rfl rfl dX7_ends_7 (Nat.le_of_ble_eq_true rfl)) (List.Perm.refl _) (fun r1 => ?_)
  refine z_iload_n C 1 dX7_ends_10 rfl ?_
  refine z_icmpne C 54 dX7_ends_11 (by decide) ?_ ?_
  · refine z_iload_n C 2 dX7_ends_14 rfl ?_
    refine z_ifeq C 32 dX7_ends_15 (by decide) ?_ ?_
    · refine z_loc C [(0, .ref (b 0)), (3, .int v3)] [0, 3] rfl ?_
      exact w_X7_ends_32 C b g X u    v3
    refine z_aload_n C 0 dX7_ends_18 rfl ?_
    refine z_aload_n C 0 dX7_ends_19 rfl ?_
    refine z_get C fl_RX7_75 has_M_0 rfl dX7_ends_20 ?_
    refine z_iconst (v := 4) C dX7_ends_23 (by decide) ?_
    refine z_iadd C dX7_ends_24 ?_
    refine y_callI C (z_invV C [.int ((u 0 11) + 4)] [] (ct_X7_byteAt l G b g X u ((u 0 11) + 4)) mi_X7_byteAt md_X7_byteAt ms_X7_byteAt ml_RX7_84 has_M_0 ⟨_, rfl, rfl⟩ (by decide) rfl rfl dX7_ends_25 (Nat.le_of_ble_eq_true rfl)) (List.Perm.refl _) (fun r3 => ?_)
    refine z_iload_n C 2 dX7_ends_28 rfl ?_
    refine z_icmpne C 54 dX7_ends_29 (by decide) ?_ ?_
    · refine z_loc C [(0, .ref (b 0)), (3, .int v3)] [0, 3] rfl ?_
      exact w_X7_ends_32 C b g X u    v3
    refine z_iconst (v := 0) C dX7_ends_54 (by decide) ?_
    exact z_zret (b := false) C dX7_ends_55 rfl rfl
  refine z_iconst (v := 0) C dX7_ends_54 (by decide) ?_
  exact z_zret (b := false) C dX7_ends_55 rfl rfl
noncomputable def f_X7_feed (u : zM) (v1 : Int32) : Option (Int32 × zM) := (f_X7_in (Int32.toInt64 v1) (0 : Int64) (127 : Int64)).bind fun r1 => if r1 = true then if (u 0 9) = 160 then some ((-3), u) else if z_in (u 0 9) 160 = true then zlet (zU u 5 (Int32.toNatClampNeg (u 0 9)) v1) (fun u2 => zlet (zU u2 0 9 ((u2 0 9) + 1)) fun u3 => some ((u3 0 9), u3)) else none else some ((-1), u)
set_option maxHeartbeats 4000000 in
set_option maxRecDepth 100000 in
theorem ct_X7_feed (l : Launch) (G : zG) (b : Nat → Nat) (g : Nat → Int64) (X : va_W) (u : zM) (v1 : Int32) : zCt l yX7_feed cX7_feed 2 (some .int) 2 G [.ref (b 0), .int v1] (fun u : zM => wM b G.2 u g ++ X) (fun r : Int32 × zM => some (.int r.1)) (fun r => r.2) u (f_X7_feed u v1) := by
  refine zCt.of (by decide) (Nat.le_of_ble_eq_true rfl) (fun p e s m args below meth c A C => ?_)
  refine y_lv (lv' := [(0, .ref (b 0)), (1, .int v1)]) rfl ?_
  rw [f_X7_feed]
  refine z_iload_n C 1 dX7_feed_0 rfl ?_
  refine z_i2l C dX7_feed_1 ?_
  refine z_lconst (v := 0) C dX7_feed_2 (by decide) ?_
  refine z_ldc2 C kc_RX7_63 dX7_feed_3 ?_
  refine y_callZ C (z_invS C [.long (Int32.toInt64 v1), .long (0 : Int64), .long (127 : Int64)] [] (ct_X7_in l G ((fun u : zM => wM b G.2 u g ++ X) u) (Int32.toInt64 v1) (0 : Int64) (127 : Int64)) mi_X7_in mt_X7_in ml_RX7_65 (by decide) rfl rfl dX7_feed_6 (Nat.le_of_ble_eq_true rfl)) (List.Perm.refl _) (fun r1 => ?_)
  refine z_zifne C 14 dX7_feed_9 (by decide) ?_ ?_
  · refine z_aload_n C 0 dX7_feed_14 rfl ?_
    refine z_get C fl_RX7_69 has_M_0 rfl dX7_feed_15 ?_
    refine z_sipush (v := 160) C dX7_feed_18 (by decide) ?_
    refine z_icmpne C 27 dX7_feed_21 (by decide) ?_ ?_
    · refine z_bipush (v := (-3)) C dX7_feed_24 (by decide) ?_
      exact z_iret C dX7_feed_26 rfl rfl rfl
    refine z_aload_n C 0 dX7_feed_27 rfl ?_
    refine z_get C fl_RX7_23 has_M_0 rfl dX7_feed_28 ?_
    refine z_aload_n C 0 dX7_feed_31 rfl ?_
    refine z_get C fl_RX7_69 has_M_0 rfl dX7_feed_32 ?_
    refine z_iload_n C 1 dX7_feed_35 rfl ?_
    refine y_iast C upd_M_5 dX7_feed_36 (fun u2 => ?_)
    refine z_aload_n C 0 dX7_feed_37 rfl ?_
    refine z_dup C dX7_feed_38 rfl ?_
    refine z_get C fl_RX7_69 has_M_0 rfl dX7_feed_39 ?_
    refine z_iconst (v := 1) C dX7_feed_42 (by decide) ?_
    refine z_iadd C dX7_feed_43 ?_
    refine z_put C fl_RX7_69 ft_7_9 upd_M_0_9 rfl rfl (Nat.le_of_ble_eq_true rfl) dX7_feed_44 (fun u3 => ?_)
    refine z_aload_n C 0 dX7_feed_47 rfl ?_
    refine z_get C fl_RX7_69 has_M_0 rfl dX7_feed_48 ?_
    exact z_iret C dX7_feed_51 rfl rfl rfl
  refine z_iconst (v := (-1)) C dX7_feed_12 (by decide) ?_
  exact z_iret C dX7_feed_13 rfl rfl rfl
noncomputable def f_X7_forget (u : zM) (v1 : Int32) : Option (Int32 × zM) := if z_in 42 183 = true then (f_X7_in (Int32.toInt64 v1) (0 : Int64) (Int32.toInt64 (u 1 (Int32.toNatClampNeg 42)))).bind fun r1 => if r1 = true then (f_X7_becomes u 42 v1).bind fun r2 => zlet r2.2 fun u3 => some (r2.1, u3) else some ((-1), u) else none
set_option maxHeartbeats 4000000 in
set_option maxRecDepth 100000 in
theorem ct_X7_forget (l : Launch) (G : zG) (b : Nat → Nat) (g : Nat → Int64) (X : va_W) (u : zM) (v1 : Int32) : zCt l yX7_forget cX7_forget 2 (some .int) 2 G [.ref (b 0), .int v1] (fun u : zM => wM b G.2 u g ++ X) (fun r : Int32 × zM => some (.int r.1)) (fun r => r.2) u (f_X7_forget u v1) := by
  refine zCt.of (by decide) (Nat.le_of_ble_eq_true rfl) (fun p e s m args below meth c A C => ?_)
  refine y_lv (lv' := [(0, .ref (b 0)), (1, .int v1)]) rfl ?_
  rw [f_X7_forget]
  refine z_iload_n C 1 dX7_forget_0 rfl ?_
  refine z_i2l C dX7_forget_1 ?_
  refine z_lconst (v := 0) C dX7_forget_2 (by decide) ?_
  refine z_aload_n C 0 dX7_forget_3 rfl ?_
  refine z_get C fl_RX7_7 has_M_0 rfl dX7_forget_4 ?_
  refine z_bipush (v := 42) C dX7_forget_7 (by decide) ?_
  refine y_iald C has_M_1 dX7_forget_9 ?_
  refine z_i2l C dX7_forget_10 ?_
  refine y_callZ C (z_invS C [.long (Int32.toInt64 v1), .long (0 : Int64), .long (Int32.toInt64 (u 1 (Int32.toNatClampNeg 42)))] [] (ct_X7_in l G ((fun u : zM => wM b G.2 u g ++ X) u) (Int32.toInt64 v1) (0 : Int64) (Int32.toInt64 (u 1 (Int32.toNatClampNeg 42)))) mi_X7_in mt_X7_in ml_RX7_65 (by decide) rfl rfl dX7_forget_11 (Nat.le_of_ble_eq_true rfl)) (List.Perm.refl _) (fun r1 => ?_)
  refine z_zifeq C 27 dX7_forget_14 (by decide) ?_ ?_
  · refine z_aload_n C 0 dX7_forget_17 rfl ?_
    refine z_bipush (v := 42) C dX7_forget_18 (by decide) ?_
    refine z_iload_n C 1 dX7_forget_20 rfl ?_
    refine y_callIS C (z_invV C [.int 42, .int v1] [] (ct_X7_becomes l G b g X u 42 v1) mi_X7_becomes md_X7_becomes ms_X7_becomes ml_RX7_218 has_M_0 ⟨_, rfl, rfl⟩ (by decide) rfl rfl dX7_forget_21 (Nat.le_of_ble_eq_true rfl)) (List.Perm.refl _) (fun _ => List.Perm.refl _) (fun r2 u3 => ?_)
    refine z_goto C 28 dX7_forget_24 (by decide) ?_
    exact z_iret C dX7_forget_28 rfl rfl rfl
  refine z_iconst (v := (-1)) C dX7_forget_27 (by decide) ?_
  exact z_iret C dX7_forget_28 rfl rfl rfl
noncomputable def f_X7_is (u : zM) (v1 : Int32) (v2 : Int32) (v3 : Int32) (v4 : Int32) : Option (Bool) := if ((u 0 10) - (u 0 11)) = v1 then (f_X7_byteAt u (u 0 11)).bind fun r1 => if r1 = v2 then (f_X7_byteAt u ((u 0 11) + 1)).bind fun r2 => if r2 = v3 then (f_X7_byteAt u ((u 0 11) + 2)).bind fun r3 => if r3 = v4 then some true else some false else some false else some false else some false
set_option maxHeartbeats 4000000 in
set_option maxRecDepth 100000 in
theorem ct_X7_is (l : Launch) (G : zG) (b : Nat → Nat) (g : Nat → Int64) (X : va_W) (u : zM) (v1 : Int32) (v2 : Int32) (v3 : Int32) (v4 : Int32) : zCt l yX7_is cX7_is 5 (some .boolean) 2 G [.ref (b 0), .int v1, .int v2, .int v3, .int v4] (fun u : zM => wM b G.2 u g ++ X) (fun r : Bool => some (.int (zb r))) (fun _ => u) u (f_X7_is u v1 v2 v3 v4) := by
  refine zCt.of (by decide) (Nat.le_of_ble_eq_true rfl) (fun p e s m args below meth c A C => ?_)
  refine y_lv (lv' := [(0, .ref (b 0)), (1, .int v1), (2, .int v2), (3, .int v3), (4, .int v4)]) rfl ?_
  rw [f_X7_is]
  refine z_aload_n C 0 dX7_is_0 rfl ?_
  refine z_get C fl_RX7_81 has_M_0 rfl dX7_is_1 ?_
  refine z_aload_n C 0 dX7_is_4 rfl ?_
  refine z_get C fl_RX7_75 has_M_0 rfl dX7_is_5 ?_
  refine z_isub C dX7_is_8 ?_
  refine z_iload_n C 1 dX7_is_9 rfl ?_
  refine z_icmpne C 58 dX7_is_10 (by decide) ?_ ?_
  · refine z_aload_n C 0 dX7_is_13 rfl ?_
    refine z_aload_n C 0 dX7_is_14 rfl ?_
    refine z_get C fl_RX7_75 has_M_0 rfl dX7_is_15 ?_
    refine y_callI C (z_invV C [.int (u 0 11)] [] (ct_X7_byteAt l G b g X u (u 0 11)) mi_X7_byteAt md_X7_byteAt ms_X7_byteAt ml_RX7_84 has_M_0 ⟨_, rfl, rfl⟩ (by decide) rfl rfl dX7_is_18 (Nat.le_of_ble_eq_true rfl)) (List.Perm.refl _) (fun r1 => ?_)
    refine z_iload_n C 2 dX7_is_21 rfl ?_
    refine z_icmpne C 58 dX7_is_22 (by decide) ?_ ?_
    · refine z_aload_n C 0 dX7_is_25 rfl ?_
      refine z_aload_n C 0 dX7_is_26 rfl ?_
      refine z_get C fl_RX7_75 has_M_0 rfl dX7_is_27 ?_
      refine z_iconst (v := 1) C dX7_is_30 (by decide) ?_
      refine z_iadd C dX7_is_31 ?_
      refine y_callI C (z_invV C [.int ((u 0 11) + 1)] [] (ct_X7_byteAt l G b g X u ((u 0 11) + 1)) mi_X7_byteAt md_X7_byteAt ms_X7_byteAt ml_RX7_84 has_M_0 ⟨_, rfl, rfl⟩ (by decide) rfl rfl dX7_is_32 (Nat.le_of_ble_eq_true rfl)) (List.Perm.refl _) (fun r2 => ?_)
      refine z_iload_n C 3 dX7_is_35 rfl ?_
      refine z_icmpne C 58 dX7_is_36 (by decide) ?_ ?_
      · refine z_aload_n C 0 dX7_is_39 rfl ?_
        refine z_aload_n C 0 dX7_is_40 rfl ?_
        refine z_get C fl_RX7_75 has_M_0 rfl dX7_is_41 ?_
        refine z_iconst (v := 2) C dX7_is_44 (by decide) ?_
        refine z_iadd C dX7_is_45 ?_
        refine y_callI C (z_invV C [.int ((u 0 11) + 2)] [] (ct_X7_byteAt l G b g X u ((u 0 11) + 2)) mi_X7_byteAt md_X7_byteAt ms_X7_byteAt ml_RX7_84 has_M_0 ⟨_, rfl, rfl⟩ (by decide) rfl rfl dX7_is_46 (Nat.le_of_ble_eq_true rfl)) (List.Perm.refl _) (fun r3 => ?_)
        refine z_iload C 4 dX7_is_49 rfl ?_
        refine z_icmpne C 58 dX7_is_51 (by decide) ?_ ?_
        · refine z_iconst (v := 1) C dX7_is_54 (by decide) ?_
          refine z_goto C 59 dX7_is_55 (by decide) ?_
          exact z_zret (b := true) C dX7_is_59 rfl rfl
        refine z_iconst (v := 0) C dX7_is_58 (by decide) ?_
        exact z_zret (b := false) C dX7_is_59 rfl rfl
      refine z_iconst (v := 0) C dX7_is_58 (by decide) ?_
      exact z_zret (b := false) C dX7_is_59 rfl rfl
    refine z_iconst (v := 0) C dX7_is_58 (by decide) ?_
    exact z_zret (b := false) C dX7_is_59 rfl rfl
  refine z_iconst (v := 0) C dX7_is_58 (by decide) ?_
  exact z_zret (b := false) C dX7_is_59 rfl rfl
noncomputable def f_X7_isBeetle (u : zM) (v1 : Int32) : Option (Bool) := if z_in 34 183 = true then (f_X7_in (Int32.toInt64 v1) (0 : Int64) (Int32.toInt64 ((u 1 (Int32.toNatClampNeg 34)) - 1))).bind fun r1 => some r1 else none
set_option maxHeartbeats 4000000 in
set_option maxRecDepth 100000 in
theorem ct_X7_isBeetle (l : Launch) (G : zG) (b : Nat → Nat) (g : Nat → Int64) (X : va_W) (u : zM) (v1 : Int32) : zCt l yX7_isBeetle cX7_isBeetle 2 (some .boolean) 2 G [.ref (b 0), .int v1] (fun u : zM => wM b G.2 u g ++ X) (fun r : Bool => some (.int (zb r))) (fun _ => u) u (f_X7_isBeetle u v1) := by
  refine zCt.of (by decide) (Nat.le_of_ble_eq_true rfl) (fun p e s m args below meth c A C => ?_)
  refine y_lv (lv' := [(0, .ref (b 0)), (1, .int v1)]) rfl ?_
  rw [f_X7_isBeetle]
  refine z_iload_n C 1 dX7_isBeetle_0 rfl ?_
  refine z_i2l C dX7_isBeetle_1 ?_
  refine z_lconst (v := 0) C dX7_isBeetle_2 (by decide) ?_
  refine z_aload_n C 0 dX7_isBeetle_3 rfl ?_
  refine z_get C fl_RX7_7 has_M_0 rfl dX7_isBeetle_4 ?_
  refine z_bipush (v := 34) C dX7_isBeetle_7 (by decide) ?_
  refine y_iald C has_M_1 dX7_isBeetle_9 ?_
  refine z_iconst (v := 1) C dX7_isBeetle_10 (by decide) ?_
  refine z_isub C dX7_isBeetle_11 ?_
  refine z_i2l C dX7_isBeetle_12 ?_
  refine y_callZ C (z_invS C [.long (Int32.toInt64 v1), .long (0 : Int64), .long (Int32.toInt64 ((u 1 (Int32.toNatClampNeg 34)) - 1))] [] (ct_X7_in l G ((fun u : zM => wM b G.2 u g ++ X) u) (Int32.toInt64 v1) (0 : Int64) (Int32.toInt64 ((u 1 (Int32.toNatClampNeg 34)) - 1))) mi_X7_in mt_X7_in ml_RX7_65 (by decide) rfl rfl dX7_isBeetle_13 (Nat.le_of_ble_eq_true rfl)) (List.Perm.refl _) (fun r1 => ?_)
  exact z_zret (b := r1) C dX7_isBeetle_16 rfl rfl
noncomputable def f_X7_isOne (u : zM) (v1 : Int32) : Option (Bool) := (f_X7_in (Int32.toInt64 v1) (0 : Int64) (Int32.toInt64 ((u 0 3) - 1))).bind fun r1 => some r1
set_option maxHeartbeats 4000000 in
set_option maxRecDepth 100000 in
theorem ct_X7_isOne (l : Launch) (G : zG) (b : Nat → Nat) (g : Nat → Int64) (X : va_W) (u : zM) (v1 : Int32) : zCt l yX7_isOne cX7_isOne 2 (some .boolean) 2 G [.ref (b 0), .int v1] (fun u : zM => wM b G.2 u g ++ X) (fun r : Bool => some (.int (zb r))) (fun _ => u) u (f_X7_isOne u v1) := by
  refine zCt.of (by decide) (Nat.le_of_ble_eq_true rfl) (fun p e s m args below meth c A C => ?_)
  refine y_lv (lv' := [(0, .ref (b 0)), (1, .int v1)]) rfl ?_
  rw [f_X7_isOne]
  refine z_iload_n C 1 dX7_isOne_0 rfl ?_
  refine z_i2l C dX7_isOne_1 ?_
  refine z_lconst (v := 0) C dX7_isOne_2 (by decide) ?_
  refine z_aload_n C 0 dX7_isOne_3 rfl ?_
  refine z_get C fl_RX7_60 has_M_0 rfl dX7_isOne_4 ?_
  refine z_iconst (v := 1) C dX7_isOne_7 (by decide) ?_
  refine z_isub C dX7_isOne_8 ?_
  refine z_i2l C dX7_isOne_9 ?_
  refine y_callZ C (z_invS C [.long (Int32.toInt64 v1), .long (0 : Int64), .long (Int32.toInt64 ((u 0 3) - 1))] [] (ct_X7_in l G ((fun u : zM => wM b G.2 u g ++ X) u) (Int32.toInt64 v1) (0 : Int64) (Int32.toInt64 ((u 0 3) - 1))) mi_X7_in mt_X7_in ml_RX7_65 (by decide) rfl rfl dX7_isOne_10 (Nat.le_of_ble_eq_true rfl)) (List.Perm.refl _) (fun r1 => ?_)
  exact z_zret (b := r1) C dX7_isOne_13 rfl rfl
noncomputable def f_X7_keep (u : zM) (v1 : Int32) : Option (Int32 × zM) := (f_X7_in (Int32.toInt64 v1) (0 : Int64) (1 : Int64)).bind fun r1 => if r1 = true then if z_in v1 2 = true then (f_X7_flag (u 3 (Int32.toNatClampNeg v1))).bind fun r2 => if z_in v1 2 = true then zlet (zU u 3 (Int32.toNatClampNeg v1) (vp_nar .boolean 1)) (fun u3 => (f_X7_copies u3 (61 * (v1 + 1)) 0).bind fun r4 => zlet r4 fun u5 => some (r2, u5)) else none else none else some ((-1), u)
set_option maxHeartbeats 4000000 in
set_option maxRecDepth 100000 in
theorem ct_X7_keep (l : Launch) (G : zG) (b : Nat → Nat) (g : Nat → Int64) (X : va_W) (u : zM) (v1 : Int32) : zCt l yX7_keep cX7_keep 3 (some .int) 2 G [.ref (b 0), .int v1] (fun u : zM => wM b G.2 u g ++ X) (fun r : Int32 × zM => some (.int r.1)) (fun r => r.2) u (f_X7_keep u v1) := by
  refine zCt.of (by decide) (Nat.le_of_ble_eq_true rfl) (fun p e s m args below meth c A C => ?_)
  refine y_lv (lv' := [(0, .ref (b 0)), (1, .int v1)]) rfl ?_
  rw [f_X7_keep]
  refine z_iload_n C 1 dX7_keep_0 rfl ?_
  refine z_i2l C dX7_keep_1 ?_
  refine z_lconst (v := 0) C dX7_keep_2 (by decide) ?_
  refine z_lconst (v := 1) C dX7_keep_3 (by decide) ?_
  refine y_callZ C (z_invS C [.long (Int32.toInt64 v1), .long (0 : Int64), .long (1 : Int64)] [] (ct_X7_in l G ((fun u : zM => wM b G.2 u g ++ X) u) (Int32.toInt64 v1) (0 : Int64) (1 : Int64)) mi_X7_in mt_X7_in ml_RX7_65 (by decide) rfl rfl dX7_keep_4 (Nat.le_of_ble_eq_true rfl)) (List.Perm.refl _) (fun r1 => ?_)
  refine z_zifne C 12 dX7_keep_7 (by decide) ?_ ?_
  · refine z_aload_n C 0 dX7_keep_12 rfl ?_
    refine z_get C fl_RX7_16 has_M_0 rfl dX7_keep_13 ?_
    refine z_iload_n C 1 dX7_keep_16 rfl ?_
    refine y_zald C has_M_3 dX7_keep_17 ?_
    refine y_callI C (z_invS C [.int (u 3 (Int32.toNatClampNeg v1))] [] (ct_X7_flag l G ((fun u : zM => wM b G.2 u g ++ X) u) (u 3 (Int32.toNatClampNeg v1))) mi_X7_flag mt_X7_flag ml_RX7_187 (by decide) rfl rfl dX7_keep_18 (Nat.le_of_ble_eq_true rfl)) (List.Perm.refl _) (fun r2 => ?_)
    refine z_istore_n C [(2, .int r2), (0, .ref (b 0)), (1, .int v1)] dX7_keep_21 (by decide) rfl ?_
    refine z_aload_n C 1 dX7_keep_22 rfl ?_
    refine z_get C fl_RX7_16 has_M_0 rfl dX7_keep_23 ?_
    refine z_iload_n C 2 dX7_keep_26 rfl ?_
    refine z_iconst (v := 1) C dX7_keep_27 (by decide) ?_
    refine y_zast C upd_M_3 dX7_keep_28 (fun u3 => ?_)
    refine z_aload_n C 1 dX7_keep_29 rfl ?_
    refine z_bipush (v := 61) C dX7_keep_30 (by decide) ?_
    refine z_iload_n C 2 dX7_keep_32 rfl ?_
    refine z_iconst (v := 1) C dX7_keep_33 (by decide) ?_
    refine z_iadd C dX7_keep_34 ?_
    refine z_imul C dX7_keep_35 ?_
    refine z_iconst (v := 0) C dX7_keep_36 (by decide) ?_
    refine y_callVS C (z_invV C [.int (61 * (v1 + 1)), .int 0] [] (ct_X7_copies l G b g X u3 (61 * (v1 + 1)) 0) mi_X7_copies md_X7_copies ms_X7_copies ml_RX7_286 has_M_0 ⟨_, rfl, rfl⟩ (by decide) rfl rfl dX7_keep_37 (Nat.le_of_ble_eq_true rfl)) (List.Perm.refl _) (fun _ => List.Perm.refl _) (fun r4 u5 => ?_)
    refine z_iload_n C 0 dX7_keep_40 rfl ?_
    exact z_iret C dX7_keep_41 rfl rfl rfl
  refine z_iconst (v := (-1)) C dX7_keep_10 (by decide) ?_
  exact z_iret C dX7_keep_11 rfl rfl rfl
noncomputable def f_X7_looked_25 (u : zM) (v1 : Int32) (v2 : Int32) : Option (Int32 × zM) := if (u 0 14) = 0 then (f_X7_in (Int32.toInt64 (u 0 13)) (Int32.toInt64 v1) (Int32.toInt64 v2)).bind fun r3 => (f_X7_needs u (zb r3) 3).bind fun r4 => zlet r4 fun u5 => if (u5 0 14) = 0 then some ((u5 0 13), u5) else some (0, u5) else if (u 0 14) = 0 then some ((u 0 13), u) else some (0, u)
set_option maxHeartbeats 4000000 in
set_option maxRecDepth 100000 in
theorem w_X7_looked_25 {p : Program} {l : Launch} {e : Env} {s : State} {m : MethodId} {args : Array Value} {below : List Frame} {meth : Method} {c : Code} {G : zG} {A : Nat → Prop} (C : zC p s m args meth c RX7 cX7_looked 3 (some .int) G A) (b : Nat → Nat) (g : Nat → Int64) (X : va_W) : ∀ (u : zM) (v1 : Int32) (v2 : Int32), PW p l e 2 s m args below meth c G A 3 (fun u : zM => wM b G.2 u g ++ X) (fun r : Int32 × zM => some (.int r.1)) (fun r => r.2) u [(0, .ref (b 0)), (1, .int v1), (2, .int v2)] 25 [] (f_X7_looked_25 u v1 v2) := by
  intro u v1 v2
  rw [f_X7_looked_25]
  refine z_aload_n C 0 dX7_looked_25 rfl ?_
  refine z_get C fl_RX7_72 has_M_0 rfl dX7_looked_26 ?_
  refine z_ifne C 49 dX7_looked_29 (by decide) ?_ ?_
  · refine z_aload_n C 0 dX7_looked_32 rfl ?_
    refine z_aload_n C 0 dX7_looked_33 rfl ?_
    refine z_get C fl_RX7_107 has_M_0 rfl dX7_looked_34 ?_
    refine z_i2l C dX7_looked_37 ?_
    refine z_iload_n C 1 dX7_looked_38 rfl ?_
    refine z_i2l C dX7_looked_39 ?_
    refine z_iload_n C 2 dX7_looked_40 rfl ?_
    refine z_i2l C dX7_looked_41 ?_
    refine y_callZ C (z_invS C [.long (Int32.toInt64 (u 0 13)), .long (Int32.toInt64 v1), .long (Int32.toInt64 v2)] [.ref (b 0)] (ct_X7_in l G ((fun u : zM => wM b G.2 u g ++ X) u) (Int32.toInt64 (u 0 13)) (Int32.toInt64 v1) (Int32.toInt64 v2)) mi_X7_in mt_X7_in ml_RX7_65 (by decide) rfl rfl dX7_looked_42 (Nat.le_of_ble_eq_true rfl)) (List.Perm.refl _) (fun r3 => ?_)
    refine z_iconst (v := 3) C dX7_looked_45 (by decide) ?_
    refine y_callVS C (z_invV C [.int (zb r3), .int 3] [] (ct_X7_needs l G b g X u (zb r3) 3) mi_X7_needs md_X7_needs ms_X7_needs ml_RX7_110 has_M_0 ⟨_, rfl, rfl⟩ (by decide) rfl rfl dX7_looked_46 (Nat.le_of_ble_eq_true rfl)) (List.Perm.refl _) (fun _ => List.Perm.refl _) (fun r4 u5 => ?_)
    refine z_aload_n C 0 dX7_looked_49 rfl ?_
    refine z_get C fl_RX7_72 has_M_0 rfl dX7_looked_50 ?_
    refine z_ifne C 63 dX7_looked_53 (by decide) ?_ ?_
    · refine z_aload_n C 0 dX7_looked_56 rfl ?_
      refine z_get C fl_RX7_107 has_M_0 rfl dX7_looked_57 ?_
      refine z_goto C 64 dX7_looked_60 (by decide) ?_
      exact z_iret C dX7_looked_64 rfl rfl rfl
    refine z_iconst (v := 0) C dX7_looked_63 (by decide) ?_
    exact z_iret C dX7_looked_64 rfl rfl rfl
  refine z_aload_n C 0 dX7_looked_49 rfl ?_
  refine z_get C fl_RX7_72 has_M_0 rfl dX7_looked_50 ?_
  refine z_ifne C 63 dX7_looked_53 (by decide) ?_ ?_
  · refine z_aload_n C 0 dX7_looked_56 rfl ?_
    refine z_get C fl_RX7_107 has_M_0 rfl dX7_looked_57 ?_
    refine z_goto C 64 dX7_looked_60 (by decide) ?_
    exact z_iret C dX7_looked_64 rfl rfl rfl
  refine z_iconst (v := 0) C dX7_looked_63 (by decide) ?_
  exact z_iret C dX7_looked_64 rfl rfl rfl
noncomputable def f_X7_looked (u : zM) (v1 : Int32) (v2 : Int32) : Option (Int32 × zM) := if (u 0 14) = 0 then if (u 0 12) = 2 then (f_X7_needs u 1 2).bind fun r1 => zlet r1 fun u2 => f_X7_looked_25  u2 v1 v2 else (f_X7_needs u 0 2).bind fun r6 => zlet r6 fun u7 => f_X7_looked_25  u7 v1 v2 else f_X7_looked_25  u v1 v2
set_option maxHeartbeats 4000000 in
set_option maxRecDepth 100000 in
theorem ct_X7_looked (l : Launch) (G : zG) (b : Nat → Nat) (g : Nat → Int64) (X : va_W) (u : zM) (v1 : Int32) (v2 : Int32) : zCt l yX7_looked cX7_looked 3 (some .int) 2 G [.ref (b 0), .int v1, .int v2] (fun u : zM => wM b G.2 u g ++ X) (fun r : Int32 × zM => some (.int r.1)) (fun r => r.2) u (f_X7_looked u v1 v2) := by
  refine zCt.of (by decide) (Nat.le_of_ble_eq_true rfl) (fun p e s m args below meth c A C => ?_)
  refine y_lv (lv' := [(0, .ref (b 0)), (1, .int v1), (2, .int v2)]) rfl ?_
  rw [f_X7_looked]
  refine z_aload_n C 0 dX7_looked_0 rfl ?_
  refine z_get C fl_RX7_72 has_M_0 rfl dX7_looked_1 ?_
  refine z_ifne C 25 dX7_looked_4 (by decide) ?_ ?_
  · refine z_aload_n C 0 dX7_looked_7 rfl ?_
    refine z_aload_n C 0 dX7_looked_8 rfl ?_
    refine z_get C fl_RX7_96 has_M_0 rfl dX7_looked_9 ?_
    refine z_iconst (v := 2) C dX7_looked_12 (by decide) ?_
    refine z_icmpne C 20 dX7_looked_13 (by decide) ?_ ?_
    · refine z_iconst (v := 1) C dX7_looked_16 (by decide) ?_
      refine z_goto C 21 dX7_looked_17 (by decide) ?_
      refine z_iconst (v := 2) C dX7_looked_21 (by decide) ?_
      refine y_callVS C (z_invV C [.int 1, .int 2] [] (ct_X7_needs l G b g X u 1 2) mi_X7_needs md_X7_needs ms_X7_needs ml_RX7_110 has_M_0 ⟨_, rfl, rfl⟩ (by decide) rfl rfl dX7_looked_22 (Nat.le_of_ble_eq_true rfl)) (List.Perm.refl _) (fun _ => List.Perm.refl _) (fun r1 u2 => ?_)
      exact w_X7_looked_25 C b g X     u2 v1 v2
    refine z_iconst (v := 0) C dX7_looked_20 (by decide) ?_
    refine z_iconst (v := 2) C dX7_looked_21 (by decide) ?_
    refine y_callVS C (z_invV C [.int 0, .int 2] [] (ct_X7_needs l G b g X u 0 2) mi_X7_needs md_X7_needs ms_X7_needs ml_RX7_110 has_M_0 ⟨_, rfl, rfl⟩ (by decide) rfl rfl dX7_looked_22 (Nat.le_of_ble_eq_true rfl)) (List.Perm.refl _) (fun _ => List.Perm.refl _) (fun r6 u7 => ?_)
    exact w_X7_looked_25 C b g X     u7 v1 v2
  exact w_X7_looked_25 C b g X     u v1 v2
noncomputable def f_X7_pace (u : zM) (v1 : Int32) : Option (Int32) := (f_X7_of u v1 0).bind fun r1 => if r1 = 1 then some 2 else if r1 = 3 then some 3 else some 1
set_option maxHeartbeats 4000000 in
set_option maxRecDepth 100000 in
theorem ct_X7_pace (l : Launch) (G : zG) (b : Nat → Nat) (g : Nat → Int64) (X : va_W) (u : zM) (v1 : Int32) : zCt l yX7_pace cX7_pace 3 (some .int) 2 G [.ref (b 0), .int v1] (fun u : zM => wM b G.2 u g ++ X) (fun r : Int32 => some (.int r)) (fun _ => u) u (f_X7_pace u v1) := by
  refine zCt.of (by decide) (Nat.le_of_ble_eq_true rfl) (fun p e s m args below meth c A C => ?_)
  refine y_lv (lv' := [(0, .ref (b 0)), (1, .int v1)]) rfl ?_
  rw [f_X7_pace]
  refine z_aload_n C 0 dX7_pace_0 rfl ?_
  refine z_iload_n C 1 dX7_pace_1 rfl ?_
  refine z_iconst (v := 0) C dX7_pace_2 (by decide) ?_
  refine y_callI C (z_invV C [.int v1, .int 0] [] (ct_X7_of l G b g X u v1 0) mi_X7_of md_X7_of ms_X7_of ml_RX7_143 has_M_0 ⟨_, rfl, rfl⟩ (by decide) rfl rfl dX7_pace_3 (Nat.le_of_ble_eq_true rfl)) (List.Perm.refl _) (fun r1 => ?_)
  refine z_istore_n C [(2, .int r1), (0, .ref (b 0)), (1, .int v1)] dX7_pace_6 (by decide) rfl ?_
  refine z_iload_n C 0 dX7_pace_7 rfl ?_
  refine z_iconst (v := 1) C dX7_pace_8 (by decide) ?_
  refine z_icmpne C 16 dX7_pace_9 (by decide) ?_ ?_
  · refine z_iconst (v := 2) C dX7_pace_12 (by decide) ?_
    refine z_goto C 26 dX7_pace_13 (by decide) ?_
    exact z_iret C dX7_pace_26 rfl rfl rfl
  refine z_iload_n C 0 dX7_pace_16 rfl ?_
  refine z_iconst (v := 3) C dX7_pace_17 (by decide) ?_
  refine z_icmpne C 25 dX7_pace_18 (by decide) ?_ ?_
  · refine z_iconst (v := 3) C dX7_pace_21 (by decide) ?_
    refine z_goto C 26 dX7_pace_22 (by decide) ?_
    exact z_iret C dX7_pace_26 rfl rfl rfl
  refine z_iconst (v := 1) C dX7_pace_25 (by decide) ?_
  exact z_iret C dX7_pace_26 rfl rfl rfl
noncomputable def f_X7_placeOf (u : zM) (v1 : Int32) : Option (Int32) := (f_X7_of u v1 4).bind fun r1 => if r1 = (-4) then (f_X7_of u v1 3).bind fun r2 => some r2 else (f_X7_of u v1 4).bind fun r3 => if z_in r3 61 = true then some (u 2 (Int32.toNatClampNeg r3)) else none
set_option maxHeartbeats 4000000 in
set_option maxRecDepth 100000 in
theorem ct_X7_placeOf (l : Launch) (G : zG) (b : Nat → Nat) (g : Nat → Int64) (X : va_W) (u : zM) (v1 : Int32) : zCt l yX7_placeOf cX7_placeOf 2 (some .int) 2 G [.ref (b 0), .int v1] (fun u : zM => wM b G.2 u g ++ X) (fun r : Int32 => some (.int r)) (fun _ => u) u (f_X7_placeOf u v1) := by
  refine zCt.of (by decide) (Nat.le_of_ble_eq_true rfl) (fun p e s m args below meth c A C => ?_)
  refine y_lv (lv' := [(0, .ref (b 0)), (1, .int v1)]) rfl ?_
  rw [f_X7_placeOf]
  refine z_aload_n C 0 dX7_placeOf_0 rfl ?_
  refine z_iload_n C 1 dX7_placeOf_1 rfl ?_
  refine z_iconst (v := 4) C dX7_placeOf_2 (by decide) ?_
  refine y_callI C (z_invV C [.int v1, .int 4] [] (ct_X7_of l G b g X u v1 4) mi_X7_of md_X7_of ms_X7_of ml_RX7_143 has_M_0 ⟨_, rfl, rfl⟩ (by decide) rfl rfl dX7_placeOf_3 (Nat.le_of_ble_eq_true rfl)) (List.Perm.refl _) (fun r1 => ?_)
  refine z_bipush (v := (-4)) C dX7_placeOf_6 (by decide) ?_
  refine z_icmpne C 20 dX7_placeOf_8 (by decide) ?_ ?_
  · refine z_aload_n C 0 dX7_placeOf_11 rfl ?_
    refine z_iload_n C 1 dX7_placeOf_12 rfl ?_
    refine z_iconst (v := 3) C dX7_placeOf_13 (by decide) ?_
    refine y_callI C (z_invV C [.int v1, .int 3] [] (ct_X7_of l G b g X u v1 3) mi_X7_of md_X7_of ms_X7_of ml_RX7_143 has_M_0 ⟨_, rfl, rfl⟩ (by decide) rfl rfl dX7_placeOf_14 (Nat.le_of_ble_eq_true rfl)) (List.Perm.refl _) (fun r2 => ?_)
    refine z_goto C 31 dX7_placeOf_17 (by decide) ?_
    exact z_iret C dX7_placeOf_31 rfl rfl rfl
  refine z_aload_n C 0 dX7_placeOf_20 rfl ?_
  refine z_get C fl_RX7_13 has_M_0 rfl dX7_placeOf_21 ?_
  refine z_aload_n C 0 dX7_placeOf_24 rfl ?_
  refine z_iload_n C 1 dX7_placeOf_25 rfl ?_
  refine z_iconst (v := 4) C dX7_placeOf_26 (by decide) ?_
  refine y_callI C (z_invV C [.int v1, .int 4] [.ref (b 2)] (ct_X7_of l G b g X u v1 4) mi_X7_of md_X7_of ms_X7_of ml_RX7_143 has_M_0 ⟨_, rfl, rfl⟩ (by decide) rfl rfl dX7_placeOf_27 (Nat.le_of_ble_eq_true rfl)) (List.Perm.refl _) (fun r3 => ?_)
  refine y_iald C has_M_2 dX7_placeOf_30 ?_
  exact z_iret C dX7_placeOf_31 rfl rfl rfl
noncomputable def f_X7_sitting_4 : Nat → zM → Int32 → Int32 → Option (Int32)
  | 0, _, _, _ => none
  | n + 1, u, v1, v2 => if z_in 34 61 = true then if (u 2 (Int32.toNatClampNeg 34)) ≤ v2 then some v1 else (f_X7_of u v2 4).bind fun r1 => if r1 = (-4) then (f_X7_flag 0).bind fun r2 => f_X7_sitting_4 n u (v1 + r2) (v2 + 1) else (f_X7_flag 1).bind fun r3 => f_X7_sitting_4 n u (v1 + r3) (v2 + 1) else none
set_option maxHeartbeats 4000000 in
set_option maxRecDepth 100000 in
theorem w_X7_sitting_4 {p : Program} {l : Launch} {e : Env} {s : State} {m : MethodId} {args : Array Value} {below : List Frame} {meth : Method} {c : Code} {G : zG} {A : Nat → Prop} (C : zC p s m args meth c RX7 cX7_sitting 3 (some .int) G A) (b : Nat → Nat) (g : Nat → Int64) (X : va_W) (u : zM) : ∀ (n : Nat) (v1 : Int32) (v2 : Int32), PW p l e 2 s m args below meth c G A 3 (fun u : zM => wM b G.2 u g ++ X) (fun r : Int32 => some (.int r)) (fun _ => u) u [(0, .ref (b 0)), (1, .int v1), (2, .int v2)] 4 [] (f_X7_sitting_4 n u v1 v2) := by
  intro n
  induction n with
  | zero => intros; exact z_none
  | succ n ih =>
    intro v1 v2
    rw [f_X7_sitting_4]
    refine z_iload_n C 2 dX7_sitting_4 rfl ?_
    refine z_aload_n C 0 dX7_sitting_5 rfl ?_
    refine z_get C fl_RX7_13 has_M_0 rfl dX7_sitting_6 ?_
    refine z_bipush (v := 34) C dX7_sitting_9 (by decide) ?_
    refine y_iald C has_M_2 dX7_sitting_11 ?_
    refine z_icmpge C 43 dX7_sitting_12 (by decide) ?_ ?_
    · refine z_iload_n C 1 dX7_sitting_43 rfl ?_
      exact z_iret C dX7_sitting_44 rfl rfl rfl
    refine z_iload_n C 1 dX7_sitting_15 rfl ?_
    refine z_aload_n C 0 dX7_sitting_16 rfl ?_
    refine z_iload_n C 2 dX7_sitting_17 rfl ?_
    refine z_iconst (v := 4) C dX7_sitting_18 (by decide) ?_
    refine y_callI C (z_invV C [.int v2, .int 4] [.int v1] (ct_X7_of l G b g X u v2 4) mi_X7_of md_X7_of ms_X7_of ml_RX7_143 has_M_0 ⟨_, rfl, rfl⟩ (by decide) rfl rfl dX7_sitting_19 (Nat.le_of_ble_eq_true rfl)) (List.Perm.refl _) (fun r1 => ?_)
    refine z_bipush (v := (-4)) C dX7_sitting_22 (by decide) ?_
    refine z_icmpeq C 31 dX7_sitting_24 (by decide) ?_ ?_
    · refine z_iconst (v := 0) C dX7_sitting_31 (by decide) ?_
      refine y_callI C (z_invS C [.int 0] [.int v1] (ct_X7_flag l G ((fun u : zM => wM b G.2 u g ++ X) u) 0) mi_X7_flag mt_X7_flag ml_RX7_187 (by decide) rfl rfl dX7_sitting_32 (Nat.le_of_ble_eq_true rfl)) (List.Perm.refl _) (fun r2 => ?_)
      refine z_iadd C dX7_sitting_35 ?_
      refine z_istore_n C [(1, .int (v1 + r2)), (0, .ref (b 0)), (2, .int v2)] dX7_sitting_36 (by decide) rfl ?_
      refine z_iinc C (v := (v2 + 1)) 2 [(2, .int (v2 + 1)), (1, .int (v1 + r2)), (0, .ref (b 0))] dX7_sitting_37 rfl rfl (by decide) rfl ?_
      refine z_goto C 4 dX7_sitting_40 (by decide) ?_
      refine z_loc C [(0, .ref (b 0)), (1, .int (v1 + r2)), (2, .int (v2 + 1))] [2, 1, 0] rfl ?_
      exact ih (v1 + r2) (v2 + 1)
    refine z_iconst (v := 1) C dX7_sitting_27 (by decide) ?_
    refine z_goto C 32 dX7_sitting_28 (by decide) ?_
    refine y_callI C (z_invS C [.int 1] [.int v1] (ct_X7_flag l G ((fun u : zM => wM b G.2 u g ++ X) u) 1) mi_X7_flag mt_X7_flag ml_RX7_187 (by decide) rfl rfl dX7_sitting_32 (Nat.le_of_ble_eq_true rfl)) (List.Perm.refl _) (fun r3 => ?_)
    refine z_iadd C dX7_sitting_35 ?_
    refine z_istore_n C [(1, .int (v1 + r3)), (0, .ref (b 0)), (2, .int v2)] dX7_sitting_36 (by decide) rfl ?_
    refine z_iinc C (v := (v2 + 1)) 2 [(2, .int (v2 + 1)), (1, .int (v1 + r3)), (0, .ref (b 0))] dX7_sitting_37 rfl rfl (by decide) rfl ?_
    refine z_goto C 4 dX7_sitting_40 (by decide) ?_
    refine z_loc C [(0, .ref (b 0)), (1, .int (v1 + r3)), (2, .int (v2 + 1))] [2, 1, 0] rfl ?_
    exact ih (v1 + r3) (v2 + 1)
noncomputable def f_X7_sitting (u : zM) : Option (Int32) := f_X7_sitting_4 FU u 0 0
set_option maxHeartbeats 4000000 in
set_option maxRecDepth 100000 in
theorem ct_X7_sitting (l : Launch) (G : zG) (b : Nat → Nat) (g : Nat → Int64) (X : va_W) (u : zM) : zCt l yX7_sitting cX7_sitting 3 (some .int) 2 G [.ref (b 0)] (fun u : zM => wM b G.2 u g ++ X) (fun r : Int32 => some (.int r)) (fun _ => u) u (f_X7_sitting u) := by
  refine zCt.of (by decide) (Nat.le_of_ble_eq_true rfl) (fun p e s m args below meth c A C => ?_)
  refine y_lv (lv' := [(0, .ref (b 0))]) rfl ?_
  rw [f_X7_sitting]
  refine z_iconst (v := 0) C dX7_sitting_0 (by decide) ?_
  refine z_istore_n C [(1, .int 0), (0, .ref (b 0))] dX7_sitting_1 (by decide) rfl ?_
  refine z_iconst (v := 0) C dX7_sitting_2 (by decide) ?_
  refine z_istore_n C [(2, .int 0), (1, .int 0), (0, .ref (b 0))] dX7_sitting_3 (by decide) rfl ?_
  refine z_loc C [(0, .ref (b 0)), (1, .int 0), (2, .int 0)] [2, 1, 0] rfl ?_
  exact w_X7_sitting_4 C b g X u   FU 0 0
noncomputable def f_X7_takes_82 : Nat → zM → Option (zM)
  | 0, _ => none
  | n + 1, u => (f_X7_byteAt u (u 0 10)).bind fun r7 => (f_X7_in (Int32.toInt64 r7) (97 : Int64) (122 : Int64)).bind fun r8 => if r8 = true then zlet (zU u 0 10 ((u 0 10) + 1)) fun u9 => f_X7_takes_82 n u9 else some u
set_option maxHeartbeats 4000000 in
set_option maxRecDepth 100000 in
theorem w_X7_takes_82 {p : Program} {l : Launch} {e : Env} {s : State} {m : MethodId} {args : Array Value} {below : List Frame} {meth : Method} {c : Code} {G : zG} {A : Nat → Prop} (C : zC p s m args meth c RX7 cX7_takes 2 none G A) (b : Nat → Nat) (g : Nat → Int64) (X : va_W) : ∀ (n : Nat) (u : zM), PW p l e 2 s m args below meth c G A 2 (fun u : zM => wM b G.2 u g ++ X) (fun _ : zM => none) (fun r => r) u [(0, .ref (b 0))] 82 [] (f_X7_takes_82 n u) := by
  intro n
  induction n with
  | zero => intros; exact z_none
  | succ n ih =>
    intro u
    rw [f_X7_takes_82]
    refine z_aload_n C 0 dX7_takes_82 rfl ?_
    refine z_aload_n C 0 dX7_takes_83 rfl ?_
    refine z_get C fl_RX7_81 has_M_0 rfl dX7_takes_84 ?_
    refine y_callI C (z_invV C [.int (u 0 10)] [] (ct_X7_byteAt l G b g X u (u 0 10)) mi_X7_byteAt md_X7_byteAt ms_X7_byteAt ml_RX7_84 has_M_0 ⟨_, rfl, rfl⟩ (by decide) rfl rfl dX7_takes_87 (Nat.le_of_ble_eq_true rfl)) (List.Perm.refl _) (fun r7 => ?_)
    refine z_i2l C dX7_takes_90 ?_
    refine z_ldc2 C kc_RX7_99 dX7_takes_91 ?_
    refine z_ldc2 C kc_RX7_101 dX7_takes_94 ?_
    refine y_callZ C (z_invS C [.long (Int32.toInt64 r7), .long (97 : Int64), .long (122 : Int64)] [] (ct_X7_in l G ((fun u : zM => wM b G.2 u g ++ X) u) (Int32.toInt64 r7) (97 : Int64) (122 : Int64)) mi_X7_in mt_X7_in ml_RX7_65 (by decide) rfl rfl dX7_takes_97 (Nat.le_of_ble_eq_true rfl)) (List.Perm.refl _) (fun r8 => ?_)
    refine z_zifeq C 274 dX7_takes_100 (by decide) ?_ ?_
    · refine z_aload_n C 0 dX7_takes_103 rfl ?_
      refine z_dup C dX7_takes_104 rfl ?_
      refine z_get C fl_RX7_81 has_M_0 rfl dX7_takes_105 ?_
      refine z_iconst (v := 1) C dX7_takes_108 (by decide) ?_
      refine z_iadd C dX7_takes_109 ?_
      refine z_put C fl_RX7_81 ft_7_10 upd_M_0_10 rfl rfl (Nat.le_of_ble_eq_true rfl) dX7_takes_110 (fun u9 => ?_)
      refine z_goto C 82 dX7_takes_113 (by decide) ?_
      exact ih u9
    exact z_vret C dX7_takes_274 rfl rfl
noncomputable def f_X7_takes_140 : Nat → zM → Option (zM)
  | 0, _ => none
  | n + 1, u => (f_X7_byteAt u (u 0 10)).bind fun r13 => (f_X7_in (Int32.toInt64 r13) (48 : Int64) (57 : Int64)).bind fun r14 => if r14 = true then if 2 ≤ ((u 0 10) - (u 0 11)) then zlet (zU u 0 13 (u 0 13)) fun u15 => zlet (zU u15 0 10 ((u15 0 10) + 1)) fun u16 => f_X7_takes_140 n u16 else (f_X7_byteAt u (u 0 10)).bind fun r17 => zlet (zU u 0 13 (((10 * (u 0 13)) + r17) - 48)) fun u18 => zlet (zU u18 0 10 ((u18 0 10) + 1)) fun u19 => f_X7_takes_140 n u19 else if 2 < ((u 0 10) - (u 0 11)) then (f_X7_needs u 0 1).bind fun r20 => zlet r20 fun u21 => some u21 else (f_X7_needs u 1 1).bind fun r22 => zlet r22 fun u23 => some u23
set_option maxHeartbeats 4000000 in
set_option maxRecDepth 100000 in
theorem w_X7_takes_140 {p : Program} {l : Launch} {e : Env} {s : State} {m : MethodId} {args : Array Value} {below : List Frame} {meth : Method} {c : Code} {G : zG} {A : Nat → Prop} (C : zC p s m args meth c RX7 cX7_takes 2 none G A) (b : Nat → Nat) (g : Nat → Int64) (X : va_W) : ∀ (n : Nat) (u : zM), PW p l e 2 s m args below meth c G A 2 (fun u : zM => wM b G.2 u g ++ X) (fun _ : zM => none) (fun r => r) u [(0, .ref (b 0))] 140 [] (f_X7_takes_140 n u) := by
  intro n
  induction n with
  | zero => intros; exact z_none
  | succ n ih =>
    intro u
    rw [f_X7_takes_140]
    refine z_aload_n C 0 dX7_takes_140 rfl ?_
    refine z_aload_n C 0 dX7_takes_141 rfl ?_
    refine z_get C fl_RX7_81 has_M_0 rfl dX7_takes_142 ?_
    refine y_callI C (z_invV C [.int (u 0 10)] [] (ct_X7_byteAt l G b g X u (u 0 10)) mi_X7_byteAt md_X7_byteAt ms_X7_byteAt ml_RX7_84 has_M_0 ⟨_, rfl, rfl⟩ (by decide) rfl rfl dX7_takes_145 (Nat.le_of_ble_eq_true rfl)) (List.Perm.refl _) (fun r13 => ?_)
    refine z_i2l C dX7_takes_148 ?_
    refine z_ldc2 C kc_RX7_103 dX7_takes_149 ?_
    refine z_ldc2 C kc_RX7_105 dX7_takes_152 ?_
    refine y_callZ C (z_invS C [.long (Int32.toInt64 r13), .long (48 : Int64), .long (57 : Int64)] [] (ct_X7_in l G ((fun u : zM => wM b G.2 u g ++ X) u) (Int32.toInt64 r13) (48 : Int64) (57 : Int64)) mi_X7_in mt_X7_in ml_RX7_65 (by decide) rfl rfl dX7_takes_155 (Nat.le_of_ble_eq_true rfl)) (List.Perm.refl _) (fun r14 => ?_)
    refine z_zifeq C 217 dX7_takes_158 (by decide) ?_ ?_
    · refine z_aload_n C 0 dX7_takes_161 rfl ?_
      refine z_aload_n C 0 dX7_takes_162 rfl ?_
      refine z_get C fl_RX7_81 has_M_0 rfl dX7_takes_163 ?_
      refine z_aload_n C 0 dX7_takes_166 rfl ?_
      refine z_get C fl_RX7_75 has_M_0 rfl dX7_takes_167 ?_
      refine z_isub C dX7_takes_170 ?_
      refine z_iconst (v := 2) C dX7_takes_171 (by decide) ?_
      refine z_icmpge C 197 dX7_takes_172 (by decide) ?_ ?_
      · refine z_aload_n C 0 dX7_takes_197 rfl ?_
        refine z_get C fl_RX7_107 has_M_0 rfl dX7_takes_198 ?_
        refine z_put C fl_RX7_107 ft_7_13 upd_M_0_13 rfl rfl (Nat.le_of_ble_eq_true rfl) dX7_takes_201 (fun u15 => ?_)
        refine z_aload_n C 0 dX7_takes_204 rfl ?_
        refine z_dup C dX7_takes_205 rfl ?_
        refine z_get C fl_RX7_81 has_M_0 rfl dX7_takes_206 ?_
        refine z_iconst (v := 1) C dX7_takes_209 (by decide) ?_
        refine z_iadd C dX7_takes_210 ?_
        refine z_put C fl_RX7_81 ft_7_10 upd_M_0_10 rfl rfl (Nat.le_of_ble_eq_true rfl) dX7_takes_211 (fun u16 => ?_)
        refine z_goto C 140 dX7_takes_214 (by decide) ?_
        exact ih u16
      refine z_bipush (v := 10) C dX7_takes_175 (by decide) ?_
      refine z_aload_n C 0 dX7_takes_177 rfl ?_
      refine z_get C fl_RX7_107 has_M_0 rfl dX7_takes_178 ?_
      refine z_imul C dX7_takes_181 ?_
      refine z_aload_n C 0 dX7_takes_182 rfl ?_
      refine z_aload_n C 0 dX7_takes_183 rfl ?_
      refine z_get C fl_RX7_81 has_M_0 rfl dX7_takes_184 ?_
      refine y_callI C (z_invV C [.int (u 0 10)] [.int (10 * (u 0 13)), .ref (b 0)] (ct_X7_byteAt l G b g X u (u 0 10)) mi_X7_byteAt md_X7_byteAt ms_X7_byteAt ml_RX7_84 has_M_0 ⟨_, rfl, rfl⟩ (by decide) rfl rfl dX7_takes_187 (Nat.le_of_ble_eq_true rfl)) (List.Perm.refl _) (fun r17 => ?_)
      refine z_iadd C dX7_takes_190 ?_
      refine z_bipush (v := 48) C dX7_takes_191 (by decide) ?_
      refine z_isub C dX7_takes_193 ?_
      refine z_goto C 201 dX7_takes_194 (by decide) ?_
      refine z_put C fl_RX7_107 ft_7_13 upd_M_0_13 rfl rfl (Nat.le_of_ble_eq_true rfl) dX7_takes_201 (fun u18 => ?_)
      refine z_aload_n C 0 dX7_takes_204 rfl ?_
      refine z_dup C dX7_takes_205 rfl ?_
      refine z_get C fl_RX7_81 has_M_0 rfl dX7_takes_206 ?_
      refine z_iconst (v := 1) C dX7_takes_209 (by decide) ?_
      refine z_iadd C dX7_takes_210 ?_
      refine z_put C fl_RX7_81 ft_7_10 upd_M_0_10 rfl rfl (Nat.le_of_ble_eq_true rfl) dX7_takes_211 (fun u19 => ?_)
      refine z_goto C 140 dX7_takes_214 (by decide) ?_
      exact ih u19
    refine z_aload_n C 0 dX7_takes_217 rfl ?_
    refine z_aload_n C 0 dX7_takes_218 rfl ?_
    refine z_get C fl_RX7_81 has_M_0 rfl dX7_takes_219 ?_
    refine z_aload_n C 0 dX7_takes_222 rfl ?_
    refine z_get C fl_RX7_75 has_M_0 rfl dX7_takes_223 ?_
    refine z_isub C dX7_takes_226 ?_
    refine z_iconst (v := 2) C dX7_takes_227 (by decide) ?_
    refine z_icmpgt C 235 dX7_takes_228 (by decide) ?_ ?_
    · refine z_iconst (v := 0) C dX7_takes_235 (by decide) ?_
      refine z_iconst (v := 1) C dX7_takes_236 (by decide) ?_
      refine y_callVS C (z_invV C [.int 0, .int 1] [] (ct_X7_needs l G b g X u 0 1) mi_X7_needs md_X7_needs ms_X7_needs ml_RX7_110 has_M_0 ⟨_, rfl, rfl⟩ (by decide) rfl rfl dX7_takes_237 (Nat.le_of_ble_eq_true rfl)) (List.Perm.refl _) (fun _ => List.Perm.refl _) (fun r20 u21 => ?_)
      refine z_goto C 274 dX7_takes_240 (by decide) ?_
      exact z_vret C dX7_takes_274 rfl rfl
    refine z_iconst (v := 1) C dX7_takes_231 (by decide) ?_
    refine z_goto C 236 dX7_takes_232 (by decide) ?_
    refine z_iconst (v := 1) C dX7_takes_236 (by decide) ?_
    refine y_callVS C (z_invV C [.int 1, .int 1] [] (ct_X7_needs l G b g X u 1 1) mi_X7_needs md_X7_needs ms_X7_needs ml_RX7_110 has_M_0 ⟨_, rfl, rfl⟩ (by decide) rfl rfl dX7_takes_237 (Nat.le_of_ble_eq_true rfl)) (List.Perm.refl _) (fun _ => List.Perm.refl _) (fun r22 u23 => ?_)
    refine z_goto C 274 dX7_takes_240 (by decide) ?_
    exact z_vret C dX7_takes_274 rfl rfl
noncomputable def f_X7_takes_260 (u : zM) (t0 : Bool) : Option (zM) := (f_X7_needs u (zb t0) 1).bind fun r25 => zlet r25 fun u26 => zlet (zU u26 0 10 ((u26 0 10) + 1)) fun u27 => some u27
set_option maxHeartbeats 4000000 in
set_option maxRecDepth 100000 in
theorem w_X7_takes_260 {p : Program} {l : Launch} {e : Env} {s : State} {m : MethodId} {args : Array Value} {below : List Frame} {meth : Method} {c : Code} {G : zG} {A : Nat → Prop} (C : zC p s m args meth c RX7 cX7_takes 2 none G A) (b : Nat → Nat) (g : Nat → Int64) (X : va_W) : ∀ (u : zM) (t0 : Bool), PW p l e 2 s m args below meth c G A 2 (fun u : zM => wM b G.2 u g ++ X) (fun _ : zM => none) (fun r => r) u [(0, .ref (b 0))] 260 [.int (zb t0), .ref (b 0)] (f_X7_takes_260 u t0) := by
  intro u t0
  rw [f_X7_takes_260]
  refine z_iconst (v := 1) C dX7_takes_260 (by decide) ?_
  refine y_callVS C (z_invV C [.int (zb t0), .int 1] [] (ct_X7_needs l G b g X u (zb t0) 1) mi_X7_needs md_X7_needs ms_X7_needs ml_RX7_110 has_M_0 ⟨_, rfl, rfl⟩ (by decide) rfl rfl dX7_takes_261 (Nat.le_of_ble_eq_true rfl)) (List.Perm.refl _) (fun _ => List.Perm.refl _) (fun r25 u26 => ?_)
  refine z_aload_n C 0 dX7_takes_264 rfl ?_
  refine z_dup C dX7_takes_265 rfl ?_
  refine z_get C fl_RX7_81 has_M_0 rfl dX7_takes_266 ?_
  refine z_iconst (v := 1) C dX7_takes_269 (by decide) ?_
  refine z_iadd C dX7_takes_270 ?_
  refine z_put C fl_RX7_81 ft_7_10 upd_M_0_10 rfl rfl (Nat.le_of_ble_eq_true rfl) dX7_takes_271 (fun u27 => ?_)
  exact z_vret C dX7_takes_274 rfl rfl
noncomputable def f_X7_takes_8 : Nat → zM → Option (zM)
  | 0, _ => none
  | n + 1, u => (f_X7_byteAt u (u 0 10)).bind fun r1 => if r1 = 32 then zlet (zU u 0 10 ((u 0 10) + 1)) fun u2 => f_X7_takes_8 n u2 else zlet (zU u 0 11 (u 0 10)) fun u3 => (f_X7_byteAt u3 (u3 0 10)).bind fun r4 => if 0 ≤ r4 then (f_X7_in (Int32.toInt64 r4) (97 : Int64) (122 : Int64)).bind fun r5 => if r5 = true then zlet (zU u3 0 12 1) fun u6 => f_X7_takes_82 FU u6 else (f_X7_in (Int32.toInt64 r4) (48 : Int64) (57 : Int64)).bind fun r10 => if r10 = true then zlet (zU u3 0 12 2) fun u11 => zlet (zU u11 0 13 0) fun u12 => f_X7_takes_140 FU u12 else zlet (zU u3 0 12 3) fun u24 => if r4 = 59 then f_X7_takes_260  u24 true else f_X7_takes_260  u24 false else zlet (zU u3 0 12 0) fun u28 => some u28
set_option maxHeartbeats 4000000 in
set_option maxRecDepth 100000 in
theorem w_X7_takes_8 {p : Program} {l : Launch} {e : Env} {s : State} {m : MethodId} {args : Array Value} {below : List Frame} {meth : Method} {c : Code} {G : zG} {A : Nat → Prop} (C : zC p s m args meth c RX7 cX7_takes 2 none G A) (b : Nat → Nat) (g : Nat → Int64) (X : va_W) : ∀ (n : Nat) (u : zM), PW p l e 2 s m args below meth c G A 2 (fun u : zM => wM b G.2 u g ++ X) (fun _ : zM => none) (fun r => r) u [(0, .ref (b 0))] 8 [] (f_X7_takes_8 n u) := by
  intro n
  induction n with
  | zero => intros; exact z_none
  | succ n ih =>
    intro u
    rw [f_X7_takes_8]
    refine z_aload_n C 0 dX7_takes_8 rfl ?_
    refine z_aload_n C 0 dX7_takes_9 rfl ?_
    refine z_get C fl_RX7_81 has_M_0 rfl dX7_takes_10 ?_
    refine y_callI C (z_invV C [.int (u 0 10)] [] (ct_X7_byteAt l G b g X u (u 0 10)) mi_X7_byteAt md_X7_byteAt ms_X7_byteAt ml_RX7_84 has_M_0 ⟨_, rfl, rfl⟩ (by decide) rfl rfl dX7_takes_13 (Nat.le_of_ble_eq_true rfl)) (List.Perm.refl _) (fun r1 => ?_)
    refine z_bipush (v := 32) C dX7_takes_16 (by decide) ?_
    refine z_icmpne C 34 dX7_takes_18 (by decide) ?_ ?_
    · refine z_aload_n C 0 dX7_takes_21 rfl ?_
      refine z_dup C dX7_takes_22 rfl ?_
      refine z_get C fl_RX7_81 has_M_0 rfl dX7_takes_23 ?_
      refine z_iconst (v := 1) C dX7_takes_26 (by decide) ?_
      refine z_iadd C dX7_takes_27 ?_
      refine z_put C fl_RX7_81 ft_7_10 upd_M_0_10 rfl rfl (Nat.le_of_ble_eq_true rfl) dX7_takes_28 (fun u2 => ?_)
      refine z_goto C 8 dX7_takes_31 (by decide) ?_
      exact ih u2
    refine z_aload_n C 0 dX7_takes_34 rfl ?_
    refine z_aload_n C 0 dX7_takes_35 rfl ?_
    refine z_get C fl_RX7_81 has_M_0 rfl dX7_takes_36 ?_
    refine z_put C fl_RX7_75 ft_7_11 upd_M_0_11 rfl rfl (Nat.le_of_ble_eq_true rfl) dX7_takes_39 (fun u3 => ?_)
    refine z_aload_n C 0 dX7_takes_42 rfl ?_
    refine z_aload_n C 0 dX7_takes_43 rfl ?_
    refine z_get C fl_RX7_81 has_M_0 rfl dX7_takes_44 ?_
    refine y_callI C (z_invV C [.int (u3 0 10)] [] (ct_X7_byteAt l G b g X u3 (u3 0 10)) mi_X7_byteAt md_X7_byteAt ms_X7_byteAt ml_RX7_84 has_M_0 ⟨_, rfl, rfl⟩ (by decide) rfl rfl dX7_takes_47 (Nat.le_of_ble_eq_true rfl)) (List.Perm.refl _) (fun r4 => ?_)
    refine z_istore_n C [(1, .int r4), (0, .ref (b 0))] dX7_takes_50 (by decide) rfl ?_
    refine z_iload_n C 0 dX7_takes_51 rfl ?_
    refine z_ifge C 63 dX7_takes_52 (by decide) ?_ ?_
    · refine z_iload_n C 0 dX7_takes_63 rfl ?_
      refine z_i2l C dX7_takes_64 ?_
      refine z_ldc2 C kc_RX7_99 dX7_takes_65 ?_
      refine z_ldc2 C kc_RX7_101 dX7_takes_68 ?_
      refine y_callZ C (z_invS C [.long (Int32.toInt64 r4), .long (97 : Int64), .long (122 : Int64)] [] (ct_X7_in l G ((fun u : zM => wM b G.2 u g ++ X) u3) (Int32.toInt64 r4) (97 : Int64) (122 : Int64)) mi_X7_in mt_X7_in ml_RX7_65 (by decide) rfl rfl dX7_takes_71 (Nat.le_of_ble_eq_true rfl)) (List.Perm.refl _) (fun r5 => ?_)
      refine z_zifeq C 116 dX7_takes_74 (by decide) ?_ ?_
      · refine z_aload_n C 1 dX7_takes_77 rfl ?_
        refine z_iconst (v := 1) C dX7_takes_78 (by decide) ?_
        refine z_put C fl_RX7_96 ft_7_12 upd_M_0_12 rfl rfl (Nat.le_of_ble_eq_true rfl) dX7_takes_79 (fun u6 => ?_)
        refine z_loc C [(0, .ref (b 0))] [1] rfl ?_
        exact w_X7_takes_82 C b g X    FU u6
      refine z_iload_n C 0 dX7_takes_116 rfl ?_
      refine z_i2l C dX7_takes_117 ?_
      refine z_ldc2 C kc_RX7_103 dX7_takes_118 ?_
      refine z_ldc2 C kc_RX7_105 dX7_takes_121 ?_
      refine y_callZ C (z_invS C [.long (Int32.toInt64 r4), .long (48 : Int64), .long (57 : Int64)] [] (ct_X7_in l G ((fun u : zM => wM b G.2 u g ++ X) u3) (Int32.toInt64 r4) (48 : Int64) (57 : Int64)) mi_X7_in mt_X7_in ml_RX7_65 (by decide) rfl rfl dX7_takes_124 (Nat.le_of_ble_eq_true rfl)) (List.Perm.refl _) (fun r10 => ?_)
      refine z_zifeq C 243 dX7_takes_127 (by decide) ?_ ?_
      · refine z_aload_n C 1 dX7_takes_130 rfl ?_
        refine z_iconst (v := 2) C dX7_takes_131 (by decide) ?_
        refine z_put C fl_RX7_96 ft_7_12 upd_M_0_12 rfl rfl (Nat.le_of_ble_eq_true rfl) dX7_takes_132 (fun u11 => ?_)
        refine z_aload_n C 1 dX7_takes_135 rfl ?_
        refine z_iconst (v := 0) C dX7_takes_136 (by decide) ?_
        refine z_put C fl_RX7_107 ft_7_13 upd_M_0_13 rfl rfl (Nat.le_of_ble_eq_true rfl) dX7_takes_137 (fun u12 => ?_)
        refine z_loc C [(0, .ref (b 0))] [1] rfl ?_
        exact w_X7_takes_140 C b g X    FU u12
      refine z_aload_n C 1 dX7_takes_243 rfl ?_
      refine z_iconst (v := 3) C dX7_takes_244 (by decide) ?_
      refine z_put C fl_RX7_96 ft_7_12 upd_M_0_12 rfl rfl (Nat.le_of_ble_eq_true rfl) dX7_takes_245 (fun u24 => ?_)
      refine z_aload_n C 1 dX7_takes_248 rfl ?_
      refine z_iload_n C 0 dX7_takes_249 rfl ?_
      refine z_bipush (v := 59) C dX7_takes_250 (by decide) ?_
      refine z_icmpne C 259 dX7_takes_252 (by decide) ?_ ?_
      · refine z_iconst (v := 1) C dX7_takes_255 (by decide) ?_
        refine z_goto C 260 dX7_takes_256 (by decide) ?_
        refine z_loc C [(0, .ref (b 0))] [1] rfl ?_
        exact w_X7_takes_260 C b g X     u24 true
      refine z_iconst (v := 0) C dX7_takes_259 (by decide) ?_
      refine z_loc C [(0, .ref (b 0))] [1] rfl ?_
      exact w_X7_takes_260 C b g X     u24 false
    refine z_aload_n C 1 dX7_takes_55 rfl ?_
    refine z_iconst (v := 0) C dX7_takes_56 (by decide) ?_
    refine z_put C fl_RX7_96 ft_7_12 upd_M_0_12 rfl rfl (Nat.le_of_ble_eq_true rfl) dX7_takes_57 (fun u28 => ?_)
    refine z_goto C 274 dX7_takes_60 (by decide) ?_
    exact z_vret C dX7_takes_274 rfl rfl
noncomputable def f_X7_takes (u : zM) : Option (zM) := if (u 0 14) ≤ 0 then f_X7_takes_8 FU u else some u
set_option maxHeartbeats 4000000 in
set_option maxRecDepth 100000 in
theorem ct_X7_takes (l : Launch) (G : zG) (b : Nat → Nat) (g : Nat → Int64) (X : va_W) (u : zM) : zCt l yX7_takes cX7_takes 2 none 2 G [.ref (b 0)] (fun u : zM => wM b G.2 u g ++ X) (fun _ : zM => none) (fun r => r) u (f_X7_takes u) := by
  refine zCt.of (by decide) (Nat.le_of_ble_eq_true rfl) (fun p e s m args below meth c A C => ?_)
  refine y_lv (lv' := [(0, .ref (b 0))]) rfl ?_
  rw [f_X7_takes]
  refine z_aload_n C 0 dX7_takes_0 rfl ?_
  refine z_get C fl_RX7_72 has_M_0 rfl dX7_takes_1 ?_
  refine z_ifle C 8 dX7_takes_4 (by decide) ?_ ?_
  · exact w_X7_takes_8 C b g X    FU u
  exact z_vret C dX7_takes_7 rfl rfl
noncomputable def f_X7_weight (u : zM) (v1 : Int32) : Option (Int32) := (f_X7_of u v1 1).bind fun r1 => (f_X7_of u v1 0).bind fun r2 => if r2 = 1 then some ((r1 + 1) / 2) else if r2 = 2 then some (((r1 + 1) / 2) + 1) else if r2 = 3 then some (2 * r1) else some r1
set_option maxHeartbeats 4000000 in
set_option maxRecDepth 100000 in
theorem ct_X7_weight (l : Launch) (G : zG) (b : Nat → Nat) (g : Nat → Int64) (X : va_W) (u : zM) (v1 : Int32) : zCt l yX7_weight cX7_weight 4 (some .int) 2 G [.ref (b 0), .int v1] (fun u : zM => wM b G.2 u g ++ X) (fun r : Int32 => some (.int r)) (fun _ => u) u (f_X7_weight u v1) := by
  refine zCt.of (by decide) (Nat.le_of_ble_eq_true rfl) (fun p e s m args below meth c A C => ?_)
  refine y_lv (lv' := [(0, .ref (b 0)), (1, .int v1)]) rfl ?_
  rw [f_X7_weight]
  refine z_aload_n C 0 dX7_weight_0 rfl ?_
  refine z_iload_n C 1 dX7_weight_1 rfl ?_
  refine z_iconst (v := 1) C dX7_weight_2 (by decide) ?_
  refine y_callI C (z_invV C [.int v1, .int 1] [] (ct_X7_of l G b g X u v1 1) mi_X7_of md_X7_of ms_X7_of ml_RX7_143 has_M_0 ⟨_, rfl, rfl⟩ (by decide) rfl rfl dX7_weight_3 (Nat.le_of_ble_eq_true rfl)) (List.Perm.refl _) (fun r1 => ?_)
  refine z_istore_n C [(2, .int r1), (0, .ref (b 0)), (1, .int v1)] dX7_weight_6 (by decide) rfl ?_
  refine z_iload_n C 0 dX7_weight_7 rfl ?_
  refine z_iconst (v := 1) C dX7_weight_8 (by decide) ?_
  refine z_iadd C dX7_weight_9 ?_
  refine z_iconst (v := 2) C dX7_weight_10 (by decide) ?_
  refine z_idivK C (by decide) dX7_weight_11 ?_
  refine z_istore_n C [(3, .int ((r1 + 1) / 2)), (2, .int r1), (0, .ref (b 0)), (1, .int v1)] dX7_weight_12 (by decide) rfl ?_
  refine z_aload_n C 2 dX7_weight_13 rfl ?_
  refine z_iload_n C 3 dX7_weight_14 rfl ?_
  refine z_iconst (v := 0) C dX7_weight_15 (by decide) ?_
  refine y_callI C (z_invV C [.int v1, .int 0] [] (ct_X7_of l G b g X u v1 0) mi_X7_of md_X7_of ms_X7_of ml_RX7_143 has_M_0 ⟨_, rfl, rfl⟩ (by decide) rfl rfl dX7_weight_16 (Nat.le_of_ble_eq_true rfl)) (List.Perm.refl _) (fun r2 => ?_)
  refine z_ite (fun h3 => ?_) (fun h3 => ?_)
  · refine z_tableIn C 44 dX7_weight_19 (by rw [h3]; decide) (by rw [h3]; decide) (by rw [h3]; rfl) (by decide) ?_
    refine z_iload_n C 0 dX7_weight_44 rfl ?_
    exact z_iret C dX7_weight_45 rfl rfl rfl
  refine z_ite (fun h4 => ?_) (fun h4 => ?_)
  · refine z_tableIn C 46 dX7_weight_19 (by rw [h4]; decide) (by rw [h4]; decide) (by rw [h4]; rfl) (by decide) ?_
    refine z_iload_n C 0 dX7_weight_46 rfl ?_
    refine z_iconst (v := 1) C dX7_weight_47 (by decide) ?_
    refine z_iadd C dX7_weight_48 ?_
    exact z_iret C dX7_weight_49 rfl rfl rfl
  refine z_ite (fun h5 => ?_) (fun h5 => ?_)
  · refine z_tableIn C 50 dX7_weight_19 (by rw [h5]; decide) (by rw [h5]; decide) (by rw [h5]; rfl) (by decide) ?_
    refine z_iconst (v := 2) C dX7_weight_50 (by decide) ?_
    refine z_iload_n C 1 dX7_weight_51 rfl ?_
    refine z_imul C dX7_weight_52 ?_
    exact z_iret C dX7_weight_53 rfl rfl rfl
  have g6 := z_ni h3
  have g7 := z_ni h4
  have g8 := z_ni h5
  refine z_tableOut C 54 dX7_weight_19 (by simp only [show Int32.toInt 1 = 1 from by decide, show Int32.toInt 2 = 2 from by decide, show Int32.toInt 3 = 3 from by decide] at g6 g7 g8; omega) (by decide) ?_
  refine z_iload_n C 1 dX7_weight_54 rfl ?_
  exact z_iret C dX7_weight_55 rfl rfl rfl
noncomputable def f_X7_wind (u : zM) (v1 : Int32) : Option (Int32) := (f_X7_in (Int32.toInt64 v1) (0 : Int64) (5 : Int64)).bind fun r1 => if r1 = true then if z_in (35 + v1) 183 = true then some (u 1 (Int32.toNatClampNeg (35 + v1))) else none else some (-1)
set_option maxHeartbeats 4000000 in
set_option maxRecDepth 100000 in
theorem ct_X7_wind (l : Launch) (G : zG) (b : Nat → Nat) (g : Nat → Int64) (X : va_W) (u : zM) (v1 : Int32) : zCt l yX7_wind cX7_wind 2 (some .int) 2 G [.ref (b 0), .int v1] (fun u : zM => wM b G.2 u g ++ X) (fun r : Int32 => some (.int r)) (fun _ => u) u (f_X7_wind u v1) := by
  refine zCt.of (by decide) (Nat.le_of_ble_eq_true rfl) (fun p e s m args below meth c A C => ?_)
  refine y_lv (lv' := [(0, .ref (b 0)), (1, .int v1)]) rfl ?_
  rw [f_X7_wind]
  refine z_iload_n C 1 dX7_wind_0 rfl ?_
  refine z_i2l C dX7_wind_1 ?_
  refine z_lconst (v := 0) C dX7_wind_2 (by decide) ?_
  refine z_ldc2 C kc_RX7_210 dX7_wind_3 ?_
  refine y_callZ C (z_invS C [.long (Int32.toInt64 v1), .long (0 : Int64), .long (5 : Int64)] [] (ct_X7_in l G ((fun u : zM => wM b G.2 u g ++ X) u) (Int32.toInt64 v1) (0 : Int64) (5 : Int64)) mi_X7_in mt_X7_in ml_RX7_65 (by decide) rfl rfl dX7_wind_6 (Nat.le_of_ble_eq_true rfl)) (List.Perm.refl _) (fun r1 => ?_)
  refine z_zifeq C 24 dX7_wind_9 (by decide) ?_ ?_
  · refine z_aload_n C 0 dX7_wind_12 rfl ?_
    refine z_get C fl_RX7_7 has_M_0 rfl dX7_wind_13 ?_
    refine z_bipush (v := 35) C dX7_wind_16 (by decide) ?_
    refine z_iload_n C 1 dX7_wind_18 rfl ?_
    refine z_iadd C dX7_wind_19 ?_
    refine y_iald C has_M_1 dX7_wind_20 ?_
    refine z_goto C 25 dX7_wind_21 (by decide) ?_
    exact z_iret C dX7_wind_25 rfl rfl rfl
  refine z_iconst (v := (-1)) C dX7_wind_24 (by decide) ?_
  exact z_iret C dX7_wind_25 rfl rfl rfl
noncomputable def f_X7_blownOff_54 (u : zM) (v1 : Int32) (t0 : Int32) (t1 : Int32) (t2 : Int32) : Option (zM) := (f_X7_becomesOf u t2 t1 t0).bind fun r2 => zlet r2 fun u3 => (f_X7_becomesOf u3 v1 4 (-4)).bind fun r4 => zlet r4 fun u5 => zlet (zU u5 0 17 ((u5 0 17) + 1)) fun u6 => some u6
set_option maxHeartbeats 4000000 in
set_option maxRecDepth 100000 in
theorem w_X7_blownOff_54 {p : Program} {l : Launch} {e : Env} {s : State} {m : MethodId} {args : Array Value} {below : List Frame} {meth : Method} {c : Code} {G : zG} {A : Nat → Prop} (C : zC p s m args meth c RX7 cX7_blownOff 5 none G A) (b : Nat → Nat) (g : Nat → Int64) (X : va_W) : ∀ (u : zM) (v1 : Int32) (t0 : Int32) (t1 : Int32) (t2 : Int32), PW p l e 3 s m args below meth c G A 5 (fun u : zM => wM b G.2 u g ++ X) (fun _ : zM => none) (fun r => r) u [(0, .ref (b 0)), (1, .int v1)] 54 [.int t0, .int t1, .int t2, .ref (b 0)] (f_X7_blownOff_54 u v1 t0 t1 t2) := by
  intro u v1 t0 t1 t2
  rw [f_X7_blownOff_54]
  refine y_callVS C (z_invV C [.int t2, .int t1, .int t0] [] (ct_X7_becomesOf l G b g X u t2 t1 t0) mi_X7_becomesOf md_X7_becomesOf ms_X7_becomesOf ml_RX7_158 has_M_0 ⟨_, rfl, rfl⟩ (by decide) rfl rfl dX7_blownOff_54 (Nat.le_of_ble_eq_true rfl)) (List.Perm.refl _) (fun _ => List.Perm.refl _) (fun r2 u3 => ?_)
  refine z_aload_n C 0 dX7_blownOff_57 rfl ?_
  refine z_iload_n C 1 dX7_blownOff_58 rfl ?_
  refine z_iconst (v := 4) C dX7_blownOff_59 (by decide) ?_
  refine z_bipush (v := (-4)) C dX7_blownOff_60 (by decide) ?_
  refine y_callVS C (z_invV C [.int v1, .int 4, .int (-4)] [] (ct_X7_becomesOf l G b g X u3 v1 4 (-4)) mi_X7_becomesOf md_X7_becomesOf ms_X7_becomesOf ml_RX7_158 has_M_0 ⟨_, rfl, rfl⟩ (by decide) rfl rfl dX7_blownOff_62 (Nat.le_of_ble_eq_true rfl)) (List.Perm.refl _) (fun _ => List.Perm.refl _) (fun r4 u5 => ?_)
  refine z_aload_n C 0 dX7_blownOff_65 rfl ?_
  refine z_dup C dX7_blownOff_66 rfl ?_
  refine z_get C fl_RX7_162 has_M_0 rfl dX7_blownOff_67 ?_
  refine z_iconst (v := 1) C dX7_blownOff_70 (by decide) ?_
  refine z_iadd C dX7_blownOff_71 ?_
  refine z_put C fl_RX7_162 ft_7_17 upd_M_0_17 rfl rfl (Nat.le_of_ble_eq_true rfl) dX7_blownOff_72 (fun u6 => ?_)
  exact z_vret C dX7_blownOff_75 rfl rfl
noncomputable def f_X7_blownOff_18 (u : zM) (v1 : Int32) (t0 : Int32) : Option (zM) := (f_X7_placeOf u v1).bind fun r1 => if 0 ≤ (r1 + t0) then if (r1 + t0) < 10 then f_X7_blownOff_54  u v1 (r1 + t0) 3 v1 else f_X7_blownOff_54  u v1 9 3 v1 else f_X7_blownOff_54  u v1 0 3 v1
set_option maxHeartbeats 4000000 in
set_option maxRecDepth 100000 in
theorem w_X7_blownOff_18 {p : Program} {l : Launch} {e : Env} {s : State} {m : MethodId} {args : Array Value} {below : List Frame} {meth : Method} {c : Code} {G : zG} {A : Nat → Prop} (C : zC p s m args meth c RX7 cX7_blownOff 5 none G A) (b : Nat → Nat) (g : Nat → Int64) (X : va_W) : ∀ (u : zM) (v1 : Int32) (t0 : Int32), PW p l e 3 s m args below meth c G A 5 (fun u : zM => wM b G.2 u g ++ X) (fun _ : zM => none) (fun r => r) u [(0, .ref (b 0)), (1, .int v1)] 18 [.int t0] (f_X7_blownOff_18 u v1 t0) := by
  intro u v1 t0
  rw [f_X7_blownOff_18]
  refine z_istore_n C [(3, .int t0), (0, .ref (b 0)), (1, .int v1)] dX7_blownOff_18 (by decide) rfl ?_
  refine z_aload_n C 1 dX7_blownOff_19 rfl ?_
  refine z_iload_n C 2 dX7_blownOff_20 rfl ?_
  refine y_callI C (z_invV C [.int v1] [] (ct_X7_placeOf l G b g X u v1) mi_X7_placeOf md_X7_placeOf ms_X7_placeOf ml_RX7_155 has_M_0 ⟨_, rfl, rfl⟩ (by decide) rfl rfl dX7_blownOff_21 (Nat.le_of_ble_eq_true rfl)) (List.Perm.refl _) (fun r1 => ?_)
  refine z_iload_n C 0 dX7_blownOff_24 rfl ?_
  refine z_iadd C dX7_blownOff_25 ?_
  refine z_istore C [(4, .int (r1 + t0)), (3, .int t0), (0, .ref (b 0)), (1, .int v1)] dX7_blownOff_26 (by decide) rfl ?_
  refine z_aload_n C 2 dX7_blownOff_28 rfl ?_
  refine z_iload_n C 3 dX7_blownOff_29 rfl ?_
  refine z_iconst (v := 3) C dX7_blownOff_30 (by decide) ?_
  refine z_iload C 0 dX7_blownOff_31 rfl ?_
  refine z_ifge C 40 dX7_blownOff_33 (by decide) ?_ ?_
  · refine z_iload C 0 dX7_blownOff_40 rfl ?_
    refine z_bipush (v := 10) C dX7_blownOff_42 (by decide) ?_
    refine z_icmplt C 52 dX7_blownOff_44 (by decide) ?_ ?_
    · refine z_iload C 0 dX7_blownOff_52 rfl ?_
      refine z_loc C [(0, .ref (b 0)), (1, .int v1)] [2, 3] rfl ?_
      exact w_X7_blownOff_54 C b g X     u v1 (r1 + t0) 3 v1
    refine z_bipush (v := 9) C dX7_blownOff_47 (by decide) ?_
    refine z_goto C 54 dX7_blownOff_49 (by decide) ?_
    refine z_loc C [(0, .ref (b 0)), (1, .int v1)] [2, 3] rfl ?_
    exact w_X7_blownOff_54 C b g X     u v1 9 3 v1
  refine z_iconst (v := 0) C dX7_blownOff_36 (by decide) ?_
  refine z_goto C 54 dX7_blownOff_37 (by decide) ?_
  refine z_loc C [(0, .ref (b 0)), (1, .int v1)] [2, 3] rfl ?_
  exact w_X7_blownOff_54 C b g X     u v1 0 3 v1
noncomputable def f_X7_blownOff (u : zM) (v1 : Int32) (v2 : Int32) : Option (zM) := if z_in 41 61 = true then if ((u 2 (Int32.toNatClampNeg 41)) - (u 2 (Int32.toNatClampNeg 41)) / 2 * 2) = 0 then f_X7_blownOff_18  u v1 v2 else f_X7_blownOff_18  u v1 (-v2) else none
set_option maxHeartbeats 4000000 in
set_option maxRecDepth 100000 in
theorem ct_X7_blownOff (l : Launch) (G : zG) (b : Nat → Nat) (g : Nat → Int64) (X : va_W) (u : zM) (v1 : Int32) (v2 : Int32) : zCt l yX7_blownOff cX7_blownOff 5 none 3 G [.ref (b 0), .int v1, .int v2] (fun u : zM => wM b G.2 u g ++ X) (fun _ : zM => none) (fun r => r) u (f_X7_blownOff u v1 v2) := by
  refine zCt.of (by decide) (Nat.le_of_ble_eq_true rfl) (fun p e s m args below meth c A C => ?_)
  refine y_lv (lv' := [(0, .ref (b 0)), (1, .int v1), (2, .int v2)]) rfl ?_
  rw [f_X7_blownOff]
  refine z_aload_n C 0 dX7_blownOff_0 rfl ?_
  refine z_get C fl_RX7_13 has_M_0 rfl dX7_blownOff_1 ?_
  refine z_bipush (v := 41) C dX7_blownOff_4 (by decide) ?_
  refine y_iald C has_M_2 dX7_blownOff_6 ?_
  refine z_iconst (v := 2) C dX7_blownOff_7 (by decide) ?_
  refine z_iremK C (by decide) dX7_blownOff_8 ?_
  refine z_ifne C 16 dX7_blownOff_9 (by decide) ?_ ?_
  · refine z_iload_n C 2 dX7_blownOff_12 rfl ?_
    refine z_goto C 18 dX7_blownOff_13 (by decide) ?_
    refine z_loc C [(0, .ref (b 0)), (1, .int v1)] [0, 1] rfl ?_
    exact w_X7_blownOff_18 C b g X     u v1 v2
  refine z_iload_n C 2 dX7_blownOff_16 rfl ?_
  refine z_ineg C dX7_blownOff_17 ?_
  refine z_loc C [(0, .ref (b 0)), (1, .int v1)] [0, 1] rfl ?_
  exact w_X7_blownOff_18 C b g X     u v1 (-v2)
noncomputable def f_X7_canBe (u : zM) (v1 : Int32) (v2 : Int32) : Option (Bool) := if v1 = 0 then (f_X7_in (Int32.toInt64 v2) (0 : Int64) (3 : Int64)).bind fun r1 => some r1 else if v1 = 1 then (f_X7_in (Int32.toInt64 v2) (1 : Int64) (9 : Int64)).bind fun r2 => some r2 else if v1 = 2 then (f_X7_isOne u v2).bind fun r3 => if r3 = true then some true else some false else some false
set_option maxHeartbeats 4000000 in
set_option maxRecDepth 100000 in
theorem ct_X7_canBe (l : Launch) (G : zG) (b : Nat → Nat) (g : Nat → Int64) (X : va_W) (u : zM) (v1 : Int32) (v2 : Int32) : zCt l yX7_canBe cX7_canBe 3 (some .boolean) 3 G [.ref (b 0), .int v1, .int v2] (fun u : zM => wM b G.2 u g ++ X) (fun r : Bool => some (.int (zb r))) (fun _ => u) u (f_X7_canBe u v1 v2) := by
  refine zCt.of (by decide) (Nat.le_of_ble_eq_true rfl) (fun p e s m args below meth c A C => ?_)
  refine y_lv (lv' := [(0, .ref (b 0)), (1, .int v1), (2, .int v2)]) rfl ?_
  rw [f_X7_canBe]
  refine z_iload_n C 1 dX7_canBe_0 rfl ?_
  refine z_ifne C 16 dX7_canBe_1 (by decide) ?_ ?_
  · refine z_iload_n C 2 dX7_canBe_4 rfl ?_
    refine z_i2l C dX7_canBe_5 ?_
    refine z_lconst (v := 0) C dX7_canBe_6 (by decide) ?_
    refine z_ldc2 C kc_RX7_212 dX7_canBe_7 ?_
    refine y_callZ C (z_invS C [.long (Int32.toInt64 v2), .long (0 : Int64), .long (3 : Int64)] [] (ct_X7_in l G ((fun u : zM => wM b G.2 u g ++ X) u) (Int32.toInt64 v2) (0 : Int64) (3 : Int64)) mi_X7_in mt_X7_in ml_RX7_65 (by decide) rfl rfl dX7_canBe_10 (Nat.le_of_ble_eq_true rfl)) (List.Perm.refl _) (fun r1 => ?_)
    refine z_goto C 51 dX7_canBe_13 (by decide) ?_
    exact z_zret (b := r1) C dX7_canBe_51 rfl rfl
  refine z_iload_n C 1 dX7_canBe_16 rfl ?_
  refine z_iconst (v := 1) C dX7_canBe_17 (by decide) ?_
  refine z_icmpne C 33 dX7_canBe_18 (by decide) ?_ ?_
  · refine z_iload_n C 2 dX7_canBe_21 rfl ?_
    refine z_i2l C dX7_canBe_22 ?_
    refine z_lconst (v := 1) C dX7_canBe_23 (by decide) ?_
    refine z_ldc2 C kc_RX7_138 dX7_canBe_24 ?_
    refine y_callZ C (z_invS C [.long (Int32.toInt64 v2), .long (1 : Int64), .long (9 : Int64)] [] (ct_X7_in l G ((fun u : zM => wM b G.2 u g ++ X) u) (Int32.toInt64 v2) (1 : Int64) (9 : Int64)) mi_X7_in mt_X7_in ml_RX7_65 (by decide) rfl rfl dX7_canBe_27 (Nat.le_of_ble_eq_true rfl)) (List.Perm.refl _) (fun r2 => ?_)
    refine z_goto C 51 dX7_canBe_30 (by decide) ?_
    exact z_zret (b := r2) C dX7_canBe_51 rfl rfl
  refine z_iload_n C 1 dX7_canBe_33 rfl ?_
  refine z_iconst (v := 2) C dX7_canBe_34 (by decide) ?_
  refine z_icmpne C 50 dX7_canBe_35 (by decide) ?_ ?_
  · refine z_aload_n C 0 dX7_canBe_38 rfl ?_
    refine z_iload_n C 2 dX7_canBe_39 rfl ?_
    refine y_callZ C (z_invV C [.int v2] [] (ct_X7_isOne l G b g X u v2) mi_X7_isOne md_X7_isOne ms_X7_isOne ml_RX7_203 has_M_0 ⟨_, rfl, rfl⟩ (by decide) rfl rfl dX7_canBe_40 (Nat.le_of_ble_eq_true rfl)) (List.Perm.refl _) (fun r3 => ?_)
    refine z_zifeq C 50 dX7_canBe_43 (by decide) ?_ ?_
    · refine z_iconst (v := 1) C dX7_canBe_46 (by decide) ?_
      refine z_goto C 51 dX7_canBe_47 (by decide) ?_
      exact z_zret (b := true) C dX7_canBe_51 rfl rfl
    refine z_iconst (v := 0) C dX7_canBe_50 (by decide) ?_
    exact z_zret (b := false) C dX7_canBe_51 rfl rfl
  refine z_iconst (v := 0) C dX7_canBe_50 (by decide) ?_
  exact z_zret (b := false) C dX7_canBe_51 rfl rfl
noncomputable def f_X7_counted_4 : Nat → zM → Int32 → Int32 → Int32 → Option (Int32)
  | 0, _, _, _, _ => none
  | n + 1, u, v1, v2, v3 => if z_in 34 61 = true then if (u 2 (Int32.toNatClampNeg 34)) ≤ v3 then some v2 else if v3 = (u 0 16) then f_X7_counted_4 n u v1 (v2 + 0) (v3 + 1) else (f_X7_of u v3 4).bind fun r1 => if r1 = v1 then (f_X7_weight u v3).bind fun r2 => f_X7_counted_4 n u v1 (v2 + r2) (v3 + 1) else f_X7_counted_4 n u v1 (v2 + 0) (v3 + 1) else none
set_option maxHeartbeats 4000000 in
set_option maxRecDepth 100000 in
theorem w_X7_counted_4 {p : Program} {l : Launch} {e : Env} {s : State} {m : MethodId} {args : Array Value} {below : List Frame} {meth : Method} {c : Code} {G : zG} {A : Nat → Prop} (C : zC p s m args meth c RX7 cX7_counted 4 (some .int) G A) (b : Nat → Nat) (g : Nat → Int64) (X : va_W) (u : zM) : ∀ (n : Nat) (v1 : Int32) (v2 : Int32) (v3 : Int32), PW p l e 3 s m args below meth c G A 4 (fun u : zM => wM b G.2 u g ++ X) (fun r : Int32 => some (.int r)) (fun _ => u) u [(0, .ref (b 0)), (1, .int v1), (2, .int v2), (3, .int v3)] 4 [] (f_X7_counted_4 n u v1 v2 v3) := by
  intro n
  induction n with
  | zero => intros; exact z_none
  | succ n ih =>
    intro v1 v2 v3
    rw [f_X7_counted_4]
    refine z_iload_n C 3 dX7_counted_4 rfl ?_
    refine z_aload_n C 0 dX7_counted_5 rfl ?_
    refine z_get C fl_RX7_13 has_M_0 rfl dX7_counted_6 ?_
    refine z_bipush (v := 34) C dX7_counted_9 (by decide) ?_
    refine y_iald C has_M_2 dX7_counted_11 ?_
    refine z_icmpge C 51 dX7_counted_12 (by decide) ?_ ?_
    · refine z_iload_n C 2 dX7_counted_51 rfl ?_
      exact z_iret C dX7_counted_52 rfl rfl rfl
    refine z_iload_n C 2 dX7_counted_15 rfl ?_
    refine z_iload_n C 3 dX7_counted_16 rfl ?_
    refine z_aload_n C 0 dX7_counted_17 rfl ?_
    refine z_get C fl_RX7_140 has_M_0 rfl dX7_counted_18 ?_
    refine z_icmpeq C 42 dX7_counted_21 (by decide) ?_ ?_
    · refine z_iconst (v := 0) C dX7_counted_42 (by decide) ?_
      refine z_iadd C dX7_counted_43 ?_
      refine z_istore_n C [(2, .int (v2 + 0)), (0, .ref (b 0)), (1, .int v1), (3, .int v3)] dX7_counted_44 (by decide) rfl ?_
      refine z_iinc C (v := (v3 + 1)) 3 [(3, .int (v3 + 1)), (2, .int (v2 + 0)), (0, .ref (b 0)), (1, .int v1)] dX7_counted_45 rfl rfl (by decide) rfl ?_
      refine z_goto C 4 dX7_counted_48 (by decide) ?_
      refine z_loc C [(0, .ref (b 0)), (1, .int v1), (2, .int (v2 + 0)), (3, .int (v3 + 1))] [2, 3, 1, 0] rfl ?_
      exact ih v1 (v2 + 0) (v3 + 1)
    refine z_aload_n C 0 dX7_counted_24 rfl ?_
    refine z_iload_n C 3 dX7_counted_25 rfl ?_
    refine z_iconst (v := 4) C dX7_counted_26 (by decide) ?_
    refine y_callI C (z_invV C [.int v3, .int 4] [.int v2] (ct_X7_of l G b g X u v3 4) mi_X7_of md_X7_of ms_X7_of ml_RX7_143 has_M_0 ⟨_, rfl, rfl⟩ (by decide) rfl rfl dX7_counted_27 (Nat.le_of_ble_eq_true rfl)) (List.Perm.refl _) (fun r1 => ?_)
    refine z_iload_n C 1 dX7_counted_30 rfl ?_
    refine z_icmpne C 42 dX7_counted_31 (by decide) ?_ ?_
    · refine z_aload_n C 0 dX7_counted_34 rfl ?_
      refine z_iload_n C 3 dX7_counted_35 rfl ?_
      refine y_callI C (z_invV C [.int v3] [.int v2] (ct_X7_weight l G b g X u v3) mi_X7_weight md_X7_weight ms_X7_weight ml_RX7_146 has_M_0 ⟨_, rfl, rfl⟩ (by decide) rfl rfl dX7_counted_36 (Nat.le_of_ble_eq_true rfl)) (List.Perm.refl _) (fun r2 => ?_)
      refine z_goto C 43 dX7_counted_39 (by decide) ?_
      refine z_iadd C dX7_counted_43 ?_
      refine z_istore_n C [(2, .int (v2 + r2)), (0, .ref (b 0)), (1, .int v1), (3, .int v3)] dX7_counted_44 (by decide) rfl ?_
      refine z_iinc C (v := (v3 + 1)) 3 [(3, .int (v3 + 1)), (2, .int (v2 + r2)), (0, .ref (b 0)), (1, .int v1)] dX7_counted_45 rfl rfl (by decide) rfl ?_
      refine z_goto C 4 dX7_counted_48 (by decide) ?_
      refine z_loc C [(0, .ref (b 0)), (1, .int v1), (2, .int (v2 + r2)), (3, .int (v3 + 1))] [2, 3, 1, 0] rfl ?_
      exact ih v1 (v2 + r2) (v3 + 1)
    refine z_iconst (v := 0) C dX7_counted_42 (by decide) ?_
    refine z_iadd C dX7_counted_43 ?_
    refine z_istore_n C [(2, .int (v2 + 0)), (0, .ref (b 0)), (1, .int v1), (3, .int v3)] dX7_counted_44 (by decide) rfl ?_
    refine z_iinc C (v := (v3 + 1)) 3 [(3, .int (v3 + 1)), (2, .int (v2 + 0)), (0, .ref (b 0)), (1, .int v1)] dX7_counted_45 rfl rfl (by decide) rfl ?_
    refine z_goto C 4 dX7_counted_48 (by decide) ?_
    refine z_loc C [(0, .ref (b 0)), (1, .int v1), (2, .int (v2 + 0)), (3, .int (v3 + 1))] [2, 3, 1, 0] rfl ?_
    exact ih v1 (v2 + 0) (v3 + 1)
noncomputable def f_X7_counted (u : zM) (v1 : Int32) : Option (Int32) := f_X7_counted_4 FU u v1 0 0
set_option maxHeartbeats 4000000 in
set_option maxRecDepth 100000 in
theorem ct_X7_counted (l : Launch) (G : zG) (b : Nat → Nat) (g : Nat → Int64) (X : va_W) (u : zM) (v1 : Int32) : zCt l yX7_counted cX7_counted 4 (some .int) 3 G [.ref (b 0), .int v1] (fun u : zM => wM b G.2 u g ++ X) (fun r : Int32 => some (.int r)) (fun _ => u) u (f_X7_counted u v1) := by
  refine zCt.of (by decide) (Nat.le_of_ble_eq_true rfl) (fun p e s m args below meth c A C => ?_)
  refine y_lv (lv' := [(0, .ref (b 0)), (1, .int v1)]) rfl ?_
  rw [f_X7_counted]
  refine z_iconst (v := 0) C dX7_counted_0 (by decide) ?_
  refine z_istore_n C [(2, .int 0), (0, .ref (b 0)), (1, .int v1)] dX7_counted_1 (by decide) rfl ?_
  refine z_iconst (v := 0) C dX7_counted_2 (by decide) ?_
  refine z_istore_n C [(3, .int 0), (2, .int 0), (0, .ref (b 0)), (1, .int v1)] dX7_counted_3 (by decide) rfl ?_
  refine z_loc C [(0, .ref (b 0)), (1, .int v1), (2, .int 0), (3, .int 0)] [2, 3, 1, 0] rfl ?_
  exact w_X7_counted_4 C b g X u   FU v1 0 0
noncomputable def f_X7_lay (u : zM) (v1 : Int32) (v2 : Int32) (v3 : Int32) : Option (Int32 × zM) := (f_X7_isSheet v1 0).bind fun r1 => if r1 = true then if z_in v1 4 = true then if (u 8 (Int32.toNatClampNeg v1)) = (-4) then some ((-11), u) else if z_in v1 4 = true then (f_X7_in (Int32.toInt64 v2) (0 : Int64) (Int32.toInt64 ((u 9 (Int32.toNatClampNeg v1)) - 1))).bind fun r2 => if r2 = true then if z_in v1 4 = true then if (u 8 (Int32.toNatClampNeg v1)) = 0 then if z_in ((40 * v1) + v2) 160 = true then zlet (zU u 10 (Int32.toNatClampNeg ((40 * v1) + v2)) (Int8.toInt32 (Int32.toInt8 v3))) (fun u3 => some (1, u3)) else none else if z_in v1 4 = true then if (u 8 (Int32.toNatClampNeg v1)) = 1 then if z_in ((40 * v1) + v2) 160 = true then zlet (zU u 10 (Int32.toNatClampNeg ((40 * v1) + v2)) (Int16.toInt32 (Int32.toInt16 v3))) (fun u4 => some (1, u4)) else none else if z_in ((40 * v1) + v2) 160 = true then zlet (zU u 10 (Int32.toNatClampNeg ((40 * v1) + v2)) v3) (fun u5 => some (1, u5)) else none else none else none else some ((-12), u) else none else none else some ((-1), u)
set_option maxHeartbeats 4000000 in
set_option maxRecDepth 100000 in
theorem ct_X7_lay (l : Launch) (G : zG) (b : Nat → Nat) (g : Nat → Int64) (X : va_W) (u : zM) (v1 : Int32) (v2 : Int32) (v3 : Int32) : zCt l yX7_lay cX7_lay 4 (some .int) 3 G [.ref (b 0), .int v1, .int v2, .int v3] (fun u : zM => wM b G.2 u g ++ X) (fun r : Int32 × zM => some (.int r.1)) (fun r => r.2) u (f_X7_lay u v1 v2 v3) := by
  refine zCt.of (by decide) (Nat.le_of_ble_eq_true rfl) (fun p e s m args below meth c A C => ?_)
  refine y_lv (lv' := [(0, .ref (b 0)), (1, .int v1), (2, .int v2), (3, .int v3)]) rfl ?_
  rw [f_X7_lay]
  refine z_iload_n C 1 dX7_lay_0 rfl ?_
  refine z_iconst (v := 0) C dX7_lay_1 (by decide) ?_
  refine y_callZ C (z_invS C [.int v1, .int 0] [] (ct_X7_isSheet l G ((fun u : zM => wM b G.2 u g ++ X) u) v1 0) mi_X7_isSheet mt_X7_isSheet ml_RX7_291 (by decide) rfl rfl dX7_lay_2 (Nat.le_of_ble_eq_true rfl)) (List.Perm.refl _) (fun r1 => ?_)
  refine z_zifne C 10 dX7_lay_5 (by decide) ?_ ?_
  · refine z_aload_n C 0 dX7_lay_10 rfl ?_
    refine z_get C fl_RX7_32 has_M_0 rfl dX7_lay_11 ?_
    refine z_iload_n C 1 dX7_lay_14 rfl ?_
    refine y_iald C has_M_8 dX7_lay_15 ?_
    refine z_bipush (v := (-4)) C dX7_lay_16 (by decide) ?_
    refine z_icmpne C 24 dX7_lay_18 (by decide) ?_ ?_
    · refine z_bipush (v := (-11)) C dX7_lay_21 (by decide) ?_
      exact z_iret C dX7_lay_23 rfl rfl rfl
    refine z_iload_n C 2 dX7_lay_24 rfl ?_
    refine z_i2l C dX7_lay_25 ?_
    refine z_lconst (v := 0) C dX7_lay_26 (by decide) ?_
    refine z_aload_n C 0 dX7_lay_27 rfl ?_
    refine z_get C fl_RX7_35 has_M_0 rfl dX7_lay_28 ?_
    refine z_iload_n C 1 dX7_lay_31 rfl ?_
    refine y_iald C has_M_9 dX7_lay_32 ?_
    refine z_iconst (v := 1) C dX7_lay_33 (by decide) ?_
    refine z_isub C dX7_lay_34 ?_
    refine z_i2l C dX7_lay_35 ?_
    refine y_callZ C (z_invS C [.long (Int32.toInt64 v2), .long (0 : Int64), .long (Int32.toInt64 ((u 9 (Int32.toNatClampNeg v1)) - 1))] [] (ct_X7_in l G ((fun u : zM => wM b G.2 u g ++ X) u) (Int32.toInt64 v2) (0 : Int64) (Int32.toInt64 ((u 9 (Int32.toNatClampNeg v1)) - 1))) mi_X7_in mt_X7_in ml_RX7_65 (by decide) rfl rfl dX7_lay_36 (Nat.le_of_ble_eq_true rfl)) (List.Perm.refl _) (fun r2 => ?_)
    refine z_zifne C 45 dX7_lay_39 (by decide) ?_ ?_
    · refine z_aload_n C 0 dX7_lay_45 rfl ?_
      refine z_get C fl_RX7_38 has_M_0 rfl dX7_lay_46 ?_
      refine z_bipush (v := 40) C dX7_lay_49 (by decide) ?_
      refine z_iload_n C 1 dX7_lay_51 rfl ?_
      refine z_imul C dX7_lay_52 ?_
      refine z_iload_n C 2 dX7_lay_53 rfl ?_
      refine z_iadd C dX7_lay_54 ?_
      refine z_aload_n C 0 dX7_lay_55 rfl ?_
      refine z_get C fl_RX7_32 has_M_0 rfl dX7_lay_56 ?_
      refine z_iload_n C 1 dX7_lay_59 rfl ?_
      refine y_iald C has_M_8 dX7_lay_60 ?_
      refine z_ifne C 69 dX7_lay_61 (by decide) ?_ ?_
      · refine z_iload_n C 3 dX7_lay_64 rfl ?_
        refine z_i2b C dX7_lay_65 ?_
        refine z_goto C 85 dX7_lay_66 (by decide) ?_
        refine y_iast C upd_M_10 dX7_lay_85 (fun u3 => ?_)
        refine z_iconst (v := 1) C dX7_lay_86 (by decide) ?_
        exact z_iret C dX7_lay_87 rfl rfl rfl
      refine z_aload_n C 0 dX7_lay_69 rfl ?_
      refine z_get C fl_RX7_32 has_M_0 rfl dX7_lay_70 ?_
      refine z_iload_n C 1 dX7_lay_73 rfl ?_
      refine y_iald C has_M_8 dX7_lay_74 ?_
      refine z_iconst (v := 1) C dX7_lay_75 (by decide) ?_
      refine z_icmpne C 84 dX7_lay_76 (by decide) ?_ ?_
      · refine z_iload_n C 3 dX7_lay_79 rfl ?_
        refine z_i2s C dX7_lay_80 ?_
        refine z_goto C 85 dX7_lay_81 (by decide) ?_
        refine y_iast C upd_M_10 dX7_lay_85 (fun u4 => ?_)
        refine z_iconst (v := 1) C dX7_lay_86 (by decide) ?_
        exact z_iret C dX7_lay_87 rfl rfl rfl
      refine z_iload_n C 3 dX7_lay_84 rfl ?_
      refine y_iast C upd_M_10 dX7_lay_85 (fun u5 => ?_)
      refine z_iconst (v := 1) C dX7_lay_86 (by decide) ?_
      exact z_iret C dX7_lay_87 rfl rfl rfl
    refine z_bipush (v := (-12)) C dX7_lay_42 (by decide) ?_
    exact z_iret C dX7_lay_44 rfl rfl rfl
  refine z_iconst (v := (-1)) C dX7_lay_8 (by decide) ?_
  exact z_iret C dX7_lay_9 rfl rfl rfl
noncomputable def f_X7_lift (u : zM) (v1 : Int32) (v2 : Int32) : Option (Int32 × zM) := (f_X7_isBeetle u v1).bind fun r1 => if r1 = true then (f_X7_isPlace v2).bind fun r2 => if r2 = true then if z_in ((4 + (5 * v1)) + 4) 183 = true then if (u 1 (Int32.toNatClampNeg ((4 + (5 * v1)) + 4))) = (-4) then some ((-2), u) else if z_in ((4 + (5 * v1)) + 3) 183 = true then zlet (zU u 1 (Int32.toNatClampNeg ((4 + (5 * v1)) + 3)) v2) (fun u3 => (f_X7_becomes u3 ((4 + (5 * v1)) + 4) (-4)).bind fun r4 => zlet r4.2 fun u5 => some (r4.1, u5)) else none else none else some ((-1), u) else some ((-1), u)
set_option maxHeartbeats 4000000 in
set_option maxRecDepth 100000 in
theorem ct_X7_lift (l : Launch) (G : zG) (b : Nat → Nat) (g : Nat → Int64) (X : va_W) (u : zM) (v1 : Int32) (v2 : Int32) : zCt l yX7_lift cX7_lift 4 (some .int) 3 G [.ref (b 0), .int v1, .int v2] (fun u : zM => wM b G.2 u g ++ X) (fun r : Int32 × zM => some (.int r.1)) (fun r => r.2) u (f_X7_lift u v1 v2) := by
  refine zCt.of (by decide) (Nat.le_of_ble_eq_true rfl) (fun p e s m args below meth c A C => ?_)
  refine y_lv (lv' := [(0, .ref (b 0)), (1, .int v1), (2, .int v2)]) rfl ?_
  rw [f_X7_lift]
  refine z_aload_n C 0 dX7_lift_0 rfl ?_
  refine z_iload_n C 1 dX7_lift_1 rfl ?_
  refine y_callZ C (z_invV C [.int v1] [] (ct_X7_isBeetle l G b g X u v1) mi_X7_isBeetle md_X7_isBeetle ms_X7_isBeetle ml_RX7_207 has_M_0 ⟨_, rfl, rfl⟩ (by decide) rfl rfl dX7_lift_2 (Nat.le_of_ble_eq_true rfl)) (List.Perm.refl _) (fun r1 => ?_)
  refine z_zifeq C 15 dX7_lift_5 (by decide) ?_ ?_
  · refine z_iload_n C 2 dX7_lift_8 rfl ?_
    refine y_callZ C (z_invS C [.int v2] [] (ct_X7_isPlace l G ((fun u : zM => wM b G.2 u g ++ X) u) v2) mi_X7_isPlace mt_X7_isPlace ml_RX7_221 (by decide) rfl rfl dX7_lift_9 (Nat.le_of_ble_eq_true rfl)) (List.Perm.refl _) (fun r2 => ?_)
    refine z_zifne C 17 dX7_lift_12 (by decide) ?_ ?_
    · refine z_iconst (v := 4) C dX7_lift_17 (by decide) ?_
      refine z_iconst (v := 5) C dX7_lift_18 (by decide) ?_
      refine z_iload_n C 1 dX7_lift_19 rfl ?_
      refine z_imul C dX7_lift_20 ?_
      refine z_iadd C dX7_lift_21 ?_
      refine z_istore_n C [(3, .int (4 + (5 * v1))), (0, .ref (b 0)), (1, .int v1), (2, .int v2)] dX7_lift_22 (by decide) rfl ?_
      refine z_aload_n C 1 dX7_lift_23 rfl ?_
      refine z_get C fl_RX7_7 has_M_0 rfl dX7_lift_24 ?_
      refine z_iload_n C 0 dX7_lift_27 rfl ?_
      refine z_iconst (v := 4) C dX7_lift_28 (by decide) ?_
      refine z_iadd C dX7_lift_29 ?_
      refine y_iald C has_M_1 dX7_lift_30 ?_
      refine z_bipush (v := (-4)) C dX7_lift_31 (by decide) ?_
      refine z_icmpne C 39 dX7_lift_33 (by decide) ?_ ?_
      · refine z_bipush (v := (-2)) C dX7_lift_36 (by decide) ?_
        exact z_iret C dX7_lift_38 rfl rfl rfl
      refine z_aload_n C 1 dX7_lift_39 rfl ?_
      refine z_get C fl_RX7_7 has_M_0 rfl dX7_lift_40 ?_
      refine z_iload_n C 0 dX7_lift_43 rfl ?_
      refine z_iconst (v := 3) C dX7_lift_44 (by decide) ?_
      refine z_iadd C dX7_lift_45 ?_
      refine z_iload_n C 3 dX7_lift_46 rfl ?_
      refine y_iast C upd_M_1 dX7_lift_47 (fun u3 => ?_)
      refine z_aload_n C 1 dX7_lift_48 rfl ?_
      refine z_iload_n C 0 dX7_lift_49 rfl ?_
      refine z_iconst (v := 4) C dX7_lift_50 (by decide) ?_
      refine z_iadd C dX7_lift_51 ?_
      refine z_bipush (v := (-4)) C dX7_lift_52 (by decide) ?_
      refine y_callIS C (z_invV C [.int ((4 + (5 * v1)) + 4), .int (-4)] [] (ct_X7_becomes l G b g X u3 ((4 + (5 * v1)) + 4) (-4)) mi_X7_becomes md_X7_becomes ms_X7_becomes ml_RX7_218 has_M_0 ⟨_, rfl, rfl⟩ (by decide) rfl rfl dX7_lift_54 (Nat.le_of_ble_eq_true rfl)) (List.Perm.refl _) (fun _ => List.Perm.refl _) (fun r4 u5 => ?_)
      exact z_iret C dX7_lift_57 rfl rfl rfl
    refine z_iconst (v := (-1)) C dX7_lift_15 (by decide) ?_
    exact z_iret C dX7_lift_16 rfl rfl rfl
  refine z_iconst (v := (-1)) C dX7_lift_15 (by decide) ?_
  exact z_iret C dX7_lift_16 rfl rfl rfl
noncomputable def f_X7_lineNow_76 (u : zM) : Option (Int32) := (f_X7_is u 3 112 105 110).bind fun r6 => if r6 = true then some 3 else (f_X7_is u 3 111 110 101).bind fun r7 => if r7 = true then some 4 else (f_X7_is u 4 119 105 110).bind fun r8 => if r8 = true then (f_X7_ends u 100 0 0).bind fun r9 => if r9 = true then some 5 else some (-4) else some (-4)
set_option maxHeartbeats 4000000 in
set_option maxRecDepth 100000 in
theorem w_X7_lineNow_76 {p : Program} {l : Launch} {e : Env} {s : State} {m : MethodId} {args : Array Value} {below : List Frame} {meth : Method} {c : Code} {G : zG} {A : Nat → Prop} (C : zC p s m args meth c RX7 cX7_lineNow 1 (some .int) G A) (b : Nat → Nat) (g : Nat → Int64) (X : va_W) (u : zM) : PW p l e 3 s m args below meth c G A 1 (fun u : zM => wM b G.2 u g ++ X) (fun r : Int32 => some (.int r)) (fun _ => u) u [(0, .ref (b 0))] 76 [] (f_X7_lineNow_76 u) := by
  rw [f_X7_lineNow_76]
  refine z_aload_n C 0 dX7_lineNow_76 rfl ?_
  refine z_iconst (v := 3) C dX7_lineNow_77 (by decide) ?_
  refine z_bipush (v := 112) C dX7_lineNow_78 (by decide) ?_
  refine z_bipush (v := 105) C dX7_lineNow_80 (by decide) ?_
  refine z_bipush (v := 110) C dX7_lineNow_82 (by decide) ?_
  refine y_callZ C (z_invV C [.int 3, .int 112, .int 105, .int 110] [] (ct_X7_is l G b g X u 3 112 105 110) mi_X7_is md_X7_is ms_X7_is ml_RX7_88 has_M_0 ⟨_, rfl, rfl⟩ (by decide) rfl rfl dX7_lineNow_84 (Nat.le_of_ble_eq_true rfl)) (List.Perm.refl _) (fun r6 => ?_)
  refine z_zifeq C 92 dX7_lineNow_87 (by decide) ?_ ?_
  · refine z_iconst (v := 3) C dX7_lineNow_90 (by decide) ?_
    exact z_iret C dX7_lineNow_91 rfl rfl rfl
  refine z_aload_n C 0 dX7_lineNow_92 rfl ?_
  refine z_iconst (v := 3) C dX7_lineNow_93 (by decide) ?_
  refine z_bipush (v := 111) C dX7_lineNow_94 (by decide) ?_
  refine z_bipush (v := 110) C dX7_lineNow_96 (by decide) ?_
  refine z_bipush (v := 101) C dX7_lineNow_98 (by decide) ?_
  refine y_callZ C (z_invV C [.int 3, .int 111, .int 110, .int 101] [] (ct_X7_is l G b g X u 3 111 110 101) mi_X7_is md_X7_is ms_X7_is ml_RX7_88 has_M_0 ⟨_, rfl, rfl⟩ (by decide) rfl rfl dX7_lineNow_100 (Nat.le_of_ble_eq_true rfl)) (List.Perm.refl _) (fun r7 => ?_)
  refine z_zifeq C 110 dX7_lineNow_103 (by decide) ?_ ?_
  · refine z_iconst (v := 4) C dX7_lineNow_106 (by decide) ?_
    refine z_goto C 141 dX7_lineNow_107 (by decide) ?_
    exact z_iret C dX7_lineNow_141 rfl rfl rfl
  refine z_aload_n C 0 dX7_lineNow_110 rfl ?_
  refine z_iconst (v := 4) C dX7_lineNow_111 (by decide) ?_
  refine z_bipush (v := 119) C dX7_lineNow_112 (by decide) ?_
  refine z_bipush (v := 105) C dX7_lineNow_114 (by decide) ?_
  refine z_bipush (v := 110) C dX7_lineNow_116 (by decide) ?_
  refine y_callZ C (z_invV C [.int 4, .int 119, .int 105, .int 110] [] (ct_X7_is l G b g X u 4 119 105 110) mi_X7_is md_X7_is ms_X7_is ml_RX7_88 has_M_0 ⟨_, rfl, rfl⟩ (by decide) rfl rfl dX7_lineNow_118 (Nat.le_of_ble_eq_true rfl)) (List.Perm.refl _) (fun r8 => ?_)
  refine z_zifeq C 139 dX7_lineNow_121 (by decide) ?_ ?_
  · refine z_aload_n C 0 dX7_lineNow_124 rfl ?_
    refine z_bipush (v := 100) C dX7_lineNow_125 (by decide) ?_
    refine z_iconst (v := 0) C dX7_lineNow_127 (by decide) ?_
    refine z_iconst (v := 0) C dX7_lineNow_128 (by decide) ?_
    refine y_callZ C (z_invV C [.int 100, .int 0, .int 0] [] (ct_X7_ends l G b g X u 100 0 0) mi_X7_ends md_X7_ends ms_X7_ends ml_RX7_92 has_M_0 ⟨_, rfl, rfl⟩ (by decide) rfl rfl dX7_lineNow_129 (Nat.le_of_ble_eq_true rfl)) (List.Perm.refl _) (fun r9 => ?_)
    refine z_zifeq C 139 dX7_lineNow_132 (by decide) ?_ ?_
    · refine z_iconst (v := 5) C dX7_lineNow_135 (by decide) ?_
      refine z_goto C 141 dX7_lineNow_136 (by decide) ?_
      exact z_iret C dX7_lineNow_141 rfl rfl rfl
    refine z_bipush (v := (-4)) C dX7_lineNow_139 (by decide) ?_
    exact z_iret C dX7_lineNow_141 rfl rfl rfl
  refine z_bipush (v := (-4)) C dX7_lineNow_139 (by decide) ?_
  exact z_iret C dX7_lineNow_141 rfl rfl rfl
noncomputable def f_X7_lineNow_46 (u : zM) : Option (Int32) := (f_X7_is u 6 111 114 112).bind fun r4 => if r4 = true then (f_X7_ends u 104 97 110).bind fun r5 => if r5 = true then some 2 else f_X7_lineNow_76  u else f_X7_lineNow_76  u
set_option maxHeartbeats 4000000 in
set_option maxRecDepth 100000 in
theorem w_X7_lineNow_46 {p : Program} {l : Launch} {e : Env} {s : State} {m : MethodId} {args : Array Value} {below : List Frame} {meth : Method} {c : Code} {G : zG} {A : Nat → Prop} (C : zC p s m args meth c RX7 cX7_lineNow 1 (some .int) G A) (b : Nat → Nat) (g : Nat → Int64) (X : va_W) (u : zM) : PW p l e 3 s m args below meth c G A 1 (fun u : zM => wM b G.2 u g ++ X) (fun r : Int32 => some (.int r)) (fun _ => u) u [(0, .ref (b 0))] 46 [] (f_X7_lineNow_46 u) := by
  rw [f_X7_lineNow_46]
  refine z_aload_n C 0 dX7_lineNow_46 rfl ?_
  refine z_bipush (v := 6) C dX7_lineNow_47 (by decide) ?_
  refine z_bipush (v := 111) C dX7_lineNow_49 (by decide) ?_
  refine z_bipush (v := 114) C dX7_lineNow_51 (by decide) ?_
  refine z_bipush (v := 112) C dX7_lineNow_53 (by decide) ?_
  refine y_callZ C (z_invV C [.int 6, .int 111, .int 114, .int 112] [] (ct_X7_is l G b g X u 6 111 114 112) mi_X7_is md_X7_is ms_X7_is ml_RX7_88 has_M_0 ⟨_, rfl, rfl⟩ (by decide) rfl rfl dX7_lineNow_55 (Nat.le_of_ble_eq_true rfl)) (List.Perm.refl _) (fun r4 => ?_)
  refine z_zifeq C 76 dX7_lineNow_58 (by decide) ?_ ?_
  · refine z_aload_n C 0 dX7_lineNow_61 rfl ?_
    refine z_bipush (v := 104) C dX7_lineNow_62 (by decide) ?_
    refine z_bipush (v := 97) C dX7_lineNow_64 (by decide) ?_
    refine z_bipush (v := 110) C dX7_lineNow_66 (by decide) ?_
    refine y_callZ C (z_invV C [.int 104, .int 97, .int 110] [] (ct_X7_ends l G b g X u 104 97 110) mi_X7_ends md_X7_ends ms_X7_ends ml_RX7_92 has_M_0 ⟨_, rfl, rfl⟩ (by decide) rfl rfl dX7_lineNow_68 (Nat.le_of_ble_eq_true rfl)) (List.Perm.refl _) (fun r5 => ?_)
    refine z_zifeq C 76 dX7_lineNow_71 (by decide) ?_ ?_
    · refine z_iconst (v := 2) C dX7_lineNow_74 (by decide) ?_
      exact z_iret C dX7_lineNow_75 rfl rfl rfl
    exact w_X7_lineNow_76 C b g X u    
  exact w_X7_lineNow_76 C b g X u    
noncomputable def f_X7_lineNow (u : zM) : Option (Int32) := (f_X7_is u 3 114 101 100).bind fun r1 => if r1 = true then some 0 else (f_X7_is u 6 121 101 108).bind fun r2 => if r2 = true then (f_X7_ends u 108 111 119).bind fun r3 => if r3 = true then some 1 else f_X7_lineNow_46  u else f_X7_lineNow_46  u
set_option maxHeartbeats 4000000 in
set_option maxRecDepth 100000 in
theorem ct_X7_lineNow (l : Launch) (G : zG) (b : Nat → Nat) (g : Nat → Int64) (X : va_W) (u : zM) : zCt l yX7_lineNow cX7_lineNow 1 (some .int) 3 G [.ref (b 0)] (fun u : zM => wM b G.2 u g ++ X) (fun r : Int32 => some (.int r)) (fun _ => u) u (f_X7_lineNow u) := by
  refine zCt.of (by decide) (Nat.le_of_ble_eq_true rfl) (fun p e s m args below meth c A C => ?_)
  refine y_lv (lv' := [(0, .ref (b 0))]) rfl ?_
  rw [f_X7_lineNow]
  refine z_aload_n C 0 dX7_lineNow_0 rfl ?_
  refine z_iconst (v := 3) C dX7_lineNow_1 (by decide) ?_
  refine z_bipush (v := 114) C dX7_lineNow_2 (by decide) ?_
  refine z_bipush (v := 101) C dX7_lineNow_4 (by decide) ?_
  refine z_bipush (v := 100) C dX7_lineNow_6 (by decide) ?_
  refine y_callZ C (z_invV C [.int 3, .int 114, .int 101, .int 100] [] (ct_X7_is l G b g X u 3 114 101 100) mi_X7_is md_X7_is ms_X7_is ml_RX7_88 has_M_0 ⟨_, rfl, rfl⟩ (by decide) rfl rfl dX7_lineNow_8 (Nat.le_of_ble_eq_true rfl)) (List.Perm.refl _) (fun r1 => ?_)
  refine z_zifeq C 16 dX7_lineNow_11 (by decide) ?_ ?_
  · refine z_iconst (v := 0) C dX7_lineNow_14 (by decide) ?_
    exact z_iret C dX7_lineNow_15 rfl rfl rfl
  refine z_aload_n C 0 dX7_lineNow_16 rfl ?_
  refine z_bipush (v := 6) C dX7_lineNow_17 (by decide) ?_
  refine z_bipush (v := 121) C dX7_lineNow_19 (by decide) ?_
  refine z_bipush (v := 101) C dX7_lineNow_21 (by decide) ?_
  refine z_bipush (v := 108) C dX7_lineNow_23 (by decide) ?_
  refine y_callZ C (z_invV C [.int 6, .int 121, .int 101, .int 108] [] (ct_X7_is l G b g X u 6 121 101 108) mi_X7_is md_X7_is ms_X7_is ml_RX7_88 has_M_0 ⟨_, rfl, rfl⟩ (by decide) rfl rfl dX7_lineNow_25 (Nat.le_of_ble_eq_true rfl)) (List.Perm.refl _) (fun r2 => ?_)
  refine z_zifeq C 46 dX7_lineNow_28 (by decide) ?_ ?_
  · refine z_aload_n C 0 dX7_lineNow_31 rfl ?_
    refine z_bipush (v := 108) C dX7_lineNow_32 (by decide) ?_
    refine z_bipush (v := 111) C dX7_lineNow_34 (by decide) ?_
    refine z_bipush (v := 119) C dX7_lineNow_36 (by decide) ?_
    refine y_callZ C (z_invV C [.int 108, .int 111, .int 119] [] (ct_X7_ends l G b g X u 108 111 119) mi_X7_ends md_X7_ends ms_X7_ends ml_RX7_92 has_M_0 ⟨_, rfl, rfl⟩ (by decide) rfl rfl dX7_lineNow_38 (Nat.le_of_ble_eq_true rfl)) (List.Perm.refl _) (fun r3 => ?_)
    refine z_zifeq C 46 dX7_lineNow_41 (by decide) ?_ ?_
    · refine z_iconst (v := 1) C dX7_lineNow_44 (by decide) ?_
      exact z_iret C dX7_lineNow_45 rfl rfl rfl
    exact w_X7_lineNow_46 C b g X u    
  exact w_X7_lineNow_46 C b g X u    
noncomputable def f_X7_readNumber (u : zM) (v1 : Int32) (v2 : Int32) : Option (Int32 × zM) := (f_X7_looked u v1 v2).bind fun r1 => zlet r1.2 fun u2 => (f_X7_takes u2).bind fun r3 => zlet r3 fun u4 => some (r1.1, u4)
set_option maxHeartbeats 4000000 in
set_option maxRecDepth 100000 in
theorem ct_X7_readNumber (l : Launch) (G : zG) (b : Nat → Nat) (g : Nat → Int64) (X : va_W) (u : zM) (v1 : Int32) (v2 : Int32) : zCt l yX7_readNumber cX7_readNumber 4 (some .int) 3 G [.ref (b 0), .int v1, .int v2] (fun u : zM => wM b G.2 u g ++ X) (fun r : Int32 × zM => some (.int r.1)) (fun r => r.2) u (f_X7_readNumber u v1 v2) := by
  refine zCt.of (by decide) (Nat.le_of_ble_eq_true rfl) (fun p e s m args below meth c A C => ?_)
  refine y_lv (lv' := [(0, .ref (b 0)), (1, .int v1), (2, .int v2)]) rfl ?_
  rw [f_X7_readNumber]
  refine z_aload_n C 0 dX7_readNumber_0 rfl ?_
  refine z_iload_n C 1 dX7_readNumber_1 rfl ?_
  refine z_iload_n C 2 dX7_readNumber_2 rfl ?_
  refine y_callIS C (z_invV C [.int v1, .int v2] [] (ct_X7_looked l G b g X u v1 v2) mi_X7_looked md_X7_looked ms_X7_looked ml_RX7_114 has_M_0 ⟨_, rfl, rfl⟩ (by decide) rfl rfl dX7_readNumber_3 (Nat.le_of_ble_eq_true rfl)) (List.Perm.refl _) (fun _ => List.Perm.refl _) (fun r1 u2 => ?_)
  refine z_istore_n C [(3, .int r1.1), (0, .ref (b 0)), (1, .int v1), (2, .int v2)] dX7_readNumber_6 (by decide) rfl ?_
  refine z_aload_n C 1 dX7_readNumber_7 rfl ?_
  refine y_callVS C (z_invV C [] [] (ct_X7_takes l G b g X u2 ) mi_X7_takes md_X7_takes ms_X7_takes ml_RX7_118 has_M_0 ⟨_, rfl, rfl⟩ (by decide) rfl rfl dX7_readNumber_8 (Nat.le_of_ble_eq_true rfl)) (List.Perm.refl _) (fun _ => List.Perm.refl _) (fun r3 u4 => ?_)
  refine z_iload_n C 0 dX7_readNumber_11 rfl ?_
  exact z_iret C dX7_readNumber_12 rfl rfl rfl
noncomputable def f_X7_see (u : zM) (v1 : Int32) (v2 : Int32) (v3 : Int32) : Option (Int32 × zM) := (f_X7_in (Int32.toInt64 v1) (0 : Int64) (20 : Int64)).bind fun r1 => if r1 = true then (f_X7_isOne u v2).bind fun r2 => if r2 = true then (f_X7_in (Int32.toInt64 v3) (0 : Int64) (99 : Int64)).bind fun r3 => if r3 = true then if z_in 42 183 = true then if (u 1 (Int32.toNatClampNeg 42)) = 6 then some ((-3), u) else if z_in 42 183 = true then if z_in (43 + (3 * (u 1 (Int32.toNatClampNeg 42)))) 183 = true then zlet (zU u 1 (Int32.toNatClampNeg (43 + (3 * (u 1 (Int32.toNatClampNeg 42))))) v1) (fun u4 => if z_in ((43 + (3 * (u 1 (Int32.toNatClampNeg 42)))) + 1) 183 = true then zlet (zU u4 1 (Int32.toNatClampNeg ((43 + (3 * (u 1 (Int32.toNatClampNeg 42)))) + 1)) v2) (fun u5 => if z_in ((43 + (3 * (u 1 (Int32.toNatClampNeg 42)))) + 2) 183 = true then zlet (zU u5 1 (Int32.toNatClampNeg ((43 + (3 * (u 1 (Int32.toNatClampNeg 42)))) + 2)) v3) (fun u6 => if z_in 42 183 = true then if z_in 42 183 = true then zlet (zU u6 1 (Int32.toNatClampNeg 42) ((u6 1 (Int32.toNatClampNeg 42)) + 1)) (fun u7 => if z_in 42 183 = true then some ((u7 1 (Int32.toNatClampNeg 42)), u7) else none) else none else none) else none) else none) else none else none else none else some ((-1), u) else some ((-1), u) else some ((-1), u)
set_option maxHeartbeats 4000000 in
set_option maxRecDepth 100000 in
theorem ct_X7_see (l : Launch) (G : zG) (b : Nat → Nat) (g : Nat → Int64) (X : va_W) (u : zM) (v1 : Int32) (v2 : Int32) (v3 : Int32) : zCt l yX7_see cX7_see 5 (some .int) 3 G [.ref (b 0), .int v1, .int v2, .int v3] (fun u : zM => wM b G.2 u g ++ X) (fun r : Int32 × zM => some (.int r.1)) (fun r => r.2) u (f_X7_see u v1 v2 v3) := by
  refine zCt.of (by decide) (Nat.le_of_ble_eq_true rfl) (fun p e s m args below meth c A C => ?_)
  refine y_lv (lv' := [(0, .ref (b 0)), (1, .int v1), (2, .int v2), (3, .int v3)]) rfl ?_
  rw [f_X7_see]
  refine z_iload_n C 1 dX7_see_0 rfl ?_
  refine z_i2l C dX7_see_1 ?_
  refine z_lconst (v := 0) C dX7_see_2 (by decide) ?_
  refine z_ldc2 C kc_RX7_278 dX7_see_3 ?_
  refine y_callZ C (z_invS C [.long (Int32.toInt64 v1), .long (0 : Int64), .long (20 : Int64)] [] (ct_X7_in l G ((fun u : zM => wM b G.2 u g ++ X) u) (Int32.toInt64 v1) (0 : Int64) (20 : Int64)) mi_X7_in mt_X7_in ml_RX7_65 (by decide) rfl rfl dX7_see_6 (Nat.le_of_ble_eq_true rfl)) (List.Perm.refl _) (fun r1 => ?_)
  refine z_zifeq C 32 dX7_see_9 (by decide) ?_ ?_
  · refine z_aload_n C 0 dX7_see_12 rfl ?_
    refine z_iload_n C 2 dX7_see_13 rfl ?_
    refine y_callZ C (z_invV C [.int v2] [] (ct_X7_isOne l G b g X u v2) mi_X7_isOne md_X7_isOne ms_X7_isOne ml_RX7_203 has_M_0 ⟨_, rfl, rfl⟩ (by decide) rfl rfl dX7_see_14 (Nat.le_of_ble_eq_true rfl)) (List.Perm.refl _) (fun r2 => ?_)
    refine z_zifeq C 32 dX7_see_17 (by decide) ?_ ?_
    · refine z_iload_n C 3 dX7_see_20 rfl ?_
      refine z_i2l C dX7_see_21 ?_
      refine z_lconst (v := 0) C dX7_see_22 (by decide) ?_
      refine z_ldc2 C kc_RX7_280 dX7_see_23 ?_
      refine y_callZ C (z_invS C [.long (Int32.toInt64 v3), .long (0 : Int64), .long (99 : Int64)] [] (ct_X7_in l G ((fun u : zM => wM b G.2 u g ++ X) u) (Int32.toInt64 v3) (0 : Int64) (99 : Int64)) mi_X7_in mt_X7_in ml_RX7_65 (by decide) rfl rfl dX7_see_26 (Nat.le_of_ble_eq_true rfl)) (List.Perm.refl _) (fun r3 => ?_)
      refine z_zifne C 34 dX7_see_29 (by decide) ?_ ?_
      · refine z_aload_n C 0 dX7_see_34 rfl ?_
        refine z_get C fl_RX7_7 has_M_0 rfl dX7_see_35 ?_
        refine z_bipush (v := 42) C dX7_see_38 (by decide) ?_
        refine y_iald C has_M_1 dX7_see_40 ?_
        refine z_bipush (v := 6) C dX7_see_41 (by decide) ?_
        refine z_icmpne C 49 dX7_see_43 (by decide) ?_ ?_
        · refine z_bipush (v := (-3)) C dX7_see_46 (by decide) ?_
          exact z_iret C dX7_see_48 rfl rfl rfl
        refine z_bipush (v := 43) C dX7_see_49 (by decide) ?_
        refine z_iconst (v := 3) C dX7_see_51 (by decide) ?_
        refine z_aload_n C 0 dX7_see_52 rfl ?_
        refine z_get C fl_RX7_7 has_M_0 rfl dX7_see_53 ?_
        refine z_bipush (v := 42) C dX7_see_56 (by decide) ?_
        refine y_iald C has_M_1 dX7_see_58 ?_
        refine z_imul C dX7_see_59 ?_
        refine z_iadd C dX7_see_60 ?_
        refine z_istore C [(4, .int (43 + (3 * (u 1 (Int32.toNatClampNeg 42))))), (0, .ref (b 0)), (1, .int v1), (2, .int v2), (3, .int v3)] dX7_see_61 (by decide) rfl ?_
        refine z_aload_n C 1 dX7_see_63 rfl ?_
        refine z_get C fl_RX7_7 has_M_0 rfl dX7_see_64 ?_
        refine z_iload C 0 dX7_see_67 rfl ?_
        refine z_iload_n C 2 dX7_see_69 rfl ?_
        refine y_iast C upd_M_1 dX7_see_70 (fun u4 => ?_)
        refine z_aload_n C 1 dX7_see_71 rfl ?_
        refine z_get C fl_RX7_7 has_M_0 rfl dX7_see_72 ?_
        refine z_iload C 0 dX7_see_75 rfl ?_
        refine z_iconst (v := 1) C dX7_see_77 (by decide) ?_
        refine z_iadd C dX7_see_78 ?_
        refine z_iload_n C 3 dX7_see_79 rfl ?_
        refine y_iast C upd_M_1 dX7_see_80 (fun u5 => ?_)
        refine z_aload_n C 1 dX7_see_81 rfl ?_
        refine z_get C fl_RX7_7 has_M_0 rfl dX7_see_82 ?_
        refine z_iload C 0 dX7_see_85 rfl ?_
        refine z_iconst (v := 2) C dX7_see_87 (by decide) ?_
        refine z_iadd C dX7_see_88 ?_
        refine z_iload_n C 4 dX7_see_89 rfl ?_
        refine y_iast C upd_M_1 dX7_see_90 (fun u6 => ?_)
        refine z_aload_n C 1 dX7_see_91 rfl ?_
        refine z_get C fl_RX7_7 has_M_0 rfl dX7_see_92 ?_
        refine z_bipush (v := 42) C dX7_see_95 (by decide) ?_
        refine z_dup2 C dX7_see_97 rfl rfl ?_
        refine y_iald C has_M_1 dX7_see_98 ?_
        refine z_iconst (v := 1) C dX7_see_99 (by decide) ?_
        refine z_iadd C dX7_see_100 ?_
        refine y_iast C upd_M_1 dX7_see_101 (fun u7 => ?_)
        refine z_aload_n C 1 dX7_see_102 rfl ?_
        refine z_get C fl_RX7_7 has_M_0 rfl dX7_see_103 ?_
        refine z_bipush (v := 42) C dX7_see_106 (by decide) ?_
        refine y_iald C has_M_1 dX7_see_108 ?_
        exact z_iret C dX7_see_109 rfl rfl rfl
      refine z_iconst (v := (-1)) C dX7_see_32 (by decide) ?_
      exact z_iret C dX7_see_33 rfl rfl rfl
    refine z_iconst (v := (-1)) C dX7_see_32 (by decide) ?_
    exact z_iret C dX7_see_33 rfl rfl rfl
  refine z_iconst (v := (-1)) C dX7_see_32 (by decide) ?_
  exact z_iret C dX7_see_33 rfl rfl rfl
noncomputable def f_X7_sheet_40 : Nat → zM → Int32 → Int32 → Option (Int32 × zM)
  | 0, _, _, _ => none
  | n + 1, u, v1, v4 => if 40 ≤ v4 then some (1, u) else if z_in ((40 * v1) + v4) 160 = true then zlet (zU u 10 (Int32.toNatClampNeg ((40 * v1) + v4)) 0) (fun u4 => f_X7_sheet_40 n u4 v1 (v4 + 1)) else none
set_option maxHeartbeats 4000000 in
set_option maxRecDepth 100000 in
theorem w_X7_sheet_40 {p : Program} {l : Launch} {e : Env} {s : State} {m : MethodId} {args : Array Value} {below : List Frame} {meth : Method} {c : Code} {G : zG} {A : Nat → Prop} (C : zC p s m args meth c RX7 cX7_sheet 5 (some .int) G A) (b : Nat → Nat) (g : Nat → Int64) (X : va_W) : ∀ (n : Nat) (u : zM) (v1 : Int32) (v4 : Int32), PW p l e 3 s m args below meth c G A 5 (fun u : zM => wM b G.2 u g ++ X) (fun r : Int32 × zM => some (.int r.1)) (fun r => r.2) u [(0, .ref (b 0)), (1, .int v1), (4, .int v4)] 40 [] (f_X7_sheet_40 n u v1 v4) := by
  intro n
  induction n with
  | zero => intros; exact z_none
  | succ n ih =>
    intro u v1 v4
    rw [f_X7_sheet_40]
    refine z_iload C 2 dX7_sheet_40 rfl ?_
    refine z_bipush (v := 40) C dX7_sheet_42 (by decide) ?_
    refine z_icmpge C 66 dX7_sheet_44 (by decide) ?_ ?_
    · refine z_iconst (v := 1) C dX7_sheet_66 (by decide) ?_
      exact z_iret C dX7_sheet_67 rfl rfl rfl
    refine z_aload_n C 0 dX7_sheet_47 rfl ?_
    refine z_get C fl_RX7_38 has_M_0 rfl dX7_sheet_48 ?_
    refine z_bipush (v := 40) C dX7_sheet_51 (by decide) ?_
    refine z_iload_n C 1 dX7_sheet_53 rfl ?_
    refine z_imul C dX7_sheet_54 ?_
    refine z_iload C 2 dX7_sheet_55 rfl ?_
    refine z_iadd C dX7_sheet_57 ?_
    refine z_iconst (v := 0) C dX7_sheet_58 (by decide) ?_
    refine y_iast C upd_M_10 dX7_sheet_59 (fun u4 => ?_)
    refine z_iinc C (v := (v4 + 1)) 2 [(4, .int (v4 + 1)), (0, .ref (b 0)), (1, .int v1)] dX7_sheet_60 rfl rfl (by decide) rfl ?_
    refine z_goto C 40 dX7_sheet_63 (by decide) ?_
    refine z_loc C [(0, .ref (b 0)), (1, .int v1), (4, .int (v4 + 1))] [1, 2, 0] rfl ?_
    exact ih u4 v1 (v4 + 1)
noncomputable def f_X7_sheet (u : zM) (v1 : Int32) (v2 : Int32) (v3 : Int32) : Option (Int32 × zM) := (f_X7_isSheet v1 v2).bind fun r1 => if r1 = true then if v3 ≤ 40 then if 0 ≤ v3 then if z_in v1 4 = true then zlet (zU u 8 (Int32.toNatClampNeg v1) v2) (fun u2 => if z_in v1 4 = true then zlet (zU u2 9 (Int32.toNatClampNeg v1) v3) (fun u3 => f_X7_sheet_40 FU u3 v1 0) else none) else none else some ((-14), u) else some ((-1), u) else some ((-1), u)
set_option maxHeartbeats 4000000 in
set_option maxRecDepth 100000 in
theorem ct_X7_sheet (l : Launch) (G : zG) (b : Nat → Nat) (g : Nat → Int64) (X : va_W) (u : zM) (v1 : Int32) (v2 : Int32) (v3 : Int32) : zCt l yX7_sheet cX7_sheet 5 (some .int) 3 G [.ref (b 0), .int v1, .int v2, .int v3] (fun u : zM => wM b G.2 u g ++ X) (fun r : Int32 × zM => some (.int r.1)) (fun r => r.2) u (f_X7_sheet u v1 v2 v3) := by
  refine zCt.of (by decide) (Nat.le_of_ble_eq_true rfl) (fun p e s m args below meth c A C => ?_)
  refine y_lv (lv' := [(0, .ref (b 0)), (1, .int v1), (2, .int v2), (3, .int v3)]) rfl ?_
  rw [f_X7_sheet]
  refine z_iload_n C 1 dX7_sheet_0 rfl ?_
  refine z_iload_n C 2 dX7_sheet_1 rfl ?_
  refine y_callZ C (z_invS C [.int v1, .int v2] [] (ct_X7_isSheet l G ((fun u : zM => wM b G.2 u g ++ X) u) v1 v2) mi_X7_isSheet mt_X7_isSheet ml_RX7_291 (by decide) rfl rfl dX7_sheet_2 (Nat.le_of_ble_eq_true rfl)) (List.Perm.refl _) (fun r1 => ?_)
  refine z_zifeq C 14 dX7_sheet_5 (by decide) ?_ ?_
  · refine z_iload_n C 3 dX7_sheet_8 rfl ?_
    refine z_bipush (v := 40) C dX7_sheet_9 (by decide) ?_
    refine z_icmple C 16 dX7_sheet_11 (by decide) ?_ ?_
    · refine z_iload_n C 3 dX7_sheet_16 rfl ?_
      refine z_ifge C 23 dX7_sheet_17 (by decide) ?_ ?_
      · refine z_aload_n C 0 dX7_sheet_23 rfl ?_
        refine z_get C fl_RX7_32 has_M_0 rfl dX7_sheet_24 ?_
        refine z_iload_n C 1 dX7_sheet_27 rfl ?_
        refine z_iload_n C 2 dX7_sheet_28 rfl ?_
        refine y_iast C upd_M_8 dX7_sheet_29 (fun u2 => ?_)
        refine z_aload_n C 0 dX7_sheet_30 rfl ?_
        refine z_get C fl_RX7_35 has_M_0 rfl dX7_sheet_31 ?_
        refine z_iload_n C 1 dX7_sheet_34 rfl ?_
        refine z_iload_n C 3 dX7_sheet_35 rfl ?_
        refine y_iast C upd_M_9 dX7_sheet_36 (fun u3 => ?_)
        refine z_iconst (v := 0) C dX7_sheet_37 (by decide) ?_
        refine z_istore C [(4, .int 0), (0, .ref (b 0)), (1, .int v1), (2, .int v2), (3, .int v3)] dX7_sheet_38 (by decide) rfl ?_
        refine z_loc C [(0, .ref (b 0)), (1, .int v1), (4, .int 0)] [1, 2, 0] rfl ?_
        exact w_X7_sheet_40 C b g X    FU u3 v1 0
      refine z_bipush (v := (-14)) C dX7_sheet_20 (by decide) ?_
      exact z_iret C dX7_sheet_22 rfl rfl rfl
    refine z_iconst (v := (-1)) C dX7_sheet_14 (by decide) ?_
    exact z_iret C dX7_sheet_15 rfl rfl rfl
  refine z_iconst (v := (-1)) C dX7_sheet_14 (by decide) ?_
  exact z_iret C dX7_sheet_15 rfl rfl rfl
