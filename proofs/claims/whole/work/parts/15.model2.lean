noncomputable def f_X7_walk (u : zM) (v1 : Int32) (v2 : Int32) : Option (Int32 × zM) := (f_X7_isOne u v1).bind fun r1 => if r1 = true then (f_X7_isPlace v2).bind fun r2 => if r2 = true then (f_X7_becomes u v1 v2).bind fun r3 => zlet r3.2 fun u4 => some (r3.1, u4) else some ((-1), u) else some ((-1), u)
set_option maxHeartbeats 4000000 in
set_option maxRecDepth 100000 in
theorem ct_X7_walk (l : Launch) (G : zG) (b : Nat → Nat) (g : Nat → Int64) (X : va_W) (u : zM) (v1 : Int32) (v2 : Int32) : zCt l yX7_walk cX7_walk 3 (some .int) 3 G [.ref (b 0), .int v1, .int v2] (fun u : zM => wM b G.2 u g ++ X) (fun r : Int32 × zM => some (.int r.1)) (fun r => r.2) u (f_X7_walk u v1 v2) := by
  refine zCt.of (by decide) (Nat.le_of_ble_eq_true rfl) (fun p e s m args below meth c A C => ?_)
  refine y_lv (lv' := [(0, .ref (b 0)), (1, .int v1), (2, .int v2)]) rfl ?_
  rw [f_X7_walk]
  refine z_aload_n C 0 dX7_walk_0 rfl ?_
  refine z_iload_n C 1 dX7_walk_1 rfl ?_
  refine y_callZ C (z_invV C [.int v1] [] (ct_X7_isOne l G b g X u v1) mi_X7_isOne md_X7_isOne ms_X7_isOne ml_RX7_203 has_M_0 ⟨_, rfl, rfl⟩ (by decide) rfl rfl dX7_walk_2 (Nat.le_of_ble_eq_true rfl)) (List.Perm.refl _) (fun r1 => ?_)
  refine z_zifeq C 24 dX7_walk_5 (by decide) ?_ ?_
  · refine z_iload_n C 2 dX7_walk_8 rfl ?_
    refine y_callZ C (z_invS C [.int v2] [] (ct_X7_isPlace l G ((fun u : zM => wM b G.2 u g ++ X) u) v2) mi_X7_isPlace mt_X7_isPlace ml_RX7_221 (by decide) rfl rfl dX7_walk_9 (Nat.le_of_ble_eq_true rfl)) (List.Perm.refl _) (fun r2 => ?_)
    refine z_zifeq C 24 dX7_walk_12 (by decide) ?_ ?_
    · refine z_aload_n C 0 dX7_walk_15 rfl ?_
      refine z_iload_n C 1 dX7_walk_16 rfl ?_
      refine z_iload_n C 2 dX7_walk_17 rfl ?_
      refine y_callIS C (z_invV C [.int v1, .int v2] [] (ct_X7_becomes l G b g X u v1 v2) mi_X7_becomes md_X7_becomes ms_X7_becomes ml_RX7_218 has_M_0 ⟨_, rfl, rfl⟩ (by decide) rfl rfl dX7_walk_18 (Nat.le_of_ble_eq_true rfl)) (List.Perm.refl _) (fun _ => List.Perm.refl _) (fun r3 u4 => ?_)
      refine z_goto C 25 dX7_walk_21 (by decide) ?_
      exact z_iret C dX7_walk_25 rfl rfl rfl
    refine z_iconst (v := (-1)) C dX7_walk_24 (by decide) ?_
    exact z_iret C dX7_walk_25 rfl rfl rfl
  refine z_iconst (v := (-1)) C dX7_walk_24 (by decide) ?_
  exact z_iret C dX7_walk_25 rfl rfl rfl
noncomputable def f_X7_allCounted_4 : Nat → zM → Int32 → Int32 → Option (Int32)
  | 0, _, _, _ => none
  | n + 1, u, v1, v2 => if (u 0 3) ≤ v2 then some v1 else (f_X7_counted u v2).bind fun r1 => f_X7_allCounted_4 n u (v1 + r1) (v2 + 1)
set_option maxHeartbeats 4000000 in
set_option maxRecDepth 100000 in
theorem w_X7_allCounted_4 {p : Program} {l : Launch} {e : Env} {s : State} {m : MethodId} {args : Array Value} {below : List Frame} {meth : Method} {c : Code} {G : zG} {A : Nat → Prop} (C : zC p s m args meth c RX7 cX7_allCounted 3 (some .int) G A) (b : Nat → Nat) (g : Nat → Int64) (X : va_W) (u : zM) : ∀ (n : Nat) (v1 : Int32) (v2 : Int32), PW p l e 4 s m args below meth c G A 3 (fun u : zM => wM b G.2 u g ++ X) (fun r : Int32 => some (.int r)) (fun _ => u) u [(0, .ref (b 0)), (1, .int v1), (2, .int v2)] 4 [] (f_X7_allCounted_4 n u v1 v2) := by
  intro n
  induction n with
  | zero => intros; exact z_none
  | succ n ih =>
    intro v1 v2
    rw [f_X7_allCounted_4]
    refine z_iload_n C 2 dX7_allCounted_4 rfl ?_
    refine z_aload_n C 0 dX7_allCounted_5 rfl ?_
    refine z_get C fl_RX7_60 has_M_0 rfl dX7_allCounted_6 ?_
    refine z_icmpge C 26 dX7_allCounted_9 (by decide) ?_ ?_
    · refine z_iload_n C 1 dX7_allCounted_26 rfl ?_
      exact z_iret C dX7_allCounted_27 rfl rfl rfl
    refine z_iload_n C 1 dX7_allCounted_12 rfl ?_
    refine z_aload_n C 0 dX7_allCounted_13 rfl ?_
    refine z_iload_n C 2 dX7_allCounted_14 rfl ?_
    refine y_callI C (z_invV C [.int v2] [.int v1] (ct_X7_counted l G b g X u v2) mi_X7_counted md_X7_counted ms_X7_counted ml_RX7_149 has_M_0 ⟨_, rfl, rfl⟩ (by decide) rfl rfl dX7_allCounted_15 (Nat.le_of_ble_eq_true rfl)) (List.Perm.refl _) (fun r1 => ?_)
    refine z_iadd C dX7_allCounted_18 ?_
    refine z_istore_n C [(1, .int (v1 + r1)), (0, .ref (b 0)), (2, .int v2)] dX7_allCounted_19 (by decide) rfl ?_
    refine z_iinc C (v := (v2 + 1)) 2 [(2, .int (v2 + 1)), (1, .int (v1 + r1)), (0, .ref (b 0))] dX7_allCounted_20 rfl rfl (by decide) rfl ?_
    refine z_goto C 4 dX7_allCounted_23 (by decide) ?_
    refine z_loc C [(0, .ref (b 0)), (1, .int (v1 + r1)), (2, .int (v2 + 1))] [2, 1, 0] rfl ?_
    exact ih (v1 + r1) (v2 + 1)
noncomputable def f_X7_allCounted (u : zM) : Option (Int32) := f_X7_allCounted_4 FU u 0 0
set_option maxHeartbeats 4000000 in
set_option maxRecDepth 100000 in
theorem ct_X7_allCounted (l : Launch) (G : zG) (b : Nat → Nat) (g : Nat → Int64) (X : va_W) (u : zM) : zCt l yX7_allCounted cX7_allCounted 3 (some .int) 4 G [.ref (b 0)] (fun u : zM => wM b G.2 u g ++ X) (fun r : Int32 => some (.int r)) (fun _ => u) u (f_X7_allCounted u) := by
  refine zCt.of (by decide) (Nat.le_of_ble_eq_true rfl) (fun p e s m args below meth c A C => ?_)
  refine y_lv (lv' := [(0, .ref (b 0))]) rfl ?_
  rw [f_X7_allCounted]
  refine z_iconst (v := 0) C dX7_allCounted_0 (by decide) ?_
  refine z_istore_n C [(1, .int 0), (0, .ref (b 0))] dX7_allCounted_1 (by decide) rfl ?_
  refine z_iconst (v := 0) C dX7_allCounted_2 (by decide) ?_
  refine z_istore_n C [(2, .int 0), (1, .int 0), (0, .ref (b 0))] dX7_allCounted_3 (by decide) rfl ?_
  refine z_loc C [(0, .ref (b 0)), (1, .int 0), (2, .int 0)] [2, 1, 0] rfl ?_
  exact w_X7_allCounted_4 C b g X u   FU 0 0
noncomputable def f_X7_alter (u : zM) (v1 : Int32) (v2 : Int32) (v3 : Int32) : Option (Int32 × zM) := (f_X7_isBeetle u v1).bind fun r1 => if r1 = true then (f_X7_canBe u v2 v3).bind fun r2 => if r2 = true then (f_X7_becomes u ((4 + (5 * v1)) + v2) v3).bind fun r3 => zlet r3.2 fun u4 => some (r3.1, u4) else some ((-1), u) else some ((-1), u)
set_option maxHeartbeats 4000000 in
set_option maxRecDepth 100000 in
theorem ct_X7_alter (l : Launch) (G : zG) (b : Nat → Nat) (g : Nat → Int64) (X : va_W) (u : zM) (v1 : Int32) (v2 : Int32) (v3 : Int32) : zCt l yX7_alter cX7_alter 4 (some .int) 4 G [.ref (b 0), .int v1, .int v2, .int v3] (fun u : zM => wM b G.2 u g ++ X) (fun r : Int32 × zM => some (.int r.1)) (fun r => r.2) u (f_X7_alter u v1 v2 v3) := by
  refine zCt.of (by decide) (Nat.le_of_ble_eq_true rfl) (fun p e s m args below meth c A C => ?_)
  refine y_lv (lv' := [(0, .ref (b 0)), (1, .int v1), (2, .int v2), (3, .int v3)]) rfl ?_
  rw [f_X7_alter]
  refine z_aload_n C 0 dX7_alter_0 rfl ?_
  refine z_iload_n C 1 dX7_alter_1 rfl ?_
  refine y_callZ C (z_invV C [.int v1] [] (ct_X7_isBeetle l G b g X u v1) mi_X7_isBeetle md_X7_isBeetle ms_X7_isBeetle ml_RX7_207 has_M_0 ⟨_, rfl, rfl⟩ (by decide) rfl rfl dX7_alter_2 (Nat.le_of_ble_eq_true rfl)) (List.Perm.refl _) (fun r1 => ?_)
  refine z_zifeq C 32 dX7_alter_5 (by decide) ?_ ?_
  · refine z_aload_n C 0 dX7_alter_8 rfl ?_
    refine z_iload_n C 2 dX7_alter_9 rfl ?_
    refine z_iload_n C 3 dX7_alter_10 rfl ?_
    refine y_callZ C (z_invV C [.int v2, .int v3] [] (ct_X7_canBe l G b g X u v2 v3) mi_X7_canBe md_X7_canBe ms_X7_canBe ml_RX7_214 has_M_0 ⟨_, rfl, rfl⟩ (by decide) rfl rfl dX7_alter_11 (Nat.le_of_ble_eq_true rfl)) (List.Perm.refl _) (fun r2 => ?_)
    refine z_zifeq C 32 dX7_alter_14 (by decide) ?_ ?_
    · refine z_aload_n C 0 dX7_alter_17 rfl ?_
      refine z_iconst (v := 4) C dX7_alter_18 (by decide) ?_
      refine z_iconst (v := 5) C dX7_alter_19 (by decide) ?_
      refine z_iload_n C 1 dX7_alter_20 rfl ?_
      refine z_imul C dX7_alter_21 ?_
      refine z_iadd C dX7_alter_22 ?_
      refine z_iload_n C 2 dX7_alter_23 rfl ?_
      refine z_iadd C dX7_alter_24 ?_
      refine z_iload_n C 3 dX7_alter_25 rfl ?_
      refine y_callIS C (z_invV C [.int ((4 + (5 * v1)) + v2), .int v3] [] (ct_X7_becomes l G b g X u ((4 + (5 * v1)) + v2) v3) mi_X7_becomes md_X7_becomes ms_X7_becomes ml_RX7_218 has_M_0 ⟨_, rfl, rfl⟩ (by decide) rfl rfl dX7_alter_26 (Nat.le_of_ble_eq_true rfl)) (List.Perm.refl _) (fun _ => List.Perm.refl _) (fun r3 u4 => ?_)
      refine z_goto C 33 dX7_alter_29 (by decide) ?_
      exact z_iret C dX7_alter_33 rfl rfl rfl
    refine z_iconst (v := (-1)) C dX7_alter_32 (by decide) ?_
    exact z_iret C dX7_alter_33 rfl rfl rfl
  refine z_iconst (v := (-1)) C dX7_alter_32 (by decide) ?_
  exact z_iret C dX7_alter_33 rfl rfl rfl
noncomputable def f_X7_dab (u : zM) (v1 : Int32) (v2 : Int32) (v3 : Int32) : Option (Int32 × zM) := (f_X7_canBe u 0 v1).bind fun r1 => if r1 = true then (f_X7_canBe u 1 v2).bind fun r2 => if r2 = true then (f_X7_canBe u 2 v3).bind fun r3 => if r3 = true then if z_in 34 183 = true then if (u 1 (Int32.toNatClampNeg 34)) = 6 then some ((-3), u) else if z_in 34 183 = true then if z_in ((4 + (5 * (u 1 (Int32.toNatClampNeg 34)))) + 0) 183 = true then zlet (zU u 1 (Int32.toNatClampNeg ((4 + (5 * (u 1 (Int32.toNatClampNeg 34)))) + 0)) v1) (fun u4 => if z_in ((4 + (5 * (u 1 (Int32.toNatClampNeg 34)))) + 1) 183 = true then zlet (zU u4 1 (Int32.toNatClampNeg ((4 + (5 * (u 1 (Int32.toNatClampNeg 34)))) + 1)) v2) (fun u5 => if z_in ((4 + (5 * (u 1 (Int32.toNatClampNeg 34)))) + 2) 183 = true then zlet (zU u5 1 (Int32.toNatClampNeg ((4 + (5 * (u 1 (Int32.toNatClampNeg 34)))) + 2)) v3) (fun u6 => if z_in ((4 + (5 * (u 1 (Int32.toNatClampNeg 34)))) + 3) 183 = true then zlet (zU u6 1 (Int32.toNatClampNeg ((4 + (5 * (u 1 (Int32.toNatClampNeg 34)))) + 3)) 0) (fun u7 => if z_in ((4 + (5 * (u 1 (Int32.toNatClampNeg 34)))) + 4) 183 = true then zlet (zU u7 1 (Int32.toNatClampNeg ((4 + (5 * (u 1 (Int32.toNatClampNeg 34)))) + 4)) v3) (fun u8 => if z_in 34 183 = true then if z_in 34 183 = true then zlet (zU u8 1 (Int32.toNatClampNeg 34) ((u8 1 (Int32.toNatClampNeg 34)) + 1)) (fun u9 => if z_in 34 183 = true then some ((u9 1 (Int32.toNatClampNeg 34)), u9) else none) else none else none) else none) else none) else none) else none) else none else none else none else some ((-1), u) else some ((-1), u) else some ((-1), u)
set_option maxHeartbeats 4000000 in
set_option maxRecDepth 100000 in
theorem ct_X7_dab (l : Launch) (G : zG) (b : Nat → Nat) (g : Nat → Int64) (X : va_W) (u : zM) (v1 : Int32) (v2 : Int32) (v3 : Int32) : zCt l yX7_dab cX7_dab 5 (some .int) 4 G [.ref (b 0), .int v1, .int v2, .int v3] (fun u : zM => wM b G.2 u g ++ X) (fun r : Int32 × zM => some (.int r.1)) (fun r => r.2) u (f_X7_dab u v1 v2 v3) := by
  refine zCt.of (by decide) (Nat.le_of_ble_eq_true rfl) (fun p e s m args below meth c A C => ?_)
  refine y_lv (lv' := [(0, .ref (b 0)), (1, .int v1), (2, .int v2), (3, .int v3)]) rfl ?_
  rw [f_X7_dab]
  refine z_aload_n C 0 dX7_dab_0 rfl ?_
  refine z_iconst (v := 0) C dX7_dab_1 (by decide) ?_
  refine z_iload_n C 1 dX7_dab_2 rfl ?_
  refine y_callZ C (z_invV C [.int 0, .int v1] [] (ct_X7_canBe l G b g X u 0 v1) mi_X7_canBe md_X7_canBe ms_X7_canBe ml_RX7_214 has_M_0 ⟨_, rfl, rfl⟩ (by decide) rfl rfl dX7_dab_3 (Nat.le_of_ble_eq_true rfl)) (List.Perm.refl _) (fun r1 => ?_)
  refine z_zifeq C 27 dX7_dab_6 (by decide) ?_ ?_
  · refine z_aload_n C 0 dX7_dab_9 rfl ?_
    refine z_iconst (v := 1) C dX7_dab_10 (by decide) ?_
    refine z_iload_n C 2 dX7_dab_11 rfl ?_
    refine y_callZ C (z_invV C [.int 1, .int v2] [] (ct_X7_canBe l G b g X u 1 v2) mi_X7_canBe md_X7_canBe ms_X7_canBe ml_RX7_214 has_M_0 ⟨_, rfl, rfl⟩ (by decide) rfl rfl dX7_dab_12 (Nat.le_of_ble_eq_true rfl)) (List.Perm.refl _) (fun r2 => ?_)
    refine z_zifeq C 27 dX7_dab_15 (by decide) ?_ ?_
    · refine z_aload_n C 0 dX7_dab_18 rfl ?_
      refine z_iconst (v := 2) C dX7_dab_19 (by decide) ?_
      refine z_iload_n C 3 dX7_dab_20 rfl ?_
      refine y_callZ C (z_invV C [.int 2, .int v3] [] (ct_X7_canBe l G b g X u 2 v3) mi_X7_canBe md_X7_canBe ms_X7_canBe ml_RX7_214 has_M_0 ⟨_, rfl, rfl⟩ (by decide) rfl rfl dX7_dab_21 (Nat.le_of_ble_eq_true rfl)) (List.Perm.refl _) (fun r3 => ?_)
      refine z_zifne C 29 dX7_dab_24 (by decide) ?_ ?_
      · refine z_aload_n C 0 dX7_dab_29 rfl ?_
        refine z_get C fl_RX7_7 has_M_0 rfl dX7_dab_30 ?_
        refine z_bipush (v := 34) C dX7_dab_33 (by decide) ?_
        refine y_iald C has_M_1 dX7_dab_35 ?_
        refine z_bipush (v := 6) C dX7_dab_36 (by decide) ?_
        refine z_icmpne C 44 dX7_dab_38 (by decide) ?_ ?_
        · refine z_bipush (v := (-3)) C dX7_dab_41 (by decide) ?_
          exact z_iret C dX7_dab_43 rfl rfl rfl
        refine z_iconst (v := 4) C dX7_dab_44 (by decide) ?_
        refine z_iconst (v := 5) C dX7_dab_45 (by decide) ?_
        refine z_aload_n C 0 dX7_dab_46 rfl ?_
        refine z_get C fl_RX7_7 has_M_0 rfl dX7_dab_47 ?_
        refine z_bipush (v := 34) C dX7_dab_50 (by decide) ?_
        refine y_iald C has_M_1 dX7_dab_52 ?_
        refine z_imul C dX7_dab_53 ?_
        refine z_iadd C dX7_dab_54 ?_
        refine z_istore C [(4, .int (4 + (5 * (u 1 (Int32.toNatClampNeg 34))))), (0, .ref (b 0)), (1, .int v1), (2, .int v2), (3, .int v3)] dX7_dab_55 (by decide) rfl ?_
        refine z_aload_n C 1 dX7_dab_57 rfl ?_
        refine z_get C fl_RX7_7 has_M_0 rfl dX7_dab_58 ?_
        refine z_iload C 0 dX7_dab_61 rfl ?_
        refine z_iconst (v := 0) C dX7_dab_63 (by decide) ?_
        refine z_iadd C dX7_dab_64 ?_
        refine z_iload_n C 2 dX7_dab_65 rfl ?_
        refine y_iast C upd_M_1 dX7_dab_66 (fun u4 => ?_)
        refine z_aload_n C 1 dX7_dab_67 rfl ?_
        refine z_get C fl_RX7_7 has_M_0 rfl dX7_dab_68 ?_
        refine z_iload C 0 dX7_dab_71 rfl ?_
        refine z_iconst (v := 1) C dX7_dab_73 (by decide) ?_
        refine z_iadd C dX7_dab_74 ?_
        refine z_iload_n C 3 dX7_dab_75 rfl ?_
        refine y_iast C upd_M_1 dX7_dab_76 (fun u5 => ?_)
        refine z_aload_n C 1 dX7_dab_77 rfl ?_
        refine z_get C fl_RX7_7 has_M_0 rfl dX7_dab_78 ?_
        refine z_iload C 0 dX7_dab_81 rfl ?_
        refine z_iconst (v := 2) C dX7_dab_83 (by decide) ?_
        refine z_iadd C dX7_dab_84 ?_
        refine z_iload_n C 4 dX7_dab_85 rfl ?_
        refine y_iast C upd_M_1 dX7_dab_86 (fun u6 => ?_)
        refine z_aload_n C 1 dX7_dab_87 rfl ?_
        refine z_get C fl_RX7_7 has_M_0 rfl dX7_dab_88 ?_
        refine z_iload C 0 dX7_dab_91 rfl ?_
        refine z_iconst (v := 3) C dX7_dab_93 (by decide) ?_
        refine z_iadd C dX7_dab_94 ?_
        refine z_iconst (v := 0) C dX7_dab_95 (by decide) ?_
        refine y_iast C upd_M_1 dX7_dab_96 (fun u7 => ?_)
        refine z_aload_n C 1 dX7_dab_97 rfl ?_
        refine z_get C fl_RX7_7 has_M_0 rfl dX7_dab_98 ?_
        refine z_iload C 0 dX7_dab_101 rfl ?_
        refine z_iconst (v := 4) C dX7_dab_103 (by decide) ?_
        refine z_iadd C dX7_dab_104 ?_
        refine z_iload_n C 4 dX7_dab_105 rfl ?_
        refine y_iast C upd_M_1 dX7_dab_106 (fun u8 => ?_)
        refine z_aload_n C 1 dX7_dab_107 rfl ?_
        refine z_get C fl_RX7_7 has_M_0 rfl dX7_dab_108 ?_
        refine z_bipush (v := 34) C dX7_dab_111 (by decide) ?_
        refine z_dup2 C dX7_dab_113 rfl rfl ?_
        refine y_iald C has_M_1 dX7_dab_114 ?_
        refine z_iconst (v := 1) C dX7_dab_115 (by decide) ?_
        refine z_iadd C dX7_dab_116 ?_
        refine y_iast C upd_M_1 dX7_dab_117 (fun u9 => ?_)
        refine z_aload_n C 1 dX7_dab_118 rfl ?_
        refine z_get C fl_RX7_7 has_M_0 rfl dX7_dab_119 ?_
        refine z_bipush (v := 34) C dX7_dab_122 (by decide) ?_
        refine y_iald C has_M_1 dX7_dab_124 ?_
        exact z_iret C dX7_dab_125 rfl rfl rfl
      refine z_iconst (v := (-1)) C dX7_dab_27 (by decide) ?_
      exact z_iret C dX7_dab_28 rfl rfl rfl
    refine z_iconst (v := (-1)) C dX7_dab_27 (by decide) ?_
    exact z_iret C dX7_dab_28 rfl rfl rfl
  refine z_iconst (v := (-1)) C dX7_dab_27 (by decide) ?_
  exact z_iret C dX7_dab_28 rfl rfl rfl
noncomputable def f_X7_isMadeWayFor_4 : Nat → zM → Int32 → Bool → Int32 → Option (Bool)
  | 0, _, _, _, _ => none
  | n + 1, u, v1, v2, v3 => if (u 0 3) ≤ v3 then some v2 else if v2 = true then if v3 = v1 then f_X7_isMadeWayFor_4 n u v1 true (v3 + 1) else (f_X7_counted u v3).bind fun r1 => (f_X7_counted u v1).bind fun r2 => if r2 ≤ r1 then f_X7_isMadeWayFor_4 n u v1 false (v3 + 1) else f_X7_isMadeWayFor_4 n u v1 true (v3 + 1) else f_X7_isMadeWayFor_4 n u v1 false (v3 + 1)
set_option maxHeartbeats 4000000 in
set_option maxRecDepth 100000 in
theorem w_X7_isMadeWayFor_4 {p : Program} {l : Launch} {e : Env} {s : State} {m : MethodId} {args : Array Value} {below : List Frame} {meth : Method} {c : Code} {G : zG} {A : Nat → Prop} (C : zC p s m args meth c RX7 cX7_isMadeWayFor 4 (some .boolean) G A) (b : Nat → Nat) (g : Nat → Int64) (X : va_W) (u : zM) : ∀ (n : Nat) (v1 : Int32) (v2 : Bool) (v3 : Int32), PW p l e 4 s m args below meth c G A 4 (fun u : zM => wM b G.2 u g ++ X) (fun r : Bool => some (.int (zb r))) (fun _ => u) u [(0, .ref (b 0)), (1, .int v1), (2, .int (zb v2)), (3, .int v3)] 4 [] (f_X7_isMadeWayFor_4 n u v1 v2 v3) := by
  intro n
  induction n with
  | zero => intros; exact z_none
  | succ n ih =>
    intro v1 v2 v3
    rw [f_X7_isMadeWayFor_4]
    refine z_iload_n C 3 dX7_isMadeWayFor_4 rfl ?_
    refine z_aload_n C 0 dX7_isMadeWayFor_5 rfl ?_
    refine z_get C fl_RX7_60 has_M_0 rfl dX7_isMadeWayFor_6 ?_
    refine z_icmpge C 46 dX7_isMadeWayFor_9 (by decide) ?_ ?_
    · refine z_iload_n C 2 dX7_isMadeWayFor_46 rfl ?_
      exact z_zret (b := v2) C dX7_isMadeWayFor_47 rfl rfl
    refine z_iload_n C 2 dX7_isMadeWayFor_12 rfl ?_
    refine z_zifeq C 38 dX7_isMadeWayFor_13 (by decide) ?_ ?_
    · refine z_iload_n C 3 dX7_isMadeWayFor_16 rfl ?_
      refine z_iload_n C 1 dX7_isMadeWayFor_17 rfl ?_
      refine z_icmpeq C 34 dX7_isMadeWayFor_18 (by decide) ?_ ?_
      · refine z_iconst (v := 1) C dX7_isMadeWayFor_34 (by decide) ?_
        refine z_goto C 39 dX7_isMadeWayFor_35 (by decide) ?_
        refine z_istore_n C [(2, .int 1), (0, .ref (b 0)), (1, .int v1), (3, .int v3)] dX7_isMadeWayFor_39 (by decide) rfl ?_
        refine z_iinc C (v := (v3 + 1)) 3 [(3, .int (v3 + 1)), (2, .int 1), (0, .ref (b 0)), (1, .int v1)] dX7_isMadeWayFor_40 rfl rfl (by decide) rfl ?_
        refine z_goto C 4 dX7_isMadeWayFor_43 (by decide) ?_
        refine z_loc C [(0, .ref (b 0)), (1, .int v1), (2, .int (zb true)), (3, .int (v3 + 1))] [2, 3, 1, 0] rfl ?_
        exact ih v1 true (v3 + 1)
      refine z_aload_n C 0 dX7_isMadeWayFor_21 rfl ?_
      refine z_iload_n C 3 dX7_isMadeWayFor_22 rfl ?_
      refine y_callI C (z_invV C [.int v3] [] (ct_X7_counted l G b g X u v3) mi_X7_counted md_X7_counted ms_X7_counted ml_RX7_149 has_M_0 ⟨_, rfl, rfl⟩ (by decide) rfl rfl dX7_isMadeWayFor_23 (Nat.le_of_ble_eq_true rfl)) (List.Perm.refl _) (fun r1 => ?_)
      refine z_aload_n C 0 dX7_isMadeWayFor_26 rfl ?_
      refine z_iload_n C 1 dX7_isMadeWayFor_27 rfl ?_
      refine y_callI C (z_invV C [.int v1] [.int r1] (ct_X7_counted l G b g X u v1) mi_X7_counted md_X7_counted ms_X7_counted ml_RX7_149 has_M_0 ⟨_, rfl, rfl⟩ (by decide) rfl rfl dX7_isMadeWayFor_28 (Nat.le_of_ble_eq_true rfl)) (List.Perm.refl _) (fun r2 => ?_)
      refine z_icmpge C 38 dX7_isMadeWayFor_31 (by decide) ?_ ?_
      · refine z_iconst (v := 0) C dX7_isMadeWayFor_38 (by decide) ?_
        refine z_istore_n C [(2, .int 0), (0, .ref (b 0)), (1, .int v1), (3, .int v3)] dX7_isMadeWayFor_39 (by decide) rfl ?_
        refine z_iinc C (v := (v3 + 1)) 3 [(3, .int (v3 + 1)), (2, .int 0), (0, .ref (b 0)), (1, .int v1)] dX7_isMadeWayFor_40 rfl rfl (by decide) rfl ?_
        refine z_goto C 4 dX7_isMadeWayFor_43 (by decide) ?_
        refine z_loc C [(0, .ref (b 0)), (1, .int v1), (2, .int (zb false)), (3, .int (v3 + 1))] [2, 3, 1, 0] rfl ?_
        exact ih v1 false (v3 + 1)
      refine z_iconst (v := 1) C dX7_isMadeWayFor_34 (by decide) ?_
      refine z_goto C 39 dX7_isMadeWayFor_35 (by decide) ?_
      refine z_istore_n C [(2, .int 1), (0, .ref (b 0)), (1, .int v1), (3, .int v3)] dX7_isMadeWayFor_39 (by decide) rfl ?_
      refine z_iinc C (v := (v3 + 1)) 3 [(3, .int (v3 + 1)), (2, .int 1), (0, .ref (b 0)), (1, .int v1)] dX7_isMadeWayFor_40 rfl rfl (by decide) rfl ?_
      refine z_goto C 4 dX7_isMadeWayFor_43 (by decide) ?_
      refine z_loc C [(0, .ref (b 0)), (1, .int v1), (2, .int (zb true)), (3, .int (v3 + 1))] [2, 3, 1, 0] rfl ?_
      exact ih v1 true (v3 + 1)
    refine z_iconst (v := 0) C dX7_isMadeWayFor_38 (by decide) ?_
    refine z_istore_n C [(2, .int 0), (0, .ref (b 0)), (1, .int v1), (3, .int v3)] dX7_isMadeWayFor_39 (by decide) rfl ?_
    refine z_iinc C (v := (v3 + 1)) 3 [(3, .int (v3 + 1)), (2, .int 0), (0, .ref (b 0)), (1, .int v1)] dX7_isMadeWayFor_40 rfl rfl (by decide) rfl ?_
    refine z_goto C 4 dX7_isMadeWayFor_43 (by decide) ?_
    refine z_loc C [(0, .ref (b 0)), (1, .int v1), (2, .int (zb false)), (3, .int (v3 + 1))] [2, 3, 1, 0] rfl ?_
    exact ih v1 false (v3 + 1)
noncomputable def f_X7_isMadeWayFor (u : zM) (v1 : Int32) : Option (Bool) := f_X7_isMadeWayFor_4 FU u v1 true 0
set_option maxHeartbeats 4000000 in
set_option maxRecDepth 100000 in
theorem ct_X7_isMadeWayFor (l : Launch) (G : zG) (b : Nat → Nat) (g : Nat → Int64) (X : va_W) (u : zM) (v1 : Int32) : zCt l yX7_isMadeWayFor cX7_isMadeWayFor 4 (some .boolean) 4 G [.ref (b 0), .int v1] (fun u : zM => wM b G.2 u g ++ X) (fun r : Bool => some (.int (zb r))) (fun _ => u) u (f_X7_isMadeWayFor u v1) := by
  refine zCt.of (by decide) (Nat.le_of_ble_eq_true rfl) (fun p e s m args below meth c A C => ?_)
  refine y_lv (lv' := [(0, .ref (b 0)), (1, .int v1)]) rfl ?_
  rw [f_X7_isMadeWayFor]
  refine z_iconst (v := 1) C dX7_isMadeWayFor_0 (by decide) ?_
  refine z_istore_n C [(2, .int 1), (0, .ref (b 0)), (1, .int v1)] dX7_isMadeWayFor_1 (by decide) rfl ?_
  refine z_iconst (v := 0) C dX7_isMadeWayFor_2 (by decide) ?_
  refine z_istore_n C [(3, .int 0), (2, .int 1), (0, .ref (b 0)), (1, .int v1)] dX7_isMadeWayFor_3 (by decide) rfl ?_
  refine z_loc C [(0, .ref (b 0)), (1, .int v1), (2, .int (zb true)), (3, .int 0)] [2, 3, 1, 0] rfl ?_
  exact w_X7_isMadeWayFor_4 C b g X u   FU v1 true 0
noncomputable def f_X7_leastCounted_4 : Nat → zM → Int32 → Int32 → Option (Int32)
  | 0, _, _, _ => none
  | n + 1, u, v1, v2 => if (u 0 3) ≤ v2 then some v1 else (f_X7_counted u v2).bind fun r1 => (f_X7_counted u v1).bind fun r2 => if r2 ≤ r1 then f_X7_leastCounted_4 n u v1 (v2 + 1) else f_X7_leastCounted_4 n u v2 (v2 + 1)
set_option maxHeartbeats 4000000 in
set_option maxRecDepth 100000 in
theorem w_X7_leastCounted_4 {p : Program} {l : Launch} {e : Env} {s : State} {m : MethodId} {args : Array Value} {below : List Frame} {meth : Method} {c : Code} {G : zG} {A : Nat → Prop} (C : zC p s m args meth c RX7 cX7_leastCounted 3 (some .int) G A) (b : Nat → Nat) (g : Nat → Int64) (X : va_W) (u : zM) : ∀ (n : Nat) (v1 : Int32) (v2 : Int32), PW p l e 4 s m args below meth c G A 3 (fun u : zM => wM b G.2 u g ++ X) (fun r : Int32 => some (.int r)) (fun _ => u) u [(0, .ref (b 0)), (1, .int v1), (2, .int v2)] 4 [] (f_X7_leastCounted_4 n u v1 v2) := by
  intro n
  induction n with
  | zero => intros; exact z_none
  | succ n ih =>
    intro v1 v2
    rw [f_X7_leastCounted_4]
    refine z_iload_n C 2 dX7_leastCounted_4 rfl ?_
    refine z_aload_n C 0 dX7_leastCounted_5 rfl ?_
    refine z_get C fl_RX7_60 has_M_0 rfl dX7_leastCounted_6 ?_
    refine z_icmpge C 37 dX7_leastCounted_9 (by decide) ?_ ?_
    · refine z_iload_n C 1 dX7_leastCounted_37 rfl ?_
      exact z_iret C dX7_leastCounted_38 rfl rfl rfl
    refine z_aload_n C 0 dX7_leastCounted_12 rfl ?_
    refine z_iload_n C 2 dX7_leastCounted_13 rfl ?_
    refine y_callI C (z_invV C [.int v2] [] (ct_X7_counted l G b g X u v2) mi_X7_counted md_X7_counted ms_X7_counted ml_RX7_149 has_M_0 ⟨_, rfl, rfl⟩ (by decide) rfl rfl dX7_leastCounted_14 (Nat.le_of_ble_eq_true rfl)) (List.Perm.refl _) (fun r1 => ?_)
    refine z_aload_n C 0 dX7_leastCounted_17 rfl ?_
    refine z_iload_n C 1 dX7_leastCounted_18 rfl ?_
    refine y_callI C (z_invV C [.int v1] [.int r1] (ct_X7_counted l G b g X u v1) mi_X7_counted md_X7_counted ms_X7_counted ml_RX7_149 has_M_0 ⟨_, rfl, rfl⟩ (by decide) rfl rfl dX7_leastCounted_19 (Nat.le_of_ble_eq_true rfl)) (List.Perm.refl _) (fun r2 => ?_)
    refine z_icmpge C 29 dX7_leastCounted_22 (by decide) ?_ ?_
    · refine z_iload_n C 1 dX7_leastCounted_29 rfl ?_
      refine z_istore_n C [(1, .int v1), (0, .ref (b 0)), (2, .int v2)] dX7_leastCounted_30 (by decide) rfl ?_
      refine z_iinc C (v := (v2 + 1)) 2 [(2, .int (v2 + 1)), (1, .int v1), (0, .ref (b 0))] dX7_leastCounted_31 rfl rfl (by decide) rfl ?_
      refine z_goto C 4 dX7_leastCounted_34 (by decide) ?_
      refine z_loc C [(0, .ref (b 0)), (1, .int v1), (2, .int (v2 + 1))] [2, 1, 0] rfl ?_
      exact ih v1 (v2 + 1)
    refine z_iload_n C 2 dX7_leastCounted_25 rfl ?_
    refine z_goto C 30 dX7_leastCounted_26 (by decide) ?_
    refine z_istore_n C [(1, .int v2), (0, .ref (b 0)), (2, .int v2)] dX7_leastCounted_30 (by decide) rfl ?_
    refine z_iinc C (v := (v2 + 1)) 2 [(2, .int (v2 + 1)), (1, .int v2), (0, .ref (b 0))] dX7_leastCounted_31 rfl rfl (by decide) rfl ?_
    refine z_goto C 4 dX7_leastCounted_34 (by decide) ?_
    refine z_loc C [(0, .ref (b 0)), (1, .int v2), (2, .int (v2 + 1))] [2, 1, 0] rfl ?_
    exact ih v2 (v2 + 1)
noncomputable def f_X7_leastCounted (u : zM) : Option (Int32) := f_X7_leastCounted_4 FU u 0 1
set_option maxHeartbeats 4000000 in
set_option maxRecDepth 100000 in
theorem ct_X7_leastCounted (l : Launch) (G : zG) (b : Nat → Nat) (g : Nat → Int64) (X : va_W) (u : zM) : zCt l yX7_leastCounted cX7_leastCounted 3 (some .int) 4 G [.ref (b 0)] (fun u : zM => wM b G.2 u g ++ X) (fun r : Int32 => some (.int r)) (fun _ => u) u (f_X7_leastCounted u) := by
  refine zCt.of (by decide) (Nat.le_of_ble_eq_true rfl) (fun p e s m args below meth c A C => ?_)
  refine y_lv (lv' := [(0, .ref (b 0))]) rfl ?_
  rw [f_X7_leastCounted]
  refine z_iconst (v := 0) C dX7_leastCounted_0 (by decide) ?_
  refine z_istore_n C [(1, .int 0), (0, .ref (b 0))] dX7_leastCounted_1 (by decide) rfl ?_
  refine z_iconst (v := 1) C dX7_leastCounted_2 (by decide) ?_
  refine z_istore_n C [(2, .int 1), (1, .int 0), (0, .ref (b 0))] dX7_leastCounted_3 (by decide) rfl ?_
  refine z_loc C [(0, .ref (b 0)), (1, .int 0), (2, .int 1)] [2, 1, 0] rfl ?_
  exact w_X7_leastCounted_4 C b g X u   FU 0 1
noncomputable def f_X7_meet (u : zM) (v1 : Int32) (v2 : Int32) : Option (Int32 × zM) := (f_X7_isOne u v1).bind fun r1 => if r1 = true then (f_X7_isOne u v2).bind fun r2 => if r2 = true then if v1 = v2 then some ((-1), u) else (f_X7_starts u).bind fun r3 => zlet r3 fun u4 => (f_X7_counted u4 v1).bind fun r5 => (f_X7_counted u4 v2).bind fun r6 => if r6 ≤ r5 then if r5 ≤ r6 then some ((-4), u4) else some (v2, u4) else some (v1, u4) else some ((-1), u) else some ((-1), u)
set_option maxHeartbeats 4000000 in
set_option maxRecDepth 100000 in
theorem ct_X7_meet (l : Launch) (G : zG) (b : Nat → Nat) (g : Nat → Int64) (X : va_W) (u : zM) (v1 : Int32) (v2 : Int32) : zCt l yX7_meet cX7_meet 5 (some .int) 4 G [.ref (b 0), .int v1, .int v2] (fun u : zM => wM b G.2 u g ++ X) (fun r : Int32 × zM => some (.int r.1)) (fun r => r.2) u (f_X7_meet u v1 v2) := by
  refine zCt.of (by decide) (Nat.le_of_ble_eq_true rfl) (fun p e s m args below meth c A C => ?_)
  refine y_lv (lv' := [(0, .ref (b 0)), (1, .int v1), (2, .int v2)]) rfl ?_
  rw [f_X7_meet]
  refine z_aload_n C 0 dX7_meet_0 rfl ?_
  refine z_iload_n C 1 dX7_meet_1 rfl ?_
  refine y_callZ C (z_invV C [.int v1] [] (ct_X7_isOne l G b g X u v1) mi_X7_isOne md_X7_isOne ms_X7_isOne ml_RX7_203 has_M_0 ⟨_, rfl, rfl⟩ (by decide) rfl rfl dX7_meet_2 (Nat.le_of_ble_eq_true rfl)) (List.Perm.refl _) (fun r1 => ?_)
  refine z_zifeq C 21 dX7_meet_5 (by decide) ?_ ?_
  · refine z_aload_n C 0 dX7_meet_8 rfl ?_
    refine z_iload_n C 2 dX7_meet_9 rfl ?_
    refine y_callZ C (z_invV C [.int v2] [] (ct_X7_isOne l G b g X u v2) mi_X7_isOne md_X7_isOne ms_X7_isOne ml_RX7_203 has_M_0 ⟨_, rfl, rfl⟩ (by decide) rfl rfl dX7_meet_10 (Nat.le_of_ble_eq_true rfl)) (List.Perm.refl _) (fun r2 => ?_)
    refine z_zifeq C 21 dX7_meet_13 (by decide) ?_ ?_
    · refine z_iload_n C 1 dX7_meet_16 rfl ?_
      refine z_iload_n C 2 dX7_meet_17 rfl ?_
      refine z_icmpne C 23 dX7_meet_18 (by decide) ?_ ?_
      · refine z_iconst (v := (-1)) C dX7_meet_21 (by decide) ?_
        exact z_iret C dX7_meet_22 rfl rfl rfl
      refine z_aload_n C 0 dX7_meet_23 rfl ?_
      refine y_callVS C (z_invV C [] [] (ct_X7_starts l G b g X u ) mi_X7_starts md_X7_starts ms_X7_starts ml_RX7_191 has_M_0 ⟨_, rfl, rfl⟩ (by decide) rfl rfl dX7_meet_24 (Nat.le_of_ble_eq_true rfl)) (List.Perm.refl _) (fun _ => List.Perm.refl _) (fun r3 u4 => ?_)
      refine z_aload_n C 0 dX7_meet_27 rfl ?_
      refine z_iload_n C 1 dX7_meet_28 rfl ?_
      refine y_callI C (z_invV C [.int v1] [] (ct_X7_counted l G b g X u4 v1) mi_X7_counted md_X7_counted ms_X7_counted ml_RX7_149 has_M_0 ⟨_, rfl, rfl⟩ (by decide) rfl rfl dX7_meet_29 (Nat.le_of_ble_eq_true rfl)) (List.Perm.refl _) (fun r5 => ?_)
      refine z_istore_n C [(3, .int r5), (0, .ref (b 0)), (1, .int v1), (2, .int v2)] dX7_meet_32 (by decide) rfl ?_
      refine z_aload_n C 1 dX7_meet_33 rfl ?_
      refine z_iload_n C 3 dX7_meet_34 rfl ?_
      refine y_callI C (z_invV C [.int v2] [] (ct_X7_counted l G b g X u4 v2) mi_X7_counted md_X7_counted ms_X7_counted ml_RX7_149 has_M_0 ⟨_, rfl, rfl⟩ (by decide) rfl rfl dX7_meet_35 (Nat.le_of_ble_eq_true rfl)) (List.Perm.refl _) (fun r6 => ?_)
      refine z_istore C [(4, .int r6), (3, .int r5), (0, .ref (b 0)), (1, .int v1), (2, .int v2)] dX7_meet_38 (by decide) rfl ?_
      refine z_iload_n C 1 dX7_meet_40 rfl ?_
      refine z_iload C 0 dX7_meet_41 rfl ?_
      refine z_icmpge C 50 dX7_meet_43 (by decide) ?_ ?_
      · refine z_iload C 0 dX7_meet_50 rfl ?_
        refine z_iload_n C 1 dX7_meet_52 rfl ?_
        refine z_icmpge C 60 dX7_meet_53 (by decide) ?_ ?_
        · refine z_bipush (v := (-4)) C dX7_meet_60 (by decide) ?_
          exact z_iret C dX7_meet_62 rfl rfl rfl
        refine z_iload_n C 4 dX7_meet_56 rfl ?_
        refine z_goto C 62 dX7_meet_57 (by decide) ?_
        exact z_iret C dX7_meet_62 rfl rfl rfl
      refine z_iload_n C 3 dX7_meet_46 rfl ?_
      refine z_goto C 62 dX7_meet_47 (by decide) ?_
      exact z_iret C dX7_meet_62 rfl rfl rfl
    refine z_iconst (v := (-1)) C dX7_meet_21 (by decide) ?_
    exact z_iret C dX7_meet_22 rfl rfl rfl
  refine z_iconst (v := (-1)) C dX7_meet_21 (by decide) ?_
  exact z_iret C dX7_meet_22 rfl rfl rfl
noncomputable def f_X7_mostCounted_5 : Nat → zM → Int32 → Int32 → Option (Int32)
  | 0, _, _, _ => none
  | n + 1, u, v1, v2 => if (u 0 3) ≤ v2 then some v1 else (f_X7_counted u v2).bind fun r1 => if v1 = (-4) then if r1 ≤ 0 then f_X7_mostCounted_5 n u v1 (v2 + 1) else f_X7_mostCounted_5 n u v2 (v2 + 1) else (f_X7_counted u v1).bind fun r2 => if r1 ≤ r2 then f_X7_mostCounted_5 n u v1 (v2 + 1) else f_X7_mostCounted_5 n u v2 (v2 + 1)
set_option maxHeartbeats 4000000 in
set_option maxRecDepth 100000 in
theorem w_X7_mostCounted_5 {p : Program} {l : Launch} {e : Env} {s : State} {m : MethodId} {args : Array Value} {below : List Frame} {meth : Method} {c : Code} {G : zG} {A : Nat → Prop} (C : zC p s m args meth c RX7 cX7_mostCounted 3 (some .int) G A) (b : Nat → Nat) (g : Nat → Int64) (X : va_W) (u : zM) : ∀ (n : Nat) (v1 : Int32) (v2 : Int32), PW p l e 4 s m args below meth c G A 3 (fun u : zM => wM b G.2 u g ++ X) (fun r : Int32 => some (.int r)) (fun _ => u) u [(0, .ref (b 0)), (1, .int v1), (2, .int v2)] 5 [] (f_X7_mostCounted_5 n u v1 v2) := by
  intro n
  induction n with
  | zero => intros; exact z_none
  | succ n ih =>
    intro v1 v2
    rw [f_X7_mostCounted_5]
    refine z_iload_n C 2 dX7_mostCounted_5 rfl ?_
    refine z_aload_n C 0 dX7_mostCounted_6 rfl ?_
    refine z_get C fl_RX7_60 has_M_0 rfl dX7_mostCounted_7 ?_
    refine z_icmpge C 48 dX7_mostCounted_10 (by decide) ?_ ?_
    · refine z_iload_n C 1 dX7_mostCounted_48 rfl ?_
      exact z_iret C dX7_mostCounted_49 rfl rfl rfl
    refine z_aload_n C 0 dX7_mostCounted_13 rfl ?_
    refine z_iload_n C 2 dX7_mostCounted_14 rfl ?_
    refine y_callI C (z_invV C [.int v2] [] (ct_X7_counted l G b g X u v2) mi_X7_counted md_X7_counted ms_X7_counted ml_RX7_149 has_M_0 ⟨_, rfl, rfl⟩ (by decide) rfl rfl dX7_mostCounted_15 (Nat.le_of_ble_eq_true rfl)) (List.Perm.refl _) (fun r1 => ?_)
    refine z_iload_n C 1 dX7_mostCounted_18 rfl ?_
    refine z_bipush (v := (-4)) C dX7_mostCounted_19 (by decide) ?_
    refine z_icmpne C 28 dX7_mostCounted_21 (by decide) ?_ ?_
    · refine z_iconst (v := 0) C dX7_mostCounted_24 (by decide) ?_
      refine z_goto C 33 dX7_mostCounted_25 (by decide) ?_
      refine z_icmple C 40 dX7_mostCounted_33 (by decide) ?_ ?_
      · refine z_iload_n C 1 dX7_mostCounted_40 rfl ?_
        refine z_istore_n C [(1, .int v1), (0, .ref (b 0)), (2, .int v2)] dX7_mostCounted_41 (by decide) rfl ?_
        refine z_iinc C (v := (v2 + 1)) 2 [(2, .int (v2 + 1)), (1, .int v1), (0, .ref (b 0))] dX7_mostCounted_42 rfl rfl (by decide) rfl ?_
        refine z_goto C 5 dX7_mostCounted_45 (by decide) ?_
        refine z_loc C [(0, .ref (b 0)), (1, .int v1), (2, .int (v2 + 1))] [2, 1, 0] rfl ?_
        exact ih v1 (v2 + 1)
      refine z_iload_n C 2 dX7_mostCounted_36 rfl ?_
      refine z_goto C 41 dX7_mostCounted_37 (by decide) ?_
      refine z_istore_n C [(1, .int v2), (0, .ref (b 0)), (2, .int v2)] dX7_mostCounted_41 (by decide) rfl ?_
      refine z_iinc C (v := (v2 + 1)) 2 [(2, .int (v2 + 1)), (1, .int v2), (0, .ref (b 0))] dX7_mostCounted_42 rfl rfl (by decide) rfl ?_
      refine z_goto C 5 dX7_mostCounted_45 (by decide) ?_
      refine z_loc C [(0, .ref (b 0)), (1, .int v2), (2, .int (v2 + 1))] [2, 1, 0] rfl ?_
      exact ih v2 (v2 + 1)
    refine z_aload_n C 0 dX7_mostCounted_28 rfl ?_
    refine z_iload_n C 1 dX7_mostCounted_29 rfl ?_
    refine y_callI C (z_invV C [.int v1] [.int r1] (ct_X7_counted l G b g X u v1) mi_X7_counted md_X7_counted ms_X7_counted ml_RX7_149 has_M_0 ⟨_, rfl, rfl⟩ (by decide) rfl rfl dX7_mostCounted_30 (Nat.le_of_ble_eq_true rfl)) (List.Perm.refl _) (fun r2 => ?_)
    refine z_icmple C 40 dX7_mostCounted_33 (by decide) ?_ ?_
    · refine z_iload_n C 1 dX7_mostCounted_40 rfl ?_
      refine z_istore_n C [(1, .int v1), (0, .ref (b 0)), (2, .int v2)] dX7_mostCounted_41 (by decide) rfl ?_
      refine z_iinc C (v := (v2 + 1)) 2 [(2, .int (v2 + 1)), (1, .int v1), (0, .ref (b 0))] dX7_mostCounted_42 rfl rfl (by decide) rfl ?_
      refine z_goto C 5 dX7_mostCounted_45 (by decide) ?_
      refine z_loc C [(0, .ref (b 0)), (1, .int v1), (2, .int (v2 + 1))] [2, 1, 0] rfl ?_
      exact ih v1 (v2 + 1)
    refine z_iload_n C 2 dX7_mostCounted_36 rfl ?_
    refine z_goto C 41 dX7_mostCounted_37 (by decide) ?_
    refine z_istore_n C [(1, .int v2), (0, .ref (b 0)), (2, .int v2)] dX7_mostCounted_41 (by decide) rfl ?_
    refine z_iinc C (v := (v2 + 1)) 2 [(2, .int (v2 + 1)), (1, .int v2), (0, .ref (b 0))] dX7_mostCounted_42 rfl rfl (by decide) rfl ?_
    refine z_goto C 5 dX7_mostCounted_45 (by decide) ?_
    refine z_loc C [(0, .ref (b 0)), (1, .int v2), (2, .int (v2 + 1))] [2, 1, 0] rfl ?_
    exact ih v2 (v2 + 1)
noncomputable def f_X7_mostCounted (u : zM) : Option (Int32) := f_X7_mostCounted_5 FU u (-4) 0
set_option maxHeartbeats 4000000 in
set_option maxRecDepth 100000 in
theorem ct_X7_mostCounted (l : Launch) (G : zG) (b : Nat → Nat) (g : Nat → Int64) (X : va_W) (u : zM) : zCt l yX7_mostCounted cX7_mostCounted 3 (some .int) 4 G [.ref (b 0)] (fun u : zM => wM b G.2 u g ++ X) (fun r : Int32 => some (.int r)) (fun _ => u) u (f_X7_mostCounted u) := by
  refine zCt.of (by decide) (Nat.le_of_ble_eq_true rfl) (fun p e s m args below meth c A C => ?_)
  refine y_lv (lv' := [(0, .ref (b 0))]) rfl ?_
  rw [f_X7_mostCounted]
  refine z_bipush (v := (-4)) C dX7_mostCounted_0 (by decide) ?_
  refine z_istore_n C [(1, .int (-4)), (0, .ref (b 0))] dX7_mostCounted_2 (by decide) rfl ?_
  refine z_iconst (v := 0) C dX7_mostCounted_3 (by decide) ?_
  refine z_istore_n C [(2, .int 0), (1, .int (-4)), (0, .ref (b 0))] dX7_mostCounted_4 (by decide) rfl ?_
  refine z_loc C [(0, .ref (b 0)), (1, .int (-4)), (2, .int 0)] [2, 1, 0] rfl ?_
  exact w_X7_mostCounted_5 C b g X u   FU (-4) 0
noncomputable def f_X7_one_50 (k22 : zM → Int32 → Int32 → Int32 → Int32 → Int32 → Option (Int32 × zM)) (u : zM) (v1 : Int32) (v2 : Int32) (v3 : Int32) (v4 : Int32) (v5 : Int32) (t0 : Bool) : Option (Int32 × zM) := (f_X7_flag (zb t0)).bind fun r6 => if t0 = true then (f_X7_of u v5 0).bind fun r7 => if r7 = 3 then (f_X7_weight u v5).bind fun r8 => k22 u v1 v2 (v3 ||| (r6 <<< ((v5 : Int32) &&& 31))) (v4 + r8) (v5 + 1) else k22 u v1 v2 (v3 ||| (r6 <<< ((v5 : Int32) &&& 31))) (v4 + 0) (v5 + 1) else k22 u v1 v2 (v3 ||| (r6 <<< ((v5 : Int32) &&& 31))) (v4 + 0) (v5 + 1)
set_option maxHeartbeats 4000000 in
set_option maxRecDepth 100000 in
theorem w_X7_one_50 {p : Program} {l : Launch} {e : Env} {s : State} {m : MethodId} {args : Array Value} {below : List Frame} {meth : Method} {c : Code} {G : zG} {A : Nat → Prop} (C : zC p s m args meth c RX7 cX7_one 7 (some .int) G A) (b : Nat → Nat) (g : Nat → Int64) (X : va_W) (k22 : zM → Int32 → Int32 → Int32 → Int32 → Int32 → Option (Int32 × zM)) (hk22 : ∀ (u : zM) (v1 : Int32) (v2 : Int32) (v3 : Int32) (v4 : Int32) (v5 : Int32), PW p l e 4 s m args below meth c G A 7 (fun u : zM => wM b G.2 u g ++ X) (fun r : Int32 × zM => some (.int r.1)) (fun r => r.2) u [(0, .ref (b 0)), (1, .int v1), (2, .int v2), (3, .int v3), (4, .int v4), (5, .int v5)] 22 [] (k22 u v1 v2 v3 v4 v5)) : ∀ (u : zM) (v1 : Int32) (v2 : Int32) (v3 : Int32) (v4 : Int32) (v5 : Int32) (t0 : Bool), PW p l e 4 s m args below meth c G A 7 (fun u : zM => wM b G.2 u g ++ X) (fun r : Int32 × zM => some (.int r.1)) (fun r => r.2) u [(0, .ref (b 0)), (1, .int v1), (2, .int v2), (3, .int v3), (4, .int v4), (5, .int v5)] 50 [.int (zb t0)] (f_X7_one_50 k22 u v1 v2 v3 v4 v5 t0) := by
  intro u v1 v2 v3 v4 v5 t0
  rw [f_X7_one_50]
  refine z_istore C [(6, .int (zb t0)), (0, .ref (b 0)), (1, .int v1), (2, .int v2), (3, .int v3), (4, .int v4), (5, .int v5)] dX7_one_50 (by decide) rfl ?_
  refine z_iload_n C 4 dX7_one_52 rfl ?_
  refine z_iload C 0 dX7_one_53 rfl ?_
  refine y_callI C (z_invS C [.int (zb t0)] [.int v3] (ct_X7_flag l G ((fun u : zM => wM b G.2 u g ++ X) u) (zb t0)) mi_X7_flag mt_X7_flag ml_RX7_187 (by decide) rfl rfl dX7_one_55 (Nat.le_of_ble_eq_true rfl)) (List.Perm.refl _) (fun r6 => ?_)
  refine z_iload C 6 dX7_one_58 rfl ?_
  refine z_ishl C dX7_one_60 ?_
  refine z_ior C dX7_one_61 ?_
  refine z_istore_n C [(3, .int (v3 ||| (r6 <<< ((v5 : Int32) &&& 31)))), (6, .int (zb t0)), (0, .ref (b 0)), (1, .int v1), (2, .int v2), (4, .int v4), (5, .int v5)] dX7_one_62 (by decide) rfl ?_
  refine z_iload C 5 dX7_one_63 rfl ?_
  refine z_iload C 1 dX7_one_65 rfl ?_
  refine z_zifeq C 90 dX7_one_67 (by decide) ?_ ?_
  · refine z_aload_n C 2 dX7_one_70 rfl ?_
    refine z_iload C 6 dX7_one_71 rfl ?_
    refine z_iconst (v := 0) C dX7_one_73 (by decide) ?_
    refine y_callI C (z_invV C [.int v5, .int 0] [.int v4] (ct_X7_of l G b g X u v5 0) mi_X7_of md_X7_of ms_X7_of ml_RX7_143 has_M_0 ⟨_, rfl, rfl⟩ (by decide) rfl rfl dX7_one_74 (Nat.le_of_ble_eq_true rfl)) (List.Perm.refl _) (fun r7 => ?_)
    refine z_iconst (v := 3) C dX7_one_77 (by decide) ?_
    refine z_icmpne C 90 dX7_one_78 (by decide) ?_ ?_
    · refine z_aload_n C 2 dX7_one_81 rfl ?_
      refine z_iload C 6 dX7_one_82 rfl ?_
      refine y_callI C (z_invV C [.int v5] [.int v4] (ct_X7_weight l G b g X u v5) mi_X7_weight md_X7_weight ms_X7_weight ml_RX7_146 has_M_0 ⟨_, rfl, rfl⟩ (by decide) rfl rfl dX7_one_84 (Nat.le_of_ble_eq_true rfl)) (List.Perm.refl _) (fun r8 => ?_)
      refine z_goto C 91 dX7_one_87 (by decide) ?_
      refine z_iadd C dX7_one_91 ?_
      refine z_istore C [(4, .int (v4 + r8)), (3, .int (v3 ||| (r6 <<< ((v5 : Int32) &&& 31)))), (6, .int (zb t0)), (0, .ref (b 0)), (1, .int v1), (2, .int v2), (5, .int v5)] dX7_one_92 (by decide) rfl ?_
      refine z_iinc C (v := (v5 + 1)) 6 [(5, .int (v5 + 1)), (4, .int (v4 + r8)), (3, .int (v3 ||| (r6 <<< ((v5 : Int32) &&& 31)))), (6, .int (zb t0)), (0, .ref (b 0)), (1, .int v1), (2, .int v2)] dX7_one_94 rfl rfl (by decide) rfl ?_
      refine z_goto C 22 dX7_one_97 (by decide) ?_
      refine z_loc C [(0, .ref (b 0)), (1, .int v1), (2, .int v2), (3, .int (v3 ||| (r6 <<< ((v5 : Int32) &&& 31)))), (4, .int (v4 + r8)), (5, .int (v5 + 1))] [4, 5, 6, 2, 1, 0] rfl ?_
      exact hk22 u v1 v2 (v3 ||| (r6 <<< ((v5 : Int32) &&& 31))) (v4 + r8) (v5 + 1)
    refine z_iconst (v := 0) C dX7_one_90 (by decide) ?_
    refine z_iadd C dX7_one_91 ?_
    refine z_istore C [(4, .int (v4 + 0)), (3, .int (v3 ||| (r6 <<< ((v5 : Int32) &&& 31)))), (6, .int (zb t0)), (0, .ref (b 0)), (1, .int v1), (2, .int v2), (5, .int v5)] dX7_one_92 (by decide) rfl ?_
    refine z_iinc C (v := (v5 + 1)) 6 [(5, .int (v5 + 1)), (4, .int (v4 + 0)), (3, .int (v3 ||| (r6 <<< ((v5 : Int32) &&& 31)))), (6, .int (zb t0)), (0, .ref (b 0)), (1, .int v1), (2, .int v2)] dX7_one_94 rfl rfl (by decide) rfl ?_
    refine z_goto C 22 dX7_one_97 (by decide) ?_
    refine z_loc C [(0, .ref (b 0)), (1, .int v1), (2, .int v2), (3, .int (v3 ||| (r6 <<< ((v5 : Int32) &&& 31)))), (4, .int (v4 + 0)), (5, .int (v5 + 1))] [4, 5, 6, 2, 1, 0] rfl ?_
    exact hk22 u v1 v2 (v3 ||| (r6 <<< ((v5 : Int32) &&& 31))) (v4 + 0) (v5 + 1)
  refine z_iconst (v := 0) C dX7_one_90 (by decide) ?_
  refine z_iadd C dX7_one_91 ?_
  refine z_istore C [(4, .int (v4 + 0)), (3, .int (v3 ||| (r6 <<< ((v5 : Int32) &&& 31)))), (6, .int (zb t0)), (0, .ref (b 0)), (1, .int v1), (2, .int v2), (5, .int v5)] dX7_one_92 (by decide) rfl ?_
  refine z_iinc C (v := (v5 + 1)) 6 [(5, .int (v5 + 1)), (4, .int (v4 + 0)), (3, .int (v3 ||| (r6 <<< ((v5 : Int32) &&& 31)))), (6, .int (zb t0)), (0, .ref (b 0)), (1, .int v1), (2, .int v2)] dX7_one_94 rfl rfl (by decide) rfl ?_
  refine z_goto C 22 dX7_one_97 (by decide) ?_
  refine z_loc C [(0, .ref (b 0)), (1, .int v1), (2, .int v2), (3, .int (v3 ||| (r6 <<< ((v5 : Int32) &&& 31)))), (4, .int (v4 + 0)), (5, .int (v5 + 1))] [4, 5, 6, 2, 1, 0] rfl ?_
  exact hk22 u v1 v2 (v3 ||| (r6 <<< ((v5 : Int32) &&& 31))) (v4 + 0) (v5 + 1)
noncomputable def f_X7_one_22 : Nat → zM → Int32 → Int32 → Int32 → Int32 → Int32 → Option (Int32 × zM)
  | 0, _, _, _, _, _, _ => none
  | n + 1, u, v1, v2, v3, v4, v5 => if z_in 34 183 = true then if (u 1 (Int32.toNatClampNeg 34)) ≤ v5 then if v2 = 0 then if z_in v1 183 = true then some ((u 1 (Int32.toNatClampNeg v1)), u) else none else if v2 = 1 then some (v3, u) else if v2 = 2 then (f_X7_counted u v1).bind fun r4 => some (r4, u) else if v2 = 3 then some (v4, u) else some ((-1), u) else (f_X7_of u v5 4).bind fun r5 => if r5 = v1 then f_X7_one_50 (fun u v1 v2 v3 v4 v5 => f_X7_one_22 n u v1 v2 v3 v4 v5) u v1 v2 v3 v4 v5 true else f_X7_one_50 (fun u v1 v2 v3 v4 v5 => f_X7_one_22 n u v1 v2 v3 v4 v5) u v1 v2 v3 v4 v5 false else none
set_option maxHeartbeats 4000000 in
set_option maxRecDepth 100000 in
theorem w_X7_one_22 {p : Program} {l : Launch} {e : Env} {s : State} {m : MethodId} {args : Array Value} {below : List Frame} {meth : Method} {c : Code} {G : zG} {A : Nat → Prop} (C : zC p s m args meth c RX7 cX7_one 7 (some .int) G A) (b : Nat → Nat) (g : Nat → Int64) (X : va_W) : ∀ (n : Nat) (u : zM) (v1 : Int32) (v2 : Int32) (v3 : Int32) (v4 : Int32) (v5 : Int32), PW p l e 4 s m args below meth c G A 7 (fun u : zM => wM b G.2 u g ++ X) (fun r : Int32 × zM => some (.int r.1)) (fun r => r.2) u [(0, .ref (b 0)), (1, .int v1), (2, .int v2), (3, .int v3), (4, .int v4), (5, .int v5)] 22 [] (f_X7_one_22 n u v1 v2 v3 v4 v5) := by
  intro n
  induction n with
  | zero => intros; exact z_none
  | succ n ih =>
    intro u v1 v2 v3 v4 v5
    rw [f_X7_one_22]
    refine z_iload C 5 dX7_one_22 rfl ?_
    refine z_aload_n C 0 dX7_one_24 rfl ?_
    refine z_get C fl_RX7_7 has_M_0 rfl dX7_one_25 ?_
    refine z_bipush (v := 34) C dX7_one_28 (by decide) ?_
    refine y_iald C has_M_1 dX7_one_30 ?_
    refine z_icmpge C 100 dX7_one_31 (by decide) ?_ ?_
    · refine z_iload_n C 2 dX7_one_100 rfl ?_
      refine z_ifne C 113 dX7_one_101 (by decide) ?_ ?_
      · refine z_aload_n C 0 dX7_one_104 rfl ?_
        refine z_get C fl_RX7_7 has_M_0 rfl dX7_one_105 ?_
        refine z_iload_n C 1 dX7_one_108 rfl ?_
        refine y_iald C has_M_1 dX7_one_109 ?_
        refine z_goto C 146 dX7_one_110 (by decide) ?_
        exact z_iret C dX7_one_146 rfl rfl rfl
      refine z_iload_n C 2 dX7_one_113 rfl ?_
      refine z_iconst (v := 1) C dX7_one_114 (by decide) ?_
      refine z_icmpne C 122 dX7_one_115 (by decide) ?_ ?_
      · refine z_iload_n C 3 dX7_one_118 rfl ?_
        refine z_goto C 146 dX7_one_119 (by decide) ?_
        exact z_iret C dX7_one_146 rfl rfl rfl
      refine z_iload_n C 2 dX7_one_122 rfl ?_
      refine z_iconst (v := 2) C dX7_one_123 (by decide) ?_
      refine z_icmpne C 135 dX7_one_124 (by decide) ?_ ?_
      · refine z_aload_n C 0 dX7_one_127 rfl ?_
        refine z_iload_n C 1 dX7_one_128 rfl ?_
        refine y_callI C (z_invV C [.int v1] [] (ct_X7_counted l G b g X u v1) mi_X7_counted md_X7_counted ms_X7_counted ml_RX7_149 has_M_0 ⟨_, rfl, rfl⟩ (by decide) rfl rfl dX7_one_129 (Nat.le_of_ble_eq_true rfl)) (List.Perm.refl _) (fun r4 => ?_)
        refine z_goto C 146 dX7_one_132 (by decide) ?_
        exact z_iret C dX7_one_146 rfl rfl rfl
      refine z_iload_n C 2 dX7_one_135 rfl ?_
      refine z_iconst (v := 3) C dX7_one_136 (by decide) ?_
      refine z_icmpne C 145 dX7_one_137 (by decide) ?_ ?_
      · refine z_iload C 4 dX7_one_140 rfl ?_
        refine z_goto C 146 dX7_one_142 (by decide) ?_
        exact z_iret C dX7_one_146 rfl rfl rfl
      refine z_iconst (v := (-1)) C dX7_one_145 (by decide) ?_
      exact z_iret C dX7_one_146 rfl rfl rfl
    refine z_aload_n C 0 dX7_one_34 rfl ?_
    refine z_iload C 5 dX7_one_35 rfl ?_
    refine z_iconst (v := 4) C dX7_one_37 (by decide) ?_
    refine y_callI C (z_invV C [.int v5, .int 4] [] (ct_X7_of l G b g X u v5 4) mi_X7_of md_X7_of ms_X7_of ml_RX7_143 has_M_0 ⟨_, rfl, rfl⟩ (by decide) rfl rfl dX7_one_38 (Nat.le_of_ble_eq_true rfl)) (List.Perm.refl _) (fun r5 => ?_)
    refine z_iload_n C 1 dX7_one_41 rfl ?_
    refine z_icmpne C 49 dX7_one_42 (by decide) ?_ ?_
    · refine z_iconst (v := 1) C dX7_one_45 (by decide) ?_
      refine z_goto C 50 dX7_one_46 (by decide) ?_
      exact w_X7_one_50 C b g X  (fun u v1 v2 v3 v4 v5 => f_X7_one_22 n u v1 v2 v3 v4 v5) ih  u v1 v2 v3 v4 v5 true
    refine z_iconst (v := 0) C dX7_one_49 (by decide) ?_
    exact w_X7_one_50 C b g X  (fun u v1 v2 v3 v4 v5 => f_X7_one_22 n u v1 v2 v3 v4 v5) ih  u v1 v2 v3 v4 v5 false
noncomputable def f_X7_one (u : zM) (v1 : Int32) (v2 : Int32) : Option (Int32 × zM) := (f_X7_isOne u v1).bind fun r1 => if r1 = true then (f_X7_starts u).bind fun r2 => zlet r2 fun u3 => f_X7_one_22 FU u3 v1 v2 0 0 0 else some ((-1), u)
set_option maxHeartbeats 4000000 in
set_option maxRecDepth 100000 in
theorem ct_X7_one (l : Launch) (G : zG) (b : Nat → Nat) (g : Nat → Int64) (X : va_W) (u : zM) (v1 : Int32) (v2 : Int32) : zCt l yX7_one cX7_one 7 (some .int) 4 G [.ref (b 0), .int v1, .int v2] (fun u : zM => wM b G.2 u g ++ X) (fun r : Int32 × zM => some (.int r.1)) (fun r => r.2) u (f_X7_one u v1 v2) := by
  refine zCt.of (by decide) (Nat.le_of_ble_eq_true rfl) (fun p e s m args below meth c A C => ?_)
  refine y_lv (lv' := [(0, .ref (b 0)), (1, .int v1), (2, .int v2)]) rfl ?_
  rw [f_X7_one]
  refine z_aload_n C 0 dX7_one_0 rfl ?_
  refine z_iload_n C 1 dX7_one_1 rfl ?_
  refine y_callZ C (z_invV C [.int v1] [] (ct_X7_isOne l G b g X u v1) mi_X7_isOne md_X7_isOne ms_X7_isOne ml_RX7_203 has_M_0 ⟨_, rfl, rfl⟩ (by decide) rfl rfl dX7_one_2 (Nat.le_of_ble_eq_true rfl)) (List.Perm.refl _) (fun r1 => ?_)
  refine z_zifne C 10 dX7_one_5 (by decide) ?_ ?_
  · refine z_aload_n C 0 dX7_one_10 rfl ?_
    refine y_callVS C (z_invV C [] [] (ct_X7_starts l G b g X u ) mi_X7_starts md_X7_starts ms_X7_starts ml_RX7_191 has_M_0 ⟨_, rfl, rfl⟩ (by decide) rfl rfl dX7_one_11 (Nat.le_of_ble_eq_true rfl)) (List.Perm.refl _) (fun _ => List.Perm.refl _) (fun r2 u3 => ?_)
    refine z_iconst (v := 0) C dX7_one_14 (by decide) ?_
    refine z_istore_n C [(3, .int 0), (0, .ref (b 0)), (1, .int v1), (2, .int v2)] dX7_one_15 (by decide) rfl ?_
    refine z_iconst (v := 0) C dX7_one_16 (by decide) ?_
    refine z_istore C [(4, .int 0), (3, .int 0), (0, .ref (b 0)), (1, .int v1), (2, .int v2)] dX7_one_17 (by decide) rfl ?_
    refine z_iconst (v := 0) C dX7_one_19 (by decide) ?_
    refine z_istore C [(5, .int 0), (4, .int 0), (3, .int 0), (0, .ref (b 0)), (1, .int v1), (2, .int v2)] dX7_one_20 (by decide) rfl ?_
    refine z_loc C [(0, .ref (b 0)), (1, .int v1), (2, .int v2), (3, .int 0), (4, .int 0), (5, .int 0)] [3, 4, 5, 2, 1, 0] rfl ?_
    exact w_X7_one_22 C b g X    FU u3 v1 v2 0 0 0
  refine z_iconst (v := (-1)) C dX7_one_8 (by decide) ?_
  exact z_iret C dX7_one_9 rfl rfl rfl
noncomputable def f_X7_readBeetle_81 (u : zM) (v2 : Int32) (t0 : Int32) : Option (zM) := zlet (zU u 0 7 t0) fun u8 => (f_X7_readNumber u8 0 9).bind fun r9 => zlet r9.2 fun u10 => if z_in (v2 + 3) 61 = true then zlet (zU u10 4 (Int32.toNatClampNeg (v2 + 3)) r9.1) (fun u11 => if z_in (v2 + 4) 61 = true then zlet (zU u11 4 (Int32.toNatClampNeg (v2 + 4)) (-4)) (fun u12 => if z_in 34 61 = true then if z_in 34 61 = true then zlet (zU u12 4 (Int32.toNatClampNeg 34) ((u12 4 (Int32.toNatClampNeg 34)) + 1)) (fun u13 => some u13) else none else none) else none) else none
set_option maxHeartbeats 4000000 in
set_option maxRecDepth 100000 in
theorem w_X7_readBeetle_81 {p : Program} {l : Launch} {e : Env} {s : State} {m : MethodId} {args : Array Value} {below : List Frame} {meth : Method} {c : Code} {G : zG} {A : Nat → Prop} (C : zC p s m args meth c RX7 cX7_readBeetle 3 none G A) (b : Nat → Nat) (g : Nat → Int64) (X : va_W) : ∀ (u : zM) (v2 : Int32) (t0 : Int32), PW p l e 4 s m args below meth c G A 3 (fun u : zM => wM b G.2 u g ++ X) (fun _ : zM => none) (fun r => r) u [(0, .ref (b 0)), (2, .int v2)] 81 [.int t0, .ref (b 0)] (f_X7_readBeetle_81 u v2 t0) := by
  intro u v2 t0
  rw [f_X7_readBeetle_81]
  refine z_put C fl_RX7_57 ft_7_7 upd_M_0_7 rfl rfl (Nat.le_of_ble_eq_true rfl) dX7_readBeetle_81 (fun u8 => ?_)
  refine z_aload_n C 0 dX7_readBeetle_84 rfl ?_
  refine z_get C fl_RX7_20 has_M_0 rfl dX7_readBeetle_85 ?_
  refine z_iload_n C 1 dX7_readBeetle_88 rfl ?_
  refine z_iconst (v := 3) C dX7_readBeetle_89 (by decide) ?_
  refine z_iadd C dX7_readBeetle_90 ?_
  refine z_aload_n C 0 dX7_readBeetle_91 rfl ?_
  refine z_iconst (v := 0) C dX7_readBeetle_92 (by decide) ?_
  refine z_bipush (v := 9) C dX7_readBeetle_93 (by decide) ?_
  refine y_callIS C (z_invV C [.int 0, .int 9] [.int (v2 + 3), .ref (b 4)] (ct_X7_readNumber l G b g X u8 0 9) mi_X7_readNumber md_X7_readNumber ms_X7_readNumber ml_RX7_121 has_M_0 ⟨_, rfl, rfl⟩ (by decide) rfl rfl dX7_readBeetle_95 (Nat.le_of_ble_eq_true rfl)) (List.Perm.refl _) (fun _ => List.Perm.refl _) (fun r9 u10 => ?_)
  refine y_iast C upd_M_4 dX7_readBeetle_98 (fun u11 => ?_)
  refine z_aload_n C 0 dX7_readBeetle_99 rfl ?_
  refine z_get C fl_RX7_20 has_M_0 rfl dX7_readBeetle_100 ?_
  refine z_iload_n C 1 dX7_readBeetle_103 rfl ?_
  refine z_iconst (v := 4) C dX7_readBeetle_104 (by decide) ?_
  refine z_iadd C dX7_readBeetle_105 ?_
  refine z_bipush (v := (-4)) C dX7_readBeetle_106 (by decide) ?_
  refine y_iast C upd_M_4 dX7_readBeetle_108 (fun u12 => ?_)
  refine z_aload_n C 0 dX7_readBeetle_109 rfl ?_
  refine z_get C fl_RX7_20 has_M_0 rfl dX7_readBeetle_110 ?_
  refine z_bipush (v := 34) C dX7_readBeetle_113 (by decide) ?_
  refine z_dup2 C dX7_readBeetle_115 rfl rfl ?_
  refine y_iald C has_M_4 dX7_readBeetle_116 ?_
  refine z_iconst (v := 1) C dX7_readBeetle_117 (by decide) ?_
  refine z_iadd C dX7_readBeetle_118 ?_
  refine y_iast C upd_M_4 dX7_readBeetle_119 (fun u13 => ?_)
  exact z_vret C dX7_readBeetle_120 rfl rfl
noncomputable def f_X7_readBeetle (u : zM) (v1 : Int32) : Option (zM) := if z_in 34 61 = true then if z_in ((4 + (5 * (u 4 (Int32.toNatClampNeg 34)))) + 0) 61 = true then zlet (zU u 4 (Int32.toNatClampNeg ((4 + (5 * (u 4 (Int32.toNatClampNeg 34)))) + 0)) v1) (fun u1 => (f_X7_readNumber u1 1 9).bind fun r2 => zlet r2.2 fun u3 => if z_in ((4 + (5 * (u 4 (Int32.toNatClampNeg 34)))) + 1) 61 = true then zlet (zU u3 4 (Int32.toNatClampNeg ((4 + (5 * (u 4 (Int32.toNatClampNeg 34)))) + 1)) r2.1) (fun u4 => (f_X7_readNumber u4 0 3).bind fun r5 => zlet r5.2 fun u6 => if z_in ((4 + (5 * (u 4 (Int32.toNatClampNeg 34)))) + 2) 61 = true then zlet (zU u6 4 (Int32.toNatClampNeg ((4 + (5 * (u 4 (Int32.toNatClampNeg 34)))) + 2)) r5.1) (fun u7 => if z_in ((4 + (5 * (u 4 (Int32.toNatClampNeg 34)))) + 2) 61 = true then if (u7 4 (Int32.toNatClampNeg ((4 + (5 * (u 4 (Int32.toNatClampNeg 34)))) + 2))) ≤ (u7 0 7) then f_X7_readBeetle_81  u7 (4 + (5 * (u 4 (Int32.toNatClampNeg 34)))) (u7 0 7) else if z_in ((4 + (5 * (u 4 (Int32.toNatClampNeg 34)))) + 2) 61 = true then f_X7_readBeetle_81  u7 (4 + (5 * (u 4 (Int32.toNatClampNeg 34)))) (u7 4 (Int32.toNatClampNeg ((4 + (5 * (u 4 (Int32.toNatClampNeg 34)))) + 2))) else none else none) else none) else none) else none else none
set_option maxHeartbeats 4000000 in
set_option maxRecDepth 100000 in
theorem ct_X7_readBeetle (l : Launch) (G : zG) (b : Nat → Nat) (g : Nat → Int64) (X : va_W) (u : zM) (v1 : Int32) : zCt l yX7_readBeetle cX7_readBeetle 3 none 4 G [.ref (b 0), .int v1] (fun u : zM => wM b G.2 u g ++ X) (fun _ : zM => none) (fun r => r) u (f_X7_readBeetle u v1) := by
  refine zCt.of (by decide) (Nat.le_of_ble_eq_true rfl) (fun p e s m args below meth c A C => ?_)
  refine y_lv (lv' := [(0, .ref (b 0)), (1, .int v1)]) rfl ?_
  rw [f_X7_readBeetle]
  refine z_iconst (v := 4) C dX7_readBeetle_0 (by decide) ?_
  refine z_iconst (v := 5) C dX7_readBeetle_1 (by decide) ?_
  refine z_aload_n C 0 dX7_readBeetle_2 rfl ?_
  refine z_get C fl_RX7_20 has_M_0 rfl dX7_readBeetle_3 ?_
  refine z_bipush (v := 34) C dX7_readBeetle_6 (by decide) ?_
  refine y_iald C has_M_4 dX7_readBeetle_8 ?_
  refine z_imul C dX7_readBeetle_9 ?_
  refine z_iadd C dX7_readBeetle_10 ?_
  refine z_istore_n C [(2, .int (4 + (5 * (u 4 (Int32.toNatClampNeg 34))))), (0, .ref (b 0)), (1, .int v1)] dX7_readBeetle_11 (by decide) rfl ?_
  refine z_aload_n C 1 dX7_readBeetle_12 rfl ?_
  refine z_get C fl_RX7_20 has_M_0 rfl dX7_readBeetle_13 ?_
  refine z_iload_n C 0 dX7_readBeetle_16 rfl ?_
  refine z_iconst (v := 0) C dX7_readBeetle_17 (by decide) ?_
  refine z_iadd C dX7_readBeetle_18 ?_
  refine z_iload_n C 2 dX7_readBeetle_19 rfl ?_
  refine y_iast C upd_M_4 dX7_readBeetle_20 (fun u1 => ?_)
  refine z_aload_n C 1 dX7_readBeetle_21 rfl ?_
  refine z_get C fl_RX7_20 has_M_0 rfl dX7_readBeetle_22 ?_
  refine z_iload_n C 0 dX7_readBeetle_25 rfl ?_
  refine z_iconst (v := 1) C dX7_readBeetle_26 (by decide) ?_
  refine z_iadd C dX7_readBeetle_27 ?_
  refine z_aload_n C 1 dX7_readBeetle_28 rfl ?_
  refine z_iconst (v := 1) C dX7_readBeetle_29 (by decide) ?_
  refine z_bipush (v := 9) C dX7_readBeetle_30 (by decide) ?_
  refine y_callIS C (z_invV C [.int 1, .int 9] [.int ((4 + (5 * (u 4 (Int32.toNatClampNeg 34)))) + 1), .ref (b 4)] (ct_X7_readNumber l G b g X u1 1 9) mi_X7_readNumber md_X7_readNumber ms_X7_readNumber ml_RX7_121 has_M_0 ⟨_, rfl, rfl⟩ (by decide) rfl rfl dX7_readBeetle_32 (Nat.le_of_ble_eq_true rfl)) (List.Perm.refl _) (fun _ => List.Perm.refl _) (fun r2 u3 => ?_)
  refine y_iast C upd_M_4 dX7_readBeetle_35 (fun u4 => ?_)
  refine z_aload_n C 1 dX7_readBeetle_36 rfl ?_
  refine z_get C fl_RX7_20 has_M_0 rfl dX7_readBeetle_37 ?_
  refine z_iload_n C 0 dX7_readBeetle_40 rfl ?_
  refine z_iconst (v := 2) C dX7_readBeetle_41 (by decide) ?_
  refine z_iadd C dX7_readBeetle_42 ?_
  refine z_aload_n C 1 dX7_readBeetle_43 rfl ?_
  refine z_iconst (v := 0) C dX7_readBeetle_44 (by decide) ?_
  refine z_iconst (v := 3) C dX7_readBeetle_45 (by decide) ?_
  refine y_callIS C (z_invV C [.int 0, .int 3] [.int ((4 + (5 * (u 4 (Int32.toNatClampNeg 34)))) + 2), .ref (b 4)] (ct_X7_readNumber l G b g X u4 0 3) mi_X7_readNumber md_X7_readNumber ms_X7_readNumber ml_RX7_121 has_M_0 ⟨_, rfl, rfl⟩ (by decide) rfl rfl dX7_readBeetle_46 (Nat.le_of_ble_eq_true rfl)) (List.Perm.refl _) (fun _ => List.Perm.refl _) (fun r5 u6 => ?_)
  refine y_iast C upd_M_4 dX7_readBeetle_49 (fun u7 => ?_)
  refine z_aload_n C 1 dX7_readBeetle_50 rfl ?_
  refine z_aload_n C 1 dX7_readBeetle_51 rfl ?_
  refine z_get C fl_RX7_20 has_M_0 rfl dX7_readBeetle_52 ?_
  refine z_iload_n C 0 dX7_readBeetle_55 rfl ?_
  refine z_iconst (v := 2) C dX7_readBeetle_56 (by decide) ?_
  refine z_iadd C dX7_readBeetle_57 ?_
  refine y_iald C has_M_4 dX7_readBeetle_58 ?_
  refine z_aload_n C 1 dX7_readBeetle_59 rfl ?_
  refine z_get C fl_RX7_57 has_M_0 rfl dX7_readBeetle_60 ?_
  refine z_icmple C 77 dX7_readBeetle_63 (by decide) ?_ ?_
  · refine z_aload_n C 1 dX7_readBeetle_77 rfl ?_
    refine z_get C fl_RX7_57 has_M_0 rfl dX7_readBeetle_78 ?_
    refine z_loc C [(0, .ref (b 0)), (2, .int (4 + (5 * (u 4 (Int32.toNatClampNeg 34)))))] [1, 0] rfl ?_
    exact w_X7_readBeetle_81 C b g X     u7 (4 + (5 * (u 4 (Int32.toNatClampNeg 34)))) (u7 0 7)
  refine z_aload_n C 1 dX7_readBeetle_66 rfl ?_
  refine z_get C fl_RX7_20 has_M_0 rfl dX7_readBeetle_67 ?_
  refine z_iload_n C 0 dX7_readBeetle_70 rfl ?_
  refine z_iconst (v := 2) C dX7_readBeetle_71 (by decide) ?_
  refine z_iadd C dX7_readBeetle_72 ?_
  refine y_iald C has_M_4 dX7_readBeetle_73 ?_
  refine z_goto C 81 dX7_readBeetle_74 (by decide) ?_
  refine z_loc C [(0, .ref (b 0)), (2, .int (4 + (5 * (u 4 (Int32.toNatClampNeg 34)))))] [1, 0] rfl ?_
  exact w_X7_readBeetle_81 C b g X     u7 (4 + (5 * (u 4 (Int32.toNatClampNeg 34)))) (u7 4 (Int32.toNatClampNeg ((4 + (5 * (u 4 (Int32.toNatClampNeg 34)))) + 2)))
noncomputable def f_X7_read_217 : Nat → zM → Int32 → Int32 → Option (Int32 × zM)
  | 0, _, _, _ => none
  | n + 1, u, v7, v9 => if 61 ≤ v9 then some (((-20) - v7), u) else if z_in v9 61 = true then if z_in v9 183 = true then zlet (zU u 1 (Int32.toNatClampNeg v9) (u 11 (Int32.toNatClampNeg v9))) (fun u6 => f_X7_read_217 n u6 v7 (v9 + 1)) else none else none
set_option maxHeartbeats 4000000 in
set_option maxRecDepth 100000 in
theorem w_X7_read_217 {p : Program} {l : Launch} {e : Env} {s : State} {m : MethodId} {args : Array Value} {below : List Frame} {meth : Method} {c : Code} {G : zG} {A : Nat → Prop} (C : zC p s m args meth c RX7 cX7_read 11 (some .int) G A) (b : Nat → Nat) (g : Nat → Int64) (X : va_W) : ∀ (n : Nat) (u : zM) (v7 : Int32) (v9 : Int32), PW p l e 5 s m args below meth c G A 11 (fun u : zM => wM b G.2 u g ++ X) (fun r : Int32 × zM => some (.int r.1)) (fun r => r.2) u [(0, .ref (b 0)), (7, .int v7), (9, .int v9)] 217 [] (f_X7_read_217 n u v7 v9) := by
  intro n
  induction n with
  | zero => intros; exact z_none
  | succ n ih =>
    intro u v7 v9
    rw [f_X7_read_217]
    refine z_iload C 2 dX7_read_217 rfl ?_
    refine z_bipush (v := 61) C dX7_read_219 (by decide) ?_
    refine z_icmpge C 244 dX7_read_221 (by decide) ?_ ?_
    · refine z_bipush (v := (-20)) C dX7_read_244 (by decide) ?_
      refine z_iload C 1 dX7_read_246 rfl ?_
      refine z_isub C dX7_read_248 ?_
      exact z_iret C dX7_read_249 rfl rfl rfl
    refine z_aload_n C 0 dX7_read_224 rfl ?_
    refine z_get C fl_RX7_7 has_M_0 rfl dX7_read_225 ?_
    refine z_iload C 2 dX7_read_228 rfl ?_
    refine z_aload_n C 0 dX7_read_230 rfl ?_
    refine z_get C fl_RX7_41 has_M_0 rfl dX7_read_231 ?_
    refine z_iload C 2 dX7_read_234 rfl ?_
    refine y_iald C has_M_11 dX7_read_236 ?_
    refine y_iast C upd_M_1 dX7_read_237 (fun u6 => ?_)
    refine z_iinc C (v := (v9 + 1)) 2 [(9, .int (v9 + 1)), (0, .ref (b 0)), (7, .int v7)] dX7_read_238 rfl rfl (by decide) rfl ?_
    refine z_goto C 217 dX7_read_241 (by decide) ?_
    refine z_loc C [(0, .ref (b 0)), (7, .int v7), (9, .int (v9 + 1))] [1, 2, 0] rfl ?_
    exact ih u6 v7 (v9 + 1)
noncomputable def f_X7_read_164 (k62 : zM → Int32 → Int32 → Int32 → Int32 → Int32 → Int32 → Int32 → Option (Int32 × zM)) (u : zM) (v1 : Int32) (v2 : Int32) (v3 : Int32) (v4 : Int32) (v5 : Int32) (v6 : Int32) (v7 : Int32) : Option (Int32 × zM) := if v5 = 0 then if z_in (((40 * v1) + v3) + (3 * v7)) 160 = true then if z_in ((((40 * v1) + v3) + (3 * v7)) + 1) 160 = true then if z_in ((((40 * v1) + v3) + (3 * v7)) + 2) 160 = true then (f_X7_dab u (u 10 (Int32.toNatClampNeg (((40 * v1) + v3) + (3 * v7)))) (u 10 (Int32.toNatClampNeg ((((40 * v1) + v3) + (3 * v7)) + 1))) (u 10 (Int32.toNatClampNeg ((((40 * v1) + v3) + (3 * v7)) + 2)))).bind fun r4 => zlet r4.2 fun u5 => if 0 ≤ r4.1 then k62 u5 v1 v2 v3 v4 v5 (v6 + 1) (v7 + 1) else f_X7_read_217 FU u5 v7 0 else none else none else none else k62 u v1 v2 v3 v4 v5 v6 (v7 + 1)
set_option maxHeartbeats 4000000 in
set_option maxRecDepth 100000 in
theorem w_X7_read_164 {p : Program} {l : Launch} {e : Env} {s : State} {m : MethodId} {args : Array Value} {below : List Frame} {meth : Method} {c : Code} {G : zG} {A : Nat → Prop} (C : zC p s m args meth c RX7 cX7_read 11 (some .int) G A) (b : Nat → Nat) (g : Nat → Int64) (X : va_W) (k62 : zM → Int32 → Int32 → Int32 → Int32 → Int32 → Int32 → Int32 → Option (Int32 × zM)) (hk62 : ∀ (u : zM) (v1 : Int32) (v2 : Int32) (v3 : Int32) (v4 : Int32) (v5 : Int32) (v6 : Int32) (v7 : Int32), PW p l e 5 s m args below meth c G A 11 (fun u : zM => wM b G.2 u g ++ X) (fun r : Int32 × zM => some (.int r.1)) (fun r => r.2) u [(0, .ref (b 0)), (1, .int v1), (2, .int v2), (3, .int v3), (4, .int v4), (5, .int v5), (6, .int v6), (7, .int v7)] 62 [] (k62 u v1 v2 v3 v4 v5 v6 v7)) : ∀ (u : zM) (v1 : Int32) (v2 : Int32) (v3 : Int32) (v4 : Int32) (v5 : Int32) (v6 : Int32) (v7 : Int32), PW p l e 5 s m args below meth c G A 11 (fun u : zM => wM b G.2 u g ++ X) (fun r : Int32 × zM => some (.int r.1)) (fun r => r.2) u [(0, .ref (b 0)), (1, .int v1), (2, .int v2), (3, .int v3), (4, .int v4), (5, .int v5), (6, .int v6), (7, .int v7)] 164 [] (f_X7_read_164 k62 u v1 v2 v3 v4 v5 v6 v7) := by
  intro u v1 v2 v3 v4 v5 v6 v7
  rw [f_X7_read_164]
  refine z_iload C 5 dX7_read_164 rfl ?_
  refine z_ifne C 253 dX7_read_166 (by decide) ?_ ?_
  · refine z_bipush (v := 40) C dX7_read_169 (by decide) ?_
    refine z_iload_n C 1 dX7_read_171 rfl ?_
    refine z_imul C dX7_read_172 ?_
    refine z_iload_n C 3 dX7_read_173 rfl ?_
    refine z_iadd C dX7_read_174 ?_
    refine z_iconst (v := 3) C dX7_read_175 (by decide) ?_
    refine z_iload C 7 dX7_read_176 rfl ?_
    refine z_imul C dX7_read_178 ?_
    refine z_iadd C dX7_read_179 ?_
    refine z_istore C [(8, .int (((40 * v1) + v3) + (3 * v7))), (0, .ref (b 0)), (1, .int v1), (2, .int v2), (3, .int v3), (4, .int v4), (5, .int v5), (6, .int v6), (7, .int v7)] dX7_read_180 (by decide) rfl ?_
    refine z_aload_n C 1 dX7_read_182 rfl ?_
    refine z_aload_n C 1 dX7_read_183 rfl ?_
    refine z_get C fl_RX7_38 has_M_0 rfl dX7_read_184 ?_
    refine z_iload C 0 dX7_read_187 rfl ?_
    refine y_iald C has_M_10 dX7_read_189 ?_
    refine z_aload_n C 1 dX7_read_190 rfl ?_
    refine z_get C fl_RX7_38 has_M_0 rfl dX7_read_191 ?_
    refine z_iload C 0 dX7_read_194 rfl ?_
    refine z_iconst (v := 1) C dX7_read_196 (by decide) ?_
    refine z_iadd C dX7_read_197 ?_
    refine y_iald C has_M_10 dX7_read_198 ?_
    refine z_aload_n C 1 dX7_read_199 rfl ?_
    refine z_get C fl_RX7_38 has_M_0 rfl dX7_read_200 ?_
    refine z_iload C 0 dX7_read_203 rfl ?_
    refine z_iconst (v := 2) C dX7_read_205 (by decide) ?_
    refine z_iadd C dX7_read_206 ?_
    refine y_iald C has_M_10 dX7_read_207 ?_
    refine y_callIS C (z_invV C [.int (u 10 (Int32.toNatClampNeg (((40 * v1) + v3) + (3 * v7)))), .int (u 10 (Int32.toNatClampNeg ((((40 * v1) + v3) + (3 * v7)) + 1))), .int (u 10 (Int32.toNatClampNeg ((((40 * v1) + v3) + (3 * v7)) + 2)))] [] (ct_X7_dab l G b g X u (u 10 (Int32.toNatClampNeg (((40 * v1) + v3) + (3 * v7)))) (u 10 (Int32.toNatClampNeg ((((40 * v1) + v3) + (3 * v7)) + 1))) (u 10 (Int32.toNatClampNeg ((((40 * v1) + v3) + (3 * v7)) + 2)))) mi_X7_dab md_X7_dab ms_X7_dab ml_RX7_296 has_M_0 ⟨_, rfl, rfl⟩ (by decide) rfl rfl dX7_read_208 (Nat.le_of_ble_eq_true rfl)) (List.Perm.refl _) (fun _ => List.Perm.refl _) (fun r4 u5 => ?_)
    refine z_ifge C 250 dX7_read_211 (by decide) ?_ ?_
    · refine z_iinc C (v := (v6 + 1)) 7 [(6, .int (v6 + 1)), (8, .int (((40 * v1) + v3) + (3 * v7))), (0, .ref (b 0)), (1, .int v1), (2, .int v2), (3, .int v3), (4, .int v4), (5, .int v5), (7, .int v7)] dX7_read_250 rfl rfl (by decide) rfl ?_
      refine z_iinc C (v := (v7 + 1)) 8 [(7, .int (v7 + 1)), (6, .int (v6 + 1)), (8, .int (((40 * v1) + v3) + (3 * v7))), (0, .ref (b 0)), (1, .int v1), (2, .int v2), (3, .int v3), (4, .int v4), (5, .int v5)] dX7_read_253 rfl rfl (by decide) rfl ?_
      refine z_goto C 62 dX7_read_256 (by decide) ?_
      refine z_loc C [(0, .ref (b 0)), (1, .int v1), (2, .int v2), (3, .int v3), (4, .int v4), (5, .int v5), (6, .int (v6 + 1)), (7, .int (v7 + 1))] [3, 4, 5, 6, 7, 8, 1, 0] rfl ?_
      exact hk62 u5 v1 v2 v3 v4 v5 (v6 + 1) (v7 + 1)
    refine z_iconst (v := 0) C dX7_read_214 (by decide) ?_
    refine z_istore C [(9, .int 0), (8, .int (((40 * v1) + v3) + (3 * v7))), (0, .ref (b 0)), (1, .int v1), (2, .int v2), (3, .int v3), (4, .int v4), (5, .int v5), (6, .int v6), (7, .int v7)] dX7_read_215 (by decide) rfl ?_
    refine z_loc C [(0, .ref (b 0)), (7, .int v7), (9, .int 0)] [2, 9, 0] rfl ?_
    exact w_X7_read_217 C b g X    FU u5 v7 0
  refine z_iinc C (v := (v7 + 1)) 7 [(7, .int (v7 + 1)), (0, .ref (b 0)), (1, .int v1), (2, .int v2), (3, .int v3), (4, .int v4), (5, .int v5), (6, .int v6)] dX7_read_253 rfl rfl (by decide) rfl ?_
  refine z_goto C 62 dX7_read_256 (by decide) ?_
  refine z_loc C [(0, .ref (b 0)), (1, .int v1), (2, .int v2), (3, .int v3), (4, .int v4), (5, .int v5), (6, .int v6), (7, .int (v7 + 1))] [1, 2, 3, 4, 5, 6, 7, 0] rfl ?_
  exact hk62 u v1 v2 v3 v4 v5 v6 (v7 + 1)
noncomputable def f_X7_read_77 (k62 : zM → Int32 → Int32 → Int32 → Int32 → Int32 → Int32 → Int32 → Option (Int32 × zM)) : Nat → zM → Int32 → Int32 → Int32 → Int32 → Int32 → Int32 → Int32 → Int32 → Option (Int32 × zM)
  | 0, _, _, _, _, _, _, _, _, _ => none
  | n + 1, u, v1, v2, v3, v4, v5, v6, v7, v8 => if 3 ≤ v8 then f_X7_read_164 k62 u v1 v2 v3 v4 v5 v6 v7 else if v5 = 0 then if z_in v1 4 = true then if (u 8 (Int32.toNatClampNeg v1)) = (-4) then f_X7_read_77 k62 n u v1 v2 v3 v4 1 v6 v7 (v8 + 1) else if z_in v1 4 = true then if (u 8 (Int32.toNatClampNeg v1)) = v2 then if (lg_cmp (((Int32.toInt64 v3) + (Int32.toInt64 (3 * v7))) + (Int32.toInt64 v8)) (0 : Int64)) < 0 then f_X7_read_77 k62 n u v1 v2 v3 v4 2 v6 v7 (v8 + 1) else if z_in v1 4 = true then if (lg_cmp (((Int32.toInt64 v3) + (Int32.toInt64 (3 * v7))) + (Int32.toInt64 v8)) (Int32.toInt64 (u 9 (Int32.toNatClampNeg v1)))) < 0 then f_X7_read_77 k62 n u v1 v2 v3 v4 0 v6 v7 (v8 + 1) else f_X7_read_77 k62 n u v1 v2 v3 v4 2 v6 v7 (v8 + 1) else none else f_X7_read_77 k62 n u v1 v2 v3 v4 3 v6 v7 (v8 + 1) else none else none else f_X7_read_164 k62 u v1 v2 v3 v4 v5 v6 v7
set_option maxHeartbeats 4000000 in
set_option maxRecDepth 100000 in
theorem w_X7_read_77 {p : Program} {l : Launch} {e : Env} {s : State} {m : MethodId} {args : Array Value} {below : List Frame} {meth : Method} {c : Code} {G : zG} {A : Nat → Prop} (C : zC p s m args meth c RX7 cX7_read 11 (some .int) G A) (b : Nat → Nat) (g : Nat → Int64) (X : va_W) (k62 : zM → Int32 → Int32 → Int32 → Int32 → Int32 → Int32 → Int32 → Option (Int32 × zM)) (hk62 : ∀ (u : zM) (v1 : Int32) (v2 : Int32) (v3 : Int32) (v4 : Int32) (v5 : Int32) (v6 : Int32) (v7 : Int32), PW p l e 5 s m args below meth c G A 11 (fun u : zM => wM b G.2 u g ++ X) (fun r : Int32 × zM => some (.int r.1)) (fun r => r.2) u [(0, .ref (b 0)), (1, .int v1), (2, .int v2), (3, .int v3), (4, .int v4), (5, .int v5), (6, .int v6), (7, .int v7)] 62 [] (k62 u v1 v2 v3 v4 v5 v6 v7)) : ∀ (n : Nat) (u : zM) (v1 : Int32) (v2 : Int32) (v3 : Int32) (v4 : Int32) (v5 : Int32) (v6 : Int32) (v7 : Int32) (v8 : Int32), PW p l e 5 s m args below meth c G A 11 (fun u : zM => wM b G.2 u g ++ X) (fun r : Int32 × zM => some (.int r.1)) (fun r => r.2) u [(0, .ref (b 0)), (1, .int v1), (2, .int v2), (3, .int v3), (4, .int v4), (5, .int v5), (6, .int v6), (7, .int v7), (8, .int v8)] 77 [] (f_X7_read_77 k62 n u v1 v2 v3 v4 v5 v6 v7 v8) := by
  intro n
  induction n with
  | zero => intros; exact z_none
  | succ n ih =>
    intro u v1 v2 v3 v4 v5 v6 v7 v8
    rw [f_X7_read_77]
    refine z_iload C 8 dX7_read_77 rfl ?_
    refine z_iconst (v := 3) C dX7_read_79 (by decide) ?_
    refine z_icmpge C 164 dX7_read_80 (by decide) ?_ ?_
    · refine z_loc C [(0, .ref (b 0)), (1, .int v1), (2, .int v2), (3, .int v3), (4, .int v4), (5, .int v5), (6, .int v6), (7, .int v7)] [0, 1, 2, 3, 4, 5, 6, 7] rfl ?_
      exact w_X7_read_164 C b g X  k62 hk62  u v1 v2 v3 v4 v5 v6 v7
    refine z_iload C 5 dX7_read_83 rfl ?_
    refine z_ifne C 164 dX7_read_85 (by decide) ?_ ?_
    · refine z_iload_n C 3 dX7_read_88 rfl ?_
      refine z_i2l C dX7_read_89 ?_
      refine z_iconst (v := 3) C dX7_read_90 (by decide) ?_
      refine z_iload C 7 dX7_read_91 rfl ?_
      refine z_imul C dX7_read_93 ?_
      refine z_i2l C dX7_read_94 ?_
      refine z_ladd C dX7_read_95 ?_
      refine z_iload C 8 dX7_read_96 rfl ?_
      refine z_i2l C dX7_read_98 ?_
      refine z_ladd C dX7_read_99 ?_
      refine z_lstore C [(9, .long (((Int32.toInt64 v3) + (Int32.toInt64 (3 * v7))) + (Int32.toInt64 v8))), (0, .ref (b 0)), (1, .int v1), (2, .int v2), (3, .int v3), (4, .int v4), (5, .int v5), (6, .int v6), (7, .int v7), (8, .int v8)] dX7_read_100 (by decide) rfl ?_
      refine z_aload_n C 1 dX7_read_102 rfl ?_
      refine z_get C fl_RX7_32 has_M_0 rfl dX7_read_103 ?_
      refine z_iload_n C 2 dX7_read_106 rfl ?_
      refine y_iald C has_M_8 dX7_read_107 ?_
      refine z_bipush (v := (-4)) C dX7_read_108 (by decide) ?_
      refine z_icmpne C 117 dX7_read_110 (by decide) ?_ ?_
      · refine z_iconst (v := 1) C dX7_read_113 (by decide) ?_
        refine z_goto C 156 dX7_read_114 (by decide) ?_
        refine z_istore C [(5, .int 1), (9, .long (((Int32.toInt64 v3) + (Int32.toInt64 (3 * v7))) + (Int32.toInt64 v8))), (0, .ref (b 0)), (1, .int v1), (2, .int v2), (3, .int v3), (4, .int v4), (6, .int v6), (7, .int v7), (8, .int v8)] dX7_read_156 (by decide) rfl ?_
        refine z_iinc C (v := (v8 + 1)) 9 [(8, .int (v8 + 1)), (5, .int 1), (9, .long (((Int32.toInt64 v3) + (Int32.toInt64 (3 * v7))) + (Int32.toInt64 v8))), (0, .ref (b 0)), (1, .int v1), (2, .int v2), (3, .int v3), (4, .int v4), (6, .int v6), (7, .int v7)] dX7_read_158 rfl rfl (by decide) rfl ?_
        refine z_goto C 77 dX7_read_161 (by decide) ?_
        refine z_loc C [(0, .ref (b 0)), (1, .int v1), (2, .int v2), (3, .int v3), (4, .int v4), (5, .int 1), (6, .int v6), (7, .int v7), (8, .int (v8 + 1))] [3, 4, 5, 6, 7, 1, 8, 9, 0] rfl ?_
        exact ih u v1 v2 v3 v4 1 v6 v7 (v8 + 1)
      refine z_aload_n C 1 dX7_read_117 rfl ?_
      refine z_get C fl_RX7_32 has_M_0 rfl dX7_read_118 ?_
      refine z_iload_n C 2 dX7_read_121 rfl ?_
      refine y_iald C has_M_8 dX7_read_122 ?_
      refine z_iload_n C 3 dX7_read_123 rfl ?_
      refine z_icmpeq C 131 dX7_read_124 (by decide) ?_ ?_
      · refine z_lload C 0 dX7_read_131 rfl ?_
        refine z_lconst (v := 0) C dX7_read_133 (by decide) ?_
        refine z_lcmp C dX7_read_134 ?_
        refine z_iflt C 151 dX7_read_135 (by decide) ?_ ?_
        · refine z_iconst (v := 2) C dX7_read_151 (by decide) ?_
          refine z_goto C 156 dX7_read_152 (by decide) ?_
          refine z_istore C [(5, .int 2), (9, .long (((Int32.toInt64 v3) + (Int32.toInt64 (3 * v7))) + (Int32.toInt64 v8))), (0, .ref (b 0)), (1, .int v1), (2, .int v2), (3, .int v3), (4, .int v4), (6, .int v6), (7, .int v7), (8, .int v8)] dX7_read_156 (by decide) rfl ?_
          refine z_iinc C (v := (v8 + 1)) 9 [(8, .int (v8 + 1)), (5, .int 2), (9, .long (((Int32.toInt64 v3) + (Int32.toInt64 (3 * v7))) + (Int32.toInt64 v8))), (0, .ref (b 0)), (1, .int v1), (2, .int v2), (3, .int v3), (4, .int v4), (6, .int v6), (7, .int v7)] dX7_read_158 rfl rfl (by decide) rfl ?_
          refine z_goto C 77 dX7_read_161 (by decide) ?_
          refine z_loc C [(0, .ref (b 0)), (1, .int v1), (2, .int v2), (3, .int v3), (4, .int v4), (5, .int 2), (6, .int v6), (7, .int v7), (8, .int (v8 + 1))] [3, 4, 5, 6, 7, 1, 8, 9, 0] rfl ?_
          exact ih u v1 v2 v3 v4 2 v6 v7 (v8 + 1)
        refine z_lload C 0 dX7_read_138 rfl ?_
        refine z_aload_n C 1 dX7_read_140 rfl ?_
        refine z_get C fl_RX7_35 has_M_0 rfl dX7_read_141 ?_
        refine z_iload_n C 2 dX7_read_144 rfl ?_
        refine y_iald C has_M_9 dX7_read_145 ?_
        refine z_i2l C dX7_read_146 ?_
        refine z_lcmp C dX7_read_147 ?_
        refine z_iflt C 155 dX7_read_148 (by decide) ?_ ?_
        · refine z_iconst (v := 0) C dX7_read_155 (by decide) ?_
          refine z_istore C [(5, .int 0), (9, .long (((Int32.toInt64 v3) + (Int32.toInt64 (3 * v7))) + (Int32.toInt64 v8))), (0, .ref (b 0)), (1, .int v1), (2, .int v2), (3, .int v3), (4, .int v4), (6, .int v6), (7, .int v7), (8, .int v8)] dX7_read_156 (by decide) rfl ?_
          refine z_iinc C (v := (v8 + 1)) 9 [(8, .int (v8 + 1)), (5, .int 0), (9, .long (((Int32.toInt64 v3) + (Int32.toInt64 (3 * v7))) + (Int32.toInt64 v8))), (0, .ref (b 0)), (1, .int v1), (2, .int v2), (3, .int v3), (4, .int v4), (6, .int v6), (7, .int v7)] dX7_read_158 rfl rfl (by decide) rfl ?_
          refine z_goto C 77 dX7_read_161 (by decide) ?_
          refine z_loc C [(0, .ref (b 0)), (1, .int v1), (2, .int v2), (3, .int v3), (4, .int v4), (5, .int 0), (6, .int v6), (7, .int v7), (8, .int (v8 + 1))] [3, 4, 5, 6, 7, 1, 8, 9, 0] rfl ?_
          exact ih u v1 v2 v3 v4 0 v6 v7 (v8 + 1)
        refine z_iconst (v := 2) C dX7_read_151 (by decide) ?_
        refine z_goto C 156 dX7_read_152 (by decide) ?_
        refine z_istore C [(5, .int 2), (9, .long (((Int32.toInt64 v3) + (Int32.toInt64 (3 * v7))) + (Int32.toInt64 v8))), (0, .ref (b 0)), (1, .int v1), (2, .int v2), (3, .int v3), (4, .int v4), (6, .int v6), (7, .int v7), (8, .int v8)] dX7_read_156 (by decide) rfl ?_
        refine z_iinc C (v := (v8 + 1)) 9 [(8, .int (v8 + 1)), (5, .int 2), (9, .long (((Int32.toInt64 v3) + (Int32.toInt64 (3 * v7))) + (Int32.toInt64 v8))), (0, .ref (b 0)), (1, .int v1), (2, .int v2), (3, .int v3), (4, .int v4), (6, .int v6), (7, .int v7)] dX7_read_158 rfl rfl (by decide) rfl ?_
        refine z_goto C 77 dX7_read_161 (by decide) ?_
        refine z_loc C [(0, .ref (b 0)), (1, .int v1), (2, .int v2), (3, .int v3), (4, .int v4), (5, .int 2), (6, .int v6), (7, .int v7), (8, .int (v8 + 1))] [3, 4, 5, 6, 7, 1, 8, 9, 0] rfl ?_
        exact ih u v1 v2 v3 v4 2 v6 v7 (v8 + 1)
      refine z_iconst (v := 3) C dX7_read_127 (by decide) ?_
      refine z_goto C 156 dX7_read_128 (by decide) ?_
      refine z_istore C [(5, .int 3), (9, .long (((Int32.toInt64 v3) + (Int32.toInt64 (3 * v7))) + (Int32.toInt64 v8))), (0, .ref (b 0)), (1, .int v1), (2, .int v2), (3, .int v3), (4, .int v4), (6, .int v6), (7, .int v7), (8, .int v8)] dX7_read_156 (by decide) rfl ?_
      refine z_iinc C (v := (v8 + 1)) 9 [(8, .int (v8 + 1)), (5, .int 3), (9, .long (((Int32.toInt64 v3) + (Int32.toInt64 (3 * v7))) + (Int32.toInt64 v8))), (0, .ref (b 0)), (1, .int v1), (2, .int v2), (3, .int v3), (4, .int v4), (6, .int v6), (7, .int v7)] dX7_read_158 rfl rfl (by decide) rfl ?_
      refine z_goto C 77 dX7_read_161 (by decide) ?_
      refine z_loc C [(0, .ref (b 0)), (1, .int v1), (2, .int v2), (3, .int v3), (4, .int v4), (5, .int 3), (6, .int v6), (7, .int v7), (8, .int (v8 + 1))] [3, 4, 5, 6, 7, 1, 8, 9, 0] rfl ?_
      exact ih u v1 v2 v3 v4 3 v6 v7 (v8 + 1)
    refine z_loc C [(0, .ref (b 0)), (1, .int v1), (2, .int v2), (3, .int v3), (4, .int v4), (5, .int v5), (6, .int v6), (7, .int v7)] [0, 1, 2, 3, 4, 5, 6, 7] rfl ?_
    exact w_X7_read_164 C b g X  k62 hk62  u v1 v2 v3 v4 v5 v6 v7
noncomputable def f_X7_read_62 : Nat → zM → Int32 → Int32 → Int32 → Int32 → Int32 → Int32 → Int32 → Option (Int32 × zM)
  | 0, _, _, _, _, _, _, _, _ => none
  | n + 1, u, v1, v2, v3, v4, v5, v6, v7 => if v4 ≤ v7 then zlet (zU u 0 27 v5) fun u3 => some (v6, u3) else if v5 = 0 then f_X7_read_77 (fun u v1 v2 v3 v4 v5 v6 v7 => f_X7_read_62 n u v1 v2 v3 v4 v5 v6 v7) FU u v1 v2 v3 v4 v5 v6 v7 0 else zlet (zU u 0 27 v5) fun u7 => some (v6, u7)
set_option maxHeartbeats 4000000 in
set_option maxRecDepth 100000 in
theorem w_X7_read_62 {p : Program} {l : Launch} {e : Env} {s : State} {m : MethodId} {args : Array Value} {below : List Frame} {meth : Method} {c : Code} {G : zG} {A : Nat → Prop} (C : zC p s m args meth c RX7 cX7_read 11 (some .int) G A) (b : Nat → Nat) (g : Nat → Int64) (X : va_W) : ∀ (n : Nat) (u : zM) (v1 : Int32) (v2 : Int32) (v3 : Int32) (v4 : Int32) (v5 : Int32) (v6 : Int32) (v7 : Int32), PW p l e 5 s m args below meth c G A 11 (fun u : zM => wM b G.2 u g ++ X) (fun r : Int32 × zM => some (.int r.1)) (fun r => r.2) u [(0, .ref (b 0)), (1, .int v1), (2, .int v2), (3, .int v3), (4, .int v4), (5, .int v5), (6, .int v6), (7, .int v7)] 62 [] (f_X7_read_62 n u v1 v2 v3 v4 v5 v6 v7) := by
  intro n
  induction n with
  | zero => intros; exact z_none
  | succ n ih =>
    intro u v1 v2 v3 v4 v5 v6 v7
    rw [f_X7_read_62]
    refine z_iload C 7 dX7_read_62 rfl ?_
    refine z_iload C 4 dX7_read_64 rfl ?_
    refine z_icmpge C 259 dX7_read_66 (by decide) ?_ ?_
    · refine z_aload_n C 0 dX7_read_259 rfl ?_
      refine z_iload C 5 dX7_read_260 rfl ?_
      refine z_put C fl_RX7_300 ft_7_27 upd_M_0_27 rfl rfl (Nat.le_of_ble_eq_true rfl) dX7_read_262 (fun u3 => ?_)
      refine z_iload C 6 dX7_read_265 rfl ?_
      exact z_iret C dX7_read_267 rfl rfl rfl
    refine z_iload C 5 dX7_read_69 rfl ?_
    refine z_ifne C 259 dX7_read_71 (by decide) ?_ ?_
    · refine z_iconst (v := 0) C dX7_read_74 (by decide) ?_
      refine z_istore C [(8, .int 0), (0, .ref (b 0)), (1, .int v1), (2, .int v2), (3, .int v3), (4, .int v4), (5, .int v5), (6, .int v6), (7, .int v7)] dX7_read_75 (by decide) rfl ?_
      refine z_loc C [(0, .ref (b 0)), (1, .int v1), (2, .int v2), (3, .int v3), (4, .int v4), (5, .int v5), (6, .int v6), (7, .int v7), (8, .int 0)] [1, 2, 3, 4, 5, 6, 7, 8, 0] rfl ?_
      exact w_X7_read_77 C b g X  (fun u v1 v2 v3 v4 v5 v6 v7 => f_X7_read_62 n u v1 v2 v3 v4 v5 v6 v7) ih FU u v1 v2 v3 v4 v5 v6 v7 0
    refine z_aload_n C 0 dX7_read_259 rfl ?_
    refine z_iload C 5 dX7_read_260 rfl ?_
    refine z_put C fl_RX7_300 ft_7_27 upd_M_0_27 rfl rfl (Nat.le_of_ble_eq_true rfl) dX7_read_262 (fun u7 => ?_)
    refine z_iload C 6 dX7_read_265 rfl ?_
    exact z_iret C dX7_read_267 rfl rfl rfl
noncomputable def f_X7_read_26 : Nat → zM → Int32 → Int32 → Int32 → Int32 → Int32 → Option (Int32 × zM)
  | 0, _, _, _, _, _, _ => none
  | n + 1, u, v1, v2, v3, v4, v5 => if 61 ≤ v5 then f_X7_read_62 FU u v1 v2 v3 v4 0 0 0 else if z_in v5 183 = true then if z_in v5 61 = true then zlet (zU u 11 (Int32.toNatClampNeg v5) (u 1 (Int32.toNatClampNeg v5))) (fun u8 => f_X7_read_26 n u8 v1 v2 v3 v4 (v5 + 1)) else none else none
set_option maxHeartbeats 4000000 in
set_option maxRecDepth 100000 in
theorem w_X7_read_26 {p : Program} {l : Launch} {e : Env} {s : State} {m : MethodId} {args : Array Value} {below : List Frame} {meth : Method} {c : Code} {G : zG} {A : Nat → Prop} (C : zC p s m args meth c RX7 cX7_read 11 (some .int) G A) (b : Nat → Nat) (g : Nat → Int64) (X : va_W) : ∀ (n : Nat) (u : zM) (v1 : Int32) (v2 : Int32) (v3 : Int32) (v4 : Int32) (v5 : Int32), PW p l e 5 s m args below meth c G A 11 (fun u : zM => wM b G.2 u g ++ X) (fun r : Int32 × zM => some (.int r.1)) (fun r => r.2) u [(0, .ref (b 0)), (1, .int v1), (2, .int v2), (3, .int v3), (4, .int v4), (5, .int v5)] 26 [] (f_X7_read_26 n u v1 v2 v3 v4 v5) := by
  intro n
  induction n with
  | zero => intros; exact z_none
  | succ n ih =>
    intro u v1 v2 v3 v4 v5
    rw [f_X7_read_26]
    refine z_iload C 5 dX7_read_26 rfl ?_
    refine z_bipush (v := 61) C dX7_read_28 (by decide) ?_
    refine z_icmpge C 53 dX7_read_30 (by decide) ?_ ?_
    · refine z_iconst (v := 0) C dX7_read_53 (by decide) ?_
      refine z_istore C [(5, .int 0), (0, .ref (b 0)), (1, .int v1), (2, .int v2), (3, .int v3), (4, .int v4)] dX7_read_54 (by decide) rfl ?_
      refine z_iconst (v := 0) C dX7_read_56 (by decide) ?_
      refine z_istore C [(6, .int 0), (5, .int 0), (0, .ref (b 0)), (1, .int v1), (2, .int v2), (3, .int v3), (4, .int v4)] dX7_read_57 (by decide) rfl ?_
      refine z_iconst (v := 0) C dX7_read_59 (by decide) ?_
      refine z_istore C [(7, .int 0), (6, .int 0), (5, .int 0), (0, .ref (b 0)), (1, .int v1), (2, .int v2), (3, .int v3), (4, .int v4)] dX7_read_60 (by decide) rfl ?_
      refine z_loc C [(0, .ref (b 0)), (1, .int v1), (2, .int v2), (3, .int v3), (4, .int v4), (5, .int 0), (6, .int 0), (7, .int 0)] [3, 4, 5, 6, 7, 2, 1, 0] rfl ?_
      exact w_X7_read_62 C b g X    FU u v1 v2 v3 v4 0 0 0
    refine z_aload_n C 0 dX7_read_33 rfl ?_
    refine z_get C fl_RX7_41 has_M_0 rfl dX7_read_34 ?_
    refine z_iload C 5 dX7_read_37 rfl ?_
    refine z_aload_n C 0 dX7_read_39 rfl ?_
    refine z_get C fl_RX7_7 has_M_0 rfl dX7_read_40 ?_
    refine z_iload C 5 dX7_read_43 rfl ?_
    refine y_iald C has_M_1 dX7_read_45 ?_
    refine y_iast C upd_M_11 dX7_read_46 (fun u8 => ?_)
    refine z_iinc C (v := (v5 + 1)) 5 [(5, .int (v5 + 1)), (0, .ref (b 0)), (1, .int v1), (2, .int v2), (3, .int v3), (4, .int v4)] dX7_read_47 rfl rfl (by decide) rfl ?_
    refine z_goto C 26 dX7_read_50 (by decide) ?_
    refine z_loc C [(0, .ref (b 0)), (1, .int v1), (2, .int v2), (3, .int v3), (4, .int v4), (5, .int (v5 + 1))] [1, 2, 3, 4, 5, 0] rfl ?_
    exact ih u8 v1 v2 v3 v4 (v5 + 1)
noncomputable def f_X7_read (u : zM) (v1 : Int32) (v2 : Int32) (v3 : Int32) (v4 : Int32) : Option (Int32 × zM) := (f_X7_isSheet v1 v2).bind fun r1 => if r1 = true then (f_X7_in (Int32.toInt64 v4) (0 : Int64) (13 : Int64)).bind fun r2 => if r2 = true then f_X7_read_26 FU u v1 v2 v3 v4 0 else some ((-1), u) else some ((-1), u)
set_option maxHeartbeats 4000000 in
set_option maxRecDepth 100000 in
theorem ct_X7_read (l : Launch) (G : zG) (b : Nat → Nat) (g : Nat → Int64) (X : va_W) (u : zM) (v1 : Int32) (v2 : Int32) (v3 : Int32) (v4 : Int32) : zCt l yX7_read cX7_read 11 (some .int) 5 G [.ref (b 0), .int v1, .int v2, .int v3, .int v4] (fun u : zM => wM b G.2 u g ++ X) (fun r : Int32 × zM => some (.int r.1)) (fun r => r.2) u (f_X7_read u v1 v2 v3 v4) := by
  refine zCt.of (by decide) (Nat.le_of_ble_eq_true rfl) (fun p e s m args below meth c A C => ?_)
  refine y_lv (lv' := [(0, .ref (b 0)), (1, .int v1), (2, .int v2), (3, .int v3), (4, .int v4)]) rfl ?_
  rw [f_X7_read]
  refine z_iload_n C 1 dX7_read_0 rfl ?_
  refine z_iload_n C 2 dX7_read_1 rfl ?_
  refine y_callZ C (z_invS C [.int v1, .int v2] [] (ct_X7_isSheet l G ((fun u : zM => wM b G.2 u g ++ X) u) v1 v2) mi_X7_isSheet mt_X7_isSheet ml_RX7_291 (by decide) rfl rfl dX7_read_2 (Nat.le_of_ble_eq_true rfl)) (List.Perm.refl _) (fun r1 => ?_)
  refine z_zifeq C 21 dX7_read_5 (by decide) ?_ ?_
  · refine z_iload C 4 dX7_read_8 rfl ?_
    refine z_i2l C dX7_read_10 ?_
    refine z_lconst (v := 0) C dX7_read_11 (by decide) ?_
    refine z_ldc2 C kc_RX7_294 dX7_read_12 ?_
    refine y_callZ C (z_invS C [.long (Int32.toInt64 v4), .long (0 : Int64), .long (13 : Int64)] [] (ct_X7_in l G ((fun u : zM => wM b G.2 u g ++ X) u) (Int32.toInt64 v4) (0 : Int64) (13 : Int64)) mi_X7_in mt_X7_in ml_RX7_65 (by decide) rfl rfl dX7_read_15 (Nat.le_of_ble_eq_true rfl)) (List.Perm.refl _) (fun r2 => ?_)
    refine z_zifne C 23 dX7_read_18 (by decide) ?_ ?_
    · refine z_iconst (v := 0) C dX7_read_23 (by decide) ?_
      refine z_istore C [(5, .int 0), (0, .ref (b 0)), (1, .int v1), (2, .int v2), (3, .int v3), (4, .int v4)] dX7_read_24 (by decide) rfl ?_
      refine z_loc C [(0, .ref (b 0)), (1, .int v1), (2, .int v2), (3, .int v3), (4, .int v4), (5, .int 0)] [1, 2, 3, 4, 5, 0] rfl ?_
      exact w_X7_read_26 C b g X    FU u v1 v2 v3 v4 0
    refine z_iconst (v := (-1)) C dX7_read_21 (by decide) ?_
    exact z_iret C dX7_read_22 rfl rfl rfl
  refine z_iconst (v := (-1)) C dX7_read_21 (by decide) ?_
  exact z_iret C dX7_read_22 rfl rfl rfl
noncomputable def f_X7_readLineOf_81 (u : zM) (v2 : Int32) (t0 : Bool) : Option (zM) := (f_X7_needs u (zb t0) 4).bind fun r9 => zlet r9 fun u10 => zlet (zU u10 0 6 ((u10 0 6) ||| (1 <<< ((v2 : Int32) &&& 31)))) fun u11 => (f_X7_takes u11).bind fun r12 => zlet r12 fun u13 => (f_X7_readNumber u13 0 9).bind fun r14 => zlet r14.2 fun u15 => if z_in (35 + v2) 61 = true then zlet (zU u15 4 (Int32.toNatClampNeg (35 + v2)) r14.1) (fun u16 => some u16) else none
set_option maxHeartbeats 4000000 in
set_option maxRecDepth 100000 in
theorem w_X7_readLineOf_81 {p : Program} {l : Launch} {e : Env} {s : State} {m : MethodId} {args : Array Value} {below : List Frame} {meth : Method} {c : Code} {G : zG} {A : Nat → Prop} (C : zC p s m args meth c RX7 cX7_readLineOf 3 none G A) (b : Nat → Nat) (g : Nat → Int64) (X : va_W) : ∀ (u : zM) (v2 : Int32) (t0 : Bool), PW p l e 5 s m args below meth c G A 3 (fun u : zM => wM b G.2 u g ++ X) (fun _ : zM => none) (fun r => r) u [(0, .ref (b 0)), (2, .int v2)] 81 [.int (zb t0), .ref (b 0)] (f_X7_readLineOf_81 u v2 t0) := by
  intro u v2 t0
  rw [f_X7_readLineOf_81]
  refine z_iconst (v := 4) C dX7_readLineOf_81 (by decide) ?_
  refine y_callVS C (z_invV C [.int (zb t0), .int 4] [] (ct_X7_needs l G b g X u (zb t0) 4) mi_X7_needs md_X7_needs ms_X7_needs ml_RX7_110 has_M_0 ⟨_, rfl, rfl⟩ (by decide) rfl rfl dX7_readLineOf_82 (Nat.le_of_ble_eq_true rfl)) (List.Perm.refl _) (fun _ => List.Perm.refl _) (fun r9 u10 => ?_)
  refine z_aload_n C 0 dX7_readLineOf_85 rfl ?_
  refine z_dup C dX7_readLineOf_86 rfl ?_
  refine z_get C fl_RX7_54 has_M_0 rfl dX7_readLineOf_87 ?_
  refine z_iconst (v := 1) C dX7_readLineOf_90 (by decide) ?_
  refine z_iload_n C 1 dX7_readLineOf_91 rfl ?_
  refine z_ishl C dX7_readLineOf_92 ?_
  refine z_ior C dX7_readLineOf_93 ?_
  refine z_put C fl_RX7_54 ft_7_6 upd_M_0_6 rfl rfl (Nat.le_of_ble_eq_true rfl) dX7_readLineOf_94 (fun u11 => ?_)
  refine z_aload_n C 0 dX7_readLineOf_97 rfl ?_
  refine y_callVS C (z_invV C [] [] (ct_X7_takes l G b g X u11 ) mi_X7_takes md_X7_takes ms_X7_takes ml_RX7_118 has_M_0 ⟨_, rfl, rfl⟩ (by decide) rfl rfl dX7_readLineOf_98 (Nat.le_of_ble_eq_true rfl)) (List.Perm.refl _) (fun _ => List.Perm.refl _) (fun r12 u13 => ?_)
  refine z_aload_n C 0 dX7_readLineOf_101 rfl ?_
  refine z_get C fl_RX7_20 has_M_0 rfl dX7_readLineOf_102 ?_
  refine z_bipush (v := 35) C dX7_readLineOf_105 (by decide) ?_
  refine z_iload_n C 1 dX7_readLineOf_107 rfl ?_
  refine z_iadd C dX7_readLineOf_108 ?_
  refine z_aload_n C 0 dX7_readLineOf_109 rfl ?_
  refine z_iconst (v := 0) C dX7_readLineOf_110 (by decide) ?_
  refine z_bipush (v := 9) C dX7_readLineOf_111 (by decide) ?_
  refine y_callIS C (z_invV C [.int 0, .int 9] [.int (35 + v2), .ref (b 4)] (ct_X7_readNumber l G b g X u13 0 9) mi_X7_readNumber md_X7_readNumber ms_X7_readNumber ml_RX7_121 has_M_0 ⟨_, rfl, rfl⟩ (by decide) rfl rfl dX7_readLineOf_113 (Nat.le_of_ble_eq_true rfl)) (List.Perm.refl _) (fun _ => List.Perm.refl _) (fun r14 u15 => ?_)
  refine y_iast C upd_M_4 dX7_readLineOf_116 (fun u16 => ?_)
  refine z_goto C 125 dX7_readLineOf_117 (by decide) ?_
  exact z_vret C dX7_readLineOf_125 rfl rfl
noncomputable def f_X7_readLineOf (u : zM) (v1 : Int32) : Option (zM) := if v1 = 4 then (f_X7_readNumber u 0 9).bind fun r2 => zlet r2.2 fun u3 => if z_in (u 0 5) 61 = true then zlet (zU u3 4 (Int32.toNatClampNeg (u 0 5)) r2.1) (fun u4 => zlet (zU u4 0 5 ((u4 0 5) + 1)) fun u5 => some u5) else none else if v1 = 5 then (f_X7_looked u 0 5).bind fun r7 => zlet r7.2 fun u8 => if (((u8 0 6) >>> ((r7.1 : Int32) &&& 31)) &&& 1) = 0 then f_X7_readLineOf_81  u8 r7.1 true else f_X7_readLineOf_81  u8 r7.1 false else (f_X7_readBeetle u v1).bind fun r19 => zlet r19 fun u20 => some u20
set_option maxHeartbeats 4000000 in
set_option maxRecDepth 100000 in
theorem ct_X7_readLineOf (l : Launch) (G : zG) (b : Nat → Nat) (g : Nat → Int64) (X : va_W) (u : zM) (v1 : Int32) : zCt l yX7_readLineOf cX7_readLineOf 3 none 5 G [.ref (b 0), .int v1] (fun u : zM => wM b G.2 u g ++ X) (fun _ : zM => none) (fun r => r) u (f_X7_readLineOf u v1) := by
  refine zCt.of (by decide) (Nat.le_of_ble_eq_true rfl) (fun p e s m args below meth c A C => ?_)
  refine y_lv (lv' := [(0, .ref (b 0)), (1, .int v1)]) rfl ?_
  rw [f_X7_readLineOf]
  refine z_iconst (v := 0) C dX7_readLineOf_0 (by decide) ?_
  refine z_istore_n C [(2, .int 0), (0, .ref (b 0)), (1, .int v1)] dX7_readLineOf_1 (by decide) rfl ?_
  refine z_iload_n C 2 dX7_readLineOf_2 rfl ?_
  refine z_ite (fun h1 => ?_) (fun h1 => ?_)
  · refine z_lookup C 28 dX7_readLineOf_3 (by decide) (by rw [h1]) (by decide) ?_
    refine z_aload_n C 1 dX7_readLineOf_28 rfl ?_
    refine z_get C fl_RX7_20 has_M_0 rfl dX7_readLineOf_29 ?_
    refine z_aload_n C 1 dX7_readLineOf_32 rfl ?_
    refine z_get C fl_RX7_50 has_M_0 rfl dX7_readLineOf_33 ?_
    refine z_aload_n C 1 dX7_readLineOf_36 rfl ?_
    refine z_iconst (v := 0) C dX7_readLineOf_37 (by decide) ?_
    refine z_bipush (v := 9) C dX7_readLineOf_38 (by decide) ?_
    refine y_callIS C (z_invV C [.int 0, .int 9] [.int (u 0 5), .ref (b 4)] (ct_X7_readNumber l G b g X u 0 9) mi_X7_readNumber md_X7_readNumber ms_X7_readNumber ml_RX7_121 has_M_0 ⟨_, rfl, rfl⟩ (by decide) rfl rfl dX7_readLineOf_40 (Nat.le_of_ble_eq_true rfl)) (List.Perm.refl _) (fun _ => List.Perm.refl _) (fun r2 u3 => ?_)
    refine y_iast C upd_M_4 dX7_readLineOf_43 (fun u4 => ?_)
    refine z_aload_n C 1 dX7_readLineOf_44 rfl ?_
    refine z_dup C dX7_readLineOf_45 rfl ?_
    refine z_get C fl_RX7_50 has_M_0 rfl dX7_readLineOf_46 ?_
    refine z_iconst (v := 1) C dX7_readLineOf_49 (by decide) ?_
    refine z_iadd C dX7_readLineOf_50 ?_
    refine z_put C fl_RX7_50 ft_7_5 upd_M_0_5 rfl rfl (Nat.le_of_ble_eq_true rfl) dX7_readLineOf_51 (fun u5 => ?_)
    refine z_goto C 125 dX7_readLineOf_54 (by decide) ?_
    exact z_vret C dX7_readLineOf_125 rfl rfl
  refine z_ite (fun h6 => ?_) (fun h6 => ?_)
  · refine z_lookup C 57 dX7_readLineOf_3 (by decide) (by rw [h6]) (by decide) ?_
    refine z_aload_n C 1 dX7_readLineOf_57 rfl ?_
    refine z_iconst (v := 0) C dX7_readLineOf_58 (by decide) ?_
    refine z_iconst (v := 5) C dX7_readLineOf_59 (by decide) ?_
    refine y_callIS C (z_invV C [.int 0, .int 5] [] (ct_X7_looked l G b g X u 0 5) mi_X7_looked md_X7_looked ms_X7_looked ml_RX7_114 has_M_0 ⟨_, rfl, rfl⟩ (by decide) rfl rfl dX7_readLineOf_60 (Nat.le_of_ble_eq_true rfl)) (List.Perm.refl _) (fun _ => List.Perm.refl _) (fun r7 u8 => ?_)
    refine z_istore_n C [(2, .int r7.1), (0, .ref (b 0)), (1, .int v1)] dX7_readLineOf_63 (by decide) rfl ?_
    refine z_aload_n C 1 dX7_readLineOf_64 rfl ?_
    refine z_aload_n C 1 dX7_readLineOf_65 rfl ?_
    refine z_get C fl_RX7_54 has_M_0 rfl dX7_readLineOf_66 ?_
    refine z_iload_n C 0 dX7_readLineOf_69 rfl ?_
    refine z_ishr C dX7_readLineOf_70 ?_
    refine z_iconst (v := 1) C dX7_readLineOf_71 (by decide) ?_
    refine z_iand C dX7_readLineOf_72 ?_
    refine z_ifne C 80 dX7_readLineOf_73 (by decide) ?_ ?_
    · refine z_iconst (v := 1) C dX7_readLineOf_76 (by decide) ?_
      refine z_goto C 81 dX7_readLineOf_77 (by decide) ?_
      refine z_loc C [(0, .ref (b 0)), (2, .int r7.1)] [1, 0] rfl ?_
      exact w_X7_readLineOf_81 C b g X     u8 r7.1 true
    refine z_iconst (v := 0) C dX7_readLineOf_80 (by decide) ?_
    refine z_loc C [(0, .ref (b 0)), (2, .int r7.1)] [1, 0] rfl ?_
    exact w_X7_readLineOf_81 C b g X     u8 r7.1 false
  have g17 := z_ni h1
  have g18 := z_ni h6
  refine z_lookup C 120 dX7_readLineOf_3 (by decide) (z_off2 (by exact g17) (by exact g18)) (by decide) ?_
  refine z_aload_n C 1 dX7_readLineOf_120 rfl ?_
  refine z_iload_n C 2 dX7_readLineOf_121 rfl ?_
  refine y_callVS C (z_invV C [.int v1] [] (ct_X7_readBeetle l G b g X u v1) mi_X7_readBeetle md_X7_readBeetle ms_X7_readBeetle ml_RX7_124 has_M_0 ⟨_, rfl, rfl⟩ (by decide) rfl rfl dX7_readLineOf_122 (Nat.le_of_ble_eq_true rfl)) (List.Perm.refl _) (fun _ => List.Perm.refl _) (fun r19 u20 => ?_)
  exact z_vret C dX7_readLineOf_125 rfl rfl
noncomputable def f_X7_rule (u : zM) (v1 : Int32) : Option (Int32 × zM) := (f_X7_starts u).bind fun r1 => zlet r1 fun u2 => if v1 = 0 then some ((u2 0 3), u2) else if v1 = 1 then if z_in 34 183 = true then some ((u2 1 (Int32.toNatClampNeg 34)), u2) else none else if v1 = 2 then if z_in 41 183 = true then some ((u2 1 (Int32.toNatClampNeg 41)), u2) else none else if v1 = 3 then (f_X7_sitting u2).bind fun r7 => some (r7, u2) else if v1 = 4 then (f_X7_allCounted u2).bind fun r9 => some (r9, u2) else if v1 = 5 then (f_X7_mostCounted u2).bind fun r11 => some (r11, u2) else some ((-1), u2)
set_option maxHeartbeats 4000000 in
set_option maxRecDepth 100000 in
theorem ct_X7_rule (l : Launch) (G : zG) (b : Nat → Nat) (g : Nat → Int64) (X : va_W) (u : zM) (v1 : Int32) : zCt l yX7_rule cX7_rule 2 (some .int) 5 G [.ref (b 0), .int v1] (fun u : zM => wM b G.2 u g ++ X) (fun r : Int32 × zM => some (.int r.1)) (fun r => r.2) u (f_X7_rule u v1) := by
  refine zCt.of (by decide) (Nat.le_of_ble_eq_true rfl) (fun p e s m args below meth c A C => ?_)
  refine y_lv (lv' := [(0, .ref (b 0)), (1, .int v1)]) rfl ?_
  rw [f_X7_rule]
  refine z_aload_n C 0 dX7_rule_0 rfl ?_
  refine y_callVS C (z_invV C [] [] (ct_X7_starts l G b g X u ) mi_X7_starts md_X7_starts ms_X7_starts ml_RX7_191 has_M_0 ⟨_, rfl, rfl⟩ (by decide) rfl rfl dX7_rule_1 (Nat.le_of_ble_eq_true rfl)) (List.Perm.refl _) (fun _ => List.Perm.refl _) (fun r1 u2 => ?_)
  refine z_iload_n C 1 dX7_rule_4 rfl ?_
  refine z_ite (fun h3 => ?_) (fun h3 => ?_)
  · refine z_tableIn C 44 dX7_rule_5 (by rw [h3]; decide) (by rw [h3]; decide) (by rw [h3]; rfl) (by decide) ?_
    refine z_aload_n C 0 dX7_rule_44 rfl ?_
    refine z_get C fl_RX7_60 has_M_0 rfl dX7_rule_45 ?_
    exact z_iret C dX7_rule_48 rfl rfl rfl
  refine z_ite (fun h4 => ?_) (fun h4 => ?_)
  · refine z_tableIn C 49 dX7_rule_5 (by rw [h4]; decide) (by rw [h4]; decide) (by rw [h4]; rfl) (by decide) ?_
    refine z_aload_n C 0 dX7_rule_49 rfl ?_
    refine z_get C fl_RX7_7 has_M_0 rfl dX7_rule_50 ?_
    refine z_bipush (v := 34) C dX7_rule_53 (by decide) ?_
    refine y_iald C has_M_1 dX7_rule_55 ?_
    exact z_iret C dX7_rule_56 rfl rfl rfl
  refine z_ite (fun h5 => ?_) (fun h5 => ?_)
  · refine z_tableIn C 57 dX7_rule_5 (by rw [h5]; decide) (by rw [h5]; decide) (by rw [h5]; rfl) (by decide) ?_
    refine z_aload_n C 0 dX7_rule_57 rfl ?_
    refine z_get C fl_RX7_7 has_M_0 rfl dX7_rule_58 ?_
    refine z_bipush (v := 41) C dX7_rule_61 (by decide) ?_
    refine y_iald C has_M_1 dX7_rule_63 ?_
    exact z_iret C dX7_rule_64 rfl rfl rfl
  refine z_ite (fun h6 => ?_) (fun h6 => ?_)
  · refine z_tableIn C 65 dX7_rule_5 (by rw [h6]; decide) (by rw [h6]; decide) (by rw [h6]; rfl) (by decide) ?_
    refine z_aload_n C 0 dX7_rule_65 rfl ?_
    refine y_callI C (z_invV C [] [] (ct_X7_sitting l G b g X u2 ) mi_X7_sitting md_X7_sitting ms_X7_sitting ml_RX7_194 has_M_0 ⟨_, rfl, rfl⟩ (by decide) rfl rfl dX7_rule_66 (Nat.le_of_ble_eq_true rfl)) (List.Perm.refl _) (fun r7 => ?_)
    exact z_iret C dX7_rule_69 rfl rfl rfl
  refine z_ite (fun h8 => ?_) (fun h8 => ?_)
  · refine z_tableIn C 70 dX7_rule_5 (by rw [h8]; decide) (by rw [h8]; decide) (by rw [h8]; rfl) (by decide) ?_
    refine z_aload_n C 0 dX7_rule_70 rfl ?_
    refine y_callI C (z_invV C [] [] (ct_X7_allCounted l G b g X u2 ) mi_X7_allCounted md_X7_allCounted ms_X7_allCounted ml_RX7_197 has_M_0 ⟨_, rfl, rfl⟩ (by decide) rfl rfl dX7_rule_71 (Nat.le_of_ble_eq_true rfl)) (List.Perm.refl _) (fun r9 => ?_)
    exact z_iret C dX7_rule_74 rfl rfl rfl
  refine z_ite (fun h10 => ?_) (fun h10 => ?_)
  · refine z_tableIn C 75 dX7_rule_5 (by rw [h10]; decide) (by rw [h10]; decide) (by rw [h10]; rfl) (by decide) ?_
    refine z_aload_n C 0 dX7_rule_75 rfl ?_
    refine y_callI C (z_invV C [] [] (ct_X7_mostCounted l G b g X u2 ) mi_X7_mostCounted md_X7_mostCounted ms_X7_mostCounted ml_RX7_200 has_M_0 ⟨_, rfl, rfl⟩ (by decide) rfl rfl dX7_rule_76 (Nat.le_of_ble_eq_true rfl)) (List.Perm.refl _) (fun r11 => ?_)
    exact z_iret C dX7_rule_79 rfl rfl rfl
  have g12 := z_ni h3
  have g13 := z_ni h4
  have g14 := z_ni h5
  have g15 := z_ni h6
  have g16 := z_ni h8
  have g17 := z_ni h10
  refine z_tableOut C 80 dX7_rule_5 (by simp only [show Int32.toInt 0 = 0 from by decide, show Int32.toInt 1 = 1 from by decide, show Int32.toInt 2 = 2 from by decide, show Int32.toInt 3 = 3 from by decide, show Int32.toInt 4 = 4 from by decide, show Int32.toInt 5 = 5 from by decide] at g12 g13 g14 g15 g16 g17; omega) (by decide) ?_
  refine z_iconst (v := (-1)) C dX7_rule_80 (by decide) ?_
  exact z_iret C dX7_rule_81 rfl rfl rfl
noncomputable def f_X7_seeks (u : zM) (v1 : Int32) : Option (Int32) := (f_X7_of u v1 0).bind fun r1 => if r1 = 2 then (f_X7_leastCounted u).bind fun r2 => some r2 else if r1 = 1 then (f_X7_of u v1 2).bind fun r3 => if (u 0 3) = 0 then none else some ((r3 + 1) - (r3 + 1) / (u 0 3) * (u 0 3)) else (f_X7_of u v1 2).bind fun r4 => some r4
set_option maxHeartbeats 4000000 in
set_option maxRecDepth 100000 in
theorem ct_X7_seeks (l : Launch) (G : zG) (b : Nat → Nat) (g : Nat → Int64) (X : va_W) (u : zM) (v1 : Int32) : zCt l yX7_seeks cX7_seeks 3 (some .int) 5 G [.ref (b 0), .int v1] (fun u : zM => wM b G.2 u g ++ X) (fun r : Int32 => some (.int r)) (fun _ => u) u (f_X7_seeks u v1) := by
  refine zCt.of (by decide) (Nat.le_of_ble_eq_true rfl) (fun p e s m args below meth c A C => ?_)
  refine y_lv (lv' := [(0, .ref (b 0)), (1, .int v1)]) rfl ?_
  rw [f_X7_seeks]
  refine z_aload_n C 0 dX7_seeks_0 rfl ?_
  refine z_iload_n C 1 dX7_seeks_1 rfl ?_
  refine z_iconst (v := 0) C dX7_seeks_2 (by decide) ?_
  refine y_callI C (z_invV C [.int v1, .int 0] [] (ct_X7_of l G b g X u v1 0) mi_X7_of md_X7_of ms_X7_of ml_RX7_143 has_M_0 ⟨_, rfl, rfl⟩ (by decide) rfl rfl dX7_seeks_3 (Nat.le_of_ble_eq_true rfl)) (List.Perm.refl _) (fun r1 => ?_)
  refine z_istore_n C [(2, .int r1), (0, .ref (b 0)), (1, .int v1)] dX7_seeks_6 (by decide) rfl ?_
  refine z_iload_n C 0 dX7_seeks_7 rfl ?_
  refine z_iconst (v := 2) C dX7_seeks_8 (by decide) ?_
  refine z_icmpne C 19 dX7_seeks_9 (by decide) ?_ ?_
  · refine z_aload_n C 1 dX7_seeks_12 rfl ?_
    refine y_callI C (z_invV C [] [] (ct_X7_leastCounted l G b g X u ) mi_X7_leastCounted md_X7_leastCounted ms_X7_leastCounted ml_RX7_152 has_M_0 ⟨_, rfl, rfl⟩ (by decide) rfl rfl dX7_seeks_13 (Nat.le_of_ble_eq_true rfl)) (List.Perm.refl _) (fun r2 => ?_)
    refine z_goto C 46 dX7_seeks_16 (by decide) ?_
    exact z_iret C dX7_seeks_46 rfl rfl rfl
  refine z_iload_n C 0 dX7_seeks_19 rfl ?_
  refine z_iconst (v := 1) C dX7_seeks_20 (by decide) ?_
  refine z_icmpne C 40 dX7_seeks_21 (by decide) ?_ ?_
  · refine z_aload_n C 1 dX7_seeks_24 rfl ?_
    refine z_iload_n C 2 dX7_seeks_25 rfl ?_
    refine z_iconst (v := 2) C dX7_seeks_26 (by decide) ?_
    refine y_callI C (z_invV C [.int v1, .int 2] [] (ct_X7_of l G b g X u v1 2) mi_X7_of md_X7_of ms_X7_of ml_RX7_143 has_M_0 ⟨_, rfl, rfl⟩ (by decide) rfl rfl dX7_seeks_27 (Nat.le_of_ble_eq_true rfl)) (List.Perm.refl _) (fun r3 => ?_)
    refine z_iconst (v := 1) C dX7_seeks_30 (by decide) ?_
    refine z_iadd C dX7_seeks_31 ?_
    refine z_aload_n C 1 dX7_seeks_32 rfl ?_
    refine z_get C fl_RX7_60 has_M_0 rfl dX7_seeks_33 ?_
    refine z_irem C dX7_seeks_36 ?_
    refine z_goto C 46 dX7_seeks_37 (by decide) ?_
    exact z_iret C dX7_seeks_46 rfl rfl rfl
  refine z_aload_n C 1 dX7_seeks_40 rfl ?_
  refine z_iload_n C 2 dX7_seeks_41 rfl ?_
  refine z_iconst (v := 2) C dX7_seeks_42 (by decide) ?_
  refine y_callI C (z_invV C [.int v1, .int 2] [] (ct_X7_of l G b g X u v1 2) mi_X7_of md_X7_of ms_X7_of ml_RX7_143 has_M_0 ⟨_, rfl, rfl⟩ (by decide) rfl rfl dX7_seeks_43 (Nat.le_of_ble_eq_true rfl)) (List.Perm.refl _) (fun r4 => ?_)
  exact z_iret C dX7_seeks_46 rfl rfl rfl
noncomputable def f_X7_beetle (u : zM) (v1 : Int32) (v2 : Int32) : Option (Int32 × zM) := (f_X7_isBeetle u v1).bind fun r1 => if r1 = true then (f_X7_starts u).bind fun r2 => zlet r2 fun u3 => if v2 = 0 then (f_X7_of u3 v1 v2).bind fun r5 => some (r5, u3) else if v2 = 1 then (f_X7_of u3 v1 v2).bind fun r7 => some (r7, u3) else if v2 = 2 then (f_X7_of u3 v1 v2).bind fun r9 => some (r9, u3) else if v2 = 3 then (f_X7_placeOf u3 v1).bind fun r11 => some (r11, u3) else if v2 = 4 then (f_X7_of u3 v1 v2).bind fun r13 => some (r13, u3) else if v2 = 5 then (f_X7_seeks u3 v1).bind fun r15 => some (r15, u3) else if v2 = 6 then (f_X7_weight u3 v1).bind fun r17 => some (r17, u3) else some ((-1), u3) else some ((-1), u)
set_option maxHeartbeats 4000000 in
set_option maxRecDepth 100000 in
theorem ct_X7_beetle (l : Launch) (G : zG) (b : Nat → Nat) (g : Nat → Int64) (X : va_W) (u : zM) (v1 : Int32) (v2 : Int32) : zCt l yX7_beetle cX7_beetle 3 (some .int) 6 G [.ref (b 0), .int v1, .int v2] (fun u : zM => wM b G.2 u g ++ X) (fun r : Int32 × zM => some (.int r.1)) (fun r => r.2) u (f_X7_beetle u v1 v2) := by
  refine zCt.of (by decide) (Nat.le_of_ble_eq_true rfl) (fun p e s m args below meth c A C => ?_)
  refine y_lv (lv' := [(0, .ref (b 0)), (1, .int v1), (2, .int v2)]) rfl ?_
  rw [f_X7_beetle]
  refine z_aload_n C 0 dX7_beetle_0 rfl ?_
  refine z_iload_n C 1 dX7_beetle_1 rfl ?_
  refine y_callZ C (z_invV C [.int v1] [] (ct_X7_isBeetle l G b g X u v1) mi_X7_isBeetle md_X7_isBeetle ms_X7_isBeetle ml_RX7_207 has_M_0 ⟨_, rfl, rfl⟩ (by decide) rfl rfl dX7_beetle_2 (Nat.le_of_ble_eq_true rfl)) (List.Perm.refl _) (fun r1 => ?_)
  refine z_zifne C 10 dX7_beetle_5 (by decide) ?_ ?_
  · refine z_aload_n C 0 dX7_beetle_10 rfl ?_
    refine y_callVS C (z_invV C [] [] (ct_X7_starts l G b g X u ) mi_X7_starts md_X7_starts ms_X7_starts ml_RX7_191 has_M_0 ⟨_, rfl, rfl⟩ (by decide) rfl rfl dX7_beetle_11 (Nat.le_of_ble_eq_true rfl)) (List.Perm.refl _) (fun _ => List.Perm.refl _) (fun r2 u3 => ?_)
    refine z_iload_n C 2 dX7_beetle_14 rfl ?_
    refine z_ite (fun h4 => ?_) (fun h4 => ?_)
    · refine z_tableIn C 56 dX7_beetle_15 (by rw [h4]; decide) (by rw [h4]; decide) (by rw [h4]; rfl) (by decide) ?_
      refine z_aload_n C 0 dX7_beetle_56 rfl ?_
      refine z_iload_n C 1 dX7_beetle_57 rfl ?_
      refine z_iload_n C 2 dX7_beetle_58 rfl ?_
      refine y_callI C (z_invV C [.int v1, .int v2] [] (ct_X7_of l G b g X u3 v1 v2) mi_X7_of md_X7_of ms_X7_of ml_RX7_143 has_M_0 ⟨_, rfl, rfl⟩ (by decide) rfl rfl dX7_beetle_59 (Nat.le_of_ble_eq_true rfl)) (List.Perm.refl _) (fun r5 => ?_)
      exact z_iret C dX7_beetle_62 rfl rfl rfl
    refine z_ite (fun h6 => ?_) (fun h6 => ?_)
    · refine z_tableIn C 56 dX7_beetle_15 (by rw [h6]; decide) (by rw [h6]; decide) (by rw [h6]; rfl) (by decide) ?_
      refine z_aload_n C 0 dX7_beetle_56 rfl ?_
      refine z_iload_n C 1 dX7_beetle_57 rfl ?_
      refine z_iload_n C 2 dX7_beetle_58 rfl ?_
      refine y_callI C (z_invV C [.int v1, .int v2] [] (ct_X7_of l G b g X u3 v1 v2) mi_X7_of md_X7_of ms_X7_of ml_RX7_143 has_M_0 ⟨_, rfl, rfl⟩ (by decide) rfl rfl dX7_beetle_59 (Nat.le_of_ble_eq_true rfl)) (List.Perm.refl _) (fun r7 => ?_)
      exact z_iret C dX7_beetle_62 rfl rfl rfl
    refine z_ite (fun h8 => ?_) (fun h8 => ?_)
    · refine z_tableIn C 56 dX7_beetle_15 (by rw [h8]; decide) (by rw [h8]; decide) (by rw [h8]; rfl) (by decide) ?_
      refine z_aload_n C 0 dX7_beetle_56 rfl ?_
      refine z_iload_n C 1 dX7_beetle_57 rfl ?_
      refine z_iload_n C 2 dX7_beetle_58 rfl ?_
      refine y_callI C (z_invV C [.int v1, .int v2] [] (ct_X7_of l G b g X u3 v1 v2) mi_X7_of md_X7_of ms_X7_of ml_RX7_143 has_M_0 ⟨_, rfl, rfl⟩ (by decide) rfl rfl dX7_beetle_59 (Nat.le_of_ble_eq_true rfl)) (List.Perm.refl _) (fun r9 => ?_)
      exact z_iret C dX7_beetle_62 rfl rfl rfl
    refine z_ite (fun h10 => ?_) (fun h10 => ?_)
    · refine z_tableIn C 63 dX7_beetle_15 (by rw [h10]; decide) (by rw [h10]; decide) (by rw [h10]; rfl) (by decide) ?_
      refine z_aload_n C 0 dX7_beetle_63 rfl ?_
      refine z_iload_n C 1 dX7_beetle_64 rfl ?_
      refine y_callI C (z_invV C [.int v1] [] (ct_X7_placeOf l G b g X u3 v1) mi_X7_placeOf md_X7_placeOf ms_X7_placeOf ml_RX7_155 has_M_0 ⟨_, rfl, rfl⟩ (by decide) rfl rfl dX7_beetle_65 (Nat.le_of_ble_eq_true rfl)) (List.Perm.refl _) (fun r11 => ?_)
      exact z_iret C dX7_beetle_68 rfl rfl rfl
    refine z_ite (fun h12 => ?_) (fun h12 => ?_)
    · refine z_tableIn C 56 dX7_beetle_15 (by rw [h12]; decide) (by rw [h12]; decide) (by rw [h12]; rfl) (by decide) ?_
      refine z_aload_n C 0 dX7_beetle_56 rfl ?_
      refine z_iload_n C 1 dX7_beetle_57 rfl ?_
      refine z_iload_n C 2 dX7_beetle_58 rfl ?_
      refine y_callI C (z_invV C [.int v1, .int v2] [] (ct_X7_of l G b g X u3 v1 v2) mi_X7_of md_X7_of ms_X7_of ml_RX7_143 has_M_0 ⟨_, rfl, rfl⟩ (by decide) rfl rfl dX7_beetle_59 (Nat.le_of_ble_eq_true rfl)) (List.Perm.refl _) (fun r13 => ?_)
      exact z_iret C dX7_beetle_62 rfl rfl rfl
    refine z_ite (fun h14 => ?_) (fun h14 => ?_)
    · refine z_tableIn C 69 dX7_beetle_15 (by rw [h14]; decide) (by rw [h14]; decide) (by rw [h14]; rfl) (by decide) ?_
      refine z_aload_n C 0 dX7_beetle_69 rfl ?_
      refine z_iload_n C 1 dX7_beetle_70 rfl ?_
      refine y_callI C (z_invV C [.int v1] [] (ct_X7_seeks l G b g X u3 v1) mi_X7_seeks md_X7_seeks ms_X7_seeks ml_RX7_165 has_M_0 ⟨_, rfl, rfl⟩ (by decide) rfl rfl dX7_beetle_71 (Nat.le_of_ble_eq_true rfl)) (List.Perm.refl _) (fun r15 => ?_)
      exact z_iret C dX7_beetle_74 rfl rfl rfl
    refine z_ite (fun h16 => ?_) (fun h16 => ?_)
    · refine z_tableIn C 75 dX7_beetle_15 (by rw [h16]; decide) (by rw [h16]; decide) (by rw [h16]; rfl) (by decide) ?_
      refine z_aload_n C 0 dX7_beetle_75 rfl ?_
      refine z_iload_n C 1 dX7_beetle_76 rfl ?_
      refine y_callI C (z_invV C [.int v1] [] (ct_X7_weight l G b g X u3 v1) mi_X7_weight md_X7_weight ms_X7_weight ml_RX7_146 has_M_0 ⟨_, rfl, rfl⟩ (by decide) rfl rfl dX7_beetle_77 (Nat.le_of_ble_eq_true rfl)) (List.Perm.refl _) (fun r17 => ?_)
      exact z_iret C dX7_beetle_80 rfl rfl rfl
    have g18 := z_ni h4
    have g19 := z_ni h6
    have g20 := z_ni h8
    have g21 := z_ni h10
    have g22 := z_ni h12
    have g23 := z_ni h14
    have g24 := z_ni h16
    refine z_tableOut C 81 dX7_beetle_15 (by simp only [show Int32.toInt 0 = 0 from by decide, show Int32.toInt 1 = 1 from by decide, show Int32.toInt 2 = 2 from by decide, show Int32.toInt 3 = 3 from by decide, show Int32.toInt 4 = 4 from by decide, show Int32.toInt 5 = 5 from by decide, show Int32.toInt 6 = 6 from by decide] at g18 g19 g20 g21 g22 g23 g24; omega) (by decide) ?_
    refine z_iconst (v := (-1)) C dX7_beetle_81 (by decide) ?_
    exact z_iret C dX7_beetle_82 rfl rfl rfl
  refine z_iconst (v := (-1)) C dX7_beetle_8 (by decide) ?_
  exact z_iret C dX7_beetle_9 rfl rfl rfl
noncomputable def f_X7_goesOn_61 (u : zM) (v1 : Int32) (v2 : Int32) (t0 : Int32) (t1 : Int32) (t2 : Int32) (t3 : Int32) : Option (zM) := (f_X7_becomesOf u t3 t2 (t1 + t0)).bind fun r5 => zlet r5 fun u6 => (f_X7_of u6 v1 3).bind fun r7 => if z_in v2 61 = true then if r7 = (u6 2 (Int32.toNatClampNeg v2)) then (f_X7_becomesOf u6 v1 4 v2).bind fun r8 => zlet r8 fun u9 => zlet (zU u9 0 18 ((u9 0 18) + 1)) fun u10 => some u10 else some u6 else none
set_option maxHeartbeats 4000000 in
set_option maxRecDepth 100000 in
theorem w_X7_goesOn_61 {p : Program} {l : Launch} {e : Env} {s : State} {m : MethodId} {args : Array Value} {below : List Frame} {meth : Method} {c : Code} {G : zG} {A : Nat → Prop} (C : zC p s m args meth c RX7 cX7_goesOn 5 none G A) (b : Nat → Nat) (g : Nat → Int64) (X : va_W) : ∀ (u : zM) (v1 : Int32) (v2 : Int32) (t0 : Int32) (t1 : Int32) (t2 : Int32) (t3 : Int32), PW p l e 6 s m args below meth c G A 5 (fun u : zM => wM b G.2 u g ++ X) (fun _ : zM => none) (fun r => r) u [(0, .ref (b 0)), (1, .int v1), (2, .int v2)] 61 [.int t0, .int t1, .int t2, .int t3, .ref (b 0)] (f_X7_goesOn_61 u v1 v2 t0 t1 t2 t3) := by
  intro u v1 v2 t0 t1 t2 t3
  rw [f_X7_goesOn_61]
  refine z_iadd C dX7_goesOn_61 ?_
  refine y_callVS C (z_invV C [.int t3, .int t2, .int (t1 + t0)] [] (ct_X7_becomesOf l G b g X u t3 t2 (t1 + t0)) mi_X7_becomesOf md_X7_becomesOf ms_X7_becomesOf ml_RX7_158 has_M_0 ⟨_, rfl, rfl⟩ (by decide) rfl rfl dX7_goesOn_62 (Nat.le_of_ble_eq_true rfl)) (List.Perm.refl _) (fun _ => List.Perm.refl _) (fun r5 u6 => ?_)
  refine z_aload_n C 0 dX7_goesOn_65 rfl ?_
  refine z_iload_n C 1 dX7_goesOn_66 rfl ?_
  refine z_iconst (v := 3) C dX7_goesOn_67 (by decide) ?_
  refine y_callI C (z_invV C [.int v1, .int 3] [] (ct_X7_of l G b g X u6 v1 3) mi_X7_of md_X7_of ms_X7_of ml_RX7_143 has_M_0 ⟨_, rfl, rfl⟩ (by decide) rfl rfl dX7_goesOn_68 (Nat.le_of_ble_eq_true rfl)) (List.Perm.refl _) (fun r7 => ?_)
  refine z_aload_n C 0 dX7_goesOn_71 rfl ?_
  refine z_get C fl_RX7_13 has_M_0 rfl dX7_goesOn_72 ?_
  refine z_iload_n C 2 dX7_goesOn_75 rfl ?_
  refine y_iald C has_M_2 dX7_goesOn_76 ?_
  refine z_icmpne C 97 dX7_goesOn_77 (by decide) ?_ ?_
  · refine z_aload_n C 0 dX7_goesOn_80 rfl ?_
    refine z_iload_n C 1 dX7_goesOn_81 rfl ?_
    refine z_iconst (v := 4) C dX7_goesOn_82 (by decide) ?_
    refine z_iload_n C 2 dX7_goesOn_83 rfl ?_
    refine y_callVS C (z_invV C [.int v1, .int 4, .int v2] [] (ct_X7_becomesOf l G b g X u6 v1 4 v2) mi_X7_becomesOf md_X7_becomesOf ms_X7_becomesOf ml_RX7_158 has_M_0 ⟨_, rfl, rfl⟩ (by decide) rfl rfl dX7_goesOn_84 (Nat.le_of_ble_eq_true rfl)) (List.Perm.refl _) (fun _ => List.Perm.refl _) (fun r8 u9 => ?_)
    refine z_aload_n C 0 dX7_goesOn_87 rfl ?_
    refine z_dup C dX7_goesOn_88 rfl ?_
    refine z_get C fl_RX7_171 has_M_0 rfl dX7_goesOn_89 ?_
    refine z_iconst (v := 1) C dX7_goesOn_92 (by decide) ?_
    refine z_iadd C dX7_goesOn_93 ?_
    refine z_put C fl_RX7_171 ft_7_18 upd_M_0_18 rfl rfl (Nat.le_of_ble_eq_true rfl) dX7_goesOn_94 (fun u10 => ?_)
    exact z_vret C dX7_goesOn_97 rfl rfl
  exact z_vret C dX7_goesOn_97 rfl rfl
noncomputable def f_X7_goesOn (u : zM) (v1 : Int32) : Option (zM) := (f_X7_seeks u v1).bind fun r1 => if z_in r1 61 = true then (f_X7_of u v1 3).bind fun r2 => (f_X7_pace u v1).bind fun r3 => (f_X7_of u v1 3).bind fun r4 => if ((u 2 (Int32.toNatClampNeg r1)) - r2) ≤ r3 then if (-r3) ≤ ((u 2 (Int32.toNatClampNeg r1)) - r2) then f_X7_goesOn_61  u v1 r1 ((u 2 (Int32.toNatClampNeg r1)) - r2) r4 3 v1 else f_X7_goesOn_61  u v1 r1 (-r3) r4 3 v1 else f_X7_goesOn_61  u v1 r1 r3 r4 3 v1 else none
set_option maxHeartbeats 4000000 in
set_option maxRecDepth 100000 in
theorem ct_X7_goesOn (l : Launch) (G : zG) (b : Nat → Nat) (g : Nat → Int64) (X : va_W) (u : zM) (v1 : Int32) : zCt l yX7_goesOn cX7_goesOn 5 none 6 G [.ref (b 0), .int v1] (fun u : zM => wM b G.2 u g ++ X) (fun _ : zM => none) (fun r => r) u (f_X7_goesOn u v1) := by
  refine zCt.of (by decide) (Nat.le_of_ble_eq_true rfl) (fun p e s m args below meth c A C => ?_)
  refine y_lv (lv' := [(0, .ref (b 0)), (1, .int v1)]) rfl ?_
  rw [f_X7_goesOn]
  refine z_aload_n C 0 dX7_goesOn_0 rfl ?_
  refine z_iload_n C 1 dX7_goesOn_1 rfl ?_
  refine y_callI C (z_invV C [.int v1] [] (ct_X7_seeks l G b g X u v1) mi_X7_seeks md_X7_seeks ms_X7_seeks ml_RX7_165 has_M_0 ⟨_, rfl, rfl⟩ (by decide) rfl rfl dX7_goesOn_2 (Nat.le_of_ble_eq_true rfl)) (List.Perm.refl _) (fun r1 => ?_)
  refine z_istore_n C [(2, .int r1), (0, .ref (b 0)), (1, .int v1)] dX7_goesOn_5 (by decide) rfl ?_
  refine z_aload_n C 1 dX7_goesOn_6 rfl ?_
  refine z_get C fl_RX7_13 has_M_0 rfl dX7_goesOn_7 ?_
  refine z_iload_n C 0 dX7_goesOn_10 rfl ?_
  refine y_iald C has_M_2 dX7_goesOn_11 ?_
  refine z_aload_n C 1 dX7_goesOn_12 rfl ?_
  refine z_iload_n C 2 dX7_goesOn_13 rfl ?_
  refine z_iconst (v := 3) C dX7_goesOn_14 (by decide) ?_
  refine y_callI C (z_invV C [.int v1, .int 3] [.int (u 2 (Int32.toNatClampNeg r1))] (ct_X7_of l G b g X u v1 3) mi_X7_of md_X7_of ms_X7_of ml_RX7_143 has_M_0 ⟨_, rfl, rfl⟩ (by decide) rfl rfl dX7_goesOn_15 (Nat.le_of_ble_eq_true rfl)) (List.Perm.refl _) (fun r2 => ?_)
  refine z_isub C dX7_goesOn_18 ?_
  refine z_istore_n C [(3, .int ((u 2 (Int32.toNatClampNeg r1)) - r2)), (2, .int r1), (0, .ref (b 0)), (1, .int v1)] dX7_goesOn_19 (by decide) rfl ?_
  refine z_aload_n C 2 dX7_goesOn_20 rfl ?_
  refine z_iload_n C 3 dX7_goesOn_21 rfl ?_
  refine y_callI C (z_invV C [.int v1] [] (ct_X7_pace l G b g X u v1) mi_X7_pace md_X7_pace ms_X7_pace ml_RX7_168 has_M_0 ⟨_, rfl, rfl⟩ (by decide) rfl rfl dX7_goesOn_22 (Nat.le_of_ble_eq_true rfl)) (List.Perm.refl _) (fun r3 => ?_)
  refine z_istore C [(4, .int r3), (3, .int ((u 2 (Int32.toNatClampNeg r1)) - r2)), (2, .int r1), (0, .ref (b 0)), (1, .int v1)] dX7_goesOn_25 (by decide) rfl ?_
  refine z_aload_n C 3 dX7_goesOn_27 rfl ?_
  refine z_iload_n C 4 dX7_goesOn_28 rfl ?_
  refine z_iconst (v := 3) C dX7_goesOn_29 (by decide) ?_
  refine z_aload_n C 3 dX7_goesOn_30 rfl ?_
  refine z_iload_n C 4 dX7_goesOn_31 rfl ?_
  refine z_iconst (v := 3) C dX7_goesOn_32 (by decide) ?_
  refine y_callI C (z_invV C [.int v1, .int 3] [.int 3, .int v1, .ref (b 0)] (ct_X7_of l G b g X u v1 3) mi_X7_of md_X7_of ms_X7_of ml_RX7_143 has_M_0 ⟨_, rfl, rfl⟩ (by decide) rfl rfl dX7_goesOn_33 (Nat.le_of_ble_eq_true rfl)) (List.Perm.refl _) (fun r4 => ?_)
  refine z_iload_n C 1 dX7_goesOn_36 rfl ?_
  refine z_iload C 0 dX7_goesOn_37 rfl ?_
  refine z_icmple C 47 dX7_goesOn_39 (by decide) ?_ ?_
  · refine z_iload_n C 1 dX7_goesOn_47 rfl ?_
    refine z_iload C 0 dX7_goesOn_48 rfl ?_
    refine z_ineg C dX7_goesOn_50 ?_
    refine z_icmpge C 60 dX7_goesOn_51 (by decide) ?_ ?_
    · refine z_iload_n C 1 dX7_goesOn_60 rfl ?_
      refine z_loc C [(0, .ref (b 0)), (1, .int v1), (2, .int r1)] [3, 4, 2] rfl ?_
      exact w_X7_goesOn_61 C b g X     u v1 r1 ((u 2 (Int32.toNatClampNeg r1)) - r2) r4 3 v1
    refine z_iload C 0 dX7_goesOn_54 rfl ?_
    refine z_ineg C dX7_goesOn_56 ?_
    refine z_goto C 61 dX7_goesOn_57 (by decide) ?_
    refine z_loc C [(0, .ref (b 0)), (1, .int v1), (2, .int r1)] [3, 4, 2] rfl ?_
    exact w_X7_goesOn_61 C b g X     u v1 r1 (-r3) r4 3 v1
  refine z_iload C 0 dX7_goesOn_42 rfl ?_
  refine z_goto C 61 dX7_goesOn_44 (by decide) ?_
  refine z_loc C [(0, .ref (b 0)), (1, .int v1), (2, .int r1)] [3, 4, 2] rfl ?_
  exact w_X7_goesOn_61 C b g X     u v1 r1 r3 r4 3 v1
noncomputable def f_X7_readLine_115 (u : zM) (t0 : Bool) : Option (zM) := (f_X7_needs u (zb t0) 2).bind fun r10 => zlet r10 fun u11 => (f_X7_takes u11).bind fun r12 => zlet r12 fun u13 => some u13
set_option maxHeartbeats 4000000 in
set_option maxRecDepth 100000 in
theorem w_X7_readLine_115 {p : Program} {l : Launch} {e : Env} {s : State} {m : MethodId} {args : Array Value} {below : List Frame} {meth : Method} {c : Code} {G : zG} {A : Nat → Prop} (C : zC p s m args meth c RX7 cX7_readLine 2 none G A) (b : Nat → Nat) (g : Nat → Int64) (X : va_W) : ∀ (u : zM) (t0 : Bool), PW p l e 6 s m args below meth c G A 2 (fun u : zM => wM b G.2 u g ++ X) (fun _ : zM => none) (fun r => r) u [(0, .ref (b 0))] 115 [.int (zb t0), .ref (b 0)] (f_X7_readLine_115 u t0) := by
  intro u t0
  rw [f_X7_readLine_115]
  refine z_iconst (v := 2) C dX7_readLine_115 (by decide) ?_
  refine y_callVS C (z_invV C [.int (zb t0), .int 2] [] (ct_X7_needs l G b g X u (zb t0) 2) mi_X7_needs md_X7_needs ms_X7_needs ml_RX7_110 has_M_0 ⟨_, rfl, rfl⟩ (by decide) rfl rfl dX7_readLine_116 (Nat.le_of_ble_eq_true rfl)) (List.Perm.refl _) (fun _ => List.Perm.refl _) (fun r10 u11 => ?_)
  refine z_aload_n C 0 dX7_readLine_119 rfl ?_
  refine y_callVS C (z_invV C [] [] (ct_X7_takes l G b g X u11 ) mi_X7_takes md_X7_takes ms_X7_takes ml_RX7_118 has_M_0 ⟨_, rfl, rfl⟩ (by decide) rfl rfl dX7_readLine_120 (Nat.le_of_ble_eq_true rfl)) (List.Perm.refl _) (fun _ => List.Perm.refl _) (fun r12 u13 => ?_)
  exact z_vret C dX7_readLine_123 rfl rfl
noncomputable def f_X7_readLine_73 (u : zM) (v1 : Int32) (t0 : Bool) : Option (zM) := (f_X7_needs u (zb t0) 5).bind fun r4 => zlet r4 fun u5 => (f_X7_takes u5).bind fun r6 => zlet r6 fun u7 => if (u7 0 14) ≤ 0 then (f_X7_readLineOf u7 v1).bind fun r8 => zlet r8 fun u9 => if (u9 0 14) = 0 then if (u9 0 12) = 3 then f_X7_readLine_115  u9 true else f_X7_readLine_115  u9 false else (f_X7_takes u9).bind fun r14 => zlet r14 fun u15 => some u15 else some u7
set_option maxHeartbeats 4000000 in
set_option maxRecDepth 100000 in
theorem w_X7_readLine_73 {p : Program} {l : Launch} {e : Env} {s : State} {m : MethodId} {args : Array Value} {below : List Frame} {meth : Method} {c : Code} {G : zG} {A : Nat → Prop} (C : zC p s m args meth c RX7 cX7_readLine 2 none G A) (b : Nat → Nat) (g : Nat → Int64) (X : va_W) : ∀ (u : zM) (v1 : Int32) (t0 : Bool), PW p l e 6 s m args below meth c G A 2 (fun u : zM => wM b G.2 u g ++ X) (fun _ : zM => none) (fun r => r) u [(0, .ref (b 0)), (1, .int v1)] 73 [.int (zb t0), .ref (b 0)] (f_X7_readLine_73 u v1 t0) := by
  intro u v1 t0
  rw [f_X7_readLine_73]
  refine z_iconst (v := 5) C dX7_readLine_73 (by decide) ?_
  refine y_callVS C (z_invV C [.int (zb t0), .int 5] [] (ct_X7_needs l G b g X u (zb t0) 5) mi_X7_needs md_X7_needs ms_X7_needs ml_RX7_110 has_M_0 ⟨_, rfl, rfl⟩ (by decide) rfl rfl dX7_readLine_74 (Nat.le_of_ble_eq_true rfl)) (List.Perm.refl _) (fun _ => List.Perm.refl _) (fun r4 u5 => ?_)
  refine z_aload_n C 0 dX7_readLine_77 rfl ?_
  refine y_callVS C (z_invV C [] [] (ct_X7_takes l G b g X u5 ) mi_X7_takes md_X7_takes ms_X7_takes ml_RX7_118 has_M_0 ⟨_, rfl, rfl⟩ (by decide) rfl rfl dX7_readLine_78 (Nat.le_of_ble_eq_true rfl)) (List.Perm.refl _) (fun _ => List.Perm.refl _) (fun r6 u7 => ?_)
  refine z_aload_n C 0 dX7_readLine_81 rfl ?_
  refine z_get C fl_RX7_72 has_M_0 rfl dX7_readLine_82 ?_
  refine z_ifle C 89 dX7_readLine_85 (by decide) ?_ ?_
  · refine z_aload_n C 0 dX7_readLine_89 rfl ?_
    refine z_iload_n C 1 dX7_readLine_90 rfl ?_
    refine y_callVS C (z_invV C [.int v1] [] (ct_X7_readLineOf l G b g X u7 v1) mi_X7_readLineOf md_X7_readLineOf ms_X7_readLineOf ml_RX7_132 has_M_0 ⟨_, rfl, rfl⟩ (by decide) rfl rfl dX7_readLine_91 (Nat.le_of_ble_eq_true rfl)) (List.Perm.refl _) (fun _ => List.Perm.refl _) (fun r8 u9 => ?_)
    refine z_aload_n C 0 dX7_readLine_94 rfl ?_
    refine z_get C fl_RX7_72 has_M_0 rfl dX7_readLine_95 ?_
    refine z_ifne C 119 dX7_readLine_98 (by decide) ?_ ?_
    · refine z_aload_n C 0 dX7_readLine_101 rfl ?_
      refine z_aload_n C 0 dX7_readLine_102 rfl ?_
      refine z_get C fl_RX7_96 has_M_0 rfl dX7_readLine_103 ?_
      refine z_iconst (v := 3) C dX7_readLine_106 (by decide) ?_
      refine z_icmpne C 114 dX7_readLine_107 (by decide) ?_ ?_
      · refine z_iconst (v := 1) C dX7_readLine_110 (by decide) ?_
        refine z_goto C 115 dX7_readLine_111 (by decide) ?_
        refine z_loc C [(0, .ref (b 0))] [0] rfl ?_
        exact w_X7_readLine_115 C b g X     u9 true
      refine z_iconst (v := 0) C dX7_readLine_114 (by decide) ?_
      refine z_loc C [(0, .ref (b 0))] [0] rfl ?_
      exact w_X7_readLine_115 C b g X     u9 false
    refine z_aload_n C 0 dX7_readLine_119 rfl ?_
    refine y_callVS C (z_invV C [] [] (ct_X7_takes l G b g X u9 ) mi_X7_takes md_X7_takes ms_X7_takes ml_RX7_118 has_M_0 ⟨_, rfl, rfl⟩ (by decide) rfl rfl dX7_readLine_120 (Nat.le_of_ble_eq_true rfl)) (List.Perm.refl _) (fun _ => List.Perm.refl _) (fun r14 u15 => ?_)
    exact z_vret C dX7_readLine_123 rfl rfl
  exact z_vret C dX7_readLine_88 rfl rfl
noncomputable def f_X7_readLine_30 (u : zM) (v1 : Int32) (t0 : Bool) : Option (zM) := (f_X7_needs u (zb t0) 2).bind fun r2 => zlet r2 fun u3 => if v1 = 5 then f_X7_readLine_73  u3 v1 true else if v1 = 4 then if 4 ≤ (u3 0 5) then f_X7_readLine_73  u3 v1 false else f_X7_readLine_73  u3 v1 true else if z_in 34 61 = true then if 6 ≤ (u3 4 (Int32.toNatClampNeg 34)) then f_X7_readLine_73  u3 v1 false else f_X7_readLine_73  u3 v1 true else none
set_option maxHeartbeats 4000000 in
set_option maxRecDepth 100000 in
theorem w_X7_readLine_30 {p : Program} {l : Launch} {e : Env} {s : State} {m : MethodId} {args : Array Value} {below : List Frame} {meth : Method} {c : Code} {G : zG} {A : Nat → Prop} (C : zC p s m args meth c RX7 cX7_readLine 2 none G A) (b : Nat → Nat) (g : Nat → Int64) (X : va_W) : ∀ (u : zM) (v1 : Int32) (t0 : Bool), PW p l e 6 s m args below meth c G A 2 (fun u : zM => wM b G.2 u g ++ X) (fun _ : zM => none) (fun r => r) u [(0, .ref (b 0)), (1, .int v1)] 30 [.int (zb t0), .ref (b 0)] (f_X7_readLine_30 u v1 t0) := by
  intro u v1 t0
  rw [f_X7_readLine_30]
  refine z_iconst (v := 2) C dX7_readLine_30 (by decide) ?_
  refine y_callVS C (z_invV C [.int (zb t0), .int 2] [] (ct_X7_needs l G b g X u (zb t0) 2) mi_X7_needs md_X7_needs ms_X7_needs ml_RX7_110 has_M_0 ⟨_, rfl, rfl⟩ (by decide) rfl rfl dX7_readLine_31 (Nat.le_of_ble_eq_true rfl)) (List.Perm.refl _) (fun _ => List.Perm.refl _) (fun r2 u3 => ?_)
  refine z_aload_n C 0 dX7_readLine_34 rfl ?_
  refine z_iload_n C 1 dX7_readLine_35 rfl ?_
  refine z_iconst (v := 5) C dX7_readLine_36 (by decide) ?_
  refine z_icmpeq C 68 dX7_readLine_37 (by decide) ?_ ?_
  · refine z_iconst (v := 1) C dX7_readLine_68 (by decide) ?_
    refine z_goto C 73 dX7_readLine_69 (by decide) ?_
    exact w_X7_readLine_73 C b g X     u3 v1 true
  refine z_iload_n C 1 dX7_readLine_40 rfl ?_
  refine z_iconst (v := 4) C dX7_readLine_41 (by decide) ?_
  refine z_icmpne C 56 dX7_readLine_42 (by decide) ?_ ?_
  · refine z_aload_n C 0 dX7_readLine_45 rfl ?_
    refine z_get C fl_RX7_50 has_M_0 rfl dX7_readLine_46 ?_
    refine z_iconst (v := 4) C dX7_readLine_49 (by decide) ?_
    refine z_icmpge C 72 dX7_readLine_50 (by decide) ?_ ?_
    · refine z_iconst (v := 0) C dX7_readLine_72 (by decide) ?_
      exact w_X7_readLine_73 C b g X     u3 v1 false
    refine z_goto C 68 dX7_readLine_53 (by decide) ?_
    refine z_iconst (v := 1) C dX7_readLine_68 (by decide) ?_
    refine z_goto C 73 dX7_readLine_69 (by decide) ?_
    exact w_X7_readLine_73 C b g X     u3 v1 true
  refine z_aload_n C 0 dX7_readLine_56 rfl ?_
  refine z_get C fl_RX7_20 has_M_0 rfl dX7_readLine_57 ?_
  refine z_bipush (v := 34) C dX7_readLine_60 (by decide) ?_
  refine y_iald C has_M_4 dX7_readLine_62 ?_
  refine z_bipush (v := 6) C dX7_readLine_63 (by decide) ?_
  refine z_icmpge C 72 dX7_readLine_65 (by decide) ?_ ?_
  · refine z_iconst (v := 0) C dX7_readLine_72 (by decide) ?_
    exact w_X7_readLine_73 C b g X     u3 v1 false
  refine z_iconst (v := 1) C dX7_readLine_68 (by decide) ?_
  refine z_goto C 73 dX7_readLine_69 (by decide) ?_
  exact w_X7_readLine_73 C b g X     u3 v1 true
noncomputable def f_X7_readLine (u : zM) : Option (zM) := if (u 0 12) = 1 then (f_X7_lineNow u).bind fun r1 => if r1 = (-4) then f_X7_readLine_30  u r1 false else f_X7_readLine_30  u r1 true else f_X7_readLine_30  u (-4) false
set_option maxHeartbeats 4000000 in
set_option maxRecDepth 100000 in
theorem ct_X7_readLine (l : Launch) (G : zG) (b : Nat → Nat) (g : Nat → Int64) (X : va_W) (u : zM) : zCt l yX7_readLine cX7_readLine 2 none 6 G [.ref (b 0)] (fun u : zM => wM b G.2 u g ++ X) (fun _ : zM => none) (fun r => r) u (f_X7_readLine u) := by
  refine zCt.of (by decide) (Nat.le_of_ble_eq_true rfl) (fun p e s m args below meth c A C => ?_)
  refine y_lv (lv' := [(0, .ref (b 0))]) rfl ?_
  rw [f_X7_readLine]
  refine z_aload_n C 0 dX7_readLine_0 rfl ?_
  refine z_get C fl_RX7_96 has_M_0 rfl dX7_readLine_1 ?_
  refine z_iconst (v := 1) C dX7_readLine_4 (by decide) ?_
  refine z_icmpne C 15 dX7_readLine_5 (by decide) ?_ ?_
  · refine z_aload_n C 0 dX7_readLine_8 rfl ?_
    refine y_callI C (z_invV C [] [] (ct_X7_lineNow l G b g X u ) mi_X7_lineNow md_X7_lineNow ms_X7_lineNow ml_RX7_128 has_M_0 ⟨_, rfl, rfl⟩ (by decide) rfl rfl dX7_readLine_9 (Nat.le_of_ble_eq_true rfl)) (List.Perm.refl _) (fun r1 => ?_)
    refine z_goto C 17 dX7_readLine_12 (by decide) ?_
    refine z_istore_n C [(1, .int r1), (0, .ref (b 0))] dX7_readLine_17 (by decide) rfl ?_
    refine z_aload_n C 1 dX7_readLine_18 rfl ?_
    refine z_iload_n C 0 dX7_readLine_19 rfl ?_
    refine z_bipush (v := (-4)) C dX7_readLine_20 (by decide) ?_
    refine z_icmpeq C 29 dX7_readLine_22 (by decide) ?_ ?_
    · refine z_iconst (v := 0) C dX7_readLine_29 (by decide) ?_
      refine z_loc C [(0, .ref (b 0)), (1, .int r1)] [1, 0] rfl ?_
      exact w_X7_readLine_30 C b g X     u r1 false
    refine z_iconst (v := 1) C dX7_readLine_25 (by decide) ?_
    refine z_goto C 30 dX7_readLine_26 (by decide) ?_
    refine z_loc C [(0, .ref (b 0)), (1, .int r1)] [1, 0] rfl ?_
    exact w_X7_readLine_30 C b g X     u r1 true
  refine z_bipush (v := (-4)) C dX7_readLine_15 (by decide) ?_
  refine z_istore_n C [(1, .int (-4)), (0, .ref (b 0))] dX7_readLine_17 (by decide) rfl ?_
  refine z_aload_n C 1 dX7_readLine_18 rfl ?_
  refine z_iload_n C 0 dX7_readLine_19 rfl ?_
  refine z_bipush (v := (-4)) C dX7_readLine_20 (by decide) ?_
  refine z_icmpeqT C 29 dX7_readLine_22 (by decide) (by decide) ?_
  refine z_iconst (v := 0) C dX7_readLine_29 (by decide) ?_
  refine z_loc C [(0, .ref (b 0)), (1, .int (-4))] [1, 0] rfl ?_
  exact w_X7_readLine_30 C b g X     u (-4) false
noncomputable def f_X7_dayGoes_56 : Nat → zM → Int32 → Option (zM)
  | 0, _, _ => none
  | n + 1, u, v2 => if z_in 34 61 = true then if (u 2 (Int32.toNatClampNeg 34)) ≤ v2 then if z_in 41 61 = true then if z_in 41 61 = true then zlet (zU u 2 (Int32.toNatClampNeg 41) ((u 2 (Int32.toNatClampNeg 41)) + 1)) (fun u1 => some u1) else none else none else if v2 = (u 0 16) then f_X7_dayGoes_56 n u (v2 + 1) else (f_X7_of u v2 4).bind fun r2 => if r2 = (-4) then (f_X7_goesOn u v2).bind fun r3 => zlet r3 fun u4 => f_X7_dayGoes_56 n u4 (v2 + 1) else f_X7_dayGoes_56 n u (v2 + 1) else none
set_option maxHeartbeats 4000000 in
set_option maxRecDepth 100000 in
theorem w_X7_dayGoes_56 {p : Program} {l : Launch} {e : Env} {s : State} {m : MethodId} {args : Array Value} {below : List Frame} {meth : Method} {c : Code} {G : zG} {A : Nat → Prop} (C : zC p s m args meth c RX7 cX7_dayGoes 3 none G A) (b : Nat → Nat) (g : Nat → Int64) (X : va_W) : ∀ (n : Nat) (u : zM) (v2 : Int32), PW p l e 7 s m args below meth c G A 3 (fun u : zM => wM b G.2 u g ++ X) (fun _ : zM => none) (fun r => r) u [(0, .ref (b 0)), (2, .int v2)] 56 [] (f_X7_dayGoes_56 n u v2) := by
  intro n
  induction n with
  | zero => intros; exact z_none
  | succ n ih =>
    intro u v2
    rw [f_X7_dayGoes_56]
    refine z_iload_n C 1 dX7_dayGoes_56 rfl ?_
    refine z_aload_n C 0 dX7_dayGoes_57 rfl ?_
    refine z_get C fl_RX7_13 has_M_0 rfl dX7_dayGoes_58 ?_
    refine z_bipush (v := 34) C dX7_dayGoes_61 (by decide) ?_
    refine y_iald C has_M_2 dX7_dayGoes_63 ?_
    refine z_icmpge C 97 dX7_dayGoes_64 (by decide) ?_ ?_
    · refine z_aload_n C 0 dX7_dayGoes_97 rfl ?_
      refine z_get C fl_RX7_13 has_M_0 rfl dX7_dayGoes_98 ?_
      refine z_bipush (v := 41) C dX7_dayGoes_101 (by decide) ?_
      refine z_dup2 C dX7_dayGoes_103 rfl rfl ?_
      refine y_iald C has_M_2 dX7_dayGoes_104 ?_
      refine z_iconst (v := 1) C dX7_dayGoes_105 (by decide) ?_
      refine z_iadd C dX7_dayGoes_106 ?_
      refine y_iast C upd_M_2 dX7_dayGoes_107 (fun u1 => ?_)
      exact z_vret C dX7_dayGoes_108 rfl rfl
    refine z_iload_n C 1 dX7_dayGoes_67 rfl ?_
    refine z_aload_n C 0 dX7_dayGoes_68 rfl ?_
    refine z_get C fl_RX7_140 has_M_0 rfl dX7_dayGoes_69 ?_
    refine z_icmpeq C 91 dX7_dayGoes_72 (by decide) ?_ ?_
    · refine z_iinc C (v := (v2 + 1)) 1 [(2, .int (v2 + 1)), (0, .ref (b 0))] dX7_dayGoes_91 rfl rfl (by decide) rfl ?_
      refine z_goto C 56 dX7_dayGoes_94 (by decide) ?_
      refine z_loc C [(0, .ref (b 0)), (2, .int (v2 + 1))] [1, 0] rfl ?_
      exact ih u (v2 + 1)
    refine z_aload_n C 0 dX7_dayGoes_75 rfl ?_
    refine z_iload_n C 1 dX7_dayGoes_76 rfl ?_
    refine z_iconst (v := 4) C dX7_dayGoes_77 (by decide) ?_
    refine y_callI C (z_invV C [.int v2, .int 4] [] (ct_X7_of l G b g X u v2 4) mi_X7_of md_X7_of ms_X7_of ml_RX7_143 has_M_0 ⟨_, rfl, rfl⟩ (by decide) rfl rfl dX7_dayGoes_78 (Nat.le_of_ble_eq_true rfl)) (List.Perm.refl _) (fun r2 => ?_)
    refine z_bipush (v := (-4)) C dX7_dayGoes_81 (by decide) ?_
    refine z_icmpne C 91 dX7_dayGoes_83 (by decide) ?_ ?_
    · refine z_aload_n C 0 dX7_dayGoes_86 rfl ?_
      refine z_iload_n C 1 dX7_dayGoes_87 rfl ?_
      refine y_callVS C (z_invV C [.int v2] [] (ct_X7_goesOn l G b g X u v2) mi_X7_goesOn md_X7_goesOn ms_X7_goesOn ml_RX7_178 has_M_0 ⟨_, rfl, rfl⟩ (by decide) rfl rfl dX7_dayGoes_88 (Nat.le_of_ble_eq_true rfl)) (List.Perm.refl _) (fun _ => List.Perm.refl _) (fun r3 u4 => ?_)
      refine z_iinc C (v := (v2 + 1)) 1 [(2, .int (v2 + 1)), (0, .ref (b 0))] dX7_dayGoes_91 rfl rfl (by decide) rfl ?_
      refine z_goto C 56 dX7_dayGoes_94 (by decide) ?_
      refine z_loc C [(0, .ref (b 0)), (2, .int (v2 + 1))] [1, 0] rfl ?_
      exact ih u4 (v2 + 1)
    refine z_iinc C (v := (v2 + 1)) 1 [(2, .int (v2 + 1)), (0, .ref (b 0))] dX7_dayGoes_91 rfl rfl (by decide) rfl ?_
    refine z_goto C 56 dX7_dayGoes_94 (by decide) ?_
    refine z_loc C [(0, .ref (b 0)), (2, .int (v2 + 1))] [1, 0] rfl ?_
    exact ih u (v2 + 1)
noncomputable def f_X7_dayGoes_2 : Nat → zM → Int32 → Int32 → Option (zM)
  | 0, _, _, _ => none
  | n + 1, u, v1, v2 => if z_in 34 61 = true then if (u 2 (Int32.toNatClampNeg 34)) ≤ v2 then f_X7_dayGoes_56 FU u 0 else if v2 = (u 0 16) then f_X7_dayGoes_2 n u v1 (v2 + 1) else (f_X7_of u v2 4).bind fun r5 => if r5 = (-4) then f_X7_dayGoes_2 n u v1 (v2 + 1) else (f_X7_of u v2 1).bind fun r6 => if v1 ≤ r6 then f_X7_dayGoes_2 n u v1 (v2 + 1) else (f_X7_blownOff u v2 v1).bind fun r7 => zlet r7 fun u8 => f_X7_dayGoes_2 n u8 v1 (v2 + 1) else none
set_option maxHeartbeats 4000000 in
set_option maxRecDepth 100000 in
theorem w_X7_dayGoes_2 {p : Program} {l : Launch} {e : Env} {s : State} {m : MethodId} {args : Array Value} {below : List Frame} {meth : Method} {c : Code} {G : zG} {A : Nat → Prop} (C : zC p s m args meth c RX7 cX7_dayGoes 3 none G A) (b : Nat → Nat) (g : Nat → Int64) (X : va_W) : ∀ (n : Nat) (u : zM) (v1 : Int32) (v2 : Int32), PW p l e 7 s m args below meth c G A 3 (fun u : zM => wM b G.2 u g ++ X) (fun _ : zM => none) (fun r => r) u [(0, .ref (b 0)), (1, .int v1), (2, .int v2)] 2 [] (f_X7_dayGoes_2 n u v1 v2) := by
  intro n
  induction n with
  | zero => intros; exact z_none
  | succ n ih =>
    intro u v1 v2
    rw [f_X7_dayGoes_2]
    refine z_iload_n C 2 dX7_dayGoes_2 rfl ?_
    refine z_aload_n C 0 dX7_dayGoes_3 rfl ?_
    refine z_get C fl_RX7_13 has_M_0 rfl dX7_dayGoes_4 ?_
    refine z_bipush (v := 34) C dX7_dayGoes_7 (by decide) ?_
    refine y_iald C has_M_2 dX7_dayGoes_9 ?_
    refine z_icmpge C 54 dX7_dayGoes_10 (by decide) ?_ ?_
    · refine z_iconst (v := 0) C dX7_dayGoes_54 (by decide) ?_
      refine z_istore_n C [(2, .int 0), (0, .ref (b 0)), (1, .int v1)] dX7_dayGoes_55 (by decide) rfl ?_
      refine z_loc C [(0, .ref (b 0)), (2, .int 0)] [1, 0] rfl ?_
      exact w_X7_dayGoes_56 C b g X    FU u 0
    refine z_iload_n C 2 dX7_dayGoes_13 rfl ?_
    refine z_aload_n C 0 dX7_dayGoes_14 rfl ?_
    refine z_get C fl_RX7_140 has_M_0 rfl dX7_dayGoes_15 ?_
    refine z_icmpeq C 48 dX7_dayGoes_18 (by decide) ?_ ?_
    · refine z_iinc C (v := (v2 + 1)) 2 [(2, .int (v2 + 1)), (0, .ref (b 0)), (1, .int v1)] dX7_dayGoes_48 rfl rfl (by decide) rfl ?_
      refine z_goto C 2 dX7_dayGoes_51 (by decide) ?_
      refine z_loc C [(0, .ref (b 0)), (1, .int v1), (2, .int (v2 + 1))] [1, 2, 0] rfl ?_
      exact ih u v1 (v2 + 1)
    refine z_aload_n C 0 dX7_dayGoes_21 rfl ?_
    refine z_iload_n C 2 dX7_dayGoes_22 rfl ?_
    refine z_iconst (v := 4) C dX7_dayGoes_23 (by decide) ?_
    refine y_callI C (z_invV C [.int v2, .int 4] [] (ct_X7_of l G b g X u v2 4) mi_X7_of md_X7_of ms_X7_of ml_RX7_143 has_M_0 ⟨_, rfl, rfl⟩ (by decide) rfl rfl dX7_dayGoes_24 (Nat.le_of_ble_eq_true rfl)) (List.Perm.refl _) (fun r5 => ?_)
    refine z_bipush (v := (-4)) C dX7_dayGoes_27 (by decide) ?_
    refine z_icmpeq C 48 dX7_dayGoes_29 (by decide) ?_ ?_
    · refine z_iinc C (v := (v2 + 1)) 2 [(2, .int (v2 + 1)), (0, .ref (b 0)), (1, .int v1)] dX7_dayGoes_48 rfl rfl (by decide) rfl ?_
      refine z_goto C 2 dX7_dayGoes_51 (by decide) ?_
      refine z_loc C [(0, .ref (b 0)), (1, .int v1), (2, .int (v2 + 1))] [1, 2, 0] rfl ?_
      exact ih u v1 (v2 + 1)
    refine z_aload_n C 0 dX7_dayGoes_32 rfl ?_
    refine z_iload_n C 2 dX7_dayGoes_33 rfl ?_
    refine z_iconst (v := 1) C dX7_dayGoes_34 (by decide) ?_
    refine y_callI C (z_invV C [.int v2, .int 1] [] (ct_X7_of l G b g X u v2 1) mi_X7_of md_X7_of ms_X7_of ml_RX7_143 has_M_0 ⟨_, rfl, rfl⟩ (by decide) rfl rfl dX7_dayGoes_35 (Nat.le_of_ble_eq_true rfl)) (List.Perm.refl _) (fun r6 => ?_)
    refine z_iload_n C 1 dX7_dayGoes_38 rfl ?_
    refine z_icmpge C 48 dX7_dayGoes_39 (by decide) ?_ ?_
    · refine z_iinc C (v := (v2 + 1)) 2 [(2, .int (v2 + 1)), (0, .ref (b 0)), (1, .int v1)] dX7_dayGoes_48 rfl rfl (by decide) rfl ?_
      refine z_goto C 2 dX7_dayGoes_51 (by decide) ?_
      refine z_loc C [(0, .ref (b 0)), (1, .int v1), (2, .int (v2 + 1))] [1, 2, 0] rfl ?_
      exact ih u v1 (v2 + 1)
    refine z_aload_n C 0 dX7_dayGoes_42 rfl ?_
    refine z_iload_n C 2 dX7_dayGoes_43 rfl ?_
    refine z_iload_n C 1 dX7_dayGoes_44 rfl ?_
    refine y_callVS C (z_invV C [.int v2, .int v1] [] (ct_X7_blownOff l G b g X u v2 v1) mi_X7_blownOff md_X7_blownOff ms_X7_blownOff ml_RX7_174 has_M_0 ⟨_, rfl, rfl⟩ (by decide) rfl rfl dX7_dayGoes_45 (Nat.le_of_ble_eq_true rfl)) (List.Perm.refl _) (fun _ => List.Perm.refl _) (fun r7 u8 => ?_)
    refine z_iinc C (v := (v2 + 1)) 2 [(2, .int (v2 + 1)), (0, .ref (b 0)), (1, .int v1)] dX7_dayGoes_48 rfl rfl (by decide) rfl ?_
    refine z_goto C 2 dX7_dayGoes_51 (by decide) ?_
    refine z_loc C [(0, .ref (b 0)), (1, .int v1), (2, .int (v2 + 1))] [1, 2, 0] rfl ?_
    exact ih u8 v1 (v2 + 1)
noncomputable def f_X7_dayGoes (u : zM) (v1 : Int32) : Option (zM) := f_X7_dayGoes_2 FU u v1 0
set_option maxHeartbeats 4000000 in
set_option maxRecDepth 100000 in
theorem ct_X7_dayGoes (l : Launch) (G : zG) (b : Nat → Nat) (g : Nat → Int64) (X : va_W) (u : zM) (v1 : Int32) : zCt l yX7_dayGoes cX7_dayGoes 3 none 7 G [.ref (b 0), .int v1] (fun u : zM => wM b G.2 u g ++ X) (fun _ : zM => none) (fun r => r) u (f_X7_dayGoes u v1) := by
  refine zCt.of (by decide) (Nat.le_of_ble_eq_true rfl) (fun p e s m args below meth c A C => ?_)
  refine y_lv (lv' := [(0, .ref (b 0)), (1, .int v1)]) rfl ?_
  rw [f_X7_dayGoes]
  refine z_iconst (v := 0) C dX7_dayGoes_0 (by decide) ?_
  refine z_istore_n C [(2, .int 0), (0, .ref (b 0)), (1, .int v1)] dX7_dayGoes_1 (by decide) rfl ?_
  refine z_loc C [(0, .ref (b 0)), (1, .int v1), (2, .int 0)] [1, 2, 0] rfl ?_
  exact w_X7_dayGoes_2 C b g X    FU u v1 0
noncomputable def f_X7_text_73 (u : zM) (v1 : Int32) : Option (Int32 × zM) := zlet (zU u 0 9 0) fun u9 => if (u9 0 14) ≤ 0 then (f_X7_keepDraft u9).bind fun r10 => zlet r10 fun u11 => some (v1, u11) else some (((-10) - (u9 0 15)), u9)
set_option maxHeartbeats 4000000 in
set_option maxRecDepth 100000 in
theorem w_X7_text_73 {p : Program} {l : Launch} {e : Env} {s : State} {m : MethodId} {args : Array Value} {below : List Frame} {meth : Method} {c : Code} {G : zG} {A : Nat → Prop} (C : zC p s m args meth c RX7 cX7_text 2 (some .int) G A) (b : Nat → Nat) (g : Nat → Int64) (X : va_W) : ∀ (u : zM) (v1 : Int32), PW p l e 7 s m args below meth c G A 2 (fun u : zM => wM b G.2 u g ++ X) (fun r : Int32 × zM => some (.int r.1)) (fun r => r.2) u [(0, .ref (b 0)), (1, .int v1)] 73 [] (f_X7_text_73 u v1) := by
  intro u v1
  rw [f_X7_text_73]
  refine z_aload_n C 0 dX7_text_73 rfl ?_
  refine z_iconst (v := 0) C dX7_text_74 (by decide) ?_
  refine z_put C fl_RX7_69 ft_7_9 upd_M_0_9 rfl rfl (Nat.le_of_ble_eq_true rfl) dX7_text_75 (fun u9 => ?_)
  refine z_aload_n C 0 dX7_text_78 rfl ?_
  refine z_get C fl_RX7_72 has_M_0 rfl dX7_text_79 ?_
  refine z_ifle C 93 dX7_text_82 (by decide) ?_ ?_
  · refine z_aload_n C 0 dX7_text_93 rfl ?_
    refine y_callVS C (z_invV C [] [] (ct_X7_keepDraft l G b g X u9 ) mi_X7_keepDraft md_X7_keepDraft ms_X7_keepDraft ml_RX7_47 has_M_0 ⟨_, rfl, rfl⟩ (by decide) rfl rfl dX7_text_94 (Nat.le_of_ble_eq_true rfl)) (List.Perm.refl _) (fun _ => List.Perm.refl _) (fun r10 u11 => ?_)
    refine z_iload_n C 1 dX7_text_97 rfl ?_
    exact z_iret C dX7_text_98 rfl rfl rfl
  refine z_bipush (v := (-10)) C dX7_text_85 (by decide) ?_
  refine z_aload_n C 0 dX7_text_87 rfl ?_
  refine z_get C fl_RX7_78 has_M_0 rfl dX7_text_88 ?_
  refine z_isub C dX7_text_91 ?_
  exact z_iret C dX7_text_92 rfl rfl rfl
noncomputable def f_X7_text_44 (u : zM) (v1 : Int32) : Option (Int32 × zM) := if (u 0 14) = 0 then if (u 0 5) ≤ (u 0 7) then (f_X7_needs u 0 6).bind fun r7 => zlet r7 fun u8 => f_X7_text_73  u8 v1 else (f_X7_needs u 1 6).bind fun r12 => zlet r12 fun u13 => f_X7_text_73  u13 v1 else f_X7_text_73  u v1
set_option maxHeartbeats 4000000 in
set_option maxRecDepth 100000 in
theorem w_X7_text_44 {p : Program} {l : Launch} {e : Env} {s : State} {m : MethodId} {args : Array Value} {below : List Frame} {meth : Method} {c : Code} {G : zG} {A : Nat → Prop} (C : zC p s m args meth c RX7 cX7_text 2 (some .int) G A) (b : Nat → Nat) (g : Nat → Int64) (X : va_W) : ∀ (u : zM) (v1 : Int32), PW p l e 7 s m args below meth c G A 2 (fun u : zM => wM b G.2 u g ++ X) (fun r : Int32 × zM => some (.int r.1)) (fun r => r.2) u [(0, .ref (b 0)), (1, .int v1)] 44 [] (f_X7_text_44 u v1) := by
  intro u v1
  rw [f_X7_text_44]
  refine z_aload_n C 0 dX7_text_44 rfl ?_
  refine z_get C fl_RX7_72 has_M_0 rfl dX7_text_45 ?_
  refine z_ifne C 73 dX7_text_48 (by decide) ?_ ?_
  · refine z_aload_n C 0 dX7_text_51 rfl ?_
    refine z_aload_n C 0 dX7_text_52 rfl ?_
    refine z_get C fl_RX7_57 has_M_0 rfl dX7_text_53 ?_
    refine z_aload_n C 0 dX7_text_56 rfl ?_
    refine z_get C fl_RX7_50 has_M_0 rfl dX7_text_57 ?_
    refine z_icmpge C 67 dX7_text_60 (by decide) ?_ ?_
    · refine z_iconst (v := 0) C dX7_text_67 (by decide) ?_
      refine z_bipush (v := 6) C dX7_text_68 (by decide) ?_
      refine y_callVS C (z_invV C [.int 0, .int 6] [] (ct_X7_needs l G b g X u 0 6) mi_X7_needs md_X7_needs ms_X7_needs ml_RX7_110 has_M_0 ⟨_, rfl, rfl⟩ (by decide) rfl rfl dX7_text_70 (Nat.le_of_ble_eq_true rfl)) (List.Perm.refl _) (fun _ => List.Perm.refl _) (fun r7 u8 => ?_)
      exact w_X7_text_73 C b g X     u8 v1
    refine z_iconst (v := 1) C dX7_text_63 (by decide) ?_
    refine z_goto C 68 dX7_text_64 (by decide) ?_
    refine z_bipush (v := 6) C dX7_text_68 (by decide) ?_
    refine y_callVS C (z_invV C [.int 1, .int 6] [] (ct_X7_needs l G b g X u 1 6) mi_X7_needs md_X7_needs ms_X7_needs ml_RX7_110 has_M_0 ⟨_, rfl, rfl⟩ (by decide) rfl rfl dX7_text_70 (Nat.le_of_ble_eq_true rfl)) (List.Perm.refl _) (fun _ => List.Perm.refl _) (fun r12 u13 => ?_)
    exact w_X7_text_73 C b g X     u13 v1
  exact w_X7_text_73 C b g X     u v1
noncomputable def f_X7_text_20 : Nat → zM → Int32 → Option (Int32 × zM)
  | 0, _, _ => none
  | n + 1, u, v1 => if (u 0 14) = 0 then if (u 0 12) = 0 then f_X7_text_44  u v1 else (f_X7_readLine u).bind fun r14 => zlet r14 fun u15 => f_X7_text_20 n u15 (v1 + 1) else f_X7_text_44  u v1
set_option maxHeartbeats 4000000 in
set_option maxRecDepth 100000 in
theorem w_X7_text_20 {p : Program} {l : Launch} {e : Env} {s : State} {m : MethodId} {args : Array Value} {below : List Frame} {meth : Method} {c : Code} {G : zG} {A : Nat → Prop} (C : zC p s m args meth c RX7 cX7_text 2 (some .int) G A) (b : Nat → Nat) (g : Nat → Int64) (X : va_W) : ∀ (n : Nat) (u : zM) (v1 : Int32), PW p l e 7 s m args below meth c G A 2 (fun u : zM => wM b G.2 u g ++ X) (fun r : Int32 × zM => some (.int r.1)) (fun r => r.2) u [(0, .ref (b 0)), (1, .int v1)] 20 [] (f_X7_text_20 n u v1) := by
  intro n
  induction n with
  | zero => intros; exact z_none
  | succ n ih =>
    intro u v1
    rw [f_X7_text_20]
    refine z_aload_n C 0 dX7_text_20 rfl ?_
    refine z_get C fl_RX7_72 has_M_0 rfl dX7_text_21 ?_
    refine z_ifne C 44 dX7_text_24 (by decide) ?_ ?_
    · refine z_aload_n C 0 dX7_text_27 rfl ?_
      refine z_get C fl_RX7_96 has_M_0 rfl dX7_text_28 ?_
      refine z_ifeq C 44 dX7_text_31 (by decide) ?_ ?_
      · exact w_X7_text_44 C b g X     u v1
      refine z_aload_n C 0 dX7_text_34 rfl ?_
      refine y_callVS C (z_invV C [] [] (ct_X7_readLine l G b g X u ) mi_X7_readLine md_X7_readLine ms_X7_readLine ml_RX7_135 has_M_0 ⟨_, rfl, rfl⟩ (by decide) rfl rfl dX7_text_35 (Nat.le_of_ble_eq_true rfl)) (List.Perm.refl _) (fun _ => List.Perm.refl _) (fun r14 u15 => ?_)
      refine z_iinc C (v := (v1 + 1)) 1 [(1, .int (v1 + 1)), (0, .ref (b 0))] dX7_text_38 rfl rfl (by decide) rfl ?_
      refine z_goto C 20 dX7_text_41 (by decide) ?_
      refine z_loc C [(0, .ref (b 0)), (1, .int (v1 + 1))] [1, 0] rfl ?_
      exact ih u15 (v1 + 1)
    exact w_X7_text_44 C b g X     u v1
noncomputable def f_X7_text (u : zM) : Option (Int32 × zM) := zlet (zU u 0 14 0) fun u1 => zlet (zU u1 0 10 0) fun u2 => (f_X7_firstDraft u2).bind fun r3 => zlet r3 fun u4 => (f_X7_takes u4).bind fun r5 => zlet r5 fun u6 => f_X7_text_20 FU u6 0
set_option maxHeartbeats 4000000 in
set_option maxRecDepth 100000 in
theorem ct_X7_text (l : Launch) (G : zG) (b : Nat → Nat) (g : Nat → Int64) (X : va_W) (u : zM) : zCt l yX7_text cX7_text 2 (some .int) 7 G [.ref (b 0)] (fun u : zM => wM b G.2 u g ++ X) (fun r : Int32 × zM => some (.int r.1)) (fun r => r.2) u (f_X7_text u) := by
  refine zCt.of (by decide) (Nat.le_of_ble_eq_true rfl) (fun p e s m args below meth c A C => ?_)
  refine y_lv (lv' := [(0, .ref (b 0))]) rfl ?_
  rw [f_X7_text]
  refine z_iconst (v := 0) C dX7_text_0 (by decide) ?_
  refine z_istore_n C [(1, .int 0), (0, .ref (b 0))] dX7_text_1 (by decide) rfl ?_
  refine z_aload_n C 1 dX7_text_2 rfl ?_
  refine z_iconst (v := 0) C dX7_text_3 (by decide) ?_
  refine z_put C fl_RX7_72 ft_7_14 upd_M_0_14 rfl rfl (Nat.le_of_ble_eq_true rfl) dX7_text_4 (fun u1 => ?_)
  refine z_aload_n C 1 dX7_text_7 rfl ?_
  refine z_iconst (v := 0) C dX7_text_8 (by decide) ?_
  refine z_put C fl_RX7_81 ft_7_10 upd_M_0_10 rfl rfl (Nat.le_of_ble_eq_true rfl) dX7_text_9 (fun u2 => ?_)
  refine z_aload_n C 1 dX7_text_12 rfl ?_
  refine y_callVS C (z_invV C [] [] (ct_X7_firstDraft l G b g X u2 ) mi_X7_firstDraft md_X7_firstDraft ms_X7_firstDraft ml_RX7_44 has_M_0 ⟨_, rfl, rfl⟩ (by decide) rfl rfl dX7_text_13 (Nat.le_of_ble_eq_true rfl)) (List.Perm.refl _) (fun _ => List.Perm.refl _) (fun r3 u4 => ?_)
  refine z_aload_n C 1 dX7_text_16 rfl ?_
  refine y_callVS C (z_invV C [] [] (ct_X7_takes l G b g X u4 ) mi_X7_takes md_X7_takes ms_X7_takes ml_RX7_118 has_M_0 ⟨_, rfl, rfl⟩ (by decide) rfl rfl dX7_text_17 (Nat.le_of_ble_eq_true rfl)) (List.Perm.refl _) (fun _ => List.Perm.refl _) (fun r5 u6 => ?_)
  refine z_loc C [(0, .ref (b 0)), (1, .int 0)] [1, 0] rfl ?_
  exact w_X7_text_20 C b g X    FU u6 0
noncomputable def f_X7_daysGo_12 : Nat → zM → Int32 → Int32 → Option (zM)
  | 0, _, _, _ => none
  | n + 1, u, v1, v2 => if v1 ≤ v2 then some u else (f_X7_strengthNow u).bind fun r3 => (f_X7_dayGoes u r3).bind fun r4 => zlet r4 fun u5 => f_X7_daysGo_12 n u5 v1 (v2 + 1)
set_option maxHeartbeats 4000000 in
set_option maxRecDepth 100000 in
theorem w_X7_daysGo_12 {p : Program} {l : Launch} {e : Env} {s : State} {m : MethodId} {args : Array Value} {below : List Frame} {meth : Method} {c : Code} {G : zG} {A : Nat → Prop} (C : zC p s m args meth c RX7 cX7_daysGo 3 none G A) (b : Nat → Nat) (g : Nat → Int64) (X : va_W) : ∀ (n : Nat) (u : zM) (v1 : Int32) (v2 : Int32), PW p l e 8 s m args below meth c G A 3 (fun u : zM => wM b G.2 u g ++ X) (fun _ : zM => none) (fun r => r) u [(0, .ref (b 0)), (1, .int v1), (2, .int v2)] 12 [] (f_X7_daysGo_12 n u v1 v2) := by
  intro n
  induction n with
  | zero => intros; exact z_none
  | succ n ih =>
    intro u v1 v2
    rw [f_X7_daysGo_12]
    refine z_iload_n C 2 dX7_daysGo_12 rfl ?_
    refine z_iload_n C 1 dX7_daysGo_13 rfl ?_
    refine z_icmpge C 31 dX7_daysGo_14 (by decide) ?_ ?_
    · exact z_vret C dX7_daysGo_31 rfl rfl
    refine z_aload_n C 0 dX7_daysGo_17 rfl ?_
    refine z_aload_n C 0 dX7_daysGo_18 rfl ?_
    refine y_callI C (z_invV C [] [.ref (b 0)] (ct_X7_strengthNow l G b g X u ) mi_X7_strengthNow md_X7_strengthNow ms_X7_strengthNow ml_RX7_181 has_M_0 ⟨_, rfl, rfl⟩ (by decide) rfl rfl dX7_daysGo_19 (Nat.le_of_ble_eq_true rfl)) (List.Perm.refl _) (fun r3 => ?_)
    refine y_callVS C (z_invV C [.int r3] [] (ct_X7_dayGoes l G b g X u r3) mi_X7_dayGoes md_X7_dayGoes ms_X7_dayGoes ml_RX7_184 has_M_0 ⟨_, rfl, rfl⟩ (by decide) rfl rfl dX7_daysGo_22 (Nat.le_of_ble_eq_true rfl)) (List.Perm.refl _) (fun _ => List.Perm.refl _) (fun r4 u5 => ?_)
    refine z_iinc C (v := (v2 + 1)) 2 [(2, .int (v2 + 1)), (0, .ref (b 0)), (1, .int v1)] dX7_daysGo_25 rfl rfl (by decide) rfl ?_
    refine z_goto C 12 dX7_daysGo_28 (by decide) ?_
    refine z_loc C [(0, .ref (b 0)), (1, .int v1), (2, .int (v2 + 1))] [1, 2, 0] rfl ?_
    exact ih u5 v1 (v2 + 1)
noncomputable def f_X7_daysGo (u : zM) (v1 : Int32) : Option (zM) := zlet (zU u 0 17 0) fun u1 => zlet (zU u1 0 18 0) fun u2 => f_X7_daysGo_12 FU u2 v1 0
set_option maxHeartbeats 4000000 in
set_option maxRecDepth 100000 in
theorem ct_X7_daysGo (l : Launch) (G : zG) (b : Nat → Nat) (g : Nat → Int64) (X : va_W) (u : zM) (v1 : Int32) : zCt l yX7_daysGo cX7_daysGo 3 none 8 G [.ref (b 0), .int v1] (fun u : zM => wM b G.2 u g ++ X) (fun _ : zM => none) (fun r => r) u (f_X7_daysGo u v1) := by
  refine zCt.of (by decide) (Nat.le_of_ble_eq_true rfl) (fun p e s m args below meth c A C => ?_)
  refine y_lv (lv' := [(0, .ref (b 0)), (1, .int v1)]) rfl ?_
  rw [f_X7_daysGo]
  refine z_aload_n C 0 dX7_daysGo_0 rfl ?_
  refine z_iconst (v := 0) C dX7_daysGo_1 (by decide) ?_
  refine z_put C fl_RX7_162 ft_7_17 upd_M_0_17 rfl rfl (Nat.le_of_ble_eq_true rfl) dX7_daysGo_2 (fun u1 => ?_)
  refine z_aload_n C 0 dX7_daysGo_5 rfl ?_
  refine z_iconst (v := 0) C dX7_daysGo_6 (by decide) ?_
  refine z_put C fl_RX7_171 ft_7_18 upd_M_0_18 rfl rfl (Nat.le_of_ble_eq_true rfl) dX7_daysGo_7 (fun u2 => ?_)
  refine z_iconst (v := 0) C dX7_daysGo_10 (by decide) ?_
  refine z_istore_n C [(2, .int 0), (0, .ref (b 0)), (1, .int v1)] dX7_daysGo_11 (by decide) rfl ?_
  refine z_loc C [(0, .ref (b 0)), (1, .int v1), (2, .int 0)] [1, 2, 0] rfl ?_
  exact w_X7_daysGo_12 C b g X    FU u2 v1 0
noncomputable def f_X7_daysTo_2 : Nat → zM → Int32 → Int32 → Option (Int32 × zM)
  | 0, _, _, _ => none
  | n + 1, u, v1, v2 => if 60 < v2 then some ((-4), u) else (f_X7_of u v1 4).bind fun r1 => if r1 = (-4) then (f_X7_strengthNow u).bind fun r2 => (f_X7_dayGoes u r2).bind fun r3 => zlet r3 fun u4 => f_X7_daysTo_2 n u4 v1 (v2 + 1) else some (v2, u)
set_option maxHeartbeats 4000000 in
set_option maxRecDepth 100000 in
theorem w_X7_daysTo_2 {p : Program} {l : Launch} {e : Env} {s : State} {m : MethodId} {args : Array Value} {below : List Frame} {meth : Method} {c : Code} {G : zG} {A : Nat → Prop} (C : zC p s m args meth c RX7 cX7_daysTo 3 (some .int) G A) (b : Nat → Nat) (g : Nat → Int64) (X : va_W) : ∀ (n : Nat) (u : zM) (v1 : Int32) (v2 : Int32), PW p l e 8 s m args below meth c G A 3 (fun u : zM => wM b G.2 u g ++ X) (fun r : Int32 × zM => some (.int r.1)) (fun r => r.2) u [(0, .ref (b 0)), (1, .int v1), (2, .int v2)] 2 [] (f_X7_daysTo_2 n u v1 v2) := by
  intro n
  induction n with
  | zero => intros; exact z_none
  | succ n ih =>
    intro u v1 v2
    rw [f_X7_daysTo_2]
    refine z_iload_n C 2 dX7_daysTo_2 rfl ?_
    refine z_bipush (v := 60) C dX7_daysTo_3 (by decide) ?_
    refine z_icmpgt C 35 dX7_daysTo_5 (by decide) ?_ ?_
    · refine z_bipush (v := (-4)) C dX7_daysTo_35 (by decide) ?_
      exact z_iret C dX7_daysTo_37 rfl rfl rfl
    refine z_aload_n C 0 dX7_daysTo_8 rfl ?_
    refine z_iload_n C 1 dX7_daysTo_9 rfl ?_
    refine z_iconst (v := 4) C dX7_daysTo_10 (by decide) ?_
    refine y_callI C (z_invV C [.int v1, .int 4] [] (ct_X7_of l G b g X u v1 4) mi_X7_of md_X7_of ms_X7_of ml_RX7_143 has_M_0 ⟨_, rfl, rfl⟩ (by decide) rfl rfl dX7_daysTo_11 (Nat.le_of_ble_eq_true rfl)) (List.Perm.refl _) (fun r1 => ?_)
    refine z_bipush (v := (-4)) C dX7_daysTo_14 (by decide) ?_
    refine z_icmpeq C 21 dX7_daysTo_16 (by decide) ?_ ?_
    · refine z_aload_n C 0 dX7_daysTo_21 rfl ?_
      refine z_aload_n C 0 dX7_daysTo_22 rfl ?_
      refine y_callI C (z_invV C [] [.ref (b 0)] (ct_X7_strengthNow l G b g X u ) mi_X7_strengthNow md_X7_strengthNow ms_X7_strengthNow ml_RX7_181 has_M_0 ⟨_, rfl, rfl⟩ (by decide) rfl rfl dX7_daysTo_23 (Nat.le_of_ble_eq_true rfl)) (List.Perm.refl _) (fun r2 => ?_)
      refine y_callVS C (z_invV C [.int r2] [] (ct_X7_dayGoes l G b g X u r2) mi_X7_dayGoes md_X7_dayGoes ms_X7_dayGoes ml_RX7_184 has_M_0 ⟨_, rfl, rfl⟩ (by decide) rfl rfl dX7_daysTo_26 (Nat.le_of_ble_eq_true rfl)) (List.Perm.refl _) (fun _ => List.Perm.refl _) (fun r3 u4 => ?_)
      refine z_iinc C (v := (v2 + 1)) 2 [(2, .int (v2 + 1)), (0, .ref (b 0)), (1, .int v1)] dX7_daysTo_29 rfl rfl (by decide) rfl ?_
      refine z_goto C 2 dX7_daysTo_32 (by decide) ?_
      refine z_loc C [(0, .ref (b 0)), (1, .int v1), (2, .int (v2 + 1))] [1, 2, 0] rfl ?_
      exact ih u4 v1 (v2 + 1)
    refine z_iload_n C 2 dX7_daysTo_19 rfl ?_
    exact z_iret C dX7_daysTo_20 rfl rfl rfl
noncomputable def f_X7_daysTo (u : zM) (v1 : Int32) : Option (Int32 × zM) := f_X7_daysTo_2 FU u v1 0
set_option maxHeartbeats 4000000 in
set_option maxRecDepth 100000 in
theorem ct_X7_daysTo (l : Launch) (G : zG) (b : Nat → Nat) (g : Nat → Int64) (X : va_W) (u : zM) (v1 : Int32) : zCt l yX7_daysTo cX7_daysTo 3 (some .int) 8 G [.ref (b 0), .int v1] (fun u : zM => wM b G.2 u g ++ X) (fun r : Int32 × zM => some (.int r.1)) (fun r => r.2) u (f_X7_daysTo u v1) := by
  refine zCt.of (by decide) (Nat.le_of_ble_eq_true rfl) (fun p e s m args below meth c A C => ?_)
  refine y_lv (lv' := [(0, .ref (b 0)), (1, .int v1)]) rfl ?_
  rw [f_X7_daysTo]
  refine z_iconst (v := 0) C dX7_daysTo_0 (by decide) ?_
  refine z_istore_n C [(2, .int 0), (0, .ref (b 0)), (1, .int v1)] dX7_daysTo_1 (by decide) rfl ?_
  refine z_loc C [(0, .ref (b 0)), (1, .int v1), (2, .int 0)] [1, 2, 0] rfl ?_
  exact w_X7_daysTo_2 C b g X    FU u v1 0
noncomputable def f_X7_drift_49 : Nat → zM → Int32 → Int32 → Int32 → Int32 → Option (Int32 × zM)
  | 0, _, _, _, _, _ => none
  | n + 1, u, v2, v3, v4, v5 => if v2 ≤ v5 then if v3 = 0 then some ((u 0 18), u) else (f_X7_allCounted u).bind fun r6 => some (r6, u) else (f_X7_dayGoes u (((((v4 * 1103515245) + 12345) >>> ((16 : Int32) &&& 31)) &&& 32767) - ((((v4 * 1103515245) + 12345) >>> ((16 : Int32) &&& 31)) &&& 32767) / 10 * 10)).bind fun r7 => zlet r7 fun u8 => f_X7_drift_49 n u8 v2 v3 ((v4 * 1103515245) + 12345) (v5 + 1)
set_option maxHeartbeats 4000000 in
set_option maxRecDepth 100000 in
theorem w_X7_drift_49 {p : Program} {l : Launch} {e : Env} {s : State} {m : MethodId} {args : Array Value} {below : List Frame} {meth : Method} {c : Code} {G : zG} {A : Nat → Prop} (C : zC p s m args meth c RX7 cX7_drift 6 (some .int) G A) (b : Nat → Nat) (g : Nat → Int64) (X : va_W) : ∀ (n : Nat) (u : zM) (v2 : Int32) (v3 : Int32) (v4 : Int32) (v5 : Int32), PW p l e 8 s m args below meth c G A 6 (fun u : zM => wM b G.2 u g ++ X) (fun r : Int32 × zM => some (.int r.1)) (fun r => r.2) u [(0, .ref (b 0)), (2, .int v2), (3, .int v3), (4, .int v4), (5, .int v5)] 49 [] (f_X7_drift_49 n u v2 v3 v4 v5) := by
  intro n
  induction n with
  | zero => intros; exact z_none
  | succ n ih =>
    intro u v2 v3 v4 v5
    rw [f_X7_drift_49]
    refine z_iload C 4 dX7_drift_49 rfl ?_
    refine z_iload_n C 1 dX7_drift_51 rfl ?_
    refine z_icmpge C 89 dX7_drift_52 (by decide) ?_ ?_
    · refine z_iload_n C 2 dX7_drift_89 rfl ?_
      refine z_ifne C 100 dX7_drift_90 (by decide) ?_ ?_
      · refine z_aload_n C 0 dX7_drift_93 rfl ?_
        refine z_get C fl_RX7_171 has_M_0 rfl dX7_drift_94 ?_
        refine z_goto C 104 dX7_drift_97 (by decide) ?_
        exact z_iret C dX7_drift_104 rfl rfl rfl
      refine z_aload_n C 0 dX7_drift_100 rfl ?_
      refine y_callI C (z_invV C [] [] (ct_X7_allCounted l G b g X u ) mi_X7_allCounted md_X7_allCounted ms_X7_allCounted ml_RX7_197 has_M_0 ⟨_, rfl, rfl⟩ (by decide) rfl rfl dX7_drift_101 (Nat.le_of_ble_eq_true rfl)) (List.Perm.refl _) (fun r6 => ?_)
      exact z_iret C dX7_drift_104 rfl rfl rfl
    refine z_iload C 3 dX7_drift_55 rfl ?_
    refine z_ldcw C kc_RX7_285 dX7_drift_57 ?_
    refine z_imul C dX7_drift_60 ?_
    refine z_sipush (v := 12345) C dX7_drift_61 (by decide) ?_
    refine z_iadd C dX7_drift_64 ?_
    refine z_istore C [(4, .int ((v4 * 1103515245) + 12345)), (0, .ref (b 0)), (2, .int v2), (3, .int v3), (5, .int v5)] dX7_drift_65 (by decide) rfl ?_
    refine z_aload_n C 1 dX7_drift_67 rfl ?_
    refine z_iload C 0 dX7_drift_68 rfl ?_
    refine z_bipush (v := 16) C dX7_drift_70 (by decide) ?_
    refine z_ishr C dX7_drift_72 ?_
    refine z_sipush (v := 32767) C dX7_drift_73 (by decide) ?_
    refine z_iand C dX7_drift_76 ?_
    refine z_bipush (v := 10) C dX7_drift_77 (by decide) ?_
    refine z_iremK C (by decide) dX7_drift_79 ?_
    refine y_callVS C (z_invV C [.int (((((v4 * 1103515245) + 12345) >>> ((16 : Int32) &&& 31)) &&& 32767) - ((((v4 * 1103515245) + 12345) >>> ((16 : Int32) &&& 31)) &&& 32767) / 10 * 10)] [] (ct_X7_dayGoes l G b g X u (((((v4 * 1103515245) + 12345) >>> ((16 : Int32) &&& 31)) &&& 32767) - ((((v4 * 1103515245) + 12345) >>> ((16 : Int32) &&& 31)) &&& 32767) / 10 * 10)) mi_X7_dayGoes md_X7_dayGoes ms_X7_dayGoes ml_RX7_184 has_M_0 ⟨_, rfl, rfl⟩ (by decide) rfl rfl dX7_drift_80 (Nat.le_of_ble_eq_true rfl)) (List.Perm.refl _) (fun _ => List.Perm.refl _) (fun r7 u8 => ?_)
    refine z_iinc C (v := (v5 + 1)) 4 [(5, .int (v5 + 1)), (4, .int ((v4 * 1103515245) + 12345)), (0, .ref (b 0)), (2, .int v2), (3, .int v3)] dX7_drift_83 rfl rfl (by decide) rfl ?_
    refine z_goto C 49 dX7_drift_86 (by decide) ?_
    refine z_loc C [(0, .ref (b 0)), (2, .int v2), (3, .int v3), (4, .int ((v4 * 1103515245) + 12345)), (5, .int (v5 + 1))] [2, 3, 4, 1, 0] rfl ?_
    exact ih u8 v2 v3 ((v4 * 1103515245) + 12345) (v5 + 1)
noncomputable def f_X7_drift (u : zM) (v1 : Int32) (v2 : Int32) (v3 : Int32) : Option (Int32 × zM) := (f_X7_in (Int32.toInt64 v2) (1 : Int64) (60 : Int64)).bind fun r1 => if r1 = true then (f_X7_isPart v3).bind fun r2 => if r2 = true then if z_in 34 183 = true then if (u 1 (Int32.toNatClampNeg 34)) = 0 then some ((-2), u) else (f_X7_starts u).bind fun r3 => zlet r3 fun u4 => zlet (zU u4 0 18 0) fun u5 => f_X7_drift_49 FU u5 v2 v3 v1 0 else none else some ((-1), u) else some ((-1), u)
set_option maxHeartbeats 4000000 in
set_option maxRecDepth 100000 in
theorem ct_X7_drift (l : Launch) (G : zG) (b : Nat → Nat) (g : Nat → Int64) (X : va_W) (u : zM) (v1 : Int32) (v2 : Int32) (v3 : Int32) : zCt l yX7_drift cX7_drift 6 (some .int) 8 G [.ref (b 0), .int v1, .int v2, .int v3] (fun u : zM => wM b G.2 u g ++ X) (fun r : Int32 × zM => some (.int r.1)) (fun r => r.2) u (f_X7_drift u v1 v2 v3) := by
  refine zCt.of (by decide) (Nat.le_of_ble_eq_true rfl) (fun p e s m args below meth c A C => ?_)
  refine y_lv (lv' := [(0, .ref (b 0)), (1, .int v1), (2, .int v2), (3, .int v3)]) rfl ?_
  rw [f_X7_drift]
  refine z_iload_n C 2 dX7_drift_0 rfl ?_
  refine z_i2l C dX7_drift_1 ?_
  refine z_lconst (v := 1) C dX7_drift_2 (by decide) ?_
  refine z_ldc2 C kc_RX7_232 dX7_drift_3 ?_
  refine y_callZ C (z_invS C [.long (Int32.toInt64 v2), .long (1 : Int64), .long (60 : Int64)] [] (ct_X7_in l G ((fun u : zM => wM b G.2 u g ++ X) u) (Int32.toInt64 v2) (1 : Int64) (60 : Int64)) mi_X7_in mt_X7_in ml_RX7_65 (by decide) rfl rfl dX7_drift_6 (Nat.le_of_ble_eq_true rfl)) (List.Perm.refl _) (fun r1 => ?_)
  refine z_zifeq C 19 dX7_drift_9 (by decide) ?_ ?_
  · refine z_iload_n C 3 dX7_drift_12 rfl ?_
    refine y_callZ C (z_invS C [.int v3] [] (ct_X7_isPart l G ((fun u : zM => wM b G.2 u g ++ X) u) v3) mi_X7_isPart mt_X7_isPart ml_RX7_240 (by decide) rfl rfl dX7_drift_13 (Nat.le_of_ble_eq_true rfl)) (List.Perm.refl _) (fun r2 => ?_)
    refine z_zifne C 21 dX7_drift_16 (by decide) ?_ ?_
    · refine z_aload_n C 0 dX7_drift_21 rfl ?_
      refine z_get C fl_RX7_7 has_M_0 rfl dX7_drift_22 ?_
      refine z_bipush (v := 34) C dX7_drift_25 (by decide) ?_
      refine y_iald C has_M_1 dX7_drift_27 ?_
      refine z_ifne C 34 dX7_drift_28 (by decide) ?_ ?_
      · refine z_bipush (v := (-2)) C dX7_drift_31 (by decide) ?_
        exact z_iret C dX7_drift_33 rfl rfl rfl
      refine z_iload_n C 1 dX7_drift_34 rfl ?_
      refine z_istore C [(4, .int v1), (0, .ref (b 0)), (1, .int v1), (2, .int v2), (3, .int v3)] dX7_drift_35 (by decide) rfl ?_
      refine z_aload_n C 1 dX7_drift_37 rfl ?_
      refine y_callVS C (z_invV C [] [] (ct_X7_starts l G b g X u ) mi_X7_starts md_X7_starts ms_X7_starts ml_RX7_191 has_M_0 ⟨_, rfl, rfl⟩ (by decide) rfl rfl dX7_drift_38 (Nat.le_of_ble_eq_true rfl)) (List.Perm.refl _) (fun _ => List.Perm.refl _) (fun r3 u4 => ?_)
      refine z_aload_n C 1 dX7_drift_41 rfl ?_
      refine z_iconst (v := 0) C dX7_drift_42 (by decide) ?_
      refine z_put C fl_RX7_171 ft_7_18 upd_M_0_18 rfl rfl (Nat.le_of_ble_eq_true rfl) dX7_drift_43 (fun u5 => ?_)
      refine z_iconst (v := 0) C dX7_drift_46 (by decide) ?_
      refine z_istore C [(5, .int 0), (4, .int v1), (0, .ref (b 0)), (1, .int v1), (2, .int v2), (3, .int v3)] dX7_drift_47 (by decide) rfl ?_
      refine z_loc C [(0, .ref (b 0)), (2, .int v2), (3, .int v3), (4, .int v1), (5, .int 0)] [2, 4, 5, 1, 0] rfl ?_
      exact w_X7_drift_49 C b g X    FU u5 v2 v3 v1 0
    refine z_iconst (v := (-1)) C dX7_drift_19 (by decide) ?_
    exact z_iret C dX7_drift_20 rfl rfl rfl
  refine z_iconst (v := (-1)) C dX7_drift_19 (by decide) ?_
  exact z_iret C dX7_drift_20 rfl rfl rfl
noncomputable def f_X7_findOdds_161 (k46 : (zM × (Nat → Int64)) → Int32 → Int32 → Int32 → Int32 → Int32 → Option ((zM × (Nat → Int64)))) (u : (zM × (Nat → Int64))) (v1 : Int32) (v2 : Int32) (v3 : Int32) (v4 : Int32) (v5 : Int32) (v6 : Int64) (t0 : Int64) (t1 : Int64) : Option ((zM × (Nat → Int64))) := zlet (u.1, va_up u.2 19 (t1 + t0)) fun u6 => if v3 = (-4) then zlet (u6.1, va_up u6.2 20 ((u6.2 20) + (0 : Int64))) fun u7 => k46 u7 v1 v2 v3 v4 (v5 + 1) else (f_X7_counted u6.1 v3).bind fun r8 => zlet (u6.1, va_up u6.2 20 ((u6.2 20) + (v6 * (Int32.toInt64 r8)))) fun u9 => k46 u9 v1 v2 v3 v4 (v5 + 1)
set_option maxHeartbeats 4000000 in
set_option maxRecDepth 100000 in
theorem w_X7_findOdds_161 {p : Program} {l : Launch} {e : Env} {s : State} {m : MethodId} {args : Array Value} {below : List Frame} {meth : Method} {c : Code} {G : zG} {A : Nat → Prop} (C : zC p s m args meth c RX7 cX7_findOdds 10 none G A) (b : Nat → Nat) (X : va_W) (k46 : (zM × (Nat → Int64)) → Int32 → Int32 → Int32 → Int32 → Int32 → Option ((zM × (Nat → Int64)))) (hk46 : ∀ (u : (zM × (Nat → Int64))) (v1 : Int32) (v2 : Int32) (v3 : Int32) (v4 : Int32) (v5 : Int32), PW p l e 8 s m args below meth c G A 10 (fun u : zM × (Nat → Int64) => wM b G.2 u.1 u.2 ++ X) (fun _ : (zM × (Nat → Int64)) => none) (fun r => r) u [(0, .ref (b 0)), (1, .int v1), (2, .int v2), (3, .int v3), (4, .int v4), (5, .int v5)] 46 [] (k46 u v1 v2 v3 v4 v5)) : ∀ (u : (zM × (Nat → Int64))) (v1 : Int32) (v2 : Int32) (v3 : Int32) (v4 : Int32) (v5 : Int32) (v6 : Int64) (t0 : Int64) (t1 : Int64), PW p l e 8 s m args below meth c G A 10 (fun u : zM × (Nat → Int64) => wM b G.2 u.1 u.2 ++ X) (fun _ : (zM × (Nat → Int64)) => none) (fun r => r) u [(0, .ref (b 0)), (1, .int v1), (2, .int v2), (3, .int v3), (4, .int v4), (5, .int v5), (6, .long v6)] 161 [.long t0, .long t1, .ref (b 0)] (f_X7_findOdds_161 k46 u v1 v2 v3 v4 v5 v6 t0 t1) := by
  intro u v1 v2 v3 v4 v5 v6 t0 t1
  rw [f_X7_findOdds_161]
  refine z_ladd C dX7_findOdds_161 ?_
  refine z_put C fl_RX7_254 ft_7_19 upd_M_0_19 rfl rfl (Nat.le_of_ble_eq_true rfl) dX7_findOdds_162 (fun u6 => ?_)
  refine z_aload_n C 0 dX7_findOdds_165 rfl ?_
  refine z_dup C dX7_findOdds_166 rfl ?_
  refine z_get C fl_RX7_258 has_M_0 rfl dX7_findOdds_167 ?_
  refine z_iload_n C 3 dX7_findOdds_170 rfl ?_
  refine z_bipush (v := (-4)) C dX7_findOdds_171 (by decide) ?_
  refine z_icmpeq C 188 dX7_findOdds_173 (by decide) ?_ ?_
  · refine z_lconst (v := 0) C dX7_findOdds_188 (by decide) ?_
    refine z_ladd C dX7_findOdds_189 ?_
    refine z_put C fl_RX7_258 ft_7_20 upd_M_0_20 rfl rfl (Nat.le_of_ble_eq_true rfl) dX7_findOdds_190 (fun u7 => ?_)
    refine z_iinc C (v := (v5 + 1)) 5 [(5, .int (v5 + 1)), (0, .ref (b 0)), (1, .int v1), (2, .int v2), (3, .int v3), (4, .int v4), (6, .long v6)] dX7_findOdds_193 rfl rfl (by decide) rfl ?_
    refine z_goto C 46 dX7_findOdds_196 (by decide) ?_
    refine z_loc C [(0, .ref (b 0)), (1, .int v1), (2, .int v2), (3, .int v3), (4, .int v4), (5, .int (v5 + 1))] [1, 2, 3, 4, 5, 0] rfl ?_
    exact hk46 u7 v1 v2 v3 v4 (v5 + 1)
  refine z_lload C 6 dX7_findOdds_176 rfl ?_
  refine z_aload_n C 0 dX7_findOdds_178 rfl ?_
  refine z_iload_n C 3 dX7_findOdds_179 rfl ?_
  refine y_callI C (z_invV C [.int v3] [.long v6, .long (u6.2 20), .ref (b 0)] (ct_X7_counted l G b u6.2 X u6.1 v3) mi_X7_counted md_X7_counted ms_X7_counted ml_RX7_149 has_M_0 ⟨_, rfl, rfl⟩ (by decide) rfl rfl dX7_findOdds_180 (Nat.le_of_ble_eq_true rfl)) (List.Perm.refl _) (fun r8 => ?_)
  refine z_i2l C dX7_findOdds_183 ?_
  refine z_lmul C dX7_findOdds_184 ?_
  refine z_goto C 189 dX7_findOdds_185 (by decide) ?_
  refine z_ladd C dX7_findOdds_189 ?_
  refine z_put C fl_RX7_258 ft_7_20 upd_M_0_20 rfl rfl (Nat.le_of_ble_eq_true rfl) dX7_findOdds_190 (fun u9 => ?_)
  refine z_iinc C (v := (v5 + 1)) 5 [(5, .int (v5 + 1)), (0, .ref (b 0)), (1, .int v1), (2, .int v2), (3, .int v3), (4, .int v4), (6, .long v6)] dX7_findOdds_193 rfl rfl (by decide) rfl ?_
  refine z_goto C 46 dX7_findOdds_196 (by decide) ?_
  refine z_loc C [(0, .ref (b 0)), (1, .int v1), (2, .int v2), (3, .int v3), (4, .int v4), (5, .int (v5 + 1))] [1, 2, 3, 4, 5, 0] rfl ?_
  exact hk46 u9 v1 v2 v3 v4 (v5 + 1)
noncomputable def f_X7_findOdds_107 (k46 : (zM × (Nat → Int64)) → Int32 → Int32 → Int32 → Int32 → Int32 → Option ((zM × (Nat → Int64)))) (k65 : (zM × (Nat → Int64)) → Int32 → Int32 → Int32 → Int32 → Int32 → Int64 → Int32 → Option ((zM × (Nat → Int64)))) (u : (zM × (Nat → Int64))) (v1 : Int32) (v2 : Int32) (v3 : Int32) (v4 : Int32) (v5 : Int32) (v8 : Int32) (v9 : Bool) (t0 : Int64) (t1 : Int64) : Option ((zM × (Nat → Int64))) := if v9 = true then (f_X7_dayGoes u.1 0).bind fun r11 => zlet (r11, u.2) fun u12 => k65 u12 v1 v2 v3 v4 v5 (t1 * t0) (v8 + 1) else (f_X7_strengthNow u.1).bind fun r13 => (f_X7_dayGoes u.1 r13).bind fun r14 => zlet (r14, u.2) fun u15 => k65 u15 v1 v2 v3 v4 v5 (t1 * t0) (v8 + 1)
set_option maxHeartbeats 4000000 in
set_option maxRecDepth 100000 in
theorem w_X7_findOdds_107 {p : Program} {l : Launch} {e : Env} {s : State} {m : MethodId} {args : Array Value} {below : List Frame} {meth : Method} {c : Code} {G : zG} {A : Nat → Prop} (C : zC p s m args meth c RX7 cX7_findOdds 10 none G A) (b : Nat → Nat) (X : va_W) (k46 : (zM × (Nat → Int64)) → Int32 → Int32 → Int32 → Int32 → Int32 → Option ((zM × (Nat → Int64)))) (k65 : (zM × (Nat → Int64)) → Int32 → Int32 → Int32 → Int32 → Int32 → Int64 → Int32 → Option ((zM × (Nat → Int64)))) (hk46 : ∀ (u : (zM × (Nat → Int64))) (v1 : Int32) (v2 : Int32) (v3 : Int32) (v4 : Int32) (v5 : Int32), PW p l e 8 s m args below meth c G A 10 (fun u : zM × (Nat → Int64) => wM b G.2 u.1 u.2 ++ X) (fun _ : (zM × (Nat → Int64)) => none) (fun r => r) u [(0, .ref (b 0)), (1, .int v1), (2, .int v2), (3, .int v3), (4, .int v4), (5, .int v5)] 46 [] (k46 u v1 v2 v3 v4 v5)) (hk65 : ∀ (u : (zM × (Nat → Int64))) (v1 : Int32) (v2 : Int32) (v3 : Int32) (v4 : Int32) (v5 : Int32) (v6 : Int64) (v8 : Int32), PW p l e 8 s m args below meth c G A 10 (fun u : zM × (Nat → Int64) => wM b G.2 u.1 u.2 ++ X) (fun _ : (zM × (Nat → Int64)) => none) (fun r => r) u [(0, .ref (b 0)), (1, .int v1), (2, .int v2), (3, .int v3), (4, .int v4), (5, .int v5), (6, .long v6), (8, .int v8)] 65 [] (k65 u v1 v2 v3 v4 v5 v6 v8)) : ∀ (u : (zM × (Nat → Int64))) (v1 : Int32) (v2 : Int32) (v3 : Int32) (v4 : Int32) (v5 : Int32) (v8 : Int32) (v9 : Bool) (t0 : Int64) (t1 : Int64), PW p l e 8 s m args below meth c G A 10 (fun u : zM × (Nat → Int64) => wM b G.2 u.1 u.2 ++ X) (fun _ : (zM × (Nat → Int64)) => none) (fun r => r) u [(0, .ref (b 0)), (1, .int v1), (2, .int v2), (3, .int v3), (4, .int v4), (5, .int v5), (8, .int v8), (9, .int (zb v9))] 107 [.long t0, .long t1] (f_X7_findOdds_107 k46 k65 u v1 v2 v3 v4 v5 v8 v9 t0 t1) := by
  intro u v1 v2 v3 v4 v5 v8 v9 t0 t1
  rw [f_X7_findOdds_107]
  refine z_lmul C dX7_findOdds_107 ?_
  refine z_lstore C [(6, .long (t1 * t0)), (0, .ref (b 0)), (1, .int v1), (2, .int v2), (3, .int v3), (4, .int v4), (5, .int v5), (8, .int v8), (9, .int (zb v9))] dX7_findOdds_108 (by decide) rfl ?_
  refine z_aload_n C 1 dX7_findOdds_110 rfl ?_
  refine z_iload C 8 dX7_findOdds_111 rfl ?_
  refine z_zifeq C 120 dX7_findOdds_113 (by decide) ?_ ?_
  · refine z_iconst (v := 0) C dX7_findOdds_116 (by decide) ?_
    refine z_goto C 124 dX7_findOdds_117 (by decide) ?_
    refine y_callVS C (z_invV C [.int 0] [] (ct_X7_dayGoes l G b u.2 X u.1 0) mi_X7_dayGoes md_X7_dayGoes ms_X7_dayGoes ml_RX7_184 has_M_0 ⟨_, rfl, rfl⟩ (by decide) rfl rfl dX7_findOdds_124 (Nat.le_of_ble_eq_true rfl)) (List.Perm.refl _) (fun _ => List.Perm.refl _) (fun r11 u12 => ?_)
    refine z_iinc C (v := (v8 + 1)) 7 [(8, .int (v8 + 1)), (6, .long (t1 * t0)), (0, .ref (b 0)), (1, .int v1), (2, .int v2), (3, .int v3), (4, .int v4), (5, .int v5), (9, .int (zb v9))] dX7_findOdds_127 rfl rfl (by decide) rfl ?_
    refine z_goto C 65 dX7_findOdds_130 (by decide) ?_
    refine z_loc C [(0, .ref (b 0)), (1, .int v1), (2, .int v2), (3, .int v3), (4, .int v4), (5, .int v5), (6, .long (t1 * t0)), (8, .int (v8 + 1))] [2, 3, 4, 5, 6, 7, 1, 0] rfl ?_
    exact hk65 u12 v1 v2 v3 v4 v5 (t1 * t0) (v8 + 1)
  refine z_aload_n C 1 dX7_findOdds_120 rfl ?_
  refine y_callI C (z_invV C [] [.ref (b 0)] (ct_X7_strengthNow l G b u.2 X u.1 ) mi_X7_strengthNow md_X7_strengthNow ms_X7_strengthNow ml_RX7_181 has_M_0 ⟨_, rfl, rfl⟩ (by decide) rfl rfl dX7_findOdds_121 (Nat.le_of_ble_eq_true rfl)) (List.Perm.refl _) (fun r13 => ?_)
  refine y_callVS C (z_invV C [.int r13] [] (ct_X7_dayGoes l G b u.2 X u.1 r13) mi_X7_dayGoes md_X7_dayGoes ms_X7_dayGoes ml_RX7_184 has_M_0 ⟨_, rfl, rfl⟩ (by decide) rfl rfl dX7_findOdds_124 (Nat.le_of_ble_eq_true rfl)) (List.Perm.refl _) (fun _ => List.Perm.refl _) (fun r14 u15 => ?_)
  refine z_iinc C (v := (v8 + 1)) 7 [(8, .int (v8 + 1)), (6, .long (t1 * t0)), (0, .ref (b 0)), (1, .int v1), (2, .int v2), (3, .int v3), (4, .int v4), (5, .int v5), (9, .int (zb v9))] dX7_findOdds_127 rfl rfl (by decide) rfl ?_
  refine z_goto C 65 dX7_findOdds_130 (by decide) ?_
  refine z_loc C [(0, .ref (b 0)), (1, .int v1), (2, .int v2), (3, .int v3), (4, .int v4), (5, .int v5), (6, .long (t1 * t0)), (8, .int (v8 + 1))] [2, 3, 4, 5, 6, 7, 1, 0] rfl ?_
  exact hk65 u15 v1 v2 v3 v4 v5 (t1 * t0) (v8 + 1)
noncomputable def f_X7_findOdds_88 (k46 : (zM × (Nat → Int64)) → Int32 → Int32 → Int32 → Int32 → Int32 → Option ((zM × (Nat → Int64)))) (k65 : (zM × (Nat → Int64)) → Int32 → Int32 → Int32 → Int32 → Int32 → Int64 → Int32 → Option ((zM × (Nat → Int64)))) (u : (zM × (Nat → Int64))) (v1 : Int32) (v2 : Int32) (v3 : Int32) (v4 : Int32) (v5 : Int32) (v6 : Int64) (v8 : Int32) (t0 : Bool) : Option ((zM × (Nat → Int64))) := if t0 = true then f_X7_findOdds_107 k46 k65 u v1 v2 v3 v4 v5 v8 t0 (Int32.toInt64 v1) v6 else f_X7_findOdds_107 k46 k65 u v1 v2 v3 v4 v5 v8 t0 (Int32.toInt64 (10 - v1)) v6
set_option maxHeartbeats 4000000 in
set_option maxRecDepth 100000 in
theorem w_X7_findOdds_88 {p : Program} {l : Launch} {e : Env} {s : State} {m : MethodId} {args : Array Value} {below : List Frame} {meth : Method} {c : Code} {G : zG} {A : Nat → Prop} (C : zC p s m args meth c RX7 cX7_findOdds 10 none G A) (b : Nat → Nat) (X : va_W) (k46 : (zM × (Nat → Int64)) → Int32 → Int32 → Int32 → Int32 → Int32 → Option ((zM × (Nat → Int64)))) (k65 : (zM × (Nat → Int64)) → Int32 → Int32 → Int32 → Int32 → Int32 → Int64 → Int32 → Option ((zM × (Nat → Int64)))) (hk46 : ∀ (u : (zM × (Nat → Int64))) (v1 : Int32) (v2 : Int32) (v3 : Int32) (v4 : Int32) (v5 : Int32), PW p l e 8 s m args below meth c G A 10 (fun u : zM × (Nat → Int64) => wM b G.2 u.1 u.2 ++ X) (fun _ : (zM × (Nat → Int64)) => none) (fun r => r) u [(0, .ref (b 0)), (1, .int v1), (2, .int v2), (3, .int v3), (4, .int v4), (5, .int v5)] 46 [] (k46 u v1 v2 v3 v4 v5)) (hk65 : ∀ (u : (zM × (Nat → Int64))) (v1 : Int32) (v2 : Int32) (v3 : Int32) (v4 : Int32) (v5 : Int32) (v6 : Int64) (v8 : Int32), PW p l e 8 s m args below meth c G A 10 (fun u : zM × (Nat → Int64) => wM b G.2 u.1 u.2 ++ X) (fun _ : (zM × (Nat → Int64)) => none) (fun r => r) u [(0, .ref (b 0)), (1, .int v1), (2, .int v2), (3, .int v3), (4, .int v4), (5, .int v5), (6, .long v6), (8, .int v8)] 65 [] (k65 u v1 v2 v3 v4 v5 v6 v8)) : ∀ (u : (zM × (Nat → Int64))) (v1 : Int32) (v2 : Int32) (v3 : Int32) (v4 : Int32) (v5 : Int32) (v6 : Int64) (v8 : Int32) (t0 : Bool), PW p l e 8 s m args below meth c G A 10 (fun u : zM × (Nat → Int64) => wM b G.2 u.1 u.2 ++ X) (fun _ : (zM × (Nat → Int64)) => none) (fun r => r) u [(0, .ref (b 0)), (1, .int v1), (2, .int v2), (3, .int v3), (4, .int v4), (5, .int v5), (6, .long v6), (8, .int v8)] 88 [.int (zb t0)] (f_X7_findOdds_88 k46 k65 u v1 v2 v3 v4 v5 v6 v8 t0) := by
  intro u v1 v2 v3 v4 v5 v6 v8 t0
  rw [f_X7_findOdds_88]
  refine z_istore C [(9, .int (zb t0)), (0, .ref (b 0)), (1, .int v1), (2, .int v2), (3, .int v3), (4, .int v4), (5, .int v5), (6, .long v6), (8, .int v8)] dX7_findOdds_88 (by decide) rfl ?_
  refine z_lload C 7 dX7_findOdds_90 rfl ?_
  refine z_iload C 0 dX7_findOdds_92 rfl ?_
  refine z_zifeq C 102 dX7_findOdds_94 (by decide) ?_ ?_
  · refine z_iload_n C 2 dX7_findOdds_97 rfl ?_
    refine z_i2l C dX7_findOdds_98 ?_
    refine z_goto C 107 dX7_findOdds_99 (by decide) ?_
    refine z_loc C [(0, .ref (b 0)), (1, .int v1), (2, .int v2), (3, .int v3), (4, .int v4), (5, .int v5), (8, .int v8), (9, .int (zb t0))] [1, 2, 3, 4, 5, 6, 8, 0] rfl ?_
    exact w_X7_findOdds_107 C b X  k46 k65 hk46 hk65  u v1 v2 v3 v4 v5 v8 t0 (Int32.toInt64 v1) v6
  refine z_bipush (v := 10) C dX7_findOdds_102 (by decide) ?_
  refine z_iload_n C 2 dX7_findOdds_104 rfl ?_
  refine z_isub C dX7_findOdds_105 ?_
  refine z_i2l C dX7_findOdds_106 ?_
  refine z_loc C [(0, .ref (b 0)), (1, .int v1), (2, .int v2), (3, .int v3), (4, .int v4), (5, .int v5), (8, .int v8), (9, .int (zb t0))] [1, 2, 3, 4, 5, 6, 8, 0] rfl ?_
  exact w_X7_findOdds_107 C b X  k46 k65 hk46 hk65  u v1 v2 v3 v4 v5 v8 t0 (Int32.toInt64 (10 - v1)) v6
noncomputable def f_X7_findOdds_65 (k46 : (zM × (Nat → Int64)) → Int32 → Int32 → Int32 → Int32 → Int32 → Option ((zM × (Nat → Int64)))) : Nat → (zM × (Nat → Int64)) → Int32 → Int32 → Int32 → Int32 → Int32 → Int64 → Int32 → Option ((zM × (Nat → Int64)))
  | 0, _, _, _, _, _, _, _, _ => none
  | n + 1, u, v1, v2, v3, v4, v5, v6, v8 => if v4 ≤ v8 then if v2 = (-4) then f_X7_findOdds_161 k46 u v1 v2 v3 v4 v5 v6 (0 : Int64) (u.2 19) else (f_X7_of u.1 v2 4).bind fun r10 => if r10 = (-4) then f_X7_findOdds_161 k46 u v1 v2 v3 v4 v5 v6 (0 : Int64) (u.2 19) else f_X7_findOdds_161 k46 u v1 v2 v3 v4 v5 v6 v6 (u.2 19) else if ((v5 >>> ((v8 : Int32) &&& 31)) &&& 1) = 1 then f_X7_findOdds_88 k46 (fun u v1 v2 v3 v4 v5 v6 v8 => f_X7_findOdds_65 k46 n u v1 v2 v3 v4 v5 v6 v8) u v1 v2 v3 v4 v5 v6 v8 true else f_X7_findOdds_88 k46 (fun u v1 v2 v3 v4 v5 v6 v8 => f_X7_findOdds_65 k46 n u v1 v2 v3 v4 v5 v6 v8) u v1 v2 v3 v4 v5 v6 v8 false
set_option maxHeartbeats 4000000 in
set_option maxRecDepth 100000 in
theorem w_X7_findOdds_65 {p : Program} {l : Launch} {e : Env} {s : State} {m : MethodId} {args : Array Value} {below : List Frame} {meth : Method} {c : Code} {G : zG} {A : Nat → Prop} (C : zC p s m args meth c RX7 cX7_findOdds 10 none G A) (b : Nat → Nat) (X : va_W) (k46 : (zM × (Nat → Int64)) → Int32 → Int32 → Int32 → Int32 → Int32 → Option ((zM × (Nat → Int64)))) (hk46 : ∀ (u : (zM × (Nat → Int64))) (v1 : Int32) (v2 : Int32) (v3 : Int32) (v4 : Int32) (v5 : Int32), PW p l e 8 s m args below meth c G A 10 (fun u : zM × (Nat → Int64) => wM b G.2 u.1 u.2 ++ X) (fun _ : (zM × (Nat → Int64)) => none) (fun r => r) u [(0, .ref (b 0)), (1, .int v1), (2, .int v2), (3, .int v3), (4, .int v4), (5, .int v5)] 46 [] (k46 u v1 v2 v3 v4 v5)) : ∀ (n : Nat) (u : (zM × (Nat → Int64))) (v1 : Int32) (v2 : Int32) (v3 : Int32) (v4 : Int32) (v5 : Int32) (v6 : Int64) (v8 : Int32), PW p l e 8 s m args below meth c G A 10 (fun u : zM × (Nat → Int64) => wM b G.2 u.1 u.2 ++ X) (fun _ : (zM × (Nat → Int64)) => none) (fun r => r) u [(0, .ref (b 0)), (1, .int v1), (2, .int v2), (3, .int v3), (4, .int v4), (5, .int v5), (6, .long v6), (8, .int v8)] 65 [] (f_X7_findOdds_65 k46 n u v1 v2 v3 v4 v5 v6 v8) := by
  intro n
  induction n with
  | zero => intros; exact z_none
  | succ n ih =>
    intro u v1 v2 v3 v4 v5 v6 v8
    rw [f_X7_findOdds_65]
    refine z_iload C 7 dX7_findOdds_65 rfl ?_
    refine z_iload C 4 dX7_findOdds_67 rfl ?_
    refine z_icmpge C 133 dX7_findOdds_69 (by decide) ?_ ?_
    · refine z_aload_n C 0 dX7_findOdds_133 rfl ?_
      refine z_dup C dX7_findOdds_134 rfl ?_
      refine z_get C fl_RX7_254 has_M_0 rfl dX7_findOdds_135 ?_
      refine z_iload_n C 2 dX7_findOdds_138 rfl ?_
      refine z_bipush (v := (-4)) C dX7_findOdds_139 (by decide) ?_
      refine z_icmpeq C 160 dX7_findOdds_141 (by decide) ?_ ?_
      · refine z_lconst (v := 0) C dX7_findOdds_160 (by decide) ?_
        refine z_loc C [(0, .ref (b 0)), (1, .int v1), (2, .int v2), (3, .int v3), (4, .int v4), (5, .int v5), (6, .long v6)] [0, 1, 2, 3, 4, 5, 6] rfl ?_
        exact w_X7_findOdds_161 C b X  k46 hk46  u v1 v2 v3 v4 v5 v6 (0 : Int64) (u.2 19)
      refine z_aload_n C 0 dX7_findOdds_144 rfl ?_
      refine z_iload_n C 2 dX7_findOdds_145 rfl ?_
      refine z_iconst (v := 4) C dX7_findOdds_146 (by decide) ?_
      refine y_callI C (z_invV C [.int v2, .int 4] [.long (u.2 19), .ref (b 0)] (ct_X7_of l G b u.2 X u.1 v2 4) mi_X7_of md_X7_of ms_X7_of ml_RX7_143 has_M_0 ⟨_, rfl, rfl⟩ (by decide) rfl rfl dX7_findOdds_147 (Nat.le_of_ble_eq_true rfl)) (List.Perm.refl _) (fun r10 => ?_)
      refine z_bipush (v := (-4)) C dX7_findOdds_150 (by decide) ?_
      refine z_icmpeq C 160 dX7_findOdds_152 (by decide) ?_ ?_
      · refine z_lconst (v := 0) C dX7_findOdds_160 (by decide) ?_
        refine z_loc C [(0, .ref (b 0)), (1, .int v1), (2, .int v2), (3, .int v3), (4, .int v4), (5, .int v5), (6, .long v6)] [0, 1, 2, 3, 4, 5, 6] rfl ?_
        exact w_X7_findOdds_161 C b X  k46 hk46  u v1 v2 v3 v4 v5 v6 (0 : Int64) (u.2 19)
      refine z_lload C 6 dX7_findOdds_155 rfl ?_
      refine z_goto C 161 dX7_findOdds_157 (by decide) ?_
      refine z_loc C [(0, .ref (b 0)), (1, .int v1), (2, .int v2), (3, .int v3), (4, .int v4), (5, .int v5), (6, .long v6)] [0, 1, 2, 3, 4, 5, 6] rfl ?_
      exact w_X7_findOdds_161 C b X  k46 hk46  u v1 v2 v3 v4 v5 v6 v6 (u.2 19)
    refine z_iload C 5 dX7_findOdds_72 rfl ?_
    refine z_iload C 7 dX7_findOdds_74 rfl ?_
    refine z_ishr C dX7_findOdds_76 ?_
    refine z_iconst (v := 1) C dX7_findOdds_77 (by decide) ?_
    refine z_iand C dX7_findOdds_78 ?_
    refine z_iconst (v := 1) C dX7_findOdds_79 (by decide) ?_
    refine z_icmpne C 87 dX7_findOdds_80 (by decide) ?_ ?_
    · refine z_iconst (v := 1) C dX7_findOdds_83 (by decide) ?_
      refine z_goto C 88 dX7_findOdds_84 (by decide) ?_
      exact w_X7_findOdds_88 C b X  k46 (fun u v1 v2 v3 v4 v5 v6 v8 => f_X7_findOdds_65 k46 n u v1 v2 v3 v4 v5 v6 v8) hk46 ih  u v1 v2 v3 v4 v5 v6 v8 true
    refine z_iconst (v := 0) C dX7_findOdds_87 (by decide) ?_
    exact w_X7_findOdds_88 C b X  k46 (fun u v1 v2 v3 v4 v5 v6 v8 => f_X7_findOdds_65 k46 n u v1 v2 v3 v4 v5 v6 v8) hk46 ih  u v1 v2 v3 v4 v5 v6 v8 false
noncomputable def f_X7_findOdds_46 : Nat → (zM × (Nat → Int64)) → Int32 → Int32 → Int32 → Int32 → Int32 → Option ((zM × (Nat → Int64)))
  | 0, _, _, _, _, _, _ => none
  | n + 1, u, v1, v2, v3, v4, v5 => if (1 <<< ((v4 : Int32) &&& 31)) ≤ v5 then some u else (f_X7_starts u.1).bind fun r4 => zlet (r4, u.2) fun u5 => f_X7_findOdds_65 (fun u v1 v2 v3 v4 v5 => f_X7_findOdds_46 n u v1 v2 v3 v4 v5) FU u5 v1 v2 v3 v4 v5 (1 : Int64) 0
set_option maxHeartbeats 4000000 in
set_option maxRecDepth 100000 in
theorem w_X7_findOdds_46 {p : Program} {l : Launch} {e : Env} {s : State} {m : MethodId} {args : Array Value} {below : List Frame} {meth : Method} {c : Code} {G : zG} {A : Nat → Prop} (C : zC p s m args meth c RX7 cX7_findOdds 10 none G A) (b : Nat → Nat) (X : va_W) : ∀ (n : Nat) (u : (zM × (Nat → Int64))) (v1 : Int32) (v2 : Int32) (v3 : Int32) (v4 : Int32) (v5 : Int32), PW p l e 8 s m args below meth c G A 10 (fun u : zM × (Nat → Int64) => wM b G.2 u.1 u.2 ++ X) (fun _ : (zM × (Nat → Int64)) => none) (fun r => r) u [(0, .ref (b 0)), (1, .int v1), (2, .int v2), (3, .int v3), (4, .int v4), (5, .int v5)] 46 [] (f_X7_findOdds_46 n u v1 v2 v3 v4 v5) := by
  intro n
  induction n with
  | zero => intros; exact z_none
  | succ n ih =>
    intro u v1 v2 v3 v4 v5
    rw [f_X7_findOdds_46]
    refine z_iload C 5 dX7_findOdds_46 rfl ?_
    refine z_iconst (v := 1) C dX7_findOdds_48 (by decide) ?_
    refine z_iload C 4 dX7_findOdds_49 rfl ?_
    refine z_ishl C dX7_findOdds_51 ?_
    refine z_icmpge C 199 dX7_findOdds_52 (by decide) ?_ ?_
    · exact z_vret C dX7_findOdds_199 rfl rfl
    refine z_lconst (v := 1) C dX7_findOdds_55 (by decide) ?_
    refine z_lstore C [(6, .long (1 : Int64)), (0, .ref (b 0)), (1, .int v1), (2, .int v2), (3, .int v3), (4, .int v4), (5, .int v5)] dX7_findOdds_56 (by decide) rfl ?_
    refine z_aload_n C 1 dX7_findOdds_58 rfl ?_
    refine y_callVS C (z_invV C [] [] (ct_X7_starts l G b u.2 X u.1 ) mi_X7_starts md_X7_starts ms_X7_starts ml_RX7_191 has_M_0 ⟨_, rfl, rfl⟩ (by decide) rfl rfl dX7_findOdds_59 (Nat.le_of_ble_eq_true rfl)) (List.Perm.refl _) (fun _ => List.Perm.refl _) (fun r4 u5 => ?_)
    refine z_iconst (v := 0) C dX7_findOdds_62 (by decide) ?_
    refine z_istore C [(8, .int 0), (6, .long (1 : Int64)), (0, .ref (b 0)), (1, .int v1), (2, .int v2), (3, .int v3), (4, .int v4), (5, .int v5)] dX7_findOdds_63 (by decide) rfl ?_
    refine z_loc C [(0, .ref (b 0)), (1, .int v1), (2, .int v2), (3, .int v3), (4, .int v4), (5, .int v5), (6, .long (1 : Int64)), (8, .int 0)] [2, 3, 4, 5, 6, 7, 1, 0] rfl ?_
    exact w_X7_findOdds_65 C b X  (fun u v1 v2 v3 v4 v5 => f_X7_findOdds_46 n u v1 v2 v3 v4 v5) ih FU u5 v1 v2 v3 v4 v5 (1 : Int64) 0
noncomputable def f_X7_findOdds_18 : Nat → (zM × (Nat → Int64)) → Int32 → Int32 → Int32 → Int32 → Int32 → Option ((zM × (Nat → Int64)))
  | 0, _, _, _, _, _, _ => none
  | n + 1, u, v1, v2, v3, v4, v5 => if v4 ≤ v5 then f_X7_findOdds_46 FU u v1 v2 v3 v4 0 else zlet (u.1, va_up u.2 21 ((u.2 21) * (10 : Int64))) fun u16 => f_X7_findOdds_18 n u16 v1 v2 v3 v4 (v5 + 1)
set_option maxHeartbeats 4000000 in
set_option maxRecDepth 100000 in
theorem w_X7_findOdds_18 {p : Program} {l : Launch} {e : Env} {s : State} {m : MethodId} {args : Array Value} {below : List Frame} {meth : Method} {c : Code} {G : zG} {A : Nat → Prop} (C : zC p s m args meth c RX7 cX7_findOdds 10 none G A) (b : Nat → Nat) (X : va_W) : ∀ (n : Nat) (u : (zM × (Nat → Int64))) (v1 : Int32) (v2 : Int32) (v3 : Int32) (v4 : Int32) (v5 : Int32), PW p l e 8 s m args below meth c G A 10 (fun u : zM × (Nat → Int64) => wM b G.2 u.1 u.2 ++ X) (fun _ : (zM × (Nat → Int64)) => none) (fun r => r) u [(0, .ref (b 0)), (1, .int v1), (2, .int v2), (3, .int v3), (4, .int v4), (5, .int v5)] 18 [] (f_X7_findOdds_18 n u v1 v2 v3 v4 v5) := by
  intro n
  induction n with
  | zero => intros; exact z_none
  | succ n ih =>
    intro u v1 v2 v3 v4 v5
    rw [f_X7_findOdds_18]
    refine z_iload C 5 dX7_findOdds_18 rfl ?_
    refine z_iload C 4 dX7_findOdds_20 rfl ?_
    refine z_icmpge C 43 dX7_findOdds_22 (by decide) ?_ ?_
    · refine z_iconst (v := 0) C dX7_findOdds_43 (by decide) ?_
      refine z_istore C [(5, .int 0), (0, .ref (b 0)), (1, .int v1), (2, .int v2), (3, .int v3), (4, .int v4)] dX7_findOdds_44 (by decide) rfl ?_
      refine z_loc C [(0, .ref (b 0)), (1, .int v1), (2, .int v2), (3, .int v3), (4, .int v4), (5, .int 0)] [1, 2, 3, 4, 5, 0] rfl ?_
      exact w_X7_findOdds_46 C b X    FU u v1 v2 v3 v4 0
    refine z_aload_n C 0 dX7_findOdds_25 rfl ?_
    refine z_dup C dX7_findOdds_26 rfl ?_
    refine z_get C fl_RX7_261 has_M_0 rfl dX7_findOdds_27 ?_
    refine z_ldc2 C kc_RX7_264 dX7_findOdds_30 ?_
    refine z_lmul C dX7_findOdds_33 ?_
    refine z_put C fl_RX7_261 ft_7_21 upd_M_0_21 rfl rfl (Nat.le_of_ble_eq_true rfl) dX7_findOdds_34 (fun u16 => ?_)
    refine z_iinc C (v := (v5 + 1)) 5 [(5, .int (v5 + 1)), (0, .ref (b 0)), (1, .int v1), (2, .int v2), (3, .int v3), (4, .int v4)] dX7_findOdds_37 rfl rfl (by decide) rfl ?_
    refine z_goto C 18 dX7_findOdds_40 (by decide) ?_
    refine z_loc C [(0, .ref (b 0)), (1, .int v1), (2, .int v2), (3, .int v3), (4, .int v4), (5, .int (v5 + 1))] [1, 2, 3, 4, 5, 0] rfl ?_
    exact ih u16 v1 v2 v3 v4 (v5 + 1)
noncomputable def f_X7_findOdds (u : (zM × (Nat → Int64))) (v1 : Int32) (v2 : Int32) (v3 : Int32) (v4 : Int32) : Option ((zM × (Nat → Int64))) := zlet (u.1, va_up u.2 19 (0 : Int64)) fun u1 => zlet (u1.1, va_up u1.2 20 (0 : Int64)) fun u2 => zlet (u2.1, va_up u2.2 21 (1 : Int64)) fun u3 => f_X7_findOdds_18 FU u3 v1 v2 v3 v4 0
set_option maxHeartbeats 4000000 in
set_option maxRecDepth 100000 in
theorem ct_X7_findOdds (l : Launch) (G : zG) (b : Nat → Nat) (X : va_W) (u : (zM × (Nat → Int64))) (v1 : Int32) (v2 : Int32) (v3 : Int32) (v4 : Int32) : zCt l yX7_findOdds cX7_findOdds 10 none 8 G [.ref (b 0), .int v1, .int v2, .int v3, .int v4] (fun u : zM × (Nat → Int64) => wM b G.2 u.1 u.2 ++ X) (fun _ : (zM × (Nat → Int64)) => none) (fun r => r) u (f_X7_findOdds u v1 v2 v3 v4) := by
  refine zCt.of (by decide) (Nat.le_of_ble_eq_true rfl) (fun p e s m args below meth c A C => ?_)
  refine y_lv (lv' := [(0, .ref (b 0)), (1, .int v1), (2, .int v2), (3, .int v3), (4, .int v4)]) rfl ?_
  rw [f_X7_findOdds]
  refine z_aload_n C 0 dX7_findOdds_0 rfl ?_
  refine z_lconst (v := 0) C dX7_findOdds_1 (by decide) ?_
  refine z_put C fl_RX7_254 ft_7_19 upd_M_0_19 rfl rfl (Nat.le_of_ble_eq_true rfl) dX7_findOdds_2 (fun u1 => ?_)
  refine z_aload_n C 0 dX7_findOdds_5 rfl ?_
  refine z_lconst (v := 0) C dX7_findOdds_6 (by decide) ?_
  refine z_put C fl_RX7_258 ft_7_20 upd_M_0_20 rfl rfl (Nat.le_of_ble_eq_true rfl) dX7_findOdds_7 (fun u2 => ?_)
  refine z_aload_n C 0 dX7_findOdds_10 rfl ?_
  refine z_lconst (v := 1) C dX7_findOdds_11 (by decide) ?_
  refine z_put C fl_RX7_261 ft_7_21 upd_M_0_21 rfl rfl (Nat.le_of_ble_eq_true rfl) dX7_findOdds_12 (fun u3 => ?_)
  refine z_iconst (v := 0) C dX7_findOdds_15 (by decide) ?_
  refine z_istore C [(5, .int 0), (0, .ref (b 0)), (1, .int v1), (2, .int v2), (3, .int v3), (4, .int v4)] dX7_findOdds_16 (by decide) rfl ?_
  refine z_loc C [(0, .ref (b 0)), (1, .int v1), (2, .int v2), (3, .int v3), (4, .int v4), (5, .int 0)] [1, 2, 3, 4, 5, 0] rfl ?_
  exact w_X7_findOdds_18 C b X    FU u3 v1 v2 v3 v4 0
noncomputable def f_X7_isSoWith_77 : Nat → zM → Bool → Int32 → Option (Bool × zM)
  | 0, _, _, _ => none
  | n + 1, u, v4, v5 => if z_in 42 183 = true then if (u 1 (Int32.toNatClampNeg 42)) ≤ v5 then some (v4, u) else if v4 = true then if z_in (43 + (3 * v5)) 183 = true then if z_in ((43 + (3 * v5)) + 1) 183 = true then if z_in ((4 * (u 1 (Int32.toNatClampNeg (43 + (3 * v5))))) + (u 1 (Int32.toNatClampNeg ((43 + (3 * v5)) + 1)))) 84 = true then if z_in ((43 + (3 * v5)) + 2) 183 = true then if (u 6 (Int32.toNatClampNeg ((4 * (u 1 (Int32.toNatClampNeg (43 + (3 * v5))))) + (u 1 (Int32.toNatClampNeg ((43 + (3 * v5)) + 1)))))) = (u 1 (Int32.toNatClampNeg ((43 + (3 * v5)) + 2))) then f_X7_isSoWith_77 n u true (v5 + 1) else f_X7_isSoWith_77 n u false (v5 + 1) else none else none else none else none else f_X7_isSoWith_77 n u false (v5 + 1) else none
set_option maxHeartbeats 4000000 in
set_option maxRecDepth 100000 in
theorem w_X7_isSoWith_77 {p : Program} {l : Launch} {e : Env} {s : State} {m : MethodId} {args : Array Value} {below : List Frame} {meth : Method} {c : Code} {G : zG} {A : Nat → Prop} (C : zC p s m args meth c RX7 cX7_isSoWith 7 (some .boolean) G A) (b : Nat → Nat) (g : Nat → Int64) (X : va_W) : ∀ (n : Nat) (u : zM) (v4 : Bool) (v5 : Int32), PW p l e 8 s m args below meth c G A 7 (fun u : zM => wM b G.2 u g ++ X) (fun r : Bool × zM => some (.int (zb r.1))) (fun r => r.2) u [(0, .ref (b 0)), (4, .int (zb v4)), (5, .int v5)] 77 [] (f_X7_isSoWith_77 n u v4 v5) := by
  intro n
  induction n with
  | zero => intros; exact z_none
  | succ n ih =>
    intro u v4 v5
    rw [f_X7_isSoWith_77]
    refine z_iload C 2 dX7_isSoWith_77 rfl ?_
    refine z_aload_n C 0 dX7_isSoWith_79 rfl ?_
    refine z_get C fl_RX7_7 has_M_0 rfl dX7_isSoWith_80 ?_
    refine z_bipush (v := 42) C dX7_isSoWith_83 (by decide) ?_
    refine y_iald C has_M_1 dX7_isSoWith_85 ?_
    refine z_icmpge C 152 dX7_isSoWith_86 (by decide) ?_ ?_
    · refine z_iload C 1 dX7_isSoWith_152 rfl ?_
      exact z_zret (b := v4) C dX7_isSoWith_154 rfl rfl
    refine z_bipush (v := 43) C dX7_isSoWith_89 (by decide) ?_
    refine z_iconst (v := 3) C dX7_isSoWith_91 (by decide) ?_
    refine z_iload C 2 dX7_isSoWith_92 rfl ?_
    refine z_imul C dX7_isSoWith_94 ?_
    refine z_iadd C dX7_isSoWith_95 ?_
    refine z_istore C [(6, .int (43 + (3 * v5))), (0, .ref (b 0)), (4, .int (zb v4)), (5, .int v5)] dX7_isSoWith_96 (by decide) rfl ?_
    refine z_iload C 2 dX7_isSoWith_98 rfl ?_
    refine z_zifeq C 143 dX7_isSoWith_100 (by decide) ?_ ?_
    · refine z_aload_n C 1 dX7_isSoWith_103 rfl ?_
      refine z_get C fl_RX7_26 has_M_0 rfl dX7_isSoWith_104 ?_
      refine z_iconst (v := 4) C dX7_isSoWith_107 (by decide) ?_
      refine z_aload_n C 1 dX7_isSoWith_108 rfl ?_
      refine z_get C fl_RX7_7 has_M_0 rfl dX7_isSoWith_109 ?_
      refine z_iload C 0 dX7_isSoWith_112 rfl ?_
      refine y_iald C has_M_1 dX7_isSoWith_114 ?_
      refine z_imul C dX7_isSoWith_115 ?_
      refine z_aload_n C 1 dX7_isSoWith_116 rfl ?_
      refine z_get C fl_RX7_7 has_M_0 rfl dX7_isSoWith_117 ?_
      refine z_iload C 0 dX7_isSoWith_120 rfl ?_
      refine z_iconst (v := 1) C dX7_isSoWith_122 (by decide) ?_
      refine z_iadd C dX7_isSoWith_123 ?_
      refine y_iald C has_M_1 dX7_isSoWith_124 ?_
      refine z_iadd C dX7_isSoWith_125 ?_
      refine y_iald C has_M_6 dX7_isSoWith_126 ?_
      refine z_aload_n C 1 dX7_isSoWith_127 rfl ?_
      refine z_get C fl_RX7_7 has_M_0 rfl dX7_isSoWith_128 ?_
      refine z_iload C 0 dX7_isSoWith_131 rfl ?_
      refine z_iconst (v := 2) C dX7_isSoWith_133 (by decide) ?_
      refine z_iadd C dX7_isSoWith_134 ?_
      refine y_iald C has_M_1 dX7_isSoWith_135 ?_
      refine z_icmpne C 143 dX7_isSoWith_136 (by decide) ?_ ?_
      · refine z_iconst (v := 1) C dX7_isSoWith_139 (by decide) ?_
        refine z_goto C 144 dX7_isSoWith_140 (by decide) ?_
        refine z_istore C [(4, .int 1), (6, .int (43 + (3 * v5))), (0, .ref (b 0)), (5, .int v5)] dX7_isSoWith_144 (by decide) rfl ?_
        refine z_iinc C (v := (v5 + 1)) 3 [(5, .int (v5 + 1)), (4, .int 1), (6, .int (43 + (3 * v5))), (0, .ref (b 0))] dX7_isSoWith_146 rfl rfl (by decide) rfl ?_
        refine z_goto C 77 dX7_isSoWith_149 (by decide) ?_
        refine z_loc C [(0, .ref (b 0)), (4, .int (zb true)), (5, .int (v5 + 1))] [3, 1, 0] rfl ?_
        exact ih u true (v5 + 1)
      refine z_iconst (v := 0) C dX7_isSoWith_143 (by decide) ?_
      refine z_istore C [(4, .int 0), (6, .int (43 + (3 * v5))), (0, .ref (b 0)), (5, .int v5)] dX7_isSoWith_144 (by decide) rfl ?_
      refine z_iinc C (v := (v5 + 1)) 3 [(5, .int (v5 + 1)), (4, .int 0), (6, .int (43 + (3 * v5))), (0, .ref (b 0))] dX7_isSoWith_146 rfl rfl (by decide) rfl ?_
      refine z_goto C 77 dX7_isSoWith_149 (by decide) ?_
      refine z_loc C [(0, .ref (b 0)), (4, .int (zb false)), (5, .int (v5 + 1))] [3, 1, 0] rfl ?_
      exact ih u false (v5 + 1)
    refine z_iconst (v := 0) C dX7_isSoWith_143 (by decide) ?_
    refine z_istore C [(4, .int 0), (6, .int (43 + (3 * v5))), (0, .ref (b 0)), (5, .int v5)] dX7_isSoWith_144 (by decide) rfl ?_
    refine z_iinc C (v := (v5 + 1)) 3 [(5, .int (v5 + 1)), (4, .int 0), (6, .int (43 + (3 * v5))), (0, .ref (b 0))] dX7_isSoWith_146 rfl rfl (by decide) rfl ?_
    refine z_goto C 77 dX7_isSoWith_149 (by decide) ?_
    refine z_loc C [(0, .ref (b 0)), (4, .int (zb false)), (5, .int (v5 + 1))] [3, 1, 0] rfl ?_
    exact ih u false (v5 + 1)
noncomputable def f_X7_isSoWith_24 (k14 : zM → Int32 → Option (Bool × zM)) : Nat → zM → Int32 → Int32 → Option (Bool × zM)
  | 0, _, _, _ => none
  | n + 1, u, v4, v5 => if (u 0 3) ≤ v5 then (f_X7_strengthNow u).bind fun r5 => (f_X7_dayGoes u r5).bind fun r6 => zlet r6 fun u7 => k14 u7 (v4 + 1) else (f_X7_counted u v5).bind fun r8 => if z_in ((4 * v4) + v5) 84 = true then zlet (zU u 6 (Int32.toNatClampNeg ((4 * v4) + v5)) r8) (fun u9 => f_X7_isSoWith_24 k14 n u9 v4 (v5 + 1)) else none
set_option maxHeartbeats 4000000 in
set_option maxRecDepth 100000 in
theorem w_X7_isSoWith_24 {p : Program} {l : Launch} {e : Env} {s : State} {m : MethodId} {args : Array Value} {below : List Frame} {meth : Method} {c : Code} {G : zG} {A : Nat → Prop} (C : zC p s m args meth c RX7 cX7_isSoWith 7 (some .boolean) G A) (b : Nat → Nat) (g : Nat → Int64) (X : va_W) (k14 : zM → Int32 → Option (Bool × zM)) (hk14 : ∀ (u : zM) (v4 : Int32), PW p l e 8 s m args below meth c G A 7 (fun u : zM => wM b G.2 u g ++ X) (fun r : Bool × zM => some (.int (zb r.1))) (fun r => r.2) u [(0, .ref (b 0)), (4, .int v4)] 14 [] (k14 u v4)) : ∀ (n : Nat) (u : zM) (v4 : Int32) (v5 : Int32), PW p l e 8 s m args below meth c G A 7 (fun u : zM => wM b G.2 u g ++ X) (fun r : Bool × zM => some (.int (zb r.1))) (fun r => r.2) u [(0, .ref (b 0)), (4, .int v4), (5, .int v5)] 24 [] (f_X7_isSoWith_24 k14 n u v4 v5) := by
  intro n
  induction n with
  | zero => intros; exact z_none
  | succ n ih =>
    intro u v4 v5
    rw [f_X7_isSoWith_24]
    refine z_iload C 2 dX7_isSoWith_24 rfl ?_
    refine z_aload_n C 0 dX7_isSoWith_26 rfl ?_
    refine z_get C fl_RX7_60 has_M_0 rfl dX7_isSoWith_27 ?_
    refine z_icmpge C 57 dX7_isSoWith_30 (by decide) ?_ ?_
    · refine z_aload_n C 0 dX7_isSoWith_57 rfl ?_
      refine z_aload_n C 0 dX7_isSoWith_58 rfl ?_
      refine y_callI C (z_invV C [] [.ref (b 0)] (ct_X7_strengthNow l G b g X u ) mi_X7_strengthNow md_X7_strengthNow ms_X7_strengthNow ml_RX7_181 has_M_0 ⟨_, rfl, rfl⟩ (by decide) rfl rfl dX7_isSoWith_59 (Nat.le_of_ble_eq_true rfl)) (List.Perm.refl _) (fun r5 => ?_)
      refine y_callVS C (z_invV C [.int r5] [] (ct_X7_dayGoes l G b g X u r5) mi_X7_dayGoes md_X7_dayGoes ms_X7_dayGoes ml_RX7_184 has_M_0 ⟨_, rfl, rfl⟩ (by decide) rfl rfl dX7_isSoWith_62 (Nat.le_of_ble_eq_true rfl)) (List.Perm.refl _) (fun _ => List.Perm.refl _) (fun r6 u7 => ?_)
      refine z_iinc C (v := (v4 + 1)) 1 [(4, .int (v4 + 1)), (0, .ref (b 0)), (5, .int v5)] dX7_isSoWith_65 rfl rfl (by decide) rfl ?_
      refine z_goto C 14 dX7_isSoWith_68 (by decide) ?_
      refine z_loc C [(0, .ref (b 0)), (4, .int (v4 + 1))] [1, 0] rfl ?_
      exact hk14 u7 (v4 + 1)
    refine z_aload_n C 0 dX7_isSoWith_33 rfl ?_
    refine z_get C fl_RX7_26 has_M_0 rfl dX7_isSoWith_34 ?_
    refine z_iconst (v := 4) C dX7_isSoWith_37 (by decide) ?_
    refine z_iload C 1 dX7_isSoWith_38 rfl ?_
    refine z_imul C dX7_isSoWith_40 ?_
    refine z_iload C 2 dX7_isSoWith_41 rfl ?_
    refine z_iadd C dX7_isSoWith_43 ?_
    refine z_aload_n C 0 dX7_isSoWith_44 rfl ?_
    refine z_iload C 2 dX7_isSoWith_45 rfl ?_
    refine y_callI C (z_invV C [.int v5] [.int ((4 * v4) + v5), .ref (b 6)] (ct_X7_counted l G b g X u v5) mi_X7_counted md_X7_counted ms_X7_counted ml_RX7_149 has_M_0 ⟨_, rfl, rfl⟩ (by decide) rfl rfl dX7_isSoWith_47 (Nat.le_of_ble_eq_true rfl)) (List.Perm.refl _) (fun r8 => ?_)
    refine y_iast C upd_M_6 dX7_isSoWith_50 (fun u9 => ?_)
    refine z_iinc C (v := (v5 + 1)) 2 [(5, .int (v5 + 1)), (0, .ref (b 0)), (4, .int v4)] dX7_isSoWith_51 rfl rfl (by decide) rfl ?_
    refine z_goto C 24 dX7_isSoWith_54 (by decide) ?_
    refine z_loc C [(0, .ref (b 0)), (4, .int v4), (5, .int (v5 + 1))] [1, 2, 0] rfl ?_
    exact ih u9 v4 (v5 + 1)
noncomputable def f_X7_isSoWith_14 : Nat → zM → Int32 → Option (Bool × zM)
  | 0, _, _ => none
  | n + 1, u, v4 => if 20 < v4 then f_X7_isSoWith_77 FU u true 0 else f_X7_isSoWith_24 (fun u v4 => f_X7_isSoWith_14 n u v4) FU u v4 0
set_option maxHeartbeats 4000000 in
set_option maxRecDepth 100000 in
theorem w_X7_isSoWith_14 {p : Program} {l : Launch} {e : Env} {s : State} {m : MethodId} {args : Array Value} {below : List Frame} {meth : Method} {c : Code} {G : zG} {A : Nat → Prop} (C : zC p s m args meth c RX7 cX7_isSoWith 7 (some .boolean) G A) (b : Nat → Nat) (g : Nat → Int64) (X : va_W) : ∀ (n : Nat) (u : zM) (v4 : Int32), PW p l e 8 s m args below meth c G A 7 (fun u : zM => wM b G.2 u g ++ X) (fun r : Bool × zM => some (.int (zb r.1))) (fun r => r.2) u [(0, .ref (b 0)), (4, .int v4)] 14 [] (f_X7_isSoWith_14 n u v4) := by
  intro n
  induction n with
  | zero => intros; exact z_none
  | succ n ih =>
    intro u v4
    rw [f_X7_isSoWith_14]
    refine z_iload C 1 dX7_isSoWith_14 rfl ?_
    refine z_bipush (v := 20) C dX7_isSoWith_16 (by decide) ?_
    refine z_icmpgt C 71 dX7_isSoWith_18 (by decide) ?_ ?_
    · refine z_iconst (v := 1) C dX7_isSoWith_71 (by decide) ?_
      refine z_istore C [(4, .int 1), (0, .ref (b 0))] dX7_isSoWith_72 (by decide) rfl ?_
      refine z_iconst (v := 0) C dX7_isSoWith_74 (by decide) ?_
      refine z_istore C [(5, .int 0), (4, .int 1), (0, .ref (b 0))] dX7_isSoWith_75 (by decide) rfl ?_
      refine z_loc C [(0, .ref (b 0)), (4, .int (zb true)), (5, .int 0)] [2, 1, 0] rfl ?_
      exact w_X7_isSoWith_77 C b g X    FU u true 0
    refine z_iconst (v := 0) C dX7_isSoWith_21 (by decide) ?_
    refine z_istore C [(5, .int 0), (0, .ref (b 0)), (4, .int v4)] dX7_isSoWith_22 (by decide) rfl ?_
    refine z_loc C [(0, .ref (b 0)), (4, .int v4), (5, .int 0)] [1, 2, 0] rfl ?_
    exact w_X7_isSoWith_24 C b g X  (fun u v4 => f_X7_isSoWith_14 n u v4) ih FU u v4 0
noncomputable def f_X7_isSoWith (u : zM) (v1 : Int32) (v2 : Int32) (v3 : Int32) : Option (Bool × zM) := (f_X7_starts u).bind fun r1 => zlet r1 fun u2 => (f_X7_becomesOf u2 v1 v2 v3).bind fun r3 => zlet r3 fun u4 => f_X7_isSoWith_14 FU u4 0
set_option maxHeartbeats 4000000 in
set_option maxRecDepth 100000 in
theorem ct_X7_isSoWith (l : Launch) (G : zG) (b : Nat → Nat) (g : Nat → Int64) (X : va_W) (u : zM) (v1 : Int32) (v2 : Int32) (v3 : Int32) : zCt l yX7_isSoWith cX7_isSoWith 7 (some .boolean) 8 G [.ref (b 0), .int v1, .int v2, .int v3] (fun u : zM => wM b G.2 u g ++ X) (fun r : Bool × zM => some (.int (zb r.1))) (fun r => r.2) u (f_X7_isSoWith u v1 v2 v3) := by
  refine zCt.of (by decide) (Nat.le_of_ble_eq_true rfl) (fun p e s m args below meth c A C => ?_)
  refine y_lv (lv' := [(0, .ref (b 0)), (1, .int v1), (2, .int v2), (3, .int v3)]) rfl ?_
  rw [f_X7_isSoWith]
  refine z_aload_n C 0 dX7_isSoWith_0 rfl ?_
  refine y_callVS C (z_invV C [] [] (ct_X7_starts l G b g X u ) mi_X7_starts md_X7_starts ms_X7_starts ml_RX7_191 has_M_0 ⟨_, rfl, rfl⟩ (by decide) rfl rfl dX7_isSoWith_1 (Nat.le_of_ble_eq_true rfl)) (List.Perm.refl _) (fun _ => List.Perm.refl _) (fun r1 u2 => ?_)
  refine z_aload_n C 0 dX7_isSoWith_4 rfl ?_
  refine z_iload_n C 1 dX7_isSoWith_5 rfl ?_
  refine z_iload_n C 2 dX7_isSoWith_6 rfl ?_
  refine z_iload_n C 3 dX7_isSoWith_7 rfl ?_
  refine y_callVS C (z_invV C [.int v1, .int v2, .int v3] [] (ct_X7_becomesOf l G b g X u2 v1 v2 v3) mi_X7_becomesOf md_X7_becomesOf ms_X7_becomesOf ml_RX7_158 has_M_0 ⟨_, rfl, rfl⟩ (by decide) rfl rfl dX7_isSoWith_8 (Nat.le_of_ble_eq_true rfl)) (List.Perm.refl _) (fun _ => List.Perm.refl _) (fun r3 u4 => ?_)
  refine z_iconst (v := 0) C dX7_isSoWith_11 (by decide) ?_
  refine z_istore C [(4, .int 0), (0, .ref (b 0)), (1, .int v1), (2, .int v2), (3, .int v3)] dX7_isSoWith_12 (by decide) rfl ?_
  refine z_loc C [(0, .ref (b 0)), (4, .int 0)] [1, 0] rfl ?_
  exact w_X7_isSoWith_14 C b g X    FU u4 0
noncomputable def f_X7_runs_68 (k36 : zM → Int32 → Int32 → Int32 → Int32 → Option (Int32 × zM)) (u : zM) (v1 : Int32) (v2 : Int32) (v4 : Int32) (t0 : Int32) : Option (Int32 × zM) := if v1 ≤ v4 then k36 u v1 v2 t0 (v4 + 1) else (f_X7_strengthNow u).bind fun r9 => (f_X7_dayGoes u r9).bind fun r10 => zlet r10 fun u11 => k36 u11 v1 v2 t0 (v4 + 1)
set_option maxHeartbeats 4000000 in
set_option maxRecDepth 100000 in
theorem w_X7_runs_68 {p : Program} {l : Launch} {e : Env} {s : State} {m : MethodId} {args : Array Value} {below : List Frame} {meth : Method} {c : Code} {G : zG} {A : Nat → Prop} (C : zC p s m args meth c RX7 cX7_runs 5 (some .int) G A) (b : Nat → Nat) (g : Nat → Int64) (X : va_W) (k36 : zM → Int32 → Int32 → Int32 → Int32 → Option (Int32 × zM)) (hk36 : ∀ (u : zM) (v1 : Int32) (v2 : Int32) (v3 : Int32) (v4 : Int32), PW p l e 8 s m args below meth c G A 5 (fun u : zM => wM b G.2 u g ++ X) (fun r : Int32 × zM => some (.int r.1)) (fun r => r.2) u [(0, .ref (b 0)), (1, .int v1), (2, .int v2), (3, .int v3), (4, .int v4)] 36 [] (k36 u v1 v2 v3 v4)) : ∀ (u : zM) (v1 : Int32) (v2 : Int32) (v4 : Int32) (t0 : Int32), PW p l e 8 s m args below meth c G A 5 (fun u : zM => wM b G.2 u g ++ X) (fun r : Int32 × zM => some (.int r.1)) (fun r => r.2) u [(0, .ref (b 0)), (1, .int v1), (2, .int v2), (4, .int v4)] 68 [.int t0] (f_X7_runs_68 k36 u v1 v2 v4 t0) := by
  intro u v1 v2 v4 t0
  rw [f_X7_runs_68]
  refine z_istore_n C [(3, .int t0), (0, .ref (b 0)), (1, .int v1), (2, .int v2), (4, .int v4)] dX7_runs_68 (by decide) rfl ?_
  refine z_iload C 4 dX7_runs_69 rfl ?_
  refine z_iload_n C 2 dX7_runs_71 rfl ?_
  refine z_icmpge C 83 dX7_runs_72 (by decide) ?_ ?_
  · refine z_iinc C (v := (v4 + 1)) 4 [(4, .int (v4 + 1)), (3, .int t0), (0, .ref (b 0)), (1, .int v1), (2, .int v2)] dX7_runs_83 rfl rfl (by decide) rfl ?_
    refine z_goto C 36 dX7_runs_86 (by decide) ?_
    refine z_loc C [(0, .ref (b 0)), (1, .int v1), (2, .int v2), (3, .int t0), (4, .int (v4 + 1))] [2, 3, 4, 1, 0] rfl ?_
    exact hk36 u v1 v2 t0 (v4 + 1)
  refine z_aload_n C 1 dX7_runs_75 rfl ?_
  refine z_aload_n C 1 dX7_runs_76 rfl ?_
  refine y_callI C (z_invV C [] [.ref (b 0)] (ct_X7_strengthNow l G b g X u ) mi_X7_strengthNow md_X7_strengthNow ms_X7_strengthNow ml_RX7_181 has_M_0 ⟨_, rfl, rfl⟩ (by decide) rfl rfl dX7_runs_77 (Nat.le_of_ble_eq_true rfl)) (List.Perm.refl _) (fun r9 => ?_)
  refine y_callVS C (z_invV C [.int r9] [] (ct_X7_dayGoes l G b g X u r9) mi_X7_dayGoes md_X7_dayGoes ms_X7_dayGoes ml_RX7_184 has_M_0 ⟨_, rfl, rfl⟩ (by decide) rfl rfl dX7_runs_80 (Nat.le_of_ble_eq_true rfl)) (List.Perm.refl _) (fun _ => List.Perm.refl _) (fun r10 u11 => ?_)
  refine z_iinc C (v := (v4 + 1)) 4 [(4, .int (v4 + 1)), (3, .int t0), (0, .ref (b 0)), (1, .int v1), (2, .int v2)] dX7_runs_83 rfl rfl (by decide) rfl ?_
  refine z_goto C 36 dX7_runs_86 (by decide) ?_
  refine z_loc C [(0, .ref (b 0)), (1, .int v1), (2, .int v2), (3, .int t0), (4, .int (v4 + 1))] [2, 3, 4, 1, 0] rfl ?_
  exact hk36 u11 v1 v2 t0 (v4 + 1)
noncomputable def f_X7_runs_36 : Nat → zM → Int32 → Int32 → Int32 → Int32 → Option (Int32 × zM)
  | 0, _, _, _, _, _ => none
  | n + 1, u, v1, v2, v3, v4 => if v1 < v4 then if v2 = 0 then (f_X7_sitting u).bind fun r6 => some (r6, u) else if v2 = 1 then (f_X7_allCounted u).bind fun r7 => some (r7, u) else if v2 = 2 then some ((u 0 17), u) else some (v3, u) else if v3 = (-4) then (f_X7_sitting u).bind fun r8 => if z_in 34 61 = true then if r8 = (u 2 (Int32.toNatClampNeg 34)) then f_X7_runs_68 (fun u v1 v2 v3 v4 => f_X7_runs_36 n u v1 v2 v3 v4) u v1 v2 v4 v4 else f_X7_runs_68 (fun u v1 v2 v3 v4 => f_X7_runs_36 n u v1 v2 v3 v4) u v1 v2 v4 v3 else none else f_X7_runs_68 (fun u v1 v2 v3 v4 => f_X7_runs_36 n u v1 v2 v3 v4) u v1 v2 v4 v3
set_option maxHeartbeats 4000000 in
set_option maxRecDepth 100000 in
theorem w_X7_runs_36 {p : Program} {l : Launch} {e : Env} {s : State} {m : MethodId} {args : Array Value} {below : List Frame} {meth : Method} {c : Code} {G : zG} {A : Nat → Prop} (C : zC p s m args meth c RX7 cX7_runs 5 (some .int) G A) (b : Nat → Nat) (g : Nat → Int64) (X : va_W) : ∀ (n : Nat) (u : zM) (v1 : Int32) (v2 : Int32) (v3 : Int32) (v4 : Int32), PW p l e 8 s m args below meth c G A 5 (fun u : zM => wM b G.2 u g ++ X) (fun r : Int32 × zM => some (.int r.1)) (fun r => r.2) u [(0, .ref (b 0)), (1, .int v1), (2, .int v2), (3, .int v3), (4, .int v4)] 36 [] (f_X7_runs_36 n u v1 v2 v3 v4) := by
  intro n
  induction n with
  | zero => intros; exact z_none
  | succ n ih =>
    intro u v1 v2 v3 v4
    rw [f_X7_runs_36]
    refine z_iload C 4 dX7_runs_36 rfl ?_
    refine z_iload_n C 1 dX7_runs_38 rfl ?_
    refine z_icmpgt C 89 dX7_runs_39 (by decide) ?_ ?_
    · refine z_iload_n C 2 dX7_runs_89 rfl ?_
      refine z_ifne C 100 dX7_runs_90 (by decide) ?_ ?_
      · refine z_aload_n C 0 dX7_runs_93 rfl ?_
        refine y_callI C (z_invV C [] [] (ct_X7_sitting l G b g X u ) mi_X7_sitting md_X7_sitting ms_X7_sitting ml_RX7_194 has_M_0 ⟨_, rfl, rfl⟩ (by decide) rfl rfl dX7_runs_94 (Nat.le_of_ble_eq_true rfl)) (List.Perm.refl _) (fun r6 => ?_)
        refine z_goto C 125 dX7_runs_97 (by decide) ?_
        exact z_iret C dX7_runs_125 rfl rfl rfl
      refine z_iload_n C 2 dX7_runs_100 rfl ?_
      refine z_iconst (v := 1) C dX7_runs_101 (by decide) ?_
      refine z_icmpne C 112 dX7_runs_102 (by decide) ?_ ?_
      · refine z_aload_n C 0 dX7_runs_105 rfl ?_
        refine y_callI C (z_invV C [] [] (ct_X7_allCounted l G b g X u ) mi_X7_allCounted md_X7_allCounted ms_X7_allCounted ml_RX7_197 has_M_0 ⟨_, rfl, rfl⟩ (by decide) rfl rfl dX7_runs_106 (Nat.le_of_ble_eq_true rfl)) (List.Perm.refl _) (fun r7 => ?_)
        refine z_goto C 125 dX7_runs_109 (by decide) ?_
        exact z_iret C dX7_runs_125 rfl rfl rfl
      refine z_iload_n C 2 dX7_runs_112 rfl ?_
      refine z_iconst (v := 2) C dX7_runs_113 (by decide) ?_
      refine z_icmpne C 124 dX7_runs_114 (by decide) ?_ ?_
      · refine z_aload_n C 0 dX7_runs_117 rfl ?_
        refine z_get C fl_RX7_162 has_M_0 rfl dX7_runs_118 ?_
        refine z_goto C 125 dX7_runs_121 (by decide) ?_
        exact z_iret C dX7_runs_125 rfl rfl rfl
      refine z_iload_n C 3 dX7_runs_124 rfl ?_
      exact z_iret C dX7_runs_125 rfl rfl rfl
    refine z_iload_n C 3 dX7_runs_42 rfl ?_
    refine z_bipush (v := (-4)) C dX7_runs_43 (by decide) ?_
    refine z_icmpne C 67 dX7_runs_45 (by decide) ?_ ?_
    · refine z_aload_n C 0 dX7_runs_48 rfl ?_
      refine y_callI C (z_invV C [] [] (ct_X7_sitting l G b g X u ) mi_X7_sitting md_X7_sitting ms_X7_sitting ml_RX7_194 has_M_0 ⟨_, rfl, rfl⟩ (by decide) rfl rfl dX7_runs_49 (Nat.le_of_ble_eq_true rfl)) (List.Perm.refl _) (fun r8 => ?_)
      refine z_aload_n C 0 dX7_runs_52 rfl ?_
      refine z_get C fl_RX7_13 has_M_0 rfl dX7_runs_53 ?_
      refine z_bipush (v := 34) C dX7_runs_56 (by decide) ?_
      refine y_iald C has_M_2 dX7_runs_58 ?_
      refine z_icmpne C 67 dX7_runs_59 (by decide) ?_ ?_
      · refine z_iload C 4 dX7_runs_62 rfl ?_
        refine z_goto C 68 dX7_runs_64 (by decide) ?_
        refine z_loc C [(0, .ref (b 0)), (1, .int v1), (2, .int v2), (4, .int v4)] [0, 1, 2, 4] rfl ?_
        exact w_X7_runs_68 C b g X  (fun u v1 v2 v3 v4 => f_X7_runs_36 n u v1 v2 v3 v4) ih  u v1 v2 v4 v4
      refine z_iload_n C 3 dX7_runs_67 rfl ?_
      refine z_loc C [(0, .ref (b 0)), (1, .int v1), (2, .int v2), (4, .int v4)] [0, 1, 2, 4] rfl ?_
      exact w_X7_runs_68 C b g X  (fun u v1 v2 v3 v4 => f_X7_runs_36 n u v1 v2 v3 v4) ih  u v1 v2 v4 v3
    refine z_iload_n C 3 dX7_runs_67 rfl ?_
    refine z_loc C [(0, .ref (b 0)), (1, .int v1), (2, .int v2), (4, .int v4)] [0, 1, 2, 4] rfl ?_
    exact w_X7_runs_68 C b g X  (fun u v1 v2 v3 v4 => f_X7_runs_36 n u v1 v2 v3 v4) ih  u v1 v2 v4 v3
noncomputable def f_X7_runs (u : zM) (v1 : Int32) (v2 : Int32) : Option (Int32 × zM) := (f_X7_isFar v1).bind fun r1 => if r1 = true then (f_X7_in (Int32.toInt64 v2) (0 : Int64) (3 : Int64)).bind fun r2 => if r2 = true then (f_X7_starts u).bind fun r3 => zlet r3 fun u4 => zlet (zU u4 0 17 0) fun u5 => f_X7_runs_36 FU u5 v1 v2 (-4) 0 else some ((-1), u) else some ((-1), u)
set_option maxHeartbeats 4000000 in
set_option maxRecDepth 100000 in
theorem ct_X7_runs (l : Launch) (G : zG) (b : Nat → Nat) (g : Nat → Int64) (X : va_W) (u : zM) (v1 : Int32) (v2 : Int32) : zCt l yX7_runs cX7_runs 5 (some .int) 8 G [.ref (b 0), .int v1, .int v2] (fun u : zM => wM b G.2 u g ++ X) (fun r : Int32 × zM => some (.int r.1)) (fun r => r.2) u (f_X7_runs u v1 v2) := by
  refine zCt.of (by decide) (Nat.le_of_ble_eq_true rfl) (fun p e s m args below meth c A C => ?_)
  refine y_lv (lv' := [(0, .ref (b 0)), (1, .int v1), (2, .int v2)]) rfl ?_
  rw [f_X7_runs]
  refine z_iload_n C 1 dX7_runs_0 rfl ?_
  refine y_callZ C (z_invS C [.int v1] [] (ct_X7_isFar l G ((fun u : zM => wM b G.2 u g ++ X) u) v1) mi_X7_isFar mt_X7_isFar ml_RX7_234 (by decide) rfl rfl dX7_runs_1 (Nat.le_of_ble_eq_true rfl)) (List.Perm.refl _) (fun r1 => ?_)
  refine z_zifeq C 19 dX7_runs_4 (by decide) ?_ ?_
  · refine z_iload_n C 2 dX7_runs_7 rfl ?_
    refine z_i2l C dX7_runs_8 ?_
    refine z_lconst (v := 0) C dX7_runs_9 (by decide) ?_
    refine z_ldc2 C kc_RX7_212 dX7_runs_10 ?_
    refine y_callZ C (z_invS C [.long (Int32.toInt64 v2), .long (0 : Int64), .long (3 : Int64)] [] (ct_X7_in l G ((fun u : zM => wM b G.2 u g ++ X) u) (Int32.toInt64 v2) (0 : Int64) (3 : Int64)) mi_X7_in mt_X7_in ml_RX7_65 (by decide) rfl rfl dX7_runs_13 (Nat.le_of_ble_eq_true rfl)) (List.Perm.refl _) (fun r2 => ?_)
    refine z_zifne C 21 dX7_runs_16 (by decide) ?_ ?_
    · refine z_bipush (v := (-4)) C dX7_runs_21 (by decide) ?_
      refine z_istore_n C [(3, .int (-4)), (0, .ref (b 0)), (1, .int v1), (2, .int v2)] dX7_runs_23 (by decide) rfl ?_
      refine z_aload_n C 1 dX7_runs_24 rfl ?_
      refine y_callVS C (z_invV C [] [] (ct_X7_starts l G b g X u ) mi_X7_starts md_X7_starts ms_X7_starts ml_RX7_191 has_M_0 ⟨_, rfl, rfl⟩ (by decide) rfl rfl dX7_runs_25 (Nat.le_of_ble_eq_true rfl)) (List.Perm.refl _) (fun _ => List.Perm.refl _) (fun r3 u4 => ?_)
      refine z_aload_n C 1 dX7_runs_28 rfl ?_
      refine z_iconst (v := 0) C dX7_runs_29 (by decide) ?_
      refine z_put C fl_RX7_162 ft_7_17 upd_M_0_17 rfl rfl (Nat.le_of_ble_eq_true rfl) dX7_runs_30 (fun u5 => ?_)
      refine z_iconst (v := 0) C dX7_runs_33 (by decide) ?_
      refine z_istore C [(4, .int 0), (3, .int (-4)), (0, .ref (b 0)), (1, .int v1), (2, .int v2)] dX7_runs_34 (by decide) rfl ?_
      refine z_loc C [(0, .ref (b 0)), (1, .int v1), (2, .int v2), (3, .int (-4)), (4, .int 0)] [2, 3, 4, 1, 0] rfl ?_
      exact w_X7_runs_36 C b g X    FU u5 v1 v2 (-4) 0
    refine z_iconst (v := (-1)) C dX7_runs_19 (by decide) ?_
    exact z_iret C dX7_runs_20 rfl rfl rfl
  refine z_iconst (v := (-1)) C dX7_runs_19 (by decide) ?_
  exact z_iret C dX7_runs_20 rfl rfl rfl
noncomputable def f_X7_ahead (u : zM) (v1 : Int32) (v2 : Int32) : Option (Int32 × zM) := (f_X7_isOne u v1).bind fun r1 => if r1 = true then (f_X7_isFar v2).bind fun r2 => if r2 = true then (f_X7_starts u).bind fun r3 => zlet r3 fun u4 => (f_X7_daysGo u4 v2).bind fun r5 => zlet r5 fun u6 => (f_X7_counted u6 v1).bind fun r7 => some (r7, u6) else some ((-1), u) else some ((-1), u)
set_option maxHeartbeats 4000000 in
set_option maxRecDepth 100000 in
theorem ct_X7_ahead (l : Launch) (G : zG) (b : Nat → Nat) (g : Nat → Int64) (X : va_W) (u : zM) (v1 : Int32) (v2 : Int32) : zCt l yX7_ahead cX7_ahead 3 (some .int) 9 G [.ref (b 0), .int v1, .int v2] (fun u : zM => wM b G.2 u g ++ X) (fun r : Int32 × zM => some (.int r.1)) (fun r => r.2) u (f_X7_ahead u v1 v2) := by
  refine zCt.of (by decide) (Nat.le_of_ble_eq_true rfl) (fun p e s m args below meth c A C => ?_)
  refine y_lv (lv' := [(0, .ref (b 0)), (1, .int v1), (2, .int v2)]) rfl ?_
  rw [f_X7_ahead]
  refine z_aload_n C 0 dX7_ahead_0 rfl ?_
  refine z_iload_n C 1 dX7_ahead_1 rfl ?_
  refine y_callZ C (z_invV C [.int v1] [] (ct_X7_isOne l G b g X u v1) mi_X7_isOne md_X7_isOne ms_X7_isOne ml_RX7_203 has_M_0 ⟨_, rfl, rfl⟩ (by decide) rfl rfl dX7_ahead_2 (Nat.le_of_ble_eq_true rfl)) (List.Perm.refl _) (fun r1 => ?_)
  refine z_zifeq C 15 dX7_ahead_5 (by decide) ?_ ?_
  · refine z_iload_n C 2 dX7_ahead_8 rfl ?_
    refine y_callZ C (z_invS C [.int v2] [] (ct_X7_isFar l G ((fun u : zM => wM b G.2 u g ++ X) u) v2) mi_X7_isFar mt_X7_isFar ml_RX7_234 (by decide) rfl rfl dX7_ahead_9 (Nat.le_of_ble_eq_true rfl)) (List.Perm.refl _) (fun r2 => ?_)
    refine z_zifne C 17 dX7_ahead_12 (by decide) ?_ ?_
    · refine z_aload_n C 0 dX7_ahead_17 rfl ?_
      refine y_callVS C (z_invV C [] [] (ct_X7_starts l G b g X u ) mi_X7_starts md_X7_starts ms_X7_starts ml_RX7_191 has_M_0 ⟨_, rfl, rfl⟩ (by decide) rfl rfl dX7_ahead_18 (Nat.le_of_ble_eq_true rfl)) (List.Perm.refl _) (fun _ => List.Perm.refl _) (fun r3 u4 => ?_)
      refine z_aload_n C 0 dX7_ahead_21 rfl ?_
      refine z_iload_n C 2 dX7_ahead_22 rfl ?_
      refine y_callVS C (z_invV C [.int v2] [] (ct_X7_daysGo l G b g X u4 v2) mi_X7_daysGo md_X7_daysGo ms_X7_daysGo ml_RX7_226 has_M_0 ⟨_, rfl, rfl⟩ (by decide) rfl rfl dX7_ahead_23 (Nat.le_of_ble_eq_true rfl)) (List.Perm.refl _) (fun _ => List.Perm.refl _) (fun r5 u6 => ?_)
      refine z_aload_n C 0 dX7_ahead_26 rfl ?_
      refine z_iload_n C 1 dX7_ahead_27 rfl ?_
      refine y_callI C (z_invV C [.int v1] [] (ct_X7_counted l G b g X u6 v1) mi_X7_counted md_X7_counted ms_X7_counted ml_RX7_149 has_M_0 ⟨_, rfl, rfl⟩ (by decide) rfl rfl dX7_ahead_28 (Nat.le_of_ble_eq_true rfl)) (List.Perm.refl _) (fun r7 => ?_)
      exact z_iret C dX7_ahead_31 rfl rfl rfl
    refine z_iconst (v := (-1)) C dX7_ahead_15 (by decide) ?_
    exact z_iret C dX7_ahead_16 rfl rfl rfl
  refine z_iconst (v := (-1)) C dX7_ahead_15 (by decide) ?_
  exact z_iret C dX7_ahead_16 rfl rfl rfl
noncomputable def f_X7_ask_121 (k96 : zM → Int32 → Int32 → Int32 → Int32 → Int32 → Option (Int32 × zM)) (k109 : zM → Int32 → Int32 → Int32 → Int32 → Int32 → Int32 → Int32 → Option (Int32 × zM)) : Nat → zM → Int32 → Int32 → Int32 → Int32 → Int32 → Int32 → Int32 → Int32 → Int32 → Option (Int32 × zM)
  | 0, _, _, _, _, _, _, _, _, _, _ => none
  | n + 1, u, v2, v3, v4, v5, v6, v7, v8, v9, v10 => if v3 ≤ v10 then if v9 ≤ v7 then k109 u v2 v3 v4 v5 v6 v7 (v8 + 1) else k109 u v2 v3 v4 v5 v6 v9 (v8 + 1) else if z_in ((84 * v8) + v6) 336 = true then if z_in ((84 * v10) + v6) 336 = true then if (u 7 (Int32.toNatClampNeg ((84 * v8) + v6))) = (u 7 (Int32.toNatClampNeg ((84 * v10) + v6))) then (f_X7_flag 1).bind fun r3 => f_X7_ask_121 k96 k109 n u v2 v3 v4 v5 v6 v7 v8 (v9 + r3) (v10 + 1) else (f_X7_flag 0).bind fun r4 => f_X7_ask_121 k96 k109 n u v2 v3 v4 v5 v6 v7 v8 (v9 + r4) (v10 + 1) else none else none
set_option maxHeartbeats 4000000 in
set_option maxRecDepth 100000 in
theorem w_X7_ask_121 {p : Program} {l : Launch} {e : Env} {s : State} {m : MethodId} {args : Array Value} {below : List Frame} {meth : Method} {c : Code} {G : zG} {A : Nat → Prop} (C : zC p s m args meth c RX7 cX7_ask 11 (some .int) G A) (b : Nat → Nat) (g : Nat → Int64) (X : va_W) (k96 : zM → Int32 → Int32 → Int32 → Int32 → Int32 → Option (Int32 × zM)) (k109 : zM → Int32 → Int32 → Int32 → Int32 → Int32 → Int32 → Int32 → Option (Int32 × zM)) (hk96 : ∀ (u : zM) (v2 : Int32) (v3 : Int32) (v4 : Int32) (v5 : Int32) (v6 : Int32), PW p l e 9 s m args below meth c G A 11 (fun u : zM => wM b G.2 u g ++ X) (fun r : Int32 × zM => some (.int r.1)) (fun r => r.2) u [(0, .ref (b 0)), (2, .int v2), (3, .int v3), (4, .int v4), (5, .int v5), (6, .int v6)] 96 [] (k96 u v2 v3 v4 v5 v6)) (hk109 : ∀ (u : zM) (v2 : Int32) (v3 : Int32) (v4 : Int32) (v5 : Int32) (v6 : Int32) (v7 : Int32) (v8 : Int32), PW p l e 9 s m args below meth c G A 11 (fun u : zM => wM b G.2 u g ++ X) (fun r : Int32 × zM => some (.int r.1)) (fun r => r.2) u [(0, .ref (b 0)), (2, .int v2), (3, .int v3), (4, .int v4), (5, .int v5), (6, .int v6), (7, .int v7), (8, .int v8)] 109 [] (k109 u v2 v3 v4 v5 v6 v7 v8)) : ∀ (n : Nat) (u : zM) (v2 : Int32) (v3 : Int32) (v4 : Int32) (v5 : Int32) (v6 : Int32) (v7 : Int32) (v8 : Int32) (v9 : Int32) (v10 : Int32), PW p l e 9 s m args below meth c G A 11 (fun u : zM => wM b G.2 u g ++ X) (fun r : Int32 × zM => some (.int r.1)) (fun r => r.2) u [(0, .ref (b 0)), (2, .int v2), (3, .int v3), (4, .int v4), (5, .int v5), (6, .int v6), (7, .int v7), (8, .int v8), (9, .int v9), (10, .int v10)] 121 [] (f_X7_ask_121 k96 k109 n u v2 v3 v4 v5 v6 v7 v8 v9 v10) := by
  intro n
  induction n with
  | zero => intros; exact z_none
  | succ n ih =>
    intro u v2 v3 v4 v5 v6 v7 v8 v9 v10
    rw [f_X7_ask_121]
    refine z_iload C 9 dX7_ask_121 rfl ?_
    refine z_iload_n C 2 dX7_ask_123 rfl ?_
    refine z_icmpge C 175 dX7_ask_124 (by decide) ?_ ?_
    · refine z_iload C 8 dX7_ask_175 rfl ?_
      refine z_iload C 6 dX7_ask_177 rfl ?_
      refine z_icmple C 187 dX7_ask_179 (by decide) ?_ ?_
      · refine z_iload C 6 dX7_ask_187 rfl ?_
        refine z_istore C [(7, .int v7), (0, .ref (b 0)), (2, .int v2), (3, .int v3), (4, .int v4), (5, .int v5), (6, .int v6), (8, .int v8), (9, .int v9), (10, .int v10)] dX7_ask_189 (by decide) rfl ?_
        refine z_iinc C (v := (v8 + 1)) 7 [(8, .int (v8 + 1)), (7, .int v7), (0, .ref (b 0)), (2, .int v2), (3, .int v3), (4, .int v4), (5, .int v5), (6, .int v6), (9, .int v9), (10, .int v10)] dX7_ask_191 rfl rfl (by decide) rfl ?_
        refine z_goto C 109 dX7_ask_194 (by decide) ?_
        refine z_loc C [(0, .ref (b 0)), (2, .int v2), (3, .int v3), (4, .int v4), (5, .int v5), (6, .int v6), (7, .int v7), (8, .int (v8 + 1))] [2, 3, 4, 5, 6, 7, 1, 0] rfl ?_
        exact hk109 u v2 v3 v4 v5 v6 v7 (v8 + 1)
      refine z_iload C 8 dX7_ask_182 rfl ?_
      refine z_goto C 189 dX7_ask_184 (by decide) ?_
      refine z_istore C [(7, .int v9), (0, .ref (b 0)), (2, .int v2), (3, .int v3), (4, .int v4), (5, .int v5), (6, .int v6), (8, .int v8), (9, .int v9), (10, .int v10)] dX7_ask_189 (by decide) rfl ?_
      refine z_iinc C (v := (v8 + 1)) 7 [(8, .int (v8 + 1)), (7, .int v9), (0, .ref (b 0)), (2, .int v2), (3, .int v3), (4, .int v4), (5, .int v5), (6, .int v6), (9, .int v9), (10, .int v10)] dX7_ask_191 rfl rfl (by decide) rfl ?_
      refine z_goto C 109 dX7_ask_194 (by decide) ?_
      refine z_loc C [(0, .ref (b 0)), (2, .int v2), (3, .int v3), (4, .int v4), (5, .int v5), (6, .int v6), (7, .int v9), (8, .int (v8 + 1))] [2, 3, 4, 5, 6, 7, 1, 0] rfl ?_
      exact hk109 u v2 v3 v4 v5 v6 v9 (v8 + 1)
    refine z_iload C 8 dX7_ask_127 rfl ?_
    refine z_aload_n C 0 dX7_ask_129 rfl ?_
    refine z_get C fl_RX7_29 has_M_0 rfl dX7_ask_130 ?_
    refine z_bipush (v := 84) C dX7_ask_133 (by decide) ?_
    refine z_iload C 7 dX7_ask_135 rfl ?_
    refine z_imul C dX7_ask_137 ?_
    refine z_iload C 5 dX7_ask_138 rfl ?_
    refine z_iadd C dX7_ask_140 ?_
    refine y_iald C has_M_7 dX7_ask_141 ?_
    refine z_aload_n C 0 dX7_ask_142 rfl ?_
    refine z_get C fl_RX7_29 has_M_0 rfl dX7_ask_143 ?_
    refine z_bipush (v := 84) C dX7_ask_146 (by decide) ?_
    refine z_iload C 9 dX7_ask_148 rfl ?_
    refine z_imul C dX7_ask_150 ?_
    refine z_iload C 5 dX7_ask_151 rfl ?_
    refine z_iadd C dX7_ask_153 ?_
    refine y_iald C has_M_7 dX7_ask_154 ?_
    refine z_icmpne C 162 dX7_ask_155 (by decide) ?_ ?_
    · refine z_iconst (v := 1) C dX7_ask_158 (by decide) ?_
      refine z_goto C 163 dX7_ask_159 (by decide) ?_
      refine y_callI C (z_invS C [.int 1] [.int v9] (ct_X7_flag l G ((fun u : zM => wM b G.2 u g ++ X) u) 1) mi_X7_flag mt_X7_flag ml_RX7_187 (by decide) rfl rfl dX7_ask_163 (Nat.le_of_ble_eq_true rfl)) (List.Perm.refl _) (fun r3 => ?_)
      refine z_iadd C dX7_ask_166 ?_
      refine z_istore C [(9, .int (v9 + r3)), (0, .ref (b 0)), (2, .int v2), (3, .int v3), (4, .int v4), (5, .int v5), (6, .int v6), (7, .int v7), (8, .int v8), (10, .int v10)] dX7_ask_167 (by decide) rfl ?_
      refine z_iinc C (v := (v10 + 1)) 9 [(10, .int (v10 + 1)), (9, .int (v9 + r3)), (0, .ref (b 0)), (2, .int v2), (3, .int v3), (4, .int v4), (5, .int v5), (6, .int v6), (7, .int v7), (8, .int v8)] dX7_ask_169 rfl rfl (by decide) rfl ?_
      refine z_goto C 121 dX7_ask_172 (by decide) ?_
      refine z_loc C [(0, .ref (b 0)), (2, .int v2), (3, .int v3), (4, .int v4), (5, .int v5), (6, .int v6), (7, .int v7), (8, .int v8), (9, .int (v9 + r3)), (10, .int (v10 + 1))] [2, 3, 4, 5, 6, 7, 8, 9, 1, 0] rfl ?_
      exact ih u v2 v3 v4 v5 v6 v7 v8 (v9 + r3) (v10 + 1)
    refine z_iconst (v := 0) C dX7_ask_162 (by decide) ?_
    refine y_callI C (z_invS C [.int 0] [.int v9] (ct_X7_flag l G ((fun u : zM => wM b G.2 u g ++ X) u) 0) mi_X7_flag mt_X7_flag ml_RX7_187 (by decide) rfl rfl dX7_ask_163 (Nat.le_of_ble_eq_true rfl)) (List.Perm.refl _) (fun r4 => ?_)
    refine z_iadd C dX7_ask_166 ?_
    refine z_istore C [(9, .int (v9 + r4)), (0, .ref (b 0)), (2, .int v2), (3, .int v3), (4, .int v4), (5, .int v5), (6, .int v6), (7, .int v7), (8, .int v8), (10, .int v10)] dX7_ask_167 (by decide) rfl ?_
    refine z_iinc C (v := (v10 + 1)) 9 [(10, .int (v10 + 1)), (9, .int (v9 + r4)), (0, .ref (b 0)), (2, .int v2), (3, .int v3), (4, .int v4), (5, .int v5), (6, .int v6), (7, .int v7), (8, .int v8)] dX7_ask_169 rfl rfl (by decide) rfl ?_
    refine z_goto C 121 dX7_ask_172 (by decide) ?_
    refine z_loc C [(0, .ref (b 0)), (2, .int v2), (3, .int v3), (4, .int v4), (5, .int v5), (6, .int v6), (7, .int v7), (8, .int v8), (9, .int (v9 + r4)), (10, .int (v10 + 1))] [2, 3, 4, 5, 6, 7, 8, 9, 1, 0] rfl ?_
    exact ih u v2 v3 v4 v5 v6 v7 v8 (v9 + r4) (v10 + 1)
noncomputable def f_X7_ask_109 (k96 : zM → Int32 → Int32 → Int32 → Int32 → Int32 → Option (Int32 × zM)) : Nat → zM → Int32 → Int32 → Int32 → Int32 → Int32 → Int32 → Int32 → Option (Int32 × zM)
  | 0, _, _, _, _, _, _, _, _ => none
  | n + 1, u, v2, v3, v4, v5, v6, v7, v8 => if v3 ≤ v8 then if (u 0 3) ≤ (v6 - v6 / 4 * 4) then k96 u v2 v3 v4 v5 (v6 + 1) else if v4 ≤ v7 then k96 u v2 v3 v4 v5 (v6 + 1) else k96 u v2 v3 v7 v6 (v6 + 1) else f_X7_ask_121 k96 (fun u v2 v3 v4 v5 v6 v7 v8 => f_X7_ask_109 k96 n u v2 v3 v4 v5 v6 v7 v8) FU u v2 v3 v4 v5 v6 v7 v8 0 0
set_option maxHeartbeats 4000000 in
set_option maxRecDepth 100000 in
theorem w_X7_ask_109 {p : Program} {l : Launch} {e : Env} {s : State} {m : MethodId} {args : Array Value} {below : List Frame} {meth : Method} {c : Code} {G : zG} {A : Nat → Prop} (C : zC p s m args meth c RX7 cX7_ask 11 (some .int) G A) (b : Nat → Nat) (g : Nat → Int64) (X : va_W) (k96 : zM → Int32 → Int32 → Int32 → Int32 → Int32 → Option (Int32 × zM)) (hk96 : ∀ (u : zM) (v2 : Int32) (v3 : Int32) (v4 : Int32) (v5 : Int32) (v6 : Int32), PW p l e 9 s m args below meth c G A 11 (fun u : zM => wM b G.2 u g ++ X) (fun r : Int32 × zM => some (.int r.1)) (fun r => r.2) u [(0, .ref (b 0)), (2, .int v2), (3, .int v3), (4, .int v4), (5, .int v5), (6, .int v6)] 96 [] (k96 u v2 v3 v4 v5 v6)) : ∀ (n : Nat) (u : zM) (v2 : Int32) (v3 : Int32) (v4 : Int32) (v5 : Int32) (v6 : Int32) (v7 : Int32) (v8 : Int32), PW p l e 9 s m args below meth c G A 11 (fun u : zM => wM b G.2 u g ++ X) (fun r : Int32 × zM => some (.int r.1)) (fun r => r.2) u [(0, .ref (b 0)), (2, .int v2), (3, .int v3), (4, .int v4), (5, .int v5), (6, .int v6), (7, .int v7), (8, .int v8)] 109 [] (f_X7_ask_109 k96 n u v2 v3 v4 v5 v6 v7 v8) := by
  intro n
  induction n with
  | zero => intros; exact z_none
  | succ n ih =>
    intro u v2 v3 v4 v5 v6 v7 v8
    rw [f_X7_ask_109]
    refine z_iload C 7 dX7_ask_109 rfl ?_
    refine z_iload_n C 2 dX7_ask_111 rfl ?_
    refine z_icmpge C 197 dX7_ask_112 (by decide) ?_ ?_
    · refine z_iload C 5 dX7_ask_197 rfl ?_
      refine z_iconst (v := 4) C dX7_ask_199 (by decide) ?_
      refine z_iremK C (by decide) dX7_ask_200 ?_
      refine z_aload_n C 0 dX7_ask_201 rfl ?_
      refine z_get C fl_RX7_60 has_M_0 rfl dX7_ask_202 ?_
      refine z_icmpge C 223 dX7_ask_205 (by decide) ?_ ?_
      · refine z_iinc C (v := (v6 + 1)) 5 [(6, .int (v6 + 1)), (0, .ref (b 0)), (2, .int v2), (3, .int v3), (4, .int v4), (5, .int v5), (7, .int v7), (8, .int v8)] dX7_ask_223 rfl rfl (by decide) rfl ?_
        refine z_goto C 96 dX7_ask_226 (by decide) ?_
        refine z_loc C [(0, .ref (b 0)), (2, .int v2), (3, .int v3), (4, .int v4), (5, .int v5), (6, .int (v6 + 1))] [1, 2, 3, 4, 5, 0] rfl ?_
        exact hk96 u v2 v3 v4 v5 (v6 + 1)
      refine z_iload C 6 dX7_ask_208 rfl ?_
      refine z_iload C 3 dX7_ask_210 rfl ?_
      refine z_icmpge C 223 dX7_ask_212 (by decide) ?_ ?_
      · refine z_iinc C (v := (v6 + 1)) 5 [(6, .int (v6 + 1)), (0, .ref (b 0)), (2, .int v2), (3, .int v3), (4, .int v4), (5, .int v5), (7, .int v7), (8, .int v8)] dX7_ask_223 rfl rfl (by decide) rfl ?_
        refine z_goto C 96 dX7_ask_226 (by decide) ?_
        refine z_loc C [(0, .ref (b 0)), (2, .int v2), (3, .int v3), (4, .int v4), (5, .int v5), (6, .int (v6 + 1))] [1, 2, 3, 4, 5, 0] rfl ?_
        exact hk96 u v2 v3 v4 v5 (v6 + 1)
      refine z_iload C 6 dX7_ask_215 rfl ?_
      refine z_istore C [(4, .int v7), (0, .ref (b 0)), (2, .int v2), (3, .int v3), (5, .int v5), (6, .int v6), (7, .int v7), (8, .int v8)] dX7_ask_217 (by decide) rfl ?_
      refine z_iload C 5 dX7_ask_219 rfl ?_
      refine z_istore C [(5, .int v6), (4, .int v7), (0, .ref (b 0)), (2, .int v2), (3, .int v3), (6, .int v6), (7, .int v7), (8, .int v8)] dX7_ask_221 (by decide) rfl ?_
      refine z_iinc C (v := (v6 + 1)) 5 [(6, .int (v6 + 1)), (5, .int v6), (4, .int v7), (0, .ref (b 0)), (2, .int v2), (3, .int v3), (7, .int v7), (8, .int v8)] dX7_ask_223 rfl rfl (by decide) rfl ?_
      refine z_goto C 96 dX7_ask_226 (by decide) ?_
      refine z_loc C [(0, .ref (b 0)), (2, .int v2), (3, .int v3), (4, .int v7), (5, .int v6), (6, .int (v6 + 1))] [3, 4, 5, 2, 1, 0] rfl ?_
      exact hk96 u v2 v3 v7 v6 (v6 + 1)
    refine z_iconst (v := 0) C dX7_ask_115 (by decide) ?_
    refine z_istore C [(9, .int 0), (0, .ref (b 0)), (2, .int v2), (3, .int v3), (4, .int v4), (5, .int v5), (6, .int v6), (7, .int v7), (8, .int v8)] dX7_ask_116 (by decide) rfl ?_
    refine z_iconst (v := 0) C dX7_ask_118 (by decide) ?_
    refine z_istore C [(10, .int 0), (9, .int 0), (0, .ref (b 0)), (2, .int v2), (3, .int v3), (4, .int v4), (5, .int v5), (6, .int v6), (7, .int v7), (8, .int v8)] dX7_ask_119 (by decide) rfl ?_
    refine z_loc C [(0, .ref (b 0)), (2, .int v2), (3, .int v3), (4, .int v4), (5, .int v5), (6, .int v6), (7, .int v7), (8, .int v8), (9, .int 0), (10, .int 0)] [2, 3, 4, 5, 6, 7, 8, 9, 1, 0] rfl ?_
    exact w_X7_ask_121 C b g X  k96 (fun u v2 v3 v4 v5 v6 v7 v8 => f_X7_ask_109 k96 n u v2 v3 v4 v5 v6 v7 v8) hk96 ih FU u v2 v3 v4 v5 v6 v7 v8 0 0
noncomputable def f_X7_ask_96 : Nat → zM → Int32 → Int32 → Int32 → Int32 → Int32 → Option (Int32 × zM)
  | 0, _, _, _, _, _, _ => none
  | n + 1, u, v2, v3, v4, v5, v6 => if 84 ≤ v6 then if v5 = (-4) then some ((-4), u) else if v2 = 0 then some (((10 * (v5 / 4)) + (v5 - v5 / 4 * 4)), u) else some (v4, u) else f_X7_ask_109 (fun u v2 v3 v4 v5 v6 => f_X7_ask_96 n u v2 v3 v4 v5 v6) FU u v2 v3 v4 v5 v6 0 0
set_option maxHeartbeats 4000000 in
set_option maxRecDepth 100000 in
theorem w_X7_ask_96 {p : Program} {l : Launch} {e : Env} {s : State} {m : MethodId} {args : Array Value} {below : List Frame} {meth : Method} {c : Code} {G : zG} {A : Nat → Prop} (C : zC p s m args meth c RX7 cX7_ask 11 (some .int) G A) (b : Nat → Nat) (g : Nat → Int64) (X : va_W) : ∀ (n : Nat) (u : zM) (v2 : Int32) (v3 : Int32) (v4 : Int32) (v5 : Int32) (v6 : Int32), PW p l e 9 s m args below meth c G A 11 (fun u : zM => wM b G.2 u g ++ X) (fun r : Int32 × zM => some (.int r.1)) (fun r => r.2) u [(0, .ref (b 0)), (2, .int v2), (3, .int v3), (4, .int v4), (5, .int v5), (6, .int v6)] 96 [] (f_X7_ask_96 n u v2 v3 v4 v5 v6) := by
  intro n
  induction n with
  | zero => intros; exact z_none
  | succ n ih =>
    intro u v2 v3 v4 v5 v6
    rw [f_X7_ask_96]
    refine z_iload C 5 dX7_ask_96 rfl ?_
    refine z_bipush (v := 84) C dX7_ask_98 (by decide) ?_
    refine z_icmpge C 229 dX7_ask_100 (by decide) ?_ ?_
    · refine z_iload C 4 dX7_ask_229 rfl ?_
      refine z_bipush (v := (-4)) C dX7_ask_231 (by decide) ?_
      refine z_icmpne C 241 dX7_ask_233 (by decide) ?_ ?_
      · refine z_bipush (v := (-4)) C dX7_ask_236 (by decide) ?_
        refine z_goto C 262 dX7_ask_238 (by decide) ?_
        exact z_iret C dX7_ask_262 rfl rfl rfl
      refine z_iload_n C 1 dX7_ask_241 rfl ?_
      refine z_ifne C 260 dX7_ask_242 (by decide) ?_ ?_
      · refine z_bipush (v := 10) C dX7_ask_245 (by decide) ?_
        refine z_iload C 4 dX7_ask_247 rfl ?_
        refine z_iconst (v := 4) C dX7_ask_249 (by decide) ?_
        refine z_idivK C (by decide) dX7_ask_250 ?_
        refine z_imul C dX7_ask_251 ?_
        refine z_iload C 4 dX7_ask_252 rfl ?_
        refine z_iconst (v := 4) C dX7_ask_254 (by decide) ?_
        refine z_iremK C (by decide) dX7_ask_255 ?_
        refine z_iadd C dX7_ask_256 ?_
        refine z_goto C 262 dX7_ask_257 (by decide) ?_
        exact z_iret C dX7_ask_262 rfl rfl rfl
      refine z_iload C 3 dX7_ask_260 rfl ?_
      exact z_iret C dX7_ask_262 rfl rfl rfl
    refine z_iconst (v := 0) C dX7_ask_103 (by decide) ?_
    refine z_istore C [(7, .int 0), (0, .ref (b 0)), (2, .int v2), (3, .int v3), (4, .int v4), (5, .int v5), (6, .int v6)] dX7_ask_104 (by decide) rfl ?_
    refine z_iconst (v := 0) C dX7_ask_106 (by decide) ?_
    refine z_istore C [(8, .int 0), (7, .int 0), (0, .ref (b 0)), (2, .int v2), (3, .int v3), (4, .int v4), (5, .int v5), (6, .int v6)] dX7_ask_107 (by decide) rfl ?_
    refine z_loc C [(0, .ref (b 0)), (2, .int v2), (3, .int v3), (4, .int v4), (5, .int v5), (6, .int v6), (7, .int 0), (8, .int 0)] [2, 3, 4, 5, 6, 7, 1, 0] rfl ?_
    exact w_X7_ask_109 C b g X  (fun u v2 v3 v4 v5 v6 => f_X7_ask_96 n u v2 v3 v4 v5 v6) ih FU u v2 v3 v4 v5 v6 0 0
noncomputable def f_X7_ask_45 (k22 : zM → Int32 → Int32 → Int32 → Int32 → Option (Int32 × zM)) : Nat → zM → Int32 → Int32 → Int32 → Int32 → Int32 → Option (Int32 × zM)
  | 0, _, _, _, _, _, _ => none
  | n + 1, u, v1, v2, v3, v4, v5 => if 84 ≤ v5 then k22 u v1 v2 (v3 + 1) (v4 + 1) else if z_in v5 84 = true then if z_in ((84 * v3) + v5) 336 = true then zlet (zU u 7 (Int32.toNatClampNeg ((84 * v3) + v5)) (u 6 (Int32.toNatClampNeg v5))) (fun u7 => f_X7_ask_45 k22 n u7 v1 v2 v3 v4 (v5 + 1)) else none else none
set_option maxHeartbeats 4000000 in
set_option maxRecDepth 100000 in
theorem w_X7_ask_45 {p : Program} {l : Launch} {e : Env} {s : State} {m : MethodId} {args : Array Value} {below : List Frame} {meth : Method} {c : Code} {G : zG} {A : Nat → Prop} (C : zC p s m args meth c RX7 cX7_ask 11 (some .int) G A) (b : Nat → Nat) (g : Nat → Int64) (X : va_W) (k22 : zM → Int32 → Int32 → Int32 → Int32 → Option (Int32 × zM)) (hk22 : ∀ (u : zM) (v1 : Int32) (v2 : Int32) (v3 : Int32) (v4 : Int32), PW p l e 9 s m args below meth c G A 11 (fun u : zM => wM b G.2 u g ++ X) (fun r : Int32 × zM => some (.int r.1)) (fun r => r.2) u [(0, .ref (b 0)), (1, .int v1), (2, .int v2), (3, .int v3), (4, .int v4)] 22 [] (k22 u v1 v2 v3 v4)) : ∀ (n : Nat) (u : zM) (v1 : Int32) (v2 : Int32) (v3 : Int32) (v4 : Int32) (v5 : Int32), PW p l e 9 s m args below meth c G A 11 (fun u : zM => wM b G.2 u g ++ X) (fun r : Int32 × zM => some (.int r.1)) (fun r => r.2) u [(0, .ref (b 0)), (1, .int v1), (2, .int v2), (3, .int v3), (4, .int v4), (5, .int v5)] 45 [] (f_X7_ask_45 k22 n u v1 v2 v3 v4 v5) := by
  intro n
  induction n with
  | zero => intros; exact z_none
  | succ n ih =>
    intro u v1 v2 v3 v4 v5
    rw [f_X7_ask_45]
    refine z_iload C 5 dX7_ask_45 rfl ?_
    refine z_bipush (v := 84) C dX7_ask_47 (by decide) ?_
    refine z_icmpge C 77 dX7_ask_49 (by decide) ?_ ?_
    · refine z_iinc C (v := (v3 + 1)) 3 [(3, .int (v3 + 1)), (0, .ref (b 0)), (1, .int v1), (2, .int v2), (4, .int v4), (5, .int v5)] dX7_ask_77 rfl rfl (by decide) rfl ?_
      refine z_iinc C (v := (v4 + 1)) 4 [(4, .int (v4 + 1)), (3, .int (v3 + 1)), (0, .ref (b 0)), (1, .int v1), (2, .int v2), (5, .int v5)] dX7_ask_80 rfl rfl (by decide) rfl ?_
      refine z_goto C 22 dX7_ask_83 (by decide) ?_
      refine z_loc C [(0, .ref (b 0)), (1, .int v1), (2, .int v2), (3, .int (v3 + 1)), (4, .int (v4 + 1))] [2, 3, 4, 1, 0] rfl ?_
      exact hk22 u v1 v2 (v3 + 1) (v4 + 1)
    refine z_aload_n C 0 dX7_ask_52 rfl ?_
    refine z_get C fl_RX7_29 has_M_0 rfl dX7_ask_53 ?_
    refine z_bipush (v := 84) C dX7_ask_56 (by decide) ?_
    refine z_iload_n C 3 dX7_ask_58 rfl ?_
    refine z_imul C dX7_ask_59 ?_
    refine z_iload C 5 dX7_ask_60 rfl ?_
    refine z_iadd C dX7_ask_62 ?_
    refine z_aload_n C 0 dX7_ask_63 rfl ?_
    refine z_get C fl_RX7_26 has_M_0 rfl dX7_ask_64 ?_
    refine z_iload C 5 dX7_ask_67 rfl ?_
    refine y_iald C has_M_6 dX7_ask_69 ?_
    refine y_iast C upd_M_7 dX7_ask_70 (fun u7 => ?_)
    refine z_iinc C (v := (v5 + 1)) 5 [(5, .int (v5 + 1)), (0, .ref (b 0)), (1, .int v1), (2, .int v2), (3, .int v3), (4, .int v4)] dX7_ask_71 rfl rfl (by decide) rfl ?_
    refine z_goto C 45 dX7_ask_74 (by decide) ?_
    refine z_loc C [(0, .ref (b 0)), (1, .int v1), (2, .int v2), (3, .int v3), (4, .int v4), (5, .int (v5 + 1))] [1, 2, 3, 4, 5, 0] rfl ?_
    exact ih u7 v1 v2 v3 v4 (v5 + 1)
noncomputable def f_X7_ask_22 : Nat → zM → Int32 → Int32 → Int32 → Int32 → Option (Int32 × zM)
  | 0, _, _, _, _, _ => none
  | n + 1, u, v1, v2, v3, v4 => if (u 0 3) ≤ v4 then f_X7_ask_96 FU u v2 v3 v3 (-4) 0 else (f_X7_isSoWith u v1 2 v4).bind fun r5 => zlet r5.2 fun u6 => if r5.1 = true then f_X7_ask_45 (fun u v1 v2 v3 v4 => f_X7_ask_22 n u v1 v2 v3 v4) FU u6 v1 v2 v3 v4 0 else f_X7_ask_22 n u6 v1 v2 v3 (v4 + 1)
set_option maxHeartbeats 4000000 in
set_option maxRecDepth 100000 in
theorem w_X7_ask_22 {p : Program} {l : Launch} {e : Env} {s : State} {m : MethodId} {args : Array Value} {below : List Frame} {meth : Method} {c : Code} {G : zG} {A : Nat → Prop} (C : zC p s m args meth c RX7 cX7_ask 11 (some .int) G A) (b : Nat → Nat) (g : Nat → Int64) (X : va_W) : ∀ (n : Nat) (u : zM) (v1 : Int32) (v2 : Int32) (v3 : Int32) (v4 : Int32), PW p l e 9 s m args below meth c G A 11 (fun u : zM => wM b G.2 u g ++ X) (fun r : Int32 × zM => some (.int r.1)) (fun r => r.2) u [(0, .ref (b 0)), (1, .int v1), (2, .int v2), (3, .int v3), (4, .int v4)] 22 [] (f_X7_ask_22 n u v1 v2 v3 v4) := by
  intro n
  induction n with
  | zero => intros; exact z_none
  | succ n ih =>
    intro u v1 v2 v3 v4
    rw [f_X7_ask_22]
    refine z_iload C 4 dX7_ask_22 rfl ?_
    refine z_aload_n C 0 dX7_ask_24 rfl ?_
    refine z_get C fl_RX7_60 has_M_0 rfl dX7_ask_25 ?_
    refine z_icmpge C 86 dX7_ask_28 (by decide) ?_ ?_
    · refine z_iload_n C 3 dX7_ask_86 rfl ?_
      refine z_istore C [(4, .int v3), (0, .ref (b 0)), (1, .int v1), (2, .int v2), (3, .int v3)] dX7_ask_87 (by decide) rfl ?_
      refine z_bipush (v := (-4)) C dX7_ask_89 (by decide) ?_
      refine z_istore C [(5, .int (-4)), (4, .int v3), (0, .ref (b 0)), (1, .int v1), (2, .int v2), (3, .int v3)] dX7_ask_91 (by decide) rfl ?_
      refine z_iconst (v := 0) C dX7_ask_93 (by decide) ?_
      refine z_istore C [(6, .int 0), (5, .int (-4)), (4, .int v3), (0, .ref (b 0)), (1, .int v1), (2, .int v2), (3, .int v3)] dX7_ask_94 (by decide) rfl ?_
      refine z_loc C [(0, .ref (b 0)), (2, .int v2), (3, .int v3), (4, .int v3), (5, .int (-4)), (6, .int 0)] [3, 5, 6, 2, 1, 0] rfl ?_
      exact w_X7_ask_96 C b g X    FU u v2 v3 v3 (-4) 0
    refine z_aload_n C 0 dX7_ask_31 rfl ?_
    refine z_iload_n C 1 dX7_ask_32 rfl ?_
    refine z_iconst (v := 2) C dX7_ask_33 (by decide) ?_
    refine z_iload C 4 dX7_ask_34 rfl ?_
    refine y_callZS C (z_invV C [.int v1, .int 2, .int v4] [] (ct_X7_isSoWith l G b g X u v1 2 v4) mi_X7_isSoWith md_X7_isSoWith ms_X7_isSoWith ml_RX7_282 has_M_0 ⟨_, rfl, rfl⟩ (by decide) rfl rfl dX7_ask_36 (Nat.le_of_ble_eq_true rfl)) (List.Perm.refl _) (fun _ => List.Perm.refl _) (fun r5 u6 => ?_)
    refine z_zifeq C 80 dX7_ask_39 (by decide) ?_ ?_
    · refine z_iconst (v := 0) C dX7_ask_42 (by decide) ?_
      refine z_istore C [(5, .int 0), (0, .ref (b 0)), (1, .int v1), (2, .int v2), (3, .int v3), (4, .int v4)] dX7_ask_43 (by decide) rfl ?_
      refine z_loc C [(0, .ref (b 0)), (1, .int v1), (2, .int v2), (3, .int v3), (4, .int v4), (5, .int 0)] [1, 2, 3, 4, 5, 0] rfl ?_
      exact w_X7_ask_45 C b g X  (fun u v1 v2 v3 v4 => f_X7_ask_22 n u v1 v2 v3 v4) ih FU u6 v1 v2 v3 v4 0
    refine z_iinc C (v := (v4 + 1)) 4 [(4, .int (v4 + 1)), (0, .ref (b 0)), (1, .int v1), (2, .int v2), (3, .int v3)] dX7_ask_80 rfl rfl (by decide) rfl ?_
    refine z_goto C 22 dX7_ask_83 (by decide) ?_
    refine z_loc C [(0, .ref (b 0)), (1, .int v1), (2, .int v2), (3, .int v3), (4, .int (v4 + 1))] [1, 2, 3, 4, 0] rfl ?_
    exact ih u6 v1 v2 v3 (v4 + 1)
noncomputable def f_X7_ask (u : zM) (v1 : Int32) (v2 : Int32) : Option (Int32 × zM) := (f_X7_isBeetle u v1).bind fun r1 => if r1 = true then (f_X7_isPart v2).bind fun r2 => if r2 = true then f_X7_ask_22 FU u v1 v2 0 0 else some ((-1), u) else some ((-1), u)
set_option maxHeartbeats 4000000 in
set_option maxRecDepth 100000 in
theorem ct_X7_ask (l : Launch) (G : zG) (b : Nat → Nat) (g : Nat → Int64) (X : va_W) (u : zM) (v1 : Int32) (v2 : Int32) : zCt l yX7_ask cX7_ask 11 (some .int) 9 G [.ref (b 0), .int v1, .int v2] (fun u : zM => wM b G.2 u g ++ X) (fun r : Int32 × zM => some (.int r.1)) (fun r => r.2) u (f_X7_ask u v1 v2) := by
  refine zCt.of (by decide) (Nat.le_of_ble_eq_true rfl) (fun p e s m args below meth c A C => ?_)
  refine y_lv (lv' := [(0, .ref (b 0)), (1, .int v1), (2, .int v2)]) rfl ?_
  rw [f_X7_ask]
  refine z_aload_n C 0 dX7_ask_0 rfl ?_
  refine z_iload_n C 1 dX7_ask_1 rfl ?_
  refine y_callZ C (z_invV C [.int v1] [] (ct_X7_isBeetle l G b g X u v1) mi_X7_isBeetle md_X7_isBeetle ms_X7_isBeetle ml_RX7_207 has_M_0 ⟨_, rfl, rfl⟩ (by decide) rfl rfl dX7_ask_2 (Nat.le_of_ble_eq_true rfl)) (List.Perm.refl _) (fun r1 => ?_)
  refine z_zifeq C 15 dX7_ask_5 (by decide) ?_ ?_
  · refine z_iload_n C 2 dX7_ask_8 rfl ?_
    refine y_callZ C (z_invS C [.int v2] [] (ct_X7_isPart l G ((fun u : zM => wM b G.2 u g ++ X) u) v2) mi_X7_isPart mt_X7_isPart ml_RX7_240 (by decide) rfl rfl dX7_ask_9 (Nat.le_of_ble_eq_true rfl)) (List.Perm.refl _) (fun r2 => ?_)
    refine z_zifne C 17 dX7_ask_12 (by decide) ?_ ?_
    · refine z_iconst (v := 0) C dX7_ask_17 (by decide) ?_
      refine z_istore_n C [(3, .int 0), (0, .ref (b 0)), (1, .int v1), (2, .int v2)] dX7_ask_18 (by decide) rfl ?_
      refine z_iconst (v := 0) C dX7_ask_19 (by decide) ?_
      refine z_istore C [(4, .int 0), (3, .int 0), (0, .ref (b 0)), (1, .int v1), (2, .int v2)] dX7_ask_20 (by decide) rfl ?_
      refine z_loc C [(0, .ref (b 0)), (1, .int v1), (2, .int v2), (3, .int 0), (4, .int 0)] [2, 3, 4, 1, 0] rfl ?_
      exact w_X7_ask_22 C b g X    FU u v1 v2 0 0
    refine z_iconst (v := (-1)) C dX7_ask_15 (by decide) ?_
    exact z_iret C dX7_ask_16 rfl rfl rfl
  refine z_iconst (v := (-1)) C dX7_ask_15 (by decide) ?_
  exact z_iret C dX7_ask_16 rfl rfl rfl
noncomputable def f_X7_calm_83 (k37 : zM → Int32 → Int32 → Int32 → Int32 → Int32 → Option (Int32 × zM)) (u : zM) (v1 : Int32) (v2 : Int32) (v3 : Int32) (v5 : Int32) (v6 : Int32) (t0 : Int32) : Option (Int32 × zM) := if v6 ≤ v3 then k37 u v1 v2 v3 t0 (v5 + 1) else k37 u v1 v2 v6 t0 (v5 + 1)
set_option maxHeartbeats 4000000 in
set_option maxRecDepth 100000 in
theorem w_X7_calm_83 {p : Program} {l : Launch} {e : Env} {s : State} {m : MethodId} {args : Array Value} {below : List Frame} {meth : Method} {c : Code} {G : zG} {A : Nat → Prop} (C : zC p s m args meth c RX7 cX7_calm 7 (some .int) G A) (b : Nat → Nat) (g : Nat → Int64) (X : va_W) (k37 : zM → Int32 → Int32 → Int32 → Int32 → Int32 → Option (Int32 × zM)) (hk37 : ∀ (u : zM) (v1 : Int32) (v2 : Int32) (v3 : Int32) (v4 : Int32) (v5 : Int32), PW p l e 9 s m args below meth c G A 7 (fun u : zM => wM b G.2 u g ++ X) (fun r : Int32 × zM => some (.int r.1)) (fun r => r.2) u [(0, .ref (b 0)), (1, .int v1), (2, .int v2), (3, .int v3), (4, .int v4), (5, .int v5)] 37 [] (k37 u v1 v2 v3 v4 v5)) : ∀ (u : zM) (v1 : Int32) (v2 : Int32) (v3 : Int32) (v5 : Int32) (v6 : Int32) (t0 : Int32), PW p l e 9 s m args below meth c G A 7 (fun u : zM => wM b G.2 u g ++ X) (fun r : Int32 × zM => some (.int r.1)) (fun r => r.2) u [(0, .ref (b 0)), (1, .int v1), (2, .int v2), (3, .int v3), (5, .int v5), (6, .int v6)] 83 [.int t0] (f_X7_calm_83 k37 u v1 v2 v3 v5 v6 t0) := by
  intro u v1 v2 v3 v5 v6 t0
  rw [f_X7_calm_83]
  refine z_istore C [(4, .int t0), (0, .ref (b 0)), (1, .int v1), (2, .int v2), (3, .int v3), (5, .int v5), (6, .int v6)] dX7_calm_83 (by decide) rfl ?_
  refine z_iload C 6 dX7_calm_85 rfl ?_
  refine z_iload_n C 4 dX7_calm_87 rfl ?_
  refine z_icmple C 96 dX7_calm_88 (by decide) ?_ ?_
  · refine z_iload_n C 4 dX7_calm_96 rfl ?_
    refine z_istore_n C [(3, .int v3), (4, .int t0), (0, .ref (b 0)), (1, .int v1), (2, .int v2), (5, .int v5), (6, .int v6)] dX7_calm_97 (by decide) rfl ?_
    refine z_iinc C (v := (v5 + 1)) 5 [(5, .int (v5 + 1)), (3, .int v3), (4, .int t0), (0, .ref (b 0)), (1, .int v1), (2, .int v2), (6, .int v6)] dX7_calm_98 rfl rfl (by decide) rfl ?_
    refine z_goto C 37 dX7_calm_101 (by decide) ?_
    refine z_loc C [(0, .ref (b 0)), (1, .int v1), (2, .int v2), (3, .int v3), (4, .int t0), (5, .int (v5 + 1))] [3, 4, 5, 1, 2, 0] rfl ?_
    exact hk37 u v1 v2 v3 t0 (v5 + 1)
  refine z_iload C 6 dX7_calm_91 rfl ?_
  refine z_goto C 97 dX7_calm_93 (by decide) ?_
  refine z_istore_n C [(3, .int v6), (4, .int t0), (0, .ref (b 0)), (1, .int v1), (2, .int v2), (5, .int v5), (6, .int v6)] dX7_calm_97 (by decide) rfl ?_
  refine z_iinc C (v := (v5 + 1)) 5 [(5, .int (v5 + 1)), (3, .int v6), (4, .int t0), (0, .ref (b 0)), (1, .int v1), (2, .int v2), (6, .int v6)] dX7_calm_98 rfl rfl (by decide) rfl ?_
  refine z_goto C 37 dX7_calm_101 (by decide) ?_
  refine z_loc C [(0, .ref (b 0)), (1, .int v1), (2, .int v2), (3, .int v6), (4, .int t0), (5, .int (v5 + 1))] [3, 4, 5, 1, 2, 0] rfl ?_
  exact hk37 u v1 v2 v6 t0 (v5 + 1)
noncomputable def f_X7_calm_37 : Nat → zM → Int32 → Int32 → Int32 → Int32 → Int32 → Option (Int32 × zM)
  | 0, _, _, _, _, _, _ => none
  | n + 1, u, v1, v2, v3, v4, v5 => if 6 ≤ v5 then if v4 = (-4) then some ((-4), u) else if v2 = 0 then some (v4, u) else some (v3, u) else (f_X7_starts u).bind fun r8 => zlet r8 fun u9 => if z_in (35 + v5) 61 = true then zlet (zU u9 2 (Int32.toNatClampNeg (35 + v5)) 0) (fun u10 => (f_X7_daysGo u10 v1).bind fun r11 => zlet r11 fun u12 => (f_X7_sitting u12).bind fun r13 => if r13 ≤ v3 then f_X7_calm_83 (fun u v1 v2 v3 v4 v5 => f_X7_calm_37 n u v1 v2 v3 v4 v5) u12 v1 v2 v3 v5 r13 v4 else f_X7_calm_83 (fun u v1 v2 v3 v4 v5 => f_X7_calm_37 n u v1 v2 v3 v4 v5) u12 v1 v2 v3 v5 r13 v5) else none
set_option maxHeartbeats 4000000 in
set_option maxRecDepth 100000 in
theorem w_X7_calm_37 {p : Program} {l : Launch} {e : Env} {s : State} {m : MethodId} {args : Array Value} {below : List Frame} {meth : Method} {c : Code} {G : zG} {A : Nat → Prop} (C : zC p s m args meth c RX7 cX7_calm 7 (some .int) G A) (b : Nat → Nat) (g : Nat → Int64) (X : va_W) : ∀ (n : Nat) (u : zM) (v1 : Int32) (v2 : Int32) (v3 : Int32) (v4 : Int32) (v5 : Int32), PW p l e 9 s m args below meth c G A 7 (fun u : zM => wM b G.2 u g ++ X) (fun r : Int32 × zM => some (.int r.1)) (fun r => r.2) u [(0, .ref (b 0)), (1, .int v1), (2, .int v2), (3, .int v3), (4, .int v4), (5, .int v5)] 37 [] (f_X7_calm_37 n u v1 v2 v3 v4 v5) := by
  intro n
  induction n with
  | zero => intros; exact z_none
  | succ n ih =>
    intro u v1 v2 v3 v4 v5
    rw [f_X7_calm_37]
    refine z_iload C 5 dX7_calm_37 rfl ?_
    refine z_bipush (v := 6) C dX7_calm_39 (by decide) ?_
    refine z_icmpge C 104 dX7_calm_41 (by decide) ?_ ?_
    · refine z_iload C 4 dX7_calm_104 rfl ?_
      refine z_bipush (v := (-4)) C dX7_calm_106 (by decide) ?_
      refine z_icmpne C 116 dX7_calm_108 (by decide) ?_ ?_
      · refine z_bipush (v := (-4)) C dX7_calm_111 (by decide) ?_
        refine z_goto C 126 dX7_calm_113 (by decide) ?_
        exact z_iret C dX7_calm_126 rfl rfl rfl
      refine z_iload_n C 2 dX7_calm_116 rfl ?_
      refine z_ifne C 125 dX7_calm_117 (by decide) ?_ ?_
      · refine z_iload C 4 dX7_calm_120 rfl ?_
        refine z_goto C 126 dX7_calm_122 (by decide) ?_
        exact z_iret C dX7_calm_126 rfl rfl rfl
      refine z_iload_n C 3 dX7_calm_125 rfl ?_
      exact z_iret C dX7_calm_126 rfl rfl rfl
    refine z_aload_n C 0 dX7_calm_44 rfl ?_
    refine y_callVS C (z_invV C [] [] (ct_X7_starts l G b g X u ) mi_X7_starts md_X7_starts ms_X7_starts ml_RX7_191 has_M_0 ⟨_, rfl, rfl⟩ (by decide) rfl rfl dX7_calm_45 (Nat.le_of_ble_eq_true rfl)) (List.Perm.refl _) (fun _ => List.Perm.refl _) (fun r8 u9 => ?_)
    refine z_aload_n C 0 dX7_calm_48 rfl ?_
    refine z_get C fl_RX7_13 has_M_0 rfl dX7_calm_49 ?_
    refine z_bipush (v := 35) C dX7_calm_52 (by decide) ?_
    refine z_iload C 5 dX7_calm_54 rfl ?_
    refine z_iadd C dX7_calm_56 ?_
    refine z_iconst (v := 0) C dX7_calm_57 (by decide) ?_
    refine y_iast C upd_M_2 dX7_calm_58 (fun u10 => ?_)
    refine z_aload_n C 0 dX7_calm_59 rfl ?_
    refine z_iload_n C 1 dX7_calm_60 rfl ?_
    refine y_callVS C (z_invV C [.int v1] [] (ct_X7_daysGo l G b g X u10 v1) mi_X7_daysGo md_X7_daysGo ms_X7_daysGo ml_RX7_226 has_M_0 ⟨_, rfl, rfl⟩ (by decide) rfl rfl dX7_calm_61 (Nat.le_of_ble_eq_true rfl)) (List.Perm.refl _) (fun _ => List.Perm.refl _) (fun r11 u12 => ?_)
    refine z_aload_n C 0 dX7_calm_64 rfl ?_
    refine y_callI C (z_invV C [] [] (ct_X7_sitting l G b g X u12 ) mi_X7_sitting md_X7_sitting ms_X7_sitting ml_RX7_194 has_M_0 ⟨_, rfl, rfl⟩ (by decide) rfl rfl dX7_calm_65 (Nat.le_of_ble_eq_true rfl)) (List.Perm.refl _) (fun r13 => ?_)
    refine z_istore C [(6, .int r13), (0, .ref (b 0)), (1, .int v1), (2, .int v2), (3, .int v3), (4, .int v4), (5, .int v5)] dX7_calm_68 (by decide) rfl ?_
    refine z_iload C 0 dX7_calm_70 rfl ?_
    refine z_iload_n C 4 dX7_calm_72 rfl ?_
    refine z_icmple C 81 dX7_calm_73 (by decide) ?_ ?_
    · refine z_iload C 5 dX7_calm_81 rfl ?_
      refine z_loc C [(0, .ref (b 0)), (1, .int v1), (2, .int v2), (3, .int v3), (5, .int v5), (6, .int r13)] [1, 2, 3, 4, 6, 0] rfl ?_
      exact w_X7_calm_83 C b g X  (fun u v1 v2 v3 v4 v5 => f_X7_calm_37 n u v1 v2 v3 v4 v5) ih  u12 v1 v2 v3 v5 r13 v4
    refine z_iload C 6 dX7_calm_76 rfl ?_
    refine z_goto C 83 dX7_calm_78 (by decide) ?_
    refine z_loc C [(0, .ref (b 0)), (1, .int v1), (2, .int v2), (3, .int v3), (5, .int v5), (6, .int r13)] [1, 2, 3, 4, 6, 0] rfl ?_
    exact w_X7_calm_83 C b g X  (fun u v1 v2 v3 v4 v5 => f_X7_calm_37 n u v1 v2 v3 v4 v5) ih  u12 v1 v2 v3 v5 r13 v5
noncomputable def f_X7_calm (u : zM) (v1 : Int32) (v2 : Int32) : Option (Int32 × zM) := (f_X7_isFar v1).bind fun r1 => if r1 = true then (f_X7_isPart v2).bind fun r2 => if r2 = true then (f_X7_starts u).bind fun r3 => zlet r3 fun u4 => (f_X7_daysGo u4 v1).bind fun r5 => zlet r5 fun u6 => (f_X7_sitting u6).bind fun r7 => f_X7_calm_37 FU u6 v1 v2 r7 (-4) 0 else some ((-1), u) else some ((-1), u)
set_option maxHeartbeats 4000000 in
set_option maxRecDepth 100000 in
theorem ct_X7_calm (l : Launch) (G : zG) (b : Nat → Nat) (g : Nat → Int64) (X : va_W) (u : zM) (v1 : Int32) (v2 : Int32) : zCt l yX7_calm cX7_calm 7 (some .int) 9 G [.ref (b 0), .int v1, .int v2] (fun u : zM => wM b G.2 u g ++ X) (fun r : Int32 × zM => some (.int r.1)) (fun r => r.2) u (f_X7_calm u v1 v2) := by
  refine zCt.of (by decide) (Nat.le_of_ble_eq_true rfl) (fun p e s m args below meth c A C => ?_)
  refine y_lv (lv' := [(0, .ref (b 0)), (1, .int v1), (2, .int v2)]) rfl ?_
  rw [f_X7_calm]
  refine z_iload_n C 1 dX7_calm_0 rfl ?_
  refine y_callZ C (z_invS C [.int v1] [] (ct_X7_isFar l G ((fun u : zM => wM b G.2 u g ++ X) u) v1) mi_X7_isFar mt_X7_isFar ml_RX7_234 (by decide) rfl rfl dX7_calm_1 (Nat.le_of_ble_eq_true rfl)) (List.Perm.refl _) (fun r1 => ?_)
  refine z_zifeq C 14 dX7_calm_4 (by decide) ?_ ?_
  · refine z_iload_n C 2 dX7_calm_7 rfl ?_
    refine y_callZ C (z_invS C [.int v2] [] (ct_X7_isPart l G ((fun u : zM => wM b G.2 u g ++ X) u) v2) mi_X7_isPart mt_X7_isPart ml_RX7_240 (by decide) rfl rfl dX7_calm_8 (Nat.le_of_ble_eq_true rfl)) (List.Perm.refl _) (fun r2 => ?_)
    refine z_zifne C 16 dX7_calm_11 (by decide) ?_ ?_
    · refine z_aload_n C 0 dX7_calm_16 rfl ?_
      refine y_callVS C (z_invV C [] [] (ct_X7_starts l G b g X u ) mi_X7_starts md_X7_starts ms_X7_starts ml_RX7_191 has_M_0 ⟨_, rfl, rfl⟩ (by decide) rfl rfl dX7_calm_17 (Nat.le_of_ble_eq_true rfl)) (List.Perm.refl _) (fun _ => List.Perm.refl _) (fun r3 u4 => ?_)
      refine z_aload_n C 0 dX7_calm_20 rfl ?_
      refine z_iload_n C 1 dX7_calm_21 rfl ?_
      refine y_callVS C (z_invV C [.int v1] [] (ct_X7_daysGo l G b g X u4 v1) mi_X7_daysGo md_X7_daysGo ms_X7_daysGo ml_RX7_226 has_M_0 ⟨_, rfl, rfl⟩ (by decide) rfl rfl dX7_calm_22 (Nat.le_of_ble_eq_true rfl)) (List.Perm.refl _) (fun _ => List.Perm.refl _) (fun r5 u6 => ?_)
      refine z_aload_n C 0 dX7_calm_25 rfl ?_
      refine y_callI C (z_invV C [] [] (ct_X7_sitting l G b g X u6 ) mi_X7_sitting md_X7_sitting ms_X7_sitting ml_RX7_194 has_M_0 ⟨_, rfl, rfl⟩ (by decide) rfl rfl dX7_calm_26 (Nat.le_of_ble_eq_true rfl)) (List.Perm.refl _) (fun r7 => ?_)
      refine z_istore_n C [(3, .int r7), (0, .ref (b 0)), (1, .int v1), (2, .int v2)] dX7_calm_29 (by decide) rfl ?_
      refine z_bipush (v := (-4)) C dX7_calm_30 (by decide) ?_
      refine z_istore C [(4, .int (-4)), (3, .int r7), (0, .ref (b 0)), (1, .int v1), (2, .int v2)] dX7_calm_32 (by decide) rfl ?_
      refine z_iconst (v := 0) C dX7_calm_34 (by decide) ?_
      refine z_istore C [(5, .int 0), (4, .int (-4)), (3, .int r7), (0, .ref (b 0)), (1, .int v1), (2, .int v2)] dX7_calm_35 (by decide) rfl ?_
      refine z_loc C [(0, .ref (b 0)), (1, .int v1), (2, .int v2), (3, .int r7), (4, .int (-4)), (5, .int 0)] [3, 4, 5, 2, 1, 0] rfl ?_
      exact w_X7_calm_37 C b g X    FU u6 v1 v2 r7 (-4) 0
    refine z_iconst (v := (-1)) C dX7_calm_14 (by decide) ?_
    exact z_iret C dX7_calm_15 rfl rfl rfl
  refine z_iconst (v := (-1)) C dX7_calm_14 (by decide) ?_
  exact z_iret C dX7_calm_15 rfl rfl rfl
noncomputable def f_X7_days (u : zM) (v1 : Int32) : Option (Int32 × zM) := (f_X7_in (Int32.toInt64 v1) (0 : Int64) (30 : Int64)).bind fun r1 => if r1 = true then if z_in 41 183 = true then if ((u 1 (Int32.toNatClampNeg 41)) + v1) ≤ 999 then (f_X7_starts u).bind fun r2 => zlet r2 fun u3 => (f_X7_daysGo u3 v1).bind fun r4 => zlet r4 fun u5 => (f_X7_settles u5).bind fun r6 => zlet r6 fun u7 => some ((u7 0 18), u7) else some ((-3), u) else none else some ((-1), u)
set_option maxHeartbeats 4000000 in
set_option maxRecDepth 100000 in
theorem ct_X7_days (l : Launch) (G : zG) (b : Nat → Nat) (g : Nat → Int64) (X : va_W) (u : zM) (v1 : Int32) : zCt l yX7_days cX7_days 2 (some .int) 9 G [.ref (b 0), .int v1] (fun u : zM => wM b G.2 u g ++ X) (fun r : Int32 × zM => some (.int r.1)) (fun r => r.2) u (f_X7_days u v1) := by
  refine zCt.of (by decide) (Nat.le_of_ble_eq_true rfl) (fun p e s m args below meth c A C => ?_)
  refine y_lv (lv' := [(0, .ref (b 0)), (1, .int v1)]) rfl ?_
  rw [f_X7_days]
  refine z_iload_n C 1 dX7_days_0 rfl ?_
  refine z_i2l C dX7_days_1 ?_
  refine z_lconst (v := 0) C dX7_days_2 (by decide) ?_
  refine z_ldc2 C kc_RX7_224 dX7_days_3 ?_
  refine y_callZ C (z_invS C [.long (Int32.toInt64 v1), .long (0 : Int64), .long (30 : Int64)] [] (ct_X7_in l G ((fun u : zM => wM b G.2 u g ++ X) u) (Int32.toInt64 v1) (0 : Int64) (30 : Int64)) mi_X7_in mt_X7_in ml_RX7_65 (by decide) rfl rfl dX7_days_6 (Nat.le_of_ble_eq_true rfl)) (List.Perm.refl _) (fun r1 => ?_)
  refine z_zifne C 14 dX7_days_9 (by decide) ?_ ?_
  · refine z_aload_n C 0 dX7_days_14 rfl ?_
    refine z_get C fl_RX7_7 has_M_0 rfl dX7_days_15 ?_
    refine z_bipush (v := 41) C dX7_days_18 (by decide) ?_
    refine y_iald C has_M_1 dX7_days_20 ?_
    refine z_iload_n C 1 dX7_days_21 rfl ?_
    refine z_iadd C dX7_days_22 ?_
    refine z_sipush (v := 999) C dX7_days_23 (by decide) ?_
    refine z_icmple C 32 dX7_days_26 (by decide) ?_ ?_
    · refine z_aload_n C 0 dX7_days_32 rfl ?_
      refine y_callVS C (z_invV C [] [] (ct_X7_starts l G b g X u ) mi_X7_starts md_X7_starts ms_X7_starts ml_RX7_191 has_M_0 ⟨_, rfl, rfl⟩ (by decide) rfl rfl dX7_days_33 (Nat.le_of_ble_eq_true rfl)) (List.Perm.refl _) (fun _ => List.Perm.refl _) (fun r2 u3 => ?_)
      refine z_aload_n C 0 dX7_days_36 rfl ?_
      refine z_iload_n C 1 dX7_days_37 rfl ?_
      refine y_callVS C (z_invV C [.int v1] [] (ct_X7_daysGo l G b g X u3 v1) mi_X7_daysGo md_X7_daysGo ms_X7_daysGo ml_RX7_226 has_M_0 ⟨_, rfl, rfl⟩ (by decide) rfl rfl dX7_days_38 (Nat.le_of_ble_eq_true rfl)) (List.Perm.refl _) (fun _ => List.Perm.refl _) (fun r4 u5 => ?_)
      refine z_aload_n C 0 dX7_days_41 rfl ?_
      refine y_callVS C (z_invV C [] [] (ct_X7_settles l G b g X u5 ) mi_X7_settles md_X7_settles ms_X7_settles ml_RX7_229 has_M_0 ⟨_, rfl, rfl⟩ (by decide) rfl rfl dX7_days_42 (Nat.le_of_ble_eq_true rfl)) (List.Perm.refl _) (fun _ => List.Perm.refl _) (fun r6 u7 => ?_)
      refine z_aload_n C 0 dX7_days_45 rfl ?_
      refine z_get C fl_RX7_171 has_M_0 rfl dX7_days_46 ?_
      exact z_iret C dX7_days_49 rfl rfl rfl
    refine z_bipush (v := (-3)) C dX7_days_29 (by decide) ?_
    exact z_iret C dX7_days_31 rfl rfl rfl
  refine z_iconst (v := (-1)) C dX7_days_12 (by decide) ?_
  exact z_iret C dX7_days_13 rfl rfl rfl
noncomputable def f_X7_home (u : zM) (v1 : Int32) : Option (Int32 × zM) := (f_X7_isBeetle u v1).bind fun r1 => if r1 = true then (f_X7_starts u).bind fun r2 => zlet r2 fun u3 => (f_X7_daysTo u3 v1).bind fun r4 => zlet r4.2 fun u5 => some (r4.1, u5) else some ((-1), u)
set_option maxHeartbeats 4000000 in
set_option maxRecDepth 100000 in
theorem ct_X7_home (l : Launch) (G : zG) (b : Nat → Nat) (g : Nat → Int64) (X : va_W) (u : zM) (v1 : Int32) : zCt l yX7_home cX7_home 2 (some .int) 9 G [.ref (b 0), .int v1] (fun u : zM => wM b G.2 u g ++ X) (fun r : Int32 × zM => some (.int r.1)) (fun r => r.2) u (f_X7_home u v1) := by
  refine zCt.of (by decide) (Nat.le_of_ble_eq_true rfl) (fun p e s m args below meth c A C => ?_)
  refine y_lv (lv' := [(0, .ref (b 0)), (1, .int v1)]) rfl ?_
  rw [f_X7_home]
  refine z_aload_n C 0 dX7_home_0 rfl ?_
  refine z_iload_n C 1 dX7_home_1 rfl ?_
  refine y_callZ C (z_invV C [.int v1] [] (ct_X7_isBeetle l G b g X u v1) mi_X7_isBeetle md_X7_isBeetle ms_X7_isBeetle ml_RX7_207 has_M_0 ⟨_, rfl, rfl⟩ (by decide) rfl rfl dX7_home_2 (Nat.le_of_ble_eq_true rfl)) (List.Perm.refl _) (fun r1 => ?_)
  refine z_zifne C 10 dX7_home_5 (by decide) ?_ ?_
  · refine z_aload_n C 0 dX7_home_10 rfl ?_
    refine y_callVS C (z_invV C [] [] (ct_X7_starts l G b g X u ) mi_X7_starts md_X7_starts ms_X7_starts ml_RX7_191 has_M_0 ⟨_, rfl, rfl⟩ (by decide) rfl rfl dX7_home_11 (Nat.le_of_ble_eq_true rfl)) (List.Perm.refl _) (fun _ => List.Perm.refl _) (fun r2 u3 => ?_)
    refine z_aload_n C 0 dX7_home_14 rfl ?_
    refine z_iload_n C 1 dX7_home_15 rfl ?_
    refine y_callIS C (z_invV C [.int v1] [] (ct_X7_daysTo l G b g X u3 v1) mi_X7_daysTo md_X7_daysTo ms_X7_daysTo ml_RX7_237 has_M_0 ⟨_, rfl, rfl⟩ (by decide) rfl rfl dX7_home_16 (Nat.le_of_ble_eq_true rfl)) (List.Perm.refl _) (fun _ => List.Perm.refl _) (fun r4 u5 => ?_)
    exact z_iret C dX7_home_19 rfl rfl rfl
  refine z_iconst (v := (-1)) C dX7_home_8 (by decide) ?_
  exact z_iret C dX7_home_9 rfl rfl rfl
noncomputable def f_X7_kind_70 (k27 : zM → Int32 → Int32 → Int32 → Int32 → Int32 → Option (Int32 × zM)) (u : zM) (v1 : Int32) (v2 : Int32) (v3 : Int32) (v4 : Int32) (v5 : Int32) (v6 : Int32) (t0 : Bool) : Option (Int32 × zM) := if t0 = true then if t0 = true then k27 u v1 v2 v6 v5 (v5 + 1) else k27 u v1 v2 v3 v5 (v5 + 1) else if t0 = true then k27 u v1 v2 v6 v4 (v5 + 1) else k27 u v1 v2 v3 v4 (v5 + 1)
set_option maxHeartbeats 4000000 in
set_option maxRecDepth 100000 in
theorem w_X7_kind_70 {p : Program} {l : Launch} {e : Env} {s : State} {m : MethodId} {args : Array Value} {below : List Frame} {meth : Method} {c : Code} {G : zG} {A : Nat → Prop} (C : zC p s m args meth c RX7 cX7_kind 8 (some .int) G A) (b : Nat → Nat) (g : Nat → Int64) (X : va_W) (k27 : zM → Int32 → Int32 → Int32 → Int32 → Int32 → Option (Int32 × zM)) (hk27 : ∀ (u : zM) (v1 : Int32) (v2 : Int32) (v3 : Int32) (v4 : Int32) (v5 : Int32), PW p l e 9 s m args below meth c G A 8 (fun u : zM => wM b G.2 u g ++ X) (fun r : Int32 × zM => some (.int r.1)) (fun r => r.2) u [(0, .ref (b 0)), (1, .int v1), (2, .int v2), (3, .int v3), (4, .int v4), (5, .int v5)] 27 [] (k27 u v1 v2 v3 v4 v5)) : ∀ (u : zM) (v1 : Int32) (v2 : Int32) (v3 : Int32) (v4 : Int32) (v5 : Int32) (v6 : Int32) (t0 : Bool), PW p l e 9 s m args below meth c G A 8 (fun u : zM => wM b G.2 u g ++ X) (fun r : Int32 × zM => some (.int r.1)) (fun r => r.2) u [(0, .ref (b 0)), (1, .int v1), (2, .int v2), (3, .int v3), (4, .int v4), (5, .int v5), (6, .int v6)] 70 [.int (zb t0)] (f_X7_kind_70 k27 u v1 v2 v3 v4 v5 v6 t0) := by
  intro u v1 v2 v3 v4 v5 v6 t0
  rw [f_X7_kind_70]
  refine z_istore C [(7, .int (zb t0)), (0, .ref (b 0)), (1, .int v1), (2, .int v2), (3, .int v3), (4, .int v4), (5, .int v5), (6, .int v6)] dX7_kind_70 (by decide) rfl ?_
  refine z_iload C 0 dX7_kind_72 rfl ?_
  refine z_zifeq C 82 dX7_kind_74 (by decide) ?_ ?_
  · refine z_iload C 6 dX7_kind_77 rfl ?_
    refine z_goto C 84 dX7_kind_79 (by decide) ?_
    refine z_istore C [(4, .int v5), (7, .int (zb t0)), (0, .ref (b 0)), (1, .int v1), (2, .int v2), (3, .int v3), (5, .int v5), (6, .int v6)] dX7_kind_84 (by decide) rfl ?_
    refine z_iload C 1 dX7_kind_86 rfl ?_
    refine z_zifeq C 96 dX7_kind_88 (by decide) ?_ ?_
    · refine z_iload C 7 dX7_kind_91 rfl ?_
      refine z_goto C 97 dX7_kind_93 (by decide) ?_
      refine z_istore_n C [(3, .int v6), (4, .int v5), (7, .int (zb t0)), (0, .ref (b 0)), (1, .int v1), (2, .int v2), (5, .int v5), (6, .int v6)] dX7_kind_97 (by decide) rfl ?_
      refine z_iinc C (v := (v5 + 1)) 6 [(5, .int (v5 + 1)), (3, .int v6), (4, .int v5), (7, .int (zb t0)), (0, .ref (b 0)), (1, .int v1), (2, .int v2), (6, .int v6)] dX7_kind_98 rfl rfl (by decide) rfl ?_
      refine z_goto C 27 dX7_kind_101 (by decide) ?_
      refine z_loc C [(0, .ref (b 0)), (1, .int v1), (2, .int v2), (3, .int v6), (4, .int v5), (5, .int (v5 + 1))] [4, 5, 6, 1, 2, 0] rfl ?_
      exact hk27 u v1 v2 v6 v5 (v5 + 1)
    refine z_iload_n C 5 dX7_kind_96 rfl ?_
    refine z_istore_n C [(3, .int v3), (4, .int v5), (7, .int (zb t0)), (0, .ref (b 0)), (1, .int v1), (2, .int v2), (5, .int v5), (6, .int v6)] dX7_kind_97 (by decide) rfl ?_
    refine z_iinc C (v := (v5 + 1)) 6 [(5, .int (v5 + 1)), (3, .int v3), (4, .int v5), (7, .int (zb t0)), (0, .ref (b 0)), (1, .int v1), (2, .int v2), (6, .int v6)] dX7_kind_98 rfl rfl (by decide) rfl ?_
    refine z_goto C 27 dX7_kind_101 (by decide) ?_
    refine z_loc C [(0, .ref (b 0)), (1, .int v1), (2, .int v2), (3, .int v3), (4, .int v5), (5, .int (v5 + 1))] [4, 5, 6, 1, 2, 0] rfl ?_
    exact hk27 u v1 v2 v3 v5 (v5 + 1)
  refine z_iload C 5 dX7_kind_82 rfl ?_
  refine z_istore C [(4, .int v4), (7, .int (zb t0)), (0, .ref (b 0)), (1, .int v1), (2, .int v2), (3, .int v3), (5, .int v5), (6, .int v6)] dX7_kind_84 (by decide) rfl ?_
  refine z_iload C 1 dX7_kind_86 rfl ?_
  refine z_zifeq C 96 dX7_kind_88 (by decide) ?_ ?_
  · refine z_iload C 7 dX7_kind_91 rfl ?_
    refine z_goto C 97 dX7_kind_93 (by decide) ?_
    refine z_istore_n C [(3, .int v6), (4, .int v4), (7, .int (zb t0)), (0, .ref (b 0)), (1, .int v1), (2, .int v2), (5, .int v5), (6, .int v6)] dX7_kind_97 (by decide) rfl ?_
    refine z_iinc C (v := (v5 + 1)) 6 [(5, .int (v5 + 1)), (3, .int v6), (4, .int v4), (7, .int (zb t0)), (0, .ref (b 0)), (1, .int v1), (2, .int v2), (6, .int v6)] dX7_kind_98 rfl rfl (by decide) rfl ?_
    refine z_goto C 27 dX7_kind_101 (by decide) ?_
    refine z_loc C [(0, .ref (b 0)), (1, .int v1), (2, .int v2), (3, .int v6), (4, .int v4), (5, .int (v5 + 1))] [4, 5, 6, 1, 2, 0] rfl ?_
    exact hk27 u v1 v2 v6 v4 (v5 + 1)
  refine z_iload_n C 5 dX7_kind_96 rfl ?_
  refine z_istore_n C [(3, .int v3), (4, .int v4), (7, .int (zb t0)), (0, .ref (b 0)), (1, .int v1), (2, .int v2), (5, .int v5), (6, .int v6)] dX7_kind_97 (by decide) rfl ?_
  refine z_iinc C (v := (v5 + 1)) 6 [(5, .int (v5 + 1)), (3, .int v3), (4, .int v4), (7, .int (zb t0)), (0, .ref (b 0)), (1, .int v1), (2, .int v2), (6, .int v6)] dX7_kind_98 rfl rfl (by decide) rfl ?_
  refine z_goto C 27 dX7_kind_101 (by decide) ?_
  refine z_loc C [(0, .ref (b 0)), (1, .int v1), (2, .int v2), (3, .int v3), (4, .int v4), (5, .int (v5 + 1))] [4, 5, 6, 1, 2, 0] rfl ?_
  exact hk27 u v1 v2 v3 v4 (v5 + 1)
noncomputable def f_X7_kind_27 : Nat → zM → Int32 → Int32 → Int32 → Int32 → Int32 → Option (Int32 × zM)
  | 0, _, _, _, _, _, _ => none
  | n + 1, u, v1, v2, v3, v4, v5 => if 4 ≤ v5 then if v4 = (-4) then some ((-4), u) else if v2 = 0 then some (v4, u) else some (v3, u) else (f_X7_starts u).bind fun r3 => zlet r3 fun u4 => (f_X7_becomesOf u4 v1 0 v5).bind fun r5 => zlet r5 fun u6 => (f_X7_daysTo u6 v1).bind fun r7 => zlet r7.2 fun u8 => if r7.1 = (-4) then f_X7_kind_70 (fun u v1 v2 v3 v4 v5 => f_X7_kind_27 n u v1 v2 v3 v4 v5) u8 v1 v2 v3 v4 v5 r7.1 false else if v3 ≤ r7.1 then f_X7_kind_70 (fun u v1 v2 v3 v4 v5 => f_X7_kind_27 n u v1 v2 v3 v4 v5) u8 v1 v2 v3 v4 v5 r7.1 false else f_X7_kind_70 (fun u v1 v2 v3 v4 v5 => f_X7_kind_27 n u v1 v2 v3 v4 v5) u8 v1 v2 v3 v4 v5 r7.1 true
set_option maxHeartbeats 4000000 in
set_option maxRecDepth 100000 in
theorem w_X7_kind_27 {p : Program} {l : Launch} {e : Env} {s : State} {m : MethodId} {args : Array Value} {below : List Frame} {meth : Method} {c : Code} {G : zG} {A : Nat → Prop} (C : zC p s m args meth c RX7 cX7_kind 8 (some .int) G A) (b : Nat → Nat) (g : Nat → Int64) (X : va_W) : ∀ (n : Nat) (u : zM) (v1 : Int32) (v2 : Int32) (v3 : Int32) (v4 : Int32) (v5 : Int32), PW p l e 9 s m args below meth c G A 8 (fun u : zM => wM b G.2 u g ++ X) (fun r : Int32 × zM => some (.int r.1)) (fun r => r.2) u [(0, .ref (b 0)), (1, .int v1), (2, .int v2), (3, .int v3), (4, .int v4), (5, .int v5)] 27 [] (f_X7_kind_27 n u v1 v2 v3 v4 v5) := by
  intro n
  induction n with
  | zero => intros; exact z_none
  | succ n ih =>
    intro u v1 v2 v3 v4 v5
    rw [f_X7_kind_27]
    refine z_iload C 5 dX7_kind_27 rfl ?_
    refine z_iconst (v := 4) C dX7_kind_29 (by decide) ?_
    refine z_icmpge C 104 dX7_kind_30 (by decide) ?_ ?_
    · refine z_iload C 4 dX7_kind_104 rfl ?_
      refine z_bipush (v := (-4)) C dX7_kind_106 (by decide) ?_
      refine z_icmpne C 116 dX7_kind_108 (by decide) ?_ ?_
      · refine z_bipush (v := (-4)) C dX7_kind_111 (by decide) ?_
        refine z_goto C 126 dX7_kind_113 (by decide) ?_
        exact z_iret C dX7_kind_126 rfl rfl rfl
      refine z_iload_n C 2 dX7_kind_116 rfl ?_
      refine z_ifne C 125 dX7_kind_117 (by decide) ?_ ?_
      · refine z_iload C 4 dX7_kind_120 rfl ?_
        refine z_goto C 126 dX7_kind_122 (by decide) ?_
        exact z_iret C dX7_kind_126 rfl rfl rfl
      refine z_iload_n C 3 dX7_kind_125 rfl ?_
      exact z_iret C dX7_kind_126 rfl rfl rfl
    refine z_aload_n C 0 dX7_kind_33 rfl ?_
    refine y_callVS C (z_invV C [] [] (ct_X7_starts l G b g X u ) mi_X7_starts md_X7_starts ms_X7_starts ml_RX7_191 has_M_0 ⟨_, rfl, rfl⟩ (by decide) rfl rfl dX7_kind_34 (Nat.le_of_ble_eq_true rfl)) (List.Perm.refl _) (fun _ => List.Perm.refl _) (fun r3 u4 => ?_)
    refine z_aload_n C 0 dX7_kind_37 rfl ?_
    refine z_iload_n C 1 dX7_kind_38 rfl ?_
    refine z_iconst (v := 0) C dX7_kind_39 (by decide) ?_
    refine z_iload C 5 dX7_kind_40 rfl ?_
    refine y_callVS C (z_invV C [.int v1, .int 0, .int v5] [] (ct_X7_becomesOf l G b g X u4 v1 0 v5) mi_X7_becomesOf md_X7_becomesOf ms_X7_becomesOf ml_RX7_158 has_M_0 ⟨_, rfl, rfl⟩ (by decide) rfl rfl dX7_kind_42 (Nat.le_of_ble_eq_true rfl)) (List.Perm.refl _) (fun _ => List.Perm.refl _) (fun r5 u6 => ?_)
    refine z_aload_n C 0 dX7_kind_45 rfl ?_
    refine z_iload_n C 1 dX7_kind_46 rfl ?_
    refine y_callIS C (z_invV C [.int v1] [] (ct_X7_daysTo l G b g X u6 v1) mi_X7_daysTo md_X7_daysTo ms_X7_daysTo ml_RX7_237 has_M_0 ⟨_, rfl, rfl⟩ (by decide) rfl rfl dX7_kind_47 (Nat.le_of_ble_eq_true rfl)) (List.Perm.refl _) (fun _ => List.Perm.refl _) (fun r7 u8 => ?_)
    refine z_istore C [(6, .int r7.1), (0, .ref (b 0)), (1, .int v1), (2, .int v2), (3, .int v3), (4, .int v4), (5, .int v5)] dX7_kind_50 (by decide) rfl ?_
    refine z_iload C 0 dX7_kind_52 rfl ?_
    refine z_bipush (v := (-4)) C dX7_kind_54 (by decide) ?_
    refine z_icmpeq C 69 dX7_kind_56 (by decide) ?_ ?_
    · refine z_iconst (v := 0) C dX7_kind_69 (by decide) ?_
      refine z_loc C [(0, .ref (b 0)), (1, .int v1), (2, .int v2), (3, .int v3), (4, .int v4), (5, .int v5), (6, .int r7.1)] [1, 2, 3, 4, 5, 6, 0] rfl ?_
      exact w_X7_kind_70 C b g X  (fun u v1 v2 v3 v4 v5 => f_X7_kind_27 n u v1 v2 v3 v4 v5) ih  u8 v1 v2 v3 v4 v5 r7.1 false
    refine z_iload C 0 dX7_kind_59 rfl ?_
    refine z_iload_n C 4 dX7_kind_61 rfl ?_
    refine z_icmpge C 69 dX7_kind_62 (by decide) ?_ ?_
    · refine z_iconst (v := 0) C dX7_kind_69 (by decide) ?_
      refine z_loc C [(0, .ref (b 0)), (1, .int v1), (2, .int v2), (3, .int v3), (4, .int v4), (5, .int v5), (6, .int r7.1)] [1, 2, 3, 4, 5, 6, 0] rfl ?_
      exact w_X7_kind_70 C b g X  (fun u v1 v2 v3 v4 v5 => f_X7_kind_27 n u v1 v2 v3 v4 v5) ih  u8 v1 v2 v3 v4 v5 r7.1 false
    refine z_iconst (v := 1) C dX7_kind_65 (by decide) ?_
    refine z_goto C 70 dX7_kind_66 (by decide) ?_
    refine z_loc C [(0, .ref (b 0)), (1, .int v1), (2, .int v2), (3, .int v3), (4, .int v4), (5, .int v5), (6, .int r7.1)] [1, 2, 3, 4, 5, 6, 0] rfl ?_
    exact w_X7_kind_70 C b g X  (fun u v1 v2 v3 v4 v5 => f_X7_kind_27 n u v1 v2 v3 v4 v5) ih  u8 v1 v2 v3 v4 v5 r7.1 true
noncomputable def f_X7_kind (u : zM) (v1 : Int32) (v2 : Int32) : Option (Int32 × zM) := (f_X7_isBeetle u v1).bind fun r1 => if r1 = true then (f_X7_isPart v2).bind fun r2 => if r2 = true then f_X7_kind_27 FU u v1 v2 1000000 (-4) 0 else some ((-1), u) else some ((-1), u)
set_option maxHeartbeats 4000000 in
set_option maxRecDepth 100000 in
theorem ct_X7_kind (l : Launch) (G : zG) (b : Nat → Nat) (g : Nat → Int64) (X : va_W) (u : zM) (v1 : Int32) (v2 : Int32) : zCt l yX7_kind cX7_kind 8 (some .int) 9 G [.ref (b 0), .int v1, .int v2] (fun u : zM => wM b G.2 u g ++ X) (fun r : Int32 × zM => some (.int r.1)) (fun r => r.2) u (f_X7_kind u v1 v2) := by
  refine zCt.of (by decide) (Nat.le_of_ble_eq_true rfl) (fun p e s m args below meth c A C => ?_)
  refine y_lv (lv' := [(0, .ref (b 0)), (1, .int v1), (2, .int v2)]) rfl ?_
  rw [f_X7_kind]
  refine z_aload_n C 0 dX7_kind_0 rfl ?_
  refine z_iload_n C 1 dX7_kind_1 rfl ?_
  refine y_callZ C (z_invV C [.int v1] [] (ct_X7_isBeetle l G b g X u v1) mi_X7_isBeetle md_X7_isBeetle ms_X7_isBeetle ml_RX7_207 has_M_0 ⟨_, rfl, rfl⟩ (by decide) rfl rfl dX7_kind_2 (Nat.le_of_ble_eq_true rfl)) (List.Perm.refl _) (fun r1 => ?_)
  refine z_zifeq C 15 dX7_kind_5 (by decide) ?_ ?_
  · refine z_iload_n C 2 dX7_kind_8 rfl ?_
    refine y_callZ C (z_invS C [.int v2] [] (ct_X7_isPart l G ((fun u : zM => wM b G.2 u g ++ X) u) v2) mi_X7_isPart mt_X7_isPart ml_RX7_240 (by decide) rfl rfl dX7_kind_9 (Nat.le_of_ble_eq_true rfl)) (List.Perm.refl _) (fun r2 => ?_)
    refine z_zifne C 17 dX7_kind_12 (by decide) ?_ ?_
    · refine z_ldc C kc_RX7_243 dX7_kind_17 ?_
      refine z_istore_n C [(3, .int 1000000), (0, .ref (b 0)), (1, .int v1), (2, .int v2)] dX7_kind_19 (by decide) rfl ?_
      refine z_bipush (v := (-4)) C dX7_kind_20 (by decide) ?_
      refine z_istore C [(4, .int (-4)), (3, .int 1000000), (0, .ref (b 0)), (1, .int v1), (2, .int v2)] dX7_kind_22 (by decide) rfl ?_
      refine z_iconst (v := 0) C dX7_kind_24 (by decide) ?_
      refine z_istore C [(5, .int 0), (4, .int (-4)), (3, .int 1000000), (0, .ref (b 0)), (1, .int v1), (2, .int v2)] dX7_kind_25 (by decide) rfl ?_
      refine z_loc C [(0, .ref (b 0)), (1, .int v1), (2, .int v2), (3, .int 1000000), (4, .int (-4)), (5, .int 0)] [3, 4, 5, 2, 1, 0] rfl ?_
      exact w_X7_kind_27 C b g X    FU u v1 v2 1000000 (-4) 0
    refine z_iconst (v := (-1)) C dX7_kind_15 (by decide) ?_
    exact z_iret C dX7_kind_16 rfl rfl rfl
  refine z_iconst (v := (-1)) C dX7_kind_15 (by decide) ?_
  exact z_iret C dX7_kind_16 rfl rfl rfl
noncomputable def f_X7_kinds_14 : Nat → zM → Int32 → Int32 → Int32 → Option (Int32 × zM)
  | 0, _, _, _, _ => none
  | n + 1, u, v1, v2, v3 => if 4 ≤ v3 then some (v2, u) else (f_X7_isSoWith u v1 0 v3).bind fun r2 => zlet r2.2 fun u3 => (f_X7_flag (zb r2.1)).bind fun r4 => f_X7_kinds_14 n u3 v1 (v2 ||| (r4 <<< ((v3 : Int32) &&& 31))) (v3 + 1)
set_option maxHeartbeats 4000000 in
set_option maxRecDepth 100000 in
theorem w_X7_kinds_14 {p : Program} {l : Launch} {e : Env} {s : State} {m : MethodId} {args : Array Value} {below : List Frame} {meth : Method} {c : Code} {G : zG} {A : Nat → Prop} (C : zC p s m args meth c RX7 cX7_kinds 4 (some .int) G A) (b : Nat → Nat) (g : Nat → Int64) (X : va_W) : ∀ (n : Nat) (u : zM) (v1 : Int32) (v2 : Int32) (v3 : Int32), PW p l e 9 s m args below meth c G A 4 (fun u : zM => wM b G.2 u g ++ X) (fun r : Int32 × zM => some (.int r.1)) (fun r => r.2) u [(0, .ref (b 0)), (1, .int v1), (2, .int v2), (3, .int v3)] 14 [] (f_X7_kinds_14 n u v1 v2 v3) := by
  intro n
  induction n with
  | zero => intros; exact z_none
  | succ n ih =>
    intro u v1 v2 v3
    rw [f_X7_kinds_14]
    refine z_iload_n C 3 dX7_kinds_14 rfl ?_
    refine z_iconst (v := 4) C dX7_kinds_15 (by decide) ?_
    refine z_icmpge C 40 dX7_kinds_16 (by decide) ?_ ?_
    · refine z_iload_n C 2 dX7_kinds_40 rfl ?_
      exact z_iret C dX7_kinds_41 rfl rfl rfl
    refine z_iload_n C 2 dX7_kinds_19 rfl ?_
    refine z_aload_n C 0 dX7_kinds_20 rfl ?_
    refine z_iload_n C 1 dX7_kinds_21 rfl ?_
    refine z_iconst (v := 0) C dX7_kinds_22 (by decide) ?_
    refine z_iload_n C 3 dX7_kinds_23 rfl ?_
    refine y_callZS C (z_invV C [.int v1, .int 0, .int v3] [.int v2] (ct_X7_isSoWith l G b g X u v1 0 v3) mi_X7_isSoWith md_X7_isSoWith ms_X7_isSoWith ml_RX7_282 has_M_0 ⟨_, rfl, rfl⟩ (by decide) rfl rfl dX7_kinds_24 (Nat.le_of_ble_eq_true rfl)) (List.Perm.refl _) (fun _ => List.Perm.refl _) (fun r2 u3 => ?_)
    refine y_callI C (z_invS C [.int (zb r2.1)] [.int v2] (ct_X7_flag l G ((fun u : zM => wM b G.2 u g ++ X) u3) (zb r2.1)) mi_X7_flag mt_X7_flag ml_RX7_187 (by decide) rfl rfl dX7_kinds_27 (Nat.le_of_ble_eq_true rfl)) (List.Perm.refl _) (fun r4 => ?_)
    refine z_iload_n C 3 dX7_kinds_30 rfl ?_
    refine z_ishl C dX7_kinds_31 ?_
    refine z_ior C dX7_kinds_32 ?_
    refine z_istore_n C [(2, .int (v2 ||| (r4 <<< ((v3 : Int32) &&& 31)))), (0, .ref (b 0)), (1, .int v1), (3, .int v3)] dX7_kinds_33 (by decide) rfl ?_
    refine z_iinc C (v := (v3 + 1)) 3 [(3, .int (v3 + 1)), (2, .int (v2 ||| (r4 <<< ((v3 : Int32) &&& 31)))), (0, .ref (b 0)), (1, .int v1)] dX7_kinds_34 rfl rfl (by decide) rfl ?_
    refine z_goto C 14 dX7_kinds_37 (by decide) ?_
    refine z_loc C [(0, .ref (b 0)), (1, .int v1), (2, .int (v2 ||| (r4 <<< ((v3 : Int32) &&& 31)))), (3, .int (v3 + 1))] [2, 3, 1, 0] rfl ?_
    exact ih u3 v1 (v2 ||| (r4 <<< ((v3 : Int32) &&& 31))) (v3 + 1)
noncomputable def f_X7_kinds (u : zM) (v1 : Int32) : Option (Int32 × zM) := (f_X7_isBeetle u v1).bind fun r1 => if r1 = true then f_X7_kinds_14 FU u v1 0 0 else some ((-1), u)
set_option maxHeartbeats 4000000 in
set_option maxRecDepth 100000 in
theorem ct_X7_kinds (l : Launch) (G : zG) (b : Nat → Nat) (g : Nat → Int64) (X : va_W) (u : zM) (v1 : Int32) : zCt l yX7_kinds cX7_kinds 4 (some .int) 9 G [.ref (b 0), .int v1] (fun u : zM => wM b G.2 u g ++ X) (fun r : Int32 × zM => some (.int r.1)) (fun r => r.2) u (f_X7_kinds u v1) := by
  refine zCt.of (by decide) (Nat.le_of_ble_eq_true rfl) (fun p e s m args below meth c A C => ?_)
  refine y_lv (lv' := [(0, .ref (b 0)), (1, .int v1)]) rfl ?_
  rw [f_X7_kinds]
  refine z_aload_n C 0 dX7_kinds_0 rfl ?_
  refine z_iload_n C 1 dX7_kinds_1 rfl ?_
  refine y_callZ C (z_invV C [.int v1] [] (ct_X7_isBeetle l G b g X u v1) mi_X7_isBeetle md_X7_isBeetle ms_X7_isBeetle ml_RX7_207 has_M_0 ⟨_, rfl, rfl⟩ (by decide) rfl rfl dX7_kinds_2 (Nat.le_of_ble_eq_true rfl)) (List.Perm.refl _) (fun r1 => ?_)
  refine z_zifne C 10 dX7_kinds_5 (by decide) ?_ ?_
  · refine z_iconst (v := 0) C dX7_kinds_10 (by decide) ?_
    refine z_istore_n C [(2, .int 0), (0, .ref (b 0)), (1, .int v1)] dX7_kinds_11 (by decide) rfl ?_
    refine z_iconst (v := 0) C dX7_kinds_12 (by decide) ?_
    refine z_istore_n C [(3, .int 0), (2, .int 0), (0, .ref (b 0)), (1, .int v1)] dX7_kinds_13 (by decide) rfl ?_
    refine z_loc C [(0, .ref (b 0)), (1, .int v1), (2, .int 0), (3, .int 0)] [2, 3, 1, 0] rfl ?_
    exact w_X7_kinds_14 C b g X    FU u v1 0 0
  refine z_iconst (v := (-1)) C dX7_kinds_8 (by decide) ?_
  exact z_iret C dX7_kinds_9 rfl rfl rfl
noncomputable def f_X7_luck (u : (zM × (Nat → Int64))) (v1 : Int32) (v2 : Int32) (v3 : Int32) (v4 : Int32) : Option (Int64 × (zM × (Nat → Int64))) := (f_X7_in (Int32.toInt64 v1) (0 : Int64) (10 : Int64)).bind fun r1 => if r1 = true then (f_X7_isBeetle u.1 v2).bind fun r2 => if r2 = true then (f_X7_in (Int32.toInt64 v3) (0 : Int64) (8 : Int64)).bind fun r3 => if r3 = true then (f_X7_isPart v4).bind fun r4 => if r4 = true then (f_X7_findOdds u v1 v2 (-4) v3).bind fun r5 => zlet r5 fun u6 => (f_X7_told (u6.2 19) (u6.2 21) v4).bind fun r7 => some (r7, u6) else some ((-1 : Int64), u) else some ((-1 : Int64), u) else some ((-1 : Int64), u) else some ((-1 : Int64), u)
set_option maxHeartbeats 4000000 in
set_option maxRecDepth 100000 in
theorem ct_X7_luck (l : Launch) (G : zG) (b : Nat → Nat) (X : va_W) (u : (zM × (Nat → Int64))) (v1 : Int32) (v2 : Int32) (v3 : Int32) (v4 : Int32) : zCt l yX7_luck cX7_luck 5 (some .long) 9 G [.ref (b 0), .int v1, .int v2, .int v3, .int v4] (fun u : zM × (Nat → Int64) => wM b G.2 u.1 u.2 ++ X) (fun r : Int64 × (zM × (Nat → Int64)) => some (.long r.1)) (fun r => r.2) u (f_X7_luck u v1 v2 v3 v4) := by
  refine zCt.of (by decide) (Nat.le_of_ble_eq_true rfl) (fun p e s m args below meth c A C => ?_)
  refine y_lv (lv' := [(0, .ref (b 0)), (1, .int v1), (2, .int v2), (3, .int v3), (4, .int v4)]) rfl ?_
  rw [f_X7_luck]
  refine z_iload_n C 1 dX7_luck_0 rfl ?_
  refine z_i2l C dX7_luck_1 ?_
  refine z_lconst (v := 0) C dX7_luck_2 (by decide) ?_
  refine z_ldc2 C kc_RX7_264 dX7_luck_3 ?_
  refine y_callZ C (z_invS C [.long (Int32.toInt64 v1), .long (0 : Int64), .long (10 : Int64)] [] (ct_X7_in l G ((fun u : zM × (Nat → Int64) => wM b G.2 u.1 u.2 ++ X) u) (Int32.toInt64 v1) (0 : Int64) (10 : Int64)) mi_X7_in mt_X7_in ml_RX7_65 (by decide) rfl rfl dX7_luck_6 (Nat.le_of_ble_eq_true rfl)) (List.Perm.refl _) (fun r1 => ?_)
  refine z_zifeq C 40 dX7_luck_9 (by decide) ?_ ?_
  · refine z_aload_n C 0 dX7_luck_12 rfl ?_
    refine z_iload_n C 2 dX7_luck_13 rfl ?_
    refine y_callZ C (z_invV C [.int v2] [] (ct_X7_isBeetle l G b u.2 X u.1 v2) mi_X7_isBeetle md_X7_isBeetle ms_X7_isBeetle ml_RX7_207 has_M_0 ⟨_, rfl, rfl⟩ (by decide) rfl rfl dX7_luck_14 (Nat.le_of_ble_eq_true rfl)) (List.Perm.refl _) (fun r2 => ?_)
    refine z_zifeq C 40 dX7_luck_17 (by decide) ?_ ?_
    · refine z_iload_n C 3 dX7_luck_20 rfl ?_
      refine z_i2l C dX7_luck_21 ?_
      refine z_lconst (v := 0) C dX7_luck_22 (by decide) ?_
      refine z_ldc2 C kc_RX7_266 dX7_luck_23 ?_
      refine y_callZ C (z_invS C [.long (Int32.toInt64 v3), .long (0 : Int64), .long (8 : Int64)] [] (ct_X7_in l G ((fun u : zM × (Nat → Int64) => wM b G.2 u.1 u.2 ++ X) u) (Int32.toInt64 v3) (0 : Int64) (8 : Int64)) mi_X7_in mt_X7_in ml_RX7_65 (by decide) rfl rfl dX7_luck_26 (Nat.le_of_ble_eq_true rfl)) (List.Perm.refl _) (fun r3 => ?_)
      refine z_zifeq C 40 dX7_luck_29 (by decide) ?_ ?_
      · refine z_iload C 4 dX7_luck_32 rfl ?_
        refine y_callZ C (z_invS C [.int v4] [] (ct_X7_isPart l G ((fun u : zM × (Nat → Int64) => wM b G.2 u.1 u.2 ++ X) u) v4) mi_X7_isPart mt_X7_isPart ml_RX7_240 (by decide) rfl rfl dX7_luck_34 (Nat.le_of_ble_eq_true rfl)) (List.Perm.refl _) (fun r4 => ?_)
        refine z_zifne C 44 dX7_luck_37 (by decide) ?_ ?_
        · refine z_aload_n C 0 dX7_luck_44 rfl ?_
          refine z_iload_n C 1 dX7_luck_45 rfl ?_
          refine z_iload_n C 2 dX7_luck_46 rfl ?_
          refine z_bipush (v := (-4)) C dX7_luck_47 (by decide) ?_
          refine z_iload_n C 3 dX7_luck_49 rfl ?_
          refine y_callVS C (z_invV C [.int v1, .int v2, .int (-4), .int v3] [] (ct_X7_findOdds l G b X u v1 v2 (-4) v3) mi_X7_findOdds md_X7_findOdds ms_X7_findOdds ml_RX7_270 has_M_0 ⟨_, rfl, rfl⟩ (by decide) rfl rfl dX7_luck_50 (Nat.le_of_ble_eq_true rfl)) (List.Perm.refl _) (fun _ => List.Perm.refl _) (fun r5 u6 => ?_)
          refine z_aload_n C 0 dX7_luck_53 rfl ?_
          refine z_get C fl_RX7_254 has_M_0 rfl dX7_luck_54 ?_
          refine z_aload_n C 0 dX7_luck_57 rfl ?_
          refine z_get C fl_RX7_261 has_M_0 rfl dX7_luck_58 ?_
          refine z_iload C 4 dX7_luck_61 rfl ?_
          refine y_callL C (z_invS C [.long (u6.2 19), .long (u6.2 21), .int v4] [] (ct_X7_told l G ((fun u : zM × (Nat → Int64) => wM b G.2 u.1 u.2 ++ X) u6) (u6.2 19) (u6.2 21) v4) mi_X7_told mt_X7_told ml_RX7_274 (by decide) rfl rfl dX7_luck_63 (Nat.le_of_ble_eq_true rfl)) (List.Perm.refl _) (fun r7 => ?_)
          exact z_lret C dX7_luck_66 rfl rfl
        refine z_ldc2 C kc_RX7_268 dX7_luck_40 ?_
        exact z_lret C dX7_luck_43 rfl rfl
      refine z_ldc2 C kc_RX7_268 dX7_luck_40 ?_
      exact z_lret C dX7_luck_43 rfl rfl
    refine z_ldc2 C kc_RX7_268 dX7_luck_40 ?_
    exact z_lret C dX7_luck_43 rfl rfl
  refine z_ldc2 C kc_RX7_268 dX7_luck_40 ?_
  exact z_lret C dX7_luck_43 rfl rfl
noncomputable def f_X7_mean (u : (zM × (Nat → Int64))) (v1 : Int32) (v2 : Int32) (v3 : Int32) (v4 : Int32) : Option (Int64 × (zM × (Nat → Int64))) := (f_X7_in (Int32.toInt64 v1) (0 : Int64) (10 : Int64)).bind fun r1 => if r1 = true then (f_X7_isOne u.1 v2).bind fun r2 => if r2 = true then (f_X7_in (Int32.toInt64 v3) (0 : Int64) (8 : Int64)).bind fun r3 => if r3 = true then (f_X7_isPart v4).bind fun r4 => if r4 = true then (f_X7_findOdds u v1 (-4) v2 v3).bind fun r5 => zlet r5 fun u6 => (f_X7_told (u6.2 20) (u6.2 21) v4).bind fun r7 => some (r7, u6) else some ((-1 : Int64), u) else some ((-1 : Int64), u) else some ((-1 : Int64), u) else some ((-1 : Int64), u)
set_option maxHeartbeats 4000000 in
set_option maxRecDepth 100000 in
theorem ct_X7_mean (l : Launch) (G : zG) (b : Nat → Nat) (X : va_W) (u : (zM × (Nat → Int64))) (v1 : Int32) (v2 : Int32) (v3 : Int32) (v4 : Int32) : zCt l yX7_mean cX7_mean 5 (some .long) 9 G [.ref (b 0), .int v1, .int v2, .int v3, .int v4] (fun u : zM × (Nat → Int64) => wM b G.2 u.1 u.2 ++ X) (fun r : Int64 × (zM × (Nat → Int64)) => some (.long r.1)) (fun r => r.2) u (f_X7_mean u v1 v2 v3 v4) := by
  refine zCt.of (by decide) (Nat.le_of_ble_eq_true rfl) (fun p e s m args below meth c A C => ?_)
  refine y_lv (lv' := [(0, .ref (b 0)), (1, .int v1), (2, .int v2), (3, .int v3), (4, .int v4)]) rfl ?_
  rw [f_X7_mean]
  refine z_iload_n C 1 dX7_mean_0 rfl ?_
  refine z_i2l C dX7_mean_1 ?_
  refine z_lconst (v := 0) C dX7_mean_2 (by decide) ?_
  refine z_ldc2 C kc_RX7_264 dX7_mean_3 ?_
  refine y_callZ C (z_invS C [.long (Int32.toInt64 v1), .long (0 : Int64), .long (10 : Int64)] [] (ct_X7_in l G ((fun u : zM × (Nat → Int64) => wM b G.2 u.1 u.2 ++ X) u) (Int32.toInt64 v1) (0 : Int64) (10 : Int64)) mi_X7_in mt_X7_in ml_RX7_65 (by decide) rfl rfl dX7_mean_6 (Nat.le_of_ble_eq_true rfl)) (List.Perm.refl _) (fun r1 => ?_)
  refine z_zifeq C 40 dX7_mean_9 (by decide) ?_ ?_
  · refine z_aload_n C 0 dX7_mean_12 rfl ?_
    refine z_iload_n C 2 dX7_mean_13 rfl ?_
    refine y_callZ C (z_invV C [.int v2] [] (ct_X7_isOne l G b u.2 X u.1 v2) mi_X7_isOne md_X7_isOne ms_X7_isOne ml_RX7_203 has_M_0 ⟨_, rfl, rfl⟩ (by decide) rfl rfl dX7_mean_14 (Nat.le_of_ble_eq_true rfl)) (List.Perm.refl _) (fun r2 => ?_)
    refine z_zifeq C 40 dX7_mean_17 (by decide) ?_ ?_
    · refine z_iload_n C 3 dX7_mean_20 rfl ?_
      refine z_i2l C dX7_mean_21 ?_
      refine z_lconst (v := 0) C dX7_mean_22 (by decide) ?_
      refine z_ldc2 C kc_RX7_266 dX7_mean_23 ?_
      refine y_callZ C (z_invS C [.long (Int32.toInt64 v3), .long (0 : Int64), .long (8 : Int64)] [] (ct_X7_in l G ((fun u : zM × (Nat → Int64) => wM b G.2 u.1 u.2 ++ X) u) (Int32.toInt64 v3) (0 : Int64) (8 : Int64)) mi_X7_in mt_X7_in ml_RX7_65 (by decide) rfl rfl dX7_mean_26 (Nat.le_of_ble_eq_true rfl)) (List.Perm.refl _) (fun r3 => ?_)
      refine z_zifeq C 40 dX7_mean_29 (by decide) ?_ ?_
      · refine z_iload C 4 dX7_mean_32 rfl ?_
        refine y_callZ C (z_invS C [.int v4] [] (ct_X7_isPart l G ((fun u : zM × (Nat → Int64) => wM b G.2 u.1 u.2 ++ X) u) v4) mi_X7_isPart mt_X7_isPart ml_RX7_240 (by decide) rfl rfl dX7_mean_34 (Nat.le_of_ble_eq_true rfl)) (List.Perm.refl _) (fun r4 => ?_)
        refine z_zifne C 44 dX7_mean_37 (by decide) ?_ ?_
        · refine z_aload_n C 0 dX7_mean_44 rfl ?_
          refine z_iload_n C 1 dX7_mean_45 rfl ?_
          refine z_bipush (v := (-4)) C dX7_mean_46 (by decide) ?_
          refine z_iload_n C 2 dX7_mean_48 rfl ?_
          refine z_iload_n C 3 dX7_mean_49 rfl ?_
          refine y_callVS C (z_invV C [.int v1, .int (-4), .int v2, .int v3] [] (ct_X7_findOdds l G b X u v1 (-4) v2 v3) mi_X7_findOdds md_X7_findOdds ms_X7_findOdds ml_RX7_270 has_M_0 ⟨_, rfl, rfl⟩ (by decide) rfl rfl dX7_mean_50 (Nat.le_of_ble_eq_true rfl)) (List.Perm.refl _) (fun _ => List.Perm.refl _) (fun r5 u6 => ?_)
          refine z_aload_n C 0 dX7_mean_53 rfl ?_
          refine z_get C fl_RX7_258 has_M_0 rfl dX7_mean_54 ?_
          refine z_aload_n C 0 dX7_mean_57 rfl ?_
          refine z_get C fl_RX7_261 has_M_0 rfl dX7_mean_58 ?_
          refine z_iload C 4 dX7_mean_61 rfl ?_
          refine y_callL C (z_invS C [.long (u6.2 20), .long (u6.2 21), .int v4] [] (ct_X7_told l G ((fun u : zM × (Nat → Int64) => wM b G.2 u.1 u.2 ++ X) u6) (u6.2 20) (u6.2 21) v4) mi_X7_told mt_X7_told ml_RX7_274 (by decide) rfl rfl dX7_mean_63 (Nat.le_of_ble_eq_true rfl)) (List.Perm.refl _) (fun r7 => ?_)
          exact z_lret C dX7_mean_66 rfl rfl
        refine z_ldc2 C kc_RX7_268 dX7_mean_40 ?_
        exact z_lret C dX7_mean_43 rfl rfl
      refine z_ldc2 C kc_RX7_268 dX7_mean_40 ?_
      exact z_lret C dX7_mean_43 rfl rfl
    refine z_ldc2 C kc_RX7_268 dX7_mean_40 ?_
    exact z_lret C dX7_mean_43 rfl rfl
  refine z_ldc2 C kc_RX7_268 dX7_mean_40 ?_
  exact z_lret C dX7_mean_43 rfl rfl
noncomputable def f_X7_need_28 : Nat → zM → Int32 → Int32 → Int32 → Int32 → Option (Int32 × zM)
  | 0, _, _, _, _, _ => none
  | n + 1, u, v1, v2, v3, v4 => if 9 < v4 then some ((-4), u) else (f_X7_starts u).bind fun r4 => zlet r4 fun u5 => (f_X7_becomesOf u5 v1 1 v4).bind fun r6 => zlet r6 fun u7 => (f_X7_daysGo u7 v3).bind fun r8 => zlet r8 fun u9 => (f_X7_isMadeWayFor u9 v2).bind fun r10 => if r10 = true then some (v4, u9) else f_X7_need_28 n u9 v1 v2 v3 (v4 + 1)
set_option maxHeartbeats 4000000 in
set_option maxRecDepth 100000 in
theorem w_X7_need_28 {p : Program} {l : Launch} {e : Env} {s : State} {m : MethodId} {args : Array Value} {below : List Frame} {meth : Method} {c : Code} {G : zG} {A : Nat → Prop} (C : zC p s m args meth c RX7 cX7_need 5 (some .int) G A) (b : Nat → Nat) (g : Nat → Int64) (X : va_W) : ∀ (n : Nat) (u : zM) (v1 : Int32) (v2 : Int32) (v3 : Int32) (v4 : Int32), PW p l e 9 s m args below meth c G A 5 (fun u : zM => wM b G.2 u g ++ X) (fun r : Int32 × zM => some (.int r.1)) (fun r => r.2) u [(0, .ref (b 0)), (1, .int v1), (2, .int v2), (3, .int v3), (4, .int v4)] 28 [] (f_X7_need_28 n u v1 v2 v3 v4) := by
  intro n
  induction n with
  | zero => intros; exact z_none
  | succ n ih =>
    intro u v1 v2 v3 v4
    rw [f_X7_need_28]
    refine z_iload C 4 dX7_need_28 rfl ?_
    refine z_bipush (v := 9) C dX7_need_30 (by decide) ?_
    refine z_icmpgt C 69 dX7_need_32 (by decide) ?_ ?_
    · refine z_bipush (v := (-4)) C dX7_need_69 (by decide) ?_
      exact z_iret C dX7_need_71 rfl rfl rfl
    refine z_aload_n C 0 dX7_need_35 rfl ?_
    refine y_callVS C (z_invV C [] [] (ct_X7_starts l G b g X u ) mi_X7_starts md_X7_starts ms_X7_starts ml_RX7_191 has_M_0 ⟨_, rfl, rfl⟩ (by decide) rfl rfl dX7_need_36 (Nat.le_of_ble_eq_true rfl)) (List.Perm.refl _) (fun _ => List.Perm.refl _) (fun r4 u5 => ?_)
    refine z_aload_n C 0 dX7_need_39 rfl ?_
    refine z_iload_n C 1 dX7_need_40 rfl ?_
    refine z_iconst (v := 1) C dX7_need_41 (by decide) ?_
    refine z_iload C 4 dX7_need_42 rfl ?_
    refine y_callVS C (z_invV C [.int v1, .int 1, .int v4] [] (ct_X7_becomesOf l G b g X u5 v1 1 v4) mi_X7_becomesOf md_X7_becomesOf ms_X7_becomesOf ml_RX7_158 has_M_0 ⟨_, rfl, rfl⟩ (by decide) rfl rfl dX7_need_44 (Nat.le_of_ble_eq_true rfl)) (List.Perm.refl _) (fun _ => List.Perm.refl _) (fun r6 u7 => ?_)
    refine z_aload_n C 0 dX7_need_47 rfl ?_
    refine z_iload_n C 3 dX7_need_48 rfl ?_
    refine y_callVS C (z_invV C [.int v3] [] (ct_X7_daysGo l G b g X u7 v3) mi_X7_daysGo md_X7_daysGo ms_X7_daysGo ml_RX7_226 has_M_0 ⟨_, rfl, rfl⟩ (by decide) rfl rfl dX7_need_49 (Nat.le_of_ble_eq_true rfl)) (List.Perm.refl _) (fun _ => List.Perm.refl _) (fun r8 u9 => ?_)
    refine z_aload_n C 0 dX7_need_52 rfl ?_
    refine z_iload_n C 2 dX7_need_53 rfl ?_
    refine y_callZ C (z_invV C [.int v2] [] (ct_X7_isMadeWayFor l G b g X u9 v2) mi_X7_isMadeWayFor md_X7_isMadeWayFor ms_X7_isMadeWayFor ml_RX7_247 has_M_0 ⟨_, rfl, rfl⟩ (by decide) rfl rfl dX7_need_54 (Nat.le_of_ble_eq_true rfl)) (List.Perm.refl _) (fun r10 => ?_)
    refine z_zifeq C 63 dX7_need_57 (by decide) ?_ ?_
    · refine z_iload C 4 dX7_need_60 rfl ?_
      exact z_iret C dX7_need_62 rfl rfl rfl
    refine z_iinc C (v := (v4 + 1)) 4 [(4, .int (v4 + 1)), (0, .ref (b 0)), (1, .int v1), (2, .int v2), (3, .int v3)] dX7_need_63 rfl rfl (by decide) rfl ?_
    refine z_goto C 28 dX7_need_66 (by decide) ?_
    refine z_loc C [(0, .ref (b 0)), (1, .int v1), (2, .int v2), (3, .int v3), (4, .int (v4 + 1))] [1, 2, 3, 4, 0] rfl ?_
    exact ih u9 v1 v2 v3 (v4 + 1)
noncomputable def f_X7_need (u : zM) (v1 : Int32) (v2 : Int32) (v3 : Int32) : Option (Int32 × zM) := (f_X7_isBeetle u v1).bind fun r1 => if r1 = true then (f_X7_isOne u v2).bind fun r2 => if r2 = true then (f_X7_isFar v3).bind fun r3 => if r3 = true then f_X7_need_28 FU u v1 v2 v3 1 else some ((-1), u) else some ((-1), u) else some ((-1), u)
set_option maxHeartbeats 4000000 in
set_option maxRecDepth 100000 in
theorem ct_X7_need (l : Launch) (G : zG) (b : Nat → Nat) (g : Nat → Int64) (X : va_W) (u : zM) (v1 : Int32) (v2 : Int32) (v3 : Int32) : zCt l yX7_need cX7_need 5 (some .int) 9 G [.ref (b 0), .int v1, .int v2, .int v3] (fun u : zM => wM b G.2 u g ++ X) (fun r : Int32 × zM => some (.int r.1)) (fun r => r.2) u (f_X7_need u v1 v2 v3) := by
  refine zCt.of (by decide) (Nat.le_of_ble_eq_true rfl) (fun p e s m args below meth c A C => ?_)
  refine y_lv (lv' := [(0, .ref (b 0)), (1, .int v1), (2, .int v2), (3, .int v3)]) rfl ?_
  rw [f_X7_need]
  refine z_aload_n C 0 dX7_need_0 rfl ?_
  refine z_iload_n C 1 dX7_need_1 rfl ?_
  refine y_callZ C (z_invV C [.int v1] [] (ct_X7_isBeetle l G b g X u v1) mi_X7_isBeetle md_X7_isBeetle ms_X7_isBeetle ml_RX7_207 has_M_0 ⟨_, rfl, rfl⟩ (by decide) rfl rfl dX7_need_2 (Nat.le_of_ble_eq_true rfl)) (List.Perm.refl _) (fun r1 => ?_)
  refine z_zifeq C 23 dX7_need_5 (by decide) ?_ ?_
  · refine z_aload_n C 0 dX7_need_8 rfl ?_
    refine z_iload_n C 2 dX7_need_9 rfl ?_
    refine y_callZ C (z_invV C [.int v2] [] (ct_X7_isOne l G b g X u v2) mi_X7_isOne md_X7_isOne ms_X7_isOne ml_RX7_203 has_M_0 ⟨_, rfl, rfl⟩ (by decide) rfl rfl dX7_need_10 (Nat.le_of_ble_eq_true rfl)) (List.Perm.refl _) (fun r2 => ?_)
    refine z_zifeq C 23 dX7_need_13 (by decide) ?_ ?_
    · refine z_iload_n C 3 dX7_need_16 rfl ?_
      refine y_callZ C (z_invS C [.int v3] [] (ct_X7_isFar l G ((fun u : zM => wM b G.2 u g ++ X) u) v3) mi_X7_isFar mt_X7_isFar ml_RX7_234 (by decide) rfl rfl dX7_need_17 (Nat.le_of_ble_eq_true rfl)) (List.Perm.refl _) (fun r3 => ?_)
      refine z_zifne C 25 dX7_need_20 (by decide) ?_ ?_
      · refine z_iconst (v := 1) C dX7_need_25 (by decide) ?_
        refine z_istore C [(4, .int 1), (0, .ref (b 0)), (1, .int v1), (2, .int v2), (3, .int v3)] dX7_need_26 (by decide) rfl ?_
        refine z_loc C [(0, .ref (b 0)), (1, .int v1), (2, .int v2), (3, .int v3), (4, .int 1)] [1, 2, 3, 4, 0] rfl ?_
        exact w_X7_need_28 C b g X    FU u v1 v2 v3 1
      refine z_iconst (v := (-1)) C dX7_need_23 (by decide) ?_
      exact z_iret C dX7_need_24 rfl rfl rfl
    refine z_iconst (v := (-1)) C dX7_need_23 (by decide) ?_
    exact z_iret C dX7_need_24 rfl rfl rfl
  refine z_iconst (v := (-1)) C dX7_need_23 (by decide) ?_
  exact z_iret C dX7_need_24 rfl rfl rfl
noncomputable def f_X7_off_95 (k47 : zM → Int32 → Int32 → Int32 → Int32 → Int32 → Int32 → Option (Int32 × zM)) (u : zM) (v1 : Int32) (v2 : Int32) (v3 : Int32) (v4 : Int32) (v6 : Int32) (v7 : Int32) (t0 : Int32) : Option (Int32 × zM) := (f_X7_lesser v7 v4).bind fun r15 => k47 u v1 v2 v3 r15 t0 (v6 + 1)
set_option maxHeartbeats 4000000 in
set_option maxRecDepth 100000 in
theorem w_X7_off_95 {p : Program} {l : Launch} {e : Env} {s : State} {m : MethodId} {args : Array Value} {below : List Frame} {meth : Method} {c : Code} {G : zG} {A : Nat → Prop} (C : zC p s m args meth c RX7 cX7_off 8 (some .int) G A) (b : Nat → Nat) (g : Nat → Int64) (X : va_W) (k47 : zM → Int32 → Int32 → Int32 → Int32 → Int32 → Int32 → Option (Int32 × zM)) (hk47 : ∀ (u : zM) (v1 : Int32) (v2 : Int32) (v3 : Int32) (v4 : Int32) (v5 : Int32) (v6 : Int32), PW p l e 9 s m args below meth c G A 8 (fun u : zM => wM b G.2 u g ++ X) (fun r : Int32 × zM => some (.int r.1)) (fun r => r.2) u [(0, .ref (b 0)), (1, .int v1), (2, .int v2), (3, .int v3), (4, .int v4), (5, .int v5), (6, .int v6)] 47 [] (k47 u v1 v2 v3 v4 v5 v6)) : ∀ (u : zM) (v1 : Int32) (v2 : Int32) (v3 : Int32) (v4 : Int32) (v6 : Int32) (v7 : Int32) (t0 : Int32), PW p l e 9 s m args below meth c G A 8 (fun u : zM => wM b G.2 u g ++ X) (fun r : Int32 × zM => some (.int r.1)) (fun r => r.2) u [(0, .ref (b 0)), (1, .int v1), (2, .int v2), (3, .int v3), (4, .int v4), (6, .int v6), (7, .int v7)] 95 [.int t0] (f_X7_off_95 k47 u v1 v2 v3 v4 v6 v7 t0) := by
  intro u v1 v2 v3 v4 v6 v7 t0
  rw [f_X7_off_95]
  refine z_istore C [(5, .int t0), (0, .ref (b 0)), (1, .int v1), (2, .int v2), (3, .int v3), (4, .int v4), (6, .int v6), (7, .int v7)] dX7_off_95 (by decide) rfl ?_
  refine z_iload C 7 dX7_off_97 rfl ?_
  refine z_iload C 5 dX7_off_99 rfl ?_
  refine y_callI C (z_invS C [.int v7, .int v4] [] (ct_X7_lesser l G ((fun u : zM => wM b G.2 u g ++ X) u) v7 v4) mi_X7_lesser mt_X7_lesser ml_RX7_244 (by decide) rfl rfl dX7_off_101 (Nat.le_of_ble_eq_true rfl)) (List.Perm.refl _) (fun r15 => ?_)
  refine z_istore C [(4, .int r15), (5, .int t0), (0, .ref (b 0)), (1, .int v1), (2, .int v2), (3, .int v3), (6, .int v6), (7, .int v7)] dX7_off_104 (by decide) rfl ?_
  refine z_iinc C (v := (v6 + 1)) 6 [(6, .int (v6 + 1)), (4, .int r15), (5, .int t0), (0, .ref (b 0)), (1, .int v1), (2, .int v2), (3, .int v3), (7, .int v7)] dX7_off_106 rfl rfl (by decide) rfl ?_
  refine z_goto C 47 dX7_off_109 (by decide) ?_
  refine z_loc C [(0, .ref (b 0)), (1, .int v1), (2, .int v2), (3, .int v3), (4, .int r15), (5, .int t0), (6, .int (v6 + 1))] [3, 4, 5, 6, 1, 2, 0] rfl ?_
  exact hk47 u v1 v2 v3 r15 t0 (v6 + 1)
noncomputable def f_X7_off_47 : Nat → zM → Int32 → Int32 → Int32 → Int32 → Int32 → Int32 → Option (Int32 × zM)
  | 0, _, _, _, _, _, _, _ => none
  | n + 1, u, v1, v2, v3, v4, v5, v6 => if z_in 34 183 = true then if (u 1 (Int32.toNatClampNeg 34)) ≤ v6 then if v5 = (-4) then some ((-4), u) else if v3 = 0 then some (v5, u) else some (v4, u) else (f_X7_starts u).bind fun r9 => zlet r9 fun u10 => zlet (zU u10 0 16 v6) fun u11 => (f_X7_daysGo u11 v2).bind fun r12 => zlet r12 fun u13 => (f_X7_counted u13 v1).bind fun r14 => if v4 ≤ r14 then f_X7_off_95 (fun u v1 v2 v3 v4 v5 v6 => f_X7_off_47 n u v1 v2 v3 v4 v5 v6) u13 v1 v2 v3 v4 v6 r14 v5 else f_X7_off_95 (fun u v1 v2 v3 v4 v5 v6 => f_X7_off_47 n u v1 v2 v3 v4 v5 v6) u13 v1 v2 v3 v4 v6 r14 v6 else none
set_option maxHeartbeats 4000000 in
set_option maxRecDepth 100000 in
theorem w_X7_off_47 {p : Program} {l : Launch} {e : Env} {s : State} {m : MethodId} {args : Array Value} {below : List Frame} {meth : Method} {c : Code} {G : zG} {A : Nat → Prop} (C : zC p s m args meth c RX7 cX7_off 8 (some .int) G A) (b : Nat → Nat) (g : Nat → Int64) (X : va_W) : ∀ (n : Nat) (u : zM) (v1 : Int32) (v2 : Int32) (v3 : Int32) (v4 : Int32) (v5 : Int32) (v6 : Int32), PW p l e 9 s m args below meth c G A 8 (fun u : zM => wM b G.2 u g ++ X) (fun r : Int32 × zM => some (.int r.1)) (fun r => r.2) u [(0, .ref (b 0)), (1, .int v1), (2, .int v2), (3, .int v3), (4, .int v4), (5, .int v5), (6, .int v6)] 47 [] (f_X7_off_47 n u v1 v2 v3 v4 v5 v6) := by
  intro n
  induction n with
  | zero => intros; exact z_none
  | succ n ih =>
    intro u v1 v2 v3 v4 v5 v6
    rw [f_X7_off_47]
    refine z_iload C 6 dX7_off_47 rfl ?_
    refine z_aload_n C 0 dX7_off_49 rfl ?_
    refine z_get C fl_RX7_7 has_M_0 rfl dX7_off_50 ?_
    refine z_bipush (v := 34) C dX7_off_53 (by decide) ?_
    refine y_iald C has_M_1 dX7_off_55 ?_
    refine z_icmpge C 112 dX7_off_56 (by decide) ?_ ?_
    · refine z_iload C 5 dX7_off_112 rfl ?_
      refine z_bipush (v := (-4)) C dX7_off_114 (by decide) ?_
      refine z_icmpne C 124 dX7_off_116 (by decide) ?_ ?_
      · refine z_bipush (v := (-4)) C dX7_off_119 (by decide) ?_
        refine z_goto C 135 dX7_off_121 (by decide) ?_
        exact z_iret C dX7_off_135 rfl rfl rfl
      refine z_iload_n C 3 dX7_off_124 rfl ?_
      refine z_ifne C 133 dX7_off_125 (by decide) ?_ ?_
      · refine z_iload C 5 dX7_off_128 rfl ?_
        refine z_goto C 135 dX7_off_130 (by decide) ?_
        exact z_iret C dX7_off_135 rfl rfl rfl
      refine z_iload C 4 dX7_off_133 rfl ?_
      exact z_iret C dX7_off_135 rfl rfl rfl
    refine z_aload_n C 0 dX7_off_59 rfl ?_
    refine y_callVS C (z_invV C [] [] (ct_X7_starts l G b g X u ) mi_X7_starts md_X7_starts ms_X7_starts ml_RX7_191 has_M_0 ⟨_, rfl, rfl⟩ (by decide) rfl rfl dX7_off_60 (Nat.le_of_ble_eq_true rfl)) (List.Perm.refl _) (fun _ => List.Perm.refl _) (fun r9 u10 => ?_)
    refine z_aload_n C 0 dX7_off_63 rfl ?_
    refine z_iload C 6 dX7_off_64 rfl ?_
    refine z_put C fl_RX7_140 ft_7_16 upd_M_0_16 rfl rfl (Nat.le_of_ble_eq_true rfl) dX7_off_66 (fun u11 => ?_)
    refine z_aload_n C 0 dX7_off_69 rfl ?_
    refine z_iload_n C 2 dX7_off_70 rfl ?_
    refine y_callVS C (z_invV C [.int v2] [] (ct_X7_daysGo l G b g X u11 v2) mi_X7_daysGo md_X7_daysGo ms_X7_daysGo ml_RX7_226 has_M_0 ⟨_, rfl, rfl⟩ (by decide) rfl rfl dX7_off_71 (Nat.le_of_ble_eq_true rfl)) (List.Perm.refl _) (fun _ => List.Perm.refl _) (fun r12 u13 => ?_)
    refine z_aload_n C 0 dX7_off_74 rfl ?_
    refine z_iload_n C 1 dX7_off_75 rfl ?_
    refine y_callI C (z_invV C [.int v1] [] (ct_X7_counted l G b g X u13 v1) mi_X7_counted md_X7_counted ms_X7_counted ml_RX7_149 has_M_0 ⟨_, rfl, rfl⟩ (by decide) rfl rfl dX7_off_76 (Nat.le_of_ble_eq_true rfl)) (List.Perm.refl _) (fun r14 => ?_)
    refine z_istore C [(7, .int r14), (0, .ref (b 0)), (1, .int v1), (2, .int v2), (3, .int v3), (4, .int v4), (5, .int v5), (6, .int v6)] dX7_off_79 (by decide) rfl ?_
    refine z_iload C 0 dX7_off_81 rfl ?_
    refine z_iload C 5 dX7_off_83 rfl ?_
    refine z_icmpge C 93 dX7_off_85 (by decide) ?_ ?_
    · refine z_iload C 6 dX7_off_93 rfl ?_
      refine z_loc C [(0, .ref (b 0)), (1, .int v1), (2, .int v2), (3, .int v3), (4, .int v4), (6, .int v6), (7, .int r14)] [1, 2, 3, 4, 5, 7, 0] rfl ?_
      exact w_X7_off_95 C b g X  (fun u v1 v2 v3 v4 v5 v6 => f_X7_off_47 n u v1 v2 v3 v4 v5 v6) ih  u13 v1 v2 v3 v4 v6 r14 v5
    refine z_iload C 7 dX7_off_88 rfl ?_
    refine z_goto C 95 dX7_off_90 (by decide) ?_
    refine z_loc C [(0, .ref (b 0)), (1, .int v1), (2, .int v2), (3, .int v3), (4, .int v4), (6, .int v6), (7, .int r14)] [1, 2, 3, 4, 5, 7, 0] rfl ?_
    exact w_X7_off_95 C b g X  (fun u v1 v2 v3 v4 v5 v6 => f_X7_off_47 n u v1 v2 v3 v4 v5 v6) ih  u13 v1 v2 v3 v4 v6 r14 v6
noncomputable def f_X7_off (u : zM) (v1 : Int32) (v2 : Int32) (v3 : Int32) : Option (Int32 × zM) := (f_X7_isOne u v1).bind fun r1 => if r1 = true then (f_X7_isFar v2).bind fun r2 => if r2 = true then (f_X7_isPart v3).bind fun r3 => if r3 = true then (f_X7_starts u).bind fun r4 => zlet r4 fun u5 => (f_X7_daysGo u5 v2).bind fun r6 => zlet r6 fun u7 => (f_X7_counted u7 v1).bind fun r8 => f_X7_off_47 FU u7 v1 v2 v3 r8 (-4) 0 else some ((-1), u) else some ((-1), u) else some ((-1), u)
set_option maxHeartbeats 4000000 in
set_option maxRecDepth 100000 in
theorem ct_X7_off (l : Launch) (G : zG) (b : Nat → Nat) (g : Nat → Int64) (X : va_W) (u : zM) (v1 : Int32) (v2 : Int32) (v3 : Int32) : zCt l yX7_off cX7_off 8 (some .int) 9 G [.ref (b 0), .int v1, .int v2, .int v3] (fun u : zM => wM b G.2 u g ++ X) (fun r : Int32 × zM => some (.int r.1)) (fun r => r.2) u (f_X7_off u v1 v2 v3) := by
  refine zCt.of (by decide) (Nat.le_of_ble_eq_true rfl) (fun p e s m args below meth c A C => ?_)
  refine y_lv (lv' := [(0, .ref (b 0)), (1, .int v1), (2, .int v2), (3, .int v3)]) rfl ?_
  rw [f_X7_off]
  refine z_aload_n C 0 dX7_off_0 rfl ?_
  refine z_iload_n C 1 dX7_off_1 rfl ?_
  refine y_callZ C (z_invV C [.int v1] [] (ct_X7_isOne l G b g X u v1) mi_X7_isOne md_X7_isOne ms_X7_isOne ml_RX7_203 has_M_0 ⟨_, rfl, rfl⟩ (by decide) rfl rfl dX7_off_2 (Nat.le_of_ble_eq_true rfl)) (List.Perm.refl _) (fun r1 => ?_)
  refine z_zifeq C 22 dX7_off_5 (by decide) ?_ ?_
  · refine z_iload_n C 2 dX7_off_8 rfl ?_
    refine y_callZ C (z_invS C [.int v2] [] (ct_X7_isFar l G ((fun u : zM => wM b G.2 u g ++ X) u) v2) mi_X7_isFar mt_X7_isFar ml_RX7_234 (by decide) rfl rfl dX7_off_9 (Nat.le_of_ble_eq_true rfl)) (List.Perm.refl _) (fun r2 => ?_)
    refine z_zifeq C 22 dX7_off_12 (by decide) ?_ ?_
    · refine z_iload_n C 3 dX7_off_15 rfl ?_
      refine y_callZ C (z_invS C [.int v3] [] (ct_X7_isPart l G ((fun u : zM => wM b G.2 u g ++ X) u) v3) mi_X7_isPart mt_X7_isPart ml_RX7_240 (by decide) rfl rfl dX7_off_16 (Nat.le_of_ble_eq_true rfl)) (List.Perm.refl _) (fun r3 => ?_)
      refine z_zifne C 24 dX7_off_19 (by decide) ?_ ?_
      · refine z_aload_n C 0 dX7_off_24 rfl ?_
        refine y_callVS C (z_invV C [] [] (ct_X7_starts l G b g X u ) mi_X7_starts md_X7_starts ms_X7_starts ml_RX7_191 has_M_0 ⟨_, rfl, rfl⟩ (by decide) rfl rfl dX7_off_25 (Nat.le_of_ble_eq_true rfl)) (List.Perm.refl _) (fun _ => List.Perm.refl _) (fun r4 u5 => ?_)
        refine z_aload_n C 0 dX7_off_28 rfl ?_
        refine z_iload_n C 2 dX7_off_29 rfl ?_
        refine y_callVS C (z_invV C [.int v2] [] (ct_X7_daysGo l G b g X u5 v2) mi_X7_daysGo md_X7_daysGo ms_X7_daysGo ml_RX7_226 has_M_0 ⟨_, rfl, rfl⟩ (by decide) rfl rfl dX7_off_30 (Nat.le_of_ble_eq_true rfl)) (List.Perm.refl _) (fun _ => List.Perm.refl _) (fun r6 u7 => ?_)
        refine z_aload_n C 0 dX7_off_33 rfl ?_
        refine z_iload_n C 1 dX7_off_34 rfl ?_
        refine y_callI C (z_invV C [.int v1] [] (ct_X7_counted l G b g X u7 v1) mi_X7_counted md_X7_counted ms_X7_counted ml_RX7_149 has_M_0 ⟨_, rfl, rfl⟩ (by decide) rfl rfl dX7_off_35 (Nat.le_of_ble_eq_true rfl)) (List.Perm.refl _) (fun r8 => ?_)
        refine z_istore C [(4, .int r8), (0, .ref (b 0)), (1, .int v1), (2, .int v2), (3, .int v3)] dX7_off_38 (by decide) rfl ?_
        refine z_bipush (v := (-4)) C dX7_off_40 (by decide) ?_
        refine z_istore C [(5, .int (-4)), (4, .int r8), (0, .ref (b 0)), (1, .int v1), (2, .int v2), (3, .int v3)] dX7_off_42 (by decide) rfl ?_
        refine z_iconst (v := 0) C dX7_off_44 (by decide) ?_
        refine z_istore C [(6, .int 0), (5, .int (-4)), (4, .int r8), (0, .ref (b 0)), (1, .int v1), (2, .int v2), (3, .int v3)] dX7_off_45 (by decide) rfl ?_
        refine z_loc C [(0, .ref (b 0)), (1, .int v1), (2, .int v2), (3, .int v3), (4, .int r8), (5, .int (-4)), (6, .int 0)] [3, 4, 5, 6, 2, 1, 0] rfl ?_
        exact w_X7_off_47 C b g X    FU u7 v1 v2 v3 r8 (-4) 0
      refine z_iconst (v := (-1)) C dX7_off_22 (by decide) ?_
      exact z_iret C dX7_off_23 rfl rfl rfl
    refine z_iconst (v := (-1)) C dX7_off_22 (by decide) ?_
    exact z_iret C dX7_off_23 rfl rfl rfl
  refine z_iconst (v := (-1)) C dX7_off_22 (by decide) ?_
  exact z_iret C dX7_off_23 rfl rfl rfl
noncomputable def f_X7_owners_14 : Nat → zM → Int32 → Int32 → Int32 → Option (Int32 × zM)
  | 0, _, _, _, _ => none
  | n + 1, u, v1, v2, v3 => if (u 0 3) ≤ v3 then some (v2, u) else (f_X7_isSoWith u v1 2 v3).bind fun r2 => zlet r2.2 fun u3 => (f_X7_flag (zb r2.1)).bind fun r4 => f_X7_owners_14 n u3 v1 (v2 ||| (r4 <<< ((v3 : Int32) &&& 31))) (v3 + 1)
set_option maxHeartbeats 4000000 in
set_option maxRecDepth 100000 in
theorem w_X7_owners_14 {p : Program} {l : Launch} {e : Env} {s : State} {m : MethodId} {args : Array Value} {below : List Frame} {meth : Method} {c : Code} {G : zG} {A : Nat → Prop} (C : zC p s m args meth c RX7 cX7_owners 4 (some .int) G A) (b : Nat → Nat) (g : Nat → Int64) (X : va_W) : ∀ (n : Nat) (u : zM) (v1 : Int32) (v2 : Int32) (v3 : Int32), PW p l e 9 s m args below meth c G A 4 (fun u : zM => wM b G.2 u g ++ X) (fun r : Int32 × zM => some (.int r.1)) (fun r => r.2) u [(0, .ref (b 0)), (1, .int v1), (2, .int v2), (3, .int v3)] 14 [] (f_X7_owners_14 n u v1 v2 v3) := by
  intro n
  induction n with
  | zero => intros; exact z_none
  | succ n ih =>
    intro u v1 v2 v3
    rw [f_X7_owners_14]
    refine z_iload_n C 3 dX7_owners_14 rfl ?_
    refine z_aload_n C 0 dX7_owners_15 rfl ?_
    refine z_get C fl_RX7_60 has_M_0 rfl dX7_owners_16 ?_
    refine z_icmpge C 43 dX7_owners_19 (by decide) ?_ ?_
    · refine z_iload_n C 2 dX7_owners_43 rfl ?_
      exact z_iret C dX7_owners_44 rfl rfl rfl
    refine z_iload_n C 2 dX7_owners_22 rfl ?_
    refine z_aload_n C 0 dX7_owners_23 rfl ?_
    refine z_iload_n C 1 dX7_owners_24 rfl ?_
    refine z_iconst (v := 2) C dX7_owners_25 (by decide) ?_
    refine z_iload_n C 3 dX7_owners_26 rfl ?_
    refine y_callZS C (z_invV C [.int v1, .int 2, .int v3] [.int v2] (ct_X7_isSoWith l G b g X u v1 2 v3) mi_X7_isSoWith md_X7_isSoWith ms_X7_isSoWith ml_RX7_282 has_M_0 ⟨_, rfl, rfl⟩ (by decide) rfl rfl dX7_owners_27 (Nat.le_of_ble_eq_true rfl)) (List.Perm.refl _) (fun _ => List.Perm.refl _) (fun r2 u3 => ?_)
    refine y_callI C (z_invS C [.int (zb r2.1)] [.int v2] (ct_X7_flag l G ((fun u : zM => wM b G.2 u g ++ X) u3) (zb r2.1)) mi_X7_flag mt_X7_flag ml_RX7_187 (by decide) rfl rfl dX7_owners_30 (Nat.le_of_ble_eq_true rfl)) (List.Perm.refl _) (fun r4 => ?_)
    refine z_iload_n C 3 dX7_owners_33 rfl ?_
    refine z_ishl C dX7_owners_34 ?_
    refine z_ior C dX7_owners_35 ?_
    refine z_istore_n C [(2, .int (v2 ||| (r4 <<< ((v3 : Int32) &&& 31)))), (0, .ref (b 0)), (1, .int v1), (3, .int v3)] dX7_owners_36 (by decide) rfl ?_
    refine z_iinc C (v := (v3 + 1)) 3 [(3, .int (v3 + 1)), (2, .int (v2 ||| (r4 <<< ((v3 : Int32) &&& 31)))), (0, .ref (b 0)), (1, .int v1)] dX7_owners_37 rfl rfl (by decide) rfl ?_
    refine z_goto C 14 dX7_owners_40 (by decide) ?_
    refine z_loc C [(0, .ref (b 0)), (1, .int v1), (2, .int (v2 ||| (r4 <<< ((v3 : Int32) &&& 31)))), (3, .int (v3 + 1))] [2, 3, 1, 0] rfl ?_
    exact ih u3 v1 (v2 ||| (r4 <<< ((v3 : Int32) &&& 31))) (v3 + 1)
noncomputable def f_X7_owners (u : zM) (v1 : Int32) : Option (Int32 × zM) := (f_X7_isBeetle u v1).bind fun r1 => if r1 = true then f_X7_owners_14 FU u v1 0 0 else some ((-1), u)
set_option maxHeartbeats 4000000 in
set_option maxRecDepth 100000 in
theorem ct_X7_owners (l : Launch) (G : zG) (b : Nat → Nat) (g : Nat → Int64) (X : va_W) (u : zM) (v1 : Int32) : zCt l yX7_owners cX7_owners 4 (some .int) 9 G [.ref (b 0), .int v1] (fun u : zM => wM b G.2 u g ++ X) (fun r : Int32 × zM => some (.int r.1)) (fun r => r.2) u (f_X7_owners u v1) := by
  refine zCt.of (by decide) (Nat.le_of_ble_eq_true rfl) (fun p e s m args below meth c A C => ?_)
  refine y_lv (lv' := [(0, .ref (b 0)), (1, .int v1)]) rfl ?_
  rw [f_X7_owners]
  refine z_aload_n C 0 dX7_owners_0 rfl ?_
  refine z_iload_n C 1 dX7_owners_1 rfl ?_
  refine y_callZ C (z_invV C [.int v1] [] (ct_X7_isBeetle l G b g X u v1) mi_X7_isBeetle md_X7_isBeetle ms_X7_isBeetle ml_RX7_207 has_M_0 ⟨_, rfl, rfl⟩ (by decide) rfl rfl dX7_owners_2 (Nat.le_of_ble_eq_true rfl)) (List.Perm.refl _) (fun r1 => ?_)
  refine z_zifne C 10 dX7_owners_5 (by decide) ?_ ?_
  · refine z_iconst (v := 0) C dX7_owners_10 (by decide) ?_
    refine z_istore_n C [(2, .int 0), (0, .ref (b 0)), (1, .int v1)] dX7_owners_11 (by decide) rfl ?_
    refine z_iconst (v := 0) C dX7_owners_12 (by decide) ?_
    refine z_istore_n C [(3, .int 0), (2, .int 0), (0, .ref (b 0)), (1, .int v1)] dX7_owners_13 (by decide) rfl ?_
    refine z_loc C [(0, .ref (b 0)), (1, .int v1), (2, .int 0), (3, .int 0)] [2, 3, 1, 0] rfl ?_
    exact w_X7_owners_14 C b g X    FU u v1 0 0
  refine z_iconst (v := (-1)) C dX7_owners_8 (by decide) ?_
  exact z_iret C dX7_owners_9 rfl rfl rfl
noncomputable def f_X7_shed_79 (k34 : zM → Int32 → Int32 → Int32 → Int32 → Int32 → Int32 → Option (Int32 × zM)) (u : zM) (v1 : Int32) (v2 : Int32) (v3 : Int32) (v4 : Int32) (v6 : Int32) (v7 : Int32) (t0 : Int32) : Option (Int32 × zM) := (f_X7_lesser v7 v4).bind fun r10 => k34 u v1 v2 v3 r10 t0 (v6 + 1)
set_option maxHeartbeats 4000000 in
set_option maxRecDepth 100000 in
theorem w_X7_shed_79 {p : Program} {l : Launch} {e : Env} {s : State} {m : MethodId} {args : Array Value} {below : List Frame} {meth : Method} {c : Code} {G : zG} {A : Nat → Prop} (C : zC p s m args meth c RX7 cX7_shed 8 (some .int) G A) (b : Nat → Nat) (g : Nat → Int64) (X : va_W) (k34 : zM → Int32 → Int32 → Int32 → Int32 → Int32 → Int32 → Option (Int32 × zM)) (hk34 : ∀ (u : zM) (v1 : Int32) (v2 : Int32) (v3 : Int32) (v4 : Int32) (v5 : Int32) (v6 : Int32), PW p l e 9 s m args below meth c G A 8 (fun u : zM => wM b G.2 u g ++ X) (fun r : Int32 × zM => some (.int r.1)) (fun r => r.2) u [(0, .ref (b 0)), (1, .int v1), (2, .int v2), (3, .int v3), (4, .int v4), (5, .int v5), (6, .int v6)] 34 [] (k34 u v1 v2 v3 v4 v5 v6)) : ∀ (u : zM) (v1 : Int32) (v2 : Int32) (v3 : Int32) (v4 : Int32) (v6 : Int32) (v7 : Int32) (t0 : Int32), PW p l e 9 s m args below meth c G A 8 (fun u : zM => wM b G.2 u g ++ X) (fun r : Int32 × zM => some (.int r.1)) (fun r => r.2) u [(0, .ref (b 0)), (1, .int v1), (2, .int v2), (3, .int v3), (4, .int v4), (6, .int v6), (7, .int v7)] 79 [.int t0] (f_X7_shed_79 k34 u v1 v2 v3 v4 v6 v7 t0) := by
  intro u v1 v2 v3 v4 v6 v7 t0
  rw [f_X7_shed_79]
  refine z_istore C [(5, .int t0), (0, .ref (b 0)), (1, .int v1), (2, .int v2), (3, .int v3), (4, .int v4), (6, .int v6), (7, .int v7)] dX7_shed_79 (by decide) rfl ?_
  refine z_iload C 7 dX7_shed_81 rfl ?_
  refine z_iload C 5 dX7_shed_83 rfl ?_
  refine y_callI C (z_invS C [.int v7, .int v4] [] (ct_X7_lesser l G ((fun u : zM => wM b G.2 u g ++ X) u) v7 v4) mi_X7_lesser mt_X7_lesser ml_RX7_244 (by decide) rfl rfl dX7_shed_85 (Nat.le_of_ble_eq_true rfl)) (List.Perm.refl _) (fun r10 => ?_)
  refine z_istore C [(4, .int r10), (5, .int t0), (0, .ref (b 0)), (1, .int v1), (2, .int v2), (3, .int v3), (6, .int v6), (7, .int v7)] dX7_shed_88 (by decide) rfl ?_
  refine z_iinc C (v := (v6 + 1)) 6 [(6, .int (v6 + 1)), (4, .int r10), (5, .int t0), (0, .ref (b 0)), (1, .int v1), (2, .int v2), (3, .int v3), (7, .int v7)] dX7_shed_90 rfl rfl (by decide) rfl ?_
  refine z_goto C 34 dX7_shed_93 (by decide) ?_
  refine z_loc C [(0, .ref (b 0)), (1, .int v1), (2, .int v2), (3, .int v3), (4, .int r10), (5, .int t0), (6, .int (v6 + 1))] [3, 4, 5, 6, 1, 2, 0] rfl ?_
  exact hk34 u v1 v2 v3 r10 t0 (v6 + 1)
noncomputable def f_X7_shed_34 : Nat → zM → Int32 → Int32 → Int32 → Int32 → Int32 → Int32 → Option (Int32 × zM)
  | 0, _, _, _, _, _, _, _ => none
  | n + 1, u, v1, v2, v3, v4, v5, v6 => if 10 ≤ v6 then if v3 = 0 then some (v5, u) else some (v4, u) else (f_X7_starts u).bind fun r4 => zlet r4 fun u5 => if z_in v1 61 = true then zlet (zU u5 2 (Int32.toNatClampNeg v1) v6) (fun u6 => (f_X7_daysGo u6 v2).bind fun r7 => zlet r7 fun u8 => (f_X7_counted u8 v1).bind fun r9 => if v4 ≤ r9 then f_X7_shed_79 (fun u v1 v2 v3 v4 v5 v6 => f_X7_shed_34 n u v1 v2 v3 v4 v5 v6) u8 v1 v2 v3 v4 v6 r9 v5 else f_X7_shed_79 (fun u v1 v2 v3 v4 v5 v6 => f_X7_shed_34 n u v1 v2 v3 v4 v5 v6) u8 v1 v2 v3 v4 v6 r9 v6) else none
set_option maxHeartbeats 4000000 in
set_option maxRecDepth 100000 in
theorem w_X7_shed_34 {p : Program} {l : Launch} {e : Env} {s : State} {m : MethodId} {args : Array Value} {below : List Frame} {meth : Method} {c : Code} {G : zG} {A : Nat → Prop} (C : zC p s m args meth c RX7 cX7_shed 8 (some .int) G A) (b : Nat → Nat) (g : Nat → Int64) (X : va_W) : ∀ (n : Nat) (u : zM) (v1 : Int32) (v2 : Int32) (v3 : Int32) (v4 : Int32) (v5 : Int32) (v6 : Int32), PW p l e 9 s m args below meth c G A 8 (fun u : zM => wM b G.2 u g ++ X) (fun r : Int32 × zM => some (.int r.1)) (fun r => r.2) u [(0, .ref (b 0)), (1, .int v1), (2, .int v2), (3, .int v3), (4, .int v4), (5, .int v5), (6, .int v6)] 34 [] (f_X7_shed_34 n u v1 v2 v3 v4 v5 v6) := by
  intro n
  induction n with
  | zero => intros; exact z_none
  | succ n ih =>
    intro u v1 v2 v3 v4 v5 v6
    rw [f_X7_shed_34]
    refine z_iload C 6 dX7_shed_34 rfl ?_
    refine z_bipush (v := 10) C dX7_shed_36 (by decide) ?_
    refine z_icmpge C 96 dX7_shed_38 (by decide) ?_ ?_
    · refine z_iload_n C 3 dX7_shed_96 rfl ?_
      refine z_ifne C 105 dX7_shed_97 (by decide) ?_ ?_
      · refine z_iload C 5 dX7_shed_100 rfl ?_
        refine z_goto C 107 dX7_shed_102 (by decide) ?_
        exact z_iret C dX7_shed_107 rfl rfl rfl
      refine z_iload C 4 dX7_shed_105 rfl ?_
      exact z_iret C dX7_shed_107 rfl rfl rfl
    refine z_aload_n C 0 dX7_shed_41 rfl ?_
    refine y_callVS C (z_invV C [] [] (ct_X7_starts l G b g X u ) mi_X7_starts md_X7_starts ms_X7_starts ml_RX7_191 has_M_0 ⟨_, rfl, rfl⟩ (by decide) rfl rfl dX7_shed_42 (Nat.le_of_ble_eq_true rfl)) (List.Perm.refl _) (fun _ => List.Perm.refl _) (fun r4 u5 => ?_)
    refine z_aload_n C 0 dX7_shed_45 rfl ?_
    refine z_get C fl_RX7_13 has_M_0 rfl dX7_shed_46 ?_
    refine z_iload_n C 1 dX7_shed_49 rfl ?_
    refine z_iload C 6 dX7_shed_50 rfl ?_
    refine y_iast C upd_M_2 dX7_shed_52 (fun u6 => ?_)
    refine z_aload_n C 0 dX7_shed_53 rfl ?_
    refine z_iload_n C 2 dX7_shed_54 rfl ?_
    refine y_callVS C (z_invV C [.int v2] [] (ct_X7_daysGo l G b g X u6 v2) mi_X7_daysGo md_X7_daysGo ms_X7_daysGo ml_RX7_226 has_M_0 ⟨_, rfl, rfl⟩ (by decide) rfl rfl dX7_shed_55 (Nat.le_of_ble_eq_true rfl)) (List.Perm.refl _) (fun _ => List.Perm.refl _) (fun r7 u8 => ?_)
    refine z_aload_n C 0 dX7_shed_58 rfl ?_
    refine z_iload_n C 1 dX7_shed_59 rfl ?_
    refine y_callI C (z_invV C [.int v1] [] (ct_X7_counted l G b g X u8 v1) mi_X7_counted md_X7_counted ms_X7_counted ml_RX7_149 has_M_0 ⟨_, rfl, rfl⟩ (by decide) rfl rfl dX7_shed_60 (Nat.le_of_ble_eq_true rfl)) (List.Perm.refl _) (fun r9 => ?_)
    refine z_istore C [(7, .int r9), (0, .ref (b 0)), (1, .int v1), (2, .int v2), (3, .int v3), (4, .int v4), (5, .int v5), (6, .int v6)] dX7_shed_63 (by decide) rfl ?_
    refine z_iload C 0 dX7_shed_65 rfl ?_
    refine z_iload C 5 dX7_shed_67 rfl ?_
    refine z_icmpge C 77 dX7_shed_69 (by decide) ?_ ?_
    · refine z_iload C 6 dX7_shed_77 rfl ?_
      refine z_loc C [(0, .ref (b 0)), (1, .int v1), (2, .int v2), (3, .int v3), (4, .int v4), (6, .int v6), (7, .int r9)] [1, 2, 3, 4, 5, 7, 0] rfl ?_
      exact w_X7_shed_79 C b g X  (fun u v1 v2 v3 v4 v5 v6 => f_X7_shed_34 n u v1 v2 v3 v4 v5 v6) ih  u8 v1 v2 v3 v4 v6 r9 v5
    refine z_iload C 7 dX7_shed_72 rfl ?_
    refine z_goto C 79 dX7_shed_74 (by decide) ?_
    refine z_loc C [(0, .ref (b 0)), (1, .int v1), (2, .int v2), (3, .int v3), (4, .int v4), (6, .int v6), (7, .int r9)] [1, 2, 3, 4, 5, 7, 0] rfl ?_
    exact w_X7_shed_79 C b g X  (fun u v1 v2 v3 v4 v5 v6 => f_X7_shed_34 n u v1 v2 v3 v4 v5 v6) ih  u8 v1 v2 v3 v4 v6 r9 v6
noncomputable def f_X7_shed (u : zM) (v1 : Int32) (v2 : Int32) (v3 : Int32) : Option (Int32 × zM) := (f_X7_isOne u v1).bind fun r1 => if r1 = true then (f_X7_isFar v2).bind fun r2 => if r2 = true then (f_X7_isPart v3).bind fun r3 => if r3 = true then f_X7_shed_34 FU u v1 v2 v3 1000000 0 0 else some ((-1), u) else some ((-1), u) else some ((-1), u)
set_option maxHeartbeats 4000000 in
set_option maxRecDepth 100000 in
theorem ct_X7_shed (l : Launch) (G : zG) (b : Nat → Nat) (g : Nat → Int64) (X : va_W) (u : zM) (v1 : Int32) (v2 : Int32) (v3 : Int32) : zCt l yX7_shed cX7_shed 8 (some .int) 9 G [.ref (b 0), .int v1, .int v2, .int v3] (fun u : zM => wM b G.2 u g ++ X) (fun r : Int32 × zM => some (.int r.1)) (fun r => r.2) u (f_X7_shed u v1 v2 v3) := by
  refine zCt.of (by decide) (Nat.le_of_ble_eq_true rfl) (fun p e s m args below meth c A C => ?_)
  refine y_lv (lv' := [(0, .ref (b 0)), (1, .int v1), (2, .int v2), (3, .int v3)]) rfl ?_
  rw [f_X7_shed]
  refine z_aload_n C 0 dX7_shed_0 rfl ?_
  refine z_iload_n C 1 dX7_shed_1 rfl ?_
  refine y_callZ C (z_invV C [.int v1] [] (ct_X7_isOne l G b g X u v1) mi_X7_isOne md_X7_isOne ms_X7_isOne ml_RX7_203 has_M_0 ⟨_, rfl, rfl⟩ (by decide) rfl rfl dX7_shed_2 (Nat.le_of_ble_eq_true rfl)) (List.Perm.refl _) (fun r1 => ?_)
  refine z_zifeq C 22 dX7_shed_5 (by decide) ?_ ?_
  · refine z_iload_n C 2 dX7_shed_8 rfl ?_
    refine y_callZ C (z_invS C [.int v2] [] (ct_X7_isFar l G ((fun u : zM => wM b G.2 u g ++ X) u) v2) mi_X7_isFar mt_X7_isFar ml_RX7_234 (by decide) rfl rfl dX7_shed_9 (Nat.le_of_ble_eq_true rfl)) (List.Perm.refl _) (fun r2 => ?_)
    refine z_zifeq C 22 dX7_shed_12 (by decide) ?_ ?_
    · refine z_iload_n C 3 dX7_shed_15 rfl ?_
      refine y_callZ C (z_invS C [.int v3] [] (ct_X7_isPart l G ((fun u : zM => wM b G.2 u g ++ X) u) v3) mi_X7_isPart mt_X7_isPart ml_RX7_240 (by decide) rfl rfl dX7_shed_16 (Nat.le_of_ble_eq_true rfl)) (List.Perm.refl _) (fun r3 => ?_)
      refine z_zifne C 24 dX7_shed_19 (by decide) ?_ ?_
      · refine z_ldc C kc_RX7_243 dX7_shed_24 ?_
        refine z_istore C [(4, .int 1000000), (0, .ref (b 0)), (1, .int v1), (2, .int v2), (3, .int v3)] dX7_shed_26 (by decide) rfl ?_
        refine z_iconst (v := 0) C dX7_shed_28 (by decide) ?_
        refine z_istore C [(5, .int 0), (4, .int 1000000), (0, .ref (b 0)), (1, .int v1), (2, .int v2), (3, .int v3)] dX7_shed_29 (by decide) rfl ?_
        refine z_iconst (v := 0) C dX7_shed_31 (by decide) ?_
        refine z_istore C [(6, .int 0), (5, .int 0), (4, .int 1000000), (0, .ref (b 0)), (1, .int v1), (2, .int v2), (3, .int v3)] dX7_shed_32 (by decide) rfl ?_
        refine z_loc C [(0, .ref (b 0)), (1, .int v1), (2, .int v2), (3, .int v3), (4, .int 1000000), (5, .int 0), (6, .int 0)] [3, 4, 5, 6, 2, 1, 0] rfl ?_
        exact w_X7_shed_34 C b g X    FU u v1 v2 v3 1000000 0 0
      refine z_iconst (v := (-1)) C dX7_shed_22 (by decide) ?_
      exact z_iret C dX7_shed_23 rfl rfl rfl
    refine z_iconst (v := (-1)) C dX7_shed_22 (by decide) ?_
    exact z_iret C dX7_shed_23 rfl rfl rfl
  refine z_iconst (v := (-1)) C dX7_shed_22 (by decide) ?_
  exact z_iret C dX7_shed_23 rfl rfl rfl
noncomputable def f_X7_swap_123 (k37 : zM → Int32 → Int32 → Int32 → Int32 → Int32 → Option (Int32 × zM)) (k52 : zM → Int32 → Int32 → Int32 → Int32 → Int32 → Int32 → Option (Int32 × zM)) (u : zM) (v1 : Int32) (v2 : Int32) (v3 : Int32) (v5 : Int32) (v6 : Int32) (v7 : Int32) (t0 : Int32) : Option (Int32 × zM) := if v7 ≤ v3 then k52 u v1 v2 v3 t0 v5 (v6 + 1) else k52 u v1 v2 v7 t0 v5 (v6 + 1)
set_option maxHeartbeats 4000000 in
set_option maxRecDepth 100000 in
theorem w_X7_swap_123 {p : Program} {l : Launch} {e : Env} {s : State} {m : MethodId} {args : Array Value} {below : List Frame} {meth : Method} {c : Code} {G : zG} {A : Nat → Prop} (C : zC p s m args meth c RX7 cX7_swap 8 (some .int) G A) (b : Nat → Nat) (g : Nat → Int64) (X : va_W) (k37 : zM → Int32 → Int32 → Int32 → Int32 → Int32 → Option (Int32 × zM)) (k52 : zM → Int32 → Int32 → Int32 → Int32 → Int32 → Int32 → Option (Int32 × zM)) (hk37 : ∀ (u : zM) (v1 : Int32) (v2 : Int32) (v3 : Int32) (v4 : Int32) (v5 : Int32), PW p l e 9 s m args below meth c G A 8 (fun u : zM => wM b G.2 u g ++ X) (fun r : Int32 × zM => some (.int r.1)) (fun r => r.2) u [(0, .ref (b 0)), (1, .int v1), (2, .int v2), (3, .int v3), (4, .int v4), (5, .int v5)] 37 [] (k37 u v1 v2 v3 v4 v5)) (hk52 : ∀ (u : zM) (v1 : Int32) (v2 : Int32) (v3 : Int32) (v4 : Int32) (v5 : Int32) (v6 : Int32), PW p l e 9 s m args below meth c G A 8 (fun u : zM => wM b G.2 u g ++ X) (fun r : Int32 × zM => some (.int r.1)) (fun r => r.2) u [(0, .ref (b 0)), (1, .int v1), (2, .int v2), (3, .int v3), (4, .int v4), (5, .int v5), (6, .int v6)] 52 [] (k52 u v1 v2 v3 v4 v5 v6)) : ∀ (u : zM) (v1 : Int32) (v2 : Int32) (v3 : Int32) (v5 : Int32) (v6 : Int32) (v7 : Int32) (t0 : Int32), PW p l e 9 s m args below meth c G A 8 (fun u : zM => wM b G.2 u g ++ X) (fun r : Int32 × zM => some (.int r.1)) (fun r => r.2) u [(0, .ref (b 0)), (1, .int v1), (2, .int v2), (3, .int v3), (5, .int v5), (6, .int v6), (7, .int v7)] 123 [.int t0] (f_X7_swap_123 k37 k52 u v1 v2 v3 v5 v6 v7 t0) := by
  intro u v1 v2 v3 v5 v6 v7 t0
  rw [f_X7_swap_123]
  refine z_istore C [(4, .int t0), (0, .ref (b 0)), (1, .int v1), (2, .int v2), (3, .int v3), (5, .int v5), (6, .int v6), (7, .int v7)] dX7_swap_123 (by decide) rfl ?_
  refine z_iload C 7 dX7_swap_125 rfl ?_
  refine z_iload_n C 4 dX7_swap_127 rfl ?_
  refine z_icmple C 136 dX7_swap_128 (by decide) ?_ ?_
  · refine z_iload_n C 4 dX7_swap_136 rfl ?_
    refine z_istore_n C [(3, .int v3), (4, .int t0), (0, .ref (b 0)), (1, .int v1), (2, .int v2), (5, .int v5), (6, .int v6), (7, .int v7)] dX7_swap_137 (by decide) rfl ?_
    refine z_iinc C (v := (v6 + 1)) 6 [(6, .int (v6 + 1)), (3, .int v3), (4, .int t0), (0, .ref (b 0)), (1, .int v1), (2, .int v2), (5, .int v5), (7, .int v7)] dX7_swap_138 rfl rfl (by decide) rfl ?_
    refine z_goto C 52 dX7_swap_141 (by decide) ?_
    refine z_loc C [(0, .ref (b 0)), (1, .int v1), (2, .int v2), (3, .int v3), (4, .int t0), (5, .int v5), (6, .int (v6 + 1))] [3, 4, 5, 1, 2, 6, 0] rfl ?_
    exact hk52 u v1 v2 v3 t0 v5 (v6 + 1)
  refine z_iload C 7 dX7_swap_131 rfl ?_
  refine z_goto C 137 dX7_swap_133 (by decide) ?_
  refine z_istore_n C [(3, .int v7), (4, .int t0), (0, .ref (b 0)), (1, .int v1), (2, .int v2), (5, .int v5), (6, .int v6), (7, .int v7)] dX7_swap_137 (by decide) rfl ?_
  refine z_iinc C (v := (v6 + 1)) 6 [(6, .int (v6 + 1)), (3, .int v7), (4, .int t0), (0, .ref (b 0)), (1, .int v1), (2, .int v2), (5, .int v5), (7, .int v7)] dX7_swap_138 rfl rfl (by decide) rfl ?_
  refine z_goto C 52 dX7_swap_141 (by decide) ?_
  refine z_loc C [(0, .ref (b 0)), (1, .int v1), (2, .int v2), (3, .int v7), (4, .int t0), (5, .int v5), (6, .int (v6 + 1))] [3, 4, 5, 1, 2, 6, 0] rfl ?_
  exact hk52 u v1 v2 v7 t0 v5 (v6 + 1)
noncomputable def f_X7_swap_52 (k37 : zM → Int32 → Int32 → Int32 → Int32 → Int32 → Option (Int32 × zM)) : Nat → zM → Int32 → Int32 → Int32 → Int32 → Int32 → Int32 → Option (Int32 × zM)
  | 0, _, _, _, _, _, _, _ => none
  | n + 1, u, v1, v2, v3, v4, v5, v6 => if (u 0 3) ≤ v6 then k37 u v1 v2 v3 v4 (v5 + 1) else (f_X7_starts u).bind fun r8 => zlet r8 fun u9 => if z_in v6 183 = true then if z_in v5 61 = true then zlet (zU u9 2 (Int32.toNatClampNeg v5) (u9 1 (Int32.toNatClampNeg v6))) (fun u10 => if z_in v5 183 = true then if z_in v6 61 = true then zlet (zU u10 2 (Int32.toNatClampNeg v6) (u10 1 (Int32.toNatClampNeg v5))) (fun u11 => (f_X7_daysGo u11 v1).bind fun r12 => zlet r12 fun u13 => (f_X7_allCounted u13).bind fun r14 => if r14 ≤ v3 then f_X7_swap_123 k37 (fun u v1 v2 v3 v4 v5 v6 => f_X7_swap_52 k37 n u v1 v2 v3 v4 v5 v6) u13 v1 v2 v3 v5 v6 r14 v4 else f_X7_swap_123 k37 (fun u v1 v2 v3 v4 v5 v6 => f_X7_swap_52 k37 n u v1 v2 v3 v4 v5 v6) u13 v1 v2 v3 v5 v6 r14 ((10 * v5) + v6)) else none else none) else none else none
set_option maxHeartbeats 4000000 in
set_option maxRecDepth 100000 in
theorem w_X7_swap_52 {p : Program} {l : Launch} {e : Env} {s : State} {m : MethodId} {args : Array Value} {below : List Frame} {meth : Method} {c : Code} {G : zG} {A : Nat → Prop} (C : zC p s m args meth c RX7 cX7_swap 8 (some .int) G A) (b : Nat → Nat) (g : Nat → Int64) (X : va_W) (k37 : zM → Int32 → Int32 → Int32 → Int32 → Int32 → Option (Int32 × zM)) (hk37 : ∀ (u : zM) (v1 : Int32) (v2 : Int32) (v3 : Int32) (v4 : Int32) (v5 : Int32), PW p l e 9 s m args below meth c G A 8 (fun u : zM => wM b G.2 u g ++ X) (fun r : Int32 × zM => some (.int r.1)) (fun r => r.2) u [(0, .ref (b 0)), (1, .int v1), (2, .int v2), (3, .int v3), (4, .int v4), (5, .int v5)] 37 [] (k37 u v1 v2 v3 v4 v5)) : ∀ (n : Nat) (u : zM) (v1 : Int32) (v2 : Int32) (v3 : Int32) (v4 : Int32) (v5 : Int32) (v6 : Int32), PW p l e 9 s m args below meth c G A 8 (fun u : zM => wM b G.2 u g ++ X) (fun r : Int32 × zM => some (.int r.1)) (fun r => r.2) u [(0, .ref (b 0)), (1, .int v1), (2, .int v2), (3, .int v3), (4, .int v4), (5, .int v5), (6, .int v6)] 52 [] (f_X7_swap_52 k37 n u v1 v2 v3 v4 v5 v6) := by
  intro n
  induction n with
  | zero => intros; exact z_none
  | succ n ih =>
    intro u v1 v2 v3 v4 v5 v6
    rw [f_X7_swap_52]
    refine z_iload C 6 dX7_swap_52 rfl ?_
    refine z_aload_n C 0 dX7_swap_54 rfl ?_
    refine z_get C fl_RX7_60 has_M_0 rfl dX7_swap_55 ?_
    refine z_icmpge C 144 dX7_swap_58 (by decide) ?_ ?_
    · refine z_iinc C (v := (v5 + 1)) 5 [(5, .int (v5 + 1)), (0, .ref (b 0)), (1, .int v1), (2, .int v2), (3, .int v3), (4, .int v4), (6, .int v6)] dX7_swap_144 rfl rfl (by decide) rfl ?_
      refine z_goto C 37 dX7_swap_147 (by decide) ?_
      refine z_loc C [(0, .ref (b 0)), (1, .int v1), (2, .int v2), (3, .int v3), (4, .int v4), (5, .int (v5 + 1))] [1, 2, 3, 4, 5, 0] rfl ?_
      exact hk37 u v1 v2 v3 v4 (v5 + 1)
    refine z_aload_n C 0 dX7_swap_61 rfl ?_
    refine y_callVS C (z_invV C [] [] (ct_X7_starts l G b g X u ) mi_X7_starts md_X7_starts ms_X7_starts ml_RX7_191 has_M_0 ⟨_, rfl, rfl⟩ (by decide) rfl rfl dX7_swap_62 (Nat.le_of_ble_eq_true rfl)) (List.Perm.refl _) (fun _ => List.Perm.refl _) (fun r8 u9 => ?_)
    refine z_aload_n C 0 dX7_swap_65 rfl ?_
    refine z_get C fl_RX7_13 has_M_0 rfl dX7_swap_66 ?_
    refine z_iload C 5 dX7_swap_69 rfl ?_
    refine z_aload_n C 0 dX7_swap_71 rfl ?_
    refine z_get C fl_RX7_7 has_M_0 rfl dX7_swap_72 ?_
    refine z_iload C 6 dX7_swap_75 rfl ?_
    refine y_iald C has_M_1 dX7_swap_77 ?_
    refine y_iast C upd_M_2 dX7_swap_78 (fun u10 => ?_)
    refine z_aload_n C 0 dX7_swap_79 rfl ?_
    refine z_get C fl_RX7_13 has_M_0 rfl dX7_swap_80 ?_
    refine z_iload C 6 dX7_swap_83 rfl ?_
    refine z_aload_n C 0 dX7_swap_85 rfl ?_
    refine z_get C fl_RX7_7 has_M_0 rfl dX7_swap_86 ?_
    refine z_iload C 5 dX7_swap_89 rfl ?_
    refine y_iald C has_M_1 dX7_swap_91 ?_
    refine y_iast C upd_M_2 dX7_swap_92 (fun u11 => ?_)
    refine z_aload_n C 0 dX7_swap_93 rfl ?_
    refine z_iload_n C 1 dX7_swap_94 rfl ?_
    refine y_callVS C (z_invV C [.int v1] [] (ct_X7_daysGo l G b g X u11 v1) mi_X7_daysGo md_X7_daysGo ms_X7_daysGo ml_RX7_226 has_M_0 ⟨_, rfl, rfl⟩ (by decide) rfl rfl dX7_swap_95 (Nat.le_of_ble_eq_true rfl)) (List.Perm.refl _) (fun _ => List.Perm.refl _) (fun r12 u13 => ?_)
    refine z_aload_n C 0 dX7_swap_98 rfl ?_
    refine y_callI C (z_invV C [] [] (ct_X7_allCounted l G b g X u13 ) mi_X7_allCounted md_X7_allCounted ms_X7_allCounted ml_RX7_197 has_M_0 ⟨_, rfl, rfl⟩ (by decide) rfl rfl dX7_swap_99 (Nat.le_of_ble_eq_true rfl)) (List.Perm.refl _) (fun r14 => ?_)
    refine z_istore C [(7, .int r14), (0, .ref (b 0)), (1, .int v1), (2, .int v2), (3, .int v3), (4, .int v4), (5, .int v5), (6, .int v6)] dX7_swap_102 (by decide) rfl ?_
    refine z_iload C 0 dX7_swap_104 rfl ?_
    refine z_iload_n C 4 dX7_swap_106 rfl ?_
    refine z_icmple C 121 dX7_swap_107 (by decide) ?_ ?_
    · refine z_iload C 5 dX7_swap_121 rfl ?_
      refine z_loc C [(0, .ref (b 0)), (1, .int v1), (2, .int v2), (3, .int v3), (5, .int v5), (6, .int v6), (7, .int r14)] [1, 2, 3, 4, 6, 7, 0] rfl ?_
      exact w_X7_swap_123 C b g X  k37 (fun u v1 v2 v3 v4 v5 v6 => f_X7_swap_52 k37 n u v1 v2 v3 v4 v5 v6) hk37 ih  u13 v1 v2 v3 v5 v6 r14 v4
    refine z_bipush (v := 10) C dX7_swap_110 (by decide) ?_
    refine z_iload C 6 dX7_swap_112 rfl ?_
    refine z_imul C dX7_swap_114 ?_
    refine z_iload C 7 dX7_swap_115 rfl ?_
    refine z_iadd C dX7_swap_117 ?_
    refine z_goto C 123 dX7_swap_118 (by decide) ?_
    refine z_loc C [(0, .ref (b 0)), (1, .int v1), (2, .int v2), (3, .int v3), (5, .int v5), (6, .int v6), (7, .int r14)] [1, 2, 3, 4, 6, 7, 0] rfl ?_
    exact w_X7_swap_123 C b g X  k37 (fun u v1 v2 v3 v4 v5 v6 => f_X7_swap_52 k37 n u v1 v2 v3 v4 v5 v6) hk37 ih  u13 v1 v2 v3 v5 v6 r14 ((10 * v5) + v6)
noncomputable def f_X7_swap_37 : Nat → zM → Int32 → Int32 → Int32 → Int32 → Int32 → Option (Int32 × zM)
  | 0, _, _, _, _, _, _ => none
  | n + 1, u, v1, v2, v3, v4, v5 => if (u 0 3) ≤ v5 then if v4 = (-4) then some ((-4), u) else if v2 = 0 then some (v4, u) else some (v3, u) else f_X7_swap_52 (fun u v1 v2 v3 v4 v5 => f_X7_swap_37 n u v1 v2 v3 v4 v5) FU u v1 v2 v3 v4 v5 (v5 + 1)
set_option maxHeartbeats 4000000 in
set_option maxRecDepth 100000 in
theorem w_X7_swap_37 {p : Program} {l : Launch} {e : Env} {s : State} {m : MethodId} {args : Array Value} {below : List Frame} {meth : Method} {c : Code} {G : zG} {A : Nat → Prop} (C : zC p s m args meth c RX7 cX7_swap 8 (some .int) G A) (b : Nat → Nat) (g : Nat → Int64) (X : va_W) : ∀ (n : Nat) (u : zM) (v1 : Int32) (v2 : Int32) (v3 : Int32) (v4 : Int32) (v5 : Int32), PW p l e 9 s m args below meth c G A 8 (fun u : zM => wM b G.2 u g ++ X) (fun r : Int32 × zM => some (.int r.1)) (fun r => r.2) u [(0, .ref (b 0)), (1, .int v1), (2, .int v2), (3, .int v3), (4, .int v4), (5, .int v5)] 37 [] (f_X7_swap_37 n u v1 v2 v3 v4 v5) := by
  intro n
  induction n with
  | zero => intros; exact z_none
  | succ n ih =>
    intro u v1 v2 v3 v4 v5
    rw [f_X7_swap_37]
    refine z_iload C 5 dX7_swap_37 rfl ?_
    refine z_aload_n C 0 dX7_swap_39 rfl ?_
    refine z_get C fl_RX7_60 has_M_0 rfl dX7_swap_40 ?_
    refine z_icmpge C 150 dX7_swap_43 (by decide) ?_ ?_
    · refine z_iload C 4 dX7_swap_150 rfl ?_
      refine z_bipush (v := (-4)) C dX7_swap_152 (by decide) ?_
      refine z_icmpne C 162 dX7_swap_154 (by decide) ?_ ?_
      · refine z_bipush (v := (-4)) C dX7_swap_157 (by decide) ?_
        refine z_goto C 172 dX7_swap_159 (by decide) ?_
        exact z_iret C dX7_swap_172 rfl rfl rfl
      refine z_iload_n C 2 dX7_swap_162 rfl ?_
      refine z_ifne C 171 dX7_swap_163 (by decide) ?_ ?_
      · refine z_iload C 4 dX7_swap_166 rfl ?_
        refine z_goto C 172 dX7_swap_168 (by decide) ?_
        exact z_iret C dX7_swap_172 rfl rfl rfl
      refine z_iload_n C 3 dX7_swap_171 rfl ?_
      exact z_iret C dX7_swap_172 rfl rfl rfl
    refine z_iload C 5 dX7_swap_46 rfl ?_
    refine z_iconst (v := 1) C dX7_swap_48 (by decide) ?_
    refine z_iadd C dX7_swap_49 ?_
    refine z_istore C [(6, .int (v5 + 1)), (0, .ref (b 0)), (1, .int v1), (2, .int v2), (3, .int v3), (4, .int v4), (5, .int v5)] dX7_swap_50 (by decide) rfl ?_
    refine z_loc C [(0, .ref (b 0)), (1, .int v1), (2, .int v2), (3, .int v3), (4, .int v4), (5, .int v5), (6, .int (v5 + 1))] [1, 2, 3, 4, 5, 6, 0] rfl ?_
    exact w_X7_swap_52 C b g X  (fun u v1 v2 v3 v4 v5 => f_X7_swap_37 n u v1 v2 v3 v4 v5) ih FU u v1 v2 v3 v4 v5 (v5 + 1)
noncomputable def f_X7_swap (u : zM) (v1 : Int32) (v2 : Int32) : Option (Int32 × zM) := (f_X7_isFar v1).bind fun r1 => if r1 = true then (f_X7_isPart v2).bind fun r2 => if r2 = true then (f_X7_starts u).bind fun r3 => zlet r3 fun u4 => (f_X7_daysGo u4 v1).bind fun r5 => zlet r5 fun u6 => (f_X7_allCounted u6).bind fun r7 => f_X7_swap_37 FU u6 v1 v2 r7 (-4) 0 else some ((-1), u) else some ((-1), u)
set_option maxHeartbeats 4000000 in
set_option maxRecDepth 100000 in
theorem ct_X7_swap (l : Launch) (G : zG) (b : Nat → Nat) (g : Nat → Int64) (X : va_W) (u : zM) (v1 : Int32) (v2 : Int32) : zCt l yX7_swap cX7_swap 8 (some .int) 9 G [.ref (b 0), .int v1, .int v2] (fun u : zM => wM b G.2 u g ++ X) (fun r : Int32 × zM => some (.int r.1)) (fun r => r.2) u (f_X7_swap u v1 v2) := by
  refine zCt.of (by decide) (Nat.le_of_ble_eq_true rfl) (fun p e s m args below meth c A C => ?_)
  refine y_lv (lv' := [(0, .ref (b 0)), (1, .int v1), (2, .int v2)]) rfl ?_
  rw [f_X7_swap]
  refine z_iload_n C 1 dX7_swap_0 rfl ?_
  refine y_callZ C (z_invS C [.int v1] [] (ct_X7_isFar l G ((fun u : zM => wM b G.2 u g ++ X) u) v1) mi_X7_isFar mt_X7_isFar ml_RX7_234 (by decide) rfl rfl dX7_swap_1 (Nat.le_of_ble_eq_true rfl)) (List.Perm.refl _) (fun r1 => ?_)
  refine z_zifeq C 14 dX7_swap_4 (by decide) ?_ ?_
  · refine z_iload_n C 2 dX7_swap_7 rfl ?_
    refine y_callZ C (z_invS C [.int v2] [] (ct_X7_isPart l G ((fun u : zM => wM b G.2 u g ++ X) u) v2) mi_X7_isPart mt_X7_isPart ml_RX7_240 (by decide) rfl rfl dX7_swap_8 (Nat.le_of_ble_eq_true rfl)) (List.Perm.refl _) (fun r2 => ?_)
    refine z_zifne C 16 dX7_swap_11 (by decide) ?_ ?_
    · refine z_aload_n C 0 dX7_swap_16 rfl ?_
      refine y_callVS C (z_invV C [] [] (ct_X7_starts l G b g X u ) mi_X7_starts md_X7_starts ms_X7_starts ml_RX7_191 has_M_0 ⟨_, rfl, rfl⟩ (by decide) rfl rfl dX7_swap_17 (Nat.le_of_ble_eq_true rfl)) (List.Perm.refl _) (fun _ => List.Perm.refl _) (fun r3 u4 => ?_)
      refine z_aload_n C 0 dX7_swap_20 rfl ?_
      refine z_iload_n C 1 dX7_swap_21 rfl ?_
      refine y_callVS C (z_invV C [.int v1] [] (ct_X7_daysGo l G b g X u4 v1) mi_X7_daysGo md_X7_daysGo ms_X7_daysGo ml_RX7_226 has_M_0 ⟨_, rfl, rfl⟩ (by decide) rfl rfl dX7_swap_22 (Nat.le_of_ble_eq_true rfl)) (List.Perm.refl _) (fun _ => List.Perm.refl _) (fun r5 u6 => ?_)
      refine z_aload_n C 0 dX7_swap_25 rfl ?_
      refine y_callI C (z_invV C [] [] (ct_X7_allCounted l G b g X u6 ) mi_X7_allCounted md_X7_allCounted ms_X7_allCounted ml_RX7_197 has_M_0 ⟨_, rfl, rfl⟩ (by decide) rfl rfl dX7_swap_26 (Nat.le_of_ble_eq_true rfl)) (List.Perm.refl _) (fun r7 => ?_)
      refine z_istore_n C [(3, .int r7), (0, .ref (b 0)), (1, .int v1), (2, .int v2)] dX7_swap_29 (by decide) rfl ?_
      refine z_bipush (v := (-4)) C dX7_swap_30 (by decide) ?_
      refine z_istore C [(4, .int (-4)), (3, .int r7), (0, .ref (b 0)), (1, .int v1), (2, .int v2)] dX7_swap_32 (by decide) rfl ?_
      refine z_iconst (v := 0) C dX7_swap_34 (by decide) ?_
      refine z_istore C [(5, .int 0), (4, .int (-4)), (3, .int r7), (0, .ref (b 0)), (1, .int v1), (2, .int v2)] dX7_swap_35 (by decide) rfl ?_
      refine z_loc C [(0, .ref (b 0)), (1, .int v1), (2, .int v2), (3, .int r7), (4, .int (-4)), (5, .int 0)] [3, 4, 5, 2, 1, 0] rfl ?_
      exact w_X7_swap_37 C b g X    FU u6 v1 v2 r7 (-4) 0
    refine z_iconst (v := (-1)) C dX7_swap_14 (by decide) ?_
    exact z_iret C dX7_swap_15 rfl rfl rfl
  refine z_iconst (v := (-1)) C dX7_swap_14 (by decide) ?_
  exact z_iret C dX7_swap_15 rfl rfl rfl
noncomputable def f_X7_where (u : zM) (v1 : Int32) (v2 : Int32) : Option (Int32 × zM) := (f_X7_isBeetle u v1).bind fun r1 => if r1 = true then (f_X7_isFar v2).bind fun r2 => if r2 = true then (f_X7_starts u).bind fun r3 => zlet r3 fun u4 => (f_X7_daysGo u4 v2).bind fun r5 => zlet r5 fun u6 => (f_X7_of u6 v1 4).bind fun r7 => if r7 = (-4) then (f_X7_of u6 v1 3).bind fun r8 => some (((-10) - r8), u6) else (f_X7_of u6 v1 4).bind fun r9 => some (r9, u6) else some ((-1), u) else some ((-1), u)
set_option maxHeartbeats 4000000 in
set_option maxRecDepth 100000 in
theorem ct_X7_where (l : Launch) (G : zG) (b : Nat → Nat) (g : Nat → Int64) (X : va_W) (u : zM) (v1 : Int32) (v2 : Int32) : zCt l yX7_where cX7_where 3 (some .int) 9 G [.ref (b 0), .int v1, .int v2] (fun u : zM => wM b G.2 u g ++ X) (fun r : Int32 × zM => some (.int r.1)) (fun r => r.2) u (f_X7_where u v1 v2) := by
  refine zCt.of (by decide) (Nat.le_of_ble_eq_true rfl) (fun p e s m args below meth c A C => ?_)
  refine y_lv (lv' := [(0, .ref (b 0)), (1, .int v1), (2, .int v2)]) rfl ?_
  rw [f_X7_where]
  refine z_aload_n C 0 dX7_where_0 rfl ?_
  refine z_iload_n C 1 dX7_where_1 rfl ?_
  refine y_callZ C (z_invV C [.int v1] [] (ct_X7_isBeetle l G b g X u v1) mi_X7_isBeetle md_X7_isBeetle ms_X7_isBeetle ml_RX7_207 has_M_0 ⟨_, rfl, rfl⟩ (by decide) rfl rfl dX7_where_2 (Nat.le_of_ble_eq_true rfl)) (List.Perm.refl _) (fun r1 => ?_)
  refine z_zifeq C 15 dX7_where_5 (by decide) ?_ ?_
  · refine z_iload_n C 2 dX7_where_8 rfl ?_
    refine y_callZ C (z_invS C [.int v2] [] (ct_X7_isFar l G ((fun u : zM => wM b G.2 u g ++ X) u) v2) mi_X7_isFar mt_X7_isFar ml_RX7_234 (by decide) rfl rfl dX7_where_9 (Nat.le_of_ble_eq_true rfl)) (List.Perm.refl _) (fun r2 => ?_)
    refine z_zifne C 17 dX7_where_12 (by decide) ?_ ?_
    · refine z_aload_n C 0 dX7_where_17 rfl ?_
      refine y_callVS C (z_invV C [] [] (ct_X7_starts l G b g X u ) mi_X7_starts md_X7_starts ms_X7_starts ml_RX7_191 has_M_0 ⟨_, rfl, rfl⟩ (by decide) rfl rfl dX7_where_18 (Nat.le_of_ble_eq_true rfl)) (List.Perm.refl _) (fun _ => List.Perm.refl _) (fun r3 u4 => ?_)
      refine z_aload_n C 0 dX7_where_21 rfl ?_
      refine z_iload_n C 2 dX7_where_22 rfl ?_
      refine y_callVS C (z_invV C [.int v2] [] (ct_X7_daysGo l G b g X u4 v2) mi_X7_daysGo md_X7_daysGo ms_X7_daysGo ml_RX7_226 has_M_0 ⟨_, rfl, rfl⟩ (by decide) rfl rfl dX7_where_23 (Nat.le_of_ble_eq_true rfl)) (List.Perm.refl _) (fun _ => List.Perm.refl _) (fun r5 u6 => ?_)
      refine z_aload_n C 0 dX7_where_26 rfl ?_
      refine z_iload_n C 1 dX7_where_27 rfl ?_
      refine z_iconst (v := 4) C dX7_where_28 (by decide) ?_
      refine y_callI C (z_invV C [.int v1, .int 4] [] (ct_X7_of l G b g X u6 v1 4) mi_X7_of md_X7_of ms_X7_of ml_RX7_143 has_M_0 ⟨_, rfl, rfl⟩ (by decide) rfl rfl dX7_where_29 (Nat.le_of_ble_eq_true rfl)) (List.Perm.refl _) (fun r7 => ?_)
      refine z_bipush (v := (-4)) C dX7_where_32 (by decide) ?_
      refine z_icmpeq C 46 dX7_where_34 (by decide) ?_ ?_
      · refine z_bipush (v := (-10)) C dX7_where_46 (by decide) ?_
        refine z_aload_n C 0 dX7_where_48 rfl ?_
        refine z_iload_n C 1 dX7_where_49 rfl ?_
        refine z_iconst (v := 3) C dX7_where_50 (by decide) ?_
        refine y_callI C (z_invV C [.int v1, .int 3] [.int (-10)] (ct_X7_of l G b g X u6 v1 3) mi_X7_of md_X7_of ms_X7_of ml_RX7_143 has_M_0 ⟨_, rfl, rfl⟩ (by decide) rfl rfl dX7_where_51 (Nat.le_of_ble_eq_true rfl)) (List.Perm.refl _) (fun r8 => ?_)
        refine z_isub C dX7_where_54 ?_
        exact z_iret C dX7_where_55 rfl rfl rfl
      refine z_aload_n C 0 dX7_where_37 rfl ?_
      refine z_iload_n C 1 dX7_where_38 rfl ?_
      refine z_iconst (v := 4) C dX7_where_39 (by decide) ?_
      refine y_callI C (z_invV C [.int v1, .int 4] [] (ct_X7_of l G b g X u6 v1 4) mi_X7_of md_X7_of ms_X7_of ml_RX7_143 has_M_0 ⟨_, rfl, rfl⟩ (by decide) rfl rfl dX7_where_40 (Nat.le_of_ble_eq_true rfl)) (List.Perm.refl _) (fun r9 => ?_)
      refine z_goto C 55 dX7_where_43 (by decide) ?_
      exact z_iret C dX7_where_55 rfl rfl rfl
    refine z_iconst (v := (-1)) C dX7_where_15 (by decide) ?_
    exact z_iret C dX7_where_16 rfl rfl rfl
  refine z_iconst (v := (-1)) C dX7_where_15 (by decide) ?_
  exact z_iret C dX7_where_16 rfl rfl rfl
