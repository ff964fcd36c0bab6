noncomputable def f_X6_rule (S : (Nat → zM)) (v1 : Int32) : Option (Int32) := if v1 = 0 then some ((S 4) 0 0) else if v1 = 1 then some ((S 4) 0 1) else if v1 = 2 then some ((S 4) 0 2) else if v1 = 3 then (f_X0_sitting (S 4)).bind fun r5 => some r5 else if v1 = 4 then (f_X0_countedOfAll (S 4)).bind fun r7 => some r7 else if v1 = 5 then (f_X0_mostCounted (S 4)).bind fun r9 => some r9 else some (-1)
set_option maxHeartbeats 4000000 in
set_option maxRecDepth 100000 in
theorem ct_X6_rule (l : Launch) (G : zG) (ad : Nat → Nat → Nat) (X : va_W) (S : (Nat → zM)) (v1 : Int32) : zCt l yX6_rule cX6_rule 2 (some .int) 4 G [.ref (ad 0 0), .int v1] (fun S : Nat → zM => wS ad G.2 S ++ X) (fun r : Int32 => some (.int r)) (fun _ => S) S (f_X6_rule S v1) := by
  refine zCt.of (by decide) (Nat.le_of_ble_eq_true rfl) (fun p e s m args below meth c A C => ?_)
  refine y_lv (lv' := [(0, .ref (ad 0 0)), (1, .int v1)]) rfl ?_
  rw [f_X6_rule]
  refine z_iload_n C 1 dX6_rule_0 rfl ?_
  refine z_ite (fun h1 => ?_) (fun h1 => ?_)
  · refine z_tableIn C 40 dX6_rule_1 (by rw [h1]; decide) (by rw [h1]; decide) (by rw [h1]; rfl) (by decide) ?_
    refine z_aload_n C 0 dX6_rule_40 rfl ?_
    refine z_get C fl_RX6_28 (sHas 0 (by decide) wB_0 (fun _ => has_Top_0)) rfl dX6_rule_41 ?_
    refine z_get C fl_RX6_106 (sHas 4 (by decide) wB_4 (fun _ => has_C_0)) rfl dX6_rule_44 ?_
    exact z_iret C dX6_rule_47 rfl rfl rfl
  refine z_ite (fun h2 => ?_) (fun h2 => ?_)
  · refine z_tableIn C 48 dX6_rule_1 (by rw [h2]; decide) (by rw [h2]; decide) (by rw [h2]; rfl) (by decide) ?_
    refine z_aload_n C 0 dX6_rule_48 rfl ?_
    refine z_get C fl_RX6_28 (sHas 0 (by decide) wB_0 (fun _ => has_Top_0)) rfl dX6_rule_49 ?_
    refine z_get C fl_RX6_109 (sHas 4 (by decide) wB_4 (fun _ => has_C_0)) rfl dX6_rule_52 ?_
    exact z_iret C dX6_rule_55 rfl rfl rfl
  refine z_ite (fun h3 => ?_) (fun h3 => ?_)
  · refine z_tableIn C 56 dX6_rule_1 (by rw [h3]; decide) (by rw [h3]; decide) (by rw [h3]; rfl) (by decide) ?_
    refine z_aload_n C 0 dX6_rule_56 rfl ?_
    refine z_get C fl_RX6_28 (sHas 0 (by decide) wB_0 (fun _ => has_Top_0)) rfl dX6_rule_57 ?_
    refine z_get C fl_RX6_112 (sHas 4 (by decide) wB_4 (fun _ => has_C_0)) rfl dX6_rule_60 ?_
    exact z_iret C dX6_rule_63 rfl rfl rfl
  refine z_ite (fun h4 => ?_) (fun h4 => ?_)
  · refine z_tableIn C 64 dX6_rule_1 (by rw [h4]; decide) (by rw [h4]; decide) (by rw [h4]; rfl) (by decide) ?_
    refine z_aload_n C 0 dX6_rule_64 rfl ?_
    refine z_get C fl_RX6_28 (sHas 0 (by decide) wB_0 (fun _ => has_Top_0)) rfl dX6_rule_65 ?_
    refine y_callI C (z_invV C [] [] (ct_X0_sitting l G (ad 4) (wR ad G.2 S 4 ++ X) (S 4) ) mi_X0_sitting md_X0_sitting ms_X0_sitting ml_RX6_115 has_C_0 ⟨_, rfl, rfl⟩ (by decide) rfl rfl dX6_rule_68 (Nat.le_of_ble_eq_true rfl)) (sOut 4 (by decide) wB_4) (fun r5 => ?_)
    exact z_iret C dX6_rule_71 rfl rfl rfl
  refine z_ite (fun h6 => ?_) (fun h6 => ?_)
  · refine z_tableIn C 72 dX6_rule_1 (by rw [h6]; decide) (by rw [h6]; decide) (by rw [h6]; rfl) (by decide) ?_
    refine z_aload_n C 0 dX6_rule_72 rfl ?_
    refine z_get C fl_RX6_28 (sHas 0 (by decide) wB_0 (fun _ => has_Top_0)) rfl dX6_rule_73 ?_
    refine y_callI C (z_invV C [] [] (ct_X0_countedOfAll l G (ad 4) (wR ad G.2 S 4 ++ X) (S 4) ) mi_X0_countedOfAll md_X0_countedOfAll ms_X0_countedOfAll ml_RX6_119 has_C_0 ⟨_, rfl, rfl⟩ (by decide) rfl rfl dX6_rule_76 (Nat.le_of_ble_eq_true rfl)) (sOut 4 (by decide) wB_4) (fun r7 => ?_)
    exact z_iret C dX6_rule_79 rfl rfl rfl
  refine z_ite (fun h8 => ?_) (fun h8 => ?_)
  · refine z_tableIn C 80 dX6_rule_1 (by rw [h8]; decide) (by rw [h8]; decide) (by rw [h8]; rfl) (by decide) ?_
    refine z_aload_n C 0 dX6_rule_80 rfl ?_
    refine z_get C fl_RX6_28 (sHas 0 (by decide) wB_0 (fun _ => has_Top_0)) rfl dX6_rule_81 ?_
    refine y_callI C (z_invV C [] [] (ct_X0_mostCounted l G (ad 4) (wR ad G.2 S 4 ++ X) (S 4) ) mi_X0_mostCounted md_X0_mostCounted ms_X0_mostCounted ml_RX6_122 has_C_0 ⟨_, rfl, rfl⟩ (by decide) rfl rfl dX6_rule_84 (Nat.le_of_ble_eq_true rfl)) (sOut 4 (by decide) wB_4) (fun r9 => ?_)
    exact z_iret C dX6_rule_87 rfl rfl rfl
  have g10 := z_ni h1
  have g11 := z_ni h2
  have g12 := z_ni h3
  have g13 := z_ni h4
  have g14 := z_ni h6
  have g15 := z_ni h8
  refine z_tableOut C 88 dX6_rule_1 (by simp only [show Int32.toInt 0 = 0 from by decide, show Int32.toInt 1 = 1 from by decide, show Int32.toInt 2 = 2 from by decide, show Int32.toInt 3 = 3 from by decide, show Int32.toInt 4 = 4 from by decide, show Int32.toInt 5 = 5 from by decide] at g10 g11 g12 g13 g14 g15; omega) (by decide) ?_
  refine z_iconst (v := (-1)) C dX6_rule_88 (by decide) ?_
  exact z_iret C dX6_rule_89 rfl rfl rfl
noncomputable def f_X6_drift_51 : Nat → (Nat → zM) → Int32 → Int32 → Int32 → Int32 → Option (Int32 × (Nat → zM))
  | 0, _, _, _, _, _ => none
  | n + 1, S, v2, v3, v4, v5 => if v2 ≤ v5 then if v3 = 0 then some (((S 5) 0 4), S) else (f_X0_countedOfAll (S 5)).bind fun r5 => some (r5, S) else (f_X0_passDay (S 5) (((z_ushr ((v4 * 1103515245) + 12345) 16) &&& 32767) - ((z_ushr ((v4 * 1103515245) + 12345) 16) &&& 32767) / 10 * 10)).bind fun r6 => zlet (va_up S 5 r6) fun S7 => f_X6_drift_51 n S7 v2 v3 ((v4 * 1103515245) + 12345) (v5 + 1)
set_option maxHeartbeats 4000000 in
set_option maxRecDepth 100000 in
theorem w_X6_drift_51 {p : Program} {l : Launch} {e : Env} {s : State} {m : MethodId} {args : Array Value} {below : List Frame} {meth : Method} {c : Code} {G : zG} {A : Nat → Prop} (C : zC p s m args meth c RX6 cX6_drift 6 (some .int) G A) (ad : Nat → Nat → Nat) (X : va_W) : ∀ (n : Nat) (S : (Nat → zM)) (v2 : Int32) (v3 : Int32) (v4 : Int32) (v5 : Int32), PW p l e 5 s m args below meth c G A 6 (fun S : Nat → zM => wS ad G.2 S ++ X) (fun r : Int32 × (Nat → zM) => some (.int r.1)) (fun r => r.2) S [(0, .ref (ad 0 0)), (2, .int v2), (3, .int v3), (4, .int v4), (5, .int v5)] 51 [] (f_X6_drift_51 n S v2 v3 v4 v5) := by
  intro n
  induction n with
  | zero => intros; exact z_none
  | succ n ih =>
    intro S v2 v3 v4 v5
    rw [f_X6_drift_51]
    refine z_iload C 4 dX6_drift_51 rfl ?_
    refine z_iload_n C 1 dX6_drift_53 rfl ?_
    refine z_icmpge C 93 dX6_drift_54 (by decide) ?_ ?_
    · refine z_iload_n C 2 dX6_drift_93 rfl ?_
      refine z_ifne C 107 dX6_drift_94 (by decide) ?_ ?_
      · refine z_aload_n C 0 dX6_drift_97 rfl ?_
        refine z_get C fl_RX6_39 (sHas 0 (by decide) wB_0 (fun _ => has_Top_0)) rfl dX6_drift_98 ?_
        refine z_get C fl_RX6_182 (sHas 5 (by decide) wB_5 (fun _ => has_C_0)) rfl dX6_drift_101 ?_
        refine z_goto C 114 dX6_drift_104 (by decide) ?_
        exact z_iret C dX6_drift_114 rfl rfl rfl
      refine z_aload_n C 0 dX6_drift_107 rfl ?_
      refine z_get C fl_RX6_39 (sHas 0 (by decide) wB_0 (fun _ => has_Top_0)) rfl dX6_drift_108 ?_
      refine y_callI C (z_invV C [] [] (ct_X0_countedOfAll l G (ad 5) (wR ad G.2 S 5 ++ X) (S 5) ) mi_X0_countedOfAll md_X0_countedOfAll ms_X0_countedOfAll ml_RX6_119 has_C_0 ⟨_, rfl, rfl⟩ (by decide) rfl rfl dX6_drift_111 (Nat.le_of_ble_eq_true rfl)) (sOut 5 (by decide) wB_5) (fun r5 => ?_)
      exact z_iret C dX6_drift_114 rfl rfl rfl
    refine z_iload C 3 dX6_drift_57 rfl ?_
    refine z_ldc C kc_RX6_234 dX6_drift_59 ?_
    refine z_imul C dX6_drift_61 ?_
    refine z_sipush (v := 12345) C dX6_drift_62 (by decide) ?_
    refine z_iadd C dX6_drift_65 ?_
    refine z_istore C [(4, .int ((v4 * 1103515245) + 12345)), (0, .ref (ad 0 0)), (2, .int v2), (3, .int v3), (5, .int v5)] dX6_drift_66 (by decide) rfl ?_
    refine z_aload_n C 1 dX6_drift_68 rfl ?_
    refine z_get C fl_RX6_39 (sHas 0 (by decide) wB_0 (fun _ => has_Top_0)) rfl dX6_drift_69 ?_
    refine z_iload C 0 dX6_drift_72 rfl ?_
    refine z_bipush (v := 16) C dX6_drift_74 (by decide) ?_
    refine z_iushr C dX6_drift_76 ?_
    refine z_sipush (v := 32767) C dX6_drift_77 (by decide) ?_
    refine z_iand C dX6_drift_80 ?_
    refine z_bipush (v := 10) C dX6_drift_81 (by decide) ?_
    refine z_iremK C (by decide) dX6_drift_83 ?_
    refine y_callVS C (z_invV C [.int (((z_ushr ((v4 * 1103515245) + 12345) 16) &&& 32767) - ((z_ushr ((v4 * 1103515245) + 12345) 16) &&& 32767) / 10 * 10)] [] (ct_X0_passDay l G (ad 5) (wR ad G.2 S 5 ++ X) (S 5) (((z_ushr ((v4 * 1103515245) + 12345) 16) &&& 32767) - ((z_ushr ((v4 * 1103515245) + 12345) 16) &&& 32767) / 10 * 10)) mi_X0_passDay md_X0_passDay ms_X0_passDay ml_RX6_231 has_C_0 ⟨_, rfl, rfl⟩ (by decide) rfl rfl dX6_drift_84 (Nat.le_of_ble_eq_true rfl)) (sOut 5 (by decide) wB_5) (fun _ => sIn 5 (by decide) wB_5 _) (fun r6 S7 => ?_)
    refine z_iinc C (v := (v5 + 1)) 4 [(5, .int (v5 + 1)), (4, .int ((v4 * 1103515245) + 12345)), (0, .ref (ad 0 0)), (2, .int v2), (3, .int v3)] dX6_drift_87 rfl rfl (by decide) rfl ?_
    refine z_goto C 51 dX6_drift_90 (by decide) ?_
    refine z_loc C [(0, .ref (ad 0 0)), (2, .int v2), (3, .int v3), (4, .int ((v4 * 1103515245) + 12345)), (5, .int (v5 + 1))] [2, 3, 4, 1, 0] rfl ?_
    exact ih S7 v2 v3 ((v4 * 1103515245) + 12345) (v5 + 1)
noncomputable def f_X6_drift (S : (Nat → zM)) (v1 : Int32) (v2 : Int32) (v3 : Int32) : Option (Int32 × (Nat → zM)) := (f_X6_isWithin v2 1 60).bind fun r1 => if r1 = true then (f_X6_isWithin v3 0 1).bind fun r2 => if r2 = true then if ((S 4) 0 1) = 0 then some ((-2), S) else (f_X0_copyFrom (S 4) (S 5)).bind fun r3 => zlet (va_up S 5 r3) fun S4 => f_X6_drift_51 FU S4 v2 v3 v1 0 else some ((-1), S) else some ((-1), S)
set_option maxHeartbeats 4000000 in
set_option maxRecDepth 100000 in
theorem ct_X6_drift (l : Launch) (G : zG) (ad : Nat → Nat → Nat) (X : va_W) (S : (Nat → zM)) (v1 : Int32) (v2 : Int32) (v3 : Int32) : zCt l yX6_drift cX6_drift 6 (some .int) 5 G [.ref (ad 0 0), .int v1, .int v2, .int v3] (fun S : Nat → zM => wS ad G.2 S ++ X) (fun r : Int32 × (Nat → zM) => some (.int r.1)) (fun r => r.2) S (f_X6_drift S v1 v2 v3) := by
  refine zCt.of (by decide) (Nat.le_of_ble_eq_true rfl) (fun p e s m args below meth c A C => ?_)
  refine y_lv (lv' := [(0, .ref (ad 0 0)), (1, .int v1), (2, .int v2), (3, .int v3)]) rfl ?_
  rw [f_X6_drift]
  refine z_iload_n C 2 dX6_drift_0 rfl ?_
  refine z_iconst (v := 1) C dX6_drift_1 (by decide) ?_
  refine z_bipush (v := 60) C dX6_drift_2 (by decide) ?_
  refine y_callZ C (z_invS C [.int v2, .int 1, .int 60] [] (ct_X6_isWithin l G ((fun S : Nat → zM => wS ad G.2 S ++ X) S) v2 1 60) mi_X6_isWithin mt_X6_isWithin ml_RX6_68 (by decide) rfl rfl dX6_drift_4 (Nat.le_of_ble_eq_true rfl)) (List.Perm.refl _) (fun r1 => ?_)
  refine z_zifeq C 19 dX6_drift_7 (by decide) ?_ ?_
  · refine z_iload_n C 3 dX6_drift_10 rfl ?_
    refine z_iconst (v := 0) C dX6_drift_11 (by decide) ?_
    refine z_iconst (v := 1) C dX6_drift_12 (by decide) ?_
    refine y_callZ C (z_invS C [.int v3, .int 0, .int 1] [] (ct_X6_isWithin l G ((fun S : Nat → zM => wS ad G.2 S ++ X) S) v3 0 1) mi_X6_isWithin mt_X6_isWithin ml_RX6_68 (by decide) rfl rfl dX6_drift_13 (Nat.le_of_ble_eq_true rfl)) (List.Perm.refl _) (fun r2 => ?_)
    refine z_zifne C 21 dX6_drift_16 (by decide) ?_ ?_
    · refine z_aload_n C 0 dX6_drift_21 rfl ?_
      refine z_get C fl_RX6_28 (sHas 0 (by decide) wB_0 (fun _ => has_Top_0)) rfl dX6_drift_22 ?_
      refine z_get C fl_RX6_109 (sHas 4 (by decide) wB_4 (fun _ => has_C_0)) rfl dX6_drift_25 ?_
      refine z_ifne C 34 dX6_drift_28 (by decide) ?_ ?_
      · refine z_bipush (v := (-2)) C dX6_drift_31 (by decide) ?_
        exact z_iret C dX6_drift_33 rfl rfl rfl
      refine z_aload_n C 0 dX6_drift_34 rfl ?_
      refine z_get C fl_RX6_39 (sHas 0 (by decide) wB_0 (fun _ => has_Top_0)) rfl dX6_drift_35 ?_
      refine z_aload_n C 0 dX6_drift_38 rfl ?_
      refine z_get C fl_RX6_28 (sHas 0 (by decide) wB_0 (fun _ => has_Top_0)) rfl dX6_drift_39 ?_
      refine y_callVS C (z_invV C [.ref (ad 4 0)] [] (ct_X0_copyFrom l G (ad 5) (ad 4) (wR2 ad G.2 S 5 4 ++ X) (S 4) (S 5) ) mi_X0_copyFrom md_X0_copyFrom ms_X0_copyFrom ml_RX6_89 has_C_0 ⟨_, rfl, rfl⟩ (by decide) rfl rfl dX6_drift_42 (Nat.le_of_ble_eq_true rfl)) (sOut2 5 4 (by decide) (by decide) (by decide) wB_5 wB_4) (fun _ => sIn2 5 4 (by decide) (by decide) (by decide) wB_5 wB_4 _) (fun r3 S4 => ?_)
      refine z_iload_n C 1 dX6_drift_45 rfl ?_
      refine z_istore C [(4, .int v1), (0, .ref (ad 0 0)), (1, .int v1), (2, .int v2), (3, .int v3)] dX6_drift_46 (by decide) rfl ?_
      refine z_iconst (v := 0) C dX6_drift_48 (by decide) ?_
      refine z_istore C [(5, .int 0), (4, .int v1), (0, .ref (ad 0 0)), (1, .int v1), (2, .int v2), (3, .int v3)] dX6_drift_49 (by decide) rfl ?_
      refine z_loc C [(0, .ref (ad 0 0)), (2, .int v2), (3, .int v3), (4, .int v1), (5, .int 0)] [2, 4, 5, 1, 0] rfl ?_
      exact w_X6_drift_51 C ad X    FU S4 v2 v3 v1 0
    refine z_iconst (v := (-1)) C dX6_drift_19 (by decide) ?_
    exact z_iret C dX6_drift_20 rfl rfl rfl
  refine z_iconst (v := (-1)) C dX6_drift_19 (by decide) ?_
  exact z_iret C dX6_drift_20 rfl rfl rfl
noncomputable def f_X6_read_123 (S : (Nat → zM)) (v5 : Int32) (v6 : Int32) : Option (Int32 × (Nat → zM)) := (f_X0_copyFrom (S 5) (S 4)).bind fun r6 => zlet (va_up S 4 r6) fun S7 => zlet (va_up S7 0 (zU (S7 0) 0 9 v6)) fun S8 => some (v5, S8)
set_option maxHeartbeats 4000000 in
set_option maxRecDepth 100000 in
theorem w_X6_read_123 {p : Program} {l : Launch} {e : Env} {s : State} {m : MethodId} {args : Array Value} {below : List Frame} {meth : Method} {c : Code} {G : zG} {A : Nat → Prop} (C : zC p s m args meth c RX6 cX6_read 8 (some .int) G A) (ad : Nat → Nat → Nat) (X : va_W) : ∀ (S : (Nat → zM)) (v5 : Int32) (v6 : Int32), PW p l e 5 s m args below meth c G A 8 (fun S : Nat → zM => wS ad G.2 S ++ X) (fun r : Int32 × (Nat → zM) => some (.int r.1)) (fun r => r.2) S [(0, .ref (ad 0 0)), (5, .int v5), (6, .int v6)] 123 [] (f_X6_read_123 S v5 v6) := by
  intro S v5 v6
  rw [f_X6_read_123]
  refine z_aload_n C 0 dX6_read_123 rfl ?_
  refine z_get C fl_RX6_28 (sHas 0 (by decide) wB_0 (fun _ => has_Top_0)) rfl dX6_read_124 ?_
  refine z_aload_n C 0 dX6_read_127 rfl ?_
  refine z_get C fl_RX6_39 (sHas 0 (by decide) wB_0 (fun _ => has_Top_0)) rfl dX6_read_128 ?_
  refine y_callVS C (z_invV C [.ref (ad 5 0)] [] (ct_X0_copyFrom l G (ad 4) (ad 5) (wR2 ad G.2 S 4 5 ++ X) (S 5) (S 4) ) mi_X0_copyFrom md_X0_copyFrom ms_X0_copyFrom ml_RX6_89 has_C_0 ⟨_, rfl, rfl⟩ (by decide) rfl rfl dX6_read_131 (Nat.le_of_ble_eq_true rfl)) (sOut2 4 5 (by decide) (by decide) (by decide) wB_4 wB_5) (fun _ => sIn2 4 5 (by decide) (by decide) (by decide) wB_4 wB_5 _) (fun r6 S7 => ?_)
  refine z_aload_n C 0 dX6_read_134 rfl ?_
  refine z_iload C 2 dX6_read_135 rfl ?_
  refine z_put C fl_RX6_62 ft_6_9 (sUpd 0 (by decide) wB_0 (fun _ => upd_Top_0_9)) rfl rfl (Nat.le_of_ble_eq_true rfl) dX6_read_137 (fun S8 => ?_)
  refine z_iload C 1 dX6_read_140 rfl ?_
  exact z_iret C dX6_read_142 rfl rfl rfl
noncomputable def f_X6_read_53 : Nat → (Nat → zM) → Int32 → Int32 → Int32 → Int32 → Int32 → Int32 → Int32 → Option (Int32 × (Nat → zM))
  | 0, _, _, _, _, _, _, _, _ => none
  | n + 1, S, v1, v2, v3, v4, v5, v6, v7 => if v4 ≤ v7 then f_X6_read_123  S v5 v6 else if v6 = 0 then if z_in v1 4 = true then (f_X3_faultAt (S (13 + (Int32.toNatClampNeg v1))) v2 (v3 + (3 * v7)) 3).bind fun r10 => if r10 = 0 then if z_in v1 4 = true then (f_X6_dabFromSheet (Int32.toNatClampNeg v1) S (v3 + (3 * v7))).bind fun r12 => zlet r12.2 fun S13 => if r12.1 = true then f_X6_read_53 n S13 v1 v2 v3 v4 (v5 + 1) r10 (v7 + 1) else some (((-20) - v7), S13) else none else f_X6_read_53 n S v1 v2 v3 v4 v5 r10 (v7 + 1) else none else f_X6_read_123  S v5 v6
set_option maxHeartbeats 4000000 in
set_option maxRecDepth 100000 in
theorem w_X6_read_53 {p : Program} {l : Launch} {e : Env} {s : State} {m : MethodId} {args : Array Value} {below : List Frame} {meth : Method} {c : Code} {G : zG} {A : Nat → Prop} (C : zC p s m args meth c RX6 cX6_read 8 (some .int) G A) (ad : Nat → Nat → Nat) (X : va_W) : ∀ (n : Nat) (S : (Nat → zM)) (v1 : Int32) (v2 : Int32) (v3 : Int32) (v4 : Int32) (v5 : Int32) (v6 : Int32) (v7 : Int32), PW p l e 5 s m args below meth c G A 8 (fun S : Nat → zM => wS ad G.2 S ++ X) (fun r : Int32 × (Nat → zM) => some (.int r.1)) (fun r => r.2) S [(0, .ref (ad 0 0)), (1, .int v1), (2, .int v2), (3, .int v3), (4, .int v4), (5, .int v5), (6, .int v6), (7, .int v7)] 53 [] (f_X6_read_53 n S v1 v2 v3 v4 v5 v6 v7) := by
  intro n
  induction n with
  | zero => intros; exact z_none
  | succ n ih =>
    intro S v1 v2 v3 v4 v5 v6 v7
    rw [f_X6_read_53]
    refine z_iload C 7 dX6_read_53 rfl ?_
    refine z_iload C 4 dX6_read_55 rfl ?_
    refine z_icmpge C 123 dX6_read_57 (by decide) ?_ ?_
    · refine z_loc C [(0, .ref (ad 0 0)), (5, .int v5), (6, .int v6)] [0, 5, 6] rfl ?_
      exact w_X6_read_123 C ad X     S v5 v6
    refine z_iload C 6 dX6_read_60 rfl ?_
    refine z_ifne C 123 dX6_read_62 (by decide) ?_ ?_
    · refine z_aload_n C 0 dX6_read_65 rfl ?_
      refine z_get C fl_RX6_58 (sHas 0 (by decide) wB_0 (fun _ => has_Top_0)) rfl dX6_read_66 ?_
      refine z_iload_n C 1 dX6_read_69 rfl ?_
      refine y_aald (t0 := 5) (g := fun k => ad (13 + k) 0) C (sHas 0 (by decide) wB_0 (fun _ => has_Top_4)) rfl (fun _ _ => rfl) dX6_read_70 (fun hv9 hq9 => ?_)
      refine z_iload_n C 2 dX6_read_71 rfl ?_
      refine z_iload_n C 3 dX6_read_72 rfl ?_
      refine z_iconst (v := 3) C dX6_read_73 (by decide) ?_
      refine z_iload C 7 dX6_read_74 rfl ?_
      refine z_imul C dX6_read_76 ?_
      refine z_iadd C dX6_read_77 ?_
      refine z_iconst (v := 3) C dX6_read_78 (by decide) ?_
      refine y_callI C (z_invV C [.int v2, .int (v3 + (3 * v7)), .int 3] [] (ct_X3_faultAt l G (ad (13 + (Int32.toNatClampNeg v1))) (wR ad G.2 S (13 + (Int32.toNatClampNeg v1)) ++ X) (S (13 + (Int32.toNatClampNeg v1))) v2 (v3 + (3 * v7)) 3) mi_X3_faultAt md_X3_faultAt ms_X3_faultAt ml_RX6_253 has_Sh_0 ⟨_, rfl, rfl⟩ (by decide) rfl rfl dX6_read_79 (Nat.le_of_ble_eq_true rfl)) (sOut (13 + (Int32.toNatClampNeg v1)) (by have := hq9; omega) (wB_13 hq9)) (fun r10 => ?_)
      refine z_istore C [(6, .int r10), (0, .ref (ad 0 0)), (1, .int v1), (2, .int v2), (3, .int v3), (4, .int v4), (5, .int v5), (7, .int v7)] dX6_read_82 (by decide) rfl ?_
      refine z_iload C 0 dX6_read_84 rfl ?_
      refine z_ifne C 117 dX6_read_86 (by decide) ?_ ?_
      · refine z_aload_n C 1 dX6_read_89 rfl ?_
        refine z_aload_n C 1 dX6_read_90 rfl ?_
        refine z_get C fl_RX6_58 (sHas 0 (by decide) wB_0 (fun _ => has_Top_0)) rfl dX6_read_91 ?_
        refine z_iload_n C 2 dX6_read_94 rfl ?_
        refine y_aald (t0 := 5) (g := fun k => ad (13 + k) 0) C (sHas 0 (by decide) wB_0 (fun _ => has_Top_4)) rfl (fun _ _ => rfl) dX6_read_95 (fun hv11 hq11 => ?_)
        refine z_iload_n C 4 dX6_read_96 rfl ?_
        refine z_iconst (v := 3) C dX6_read_97 (by decide) ?_
        refine z_iload C 7 dX6_read_98 rfl ?_
        refine z_imul C dX6_read_100 ?_
        refine z_iadd C dX6_read_101 ?_
        refine y_callZS C (z_invV C [.ref (ad (13 + (Int32.toNatClampNeg v1)) 0), .int (v3 + (3 * v7))] [] (ct_X6_dabFromSheet l G ad X (Int32.toNatClampNeg v1) hq11 S (v3 + (3 * v7))) mi_X6_dabFromSheet md_X6_dabFromSheet ms_X6_dabFromSheet ml_RX6_255 (sHas 0 (by decide) wB_0 (fun _ => has_Top_0)) ⟨_, rfl, rfl⟩ (by decide) rfl rfl dX6_read_102 (Nat.le_of_ble_eq_true rfl)) (List.Perm.refl _) (fun _ => List.Perm.refl _) (fun r12 S13 => ?_)
        refine z_zifne C 114 dX6_read_105 (by decide) ?_ ?_
        · refine z_iinc C (v := (v5 + 1)) 6 [(5, .int (v5 + 1)), (6, .int r10), (0, .ref (ad 0 0)), (1, .int v1), (2, .int v2), (3, .int v3), (4, .int v4), (7, .int v7)] dX6_read_114 rfl rfl (by decide) rfl ?_
          refine z_iinc C (v := (v7 + 1)) 7 [(7, .int (v7 + 1)), (5, .int (v5 + 1)), (6, .int r10), (0, .ref (ad 0 0)), (1, .int v1), (2, .int v2), (3, .int v3), (4, .int v4)] dX6_read_117 rfl rfl (by decide) rfl ?_
          refine z_goto C 53 dX6_read_120 (by decide) ?_
          refine z_loc C [(0, .ref (ad 0 0)), (1, .int v1), (2, .int v2), (3, .int v3), (4, .int v4), (5, .int (v5 + 1)), (6, .int r10), (7, .int (v7 + 1))] [3, 4, 5, 6, 7, 1, 2, 0] rfl ?_
          exact ih S13 v1 v2 v3 v4 (v5 + 1) r10 (v7 + 1)
        refine z_bipush (v := (-20)) C dX6_read_108 (by decide) ?_
        refine z_iload C 7 dX6_read_110 rfl ?_
        refine z_isub C dX6_read_112 ?_
        exact z_iret C dX6_read_113 rfl rfl rfl
      refine z_iinc C (v := (v7 + 1)) 7 [(7, .int (v7 + 1)), (6, .int r10), (0, .ref (ad 0 0)), (1, .int v1), (2, .int v2), (3, .int v3), (4, .int v4), (5, .int v5)] dX6_read_117 rfl rfl (by decide) rfl ?_
      refine z_goto C 53 dX6_read_120 (by decide) ?_
      refine z_loc C [(0, .ref (ad 0 0)), (1, .int v1), (2, .int v2), (3, .int v3), (4, .int v4), (5, .int v5), (6, .int r10), (7, .int (v7 + 1))] [2, 3, 4, 5, 6, 7, 1, 0] rfl ?_
      exact ih S v1 v2 v3 v4 v5 r10 (v7 + 1)
    refine z_loc C [(0, .ref (ad 0 0)), (5, .int v5), (6, .int v6)] [0, 5, 6] rfl ?_
    exact w_X6_read_123 C ad X     S v5 v6
noncomputable def f_X6_read (S : (Nat → zM)) (v1 : Int32) (v2 : Int32) (v3 : Int32) (v4 : Int32) : Option (Int32 × (Nat → zM)) := (f_X6_isWithin v1 0 3).bind fun r1 => if r1 = true then (f_X6_isWithin v2 0 2).bind fun r2 => if r2 = true then (f_X6_isWithin v4 0 13).bind fun r3 => if r3 = true then (f_X0_copyFrom (S 4) (S 5)).bind fun r4 => zlet (va_up S 5 r4) fun S5 => f_X6_read_53 FU S5 v1 v2 v3 v4 0 0 0 else some ((-1), S) else some ((-1), S) else some ((-1), S)
set_option maxHeartbeats 4000000 in
set_option maxRecDepth 100000 in
theorem ct_X6_read (l : Launch) (G : zG) (ad : Nat → Nat → Nat) (X : va_W) (S : (Nat → zM)) (v1 : Int32) (v2 : Int32) (v3 : Int32) (v4 : Int32) : zCt l yX6_read cX6_read 8 (some .int) 5 G [.ref (ad 0 0), .int v1, .int v2, .int v3, .int v4] (fun S : Nat → zM => wS ad G.2 S ++ X) (fun r : Int32 × (Nat → zM) => some (.int r.1)) (fun r => r.2) S (f_X6_read S v1 v2 v3 v4) := by
  refine zCt.of (by decide) (Nat.le_of_ble_eq_true rfl) (fun p e s m args below meth c A C => ?_)
  refine y_lv (lv' := [(0, .ref (ad 0 0)), (1, .int v1), (2, .int v2), (3, .int v3), (4, .int v4)]) rfl ?_
  rw [f_X6_read]
  refine z_iload_n C 1 dX6_read_0 rfl ?_
  refine z_iconst (v := 0) C dX6_read_1 (by decide) ?_
  refine z_iconst (v := 3) C dX6_read_2 (by decide) ?_
  refine y_callZ C (z_invS C [.int v1, .int 0, .int 3] [] (ct_X6_isWithin l G ((fun S : Nat → zM => wS ad G.2 S ++ X) S) v1 0 3) mi_X6_isWithin mt_X6_isWithin ml_RX6_68 (by decide) rfl rfl dX6_read_3 (Nat.le_of_ble_eq_true rfl)) (List.Perm.refl _) (fun r1 => ?_)
  refine z_zifeq C 18 dX6_read_6 (by decide) ?_ ?_
  · refine z_iload_n C 2 dX6_read_9 rfl ?_
    refine z_iconst (v := 0) C dX6_read_10 (by decide) ?_
    refine z_iconst (v := 2) C dX6_read_11 (by decide) ?_
    refine y_callZ C (z_invS C [.int v2, .int 0, .int 2] [] (ct_X6_isWithin l G ((fun S : Nat → zM => wS ad G.2 S ++ X) S) v2 0 2) mi_X6_isWithin mt_X6_isWithin ml_RX6_68 (by decide) rfl rfl dX6_read_12 (Nat.le_of_ble_eq_true rfl)) (List.Perm.refl _) (fun r2 => ?_)
    refine z_zifne C 20 dX6_read_15 (by decide) ?_ ?_
    · refine z_iload C 4 dX6_read_20 rfl ?_
      refine z_iconst (v := 0) C dX6_read_22 (by decide) ?_
      refine z_bipush (v := 13) C dX6_read_23 (by decide) ?_
      refine y_callZ C (z_invS C [.int v4, .int 0, .int 13] [] (ct_X6_isWithin l G ((fun S : Nat → zM => wS ad G.2 S ++ X) S) v4 0 13) mi_X6_isWithin mt_X6_isWithin ml_RX6_68 (by decide) rfl rfl dX6_read_25 (Nat.le_of_ble_eq_true rfl)) (List.Perm.refl _) (fun r3 => ?_)
      refine z_zifne C 33 dX6_read_28 (by decide) ?_ ?_
      · refine z_aload_n C 0 dX6_read_33 rfl ?_
        refine z_get C fl_RX6_39 (sHas 0 (by decide) wB_0 (fun _ => has_Top_0)) rfl dX6_read_34 ?_
        refine z_aload_n C 0 dX6_read_37 rfl ?_
        refine z_get C fl_RX6_28 (sHas 0 (by decide) wB_0 (fun _ => has_Top_0)) rfl dX6_read_38 ?_
        refine y_callVS C (z_invV C [.ref (ad 4 0)] [] (ct_X0_copyFrom l G (ad 5) (ad 4) (wR2 ad G.2 S 5 4 ++ X) (S 4) (S 5) ) mi_X0_copyFrom md_X0_copyFrom ms_X0_copyFrom ml_RX6_89 has_C_0 ⟨_, rfl, rfl⟩ (by decide) rfl rfl dX6_read_41 (Nat.le_of_ble_eq_true rfl)) (sOut2 5 4 (by decide) (by decide) (by decide) wB_5 wB_4) (fun _ => sIn2 5 4 (by decide) (by decide) (by decide) wB_5 wB_4 _) (fun r4 S5 => ?_)
        refine z_iconst (v := 0) C dX6_read_44 (by decide) ?_
        refine z_istore C [(5, .int 0), (0, .ref (ad 0 0)), (1, .int v1), (2, .int v2), (3, .int v3), (4, .int v4)] dX6_read_45 (by decide) rfl ?_
        refine z_iconst (v := 0) C dX6_read_47 (by decide) ?_
        refine z_istore C [(6, .int 0), (5, .int 0), (0, .ref (ad 0 0)), (1, .int v1), (2, .int v2), (3, .int v3), (4, .int v4)] dX6_read_48 (by decide) rfl ?_
        refine z_iconst (v := 0) C dX6_read_50 (by decide) ?_
        refine z_istore C [(7, .int 0), (6, .int 0), (5, .int 0), (0, .ref (ad 0 0)), (1, .int v1), (2, .int v2), (3, .int v3), (4, .int v4)] dX6_read_51 (by decide) rfl ?_
        refine z_loc C [(0, .ref (ad 0 0)), (1, .int v1), (2, .int v2), (3, .int v3), (4, .int v4), (5, .int 0), (6, .int 0), (7, .int 0)] [3, 4, 5, 6, 7, 2, 1, 0] rfl ?_
        exact w_X6_read_53 C ad X    FU S5 v1 v2 v3 v4 0 0 0
      refine z_iconst (v := (-1)) C dX6_read_31 (by decide) ?_
      exact z_iret C dX6_read_32 rfl rfl rfl
    refine z_iconst (v := (-1)) C dX6_read_18 (by decide) ?_
    exact z_iret C dX6_read_19 rfl rfl rfl
  refine z_iconst (v := (-1)) C dX6_read_18 (by decide) ?_
  exact z_iret C dX6_read_19 rfl rfl rfl
noncomputable def f_X6_ahead (S : (Nat → zM)) (v1 : Int32) (v2 : Int32) : Option (Int32 × (Nat → zM)) := (f_X0_hasOne (S 4) v1).bind fun r1 => if r1 = true then (f_X6_isWithin v2 0 60).bind fun r2 => if r2 = true then (f_X0_copyFrom (S 4) (S 5)).bind fun r3 => zlet (va_up S 5 r3) fun S4 => (f_X0_passDays (S4 5) v2).bind fun r5 => zlet (va_up S4 5 r5) fun S6 => (f_X0_counted (S6 5) v1).bind fun r7 => some (r7, S6) else some ((-1), S) else some ((-1), S)
set_option maxHeartbeats 4000000 in
set_option maxRecDepth 100000 in
theorem ct_X6_ahead (l : Launch) (G : zG) (ad : Nat → Nat → Nat) (X : va_W) (S : (Nat → zM)) (v1 : Int32) (v2 : Int32) : zCt l yX6_ahead cX6_ahead 3 (some .int) 6 G [.ref (ad 0 0), .int v1, .int v2] (fun S : Nat → zM => wS ad G.2 S ++ X) (fun r : Int32 × (Nat → zM) => some (.int r.1)) (fun r => r.2) S (f_X6_ahead S v1 v2) := by
  refine zCt.of (by decide) (Nat.le_of_ble_eq_true rfl) (fun p e s m args below meth c A C => ?_)
  refine y_lv (lv' := [(0, .ref (ad 0 0)), (1, .int v1), (2, .int v2)]) rfl ?_
  rw [f_X6_ahead]
  refine z_aload_n C 0 dX6_ahead_0 rfl ?_
  refine z_get C fl_RX6_28 (sHas 0 (by decide) wB_0 (fun _ => has_Top_0)) rfl dX6_ahead_1 ?_
  refine z_iload_n C 1 dX6_ahead_4 rfl ?_
  refine y_callZ C (z_invV C [.int v1] [] (ct_X0_hasOne l G (ad 4) (wR ad G.2 S 4 ++ X) (S 4) v1) mi_X0_hasOne md_X0_hasOne ms_X0_hasOne ml_RX6_125 has_C_0 ⟨_, rfl, rfl⟩ (by decide) rfl rfl dX6_ahead_5 (Nat.le_of_ble_eq_true rfl)) (sOut 4 (by decide) wB_4) (fun r1 => ?_)
  refine z_zifeq C 21 dX6_ahead_8 (by decide) ?_ ?_
  · refine z_iload_n C 2 dX6_ahead_11 rfl ?_
    refine z_iconst (v := 0) C dX6_ahead_12 (by decide) ?_
    refine z_bipush (v := 60) C dX6_ahead_13 (by decide) ?_
    refine y_callZ C (z_invS C [.int v2, .int 0, .int 60] [] (ct_X6_isWithin l G ((fun S : Nat → zM => wS ad G.2 S ++ X) S) v2 0 60) mi_X6_isWithin mt_X6_isWithin ml_RX6_68 (by decide) rfl rfl dX6_ahead_15 (Nat.le_of_ble_eq_true rfl)) (List.Perm.refl _) (fun r2 => ?_)
    refine z_zifne C 23 dX6_ahead_18 (by decide) ?_ ?_
    · refine z_aload_n C 0 dX6_ahead_23 rfl ?_
      refine z_get C fl_RX6_39 (sHas 0 (by decide) wB_0 (fun _ => has_Top_0)) rfl dX6_ahead_24 ?_
      refine z_aload_n C 0 dX6_ahead_27 rfl ?_
      refine z_get C fl_RX6_28 (sHas 0 (by decide) wB_0 (fun _ => has_Top_0)) rfl dX6_ahead_28 ?_
      refine y_callVS C (z_invV C [.ref (ad 4 0)] [] (ct_X0_copyFrom l G (ad 5) (ad 4) (wR2 ad G.2 S 5 4 ++ X) (S 4) (S 5) ) mi_X0_copyFrom md_X0_copyFrom ms_X0_copyFrom ml_RX6_89 has_C_0 ⟨_, rfl, rfl⟩ (by decide) rfl rfl dX6_ahead_31 (Nat.le_of_ble_eq_true rfl)) (sOut2 5 4 (by decide) (by decide) (by decide) wB_5 wB_4) (fun _ => sIn2 5 4 (by decide) (by decide) (by decide) wB_5 wB_4 _) (fun r3 S4 => ?_)
      refine z_aload_n C 0 dX6_ahead_34 rfl ?_
      refine z_get C fl_RX6_39 (sHas 0 (by decide) wB_0 (fun _ => has_Top_0)) rfl dX6_ahead_35 ?_
      refine z_iload_n C 2 dX6_ahead_38 rfl ?_
      refine y_callVS C (z_invV C [.int v2] [] (ct_X0_passDays l G (ad 5) (wR ad G.2 S4 5 ++ X) (S4 5) v2) mi_X0_passDays md_X0_passDays ms_X0_passDays ml_RX6_185 has_C_0 ⟨_, rfl, rfl⟩ (by decide) rfl rfl dX6_ahead_39 (Nat.le_of_ble_eq_true rfl)) (sOut 5 (by decide) wB_5) (fun _ => sIn 5 (by decide) wB_5 _) (fun r5 S6 => ?_)
      refine z_aload_n C 0 dX6_ahead_42 rfl ?_
      refine z_get C fl_RX6_39 (sHas 0 (by decide) wB_0 (fun _ => has_Top_0)) rfl dX6_ahead_43 ?_
      refine z_iload_n C 1 dX6_ahead_46 rfl ?_
      refine y_callI C (z_invV C [.int v1] [] (ct_X0_counted l G (ad 5) (wR ad G.2 S6 5 ++ X) (S6 5) v1) mi_X0_counted md_X0_counted ms_X0_counted ml_RX6_135 has_C_0 ⟨_, rfl, rfl⟩ (by decide) rfl rfl dX6_ahead_47 (Nat.le_of_ble_eq_true rfl)) (sOut 5 (by decide) wB_5) (fun r7 => ?_)
      exact z_iret C dX6_ahead_50 rfl rfl rfl
    refine z_iconst (v := (-1)) C dX6_ahead_21 (by decide) ?_
    exact z_iret C dX6_ahead_22 rfl rfl rfl
  refine z_iconst (v := (-1)) C dX6_ahead_21 (by decide) ?_
  exact z_iret C dX6_ahead_22 rfl rfl rfl
noncomputable def f_X6_calm_55 : Nat → (Nat → zM) → Int32 → Int32 → Int32 → Int32 → Int32 → Option (Int32 × (Nat → zM))
  | 0, _, _, _, _, _, _ => none
  | n + 1, S, v1, v2, v3, v4, v5 => if 6 ≤ v5 then if v2 = 0 then some (v3, S) else if v3 = (-4) then some (v3, S) else some (v4, S) else (f_X0_copyFrom (S 4) (S 5)).bind fun r8 => zlet (va_up S 5 r8) fun S9 => if z_in v5 6 = true then zlet (va_up S9 5 (zU (S9 5) 7 (Int32.toNatClampNeg v5) 0)) (fun S10 => (f_X0_passDays (S10 5) v1).bind fun r11 => zlet (va_up S10 5 r11) fun S12 => (f_X0_sitting (S12 5)).bind fun r13 => if r13 ≤ v4 then f_X6_calm_55 n S12 v1 v2 v3 v4 (v5 + 1) else f_X6_calm_55 n S12 v1 v2 v5 r13 (v5 + 1)) else none
set_option maxHeartbeats 4000000 in
set_option maxRecDepth 100000 in
theorem w_X6_calm_55 {p : Program} {l : Launch} {e : Env} {s : State} {m : MethodId} {args : Array Value} {below : List Frame} {meth : Method} {c : Code} {G : zG} {A : Nat → Prop} (C : zC p s m args meth c RX6 cX6_calm 7 (some .int) G A) (ad : Nat → Nat → Nat) (X : va_W) : ∀ (n : Nat) (S : (Nat → zM)) (v1 : Int32) (v2 : Int32) (v3 : Int32) (v4 : Int32) (v5 : Int32), PW p l e 6 s m args below meth c G A 7 (fun S : Nat → zM => wS ad G.2 S ++ X) (fun r : Int32 × (Nat → zM) => some (.int r.1)) (fun r => r.2) S [(0, .ref (ad 0 0)), (1, .int v1), (2, .int v2), (3, .int v3), (4, .int v4), (5, .int v5)] 55 [] (f_X6_calm_55 n S v1 v2 v3 v4 v5) := by
  intro n
  induction n with
  | zero => intros; exact z_none
  | succ n ih =>
    intro S v1 v2 v3 v4 v5
    rw [f_X6_calm_55]
    refine z_iload C 5 dX6_calm_55 rfl ?_
    refine z_bipush (v := 6) C dX6_calm_57 (by decide) ?_
    refine z_icmpge C 121 dX6_calm_59 (by decide) ?_ ?_
    · refine z_iload_n C 2 dX6_calm_121 rfl ?_
      refine z_ifeq C 131 dX6_calm_122 (by decide) ?_ ?_
      · refine z_iload_n C 3 dX6_calm_131 rfl ?_
        refine z_goto C 137 dX6_calm_132 (by decide) ?_
        exact z_iret C dX6_calm_137 rfl rfl rfl
      refine z_iload_n C 3 dX6_calm_125 rfl ?_
      refine z_bipush (v := (-4)) C dX6_calm_126 (by decide) ?_
      refine z_icmpne C 135 dX6_calm_128 (by decide) ?_ ?_
      · refine z_iload_n C 3 dX6_calm_131 rfl ?_
        refine z_goto C 137 dX6_calm_132 (by decide) ?_
        exact z_iret C dX6_calm_137 rfl rfl rfl
      refine z_iload C 4 dX6_calm_135 rfl ?_
      exact z_iret C dX6_calm_137 rfl rfl rfl
    refine z_aload_n C 0 dX6_calm_62 rfl ?_
    refine z_get C fl_RX6_39 (sHas 0 (by decide) wB_0 (fun _ => has_Top_0)) rfl dX6_calm_63 ?_
    refine z_aload_n C 0 dX6_calm_66 rfl ?_
    refine z_get C fl_RX6_28 (sHas 0 (by decide) wB_0 (fun _ => has_Top_0)) rfl dX6_calm_67 ?_
    refine y_callVS C (z_invV C [.ref (ad 4 0)] [] (ct_X0_copyFrom l G (ad 5) (ad 4) (wR2 ad G.2 S 5 4 ++ X) (S 4) (S 5) ) mi_X0_copyFrom md_X0_copyFrom ms_X0_copyFrom ml_RX6_89 has_C_0 ⟨_, rfl, rfl⟩ (by decide) rfl rfl dX6_calm_70 (Nat.le_of_ble_eq_true rfl)) (sOut2 5 4 (by decide) (by decide) (by decide) wB_5 wB_4) (fun _ => sIn2 5 4 (by decide) (by decide) (by decide) wB_5 wB_4 _) (fun r8 S9 => ?_)
    refine z_aload_n C 0 dX6_calm_73 rfl ?_
    refine z_get C fl_RX6_39 (sHas 0 (by decide) wB_0 (fun _ => has_Top_0)) rfl dX6_calm_74 ?_
    refine z_get C fl_RX6_165 (sHas 5 (by decide) wB_5 (fun _ => has_C_0)) rfl dX6_calm_77 ?_
    refine z_iload C 5 dX6_calm_80 rfl ?_
    refine z_iconst (v := 0) C dX6_calm_82 (by decide) ?_
    refine y_iast C (sUpd 5 (by decide) wB_5 (fun _ => upd_C_7)) dX6_calm_83 (fun S10 => ?_)
    refine z_aload_n C 0 dX6_calm_84 rfl ?_
    refine z_get C fl_RX6_39 (sHas 0 (by decide) wB_0 (fun _ => has_Top_0)) rfl dX6_calm_85 ?_
    refine z_iload_n C 1 dX6_calm_88 rfl ?_
    refine y_callVS C (z_invV C [.int v1] [] (ct_X0_passDays l G (ad 5) (wR ad G.2 S10 5 ++ X) (S10 5) v1) mi_X0_passDays md_X0_passDays ms_X0_passDays ml_RX6_185 has_C_0 ⟨_, rfl, rfl⟩ (by decide) rfl rfl dX6_calm_89 (Nat.le_of_ble_eq_true rfl)) (sOut 5 (by decide) wB_5) (fun _ => sIn 5 (by decide) wB_5 _) (fun r11 S12 => ?_)
    refine z_aload_n C 0 dX6_calm_92 rfl ?_
    refine z_get C fl_RX6_39 (sHas 0 (by decide) wB_0 (fun _ => has_Top_0)) rfl dX6_calm_93 ?_
    refine y_callI C (z_invV C [] [] (ct_X0_sitting l G (ad 5) (wR ad G.2 S12 5 ++ X) (S12 5) ) mi_X0_sitting md_X0_sitting ms_X0_sitting ml_RX6_115 has_C_0 ⟨_, rfl, rfl⟩ (by decide) rfl rfl dX6_calm_96 (Nat.le_of_ble_eq_true rfl)) (sOut 5 (by decide) wB_5) (fun r13 => ?_)
    refine z_istore C [(6, .int r13), (0, .ref (ad 0 0)), (1, .int v1), (2, .int v2), (3, .int v3), (4, .int v4), (5, .int v5)] dX6_calm_99 (by decide) rfl ?_
    refine z_iload C 0 dX6_calm_101 rfl ?_
    refine z_iload C 5 dX6_calm_103 rfl ?_
    refine z_icmple C 115 dX6_calm_105 (by decide) ?_ ?_
    · refine z_iinc C (v := (v5 + 1)) 6 [(5, .int (v5 + 1)), (6, .int r13), (0, .ref (ad 0 0)), (1, .int v1), (2, .int v2), (3, .int v3), (4, .int v4)] dX6_calm_115 rfl rfl (by decide) rfl ?_
      refine z_goto C 55 dX6_calm_118 (by decide) ?_
      refine z_loc C [(0, .ref (ad 0 0)), (1, .int v1), (2, .int v2), (3, .int v3), (4, .int v4), (5, .int (v5 + 1))] [2, 3, 4, 5, 6, 0] rfl ?_
      exact ih S12 v1 v2 v3 v4 (v5 + 1)
    refine z_iload C 6 dX6_calm_108 rfl ?_
    refine z_istore_n C [(3, .int v5), (6, .int r13), (0, .ref (ad 0 0)), (1, .int v1), (2, .int v2), (4, .int v4), (5, .int v5)] dX6_calm_110 (by decide) rfl ?_
    refine z_iload C 1 dX6_calm_111 rfl ?_
    refine z_istore C [(4, .int r13), (3, .int v5), (6, .int r13), (0, .ref (ad 0 0)), (1, .int v1), (2, .int v2), (5, .int v5)] dX6_calm_113 (by decide) rfl ?_
    refine z_iinc C (v := (v5 + 1)) 6 [(5, .int (v5 + 1)), (4, .int r13), (3, .int v5), (6, .int r13), (0, .ref (ad 0 0)), (1, .int v1), (2, .int v2)] dX6_calm_115 rfl rfl (by decide) rfl ?_
    refine z_goto C 55 dX6_calm_118 (by decide) ?_
    refine z_loc C [(0, .ref (ad 0 0)), (1, .int v1), (2, .int v2), (3, .int v5), (4, .int r13), (5, .int (v5 + 1))] [4, 5, 6, 2, 1, 0] rfl ?_
    exact ih S12 v1 v2 v5 r13 (v5 + 1)
noncomputable def f_X6_calm (S : (Nat → zM)) (v1 : Int32) (v2 : Int32) : Option (Int32 × (Nat → zM)) := (f_X6_isWithin v1 0 60).bind fun r1 => if r1 = true then (f_X6_isWithin v2 0 1).bind fun r2 => if r2 = true then (f_X0_copyFrom (S 4) (S 5)).bind fun r3 => zlet (va_up S 5 r3) fun S4 => (f_X0_passDays (S4 5) v1).bind fun r5 => zlet (va_up S4 5 r5) fun S6 => (f_X0_sitting (S6 5)).bind fun r7 => f_X6_calm_55 FU S6 v1 v2 (-4) r7 0 else some ((-1), S) else some ((-1), S)
set_option maxHeartbeats 4000000 in
set_option maxRecDepth 100000 in
theorem ct_X6_calm (l : Launch) (G : zG) (ad : Nat → Nat → Nat) (X : va_W) (S : (Nat → zM)) (v1 : Int32) (v2 : Int32) : zCt l yX6_calm cX6_calm 7 (some .int) 6 G [.ref (ad 0 0), .int v1, .int v2] (fun S : Nat → zM => wS ad G.2 S ++ X) (fun r : Int32 × (Nat → zM) => some (.int r.1)) (fun r => r.2) S (f_X6_calm S v1 v2) := by
  refine zCt.of (by decide) (Nat.le_of_ble_eq_true rfl) (fun p e s m args below meth c A C => ?_)
  refine y_lv (lv' := [(0, .ref (ad 0 0)), (1, .int v1), (2, .int v2)]) rfl ?_
  rw [f_X6_calm]
  refine z_iload_n C 1 dX6_calm_0 rfl ?_
  refine z_iconst (v := 0) C dX6_calm_1 (by decide) ?_
  refine z_bipush (v := 60) C dX6_calm_2 (by decide) ?_
  refine y_callZ C (z_invS C [.int v1, .int 0, .int 60] [] (ct_X6_isWithin l G ((fun S : Nat → zM => wS ad G.2 S ++ X) S) v1 0 60) mi_X6_isWithin mt_X6_isWithin ml_RX6_68 (by decide) rfl rfl dX6_calm_4 (Nat.le_of_ble_eq_true rfl)) (List.Perm.refl _) (fun r1 => ?_)
  refine z_zifeq C 19 dX6_calm_7 (by decide) ?_ ?_
  · refine z_iload_n C 2 dX6_calm_10 rfl ?_
    refine z_iconst (v := 0) C dX6_calm_11 (by decide) ?_
    refine z_iconst (v := 1) C dX6_calm_12 (by decide) ?_
    refine y_callZ C (z_invS C [.int v2, .int 0, .int 1] [] (ct_X6_isWithin l G ((fun S : Nat → zM => wS ad G.2 S ++ X) S) v2 0 1) mi_X6_isWithin mt_X6_isWithin ml_RX6_68 (by decide) rfl rfl dX6_calm_13 (Nat.le_of_ble_eq_true rfl)) (List.Perm.refl _) (fun r2 => ?_)
    refine z_zifne C 21 dX6_calm_16 (by decide) ?_ ?_
    · refine z_aload_n C 0 dX6_calm_21 rfl ?_
      refine z_get C fl_RX6_39 (sHas 0 (by decide) wB_0 (fun _ => has_Top_0)) rfl dX6_calm_22 ?_
      refine z_aload_n C 0 dX6_calm_25 rfl ?_
      refine z_get C fl_RX6_28 (sHas 0 (by decide) wB_0 (fun _ => has_Top_0)) rfl dX6_calm_26 ?_
      refine y_callVS C (z_invV C [.ref (ad 4 0)] [] (ct_X0_copyFrom l G (ad 5) (ad 4) (wR2 ad G.2 S 5 4 ++ X) (S 4) (S 5) ) mi_X0_copyFrom md_X0_copyFrom ms_X0_copyFrom ml_RX6_89 has_C_0 ⟨_, rfl, rfl⟩ (by decide) rfl rfl dX6_calm_29 (Nat.le_of_ble_eq_true rfl)) (sOut2 5 4 (by decide) (by decide) (by decide) wB_5 wB_4) (fun _ => sIn2 5 4 (by decide) (by decide) (by decide) wB_5 wB_4 _) (fun r3 S4 => ?_)
      refine z_aload_n C 0 dX6_calm_32 rfl ?_
      refine z_get C fl_RX6_39 (sHas 0 (by decide) wB_0 (fun _ => has_Top_0)) rfl dX6_calm_33 ?_
      refine z_iload_n C 1 dX6_calm_36 rfl ?_
      refine y_callVS C (z_invV C [.int v1] [] (ct_X0_passDays l G (ad 5) (wR ad G.2 S4 5 ++ X) (S4 5) v1) mi_X0_passDays md_X0_passDays ms_X0_passDays ml_RX6_185 has_C_0 ⟨_, rfl, rfl⟩ (by decide) rfl rfl dX6_calm_37 (Nat.le_of_ble_eq_true rfl)) (sOut 5 (by decide) wB_5) (fun _ => sIn 5 (by decide) wB_5 _) (fun r5 S6 => ?_)
      refine z_bipush (v := (-4)) C dX6_calm_40 (by decide) ?_
      refine z_istore_n C [(3, .int (-4)), (0, .ref (ad 0 0)), (1, .int v1), (2, .int v2)] dX6_calm_42 (by decide) rfl ?_
      refine z_aload_n C 1 dX6_calm_43 rfl ?_
      refine z_get C fl_RX6_39 (sHas 0 (by decide) wB_0 (fun _ => has_Top_0)) rfl dX6_calm_44 ?_
      refine y_callI C (z_invV C [] [] (ct_X0_sitting l G (ad 5) (wR ad G.2 S6 5 ++ X) (S6 5) ) mi_X0_sitting md_X0_sitting ms_X0_sitting ml_RX6_115 has_C_0 ⟨_, rfl, rfl⟩ (by decide) rfl rfl dX6_calm_47 (Nat.le_of_ble_eq_true rfl)) (sOut 5 (by decide) wB_5) (fun r7 => ?_)
      refine z_istore C [(4, .int r7), (3, .int (-4)), (0, .ref (ad 0 0)), (1, .int v1), (2, .int v2)] dX6_calm_50 (by decide) rfl ?_
      refine z_iconst (v := 0) C dX6_calm_52 (by decide) ?_
      refine z_istore C [(5, .int 0), (4, .int r7), (3, .int (-4)), (0, .ref (ad 0 0)), (1, .int v1), (2, .int v2)] dX6_calm_53 (by decide) rfl ?_
      refine z_loc C [(0, .ref (ad 0 0)), (1, .int v1), (2, .int v2), (3, .int (-4)), (4, .int r7), (5, .int 0)] [3, 4, 5, 2, 1, 0] rfl ?_
      exact w_X6_calm_55 C ad X    FU S6 v1 v2 (-4) r7 0
    refine z_iconst (v := (-1)) C dX6_calm_19 (by decide) ?_
    exact z_iret C dX6_calm_20 rfl rfl rfl
  refine z_iconst (v := (-1)) C dX6_calm_19 (by decide) ?_
  exact z_iret C dX6_calm_20 rfl rfl rfl
noncomputable def f_X6_days (S : (Nat → zM)) (v1 : Int32) : Option (Int32 × (Nat → zM)) := (f_X6_isWithin v1 0 30).bind fun r1 => if r1 = true then if (((S 4) 0 2) + v1) < 1000 then zlet (va_up S 4 (zU (S 4) 0 4 0)) fun S2 => (f_X0_passDays (S2 4) v1).bind fun r3 => zlet (va_up S2 4 r3) fun S4 => some (((S4 4) 0 4), S4) else some ((-3), S) else some ((-1), S)
set_option maxHeartbeats 4000000 in
set_option maxRecDepth 100000 in
theorem ct_X6_days (l : Launch) (G : zG) (ad : Nat → Nat → Nat) (X : va_W) (S : (Nat → zM)) (v1 : Int32) : zCt l yX6_days cX6_days 2 (some .int) 6 G [.ref (ad 0 0), .int v1] (fun S : Nat → zM => wS ad G.2 S ++ X) (fun r : Int32 × (Nat → zM) => some (.int r.1)) (fun r => r.2) S (f_X6_days S v1) := by
  refine zCt.of (by decide) (Nat.le_of_ble_eq_true rfl) (fun p e s m args below meth c A C => ?_)
  refine y_lv (lv' := [(0, .ref (ad 0 0)), (1, .int v1)]) rfl ?_
  rw [f_X6_days]
  refine z_iload_n C 1 dX6_days_0 rfl ?_
  refine z_iconst (v := 0) C dX6_days_1 (by decide) ?_
  refine z_bipush (v := 30) C dX6_days_2 (by decide) ?_
  refine y_callZ C (z_invS C [.int v1, .int 0, .int 30] [] (ct_X6_isWithin l G ((fun S : Nat → zM => wS ad G.2 S ++ X) S) v1 0 30) mi_X6_isWithin mt_X6_isWithin ml_RX6_68 (by decide) rfl rfl dX6_days_4 (Nat.le_of_ble_eq_true rfl)) (List.Perm.refl _) (fun r1 => ?_)
  refine z_zifne C 12 dX6_days_7 (by decide) ?_ ?_
  · refine z_aload_n C 0 dX6_days_12 rfl ?_
    refine z_get C fl_RX6_28 (sHas 0 (by decide) wB_0 (fun _ => has_Top_0)) rfl dX6_days_13 ?_
    refine z_get C fl_RX6_112 (sHas 4 (by decide) wB_4 (fun _ => has_C_0)) rfl dX6_days_16 ?_
    refine z_iload_n C 1 dX6_days_19 rfl ?_
    refine z_iadd C dX6_days_20 ?_
    refine z_sipush (v := 1000) C dX6_days_21 (by decide) ?_
    refine z_icmplt C 30 dX6_days_24 (by decide) ?_ ?_
    · refine z_aload_n C 0 dX6_days_30 rfl ?_
      refine z_get C fl_RX6_28 (sHas 0 (by decide) wB_0 (fun _ => has_Top_0)) rfl dX6_days_31 ?_
      refine z_iconst (v := 0) C dX6_days_34 (by decide) ?_
      refine z_put C fl_RX6_182 ft_0_4 (sUpd 4 (by decide) wB_4 (fun _ => upd_C_0_4)) rfl rfl (Nat.le_of_ble_eq_true rfl) dX6_days_35 (fun S2 => ?_)
      refine z_aload_n C 0 dX6_days_38 rfl ?_
      refine z_get C fl_RX6_28 (sHas 0 (by decide) wB_0 (fun _ => has_Top_0)) rfl dX6_days_39 ?_
      refine z_iload_n C 1 dX6_days_42 rfl ?_
      refine y_callVS C (z_invV C [.int v1] [] (ct_X0_passDays l G (ad 4) (wR ad G.2 S2 4 ++ X) (S2 4) v1) mi_X0_passDays md_X0_passDays ms_X0_passDays ml_RX6_185 has_C_0 ⟨_, rfl, rfl⟩ (by decide) rfl rfl dX6_days_43 (Nat.le_of_ble_eq_true rfl)) (sOut 4 (by decide) wB_4) (fun _ => sIn 4 (by decide) wB_4 _) (fun r3 S4 => ?_)
      refine z_aload_n C 0 dX6_days_46 rfl ?_
      refine z_get C fl_RX6_28 (sHas 0 (by decide) wB_0 (fun _ => has_Top_0)) rfl dX6_days_47 ?_
      refine z_get C fl_RX6_182 (sHas 4 (by decide) wB_4 (fun _ => has_C_0)) rfl dX6_days_50 ?_
      exact z_iret C dX6_days_53 rfl rfl rfl
    refine z_bipush (v := (-3)) C dX6_days_27 (by decide) ?_
    exact z_iret C dX6_days_29 rfl rfl rfl
  refine z_iconst (v := (-1)) C dX6_days_10 (by decide) ?_
  exact z_iret C dX6_days_11 rfl rfl rfl
noncomputable def f_X6_fittingOwners_4 : Nat → (Nat → zM) → Int32 → Int32 → Int32 → Option (Int32 × (Nat → zM))
  | 0, _, _, _, _ => none
  | n + 1, S, v1, v2, v3 => if ((S 4) 0 0) ≤ v3 then some (v2, S) else (f_X0_copyFrom (S 4) (S 5)).bind fun r1 => zlet (va_up S 5 r1) fun S2 => if z_in v1 6 = true then zlet (va_up S2 5 (zU (S2 5) 4 (Int32.toNatClampNeg v1) v3)) (fun S3 => (f_X2_isAsIn (S3 6) (S3 5)).bind fun r4 => zlet (va_up S3 5 r4.2) fun S5 => if r4.1 = true then f_X6_fittingOwners_4 n S5 v1 (v2 ||| (1 <<< ((v3 : Int32) &&& 31))) (v3 + 1) else f_X6_fittingOwners_4 n S5 v1 v2 (v3 + 1)) else none
set_option maxHeartbeats 4000000 in
set_option maxRecDepth 100000 in
theorem w_X6_fittingOwners_4 {p : Program} {l : Launch} {e : Env} {s : State} {m : MethodId} {args : Array Value} {below : List Frame} {meth : Method} {c : Code} {G : zG} {A : Nat → Prop} (C : zC p s m args meth c RX6 cX6_fittingOwners 4 (some .int) G A) (ad : Nat → Nat → Nat) (X : va_W) : ∀ (n : Nat) (S : (Nat → zM)) (v1 : Int32) (v2 : Int32) (v3 : Int32), PW p l e 6 s m args below meth c G A 4 (fun S : Nat → zM => wS ad G.2 S ++ X) (fun r : Int32 × (Nat → zM) => some (.int r.1)) (fun r => r.2) S [(0, .ref (ad 0 0)), (1, .int v1), (2, .int v2), (3, .int v3)] 4 [] (f_X6_fittingOwners_4 n S v1 v2 v3) := by
  intro n
  induction n with
  | zero => intros; exact z_none
  | succ n ih =>
    intro S v1 v2 v3
    rw [f_X6_fittingOwners_4]
    refine z_iload_n C 3 dX6_fittingOwners_4 rfl ?_
    refine z_aload_n C 0 dX6_fittingOwners_5 rfl ?_
    refine z_get C fl_RX6_28 (sHas 0 (by decide) wB_0 (fun _ => has_Top_0)) rfl dX6_fittingOwners_6 ?_
    refine z_get C fl_RX6_106 (sHas 4 (by decide) wB_4 (fun _ => has_C_0)) rfl dX6_fittingOwners_9 ?_
    refine z_icmpge C 62 dX6_fittingOwners_12 (by decide) ?_ ?_
    · refine z_iload_n C 2 dX6_fittingOwners_62 rfl ?_
      exact z_iret C dX6_fittingOwners_63 rfl rfl rfl
    refine z_aload_n C 0 dX6_fittingOwners_15 rfl ?_
    refine z_get C fl_RX6_39 (sHas 0 (by decide) wB_0 (fun _ => has_Top_0)) rfl dX6_fittingOwners_16 ?_
    refine z_aload_n C 0 dX6_fittingOwners_19 rfl ?_
    refine z_get C fl_RX6_28 (sHas 0 (by decide) wB_0 (fun _ => has_Top_0)) rfl dX6_fittingOwners_20 ?_
    refine y_callVS C (z_invV C [.ref (ad 4 0)] [] (ct_X0_copyFrom l G (ad 5) (ad 4) (wR2 ad G.2 S 5 4 ++ X) (S 4) (S 5) ) mi_X0_copyFrom md_X0_copyFrom ms_X0_copyFrom ml_RX6_89 has_C_0 ⟨_, rfl, rfl⟩ (by decide) rfl rfl dX6_fittingOwners_23 (Nat.le_of_ble_eq_true rfl)) (sOut2 5 4 (by decide) (by decide) (by decide) wB_5 wB_4) (fun _ => sIn2 5 4 (by decide) (by decide) (by decide) wB_5 wB_4 _) (fun r1 S2 => ?_)
    refine z_aload_n C 0 dX6_fittingOwners_26 rfl ?_
    refine z_get C fl_RX6_39 (sHas 0 (by decide) wB_0 (fun _ => has_Top_0)) rfl dX6_fittingOwners_27 ?_
    refine z_get C fl_RX6_150 (sHas 5 (by decide) wB_5 (fun _ => has_C_0)) rfl dX6_fittingOwners_30 ?_
    refine z_iload_n C 1 dX6_fittingOwners_33 rfl ?_
    refine z_iload_n C 3 dX6_fittingOwners_34 rfl ?_
    refine y_iast C (sUpd 5 (by decide) wB_5 (fun _ => upd_C_4)) dX6_fittingOwners_35 (fun S3 => ?_)
    refine z_aload_n C 0 dX6_fittingOwners_36 rfl ?_
    refine z_get C fl_RX6_35 (sHas 0 (by decide) wB_0 (fun _ => has_Top_0)) rfl dX6_fittingOwners_37 ?_
    refine z_aload_n C 0 dX6_fittingOwners_40 rfl ?_
    refine z_get C fl_RX6_39 (sHas 0 (by decide) wB_0 (fun _ => has_Top_0)) rfl dX6_fittingOwners_41 ?_
    refine y_callZS C (z_invV C [.ref (ad 5 0)] [] (ct_X2_isAsIn l G (ad 6) (ad 5) (wR2 ad G.2 S3 5 6 ++ X) (S3 6) (S3 5) ) mi_X2_isAsIn md_X2_isAsIn ms_X2_isAsIn ml_RX6_216 (zHas.app has_Sn_0) ⟨_, rfl, rfl⟩ (by decide) rfl rfl dX6_fittingOwners_44 (Nat.le_of_ble_eq_true rfl)) (sOut2 5 6 (by decide) (by decide) (by decide) wB_5 wB_6) (fun _ => sIn2 5 6 (by decide) (by decide) (by decide) wB_5 wB_6 _) (fun r4 S5 => ?_)
    refine z_zifeq C 56 dX6_fittingOwners_47 (by decide) ?_ ?_
    · refine z_iload_n C 2 dX6_fittingOwners_50 rfl ?_
      refine z_iconst (v := 1) C dX6_fittingOwners_51 (by decide) ?_
      refine z_iload_n C 3 dX6_fittingOwners_52 rfl ?_
      refine z_ishl C dX6_fittingOwners_53 ?_
      refine z_ior C dX6_fittingOwners_54 ?_
      refine z_istore_n C [(2, .int (v2 ||| (1 <<< ((v3 : Int32) &&& 31)))), (0, .ref (ad 0 0)), (1, .int v1), (3, .int v3)] dX6_fittingOwners_55 (by decide) rfl ?_
      refine z_iinc C (v := (v3 + 1)) 3 [(3, .int (v3 + 1)), (2, .int (v2 ||| (1 <<< ((v3 : Int32) &&& 31)))), (0, .ref (ad 0 0)), (1, .int v1)] dX6_fittingOwners_56 rfl rfl (by decide) rfl ?_
      refine z_goto C 4 dX6_fittingOwners_59 (by decide) ?_
      refine z_loc C [(0, .ref (ad 0 0)), (1, .int v1), (2, .int (v2 ||| (1 <<< ((v3 : Int32) &&& 31)))), (3, .int (v3 + 1))] [2, 3, 1, 0] rfl ?_
      exact ih S5 v1 (v2 ||| (1 <<< ((v3 : Int32) &&& 31))) (v3 + 1)
    refine z_iinc C (v := (v3 + 1)) 3 [(3, .int (v3 + 1)), (0, .ref (ad 0 0)), (1, .int v1), (2, .int v2)] dX6_fittingOwners_56 rfl rfl (by decide) rfl ?_
    refine z_goto C 4 dX6_fittingOwners_59 (by decide) ?_
    refine z_loc C [(0, .ref (ad 0 0)), (1, .int v1), (2, .int v2), (3, .int (v3 + 1))] [1, 2, 3, 0] rfl ?_
    exact ih S5 v1 v2 (v3 + 1)
noncomputable def f_X6_fittingOwners (S : (Nat → zM)) (v1 : Int32) : Option (Int32 × (Nat → zM)) := f_X6_fittingOwners_4 FU S v1 0 0
set_option maxHeartbeats 4000000 in
set_option maxRecDepth 100000 in
theorem ct_X6_fittingOwners (l : Launch) (G : zG) (ad : Nat → Nat → Nat) (X : va_W) (S : (Nat → zM)) (v1 : Int32) : zCt l yX6_fittingOwners cX6_fittingOwners 4 (some .int) 6 G [.ref (ad 0 0), .int v1] (fun S : Nat → zM => wS ad G.2 S ++ X) (fun r : Int32 × (Nat → zM) => some (.int r.1)) (fun r => r.2) S (f_X6_fittingOwners S v1) := by
  refine zCt.of (by decide) (Nat.le_of_ble_eq_true rfl) (fun p e s m args below meth c A C => ?_)
  refine y_lv (lv' := [(0, .ref (ad 0 0)), (1, .int v1)]) rfl ?_
  rw [f_X6_fittingOwners]
  refine z_iconst (v := 0) C dX6_fittingOwners_0 (by decide) ?_
  refine z_istore_n C [(2, .int 0), (0, .ref (ad 0 0)), (1, .int v1)] dX6_fittingOwners_1 (by decide) rfl ?_
  refine z_iconst (v := 0) C dX6_fittingOwners_2 (by decide) ?_
  refine z_istore_n C [(3, .int 0), (2, .int 0), (0, .ref (ad 0 0)), (1, .int v1)] dX6_fittingOwners_3 (by decide) rfl ?_
  refine z_loc C [(0, .ref (ad 0 0)), (1, .int v1), (2, .int 0), (3, .int 0)] [2, 3, 1, 0] rfl ?_
  exact w_X6_fittingOwners_4 C ad X    FU S v1 0 0
noncomputable def f_X6_home (S : (Nat → zM)) (v1 : Int32) : Option (Int32 × (Nat → zM)) := (f_X0_hasBeetle (S 4) v1).bind fun r1 => if r1 = true then (f_X0_copyFrom (S 4) (S 5)).bind fun r2 => zlet (va_up S 5 r2) fun S3 => (f_X0_daysTillSits (S3 5) v1 60).bind fun r4 => zlet (va_up S3 5 r4.2) fun S5 => some (r4.1, S5) else some ((-1), S)
set_option maxHeartbeats 4000000 in
set_option maxRecDepth 100000 in
theorem ct_X6_home (l : Launch) (G : zG) (ad : Nat → Nat → Nat) (X : va_W) (S : (Nat → zM)) (v1 : Int32) : zCt l yX6_home cX6_home 2 (some .int) 6 G [.ref (ad 0 0), .int v1] (fun S : Nat → zM => wS ad G.2 S ++ X) (fun r : Int32 × (Nat → zM) => some (.int r.1)) (fun r => r.2) S (f_X6_home S v1) := by
  refine zCt.of (by decide) (Nat.le_of_ble_eq_true rfl) (fun p e s m args below meth c A C => ?_)
  refine y_lv (lv' := [(0, .ref (ad 0 0)), (1, .int v1)]) rfl ?_
  rw [f_X6_home]
  refine z_aload_n C 0 dX6_home_0 rfl ?_
  refine z_get C fl_RX6_28 (sHas 0 (by decide) wB_0 (fun _ => has_Top_0)) rfl dX6_home_1 ?_
  refine z_iload_n C 1 dX6_home_4 rfl ?_
  refine y_callZ C (z_invV C [.int v1] [] (ct_X0_hasBeetle l G (ad 4) (wR ad G.2 S 4 ++ X) (S 4) v1) mi_X0_hasBeetle md_X0_hasBeetle ms_X0_hasBeetle ml_RX6_141 has_C_0 ⟨_, rfl, rfl⟩ (by decide) rfl rfl dX6_home_5 (Nat.le_of_ble_eq_true rfl)) (sOut 4 (by decide) wB_4) (fun r1 => ?_)
  refine z_zifne C 13 dX6_home_8 (by decide) ?_ ?_
  · refine z_aload_n C 0 dX6_home_13 rfl ?_
    refine z_get C fl_RX6_39 (sHas 0 (by decide) wB_0 (fun _ => has_Top_0)) rfl dX6_home_14 ?_
    refine z_aload_n C 0 dX6_home_17 rfl ?_
    refine z_get C fl_RX6_28 (sHas 0 (by decide) wB_0 (fun _ => has_Top_0)) rfl dX6_home_18 ?_
    refine y_callVS C (z_invV C [.ref (ad 4 0)] [] (ct_X0_copyFrom l G (ad 5) (ad 4) (wR2 ad G.2 S 5 4 ++ X) (S 4) (S 5) ) mi_X0_copyFrom md_X0_copyFrom ms_X0_copyFrom ml_RX6_89 has_C_0 ⟨_, rfl, rfl⟩ (by decide) rfl rfl dX6_home_21 (Nat.le_of_ble_eq_true rfl)) (sOut2 5 4 (by decide) (by decide) (by decide) wB_5 wB_4) (fun _ => sIn2 5 4 (by decide) (by decide) (by decide) wB_5 wB_4 _) (fun r2 S3 => ?_)
    refine z_aload_n C 0 dX6_home_24 rfl ?_
    refine z_get C fl_RX6_39 (sHas 0 (by decide) wB_0 (fun _ => has_Top_0)) rfl dX6_home_25 ?_
    refine z_iload_n C 1 dX6_home_28 rfl ?_
    refine z_bipush (v := 60) C dX6_home_29 (by decide) ?_
    refine y_callIS C (z_invV C [.int v1, .int 60] [] (ct_X0_daysTillSits l G (ad 5) (wR ad G.2 S3 5 ++ X) (S3 5) v1 60) mi_X0_daysTillSits md_X0_daysTillSits ms_X0_daysTillSits ml_RX6_195 has_C_0 ⟨_, rfl, rfl⟩ (by decide) rfl rfl dX6_home_31 (Nat.le_of_ble_eq_true rfl)) (sOut 5 (by decide) wB_5) (fun _ => sIn 5 (by decide) wB_5 _) (fun r4 S5 => ?_)
    exact z_iret C dX6_home_34 rfl rfl rfl
  refine z_iconst (v := (-1)) C dX6_home_11 (by decide) ?_
  exact z_iret C dX6_home_12 rfl rfl rfl
noncomputable def f_X6_kind_32 : Nat → (Nat → zM) → Int32 → Int32 → Int32 → Int32 → Int32 → Option (Int32 × (Nat → zM))
  | 0, _, _, _, _, _, _ => none
  | n + 1, S, v1, v2, v3, v4, v5 => if 4 ≤ v5 then if v2 = 0 then some (v3, S) else some (v4, S) else (f_X0_copyFrom (S 4) (S 5)).bind fun r3 => zlet (va_up S 5 r3) fun S4 => if z_in v1 6 = true then zlet (va_up S4 5 (zU (S4 5) 2 (Int32.toNatClampNeg v1) v5)) (fun S5 => (f_X0_daysTillSits (S5 5) v1 60).bind fun r6 => zlet (va_up S5 5 r6.2) fun S7 => if r6.1 = (-4) then f_X6_kind_32 n S7 v1 v2 v3 v4 (v5 + 1) else if v3 = (-4) then f_X6_kind_32 n S7 v1 v2 v5 r6.1 (v5 + 1) else if v4 ≤ r6.1 then f_X6_kind_32 n S7 v1 v2 v3 v4 (v5 + 1) else f_X6_kind_32 n S7 v1 v2 v5 r6.1 (v5 + 1)) else none
set_option maxHeartbeats 4000000 in
set_option maxRecDepth 100000 in
theorem w_X6_kind_32 {p : Program} {l : Launch} {e : Env} {s : State} {m : MethodId} {args : Array Value} {below : List Frame} {meth : Method} {c : Code} {G : zG} {A : Nat → Prop} (C : zC p s m args meth c RX6 cX6_kind 7 (some .int) G A) (ad : Nat → Nat → Nat) (X : va_W) : ∀ (n : Nat) (S : (Nat → zM)) (v1 : Int32) (v2 : Int32) (v3 : Int32) (v4 : Int32) (v5 : Int32), PW p l e 6 s m args below meth c G A 7 (fun S : Nat → zM => wS ad G.2 S ++ X) (fun r : Int32 × (Nat → zM) => some (.int r.1)) (fun r => r.2) S [(0, .ref (ad 0 0)), (1, .int v1), (2, .int v2), (3, .int v3), (4, .int v4), (5, .int v5)] 32 [] (f_X6_kind_32 n S v1 v2 v3 v4 v5) := by
  intro n
  induction n with
  | zero => intros; exact z_none
  | succ n ih =>
    intro S v1 v2 v3 v4 v5
    rw [f_X6_kind_32]
    refine z_iload C 5 dX6_kind_32 rfl ?_
    refine z_iconst (v := 4) C dX6_kind_34 (by decide) ?_
    refine z_icmpge C 105 dX6_kind_35 (by decide) ?_ ?_
    · refine z_iload_n C 2 dX6_kind_105 rfl ?_
      refine z_ifne C 113 dX6_kind_106 (by decide) ?_ ?_
      · refine z_iload_n C 3 dX6_kind_109 rfl ?_
        refine z_goto C 115 dX6_kind_110 (by decide) ?_
        exact z_iret C dX6_kind_115 rfl rfl rfl
      refine z_iload C 4 dX6_kind_113 rfl ?_
      exact z_iret C dX6_kind_115 rfl rfl rfl
    refine z_aload_n C 0 dX6_kind_38 rfl ?_
    refine z_get C fl_RX6_39 (sHas 0 (by decide) wB_0 (fun _ => has_Top_0)) rfl dX6_kind_39 ?_
    refine z_aload_n C 0 dX6_kind_42 rfl ?_
    refine z_get C fl_RX6_28 (sHas 0 (by decide) wB_0 (fun _ => has_Top_0)) rfl dX6_kind_43 ?_
    refine y_callVS C (z_invV C [.ref (ad 4 0)] [] (ct_X0_copyFrom l G (ad 5) (ad 4) (wR2 ad G.2 S 5 4 ++ X) (S 4) (S 5) ) mi_X0_copyFrom md_X0_copyFrom ms_X0_copyFrom ml_RX6_89 has_C_0 ⟨_, rfl, rfl⟩ (by decide) rfl rfl dX6_kind_46 (Nat.le_of_ble_eq_true rfl)) (sOut2 5 4 (by decide) (by decide) (by decide) wB_5 wB_4) (fun _ => sIn2 5 4 (by decide) (by decide) (by decide) wB_5 wB_4 _) (fun r3 S4 => ?_)
    refine z_aload_n C 0 dX6_kind_49 rfl ?_
    refine z_get C fl_RX6_39 (sHas 0 (by decide) wB_0 (fun _ => has_Top_0)) rfl dX6_kind_50 ?_
    refine z_get C fl_RX6_144 (sHas 5 (by decide) wB_5 (fun _ => has_C_0)) rfl dX6_kind_53 ?_
    refine z_iload_n C 1 dX6_kind_56 rfl ?_
    refine z_iload C 5 dX6_kind_57 rfl ?_
    refine y_iast C (sUpd 5 (by decide) wB_5 (fun _ => upd_C_2)) dX6_kind_59 (fun S5 => ?_)
    refine z_aload_n C 0 dX6_kind_60 rfl ?_
    refine z_get C fl_RX6_39 (sHas 0 (by decide) wB_0 (fun _ => has_Top_0)) rfl dX6_kind_61 ?_
    refine z_iload_n C 1 dX6_kind_64 rfl ?_
    refine z_bipush (v := 60) C dX6_kind_65 (by decide) ?_
    refine y_callIS C (z_invV C [.int v1, .int 60] [] (ct_X0_daysTillSits l G (ad 5) (wR ad G.2 S5 5 ++ X) (S5 5) v1 60) mi_X0_daysTillSits md_X0_daysTillSits ms_X0_daysTillSits ml_RX6_195 has_C_0 ⟨_, rfl, rfl⟩ (by decide) rfl rfl dX6_kind_67 (Nat.le_of_ble_eq_true rfl)) (sOut 5 (by decide) wB_5) (fun _ => sIn 5 (by decide) wB_5 _) (fun r6 S7 => ?_)
    refine z_istore C [(6, .int r6.1), (0, .ref (ad 0 0)), (1, .int v1), (2, .int v2), (3, .int v3), (4, .int v4), (5, .int v5)] dX6_kind_70 (by decide) rfl ?_
    refine z_iload C 0 dX6_kind_72 rfl ?_
    refine z_bipush (v := (-4)) C dX6_kind_74 (by decide) ?_
    refine z_icmpeq C 99 dX6_kind_76 (by decide) ?_ ?_
    · refine z_iinc C (v := (v5 + 1)) 6 [(5, .int (v5 + 1)), (6, .int r6.1), (0, .ref (ad 0 0)), (1, .int v1), (2, .int v2), (3, .int v3), (4, .int v4)] dX6_kind_99 rfl rfl (by decide) rfl ?_
      refine z_goto C 32 dX6_kind_102 (by decide) ?_
      refine z_loc C [(0, .ref (ad 0 0)), (1, .int v1), (2, .int v2), (3, .int v3), (4, .int v4), (5, .int (v5 + 1))] [2, 3, 4, 5, 6, 0] rfl ?_
      exact ih S7 v1 v2 v3 v4 (v5 + 1)
    refine z_iload_n C 4 dX6_kind_79 rfl ?_
    refine z_bipush (v := (-4)) C dX6_kind_80 (by decide) ?_
    refine z_icmpeq C 92 dX6_kind_82 (by decide) ?_ ?_
    · refine z_iload C 6 dX6_kind_92 rfl ?_
      refine z_istore_n C [(3, .int v5), (6, .int r6.1), (0, .ref (ad 0 0)), (1, .int v1), (2, .int v2), (4, .int v4), (5, .int v5)] dX6_kind_94 (by decide) rfl ?_
      refine z_iload C 1 dX6_kind_95 rfl ?_
      refine z_istore C [(4, .int r6.1), (3, .int v5), (6, .int r6.1), (0, .ref (ad 0 0)), (1, .int v1), (2, .int v2), (5, .int v5)] dX6_kind_97 (by decide) rfl ?_
      refine z_iinc C (v := (v5 + 1)) 6 [(5, .int (v5 + 1)), (4, .int r6.1), (3, .int v5), (6, .int r6.1), (0, .ref (ad 0 0)), (1, .int v1), (2, .int v2)] dX6_kind_99 rfl rfl (by decide) rfl ?_
      refine z_goto C 32 dX6_kind_102 (by decide) ?_
      refine z_loc C [(0, .ref (ad 0 0)), (1, .int v1), (2, .int v2), (3, .int v5), (4, .int r6.1), (5, .int (v5 + 1))] [4, 5, 6, 2, 1, 0] rfl ?_
      exact ih S7 v1 v2 v5 r6.1 (v5 + 1)
    refine z_iload C 0 dX6_kind_85 rfl ?_
    refine z_iload C 5 dX6_kind_87 rfl ?_
    refine z_icmpge C 99 dX6_kind_89 (by decide) ?_ ?_
    · refine z_iinc C (v := (v5 + 1)) 6 [(5, .int (v5 + 1)), (6, .int r6.1), (0, .ref (ad 0 0)), (1, .int v1), (2, .int v2), (3, .int v3), (4, .int v4)] dX6_kind_99 rfl rfl (by decide) rfl ?_
      refine z_goto C 32 dX6_kind_102 (by decide) ?_
      refine z_loc C [(0, .ref (ad 0 0)), (1, .int v1), (2, .int v2), (3, .int v3), (4, .int v4), (5, .int (v5 + 1))] [2, 3, 4, 5, 6, 0] rfl ?_
      exact ih S7 v1 v2 v3 v4 (v5 + 1)
    refine z_iload C 6 dX6_kind_92 rfl ?_
    refine z_istore_n C [(3, .int v5), (6, .int r6.1), (0, .ref (ad 0 0)), (1, .int v1), (2, .int v2), (4, .int v4), (5, .int v5)] dX6_kind_94 (by decide) rfl ?_
    refine z_iload C 1 dX6_kind_95 rfl ?_
    refine z_istore C [(4, .int r6.1), (3, .int v5), (6, .int r6.1), (0, .ref (ad 0 0)), (1, .int v1), (2, .int v2), (5, .int v5)] dX6_kind_97 (by decide) rfl ?_
    refine z_iinc C (v := (v5 + 1)) 6 [(5, .int (v5 + 1)), (4, .int r6.1), (3, .int v5), (6, .int r6.1), (0, .ref (ad 0 0)), (1, .int v1), (2, .int v2)] dX6_kind_99 rfl rfl (by decide) rfl ?_
    refine z_goto C 32 dX6_kind_102 (by decide) ?_
    refine z_loc C [(0, .ref (ad 0 0)), (1, .int v1), (2, .int v2), (3, .int v5), (4, .int r6.1), (5, .int (v5 + 1))] [4, 5, 6, 2, 1, 0] rfl ?_
    exact ih S7 v1 v2 v5 r6.1 (v5 + 1)
noncomputable def f_X6_kind (S : (Nat → zM)) (v1 : Int32) (v2 : Int32) : Option (Int32 × (Nat → zM)) := (f_X0_hasBeetle (S 4) v1).bind fun r1 => if r1 = true then (f_X6_isWithin v2 0 1).bind fun r2 => if r2 = true then f_X6_kind_32 FU S v1 v2 (-4) (-4) 0 else some ((-1), S) else some ((-1), S)
set_option maxHeartbeats 4000000 in
set_option maxRecDepth 100000 in
theorem ct_X6_kind (l : Launch) (G : zG) (ad : Nat → Nat → Nat) (X : va_W) (S : (Nat → zM)) (v1 : Int32) (v2 : Int32) : zCt l yX6_kind cX6_kind 7 (some .int) 6 G [.ref (ad 0 0), .int v1, .int v2] (fun S : Nat → zM => wS ad G.2 S ++ X) (fun r : Int32 × (Nat → zM) => some (.int r.1)) (fun r => r.2) S (f_X6_kind S v1 v2) := by
  refine zCt.of (by decide) (Nat.le_of_ble_eq_true rfl) (fun p e s m args below meth c A C => ?_)
  refine y_lv (lv' := [(0, .ref (ad 0 0)), (1, .int v1), (2, .int v2)]) rfl ?_
  rw [f_X6_kind]
  refine z_aload_n C 0 dX6_kind_0 rfl ?_
  refine z_get C fl_RX6_28 (sHas 0 (by decide) wB_0 (fun _ => has_Top_0)) rfl dX6_kind_1 ?_
  refine z_iload_n C 1 dX6_kind_4 rfl ?_
  refine y_callZ C (z_invV C [.int v1] [] (ct_X0_hasBeetle l G (ad 4) (wR ad G.2 S 4 ++ X) (S 4) v1) mi_X0_hasBeetle md_X0_hasBeetle ms_X0_hasBeetle ml_RX6_141 has_C_0 ⟨_, rfl, rfl⟩ (by decide) rfl rfl dX6_kind_5 (Nat.le_of_ble_eq_true rfl)) (sOut 4 (by decide) wB_4) (fun r1 => ?_)
  refine z_zifeq C 20 dX6_kind_8 (by decide) ?_ ?_
  · refine z_iload_n C 2 dX6_kind_11 rfl ?_
    refine z_iconst (v := 0) C dX6_kind_12 (by decide) ?_
    refine z_iconst (v := 1) C dX6_kind_13 (by decide) ?_
    refine y_callZ C (z_invS C [.int v2, .int 0, .int 1] [] (ct_X6_isWithin l G ((fun S : Nat → zM => wS ad G.2 S ++ X) S) v2 0 1) mi_X6_isWithin mt_X6_isWithin ml_RX6_68 (by decide) rfl rfl dX6_kind_14 (Nat.le_of_ble_eq_true rfl)) (List.Perm.refl _) (fun r2 => ?_)
    refine z_zifne C 22 dX6_kind_17 (by decide) ?_ ?_
    · refine z_bipush (v := (-4)) C dX6_kind_22 (by decide) ?_
      refine z_istore_n C [(3, .int (-4)), (0, .ref (ad 0 0)), (1, .int v1), (2, .int v2)] dX6_kind_24 (by decide) rfl ?_
      refine z_bipush (v := (-4)) C dX6_kind_25 (by decide) ?_
      refine z_istore C [(4, .int (-4)), (3, .int (-4)), (0, .ref (ad 0 0)), (1, .int v1), (2, .int v2)] dX6_kind_27 (by decide) rfl ?_
      refine z_iconst (v := 0) C dX6_kind_29 (by decide) ?_
      refine z_istore C [(5, .int 0), (4, .int (-4)), (3, .int (-4)), (0, .ref (ad 0 0)), (1, .int v1), (2, .int v2)] dX6_kind_30 (by decide) rfl ?_
      refine z_loc C [(0, .ref (ad 0 0)), (1, .int v1), (2, .int v2), (3, .int (-4)), (4, .int (-4)), (5, .int 0)] [3, 4, 5, 2, 1, 0] rfl ?_
      exact w_X6_kind_32 C ad X    FU S v1 v2 (-4) (-4) 0
    refine z_iconst (v := (-1)) C dX6_kind_20 (by decide) ?_
    exact z_iret C dX6_kind_21 rfl rfl rfl
  refine z_iconst (v := (-1)) C dX6_kind_20 (by decide) ?_
  exact z_iret C dX6_kind_21 rfl rfl rfl
noncomputable def f_X6_kinds_17 : Nat → (Nat → zM) → Int32 → Int32 → Int32 → Option (Int32 × (Nat → zM))
  | 0, _, _, _, _ => none
  | n + 1, S, v1, v2, v3 => if 4 ≤ v3 then some (v2, S) else (f_X0_copyFrom (S 4) (S 5)).bind fun r2 => zlet (va_up S 5 r2) fun S3 => if z_in v1 6 = true then zlet (va_up S3 5 (zU (S3 5) 2 (Int32.toNatClampNeg v1) v3)) (fun S4 => (f_X2_isAsIn (S4 6) (S4 5)).bind fun r5 => zlet (va_up S4 5 r5.2) fun S6 => if r5.1 = true then f_X6_kinds_17 n S6 v1 (v2 ||| (1 <<< ((v3 : Int32) &&& 31))) (v3 + 1) else f_X6_kinds_17 n S6 v1 v2 (v3 + 1)) else none
set_option maxHeartbeats 4000000 in
set_option maxRecDepth 100000 in
theorem w_X6_kinds_17 {p : Program} {l : Launch} {e : Env} {s : State} {m : MethodId} {args : Array Value} {below : List Frame} {meth : Method} {c : Code} {G : zG} {A : Nat → Prop} (C : zC p s m args meth c RX6 cX6_kinds 4 (some .int) G A) (ad : Nat → Nat → Nat) (X : va_W) : ∀ (n : Nat) (S : (Nat → zM)) (v1 : Int32) (v2 : Int32) (v3 : Int32), PW p l e 6 s m args below meth c G A 4 (fun S : Nat → zM => wS ad G.2 S ++ X) (fun r : Int32 × (Nat → zM) => some (.int r.1)) (fun r => r.2) S [(0, .ref (ad 0 0)), (1, .int v1), (2, .int v2), (3, .int v3)] 17 [] (f_X6_kinds_17 n S v1 v2 v3) := by
  intro n
  induction n with
  | zero => intros; exact z_none
  | succ n ih =>
    intro S v1 v2 v3
    rw [f_X6_kinds_17]
    refine z_iload_n C 3 dX6_kinds_17 rfl ?_
    refine z_iconst (v := 4) C dX6_kinds_18 (by decide) ?_
    refine z_icmpge C 69 dX6_kinds_19 (by decide) ?_ ?_
    · refine z_iload_n C 2 dX6_kinds_69 rfl ?_
      exact z_iret C dX6_kinds_70 rfl rfl rfl
    refine z_aload_n C 0 dX6_kinds_22 rfl ?_
    refine z_get C fl_RX6_39 (sHas 0 (by decide) wB_0 (fun _ => has_Top_0)) rfl dX6_kinds_23 ?_
    refine z_aload_n C 0 dX6_kinds_26 rfl ?_
    refine z_get C fl_RX6_28 (sHas 0 (by decide) wB_0 (fun _ => has_Top_0)) rfl dX6_kinds_27 ?_
    refine y_callVS C (z_invV C [.ref (ad 4 0)] [] (ct_X0_copyFrom l G (ad 5) (ad 4) (wR2 ad G.2 S 5 4 ++ X) (S 4) (S 5) ) mi_X0_copyFrom md_X0_copyFrom ms_X0_copyFrom ml_RX6_89 has_C_0 ⟨_, rfl, rfl⟩ (by decide) rfl rfl dX6_kinds_30 (Nat.le_of_ble_eq_true rfl)) (sOut2 5 4 (by decide) (by decide) (by decide) wB_5 wB_4) (fun _ => sIn2 5 4 (by decide) (by decide) (by decide) wB_5 wB_4 _) (fun r2 S3 => ?_)
    refine z_aload_n C 0 dX6_kinds_33 rfl ?_
    refine z_get C fl_RX6_39 (sHas 0 (by decide) wB_0 (fun _ => has_Top_0)) rfl dX6_kinds_34 ?_
    refine z_get C fl_RX6_144 (sHas 5 (by decide) wB_5 (fun _ => has_C_0)) rfl dX6_kinds_37 ?_
    refine z_iload_n C 1 dX6_kinds_40 rfl ?_
    refine z_iload_n C 3 dX6_kinds_41 rfl ?_
    refine y_iast C (sUpd 5 (by decide) wB_5 (fun _ => upd_C_2)) dX6_kinds_42 (fun S4 => ?_)
    refine z_aload_n C 0 dX6_kinds_43 rfl ?_
    refine z_get C fl_RX6_35 (sHas 0 (by decide) wB_0 (fun _ => has_Top_0)) rfl dX6_kinds_44 ?_
    refine z_aload_n C 0 dX6_kinds_47 rfl ?_
    refine z_get C fl_RX6_39 (sHas 0 (by decide) wB_0 (fun _ => has_Top_0)) rfl dX6_kinds_48 ?_
    refine y_callZS C (z_invV C [.ref (ad 5 0)] [] (ct_X2_isAsIn l G (ad 6) (ad 5) (wR2 ad G.2 S4 5 6 ++ X) (S4 6) (S4 5) ) mi_X2_isAsIn md_X2_isAsIn ms_X2_isAsIn ml_RX6_216 (zHas.app has_Sn_0) ⟨_, rfl, rfl⟩ (by decide) rfl rfl dX6_kinds_51 (Nat.le_of_ble_eq_true rfl)) (sOut2 5 6 (by decide) (by decide) (by decide) wB_5 wB_6) (fun _ => sIn2 5 6 (by decide) (by decide) (by decide) wB_5 wB_6 _) (fun r5 S6 => ?_)
    refine z_zifeq C 63 dX6_kinds_54 (by decide) ?_ ?_
    · refine z_iload_n C 2 dX6_kinds_57 rfl ?_
      refine z_iconst (v := 1) C dX6_kinds_58 (by decide) ?_
      refine z_iload_n C 3 dX6_kinds_59 rfl ?_
      refine z_ishl C dX6_kinds_60 ?_
      refine z_ior C dX6_kinds_61 ?_
      refine z_istore_n C [(2, .int (v2 ||| (1 <<< ((v3 : Int32) &&& 31)))), (0, .ref (ad 0 0)), (1, .int v1), (3, .int v3)] dX6_kinds_62 (by decide) rfl ?_
      refine z_iinc C (v := (v3 + 1)) 3 [(3, .int (v3 + 1)), (2, .int (v2 ||| (1 <<< ((v3 : Int32) &&& 31)))), (0, .ref (ad 0 0)), (1, .int v1)] dX6_kinds_63 rfl rfl (by decide) rfl ?_
      refine z_goto C 17 dX6_kinds_66 (by decide) ?_
      refine z_loc C [(0, .ref (ad 0 0)), (1, .int v1), (2, .int (v2 ||| (1 <<< ((v3 : Int32) &&& 31)))), (3, .int (v3 + 1))] [2, 3, 1, 0] rfl ?_
      exact ih S6 v1 (v2 ||| (1 <<< ((v3 : Int32) &&& 31))) (v3 + 1)
    refine z_iinc C (v := (v3 + 1)) 3 [(3, .int (v3 + 1)), (0, .ref (ad 0 0)), (1, .int v1), (2, .int v2)] dX6_kinds_63 rfl rfl (by decide) rfl ?_
    refine z_goto C 17 dX6_kinds_66 (by decide) ?_
    refine z_loc C [(0, .ref (ad 0 0)), (1, .int v1), (2, .int v2), (3, .int (v3 + 1))] [1, 2, 3, 0] rfl ?_
    exact ih S6 v1 v2 (v3 + 1)
noncomputable def f_X6_kinds (S : (Nat → zM)) (v1 : Int32) : Option (Int32 × (Nat → zM)) := (f_X0_hasBeetle (S 4) v1).bind fun r1 => if r1 = true then f_X6_kinds_17 FU S v1 0 0 else some ((-1), S)
set_option maxHeartbeats 4000000 in
set_option maxRecDepth 100000 in
theorem ct_X6_kinds (l : Launch) (G : zG) (ad : Nat → Nat → Nat) (X : va_W) (S : (Nat → zM)) (v1 : Int32) : zCt l yX6_kinds cX6_kinds 4 (some .int) 6 G [.ref (ad 0 0), .int v1] (fun S : Nat → zM => wS ad G.2 S ++ X) (fun r : Int32 × (Nat → zM) => some (.int r.1)) (fun r => r.2) S (f_X6_kinds S v1) := by
  refine zCt.of (by decide) (Nat.le_of_ble_eq_true rfl) (fun p e s m args below meth c A C => ?_)
  refine y_lv (lv' := [(0, .ref (ad 0 0)), (1, .int v1)]) rfl ?_
  rw [f_X6_kinds]
  refine z_aload_n C 0 dX6_kinds_0 rfl ?_
  refine z_get C fl_RX6_28 (sHas 0 (by decide) wB_0 (fun _ => has_Top_0)) rfl dX6_kinds_1 ?_
  refine z_iload_n C 1 dX6_kinds_4 rfl ?_
  refine y_callZ C (z_invV C [.int v1] [] (ct_X0_hasBeetle l G (ad 4) (wR ad G.2 S 4 ++ X) (S 4) v1) mi_X0_hasBeetle md_X0_hasBeetle ms_X0_hasBeetle ml_RX6_141 has_C_0 ⟨_, rfl, rfl⟩ (by decide) rfl rfl dX6_kinds_5 (Nat.le_of_ble_eq_true rfl)) (sOut 4 (by decide) wB_4) (fun r1 => ?_)
  refine z_zifne C 13 dX6_kinds_8 (by decide) ?_ ?_
  · refine z_iconst (v := 0) C dX6_kinds_13 (by decide) ?_
    refine z_istore_n C [(2, .int 0), (0, .ref (ad 0 0)), (1, .int v1)] dX6_kinds_14 (by decide) rfl ?_
    refine z_iconst (v := 0) C dX6_kinds_15 (by decide) ?_
    refine z_istore_n C [(3, .int 0), (2, .int 0), (0, .ref (ad 0 0)), (1, .int v1)] dX6_kinds_16 (by decide) rfl ?_
    refine z_loc C [(0, .ref (ad 0 0)), (1, .int v1), (2, .int 0), (3, .int 0)] [2, 3, 1, 0] rfl ?_
    exact w_X6_kinds_17 C ad X    FU S v1 0 0
  refine z_iconst (v := (-1)) C dX6_kinds_11 (by decide) ?_
  exact z_iret C dX6_kinds_12 rfl rfl rfl
noncomputable def f_X6_need_37 : Nat → (Nat → zM) → Int32 → Int32 → Int32 → Int32 → Option (Int32 × (Nat → zM))
  | 0, _, _, _, _, _ => none
  | n + 1, S, v1, v2, v3, v4 => if 9 < v4 then some ((-4), S) else (f_X0_copyFrom (S 4) (S 5)).bind fun r4 => zlet (va_up S 5 r4) fun S5 => if z_in v1 6 = true then zlet (va_up S5 5 (zU (S5 5) 3 (Int32.toNatClampNeg v1) v4)) (fun S6 => (f_X0_passDays (S6 5) v3).bind fun r7 => zlet (va_up S6 5 r7) fun S8 => (f_X0_allMakeWayFor (S8 5) v2).bind fun r9 => if r9 = true then some (v4, S8) else f_X6_need_37 n S8 v1 v2 v3 (v4 + 1)) else none
set_option maxHeartbeats 4000000 in
set_option maxRecDepth 100000 in
theorem w_X6_need_37 {p : Program} {l : Launch} {e : Env} {s : State} {m : MethodId} {args : Array Value} {below : List Frame} {meth : Method} {c : Code} {G : zG} {A : Nat → Prop} (C : zC p s m args meth c RX6 cX6_need 5 (some .int) G A) (ad : Nat → Nat → Nat) (X : va_W) : ∀ (n : Nat) (S : (Nat → zM)) (v1 : Int32) (v2 : Int32) (v3 : Int32) (v4 : Int32), PW p l e 6 s m args below meth c G A 5 (fun S : Nat → zM => wS ad G.2 S ++ X) (fun r : Int32 × (Nat → zM) => some (.int r.1)) (fun r => r.2) S [(0, .ref (ad 0 0)), (1, .int v1), (2, .int v2), (3, .int v3), (4, .int v4)] 37 [] (f_X6_need_37 n S v1 v2 v3 v4) := by
  intro n
  induction n with
  | zero => intros; exact z_none
  | succ n ih =>
    intro S v1 v2 v3 v4
    rw [f_X6_need_37]
    refine z_iload C 4 dX6_need_37 rfl ?_
    refine z_bipush (v := 9) C dX6_need_39 (by decide) ?_
    refine z_icmpgt C 94 dX6_need_41 (by decide) ?_ ?_
    · refine z_bipush (v := (-4)) C dX6_need_94 (by decide) ?_
      exact z_iret C dX6_need_96 rfl rfl rfl
    refine z_aload_n C 0 dX6_need_44 rfl ?_
    refine z_get C fl_RX6_39 (sHas 0 (by decide) wB_0 (fun _ => has_Top_0)) rfl dX6_need_45 ?_
    refine z_aload_n C 0 dX6_need_48 rfl ?_
    refine z_get C fl_RX6_28 (sHas 0 (by decide) wB_0 (fun _ => has_Top_0)) rfl dX6_need_49 ?_
    refine y_callVS C (z_invV C [.ref (ad 4 0)] [] (ct_X0_copyFrom l G (ad 5) (ad 4) (wR2 ad G.2 S 5 4 ++ X) (S 4) (S 5) ) mi_X0_copyFrom md_X0_copyFrom ms_X0_copyFrom ml_RX6_89 has_C_0 ⟨_, rfl, rfl⟩ (by decide) rfl rfl dX6_need_52 (Nat.le_of_ble_eq_true rfl)) (sOut2 5 4 (by decide) (by decide) (by decide) wB_5 wB_4) (fun _ => sIn2 5 4 (by decide) (by decide) (by decide) wB_5 wB_4 _) (fun r4 S5 => ?_)
    refine z_aload_n C 0 dX6_need_55 rfl ?_
    refine z_get C fl_RX6_39 (sHas 0 (by decide) wB_0 (fun _ => has_Top_0)) rfl dX6_need_56 ?_
    refine z_get C fl_RX6_147 (sHas 5 (by decide) wB_5 (fun _ => has_C_0)) rfl dX6_need_59 ?_
    refine z_iload_n C 1 dX6_need_62 rfl ?_
    refine z_iload C 4 dX6_need_63 rfl ?_
    refine y_iast C (sUpd 5 (by decide) wB_5 (fun _ => upd_C_3)) dX6_need_65 (fun S6 => ?_)
    refine z_aload_n C 0 dX6_need_66 rfl ?_
    refine z_get C fl_RX6_39 (sHas 0 (by decide) wB_0 (fun _ => has_Top_0)) rfl dX6_need_67 ?_
    refine z_iload_n C 3 dX6_need_70 rfl ?_
    refine y_callVS C (z_invV C [.int v3] [] (ct_X0_passDays l G (ad 5) (wR ad G.2 S6 5 ++ X) (S6 5) v3) mi_X0_passDays md_X0_passDays ms_X0_passDays ml_RX6_185 has_C_0 ⟨_, rfl, rfl⟩ (by decide) rfl rfl dX6_need_71 (Nat.le_of_ble_eq_true rfl)) (sOut 5 (by decide) wB_5) (fun _ => sIn 5 (by decide) wB_5 _) (fun r7 S8 => ?_)
    refine z_aload_n C 0 dX6_need_74 rfl ?_
    refine z_get C fl_RX6_39 (sHas 0 (by decide) wB_0 (fun _ => has_Top_0)) rfl dX6_need_75 ?_
    refine z_iload_n C 2 dX6_need_78 rfl ?_
    refine y_callZ C (z_invV C [.int v2] [] (ct_X0_allMakeWayFor l G (ad 5) (wR ad G.2 S8 5 ++ X) (S8 5) v2) mi_X0_allMakeWayFor md_X0_allMakeWayFor ms_X0_allMakeWayFor ml_RX6_199 has_C_0 ⟨_, rfl, rfl⟩ (by decide) rfl rfl dX6_need_79 (Nat.le_of_ble_eq_true rfl)) (sOut 5 (by decide) wB_5) (fun r9 => ?_)
    refine z_zifeq C 88 dX6_need_82 (by decide) ?_ ?_
    · refine z_iload C 4 dX6_need_85 rfl ?_
      exact z_iret C dX6_need_87 rfl rfl rfl
    refine z_iinc C (v := (v4 + 1)) 4 [(4, .int (v4 + 1)), (0, .ref (ad 0 0)), (1, .int v1), (2, .int v2), (3, .int v3)] dX6_need_88 rfl rfl (by decide) rfl ?_
    refine z_goto C 37 dX6_need_91 (by decide) ?_
    refine z_loc C [(0, .ref (ad 0 0)), (1, .int v1), (2, .int v2), (3, .int v3), (4, .int (v4 + 1))] [1, 2, 3, 4, 0] rfl ?_
    exact ih S8 v1 v2 v3 (v4 + 1)
noncomputable def f_X6_need (S : (Nat → zM)) (v1 : Int32) (v2 : Int32) (v3 : Int32) : Option (Int32 × (Nat → zM)) := (f_X0_hasBeetle (S 4) v1).bind fun r1 => if r1 = true then (f_X0_hasOne (S 4) v2).bind fun r2 => if r2 = true then (f_X6_isWithin v3 0 60).bind fun r3 => if r3 = true then f_X6_need_37 FU S v1 v2 v3 1 else some ((-1), S) else some ((-1), S) else some ((-1), S)
set_option maxHeartbeats 4000000 in
set_option maxRecDepth 100000 in
theorem ct_X6_need (l : Launch) (G : zG) (ad : Nat → Nat → Nat) (X : va_W) (S : (Nat → zM)) (v1 : Int32) (v2 : Int32) (v3 : Int32) : zCt l yX6_need cX6_need 5 (some .int) 6 G [.ref (ad 0 0), .int v1, .int v2, .int v3] (fun S : Nat → zM => wS ad G.2 S ++ X) (fun r : Int32 × (Nat → zM) => some (.int r.1)) (fun r => r.2) S (f_X6_need S v1 v2 v3) := by
  refine zCt.of (by decide) (Nat.le_of_ble_eq_true rfl) (fun p e s m args below meth c A C => ?_)
  refine y_lv (lv' := [(0, .ref (ad 0 0)), (1, .int v1), (2, .int v2), (3, .int v3)]) rfl ?_
  rw [f_X6_need]
  refine z_aload_n C 0 dX6_need_0 rfl ?_
  refine z_get C fl_RX6_28 (sHas 0 (by decide) wB_0 (fun _ => has_Top_0)) rfl dX6_need_1 ?_
  refine z_iload_n C 1 dX6_need_4 rfl ?_
  refine y_callZ C (z_invV C [.int v1] [] (ct_X0_hasBeetle l G (ad 4) (wR ad G.2 S 4 ++ X) (S 4) v1) mi_X0_hasBeetle md_X0_hasBeetle ms_X0_hasBeetle ml_RX6_141 has_C_0 ⟨_, rfl, rfl⟩ (by decide) rfl rfl dX6_need_5 (Nat.le_of_ble_eq_true rfl)) (sOut 4 (by decide) wB_4) (fun r1 => ?_)
  refine z_zifeq C 32 dX6_need_8 (by decide) ?_ ?_
  · refine z_aload_n C 0 dX6_need_11 rfl ?_
    refine z_get C fl_RX6_28 (sHas 0 (by decide) wB_0 (fun _ => has_Top_0)) rfl dX6_need_12 ?_
    refine z_iload_n C 2 dX6_need_15 rfl ?_
    refine y_callZ C (z_invV C [.int v2] [] (ct_X0_hasOne l G (ad 4) (wR ad G.2 S 4 ++ X) (S 4) v2) mi_X0_hasOne md_X0_hasOne ms_X0_hasOne ml_RX6_125 has_C_0 ⟨_, rfl, rfl⟩ (by decide) rfl rfl dX6_need_16 (Nat.le_of_ble_eq_true rfl)) (sOut 4 (by decide) wB_4) (fun r2 => ?_)
    refine z_zifeq C 32 dX6_need_19 (by decide) ?_ ?_
    · refine z_iload_n C 3 dX6_need_22 rfl ?_
      refine z_iconst (v := 0) C dX6_need_23 (by decide) ?_
      refine z_bipush (v := 60) C dX6_need_24 (by decide) ?_
      refine y_callZ C (z_invS C [.int v3, .int 0, .int 60] [] (ct_X6_isWithin l G ((fun S : Nat → zM => wS ad G.2 S ++ X) S) v3 0 60) mi_X6_isWithin mt_X6_isWithin ml_RX6_68 (by decide) rfl rfl dX6_need_26 (Nat.le_of_ble_eq_true rfl)) (List.Perm.refl _) (fun r3 => ?_)
      refine z_zifne C 34 dX6_need_29 (by decide) ?_ ?_
      · refine z_iconst (v := 1) C dX6_need_34 (by decide) ?_
        refine z_istore C [(4, .int 1), (0, .ref (ad 0 0)), (1, .int v1), (2, .int v2), (3, .int v3)] dX6_need_35 (by decide) rfl ?_
        refine z_loc C [(0, .ref (ad 0 0)), (1, .int v1), (2, .int v2), (3, .int v3), (4, .int 1)] [1, 2, 3, 4, 0] rfl ?_
        exact w_X6_need_37 C ad X    FU S v1 v2 v3 1
      refine z_iconst (v := (-1)) C dX6_need_32 (by decide) ?_
      exact z_iret C dX6_need_33 rfl rfl rfl
    refine z_iconst (v := (-1)) C dX6_need_32 (by decide) ?_
    exact z_iret C dX6_need_33 rfl rfl rfl
  refine z_iconst (v := (-1)) C dX6_need_32 (by decide) ?_
  exact z_iret C dX6_need_33 rfl rfl rfl
noncomputable def f_X6_off_68 : Nat → (Nat → zM) → Int32 → Int32 → Int32 → Int32 → Int32 → Int32 → Option (Int32 × (Nat → zM))
  | 0, _, _, _, _, _, _, _ => none
  | n + 1, S, v1, v2, v3, v4, v5, v6 => if ((S 4) 0 1) ≤ v6 then if v3 = 0 then some (v4, S) else if v4 = (-4) then some (v4, S) else some (v5, S) else (f_X0_copyFrom (S 4) (S 5)).bind fun r9 => zlet (va_up S 5 r9) fun S10 => (f_X0_takeAway (S10 5) v6).bind fun r11 => zlet (va_up S10 5 r11) fun S12 => (f_X0_passDays (S12 5) v2).bind fun r13 => zlet (va_up S12 5 r13) fun S14 => (f_X0_counted (S14 5) v1).bind fun r15 => if v5 ≤ r15 then f_X6_off_68 n S14 v1 v2 v3 v4 v5 (v6 + 1) else f_X6_off_68 n S14 v1 v2 v3 v6 r15 (v6 + 1)
set_option maxHeartbeats 4000000 in
set_option maxRecDepth 100000 in
theorem w_X6_off_68 {p : Program} {l : Launch} {e : Env} {s : State} {m : MethodId} {args : Array Value} {below : List Frame} {meth : Method} {c : Code} {G : zG} {A : Nat → Prop} (C : zC p s m args meth c RX6 cX6_off 8 (some .int) G A) (ad : Nat → Nat → Nat) (X : va_W) : ∀ (n : Nat) (S : (Nat → zM)) (v1 : Int32) (v2 : Int32) (v3 : Int32) (v4 : Int32) (v5 : Int32) (v6 : Int32), PW p l e 6 s m args below meth c G A 8 (fun S : Nat → zM => wS ad G.2 S ++ X) (fun r : Int32 × (Nat → zM) => some (.int r.1)) (fun r => r.2) S [(0, .ref (ad 0 0)), (1, .int v1), (2, .int v2), (3, .int v3), (4, .int v4), (5, .int v5), (6, .int v6)] 68 [] (f_X6_off_68 n S v1 v2 v3 v4 v5 v6) := by
  intro n
  induction n with
  | zero => intros; exact z_none
  | succ n ih =>
    intro S v1 v2 v3 v4 v5 v6
    rw [f_X6_off_68]
    refine z_iload C 6 dX6_off_68 rfl ?_
    refine z_aload_n C 0 dX6_off_70 rfl ?_
    refine z_get C fl_RX6_28 (sHas 0 (by decide) wB_0 (fun _ => has_Top_0)) rfl dX6_off_71 ?_
    refine z_get C fl_RX6_109 (sHas 4 (by decide) wB_4 (fun _ => has_C_0)) rfl dX6_off_74 ?_
    refine z_icmpge C 139 dX6_off_77 (by decide) ?_ ?_
    · refine z_iload_n C 3 dX6_off_139 rfl ?_
      refine z_ifeq C 150 dX6_off_140 (by decide) ?_ ?_
      · refine z_iload C 4 dX6_off_150 rfl ?_
        refine z_goto C 157 dX6_off_152 (by decide) ?_
        exact z_iret C dX6_off_157 rfl rfl rfl
      refine z_iload C 4 dX6_off_143 rfl ?_
      refine z_bipush (v := (-4)) C dX6_off_145 (by decide) ?_
      refine z_icmpne C 155 dX6_off_147 (by decide) ?_ ?_
      · refine z_iload C 4 dX6_off_150 rfl ?_
        refine z_goto C 157 dX6_off_152 (by decide) ?_
        exact z_iret C dX6_off_157 rfl rfl rfl
      refine z_iload C 5 dX6_off_155 rfl ?_
      exact z_iret C dX6_off_157 rfl rfl rfl
    refine z_aload_n C 0 dX6_off_80 rfl ?_
    refine z_get C fl_RX6_39 (sHas 0 (by decide) wB_0 (fun _ => has_Top_0)) rfl dX6_off_81 ?_
    refine z_aload_n C 0 dX6_off_84 rfl ?_
    refine z_get C fl_RX6_28 (sHas 0 (by decide) wB_0 (fun _ => has_Top_0)) rfl dX6_off_85 ?_
    refine y_callVS C (z_invV C [.ref (ad 4 0)] [] (ct_X0_copyFrom l G (ad 5) (ad 4) (wR2 ad G.2 S 5 4 ++ X) (S 4) (S 5) ) mi_X0_copyFrom md_X0_copyFrom ms_X0_copyFrom ml_RX6_89 has_C_0 ⟨_, rfl, rfl⟩ (by decide) rfl rfl dX6_off_88 (Nat.le_of_ble_eq_true rfl)) (sOut2 5 4 (by decide) (by decide) (by decide) wB_5 wB_4) (fun _ => sIn2 5 4 (by decide) (by decide) (by decide) wB_5 wB_4 _) (fun r9 S10 => ?_)
    refine z_aload_n C 0 dX6_off_91 rfl ?_
    refine z_get C fl_RX6_39 (sHas 0 (by decide) wB_0 (fun _ => has_Top_0)) rfl dX6_off_92 ?_
    refine z_iload C 6 dX6_off_95 rfl ?_
    refine y_callVS C (z_invV C [.int v6] [] (ct_X0_takeAway l G (ad 5) (wR ad G.2 S10 5 ++ X) (S10 5) v6) mi_X0_takeAway md_X0_takeAway ms_X0_takeAway ml_RX6_202 has_C_0 ⟨_, rfl, rfl⟩ (by decide) rfl rfl dX6_off_97 (Nat.le_of_ble_eq_true rfl)) (sOut 5 (by decide) wB_5) (fun _ => sIn 5 (by decide) wB_5 _) (fun r11 S12 => ?_)
    refine z_aload_n C 0 dX6_off_100 rfl ?_
    refine z_get C fl_RX6_39 (sHas 0 (by decide) wB_0 (fun _ => has_Top_0)) rfl dX6_off_101 ?_
    refine z_iload_n C 2 dX6_off_104 rfl ?_
    refine y_callVS C (z_invV C [.int v2] [] (ct_X0_passDays l G (ad 5) (wR ad G.2 S12 5 ++ X) (S12 5) v2) mi_X0_passDays md_X0_passDays ms_X0_passDays ml_RX6_185 has_C_0 ⟨_, rfl, rfl⟩ (by decide) rfl rfl dX6_off_105 (Nat.le_of_ble_eq_true rfl)) (sOut 5 (by decide) wB_5) (fun _ => sIn 5 (by decide) wB_5 _) (fun r13 S14 => ?_)
    refine z_aload_n C 0 dX6_off_108 rfl ?_
    refine z_get C fl_RX6_39 (sHas 0 (by decide) wB_0 (fun _ => has_Top_0)) rfl dX6_off_109 ?_
    refine z_iload_n C 1 dX6_off_112 rfl ?_
    refine y_callI C (z_invV C [.int v1] [] (ct_X0_counted l G (ad 5) (wR ad G.2 S14 5 ++ X) (S14 5) v1) mi_X0_counted md_X0_counted ms_X0_counted ml_RX6_135 has_C_0 ⟨_, rfl, rfl⟩ (by decide) rfl rfl dX6_off_113 (Nat.le_of_ble_eq_true rfl)) (sOut 5 (by decide) wB_5) (fun r15 => ?_)
    refine z_istore C [(7, .int r15), (0, .ref (ad 0 0)), (1, .int v1), (2, .int v2), (3, .int v3), (4, .int v4), (5, .int v5), (6, .int v6)] dX6_off_116 (by decide) rfl ?_
    refine z_iload C 0 dX6_off_118 rfl ?_
    refine z_iload C 6 dX6_off_120 rfl ?_
    refine z_icmpge C 133 dX6_off_122 (by decide) ?_ ?_
    · refine z_iinc C (v := (v6 + 1)) 7 [(6, .int (v6 + 1)), (7, .int r15), (0, .ref (ad 0 0)), (1, .int v1), (2, .int v2), (3, .int v3), (4, .int v4), (5, .int v5)] dX6_off_133 rfl rfl (by decide) rfl ?_
      refine z_goto C 68 dX6_off_136 (by decide) ?_
      refine z_loc C [(0, .ref (ad 0 0)), (1, .int v1), (2, .int v2), (3, .int v3), (4, .int v4), (5, .int v5), (6, .int (v6 + 1))] [2, 3, 4, 5, 6, 7, 0] rfl ?_
      exact ih S14 v1 v2 v3 v4 v5 (v6 + 1)
    refine z_iload C 7 dX6_off_125 rfl ?_
    refine z_istore C [(4, .int v6), (7, .int r15), (0, .ref (ad 0 0)), (1, .int v1), (2, .int v2), (3, .int v3), (5, .int v5), (6, .int v6)] dX6_off_127 (by decide) rfl ?_
    refine z_iload C 1 dX6_off_129 rfl ?_
    refine z_istore C [(5, .int r15), (4, .int v6), (7, .int r15), (0, .ref (ad 0 0)), (1, .int v1), (2, .int v2), (3, .int v3), (6, .int v6)] dX6_off_131 (by decide) rfl ?_
    refine z_iinc C (v := (v6 + 1)) 7 [(6, .int (v6 + 1)), (5, .int r15), (4, .int v6), (7, .int r15), (0, .ref (ad 0 0)), (1, .int v1), (2, .int v2), (3, .int v3)] dX6_off_133 rfl rfl (by decide) rfl ?_
    refine z_goto C 68 dX6_off_136 (by decide) ?_
    refine z_loc C [(0, .ref (ad 0 0)), (1, .int v1), (2, .int v2), (3, .int v3), (4, .int v6), (5, .int r15), (6, .int (v6 + 1))] [4, 5, 6, 7, 2, 1, 0] rfl ?_
    exact ih S14 v1 v2 v3 v6 r15 (v6 + 1)
noncomputable def f_X6_off (S : (Nat → zM)) (v1 : Int32) (v2 : Int32) (v3 : Int32) : Option (Int32 × (Nat → zM)) := (f_X0_hasOne (S 4) v1).bind fun r1 => if r1 = true then (f_X6_isWithin v2 0 60).bind fun r2 => if r2 = true then (f_X6_isWithin v3 0 1).bind fun r3 => if r3 = true then (f_X0_copyFrom (S 4) (S 5)).bind fun r4 => zlet (va_up S 5 r4) fun S5 => (f_X0_passDays (S5 5) v2).bind fun r6 => zlet (va_up S5 5 r6) fun S7 => (f_X0_counted (S7 5) v1).bind fun r8 => f_X6_off_68 FU S7 v1 v2 v3 (-4) r8 0 else some ((-1), S) else some ((-1), S) else some ((-1), S)
set_option maxHeartbeats 4000000 in
set_option maxRecDepth 100000 in
theorem ct_X6_off (l : Launch) (G : zG) (ad : Nat → Nat → Nat) (X : va_W) (S : (Nat → zM)) (v1 : Int32) (v2 : Int32) (v3 : Int32) : zCt l yX6_off cX6_off 8 (some .int) 6 G [.ref (ad 0 0), .int v1, .int v2, .int v3] (fun S : Nat → zM => wS ad G.2 S ++ X) (fun r : Int32 × (Nat → zM) => some (.int r.1)) (fun r => r.2) S (f_X6_off S v1 v2 v3) := by
  refine zCt.of (by decide) (Nat.le_of_ble_eq_true rfl) (fun p e s m args below meth c A C => ?_)
  refine y_lv (lv' := [(0, .ref (ad 0 0)), (1, .int v1), (2, .int v2), (3, .int v3)]) rfl ?_
  rw [f_X6_off]
  refine z_aload_n C 0 dX6_off_0 rfl ?_
  refine z_get C fl_RX6_28 (sHas 0 (by decide) wB_0 (fun _ => has_Top_0)) rfl dX6_off_1 ?_
  refine z_iload_n C 1 dX6_off_4 rfl ?_
  refine y_callZ C (z_invV C [.int v1] [] (ct_X0_hasOne l G (ad 4) (wR ad G.2 S 4 ++ X) (S 4) v1) mi_X0_hasOne md_X0_hasOne ms_X0_hasOne ml_RX6_125 has_C_0 ⟨_, rfl, rfl⟩ (by decide) rfl rfl dX6_off_5 (Nat.le_of_ble_eq_true rfl)) (sOut 4 (by decide) wB_4) (fun r1 => ?_)
  refine z_zifeq C 30 dX6_off_8 (by decide) ?_ ?_
  · refine z_iload_n C 2 dX6_off_11 rfl ?_
    refine z_iconst (v := 0) C dX6_off_12 (by decide) ?_
    refine z_bipush (v := 60) C dX6_off_13 (by decide) ?_
    refine y_callZ C (z_invS C [.int v2, .int 0, .int 60] [] (ct_X6_isWithin l G ((fun S : Nat → zM => wS ad G.2 S ++ X) S) v2 0 60) mi_X6_isWithin mt_X6_isWithin ml_RX6_68 (by decide) rfl rfl dX6_off_15 (Nat.le_of_ble_eq_true rfl)) (List.Perm.refl _) (fun r2 => ?_)
    refine z_zifeq C 30 dX6_off_18 (by decide) ?_ ?_
    · refine z_iload_n C 3 dX6_off_21 rfl ?_
      refine z_iconst (v := 0) C dX6_off_22 (by decide) ?_
      refine z_iconst (v := 1) C dX6_off_23 (by decide) ?_
      refine y_callZ C (z_invS C [.int v3, .int 0, .int 1] [] (ct_X6_isWithin l G ((fun S : Nat → zM => wS ad G.2 S ++ X) S) v3 0 1) mi_X6_isWithin mt_X6_isWithin ml_RX6_68 (by decide) rfl rfl dX6_off_24 (Nat.le_of_ble_eq_true rfl)) (List.Perm.refl _) (fun r3 => ?_)
      refine z_zifne C 32 dX6_off_27 (by decide) ?_ ?_
      · refine z_aload_n C 0 dX6_off_32 rfl ?_
        refine z_get C fl_RX6_39 (sHas 0 (by decide) wB_0 (fun _ => has_Top_0)) rfl dX6_off_33 ?_
        refine z_aload_n C 0 dX6_off_36 rfl ?_
        refine z_get C fl_RX6_28 (sHas 0 (by decide) wB_0 (fun _ => has_Top_0)) rfl dX6_off_37 ?_
        refine y_callVS C (z_invV C [.ref (ad 4 0)] [] (ct_X0_copyFrom l G (ad 5) (ad 4) (wR2 ad G.2 S 5 4 ++ X) (S 4) (S 5) ) mi_X0_copyFrom md_X0_copyFrom ms_X0_copyFrom ml_RX6_89 has_C_0 ⟨_, rfl, rfl⟩ (by decide) rfl rfl dX6_off_40 (Nat.le_of_ble_eq_true rfl)) (sOut2 5 4 (by decide) (by decide) (by decide) wB_5 wB_4) (fun _ => sIn2 5 4 (by decide) (by decide) (by decide) wB_5 wB_4 _) (fun r4 S5 => ?_)
        refine z_aload_n C 0 dX6_off_43 rfl ?_
        refine z_get C fl_RX6_39 (sHas 0 (by decide) wB_0 (fun _ => has_Top_0)) rfl dX6_off_44 ?_
        refine z_iload_n C 2 dX6_off_47 rfl ?_
        refine y_callVS C (z_invV C [.int v2] [] (ct_X0_passDays l G (ad 5) (wR ad G.2 S5 5 ++ X) (S5 5) v2) mi_X0_passDays md_X0_passDays ms_X0_passDays ml_RX6_185 has_C_0 ⟨_, rfl, rfl⟩ (by decide) rfl rfl dX6_off_48 (Nat.le_of_ble_eq_true rfl)) (sOut 5 (by decide) wB_5) (fun _ => sIn 5 (by decide) wB_5 _) (fun r6 S7 => ?_)
        refine z_bipush (v := (-4)) C dX6_off_51 (by decide) ?_
        refine z_istore C [(4, .int (-4)), (0, .ref (ad 0 0)), (1, .int v1), (2, .int v2), (3, .int v3)] dX6_off_53 (by decide) rfl ?_
        refine z_aload_n C 1 dX6_off_55 rfl ?_
        refine z_get C fl_RX6_39 (sHas 0 (by decide) wB_0 (fun _ => has_Top_0)) rfl dX6_off_56 ?_
        refine z_iload_n C 2 dX6_off_59 rfl ?_
        refine y_callI C (z_invV C [.int v1] [] (ct_X0_counted l G (ad 5) (wR ad G.2 S7 5 ++ X) (S7 5) v1) mi_X0_counted md_X0_counted ms_X0_counted ml_RX6_135 has_C_0 ⟨_, rfl, rfl⟩ (by decide) rfl rfl dX6_off_60 (Nat.le_of_ble_eq_true rfl)) (sOut 5 (by decide) wB_5) (fun r8 => ?_)
        refine z_istore C [(5, .int r8), (4, .int (-4)), (0, .ref (ad 0 0)), (1, .int v1), (2, .int v2), (3, .int v3)] dX6_off_63 (by decide) rfl ?_
        refine z_iconst (v := 0) C dX6_off_65 (by decide) ?_
        refine z_istore C [(6, .int 0), (5, .int r8), (4, .int (-4)), (0, .ref (ad 0 0)), (1, .int v1), (2, .int v2), (3, .int v3)] dX6_off_66 (by decide) rfl ?_
        refine z_loc C [(0, .ref (ad 0 0)), (1, .int v1), (2, .int v2), (3, .int v3), (4, .int (-4)), (5, .int r8), (6, .int 0)] [3, 4, 5, 6, 2, 1, 0] rfl ?_
        exact w_X6_off_68 C ad X    FU S7 v1 v2 v3 (-4) r8 0
      refine z_iconst (v := (-1)) C dX6_off_30 (by decide) ?_
      exact z_iret C dX6_off_31 rfl rfl rfl
    refine z_iconst (v := (-1)) C dX6_off_30 (by decide) ?_
    exact z_iret C dX6_off_31 rfl rfl rfl
  refine z_iconst (v := (-1)) C dX6_off_30 (by decide) ?_
  exact z_iret C dX6_off_31 rfl rfl rfl
noncomputable def f_X6_runs (S : (Nat → zM)) (v1 : Int32) (v2 : Int32) : Option (Int32 × (Nat → zM)) := (f_X6_isWithin v1 0 60).bind fun r1 => if r1 = true then (f_X6_isWithin v2 0 3).bind fun r2 => if r2 = true then (f_X0_copyFrom (S 4) (S 5)).bind fun r3 => zlet (va_up S 5 r3) fun S4 => if v2 = 3 then (f_X0_daysTillAllSit (S4 5) v1).bind fun r5 => zlet (va_up S4 5 r5.2) fun S6 => some (r5.1, S6) else (f_X0_passDays (S4 5) v1).bind fun r7 => zlet (va_up S4 5 r7) fun S8 => if v2 = 0 then (f_X0_sitting (S8 5)).bind fun r9 => some (r9, S8) else if v2 = 1 then (f_X0_countedOfAll (S8 5)).bind fun r10 => some (r10, S8) else some (((S8 5) 0 3), S8) else some ((-1), S) else some ((-1), S)
set_option maxHeartbeats 4000000 in
set_option maxRecDepth 100000 in
theorem ct_X6_runs (l : Launch) (G : zG) (ad : Nat → Nat → Nat) (X : va_W) (S : (Nat → zM)) (v1 : Int32) (v2 : Int32) : zCt l yX6_runs cX6_runs 3 (some .int) 6 G [.ref (ad 0 0), .int v1, .int v2] (fun S : Nat → zM => wS ad G.2 S ++ X) (fun r : Int32 × (Nat → zM) => some (.int r.1)) (fun r => r.2) S (f_X6_runs S v1 v2) := by
  refine zCt.of (by decide) (Nat.le_of_ble_eq_true rfl) (fun p e s m args below meth c A C => ?_)
  refine y_lv (lv' := [(0, .ref (ad 0 0)), (1, .int v1), (2, .int v2)]) rfl ?_
  rw [f_X6_runs]
  refine z_iload_n C 1 dX6_runs_0 rfl ?_
  refine z_iconst (v := 0) C dX6_runs_1 (by decide) ?_
  refine z_bipush (v := 60) C dX6_runs_2 (by decide) ?_
  refine y_callZ C (z_invS C [.int v1, .int 0, .int 60] [] (ct_X6_isWithin l G ((fun S : Nat → zM => wS ad G.2 S ++ X) S) v1 0 60) mi_X6_isWithin mt_X6_isWithin ml_RX6_68 (by decide) rfl rfl dX6_runs_4 (Nat.le_of_ble_eq_true rfl)) (List.Perm.refl _) (fun r1 => ?_)
  refine z_zifeq C 19 dX6_runs_7 (by decide) ?_ ?_
  · refine z_iload_n C 2 dX6_runs_10 rfl ?_
    refine z_iconst (v := 0) C dX6_runs_11 (by decide) ?_
    refine z_iconst (v := 3) C dX6_runs_12 (by decide) ?_
    refine y_callZ C (z_invS C [.int v2, .int 0, .int 3] [] (ct_X6_isWithin l G ((fun S : Nat → zM => wS ad G.2 S ++ X) S) v2 0 3) mi_X6_isWithin mt_X6_isWithin ml_RX6_68 (by decide) rfl rfl dX6_runs_13 (Nat.le_of_ble_eq_true rfl)) (List.Perm.refl _) (fun r2 => ?_)
    refine z_zifne C 21 dX6_runs_16 (by decide) ?_ ?_
    · refine z_aload_n C 0 dX6_runs_21 rfl ?_
      refine z_get C fl_RX6_39 (sHas 0 (by decide) wB_0 (fun _ => has_Top_0)) rfl dX6_runs_22 ?_
      refine z_aload_n C 0 dX6_runs_25 rfl ?_
      refine z_get C fl_RX6_28 (sHas 0 (by decide) wB_0 (fun _ => has_Top_0)) rfl dX6_runs_26 ?_
      refine y_callVS C (z_invV C [.ref (ad 4 0)] [] (ct_X0_copyFrom l G (ad 5) (ad 4) (wR2 ad G.2 S 5 4 ++ X) (S 4) (S 5) ) mi_X0_copyFrom md_X0_copyFrom ms_X0_copyFrom ml_RX6_89 has_C_0 ⟨_, rfl, rfl⟩ (by decide) rfl rfl dX6_runs_29 (Nat.le_of_ble_eq_true rfl)) (sOut2 5 4 (by decide) (by decide) (by decide) wB_5 wB_4) (fun _ => sIn2 5 4 (by decide) (by decide) (by decide) wB_5 wB_4 _) (fun r3 S4 => ?_)
      refine z_iload_n C 2 dX6_runs_32 rfl ?_
      refine z_iconst (v := 3) C dX6_runs_33 (by decide) ?_
      refine z_icmpne C 46 dX6_runs_34 (by decide) ?_ ?_
      · refine z_aload_n C 0 dX6_runs_37 rfl ?_
        refine z_get C fl_RX6_39 (sHas 0 (by decide) wB_0 (fun _ => has_Top_0)) rfl dX6_runs_38 ?_
        refine z_iload_n C 1 dX6_runs_41 rfl ?_
        refine y_callIS C (z_invV C [.int v1] [] (ct_X0_daysTillAllSit l G (ad 5) (wR ad G.2 S4 5 ++ X) (S4 5) v1) mi_X0_daysTillAllSit md_X0_daysTillAllSit ms_X0_daysTillAllSit ml_RX6_189 has_C_0 ⟨_, rfl, rfl⟩ (by decide) rfl rfl dX6_runs_42 (Nat.le_of_ble_eq_true rfl)) (sOut 5 (by decide) wB_5) (fun _ => sIn 5 (by decide) wB_5 _) (fun r5 S6 => ?_)
        exact z_iret C dX6_runs_45 rfl rfl rfl
      refine z_aload_n C 0 dX6_runs_46 rfl ?_
      refine z_get C fl_RX6_39 (sHas 0 (by decide) wB_0 (fun _ => has_Top_0)) rfl dX6_runs_47 ?_
      refine z_iload_n C 1 dX6_runs_50 rfl ?_
      refine y_callVS C (z_invV C [.int v1] [] (ct_X0_passDays l G (ad 5) (wR ad G.2 S4 5 ++ X) (S4 5) v1) mi_X0_passDays md_X0_passDays ms_X0_passDays ml_RX6_185 has_C_0 ⟨_, rfl, rfl⟩ (by decide) rfl rfl dX6_runs_51 (Nat.le_of_ble_eq_true rfl)) (sOut 5 (by decide) wB_5) (fun _ => sIn 5 (by decide) wB_5 _) (fun r7 S8 => ?_)
      refine z_iload_n C 2 dX6_runs_54 rfl ?_
      refine z_ifne C 66 dX6_runs_55 (by decide) ?_ ?_
      · refine z_aload_n C 0 dX6_runs_58 rfl ?_
        refine z_get C fl_RX6_39 (sHas 0 (by decide) wB_0 (fun _ => has_Top_0)) rfl dX6_runs_59 ?_
        refine y_callI C (z_invV C [] [] (ct_X0_sitting l G (ad 5) (wR ad G.2 S8 5 ++ X) (S8 5) ) mi_X0_sitting md_X0_sitting ms_X0_sitting ml_RX6_115 has_C_0 ⟨_, rfl, rfl⟩ (by decide) rfl rfl dX6_runs_62 (Nat.le_of_ble_eq_true rfl)) (sOut 5 (by decide) wB_5) (fun r9 => ?_)
        exact z_iret C dX6_runs_65 rfl rfl rfl
      refine z_iload_n C 2 dX6_runs_66 rfl ?_
      refine z_iconst (v := 1) C dX6_runs_67 (by decide) ?_
      refine z_icmpne C 81 dX6_runs_68 (by decide) ?_ ?_
      · refine z_aload_n C 0 dX6_runs_71 rfl ?_
        refine z_get C fl_RX6_39 (sHas 0 (by decide) wB_0 (fun _ => has_Top_0)) rfl dX6_runs_72 ?_
        refine y_callI C (z_invV C [] [] (ct_X0_countedOfAll l G (ad 5) (wR ad G.2 S8 5 ++ X) (S8 5) ) mi_X0_countedOfAll md_X0_countedOfAll ms_X0_countedOfAll ml_RX6_119 has_C_0 ⟨_, rfl, rfl⟩ (by decide) rfl rfl dX6_runs_75 (Nat.le_of_ble_eq_true rfl)) (sOut 5 (by decide) wB_5) (fun r10 => ?_)
        refine z_goto C 88 dX6_runs_78 (by decide) ?_
        exact z_iret C dX6_runs_88 rfl rfl rfl
      refine z_aload_n C 0 dX6_runs_81 rfl ?_
      refine z_get C fl_RX6_39 (sHas 0 (by decide) wB_0 (fun _ => has_Top_0)) rfl dX6_runs_82 ?_
      refine z_get C fl_RX6_192 (sHas 5 (by decide) wB_5 (fun _ => has_C_0)) rfl dX6_runs_85 ?_
      exact z_iret C dX6_runs_88 rfl rfl rfl
    refine z_iconst (v := (-1)) C dX6_runs_19 (by decide) ?_
    exact z_iret C dX6_runs_20 rfl rfl rfl
  refine z_iconst (v := (-1)) C dX6_runs_19 (by decide) ?_
  exact z_iret C dX6_runs_20 rfl rfl rfl
noncomputable def f_X6_shed_42 : Nat → (Nat → zM) → Int32 → Int32 → Int32 → Int32 → Int32 → Int32 → Option (Int32 × (Nat → zM))
  | 0, _, _, _, _, _, _, _ => none
  | n + 1, S, v1, v2, v3, v4, v5, v6 => if 9 < v6 then if v3 = 0 then some (v4, S) else some (v5, S) else (f_X0_copyFrom (S 4) (S 5)).bind fun r4 => zlet (va_up S 5 r4) fun S5 => if z_in v1 4 = true then zlet (va_up S5 5 (zU (S5 5) 1 (Int32.toNatClampNeg v1) v6)) (fun S6 => (f_X0_passDays (S6 5) v2).bind fun r7 => zlet (va_up S6 5 r7) fun S8 => (f_X0_counted (S8 5) v1).bind fun r9 => if v4 = (-4) then f_X6_shed_42 n S8 v1 v2 v3 v6 r9 (v6 + 1) else if v5 ≤ r9 then f_X6_shed_42 n S8 v1 v2 v3 v4 v5 (v6 + 1) else f_X6_shed_42 n S8 v1 v2 v3 v6 r9 (v6 + 1)) else none
set_option maxHeartbeats 4000000 in
set_option maxRecDepth 100000 in
theorem w_X6_shed_42 {p : Program} {l : Launch} {e : Env} {s : State} {m : MethodId} {args : Array Value} {below : List Frame} {meth : Method} {c : Code} {G : zG} {A : Nat → Prop} (C : zC p s m args meth c RX6 cX6_shed 8 (some .int) G A) (ad : Nat → Nat → Nat) (X : va_W) : ∀ (n : Nat) (S : (Nat → zM)) (v1 : Int32) (v2 : Int32) (v3 : Int32) (v4 : Int32) (v5 : Int32) (v6 : Int32), PW p l e 6 s m args below meth c G A 8 (fun S : Nat → zM => wS ad G.2 S ++ X) (fun r : Int32 × (Nat → zM) => some (.int r.1)) (fun r => r.2) S [(0, .ref (ad 0 0)), (1, .int v1), (2, .int v2), (3, .int v3), (4, .int v4), (5, .int v5), (6, .int v6)] 42 [] (f_X6_shed_42 n S v1 v2 v3 v4 v5 v6) := by
  intro n
  induction n with
  | zero => intros; exact z_none
  | succ n ih =>
    intro S v1 v2 v3 v4 v5 v6
    rw [f_X6_shed_42]
    refine z_iload C 6 dX6_shed_42 rfl ?_
    refine z_bipush (v := 9) C dX6_shed_44 (by decide) ?_
    refine z_icmpgt C 117 dX6_shed_46 (by decide) ?_ ?_
    · refine z_iload_n C 3 dX6_shed_117 rfl ?_
      refine z_ifne C 126 dX6_shed_118 (by decide) ?_ ?_
      · refine z_iload C 4 dX6_shed_121 rfl ?_
        refine z_goto C 128 dX6_shed_123 (by decide) ?_
        exact z_iret C dX6_shed_128 rfl rfl rfl
      refine z_iload C 5 dX6_shed_126 rfl ?_
      exact z_iret C dX6_shed_128 rfl rfl rfl
    refine z_aload_n C 0 dX6_shed_49 rfl ?_
    refine z_get C fl_RX6_39 (sHas 0 (by decide) wB_0 (fun _ => has_Top_0)) rfl dX6_shed_50 ?_
    refine z_aload_n C 0 dX6_shed_53 rfl ?_
    refine z_get C fl_RX6_28 (sHas 0 (by decide) wB_0 (fun _ => has_Top_0)) rfl dX6_shed_54 ?_
    refine y_callVS C (z_invV C [.ref (ad 4 0)] [] (ct_X0_copyFrom l G (ad 5) (ad 4) (wR2 ad G.2 S 5 4 ++ X) (S 4) (S 5) ) mi_X0_copyFrom md_X0_copyFrom ms_X0_copyFrom ml_RX6_89 has_C_0 ⟨_, rfl, rfl⟩ (by decide) rfl rfl dX6_shed_57 (Nat.le_of_ble_eq_true rfl)) (sOut2 5 4 (by decide) (by decide) (by decide) wB_5 wB_4) (fun _ => sIn2 5 4 (by decide) (by decide) (by decide) wB_5 wB_4 _) (fun r4 S5 => ?_)
    refine z_aload_n C 0 dX6_shed_60 rfl ?_
    refine z_get C fl_RX6_39 (sHas 0 (by decide) wB_0 (fun _ => has_Top_0)) rfl dX6_shed_61 ?_
    refine z_get C fl_RX6_128 (sHas 5 (by decide) wB_5 (fun _ => has_C_0)) rfl dX6_shed_64 ?_
    refine z_iload_n C 1 dX6_shed_67 rfl ?_
    refine z_iload C 6 dX6_shed_68 rfl ?_
    refine y_iast C (sUpd 5 (by decide) wB_5 (fun _ => upd_C_1)) dX6_shed_70 (fun S6 => ?_)
    refine z_aload_n C 0 dX6_shed_71 rfl ?_
    refine z_get C fl_RX6_39 (sHas 0 (by decide) wB_0 (fun _ => has_Top_0)) rfl dX6_shed_72 ?_
    refine z_iload_n C 2 dX6_shed_75 rfl ?_
    refine y_callVS C (z_invV C [.int v2] [] (ct_X0_passDays l G (ad 5) (wR ad G.2 S6 5 ++ X) (S6 5) v2) mi_X0_passDays md_X0_passDays ms_X0_passDays ml_RX6_185 has_C_0 ⟨_, rfl, rfl⟩ (by decide) rfl rfl dX6_shed_76 (Nat.le_of_ble_eq_true rfl)) (sOut 5 (by decide) wB_5) (fun _ => sIn 5 (by decide) wB_5 _) (fun r7 S8 => ?_)
    refine z_aload_n C 0 dX6_shed_79 rfl ?_
    refine z_get C fl_RX6_39 (sHas 0 (by decide) wB_0 (fun _ => has_Top_0)) rfl dX6_shed_80 ?_
    refine z_iload_n C 1 dX6_shed_83 rfl ?_
    refine y_callI C (z_invV C [.int v1] [] (ct_X0_counted l G (ad 5) (wR ad G.2 S8 5 ++ X) (S8 5) v1) mi_X0_counted md_X0_counted ms_X0_counted ml_RX6_135 has_C_0 ⟨_, rfl, rfl⟩ (by decide) rfl rfl dX6_shed_84 (Nat.le_of_ble_eq_true rfl)) (sOut 5 (by decide) wB_5) (fun r9 => ?_)
    refine z_istore C [(7, .int r9), (0, .ref (ad 0 0)), (1, .int v1), (2, .int v2), (3, .int v3), (4, .int v4), (5, .int v5), (6, .int v6)] dX6_shed_87 (by decide) rfl ?_
    refine z_iload C 5 dX6_shed_89 rfl ?_
    refine z_bipush (v := (-4)) C dX6_shed_91 (by decide) ?_
    refine z_icmpeq C 103 dX6_shed_93 (by decide) ?_ ?_
    · refine z_iload C 7 dX6_shed_103 rfl ?_
      refine z_istore C [(4, .int v6), (7, .int r9), (0, .ref (ad 0 0)), (1, .int v1), (2, .int v2), (3, .int v3), (5, .int v5), (6, .int v6)] dX6_shed_105 (by decide) rfl ?_
      refine z_iload C 1 dX6_shed_107 rfl ?_
      refine z_istore C [(5, .int r9), (4, .int v6), (7, .int r9), (0, .ref (ad 0 0)), (1, .int v1), (2, .int v2), (3, .int v3), (6, .int v6)] dX6_shed_109 (by decide) rfl ?_
      refine z_iinc C (v := (v6 + 1)) 7 [(6, .int (v6 + 1)), (5, .int r9), (4, .int v6), (7, .int r9), (0, .ref (ad 0 0)), (1, .int v1), (2, .int v2), (3, .int v3)] dX6_shed_111 rfl rfl (by decide) rfl ?_
      refine z_goto C 42 dX6_shed_114 (by decide) ?_
      refine z_loc C [(0, .ref (ad 0 0)), (1, .int v1), (2, .int v2), (3, .int v3), (4, .int v6), (5, .int r9), (6, .int (v6 + 1))] [4, 5, 6, 7, 2, 1, 0] rfl ?_
      exact ih S8 v1 v2 v3 v6 r9 (v6 + 1)
    refine z_iload C 0 dX6_shed_96 rfl ?_
    refine z_iload C 6 dX6_shed_98 rfl ?_
    refine z_icmpge C 111 dX6_shed_100 (by decide) ?_ ?_
    · refine z_iinc C (v := (v6 + 1)) 7 [(6, .int (v6 + 1)), (7, .int r9), (0, .ref (ad 0 0)), (1, .int v1), (2, .int v2), (3, .int v3), (4, .int v4), (5, .int v5)] dX6_shed_111 rfl rfl (by decide) rfl ?_
      refine z_goto C 42 dX6_shed_114 (by decide) ?_
      refine z_loc C [(0, .ref (ad 0 0)), (1, .int v1), (2, .int v2), (3, .int v3), (4, .int v4), (5, .int v5), (6, .int (v6 + 1))] [2, 3, 4, 5, 6, 7, 0] rfl ?_
      exact ih S8 v1 v2 v3 v4 v5 (v6 + 1)
    refine z_iload C 7 dX6_shed_103 rfl ?_
    refine z_istore C [(4, .int v6), (7, .int r9), (0, .ref (ad 0 0)), (1, .int v1), (2, .int v2), (3, .int v3), (5, .int v5), (6, .int v6)] dX6_shed_105 (by decide) rfl ?_
    refine z_iload C 1 dX6_shed_107 rfl ?_
    refine z_istore C [(5, .int r9), (4, .int v6), (7, .int r9), (0, .ref (ad 0 0)), (1, .int v1), (2, .int v2), (3, .int v3), (6, .int v6)] dX6_shed_109 (by decide) rfl ?_
    refine z_iinc C (v := (v6 + 1)) 7 [(6, .int (v6 + 1)), (5, .int r9), (4, .int v6), (7, .int r9), (0, .ref (ad 0 0)), (1, .int v1), (2, .int v2), (3, .int v3)] dX6_shed_111 rfl rfl (by decide) rfl ?_
    refine z_goto C 42 dX6_shed_114 (by decide) ?_
    refine z_loc C [(0, .ref (ad 0 0)), (1, .int v1), (2, .int v2), (3, .int v3), (4, .int v6), (5, .int r9), (6, .int (v6 + 1))] [4, 5, 6, 7, 2, 1, 0] rfl ?_
    exact ih S8 v1 v2 v3 v6 r9 (v6 + 1)
noncomputable def f_X6_shed (S : (Nat → zM)) (v1 : Int32) (v2 : Int32) (v3 : Int32) : Option (Int32 × (Nat → zM)) := (f_X0_hasOne (S 4) v1).bind fun r1 => if r1 = true then (f_X6_isWithin v2 0 60).bind fun r2 => if r2 = true then (f_X6_isWithin v3 0 1).bind fun r3 => if r3 = true then f_X6_shed_42 FU S v1 v2 v3 (-4) 0 0 else some ((-1), S) else some ((-1), S) else some ((-1), S)
set_option maxHeartbeats 4000000 in
set_option maxRecDepth 100000 in
theorem ct_X6_shed (l : Launch) (G : zG) (ad : Nat → Nat → Nat) (X : va_W) (S : (Nat → zM)) (v1 : Int32) (v2 : Int32) (v3 : Int32) : zCt l yX6_shed cX6_shed 8 (some .int) 6 G [.ref (ad 0 0), .int v1, .int v2, .int v3] (fun S : Nat → zM => wS ad G.2 S ++ X) (fun r : Int32 × (Nat → zM) => some (.int r.1)) (fun r => r.2) S (f_X6_shed S v1 v2 v3) := by
  refine zCt.of (by decide) (Nat.le_of_ble_eq_true rfl) (fun p e s m args below meth c A C => ?_)
  refine y_lv (lv' := [(0, .ref (ad 0 0)), (1, .int v1), (2, .int v2), (3, .int v3)]) rfl ?_
  rw [f_X6_shed]
  refine z_aload_n C 0 dX6_shed_0 rfl ?_
  refine z_get C fl_RX6_28 (sHas 0 (by decide) wB_0 (fun _ => has_Top_0)) rfl dX6_shed_1 ?_
  refine z_iload_n C 1 dX6_shed_4 rfl ?_
  refine y_callZ C (z_invV C [.int v1] [] (ct_X0_hasOne l G (ad 4) (wR ad G.2 S 4 ++ X) (S 4) v1) mi_X0_hasOne md_X0_hasOne ms_X0_hasOne ml_RX6_125 has_C_0 ⟨_, rfl, rfl⟩ (by decide) rfl rfl dX6_shed_5 (Nat.le_of_ble_eq_true rfl)) (sOut 4 (by decide) wB_4) (fun r1 => ?_)
  refine z_zifeq C 30 dX6_shed_8 (by decide) ?_ ?_
  · refine z_iload_n C 2 dX6_shed_11 rfl ?_
    refine z_iconst (v := 0) C dX6_shed_12 (by decide) ?_
    refine z_bipush (v := 60) C dX6_shed_13 (by decide) ?_
    refine y_callZ C (z_invS C [.int v2, .int 0, .int 60] [] (ct_X6_isWithin l G ((fun S : Nat → zM => wS ad G.2 S ++ X) S) v2 0 60) mi_X6_isWithin mt_X6_isWithin ml_RX6_68 (by decide) rfl rfl dX6_shed_15 (Nat.le_of_ble_eq_true rfl)) (List.Perm.refl _) (fun r2 => ?_)
    refine z_zifeq C 30 dX6_shed_18 (by decide) ?_ ?_
    · refine z_iload_n C 3 dX6_shed_21 rfl ?_
      refine z_iconst (v := 0) C dX6_shed_22 (by decide) ?_
      refine z_iconst (v := 1) C dX6_shed_23 (by decide) ?_
      refine y_callZ C (z_invS C [.int v3, .int 0, .int 1] [] (ct_X6_isWithin l G ((fun S : Nat → zM => wS ad G.2 S ++ X) S) v3 0 1) mi_X6_isWithin mt_X6_isWithin ml_RX6_68 (by decide) rfl rfl dX6_shed_24 (Nat.le_of_ble_eq_true rfl)) (List.Perm.refl _) (fun r3 => ?_)
      refine z_zifne C 32 dX6_shed_27 (by decide) ?_ ?_
      · refine z_bipush (v := (-4)) C dX6_shed_32 (by decide) ?_
        refine z_istore C [(4, .int (-4)), (0, .ref (ad 0 0)), (1, .int v1), (2, .int v2), (3, .int v3)] dX6_shed_34 (by decide) rfl ?_
        refine z_iconst (v := 0) C dX6_shed_36 (by decide) ?_
        refine z_istore C [(5, .int 0), (4, .int (-4)), (0, .ref (ad 0 0)), (1, .int v1), (2, .int v2), (3, .int v3)] dX6_shed_37 (by decide) rfl ?_
        refine z_iconst (v := 0) C dX6_shed_39 (by decide) ?_
        refine z_istore C [(6, .int 0), (5, .int 0), (4, .int (-4)), (0, .ref (ad 0 0)), (1, .int v1), (2, .int v2), (3, .int v3)] dX6_shed_40 (by decide) rfl ?_
        refine z_loc C [(0, .ref (ad 0 0)), (1, .int v1), (2, .int v2), (3, .int v3), (4, .int (-4)), (5, .int 0), (6, .int 0)] [3, 4, 5, 6, 2, 1, 0] rfl ?_
        exact w_X6_shed_42 C ad X    FU S v1 v2 v3 (-4) 0 0
      refine z_iconst (v := (-1)) C dX6_shed_30 (by decide) ?_
      exact z_iret C dX6_shed_31 rfl rfl rfl
    refine z_iconst (v := (-1)) C dX6_shed_30 (by decide) ?_
    exact z_iret C dX6_shed_31 rfl rfl rfl
  refine z_iconst (v := (-1)) C dX6_shed_30 (by decide) ?_
  exact z_iret C dX6_shed_31 rfl rfl rfl
noncomputable def f_X6_swap_73 (k55 : (Nat → zM) → Int32 → Int32 → Int32 → Int32 → Int32 → Option (Int32 × (Nat → zM))) : Nat → (Nat → zM) → Int32 → Int32 → Int32 → Int32 → Int32 → Int32 → Option (Int32 × (Nat → zM))
  | 0, _, _, _, _, _, _, _ => none
  | n + 1, S, v1, v2, v3, v4, v5, v6 => if ((S 4) 0 0) ≤ v6 then k55 S v1 v2 v3 v4 (v5 + 1) else (f_X0_copyFrom (S 4) (S 5)).bind fun r8 => zlet (va_up S 5 r8) fun S9 => if z_in v6 4 = true then if z_in v5 4 = true then zlet (va_up S9 5 (zU (S9 5) 1 (Int32.toNatClampNeg v5) ((S9 4) 1 (Int32.toNatClampNeg v6)))) (fun S10 => if z_in v5 4 = true then if z_in v6 4 = true then zlet (va_up S10 5 (zU (S10 5) 1 (Int32.toNatClampNeg v6) ((S10 4) 1 (Int32.toNatClampNeg v5)))) (fun S11 => (f_X0_passDays (S11 5) v1).bind fun r12 => zlet (va_up S11 5 r12) fun S13 => (f_X0_countedOfAll (S13 5)).bind fun r14 => if r14 ≤ v4 then f_X6_swap_73 k55 n S13 v1 v2 v3 v4 v5 (v6 + 1) else f_X6_swap_73 k55 n S13 v1 v2 ((10 * v5) + v6) r14 v5 (v6 + 1)) else none else none) else none else none
set_option maxHeartbeats 4000000 in
set_option maxRecDepth 100000 in
theorem w_X6_swap_73 {p : Program} {l : Launch} {e : Env} {s : State} {m : MethodId} {args : Array Value} {below : List Frame} {meth : Method} {c : Code} {G : zG} {A : Nat → Prop} (C : zC p s m args meth c RX6 cX6_swap 8 (some .int) G A) (ad : Nat → Nat → Nat) (X : va_W) (k55 : (Nat → zM) → Int32 → Int32 → Int32 → Int32 → Int32 → Option (Int32 × (Nat → zM))) (hk55 : ∀ (S : (Nat → zM)) (v1 : Int32) (v2 : Int32) (v3 : Int32) (v4 : Int32) (v5 : Int32), PW p l e 6 s m args below meth c G A 8 (fun S : Nat → zM => wS ad G.2 S ++ X) (fun r : Int32 × (Nat → zM) => some (.int r.1)) (fun r => r.2) S [(0, .ref (ad 0 0)), (1, .int v1), (2, .int v2), (3, .int v3), (4, .int v4), (5, .int v5)] 55 [] (k55 S v1 v2 v3 v4 v5)) : ∀ (n : Nat) (S : (Nat → zM)) (v1 : Int32) (v2 : Int32) (v3 : Int32) (v4 : Int32) (v5 : Int32) (v6 : Int32), PW p l e 6 s m args below meth c G A 8 (fun S : Nat → zM => wS ad G.2 S ++ X) (fun r : Int32 × (Nat → zM) => some (.int r.1)) (fun r => r.2) S [(0, .ref (ad 0 0)), (1, .int v1), (2, .int v2), (3, .int v3), (4, .int v4), (5, .int v5), (6, .int v6)] 73 [] (f_X6_swap_73 k55 n S v1 v2 v3 v4 v5 v6) := by
  intro n
  induction n with
  | zero => intros; exact z_none
  | succ n ih =>
    intro S v1 v2 v3 v4 v5 v6
    rw [f_X6_swap_73]
    refine z_iload C 6 dX6_swap_73 rfl ?_
    refine z_aload_n C 0 dX6_swap_75 rfl ?_
    refine z_get C fl_RX6_28 (sHas 0 (by decide) wB_0 (fun _ => has_Top_0)) rfl dX6_swap_76 ?_
    refine z_get C fl_RX6_106 (sHas 4 (by decide) wB_4 (fun _ => has_C_0)) rfl dX6_swap_79 ?_
    refine z_icmpge C 179 dX6_swap_82 (by decide) ?_ ?_
    · refine z_iinc C (v := (v5 + 1)) 5 [(5, .int (v5 + 1)), (0, .ref (ad 0 0)), (1, .int v1), (2, .int v2), (3, .int v3), (4, .int v4), (6, .int v6)] dX6_swap_179 rfl rfl (by decide) rfl ?_
      refine z_goto C 55 dX6_swap_182 (by decide) ?_
      refine z_loc C [(0, .ref (ad 0 0)), (1, .int v1), (2, .int v2), (3, .int v3), (4, .int v4), (5, .int (v5 + 1))] [1, 2, 3, 4, 5, 0] rfl ?_
      exact hk55 S v1 v2 v3 v4 (v5 + 1)
    refine z_aload_n C 0 dX6_swap_85 rfl ?_
    refine z_get C fl_RX6_39 (sHas 0 (by decide) wB_0 (fun _ => has_Top_0)) rfl dX6_swap_86 ?_
    refine z_aload_n C 0 dX6_swap_89 rfl ?_
    refine z_get C fl_RX6_28 (sHas 0 (by decide) wB_0 (fun _ => has_Top_0)) rfl dX6_swap_90 ?_
    refine y_callVS C (z_invV C [.ref (ad 4 0)] [] (ct_X0_copyFrom l G (ad 5) (ad 4) (wR2 ad G.2 S 5 4 ++ X) (S 4) (S 5) ) mi_X0_copyFrom md_X0_copyFrom ms_X0_copyFrom ml_RX6_89 has_C_0 ⟨_, rfl, rfl⟩ (by decide) rfl rfl dX6_swap_93 (Nat.le_of_ble_eq_true rfl)) (sOut2 5 4 (by decide) (by decide) (by decide) wB_5 wB_4) (fun _ => sIn2 5 4 (by decide) (by decide) (by decide) wB_5 wB_4 _) (fun r8 S9 => ?_)
    refine z_aload_n C 0 dX6_swap_96 rfl ?_
    refine z_get C fl_RX6_39 (sHas 0 (by decide) wB_0 (fun _ => has_Top_0)) rfl dX6_swap_97 ?_
    refine z_get C fl_RX6_128 (sHas 5 (by decide) wB_5 (fun _ => has_C_0)) rfl dX6_swap_100 ?_
    refine z_iload C 5 dX6_swap_103 rfl ?_
    refine z_aload_n C 0 dX6_swap_105 rfl ?_
    refine z_get C fl_RX6_28 (sHas 0 (by decide) wB_0 (fun _ => has_Top_0)) rfl dX6_swap_106 ?_
    refine z_get C fl_RX6_128 (sHas 4 (by decide) wB_4 (fun _ => has_C_0)) rfl dX6_swap_109 ?_
    refine z_iload C 6 dX6_swap_112 rfl ?_
    refine y_iald C (sHas 4 (by decide) wB_4 (fun _ => has_C_1)) dX6_swap_114 ?_
    refine y_iast C (sUpd 5 (by decide) wB_5 (fun _ => upd_C_1)) dX6_swap_115 (fun S10 => ?_)
    refine z_aload_n C 0 dX6_swap_116 rfl ?_
    refine z_get C fl_RX6_39 (sHas 0 (by decide) wB_0 (fun _ => has_Top_0)) rfl dX6_swap_117 ?_
    refine z_get C fl_RX6_128 (sHas 5 (by decide) wB_5 (fun _ => has_C_0)) rfl dX6_swap_120 ?_
    refine z_iload C 6 dX6_swap_123 rfl ?_
    refine z_aload_n C 0 dX6_swap_125 rfl ?_
    refine z_get C fl_RX6_28 (sHas 0 (by decide) wB_0 (fun _ => has_Top_0)) rfl dX6_swap_126 ?_
    refine z_get C fl_RX6_128 (sHas 4 (by decide) wB_4 (fun _ => has_C_0)) rfl dX6_swap_129 ?_
    refine z_iload C 5 dX6_swap_132 rfl ?_
    refine y_iald C (sHas 4 (by decide) wB_4 (fun _ => has_C_1)) dX6_swap_134 ?_
    refine y_iast C (sUpd 5 (by decide) wB_5 (fun _ => upd_C_1)) dX6_swap_135 (fun S11 => ?_)
    refine z_aload_n C 0 dX6_swap_136 rfl ?_
    refine z_get C fl_RX6_39 (sHas 0 (by decide) wB_0 (fun _ => has_Top_0)) rfl dX6_swap_137 ?_
    refine z_iload_n C 1 dX6_swap_140 rfl ?_
    refine y_callVS C (z_invV C [.int v1] [] (ct_X0_passDays l G (ad 5) (wR ad G.2 S11 5 ++ X) (S11 5) v1) mi_X0_passDays md_X0_passDays ms_X0_passDays ml_RX6_185 has_C_0 ⟨_, rfl, rfl⟩ (by decide) rfl rfl dX6_swap_141 (Nat.le_of_ble_eq_true rfl)) (sOut 5 (by decide) wB_5) (fun _ => sIn 5 (by decide) wB_5 _) (fun r12 S13 => ?_)
    refine z_aload_n C 0 dX6_swap_144 rfl ?_
    refine z_get C fl_RX6_39 (sHas 0 (by decide) wB_0 (fun _ => has_Top_0)) rfl dX6_swap_145 ?_
    refine y_callI C (z_invV C [] [] (ct_X0_countedOfAll l G (ad 5) (wR ad G.2 S13 5 ++ X) (S13 5) ) mi_X0_countedOfAll md_X0_countedOfAll ms_X0_countedOfAll ml_RX6_119 has_C_0 ⟨_, rfl, rfl⟩ (by decide) rfl rfl dX6_swap_148 (Nat.le_of_ble_eq_true rfl)) (sOut 5 (by decide) wB_5) (fun r14 => ?_)
    refine z_istore C [(7, .int r14), (0, .ref (ad 0 0)), (1, .int v1), (2, .int v2), (3, .int v3), (4, .int v4), (5, .int v5), (6, .int v6)] dX6_swap_151 (by decide) rfl ?_
    refine z_iload C 0 dX6_swap_153 rfl ?_
    refine z_iload C 5 dX6_swap_155 rfl ?_
    refine z_icmple C 173 dX6_swap_157 (by decide) ?_ ?_
    · refine z_iinc C (v := (v6 + 1)) 7 [(6, .int (v6 + 1)), (7, .int r14), (0, .ref (ad 0 0)), (1, .int v1), (2, .int v2), (3, .int v3), (4, .int v4), (5, .int v5)] dX6_swap_173 rfl rfl (by decide) rfl ?_
      refine z_goto C 73 dX6_swap_176 (by decide) ?_
      refine z_loc C [(0, .ref (ad 0 0)), (1, .int v1), (2, .int v2), (3, .int v3), (4, .int v4), (5, .int v5), (6, .int (v6 + 1))] [2, 3, 4, 5, 6, 7, 0] rfl ?_
      exact ih S13 v1 v2 v3 v4 v5 (v6 + 1)
    refine z_bipush (v := 10) C dX6_swap_160 (by decide) ?_
    refine z_iload C 6 dX6_swap_162 rfl ?_
    refine z_imul C dX6_swap_164 ?_
    refine z_iload C 7 dX6_swap_165 rfl ?_
    refine z_iadd C dX6_swap_167 ?_
    refine z_istore_n C [(3, .int ((10 * v5) + v6)), (7, .int r14), (0, .ref (ad 0 0)), (1, .int v1), (2, .int v2), (4, .int v4), (5, .int v5), (6, .int v6)] dX6_swap_168 (by decide) rfl ?_
    refine z_iload C 1 dX6_swap_169 rfl ?_
    refine z_istore C [(4, .int r14), (3, .int ((10 * v5) + v6)), (7, .int r14), (0, .ref (ad 0 0)), (1, .int v1), (2, .int v2), (5, .int v5), (6, .int v6)] dX6_swap_171 (by decide) rfl ?_
    refine z_iinc C (v := (v6 + 1)) 7 [(6, .int (v6 + 1)), (4, .int r14), (3, .int ((10 * v5) + v6)), (7, .int r14), (0, .ref (ad 0 0)), (1, .int v1), (2, .int v2), (5, .int v5)] dX6_swap_173 rfl rfl (by decide) rfl ?_
    refine z_goto C 73 dX6_swap_176 (by decide) ?_
    refine z_loc C [(0, .ref (ad 0 0)), (1, .int v1), (2, .int v2), (3, .int ((10 * v5) + v6)), (4, .int r14), (5, .int v5), (6, .int (v6 + 1))] [4, 5, 6, 2, 1, 7, 0] rfl ?_
    exact ih S13 v1 v2 ((10 * v5) + v6) r14 v5 (v6 + 1)
noncomputable def f_X6_swap_55 : Nat → (Nat → zM) → Int32 → Int32 → Int32 → Int32 → Int32 → Option (Int32 × (Nat → zM))
  | 0, _, _, _, _, _, _ => none
  | n + 1, S, v1, v2, v3, v4, v5 => if ((S 4) 0 0) ≤ v5 then if v2 = 0 then some (v3, S) else if v3 = (-4) then some (v3, S) else some (v4, S) else f_X6_swap_73 (fun S v1 v2 v3 v4 v5 => f_X6_swap_55 n S v1 v2 v3 v4 v5) FU S v1 v2 v3 v4 v5 (v5 + 1)
set_option maxHeartbeats 4000000 in
set_option maxRecDepth 100000 in
theorem w_X6_swap_55 {p : Program} {l : Launch} {e : Env} {s : State} {m : MethodId} {args : Array Value} {below : List Frame} {meth : Method} {c : Code} {G : zG} {A : Nat → Prop} (C : zC p s m args meth c RX6 cX6_swap 8 (some .int) G A) (ad : Nat → Nat → Nat) (X : va_W) : ∀ (n : Nat) (S : (Nat → zM)) (v1 : Int32) (v2 : Int32) (v3 : Int32) (v4 : Int32) (v5 : Int32), PW p l e 6 s m args below meth c G A 8 (fun S : Nat → zM => wS ad G.2 S ++ X) (fun r : Int32 × (Nat → zM) => some (.int r.1)) (fun r => r.2) S [(0, .ref (ad 0 0)), (1, .int v1), (2, .int v2), (3, .int v3), (4, .int v4), (5, .int v5)] 55 [] (f_X6_swap_55 n S v1 v2 v3 v4 v5) := by
  intro n
  induction n with
  | zero => intros; exact z_none
  | succ n ih =>
    intro S v1 v2 v3 v4 v5
    rw [f_X6_swap_55]
    refine z_iload C 5 dX6_swap_55 rfl ?_
    refine z_aload_n C 0 dX6_swap_57 rfl ?_
    refine z_get C fl_RX6_28 (sHas 0 (by decide) wB_0 (fun _ => has_Top_0)) rfl dX6_swap_58 ?_
    refine z_get C fl_RX6_106 (sHas 4 (by decide) wB_4 (fun _ => has_C_0)) rfl dX6_swap_61 ?_
    refine z_icmpge C 185 dX6_swap_64 (by decide) ?_ ?_
    · refine z_iload_n C 2 dX6_swap_185 rfl ?_
      refine z_ifeq C 195 dX6_swap_186 (by decide) ?_ ?_
      · refine z_iload_n C 3 dX6_swap_195 rfl ?_
        refine z_goto C 201 dX6_swap_196 (by decide) ?_
        exact z_iret C dX6_swap_201 rfl rfl rfl
      refine z_iload_n C 3 dX6_swap_189 rfl ?_
      refine z_bipush (v := (-4)) C dX6_swap_190 (by decide) ?_
      refine z_icmpne C 199 dX6_swap_192 (by decide) ?_ ?_
      · refine z_iload_n C 3 dX6_swap_195 rfl ?_
        refine z_goto C 201 dX6_swap_196 (by decide) ?_
        exact z_iret C dX6_swap_201 rfl rfl rfl
      refine z_iload C 4 dX6_swap_199 rfl ?_
      exact z_iret C dX6_swap_201 rfl rfl rfl
    refine z_iload C 5 dX6_swap_67 rfl ?_
    refine z_iconst (v := 1) C dX6_swap_69 (by decide) ?_
    refine z_iadd C dX6_swap_70 ?_
    refine z_istore C [(6, .int (v5 + 1)), (0, .ref (ad 0 0)), (1, .int v1), (2, .int v2), (3, .int v3), (4, .int v4), (5, .int v5)] dX6_swap_71 (by decide) rfl ?_
    refine z_loc C [(0, .ref (ad 0 0)), (1, .int v1), (2, .int v2), (3, .int v3), (4, .int v4), (5, .int v5), (6, .int (v5 + 1))] [1, 2, 3, 4, 5, 6, 0] rfl ?_
    exact w_X6_swap_73 C ad X  (fun S v1 v2 v3 v4 v5 => f_X6_swap_55 n S v1 v2 v3 v4 v5) ih FU S v1 v2 v3 v4 v5 (v5 + 1)
noncomputable def f_X6_swap (S : (Nat → zM)) (v1 : Int32) (v2 : Int32) : Option (Int32 × (Nat → zM)) := (f_X6_isWithin v1 0 60).bind fun r1 => if r1 = true then (f_X6_isWithin v2 0 1).bind fun r2 => if r2 = true then (f_X0_copyFrom (S 4) (S 5)).bind fun r3 => zlet (va_up S 5 r3) fun S4 => (f_X0_passDays (S4 5) v1).bind fun r5 => zlet (va_up S4 5 r5) fun S6 => (f_X0_countedOfAll (S6 5)).bind fun r7 => f_X6_swap_55 FU S6 v1 v2 (-4) r7 0 else some ((-1), S) else some ((-1), S)
set_option maxHeartbeats 4000000 in
set_option maxRecDepth 100000 in
theorem ct_X6_swap (l : Launch) (G : zG) (ad : Nat → Nat → Nat) (X : va_W) (S : (Nat → zM)) (v1 : Int32) (v2 : Int32) : zCt l yX6_swap cX6_swap 8 (some .int) 6 G [.ref (ad 0 0), .int v1, .int v2] (fun S : Nat → zM => wS ad G.2 S ++ X) (fun r : Int32 × (Nat → zM) => some (.int r.1)) (fun r => r.2) S (f_X6_swap S v1 v2) := by
  refine zCt.of (by decide) (Nat.le_of_ble_eq_true rfl) (fun p e s m args below meth c A C => ?_)
  refine y_lv (lv' := [(0, .ref (ad 0 0)), (1, .int v1), (2, .int v2)]) rfl ?_
  rw [f_X6_swap]
  refine z_iload_n C 1 dX6_swap_0 rfl ?_
  refine z_iconst (v := 0) C dX6_swap_1 (by decide) ?_
  refine z_bipush (v := 60) C dX6_swap_2 (by decide) ?_
  refine y_callZ C (z_invS C [.int v1, .int 0, .int 60] [] (ct_X6_isWithin l G ((fun S : Nat → zM => wS ad G.2 S ++ X) S) v1 0 60) mi_X6_isWithin mt_X6_isWithin ml_RX6_68 (by decide) rfl rfl dX6_swap_4 (Nat.le_of_ble_eq_true rfl)) (List.Perm.refl _) (fun r1 => ?_)
  refine z_zifeq C 19 dX6_swap_7 (by decide) ?_ ?_
  · refine z_iload_n C 2 dX6_swap_10 rfl ?_
    refine z_iconst (v := 0) C dX6_swap_11 (by decide) ?_
    refine z_iconst (v := 1) C dX6_swap_12 (by decide) ?_
    refine y_callZ C (z_invS C [.int v2, .int 0, .int 1] [] (ct_X6_isWithin l G ((fun S : Nat → zM => wS ad G.2 S ++ X) S) v2 0 1) mi_X6_isWithin mt_X6_isWithin ml_RX6_68 (by decide) rfl rfl dX6_swap_13 (Nat.le_of_ble_eq_true rfl)) (List.Perm.refl _) (fun r2 => ?_)
    refine z_zifne C 21 dX6_swap_16 (by decide) ?_ ?_
    · refine z_aload_n C 0 dX6_swap_21 rfl ?_
      refine z_get C fl_RX6_39 (sHas 0 (by decide) wB_0 (fun _ => has_Top_0)) rfl dX6_swap_22 ?_
      refine z_aload_n C 0 dX6_swap_25 rfl ?_
      refine z_get C fl_RX6_28 (sHas 0 (by decide) wB_0 (fun _ => has_Top_0)) rfl dX6_swap_26 ?_
      refine y_callVS C (z_invV C [.ref (ad 4 0)] [] (ct_X0_copyFrom l G (ad 5) (ad 4) (wR2 ad G.2 S 5 4 ++ X) (S 4) (S 5) ) mi_X0_copyFrom md_X0_copyFrom ms_X0_copyFrom ml_RX6_89 has_C_0 ⟨_, rfl, rfl⟩ (by decide) rfl rfl dX6_swap_29 (Nat.le_of_ble_eq_true rfl)) (sOut2 5 4 (by decide) (by decide) (by decide) wB_5 wB_4) (fun _ => sIn2 5 4 (by decide) (by decide) (by decide) wB_5 wB_4 _) (fun r3 S4 => ?_)
      refine z_aload_n C 0 dX6_swap_32 rfl ?_
      refine z_get C fl_RX6_39 (sHas 0 (by decide) wB_0 (fun _ => has_Top_0)) rfl dX6_swap_33 ?_
      refine z_iload_n C 1 dX6_swap_36 rfl ?_
      refine y_callVS C (z_invV C [.int v1] [] (ct_X0_passDays l G (ad 5) (wR ad G.2 S4 5 ++ X) (S4 5) v1) mi_X0_passDays md_X0_passDays ms_X0_passDays ml_RX6_185 has_C_0 ⟨_, rfl, rfl⟩ (by decide) rfl rfl dX6_swap_37 (Nat.le_of_ble_eq_true rfl)) (sOut 5 (by decide) wB_5) (fun _ => sIn 5 (by decide) wB_5 _) (fun r5 S6 => ?_)
      refine z_bipush (v := (-4)) C dX6_swap_40 (by decide) ?_
      refine z_istore_n C [(3, .int (-4)), (0, .ref (ad 0 0)), (1, .int v1), (2, .int v2)] dX6_swap_42 (by decide) rfl ?_
      refine z_aload_n C 1 dX6_swap_43 rfl ?_
      refine z_get C fl_RX6_39 (sHas 0 (by decide) wB_0 (fun _ => has_Top_0)) rfl dX6_swap_44 ?_
      refine y_callI C (z_invV C [] [] (ct_X0_countedOfAll l G (ad 5) (wR ad G.2 S6 5 ++ X) (S6 5) ) mi_X0_countedOfAll md_X0_countedOfAll ms_X0_countedOfAll ml_RX6_119 has_C_0 ⟨_, rfl, rfl⟩ (by decide) rfl rfl dX6_swap_47 (Nat.le_of_ble_eq_true rfl)) (sOut 5 (by decide) wB_5) (fun r7 => ?_)
      refine z_istore C [(4, .int r7), (3, .int (-4)), (0, .ref (ad 0 0)), (1, .int v1), (2, .int v2)] dX6_swap_50 (by decide) rfl ?_
      refine z_iconst (v := 0) C dX6_swap_52 (by decide) ?_
      refine z_istore C [(5, .int 0), (4, .int r7), (3, .int (-4)), (0, .ref (ad 0 0)), (1, .int v1), (2, .int v2)] dX6_swap_53 (by decide) rfl ?_
      refine z_loc C [(0, .ref (ad 0 0)), (1, .int v1), (2, .int v2), (3, .int (-4)), (4, .int r7), (5, .int 0)] [3, 4, 5, 2, 1, 0] rfl ?_
      exact w_X6_swap_55 C ad X    FU S6 v1 v2 (-4) r7 0
    refine z_iconst (v := (-1)) C dX6_swap_19 (by decide) ?_
    exact z_iret C dX6_swap_20 rfl rfl rfl
  refine z_iconst (v := (-1)) C dX6_swap_19 (by decide) ?_
  exact z_iret C dX6_swap_20 rfl rfl rfl
noncomputable def f_X6_where (S : (Nat → zM)) (v1 : Int32) (v2 : Int32) : Option (Int32 × (Nat → zM)) := (f_X0_hasBeetle (S 4) v1).bind fun r1 => if r1 = true then (f_X6_isWithin v2 0 60).bind fun r2 => if r2 = true then (f_X0_copyFrom (S 4) (S 5)).bind fun r3 => zlet (va_up S 5 r3) fun S4 => (f_X0_passDays (S4 5) v2).bind fun r5 => zlet (va_up S4 5 r5) fun S6 => (f_X0_sits (S6 5) v1).bind fun r7 => if r7 = true then if z_in v1 6 = true then some (((S6 5) 5 (Int32.toNatClampNeg v1)), S6) else none else (f_X0_placeOf (S6 5) v1).bind fun r8 => some (((-10) - r8), S6) else some ((-1), S) else some ((-1), S)
set_option maxHeartbeats 4000000 in
set_option maxRecDepth 100000 in
theorem ct_X6_where (l : Launch) (G : zG) (ad : Nat → Nat → Nat) (X : va_W) (S : (Nat → zM)) (v1 : Int32) (v2 : Int32) : zCt l yX6_where cX6_where 3 (some .int) 6 G [.ref (ad 0 0), .int v1, .int v2] (fun S : Nat → zM => wS ad G.2 S ++ X) (fun r : Int32 × (Nat → zM) => some (.int r.1)) (fun r => r.2) S (f_X6_where S v1 v2) := by
  refine zCt.of (by decide) (Nat.le_of_ble_eq_true rfl) (fun p e s m args below meth c A C => ?_)
  refine y_lv (lv' := [(0, .ref (ad 0 0)), (1, .int v1), (2, .int v2)]) rfl ?_
  rw [f_X6_where]
  refine z_aload_n C 0 dX6_where_0 rfl ?_
  refine z_get C fl_RX6_28 (sHas 0 (by decide) wB_0 (fun _ => has_Top_0)) rfl dX6_where_1 ?_
  refine z_iload_n C 1 dX6_where_4 rfl ?_
  refine y_callZ C (z_invV C [.int v1] [] (ct_X0_hasBeetle l G (ad 4) (wR ad G.2 S 4 ++ X) (S 4) v1) mi_X0_hasBeetle md_X0_hasBeetle ms_X0_hasBeetle ml_RX6_141 has_C_0 ⟨_, rfl, rfl⟩ (by decide) rfl rfl dX6_where_5 (Nat.le_of_ble_eq_true rfl)) (sOut 4 (by decide) wB_4) (fun r1 => ?_)
  refine z_zifeq C 21 dX6_where_8 (by decide) ?_ ?_
  · refine z_iload_n C 2 dX6_where_11 rfl ?_
    refine z_iconst (v := 0) C dX6_where_12 (by decide) ?_
    refine z_bipush (v := 60) C dX6_where_13 (by decide) ?_
    refine y_callZ C (z_invS C [.int v2, .int 0, .int 60] [] (ct_X6_isWithin l G ((fun S : Nat → zM => wS ad G.2 S ++ X) S) v2 0 60) mi_X6_isWithin mt_X6_isWithin ml_RX6_68 (by decide) rfl rfl dX6_where_15 (Nat.le_of_ble_eq_true rfl)) (List.Perm.refl _) (fun r2 => ?_)
    refine z_zifne C 23 dX6_where_18 (by decide) ?_ ?_
    · refine z_aload_n C 0 dX6_where_23 rfl ?_
      refine z_get C fl_RX6_39 (sHas 0 (by decide) wB_0 (fun _ => has_Top_0)) rfl dX6_where_24 ?_
      refine z_aload_n C 0 dX6_where_27 rfl ?_
      refine z_get C fl_RX6_28 (sHas 0 (by decide) wB_0 (fun _ => has_Top_0)) rfl dX6_where_28 ?_
      refine y_callVS C (z_invV C [.ref (ad 4 0)] [] (ct_X0_copyFrom l G (ad 5) (ad 4) (wR2 ad G.2 S 5 4 ++ X) (S 4) (S 5) ) mi_X0_copyFrom md_X0_copyFrom ms_X0_copyFrom ml_RX6_89 has_C_0 ⟨_, rfl, rfl⟩ (by decide) rfl rfl dX6_where_31 (Nat.le_of_ble_eq_true rfl)) (sOut2 5 4 (by decide) (by decide) (by decide) wB_5 wB_4) (fun _ => sIn2 5 4 (by decide) (by decide) (by decide) wB_5 wB_4 _) (fun r3 S4 => ?_)
      refine z_aload_n C 0 dX6_where_34 rfl ?_
      refine z_get C fl_RX6_39 (sHas 0 (by decide) wB_0 (fun _ => has_Top_0)) rfl dX6_where_35 ?_
      refine z_iload_n C 2 dX6_where_38 rfl ?_
      refine y_callVS C (z_invV C [.int v2] [] (ct_X0_passDays l G (ad 5) (wR ad G.2 S4 5 ++ X) (S4 5) v2) mi_X0_passDays md_X0_passDays ms_X0_passDays ml_RX6_185 has_C_0 ⟨_, rfl, rfl⟩ (by decide) rfl rfl dX6_where_39 (Nat.le_of_ble_eq_true rfl)) (sOut 5 (by decide) wB_5) (fun _ => sIn 5 (by decide) wB_5 _) (fun r5 S6 => ?_)
      refine z_aload_n C 0 dX6_where_42 rfl ?_
      refine z_get C fl_RX6_39 (sHas 0 (by decide) wB_0 (fun _ => has_Top_0)) rfl dX6_where_43 ?_
      refine z_iload_n C 1 dX6_where_46 rfl ?_
      refine y_callZ C (z_invV C [.int v1] [] (ct_X0_sits l G (ad 5) (wR ad G.2 S6 5 ++ X) (S6 5) v1) mi_X0_sits md_X0_sits ms_X0_sits ml_RX6_175 has_C_0 ⟨_, rfl, rfl⟩ (by decide) rfl rfl dX6_where_47 (Nat.le_of_ble_eq_true rfl)) (sOut 5 (by decide) wB_5) (fun r7 => ?_)
      refine z_zifeq C 65 dX6_where_50 (by decide) ?_ ?_
      · refine z_aload_n C 0 dX6_where_53 rfl ?_
        refine z_get C fl_RX6_39 (sHas 0 (by decide) wB_0 (fun _ => has_Top_0)) rfl dX6_where_54 ?_
        refine z_get C fl_RX6_156 (sHas 5 (by decide) wB_5 (fun _ => has_C_0)) rfl dX6_where_57 ?_
        refine z_iload_n C 1 dX6_where_60 rfl ?_
        refine y_iald C (sHas 5 (by decide) wB_5 (fun _ => has_C_5)) dX6_where_61 ?_
        refine z_goto C 76 dX6_where_62 (by decide) ?_
        exact z_iret C dX6_where_76 rfl rfl rfl
      refine z_bipush (v := (-10)) C dX6_where_65 (by decide) ?_
      refine z_aload_n C 0 dX6_where_67 rfl ?_
      refine z_get C fl_RX6_39 (sHas 0 (by decide) wB_0 (fun _ => has_Top_0)) rfl dX6_where_68 ?_
      refine z_iload_n C 1 dX6_where_71 rfl ?_
      refine y_callI C (z_invV C [.int v1] [.int (-10)] (ct_X0_placeOf l G (ad 5) (wR ad G.2 S6 5 ++ X) (S6 5) v1) mi_X0_placeOf md_X0_placeOf ms_X0_placeOf ml_RX6_153 has_C_0 ⟨_, rfl, rfl⟩ (by decide) rfl rfl dX6_where_72 (Nat.le_of_ble_eq_true rfl)) (sOut 5 (by decide) wB_5) (fun r8 => ?_)
      refine z_isub C dX6_where_75 ?_
      exact z_iret C dX6_where_76 rfl rfl rfl
    refine z_iconst (v := (-1)) C dX6_where_21 (by decide) ?_
    exact z_iret C dX6_where_22 rfl rfl rfl
  refine z_iconst (v := (-1)) C dX6_where_21 (by decide) ?_
  exact z_iret C dX6_where_22 rfl rfl rfl
noncomputable def f_X6_ask_151 (k90 : (Nat → zM) → Int32 → Int32 → Int32 → Int32 → Int32 → Option (Int32 × (Nat → zM))) : Nat → (Nat → zM) → Int32 → Int32 → Int32 → Int32 → Int32 → Int32 → Option (Int32 × (Nat → zM))
  | 0, _, _, _, _, _, _, _ => none
  | n + 1, S, v2, v3, v4, v5, v6, v7 => if ((S 4) 0 0) ≤ v7 then k90 S v2 v3 v4 v5 (v6 + 1) else if z_in v7 9 = true then if z_in v7 9 = true then (f_X0_windToday (S (17 + (Int32.toNatClampNeg v7)))).bind fun r8 => (f_X0_passDay (S (17 + (Int32.toNatClampNeg v7))) r8).bind fun r9 => zlet (va_up S (17 + (Int32.toNatClampNeg v7)) r9) fun S10 => f_X6_ask_151 k90 n S10 v2 v3 v4 v5 v6 (v7 + 1) else none else none
set_option maxHeartbeats 4000000 in
set_option maxRecDepth 100000 in
theorem w_X6_ask_151 {p : Program} {l : Launch} {e : Env} {s : State} {m : MethodId} {args : Array Value} {below : List Frame} {meth : Method} {c : Code} {G : zG} {A : Nat → Prop} (C : zC p s m args meth c RX6 cX6_ask 9 (some .int) G A) (ad : Nat → Nat → Nat) (X : va_W) (k90 : (Nat → zM) → Int32 → Int32 → Int32 → Int32 → Int32 → Option (Int32 × (Nat → zM))) (hk90 : ∀ (S : (Nat → zM)) (v2 : Int32) (v3 : Int32) (v4 : Int32) (v5 : Int32) (v6 : Int32), PW p l e 7 s m args below meth c G A 9 (fun S : Nat → zM => wS ad G.2 S ++ X) (fun r : Int32 × (Nat → zM) => some (.int r.1)) (fun r => r.2) S [(0, .ref (ad 0 0)), (2, .int v2), (3, .int v3), (4, .int v4), (5, .int v5), (6, .int v6)] 90 [] (k90 S v2 v3 v4 v5 v6)) : ∀ (n : Nat) (S : (Nat → zM)) (v2 : Int32) (v3 : Int32) (v4 : Int32) (v5 : Int32) (v6 : Int32) (v7 : Int32), PW p l e 7 s m args below meth c G A 9 (fun S : Nat → zM => wS ad G.2 S ++ X) (fun r : Int32 × (Nat → zM) => some (.int r.1)) (fun r => r.2) S [(0, .ref (ad 0 0)), (2, .int v2), (3, .int v3), (4, .int v4), (5, .int v5), (6, .int v6), (7, .int v7)] 151 [] (f_X6_ask_151 k90 n S v2 v3 v4 v5 v6 v7) := by
  intro n
  induction n with
  | zero => intros; exact z_none
  | succ n ih =>
    intro S v2 v3 v4 v5 v6 v7
    rw [f_X6_ask_151]
    refine z_iload C 6 dX6_ask_151 rfl ?_
    refine z_aload_n C 0 dX6_ask_153 rfl ?_
    refine z_get C fl_RX6_28 (sHas 0 (by decide) wB_0 (fun _ => has_Top_0)) rfl dX6_ask_154 ?_
    refine z_get C fl_RX6_106 (sHas 4 (by decide) wB_4 (fun _ => has_C_0)) rfl dX6_ask_157 ?_
    refine z_icmpge C 189 dX6_ask_160 (by decide) ?_ ?_
    · refine z_iinc C (v := (v6 + 1)) 5 [(6, .int (v6 + 1)), (0, .ref (ad 0 0)), (2, .int v2), (3, .int v3), (4, .int v4), (5, .int v5), (7, .int v7)] dX6_ask_189 rfl rfl (by decide) rfl ?_
      refine z_goto C 90 dX6_ask_192 (by decide) ?_
      refine z_loc C [(0, .ref (ad 0 0)), (2, .int v2), (3, .int v3), (4, .int v4), (5, .int v5), (6, .int (v6 + 1))] [1, 2, 3, 4, 5, 0] rfl ?_
      exact hk90 S v2 v3 v4 v5 (v6 + 1)
    refine z_aload_n C 0 dX6_ask_163 rfl ?_
    refine z_get C fl_RX6_42 (sHas 0 (by decide) wB_0 (fun _ => has_Top_0)) rfl dX6_ask_164 ?_
    refine z_iload C 6 dX6_ask_167 rfl ?_
    refine y_aald (t0 := 3) (g := fun k => ad (17 + k) 0) C (sHas 0 (by decide) wB_0 (fun _ => has_Top_2)) rfl (fun _ _ => rfl) dX6_ask_169 (fun hv6 hq6 => ?_)
    refine z_aload_n C 0 dX6_ask_170 rfl ?_
    refine z_get C fl_RX6_42 (sHas 0 (by decide) wB_0 (fun _ => has_Top_0)) rfl dX6_ask_171 ?_
    refine z_iload C 6 dX6_ask_174 rfl ?_
    refine y_aald (t0 := 3) (g := fun k => ad (17 + k) 0) C (sHas 0 (by decide) wB_0 (fun _ => has_Top_2)) rfl (fun _ _ => rfl) dX6_ask_176 (fun hv7 hq7 => ?_)
    refine y_callI C (z_invV C [] [.ref (ad (17 + (Int32.toNatClampNeg v7)) 0)] (ct_X0_windToday l G (ad (17 + (Int32.toNatClampNeg v7))) (wR ad G.2 S (17 + (Int32.toNatClampNeg v7)) ++ X) (S (17 + (Int32.toNatClampNeg v7))) ) mi_X0_windToday md_X0_windToday ms_X0_windToday ml_RX6_228 has_C_0 ⟨_, rfl, rfl⟩ (by decide) rfl rfl dX6_ask_177 (Nat.le_of_ble_eq_true rfl)) (sOut (17 + (Int32.toNatClampNeg v7)) (by have := hq7; omega) (wB_17 hq7)) (fun r8 => ?_)
    refine y_callVS C (z_invV C [.int r8] [] (ct_X0_passDay l G (ad (17 + (Int32.toNatClampNeg v7))) (wR ad G.2 S (17 + (Int32.toNatClampNeg v7)) ++ X) (S (17 + (Int32.toNatClampNeg v7))) r8) mi_X0_passDay md_X0_passDay ms_X0_passDay ml_RX6_231 has_C_0 ⟨_, rfl, rfl⟩ (by decide) rfl rfl dX6_ask_180 (Nat.le_of_ble_eq_true rfl)) (sOut (17 + (Int32.toNatClampNeg v7)) (by have := hq6; omega) (wB_17 hq6)) (fun _ => sIn (17 + (Int32.toNatClampNeg v7)) (by have := hq6; omega) (wB_17 hq6) _) (fun r9 S10 => ?_)
    refine z_iinc C (v := (v7 + 1)) 6 [(7, .int (v7 + 1)), (0, .ref (ad 0 0)), (2, .int v2), (3, .int v3), (4, .int v4), (5, .int v5), (6, .int v6)] dX6_ask_183 rfl rfl (by decide) rfl ?_
    refine z_goto C 151 dX6_ask_186 (by decide) ?_
    refine z_loc C [(0, .ref (ad 0 0)), (2, .int v2), (3, .int v3), (4, .int v4), (5, .int v5), (6, .int v6), (7, .int (v7 + 1))] [1, 2, 3, 4, 5, 6, 0] rfl ?_
    exact ih S10 v2 v3 v4 v5 v6 (v7 + 1)
noncomputable def f_X6_ask_100 (k90 : (Nat → zM) → Int32 → Int32 → Int32 → Int32 → Int32 → Option (Int32 × (Nat → zM))) : Nat → (Nat → zM) → Int32 → Int32 → Int32 → Int32 → Int32 → Int32 → Option (Int32 × (Nat → zM))
  | 0, _, _, _, _, _, _, _ => none
  | n + 1, S, v2, v3, v4, v5, v6, v7 => if ((S 4) 0 0) ≤ v7 then f_X6_ask_151 k90 FU S v2 v3 v4 v5 v6 0 else (f_X6_mostLeftBy S v7 v3).bind fun r11 => zlet r11.2 fun S12 => if v5 ≤ r11.1 then f_X6_ask_100 k90 n S12 v2 v3 v4 v5 v6 (v7 + 1) else f_X6_ask_100 k90 n S12 v2 v3 ((10 * v6) + v7) r11.1 v6 (v7 + 1)
set_option maxHeartbeats 4000000 in
set_option maxRecDepth 100000 in
theorem w_X6_ask_100 {p : Program} {l : Launch} {e : Env} {s : State} {m : MethodId} {args : Array Value} {below : List Frame} {meth : Method} {c : Code} {G : zG} {A : Nat → Prop} (C : zC p s m args meth c RX6 cX6_ask 9 (some .int) G A) (ad : Nat → Nat → Nat) (X : va_W) (k90 : (Nat → zM) → Int32 → Int32 → Int32 → Int32 → Int32 → Option (Int32 × (Nat → zM))) (hk90 : ∀ (S : (Nat → zM)) (v2 : Int32) (v3 : Int32) (v4 : Int32) (v5 : Int32) (v6 : Int32), PW p l e 7 s m args below meth c G A 9 (fun S : Nat → zM => wS ad G.2 S ++ X) (fun r : Int32 × (Nat → zM) => some (.int r.1)) (fun r => r.2) S [(0, .ref (ad 0 0)), (2, .int v2), (3, .int v3), (4, .int v4), (5, .int v5), (6, .int v6)] 90 [] (k90 S v2 v3 v4 v5 v6)) : ∀ (n : Nat) (S : (Nat → zM)) (v2 : Int32) (v3 : Int32) (v4 : Int32) (v5 : Int32) (v6 : Int32) (v7 : Int32), PW p l e 7 s m args below meth c G A 9 (fun S : Nat → zM => wS ad G.2 S ++ X) (fun r : Int32 × (Nat → zM) => some (.int r.1)) (fun r => r.2) S [(0, .ref (ad 0 0)), (2, .int v2), (3, .int v3), (4, .int v4), (5, .int v5), (6, .int v6), (7, .int v7)] 100 [] (f_X6_ask_100 k90 n S v2 v3 v4 v5 v6 v7) := by
  intro n
  induction n with
  | zero => intros; exact z_none
  | succ n ih =>
    intro S v2 v3 v4 v5 v6 v7
    rw [f_X6_ask_100]
    refine z_iload C 6 dX6_ask_100 rfl ?_
    refine z_aload_n C 0 dX6_ask_102 rfl ?_
    refine z_get C fl_RX6_28 (sHas 0 (by decide) wB_0 (fun _ => has_Top_0)) rfl dX6_ask_103 ?_
    refine z_get C fl_RX6_106 (sHas 4 (by decide) wB_4 (fun _ => has_C_0)) rfl dX6_ask_106 ?_
    refine z_icmpge C 148 dX6_ask_109 (by decide) ?_ ?_
    · refine z_iconst (v := 0) C dX6_ask_148 (by decide) ?_
      refine z_istore C [(7, .int 0), (0, .ref (ad 0 0)), (2, .int v2), (3, .int v3), (4, .int v4), (5, .int v5), (6, .int v6)] dX6_ask_149 (by decide) rfl ?_
      refine z_loc C [(0, .ref (ad 0 0)), (2, .int v2), (3, .int v3), (4, .int v4), (5, .int v5), (6, .int v6), (7, .int 0)] [1, 2, 3, 4, 5, 6, 0] rfl ?_
      exact w_X6_ask_151 C ad X  k90 hk90 FU S v2 v3 v4 v5 v6 0
    refine z_aload_n C 0 dX6_ask_112 rfl ?_
    refine z_iload C 6 dX6_ask_113 rfl ?_
    refine z_iload_n C 2 dX6_ask_115 rfl ?_
    refine y_callIS C (z_invV C [.int v7, .int v3] [] (ct_X6_mostLeftBy l G ad X S v7 v3) mi_X6_mostLeftBy md_X6_mostLeftBy ms_X6_mostLeftBy ml_RX6_225 (sHas 0 (by decide) wB_0 (fun _ => has_Top_0)) ⟨_, rfl, rfl⟩ (by decide) rfl rfl dX6_ask_116 (Nat.le_of_ble_eq_true rfl)) (List.Perm.refl _) (fun _ => List.Perm.refl _) (fun r11 S12 => ?_)
    refine z_istore C [(8, .int r11.1), (0, .ref (ad 0 0)), (2, .int v2), (3, .int v3), (4, .int v4), (5, .int v5), (6, .int v6), (7, .int v7)] dX6_ask_119 (by decide) rfl ?_
    refine z_iload C 0 dX6_ask_121 rfl ?_
    refine z_iload C 5 dX6_ask_123 rfl ?_
    refine z_icmpge C 142 dX6_ask_125 (by decide) ?_ ?_
    · refine z_iinc C (v := (v7 + 1)) 7 [(7, .int (v7 + 1)), (8, .int r11.1), (0, .ref (ad 0 0)), (2, .int v2), (3, .int v3), (4, .int v4), (5, .int v5), (6, .int v6)] dX6_ask_142 rfl rfl (by decide) rfl ?_
      refine z_goto C 100 dX6_ask_145 (by decide) ?_
      refine z_loc C [(0, .ref (ad 0 0)), (2, .int v2), (3, .int v3), (4, .int v4), (5, .int v5), (6, .int v6), (7, .int (v7 + 1))] [2, 3, 4, 5, 6, 7, 0] rfl ?_
      exact ih S12 v2 v3 v4 v5 v6 (v7 + 1)
    refine z_bipush (v := 10) C dX6_ask_128 (by decide) ?_
    refine z_iload C 6 dX6_ask_130 rfl ?_
    refine z_imul C dX6_ask_132 ?_
    refine z_iload C 7 dX6_ask_133 rfl ?_
    refine z_iadd C dX6_ask_135 ?_
    refine z_istore C [(4, .int ((10 * v6) + v7)), (8, .int r11.1), (0, .ref (ad 0 0)), (2, .int v2), (3, .int v3), (5, .int v5), (6, .int v6), (7, .int v7)] dX6_ask_136 (by decide) rfl ?_
    refine z_iload C 1 dX6_ask_138 rfl ?_
    refine z_istore C [(5, .int r11.1), (4, .int ((10 * v6) + v7)), (8, .int r11.1), (0, .ref (ad 0 0)), (2, .int v2), (3, .int v3), (6, .int v6), (7, .int v7)] dX6_ask_140 (by decide) rfl ?_
    refine z_iinc C (v := (v7 + 1)) 7 [(7, .int (v7 + 1)), (5, .int r11.1), (4, .int ((10 * v6) + v7)), (8, .int r11.1), (0, .ref (ad 0 0)), (2, .int v2), (3, .int v3), (6, .int v6)] dX6_ask_142 rfl rfl (by decide) rfl ?_
    refine z_goto C 100 dX6_ask_145 (by decide) ?_
    refine z_loc C [(0, .ref (ad 0 0)), (2, .int v2), (3, .int v3), (4, .int ((10 * v6) + v7)), (5, .int r11.1), (6, .int v6), (7, .int (v7 + 1))] [4, 5, 6, 2, 1, 7, 0] rfl ?_
    exact ih S12 v2 v3 ((10 * v6) + v7) r11.1 v6 (v7 + 1)
noncomputable def f_X6_ask_90 : Nat → (Nat → zM) → Int32 → Int32 → Int32 → Int32 → Int32 → Option (Int32 × (Nat → zM))
  | 0, _, _, _, _, _, _ => none
  | n + 1, S, v2, v3, v4, v5, v6 => if 20 < v6 then if v2 = 0 then some (v4, S) else if v4 = (-4) then some (v4, S) else some (v5, S) else f_X6_ask_100 (fun S v2 v3 v4 v5 v6 => f_X6_ask_90 n S v2 v3 v4 v5 v6) FU S v2 v3 v4 v5 v6 0
set_option maxHeartbeats 4000000 in
set_option maxRecDepth 100000 in
theorem w_X6_ask_90 {p : Program} {l : Launch} {e : Env} {s : State} {m : MethodId} {args : Array Value} {below : List Frame} {meth : Method} {c : Code} {G : zG} {A : Nat → Prop} (C : zC p s m args meth c RX6 cX6_ask 9 (some .int) G A) (ad : Nat → Nat → Nat) (X : va_W) : ∀ (n : Nat) (S : (Nat → zM)) (v2 : Int32) (v3 : Int32) (v4 : Int32) (v5 : Int32) (v6 : Int32), PW p l e 7 s m args below meth c G A 9 (fun S : Nat → zM => wS ad G.2 S ++ X) (fun r : Int32 × (Nat → zM) => some (.int r.1)) (fun r => r.2) S [(0, .ref (ad 0 0)), (2, .int v2), (3, .int v3), (4, .int v4), (5, .int v5), (6, .int v6)] 90 [] (f_X6_ask_90 n S v2 v3 v4 v5 v6) := by
  intro n
  induction n with
  | zero => intros; exact z_none
  | succ n ih =>
    intro S v2 v3 v4 v5 v6
    rw [f_X6_ask_90]
    refine z_iload C 5 dX6_ask_90 rfl ?_
    refine z_bipush (v := 20) C dX6_ask_92 (by decide) ?_
    refine z_icmpgt C 195 dX6_ask_94 (by decide) ?_ ?_
    · refine z_iload_n C 1 dX6_ask_195 rfl ?_
      refine z_ifeq C 206 dX6_ask_196 (by decide) ?_ ?_
      · refine z_iload C 3 dX6_ask_206 rfl ?_
        refine z_goto C 213 dX6_ask_208 (by decide) ?_
        exact z_iret C dX6_ask_213 rfl rfl rfl
      refine z_iload C 3 dX6_ask_199 rfl ?_
      refine z_bipush (v := (-4)) C dX6_ask_201 (by decide) ?_
      refine z_icmpne C 211 dX6_ask_203 (by decide) ?_ ?_
      · refine z_iload C 3 dX6_ask_206 rfl ?_
        refine z_goto C 213 dX6_ask_208 (by decide) ?_
        exact z_iret C dX6_ask_213 rfl rfl rfl
      refine z_iload C 4 dX6_ask_211 rfl ?_
      exact z_iret C dX6_ask_213 rfl rfl rfl
    refine z_iconst (v := 0) C dX6_ask_97 (by decide) ?_
    refine z_istore C [(7, .int 0), (0, .ref (ad 0 0)), (2, .int v2), (3, .int v3), (4, .int v4), (5, .int v5), (6, .int v6)] dX6_ask_98 (by decide) rfl ?_
    refine z_loc C [(0, .ref (ad 0 0)), (2, .int v2), (3, .int v3), (4, .int v4), (5, .int v5), (6, .int v6), (7, .int 0)] [1, 2, 3, 4, 5, 6, 0] rfl ?_
    exact w_X6_ask_100 C ad X  (fun S v2 v3 v4 v5 v6 => f_X6_ask_90 n S v2 v3 v4 v5 v6) ih FU S v2 v3 v4 v5 v6 0
noncomputable def f_X6_ask_31 : Nat → (Nat → zM) → Int32 → Int32 → Int32 → Int32 → Option (Int32 × (Nat → zM))
  | 0, _, _, _, _, _ => none
  | n + 1, S, v1, v2, v3, v4 => if ((S 4) 0 0) ≤ v4 then (f_J6_bitCount_0f7a4 v3).bind fun r5 => f_X6_ask_90 FU S v2 v3 (-4) r5 0 else if z_in v4 9 = true then (f_X0_copyFrom (S 4) (S (17 + (Int32.toNatClampNeg v4)))).bind fun r14 => zlet (va_up S (17 + (Int32.toNatClampNeg v4)) r14) fun S15 => if z_in v4 9 = true then if z_in v1 6 = true then zlet (va_up S15 (17 + (Int32.toNatClampNeg v4)) (zU (S15 (17 + (Int32.toNatClampNeg v4))) 4 (Int32.toNatClampNeg v1) v4)) (fun S17 => f_X6_ask_31 n S17 v1 v2 v3 (v4 + 1)) else none else none else none
set_option maxHeartbeats 4000000 in
set_option maxRecDepth 100000 in
theorem w_X6_ask_31 {p : Program} {l : Launch} {e : Env} {s : State} {m : MethodId} {args : Array Value} {below : List Frame} {meth : Method} {c : Code} {G : zG} {A : Nat → Prop} (C : zC p s m args meth c RX6 cX6_ask 9 (some .int) G A) (ad : Nat → Nat → Nat) (X : va_W) : ∀ (n : Nat) (S : (Nat → zM)) (v1 : Int32) (v2 : Int32) (v3 : Int32) (v4 : Int32), PW p l e 7 s m args below meth c G A 9 (fun S : Nat → zM => wS ad G.2 S ++ X) (fun r : Int32 × (Nat → zM) => some (.int r.1)) (fun r => r.2) S [(0, .ref (ad 0 0)), (1, .int v1), (2, .int v2), (3, .int v3), (4, .int v4)] 31 [] (f_X6_ask_31 n S v1 v2 v3 v4) := by
  intro n
  induction n with
  | zero => intros; exact z_none
  | succ n ih =>
    intro S v1 v2 v3 v4
    rw [f_X6_ask_31]
    refine z_iload C 4 dX6_ask_31 rfl ?_
    refine z_aload_n C 0 dX6_ask_33 rfl ?_
    refine z_get C fl_RX6_28 (sHas 0 (by decide) wB_0 (fun _ => has_Top_0)) rfl dX6_ask_34 ?_
    refine z_get C fl_RX6_106 (sHas 4 (by decide) wB_4 (fun _ => has_C_0)) rfl dX6_ask_37 ?_
    refine z_icmpge C 77 dX6_ask_40 (by decide) ?_ ?_
    · refine z_bipush (v := (-4)) C dX6_ask_77 (by decide) ?_
      refine z_istore C [(4, .int (-4)), (0, .ref (ad 0 0)), (1, .int v1), (2, .int v2), (3, .int v3)] dX6_ask_79 (by decide) rfl ?_
      refine z_iload_n C 4 dX6_ask_81 rfl ?_
      refine y_callI C (z_invS C [.int v3] [] (ct_J6_bitCount_0f7a4 l G ((fun S : Nat → zM => wS ad G.2 S ++ X) S) v3) mi_J6_bitCount_0f7a4 mt_J6_bitCount_0f7a4 ml_RX6_220 (by decide) rfl rfl dX6_ask_82 (Nat.le_of_ble_eq_true rfl)) (List.Perm.refl _) (fun r5 => ?_)
      refine z_istore C [(5, .int r5), (4, .int (-4)), (0, .ref (ad 0 0)), (1, .int v1), (2, .int v2), (3, .int v3)] dX6_ask_85 (by decide) rfl ?_
      refine z_iconst (v := 0) C dX6_ask_87 (by decide) ?_
      refine z_istore C [(6, .int 0), (5, .int r5), (4, .int (-4)), (0, .ref (ad 0 0)), (1, .int v1), (2, .int v2), (3, .int v3)] dX6_ask_88 (by decide) rfl ?_
      refine z_loc C [(0, .ref (ad 0 0)), (2, .int v2), (3, .int v3), (4, .int (-4)), (5, .int r5), (6, .int 0)] [3, 5, 6, 2, 1, 0] rfl ?_
      exact w_X6_ask_90 C ad X    FU S v2 v3 (-4) r5 0
    refine z_aload_n C 0 dX6_ask_43 rfl ?_
    refine z_get C fl_RX6_42 (sHas 0 (by decide) wB_0 (fun _ => has_Top_0)) rfl dX6_ask_44 ?_
    refine z_iload C 4 dX6_ask_47 rfl ?_
    refine y_aald (t0 := 3) (g := fun k => ad (17 + k) 0) C (sHas 0 (by decide) wB_0 (fun _ => has_Top_2)) rfl (fun _ _ => rfl) dX6_ask_49 (fun hv13 hq13 => ?_)
    refine z_aload_n C 0 dX6_ask_50 rfl ?_
    refine z_get C fl_RX6_28 (sHas 0 (by decide) wB_0 (fun _ => has_Top_0)) rfl dX6_ask_51 ?_
    refine y_callVS C (z_invV C [.ref (ad 4 0)] [] (ct_X0_copyFrom l G (ad (17 + (Int32.toNatClampNeg v4))) (ad 4) (wR2 ad G.2 S (17 + (Int32.toNatClampNeg v4)) 4 ++ X) (S 4) (S (17 + (Int32.toNatClampNeg v4))) ) mi_X0_copyFrom md_X0_copyFrom ms_X0_copyFrom ml_RX6_89 has_C_0 ⟨_, rfl, rfl⟩ (by decide) rfl rfl dX6_ask_54 (Nat.le_of_ble_eq_true rfl)) (sOut2 (17 + (Int32.toNatClampNeg v4)) 4 (by have := hq13; omega) (by decide) (by have := hq13; omega) (wB_17 hq13) wB_4) (fun _ => sIn2 (17 + (Int32.toNatClampNeg v4)) 4 (by have := hq13; omega) (by decide) (by have := hq13; omega) (wB_17 hq13) wB_4 _) (fun r14 S15 => ?_)
    refine z_aload_n C 0 dX6_ask_57 rfl ?_
    refine z_get C fl_RX6_42 (sHas 0 (by decide) wB_0 (fun _ => has_Top_0)) rfl dX6_ask_58 ?_
    refine z_iload C 4 dX6_ask_61 rfl ?_
    refine y_aald (t0 := 3) (g := fun k => ad (17 + k) 0) C (sHas 0 (by decide) wB_0 (fun _ => has_Top_2)) rfl (fun _ _ => rfl) dX6_ask_63 (fun hv16 hq16 => ?_)
    refine z_get C fl_RX6_150 (sHas (17 + (Int32.toNatClampNeg v4)) (by have := hq16; omega) (wB_17 hq16) (fun _ => has_C_0)) rfl dX6_ask_64 ?_
    refine z_iload_n C 1 dX6_ask_67 rfl ?_
    refine z_iload C 4 dX6_ask_68 rfl ?_
    refine y_iast C (sUpd (17 + (Int32.toNatClampNeg v4)) (by have := hq16; omega) (wB_17 hq16) (fun _ => upd_C_4)) dX6_ask_70 (fun S17 => ?_)
    refine z_iinc C (v := (v4 + 1)) 4 [(4, .int (v4 + 1)), (0, .ref (ad 0 0)), (1, .int v1), (2, .int v2), (3, .int v3)] dX6_ask_71 rfl rfl (by decide) rfl ?_
    refine z_goto C 31 dX6_ask_74 (by decide) ?_
    refine z_loc C [(0, .ref (ad 0 0)), (1, .int v1), (2, .int v2), (3, .int v3), (4, .int (v4 + 1))] [1, 2, 3, 4, 0] rfl ?_
    exact ih S17 v1 v2 v3 (v4 + 1)
noncomputable def f_X6_ask (S : (Nat → zM)) (v1 : Int32) (v2 : Int32) : Option (Int32 × (Nat → zM)) := (f_X0_hasBeetle (S 4) v1).bind fun r1 => if r1 = true then (f_X6_isWithin v2 0 1).bind fun r2 => if r2 = true then (f_X6_fittingOwners S v1).bind fun r3 => zlet r3.2 fun S4 => f_X6_ask_31 FU S4 v1 v2 r3.1 0 else some ((-1), S) else some ((-1), S)
set_option maxHeartbeats 4000000 in
set_option maxRecDepth 100000 in
theorem ct_X6_ask (l : Launch) (G : zG) (ad : Nat → Nat → Nat) (X : va_W) (S : (Nat → zM)) (v1 : Int32) (v2 : Int32) : zCt l yX6_ask cX6_ask 9 (some .int) 7 G [.ref (ad 0 0), .int v1, .int v2] (fun S : Nat → zM => wS ad G.2 S ++ X) (fun r : Int32 × (Nat → zM) => some (.int r.1)) (fun r => r.2) S (f_X6_ask S v1 v2) := by
  refine zCt.of (by decide) (Nat.le_of_ble_eq_true rfl) (fun p e s m args below meth c A C => ?_)
  refine y_lv (lv' := [(0, .ref (ad 0 0)), (1, .int v1), (2, .int v2)]) rfl ?_
  rw [f_X6_ask]
  refine z_aload_n C 0 dX6_ask_0 rfl ?_
  refine z_get C fl_RX6_28 (sHas 0 (by decide) wB_0 (fun _ => has_Top_0)) rfl dX6_ask_1 ?_
  refine z_iload_n C 1 dX6_ask_4 rfl ?_
  refine y_callZ C (z_invV C [.int v1] [] (ct_X0_hasBeetle l G (ad 4) (wR ad G.2 S 4 ++ X) (S 4) v1) mi_X0_hasBeetle md_X0_hasBeetle ms_X0_hasBeetle ml_RX6_141 has_C_0 ⟨_, rfl, rfl⟩ (by decide) rfl rfl dX6_ask_5 (Nat.le_of_ble_eq_true rfl)) (sOut 4 (by decide) wB_4) (fun r1 => ?_)
  refine z_zifeq C 20 dX6_ask_8 (by decide) ?_ ?_
  · refine z_iload_n C 2 dX6_ask_11 rfl ?_
    refine z_iconst (v := 0) C dX6_ask_12 (by decide) ?_
    refine z_iconst (v := 1) C dX6_ask_13 (by decide) ?_
    refine y_callZ C (z_invS C [.int v2, .int 0, .int 1] [] (ct_X6_isWithin l G ((fun S : Nat → zM => wS ad G.2 S ++ X) S) v2 0 1) mi_X6_isWithin mt_X6_isWithin ml_RX6_68 (by decide) rfl rfl dX6_ask_14 (Nat.le_of_ble_eq_true rfl)) (List.Perm.refl _) (fun r2 => ?_)
    refine z_zifne C 22 dX6_ask_17 (by decide) ?_ ?_
    · refine z_aload_n C 0 dX6_ask_22 rfl ?_
      refine z_iload_n C 1 dX6_ask_23 rfl ?_
      refine y_callIS C (z_invV C [.int v1] [] (ct_X6_fittingOwners l G ad X S v1) mi_X6_fittingOwners md_X6_fittingOwners ms_X6_fittingOwners ml_RX6_213 (sHas 0 (by decide) wB_0 (fun _ => has_Top_0)) ⟨_, rfl, rfl⟩ (by decide) rfl rfl dX6_ask_24 (Nat.le_of_ble_eq_true rfl)) (List.Perm.refl _) (fun _ => List.Perm.refl _) (fun r3 S4 => ?_)
      refine z_istore_n C [(3, .int r3.1), (0, .ref (ad 0 0)), (1, .int v1), (2, .int v2)] dX6_ask_27 (by decide) rfl ?_
      refine z_iconst (v := 0) C dX6_ask_28 (by decide) ?_
      refine z_istore C [(4, .int 0), (3, .int r3.1), (0, .ref (ad 0 0)), (1, .int v1), (2, .int v2)] dX6_ask_29 (by decide) rfl ?_
      refine z_loc C [(0, .ref (ad 0 0)), (1, .int v1), (2, .int v2), (3, .int r3.1), (4, .int 0)] [2, 3, 4, 1, 0] rfl ?_
      exact w_X6_ask_31 C ad X    FU S4 v1 v2 r3.1 0
    refine z_iconst (v := (-1)) C dX6_ask_20 (by decide) ?_
    exact z_iret C dX6_ask_21 rfl rfl rfl
  refine z_iconst (v := (-1)) C dX6_ask_20 (by decide) ?_
  exact z_iret C dX6_ask_21 rfl rfl rfl
noncomputable def f_X6_owners (S : (Nat → zM)) (v1 : Int32) : Option (Int32 × (Nat → zM)) := (f_X0_hasBeetle (S 4) v1).bind fun r1 => if r1 = true then (f_X6_fittingOwners S v1).bind fun r2 => zlet r2.2 fun S3 => some (r2.1, S3) else some ((-1), S)
set_option maxHeartbeats 4000000 in
set_option maxRecDepth 100000 in
theorem ct_X6_owners (l : Launch) (G : zG) (ad : Nat → Nat → Nat) (X : va_W) (S : (Nat → zM)) (v1 : Int32) : zCt l yX6_owners cX6_owners 2 (some .int) 7 G [.ref (ad 0 0), .int v1] (fun S : Nat → zM => wS ad G.2 S ++ X) (fun r : Int32 × (Nat → zM) => some (.int r.1)) (fun r => r.2) S (f_X6_owners S v1) := by
  refine zCt.of (by decide) (Nat.le_of_ble_eq_true rfl) (fun p e s m args below meth c A C => ?_)
  refine y_lv (lv' := [(0, .ref (ad 0 0)), (1, .int v1)]) rfl ?_
  rw [f_X6_owners]
  refine z_aload_n C 0 dX6_owners_0 rfl ?_
  refine z_get C fl_RX6_28 (sHas 0 (by decide) wB_0 (fun _ => has_Top_0)) rfl dX6_owners_1 ?_
  refine z_iload_n C 1 dX6_owners_4 rfl ?_
  refine y_callZ C (z_invV C [.int v1] [] (ct_X0_hasBeetle l G (ad 4) (wR ad G.2 S 4 ++ X) (S 4) v1) mi_X0_hasBeetle md_X0_hasBeetle ms_X0_hasBeetle ml_RX6_141 has_C_0 ⟨_, rfl, rfl⟩ (by decide) rfl rfl dX6_owners_5 (Nat.le_of_ble_eq_true rfl)) (sOut 4 (by decide) wB_4) (fun r1 => ?_)
  refine z_zifeq C 19 dX6_owners_8 (by decide) ?_ ?_
  · refine z_aload_n C 0 dX6_owners_11 rfl ?_
    refine z_iload_n C 1 dX6_owners_12 rfl ?_
    refine y_callIS C (z_invV C [.int v1] [] (ct_X6_fittingOwners l G ad X S v1) mi_X6_fittingOwners md_X6_fittingOwners ms_X6_fittingOwners ml_RX6_213 (sHas 0 (by decide) wB_0 (fun _ => has_Top_0)) ⟨_, rfl, rfl⟩ (by decide) rfl rfl dX6_owners_13 (Nat.le_of_ble_eq_true rfl)) (List.Perm.refl _) (fun _ => List.Perm.refl _) (fun r2 S3 => ?_)
    refine z_goto C 20 dX6_owners_16 (by decide) ?_
    exact z_iret C dX6_owners_20 rfl rfl rfl
  refine z_iconst (v := (-1)) C dX6_owners_19 (by decide) ?_
  exact z_iret C dX6_owners_20 rfl rfl rfl
noncomputable def f_X6_text_55 : Nat → (Nat → zM) → Int32 → Option (Int32 × (Nat → zM))
  | 0, _, _ => none
  | n + 1, S, v2 => if 2 ≤ v2 then some (((S 2) 0 4), S) else if z_in v2 2 = true then zlet (va_up S (7 + (Int32.toNatClampNeg v2)) (zU (S (7 + (Int32.toNatClampNeg v2))) 0 0 0)) fun S8 => f_X6_text_55 n S8 (v2 + 1) else none
set_option maxHeartbeats 4000000 in
set_option maxRecDepth 100000 in
theorem w_X6_text_55 {p : Program} {l : Launch} {e : Env} {s : State} {m : MethodId} {args : Array Value} {below : List Frame} {meth : Method} {c : Code} {G : zG} {A : Nat → Prop} (C : zC p s m args meth c RX6 cX6_text 3 (some .int) G A) (ad : Nat → Nat → Nat) (X : va_W) : ∀ (n : Nat) (S : (Nat → zM)) (v2 : Int32), PW p l e 9 s m args below meth c G A 3 (fun S : Nat → zM => wS ad G.2 S ++ X) (fun r : Int32 × (Nat → zM) => some (.int r.1)) (fun r => r.2) S [(0, .ref (ad 0 0)), (2, .int v2)] 55 [] (f_X6_text_55 n S v2) := by
  intro n
  induction n with
  | zero => intros; exact z_none
  | succ n ih =>
    intro S v2
    rw [f_X6_text_55]
    refine z_iload_n C 1 dX6_text_55 rfl ?_
    refine z_aload_n C 0 dX6_text_56 rfl ?_
    refine z_get C fl_RX6_52 (sHas 0 (by decide) wB_0 (fun _ => has_Top_0)) rfl dX6_text_57 ?_
    refine z_alen (t0 := 4) (v := 2) C (sHas 0 (by decide) wB_0 (fun _ => has_Top_3)) rfl rfl dX6_text_60 ?_
    refine z_icmpge C 80 dX6_text_61 (by decide) ?_ ?_
    · refine z_aload_n C 0 dX6_text_80 rfl ?_
      refine z_get C fl_RX6_21 (sHas 0 (by decide) wB_0 (fun _ => has_Top_0)) rfl dX6_text_81 ?_
      refine z_get C fl_RX6_100 (sHas 2 (by decide) wB_2 (fun _ => has_Tl_0)) rfl dX6_text_84 ?_
      exact z_iret C dX6_text_87 rfl rfl rfl
    refine z_aload_n C 0 dX6_text_64 rfl ?_
    refine z_get C fl_RX6_52 (sHas 0 (by decide) wB_0 (fun _ => has_Top_0)) rfl dX6_text_65 ?_
    refine z_iload_n C 1 dX6_text_68 rfl ?_
    refine y_aald (t0 := 4) (g := fun k => ad (7 + k) 0) C (sHas 0 (by decide) wB_0 (fun _ => has_Top_3)) rfl (fun _ _ => rfl) dX6_text_69 (fun hv7 hq7 => ?_)
    refine z_iconst (v := 0) C dX6_text_70 (by decide) ?_
    refine z_put C fl_RX6_96 ft_1_0 (sUpd (7 + (Int32.toNatClampNeg v2)) (by have := hq7; omega) (wB_7 hq7) (fun _ => upd_Im_0_0)) rfl rfl (Nat.le_of_ble_eq_true rfl) dX6_text_71 (fun S8 => ?_)
    refine z_iinc C (v := (v2 + 1)) 1 [(2, .int (v2 + 1)), (0, .ref (ad 0 0))] dX6_text_74 rfl rfl (by decide) rfl ?_
    refine z_goto C 55 dX6_text_77 (by decide) ?_
    refine z_loc C [(0, .ref (ad 0 0)), (2, .int (v2 + 1))] [1, 0] rfl ?_
    exact ih S8 (v2 + 1)
noncomputable def f_X6_text (S : (Nat → zM)) : Option (Int32 × (Nat → zM)) := (f_X5_takeText S).bind fun r1 => zlet (zSel S r1.2) fun S2 => zlet (va_up S2 1 (zU (S2 1) 0 1 0)) fun S3 => if r1.1 = true then (f_X0_copyFrom (S3 3) (S3 4)).bind fun r4 => zlet (va_up S3 4 r4) fun S5 => zlet (va_up S5 6 (zU (S5 6) 0 0 0)) fun S6 => f_X6_text_55 FU S6 0 else some (((-10) - ((S3 2) 0 6)), S3)
set_option maxHeartbeats 4000000 in
set_option maxRecDepth 100000 in
theorem ct_X6_text (l : Launch) (G : zG) (ad : Nat → Nat → Nat) (X : va_W) (S : (Nat → zM)) : zCt l yX6_text cX6_text 3 (some .int) 9 G [.ref (ad 0 0)] (fun S : Nat → zM => wS ad G.2 S ++ X) (fun r : Int32 × (Nat → zM) => some (.int r.1)) (fun r => r.2) S (f_X6_text S) := by
  refine zCt.of (by decide) (Nat.le_of_ble_eq_true rfl) (fun p e s m args below meth c A C => ?_)
  refine y_lv (lv' := [(0, .ref (ad 0 0))]) rfl ?_
  rw [f_X6_text]
  refine z_aload_n C 0 dX6_text_0 rfl ?_
  refine z_get C fl_RX6_21 (sHas 0 (by decide) wB_0 (fun _ => has_Top_0)) rfl dX6_text_1 ?_
  refine y_callZS C (z_invV C [] [] (ct_X5_takeText l G ad (wL ad G.2 rest3 S ++ X) S ) mi_X5_takeText md_X5_takeText ms_X5_takeText ml_RX6_79 (zHas.perm t3Out2 has_Tl_0) ⟨_, rfl, rfl⟩ (by decide) rfl rfl dX6_text_4 (Nat.le_of_ble_eq_true rfl)) sOut3 (fun _ => sIn3 _) (fun r1 S2 => ?_)
  refine z_istore_n C [(1, .int (zb r1.1)), (0, .ref (ad 0 0))] dX6_text_7 (by decide) rfl ?_
  refine z_aload_n C 1 dX6_text_8 rfl ?_
  refine z_get C fl_RX6_10 (sHas 0 (by decide) wB_0 (fun _ => has_Top_0)) rfl dX6_text_9 ?_
  refine z_iconst (v := 0) C dX6_text_12 (by decide) ?_
  refine z_put C fl_RX6_76 ft_4_1 (sUpd 1 (by decide) wB_1 (fun _ => upd_Tp_0_1)) rfl rfl (Nat.le_of_ble_eq_true rfl) dX6_text_13 (fun S3 => ?_)
  refine z_iload_n C 0 dX6_text_16 rfl ?_
  refine z_zifne C 31 dX6_text_17 (by decide) ?_ ?_
  · refine z_aload_n C 1 dX6_text_31 rfl ?_
    refine z_get C fl_RX6_28 (sHas 0 (by decide) wB_0 (fun _ => has_Top_0)) rfl dX6_text_32 ?_
    refine z_aload_n C 1 dX6_text_35 rfl ?_
    refine z_get C fl_RX6_21 (sHas 0 (by decide) wB_0 (fun _ => has_Top_0)) rfl dX6_text_36 ?_
    refine z_get C fl_RX6_86 (sHas 2 (by decide) wB_2 (fun _ => has_Tl_0)) rfl dX6_text_39 ?_
    refine y_callVS C (z_invV C [.ref (ad 3 0)] [] (ct_X0_copyFrom l G (ad 4) (ad 3) (wR2 ad G.2 S3 4 3 ++ X) (S3 3) (S3 4) ) mi_X0_copyFrom md_X0_copyFrom ms_X0_copyFrom ml_RX6_89 has_C_0 ⟨_, rfl, rfl⟩ (by decide) rfl rfl dX6_text_42 (Nat.le_of_ble_eq_true rfl)) (sOut2 4 3 (by decide) (by decide) (by decide) wB_4 wB_3) (fun _ => sIn2 4 3 (by decide) (by decide) (by decide) wB_4 wB_3 _) (fun r4 S5 => ?_)
    refine z_aload_n C 1 dX6_text_45 rfl ?_
    refine z_get C fl_RX6_35 (sHas 0 (by decide) wB_0 (fun _ => has_Top_0)) rfl dX6_text_46 ?_
    refine z_iconst (v := 0) C dX6_text_49 (by decide) ?_
    refine z_put C fl_RX6_93 ft_2_0 (sUpd 6 (by decide) wB_6 (fun _ => upd_Sn_0_0)) rfl rfl (Nat.le_of_ble_eq_true rfl) dX6_text_50 (fun S6 => ?_)
    refine z_iconst (v := 0) C dX6_text_53 (by decide) ?_
    refine z_istore_n C [(2, .int 0), (1, .int (zb r1.1)), (0, .ref (ad 0 0))] dX6_text_54 (by decide) rfl ?_
    refine z_loc C [(0, .ref (ad 0 0)), (2, .int 0)] [2, 0] rfl ?_
    exact w_X6_text_55 C ad X    FU S6 0
  refine z_bipush (v := (-10)) C dX6_text_20 (by decide) ?_
  refine z_aload_n C 1 dX6_text_22 rfl ?_
  refine z_get C fl_RX6_21 (sHas 0 (by decide) wB_0 (fun _ => has_Top_0)) rfl dX6_text_23 ?_
  refine z_get C fl_RX6_83 (sHas 2 (by decide) wB_2 (fun _ => has_Tl_0)) rfl dX6_text_26 ?_
  refine z_isub C dX6_text_29 ?_
  exact z_iret C dX6_text_30 rfl rfl rfl
noncomputable def f_X6_sumB_18 (fr : (Nat → zM) → Int32 → Int32 → Int32 → Int32 → Int32 → Option (Int64 × (Nat → zM))) (S : (Nat → zM)) (v1 : Int32) (v4 : Int32) (v5 : Int32) : Option (Int64 × (Nat → zM)) := if v4 = 0 then (f_X0_sits (S (17 + (Int32.toNatClampNeg v1))) v5).bind fun r2 => if r2 = true then some ((1 : Int64), S) else some ((0 : Int64), S) else (f_X0_counted (S (17 + (Int32.toNatClampNeg v1))) v5).bind fun r3 => some ((Int32.toInt64 r3), S)
set_option maxHeartbeats 4000000 in
set_option maxRecDepth 100000 in
theorem w_X6_sumB_18 {p : Program} {l : Launch} {e : Env} {s : State} {m : MethodId} {args : Array Value} {below : List Frame} {meth : Method} {c : Code} {G : zG} {A : Nat → Prop} (C : zC p s m args meth c RX6 cX6_sumOverFutures 10 (some .long) G A) (ad : Nat → Nat → Nat) (X : va_W) (K : Nat) (fr : (Nat → zM) → Int32 → Int32 → Int32 → Int32 → Int32 → Option (Int64 × (Nat → zM))) (hfr : ∀ (S : Nat → zM) (v1 v2 v3 v4 v5 : Int32), zCt l yX6_sumOverFutures cX6_sumOverFutures 10 (some .long) (20 + K) G [.ref (ad 0 2), .int v1, .int v2, .int v3, .int v4, .int v5] (fun S : Nat → zM => wS ad G.2 S ++ X) (fun r : Int64 × (Nat → zM) => some (.long r.1)) (fun r => r.2) S (fr S v1 v2 v3 v4 v5)) : ∀ (S : (Nat → zM)) (v1 : Int32) (v4 : Int32) (v5 : Int32) (hv1 : vp_in v1 9) (hq1 : (Int32.toNatClampNeg v1) < 9), PW p l e (20 + K + 1) s m args below meth c G A 10 (fun S : Nat → zM => wS ad G.2 S ++ X) (fun r : Int64 × (Nat → zM) => some (.long r.1)) (fun r => r.2) S [(1, .int v1), (4, .int v4), (5, .int v5), (6, .ref (ad (17 + (Int32.toNatClampNeg v1)) 0))] 18 [] (f_X6_sumB_18 fr S v1 v4 v5) := by
  intro S v1 v4 v5 hv1 hq1
  rw [f_X6_sumB_18]
  refine z_iload C 1 dX6_sumOverFutures_18 rfl ?_
  refine z_ifeq C 32 dX6_sumOverFutures_20 (by decide) ?_ ?_
  · refine z_aload C 3 dX6_sumOverFutures_32 rfl ?_
    refine z_iload C 2 dX6_sumOverFutures_34 rfl ?_
    refine y_callZ C (z_invV C [.int v5] [] (ct_X0_sits l G (ad (17 + (Int32.toNatClampNeg v1))) (wR ad G.2 S (17 + (Int32.toNatClampNeg v1)) ++ X) (S (17 + (Int32.toNatClampNeg v1))) v5) mi_X0_sits md_X0_sits ms_X0_sits ml_RX6_175 has_C_0 ⟨_, rfl, rfl⟩ (by omega) rfl rfl dX6_sumOverFutures_36 (Nat.le_of_ble_eq_true rfl)) (sOut (17 + (Int32.toNatClampNeg v1)) (by have := hq1; omega) (wB_17 hq1)) (fun r2 => ?_)
    refine z_zifeq C 46 dX6_sumOverFutures_39 (by decide) ?_ ?_
    · refine z_lconst (v := 1) C dX6_sumOverFutures_42 (by decide) ?_
      refine z_goto C 47 dX6_sumOverFutures_43 (by decide) ?_
      exact z_lret C dX6_sumOverFutures_47 rfl rfl
    refine z_lconst (v := 0) C dX6_sumOverFutures_46 (by decide) ?_
    exact z_lret C dX6_sumOverFutures_47 rfl rfl
  refine z_aload C 3 dX6_sumOverFutures_23 rfl ?_
  refine z_iload C 2 dX6_sumOverFutures_25 rfl ?_
  refine y_callI C (z_invV C [.int v5] [] (ct_X0_counted l G (ad (17 + (Int32.toNatClampNeg v1))) (wR ad G.2 S (17 + (Int32.toNatClampNeg v1)) ++ X) (S (17 + (Int32.toNatClampNeg v1))) v5) mi_X0_counted md_X0_counted ms_X0_counted ml_RX6_135 has_C_0 ⟨_, rfl, rfl⟩ (by omega) rfl rfl dX6_sumOverFutures_27 (Nat.le_of_ble_eq_true rfl)) (sOut (17 + (Int32.toNatClampNeg v1)) (by have := hq1; omega) (wB_17 hq1)) (fun r3 => ?_)
  refine z_i2l C dX6_sumOverFutures_30 ?_
  exact z_lret C dX6_sumOverFutures_31 rfl rfl
noncomputable def f_X6_sumB_96 (fr : (Nat → zM) → Int32 → Int32 → Int32 → Int32 → Int32 → Option (Int64 × (Nat → zM))) (S : (Nat → zM)) (v1 : Int32) (v2 : Int32) (v3 : Int32) (v4 : Int32) (v5 : Int32) (v8 : Int64) : Option (Int64 × (Nat → zM)) := if 10 ≤ v3 then some (v8, S) else (f_X0_copyFrom (S (17 + (Int32.toNatClampNeg v1))) (S (17 + (Int32.toNatClampNeg (v1 + 1))))).bind fun r5 => zlet (va_up S (17 + (Int32.toNatClampNeg (v1 + 1))) r5) fun S6 => (f_X0_windToday (S6 (17 + (Int32.toNatClampNeg v1)))).bind fun r7 => (f_X0_passDay (S6 (17 + (Int32.toNatClampNeg (v1 + 1)))) r7).bind fun r8 => zlet (va_up S6 (17 + (Int32.toNatClampNeg (v1 + 1))) r8) fun S9 => (fr S9 (v1 + 1) v2 v3 v4 v5).bind fun r10 => zlet r10.2 fun S11 => some ((v8 + ((Int32.toInt64 (10 - v3)) * r10.1)), S11)
set_option maxHeartbeats 4000000 in
set_option maxRecDepth 100000 in
theorem w_X6_sumB_96 {p : Program} {l : Launch} {e : Env} {s : State} {m : MethodId} {args : Array Value} {below : List Frame} {meth : Method} {c : Code} {G : zG} {A : Nat → Prop} (C : zC p s m args meth c RX6 cX6_sumOverFutures 10 (some .long) G A) (ad : Nat → Nat → Nat) (X : va_W) (K : Nat) (fr : (Nat → zM) → Int32 → Int32 → Int32 → Int32 → Int32 → Option (Int64 × (Nat → zM))) (hfr : ∀ (S : Nat → zM) (v1 v2 v3 v4 v5 : Int32), zCt l yX6_sumOverFutures cX6_sumOverFutures 10 (some .long) (20 + K) G [.ref (ad 0 2), .int v1, .int v2, .int v3, .int v4, .int v5] (fun S : Nat → zM => wS ad G.2 S ++ X) (fun r : Int64 × (Nat → zM) => some (.long r.1)) (fun r => r.2) S (fr S v1 v2 v3 v4 v5)) : ∀ (S : (Nat → zM)) (v1 : Int32) (v2 : Int32) (v3 : Int32) (v4 : Int32) (v5 : Int32) (v8 : Int64) (hv1 : vp_in v1 9) (hq1 : (Int32.toNatClampNeg v1) < 9) (hv4 : vp_in (v1 + 1) 9) (hq4 : (Int32.toNatClampNeg (v1 + 1)) < 9), PW p l e (20 + K + 1) s m args below meth c G A 10 (fun S : Nat → zM => wS ad G.2 S ++ X) (fun r : Int64 × (Nat → zM) => some (.long r.1)) (fun r => r.2) S [(0, .ref (ad 0 2)), (1, .int v1), (2, .int v2), (3, .int v3), (4, .int v4), (5, .int v5), (6, .ref (ad (17 + (Int32.toNatClampNeg v1)) 0)), (7, .ref (ad (17 + (Int32.toNatClampNeg (v1 + 1))) 0)), (8, .long v8)] 96 [] (f_X6_sumB_96 fr S v1 v2 v3 v4 v5 v8) := by
  intro S v1 v2 v3 v4 v5 v8 hv1 hq1 hv4 hq4
  rw [f_X6_sumB_96]
  refine z_iload_n C 3 dX6_sumOverFutures_96 rfl ?_
  refine z_bipush (v := 10) C dX6_sumOverFutures_97 (by decide) ?_
  refine z_icmpge C 143 dX6_sumOverFutures_99 (by decide) ?_ ?_
  · refine z_lload C 8 dX6_sumOverFutures_143 rfl ?_
    exact z_lret C dX6_sumOverFutures_145 rfl rfl
  refine z_aload C 7 dX6_sumOverFutures_102 rfl ?_
  refine z_aload C 6 dX6_sumOverFutures_104 rfl ?_
  refine y_callVS C (z_invV C [.ref (ad (17 + (Int32.toNatClampNeg v1)) 0)] [] (ct_X0_copyFrom l G (ad (17 + (Int32.toNatClampNeg (v1 + 1)))) (ad (17 + (Int32.toNatClampNeg v1))) (wR2 ad G.2 S (17 + (Int32.toNatClampNeg (v1 + 1))) (17 + (Int32.toNatClampNeg v1)) ++ X) (S (17 + (Int32.toNatClampNeg v1))) (S (17 + (Int32.toNatClampNeg (v1 + 1)))) ) mi_X0_copyFrom md_X0_copyFrom ms_X0_copyFrom ml_RX6_89 has_C_0 ⟨_, rfl, rfl⟩ (by omega) rfl rfl dX6_sumOverFutures_106 (Nat.le_of_ble_eq_true rfl)) (sOut2 (17 + (Int32.toNatClampNeg (v1 + 1))) (17 + (Int32.toNatClampNeg v1)) (by have := hq4; omega) (by have := hq1; omega) (z_ne1 hv1 (by decide)) (wB_17 hq4) (wB_17 hq1)) (fun _ => sIn2 (17 + (Int32.toNatClampNeg (v1 + 1))) (17 + (Int32.toNatClampNeg v1)) (by have := hq4; omega) (by have := hq1; omega) (z_ne1 hv1 (by decide)) (wB_17 hq4) (wB_17 hq1) _) (fun r5 S6 => ?_)
  refine z_aload C 7 dX6_sumOverFutures_109 rfl ?_
  refine z_aload C 6 dX6_sumOverFutures_111 rfl ?_
  refine y_callI C (z_invV C [] [.ref (ad (17 + (Int32.toNatClampNeg (v1 + 1))) 0)] (ct_X0_windToday l G (ad (17 + (Int32.toNatClampNeg v1))) (wR ad G.2 S6 (17 + (Int32.toNatClampNeg v1)) ++ X) (S6 (17 + (Int32.toNatClampNeg v1))) ) mi_X0_windToday md_X0_windToday ms_X0_windToday ml_RX6_228 has_C_0 ⟨_, rfl, rfl⟩ (by omega) rfl rfl dX6_sumOverFutures_113 (Nat.le_of_ble_eq_true rfl)) (sOut (17 + (Int32.toNatClampNeg v1)) (by have := hq1; omega) (wB_17 hq1)) (fun r7 => ?_)
  refine y_callVS C (z_invV C [.int r7] [] (ct_X0_passDay l G (ad (17 + (Int32.toNatClampNeg (v1 + 1)))) (wR ad G.2 S6 (17 + (Int32.toNatClampNeg (v1 + 1))) ++ X) (S6 (17 + (Int32.toNatClampNeg (v1 + 1)))) r7) mi_X0_passDay md_X0_passDay ms_X0_passDay ml_RX6_231 has_C_0 ⟨_, rfl, rfl⟩ (by omega) rfl rfl dX6_sumOverFutures_116 (Nat.le_of_ble_eq_true rfl)) (sOut (17 + (Int32.toNatClampNeg (v1 + 1))) (by have := hq4; omega) (wB_17 hq4)) (fun _ => sIn (17 + (Int32.toNatClampNeg (v1 + 1))) (by have := hq4; omega) (wB_17 hq4) _) (fun r8 S9 => ?_)
  refine z_lload C 8 dX6_sumOverFutures_119 rfl ?_
  refine z_bipush (v := 10) C dX6_sumOverFutures_121 (by decide) ?_
  refine z_iload_n C 3 dX6_sumOverFutures_123 rfl ?_
  refine z_isub C dX6_sumOverFutures_124 ?_
  refine z_i2l C dX6_sumOverFutures_125 ?_
  refine z_aload_n C 0 dX6_sumOverFutures_126 rfl ?_
  refine z_iload_n C 1 dX6_sumOverFutures_127 rfl ?_
  refine z_iconst (v := 1) C dX6_sumOverFutures_128 (by decide) ?_
  refine z_iadd C dX6_sumOverFutures_129 ?_
  refine z_iload_n C 2 dX6_sumOverFutures_130 rfl ?_
  refine z_iload_n C 3 dX6_sumOverFutures_131 rfl ?_
  refine z_iload C 4 dX6_sumOverFutures_132 rfl ?_
  refine z_iload C 5 dX6_sumOverFutures_134 rfl ?_
  refine y_callLS C (z_invS C [.ref (ad 0 2), .int (v1 + 1), .int v2, .int v3, .int v4, .int v5] [.long (Int32.toInt64 (10 - v3)), .long v8] (hfr S9 (v1 + 1) v2 v3 v4 v5) mi_X6_sumOverFutures mt_X6_sumOverFutures ml_RX6_276 (by omega) rfl rfl dX6_sumOverFutures_136 (Nat.le_of_ble_eq_true rfl)) (List.Perm.refl _) (fun _ => List.Perm.refl _) (fun r10 S11 => ?_)
  refine z_lmul C dX6_sumOverFutures_139 ?_
  refine z_ladd C dX6_sumOverFutures_140 ?_
  refine z_lstore C [(8, .long (v8 + ((Int32.toInt64 (10 - v3)) * r10.1))), (0, .ref (ad 0 2)), (1, .int v1), (2, .int v2), (3, .int v3), (4, .int v4), (5, .int v5), (6, .ref (ad (17 + (Int32.toNatClampNeg v1)) 0)), (7, .ref (ad (17 + (Int32.toNatClampNeg (v1 + 1))) 0))] dX6_sumOverFutures_141 (by decide) rfl ?_
  refine z_lload C 0 dX6_sumOverFutures_143 rfl ?_
  exact z_lret C dX6_sumOverFutures_145 rfl rfl
noncomputable def f_X6_sumB (fr : (Nat → zM) → Int32 → Int32 → Int32 → Int32 → Int32 → Option (Int64 × (Nat → zM))) (S : (Nat → zM)) (v1 : Int32) (v2 : Int32) (v3 : Int32) (v4 : Int32) (v5 : Int32) : Option (Int64 × (Nat → zM)) := if z_in v1 9 = true then if v2 ≤ v1 then f_X6_sumB_18 fr S v1 v4 v5 else if (v1 + 1) < 9 then if z_in (v1 + 1) 9 = true then if v3 ≤ 0 then f_X6_sumB_96 fr S v1 v2 v3 v4 v5 (0 : Int64) else (f_X0_copyFrom (S (17 + (Int32.toNatClampNeg v1))) (S (17 + (Int32.toNatClampNeg (v1 + 1))))).bind fun r12 => zlet (va_up S (17 + (Int32.toNatClampNeg (v1 + 1))) r12) fun S13 => (f_X0_passDay (S13 (17 + (Int32.toNatClampNeg (v1 + 1)))) 0).bind fun r14 => zlet (va_up S13 (17 + (Int32.toNatClampNeg (v1 + 1))) r14) fun S15 => (fr S15 (v1 + 1) v2 v3 v4 v5).bind fun r16 => zlet r16.2 fun S17 => f_X6_sumB_96 fr S17 v1 v2 v3 v4 v5 ((0 : Int64) + ((Int32.toInt64 v3) * r16.1)) else none else f_X6_sumB_18 fr S v1 v4 v5 else none
set_option maxHeartbeats 4000000 in
set_option maxRecDepth 100000 in
theorem ct_X6_sumB (l : Launch) (G : zG) (ad : Nat → Nat → Nat) (X : va_W) (K : Nat) (fr : (Nat → zM) → Int32 → Int32 → Int32 → Int32 → Int32 → Option (Int64 × (Nat → zM))) (hfr : ∀ (S : Nat → zM) (v1 v2 v3 v4 v5 : Int32), zCt l yX6_sumOverFutures cX6_sumOverFutures 10 (some .long) (20 + K) G [.ref (ad 0 2), .int v1, .int v2, .int v3, .int v4, .int v5] (fun S : Nat → zM => wS ad G.2 S ++ X) (fun r : Int64 × (Nat → zM) => some (.long r.1)) (fun r => r.2) S (fr S v1 v2 v3 v4 v5)) (S : (Nat → zM)) (v1 : Int32) (v2 : Int32) (v3 : Int32) (v4 : Int32) (v5 : Int32) : zCt l yX6_sumOverFutures cX6_sumOverFutures 10 (some .long) (20 + K + 1) G [.ref (ad 0 2), .int v1, .int v2, .int v3, .int v4, .int v5] (fun S : Nat → zM => wS ad G.2 S ++ X) (fun r : Int64 × (Nat → zM) => some (.long r.1)) (fun r => r.2) S (f_X6_sumB fr S v1 v2 v3 v4 v5) := by
  refine zCt.of (by decide) (Nat.le_of_ble_eq_true rfl) (fun p e s m args below meth c A C => ?_)
  refine y_lv (lv' := [(0, .ref (ad 0 2)), (1, .int v1), (2, .int v2), (3, .int v3), (4, .int v4), (5, .int v5)]) rfl ?_
  rw [f_X6_sumB]
  refine z_aload_n C 0 dX6_sumOverFutures_0 rfl ?_
  refine z_iload_n C 1 dX6_sumOverFutures_1 rfl ?_
  refine y_aald (t0 := 3) (g := fun k => ad (17 + k) 0) C (sHas 0 (by decide) wB_0 (fun _ => has_Top_2)) rfl (fun _ _ => rfl) dX6_sumOverFutures_2 (fun hv1 hq1 => ?_)
  refine z_astore C [(6, .ref (ad (17 + (Int32.toNatClampNeg v1)) 0)), (0, .ref (ad 0 2)), (1, .int v1), (2, .int v2), (3, .int v3), (4, .int v4), (5, .int v5)] dX6_sumOverFutures_3 (by decide) rfl ?_
  refine z_iload_n C 2 dX6_sumOverFutures_5 rfl ?_
  refine z_iload_n C 3 dX6_sumOverFutures_6 rfl ?_
  refine z_icmpge C 18 dX6_sumOverFutures_7 (by decide) ?_ ?_
  · refine z_loc C [(1, .int v1), (4, .int v4), (5, .int v5), (6, .ref (ad (17 + (Int32.toNatClampNeg v1)) 0))] [2, 5, 6, 0] rfl ?_
    exact w_X6_sumB_18 C ad X K fr hfr     S v1 v4 v5 hv1 hq1
  refine z_iload_n C 2 dX6_sumOverFutures_10 rfl ?_
  refine z_iconst (v := 1) C dX6_sumOverFutures_11 (by decide) ?_
  refine z_iadd C dX6_sumOverFutures_12 ?_
  refine z_aload_n C 1 dX6_sumOverFutures_13 rfl ?_
  refine z_alen (t0 := 3) (v := 9) C (sHas 0 (by decide) wB_0 (fun _ => has_Top_2)) rfl rfl dX6_sumOverFutures_14 ?_
  refine z_icmplt C 48 dX6_sumOverFutures_15 (by decide) ?_ ?_
  · refine z_aload_n C 1 dX6_sumOverFutures_48 rfl ?_
    refine z_iload_n C 2 dX6_sumOverFutures_49 rfl ?_
    refine z_iconst (v := 1) C dX6_sumOverFutures_50 (by decide) ?_
    refine z_iadd C dX6_sumOverFutures_51 ?_
    refine y_aald (t0 := 3) (g := fun k => ad (17 + k) 0) C (sHas 0 (by decide) wB_0 (fun _ => has_Top_2)) rfl (fun _ _ => rfl) dX6_sumOverFutures_52 (fun hv4 hq4 => ?_)
    refine z_astore C [(7, .ref (ad (17 + (Int32.toNatClampNeg (v1 + 1))) 0)), (6, .ref (ad (17 + (Int32.toNatClampNeg v1)) 0)), (0, .ref (ad 0 2)), (1, .int v1), (2, .int v2), (3, .int v3), (4, .int v4), (5, .int v5)] dX6_sumOverFutures_53 (by decide) rfl ?_
    refine z_lconst (v := 0) C dX6_sumOverFutures_55 (by decide) ?_
    refine z_lstore C [(8, .long (0 : Int64)), (7, .ref (ad (17 + (Int32.toNatClampNeg (v1 + 1))) 0)), (6, .ref (ad (17 + (Int32.toNatClampNeg v1)) 0)), (0, .ref (ad 0 2)), (1, .int v1), (2, .int v2), (3, .int v3), (4, .int v4), (5, .int v5)] dX6_sumOverFutures_56 (by decide) rfl ?_
    refine z_iload_n C 6 dX6_sumOverFutures_58 rfl ?_
    refine z_ifle C 96 dX6_sumOverFutures_59 (by decide) ?_ ?_
    · refine z_loc C [(0, .ref (ad 0 2)), (1, .int v1), (2, .int v2), (3, .int v3), (4, .int v4), (5, .int v5), (6, .ref (ad (17 + (Int32.toNatClampNeg v1)) 0)), (7, .ref (ad (17 + (Int32.toNatClampNeg (v1 + 1))) 0)), (8, .long (0 : Int64))] [3, 4, 5, 6, 7, 8, 2, 1, 0] rfl ?_
      exact w_X6_sumB_96 C ad X K fr hfr     S v1 v2 v3 v4 v5 (0 : Int64) hv1 hq1 hv4 hq4
    refine z_aload C 1 dX6_sumOverFutures_62 rfl ?_
    refine z_aload C 2 dX6_sumOverFutures_64 rfl ?_
    refine y_callVS C (z_invV C [.ref (ad (17 + (Int32.toNatClampNeg v1)) 0)] [] (ct_X0_copyFrom l G (ad (17 + (Int32.toNatClampNeg (v1 + 1)))) (ad (17 + (Int32.toNatClampNeg v1))) (wR2 ad G.2 S (17 + (Int32.toNatClampNeg (v1 + 1))) (17 + (Int32.toNatClampNeg v1)) ++ X) (S (17 + (Int32.toNatClampNeg v1))) (S (17 + (Int32.toNatClampNeg (v1 + 1)))) ) mi_X0_copyFrom md_X0_copyFrom ms_X0_copyFrom ml_RX6_89 has_C_0 ⟨_, rfl, rfl⟩ (by omega) rfl rfl dX6_sumOverFutures_66 (Nat.le_of_ble_eq_true rfl)) (sOut2 (17 + (Int32.toNatClampNeg (v1 + 1))) (17 + (Int32.toNatClampNeg v1)) (by have := hq4; omega) (by have := hq1; omega) (z_ne1 hv1 (by decide)) (wB_17 hq4) (wB_17 hq1)) (fun _ => sIn2 (17 + (Int32.toNatClampNeg (v1 + 1))) (17 + (Int32.toNatClampNeg v1)) (by have := hq4; omega) (by have := hq1; omega) (z_ne1 hv1 (by decide)) (wB_17 hq4) (wB_17 hq1) _) (fun r12 S13 => ?_)
    refine z_aload C 1 dX6_sumOverFutures_69 rfl ?_
    refine z_iconst (v := 0) C dX6_sumOverFutures_71 (by decide) ?_
    refine y_callVS C (z_invV C [.int 0] [] (ct_X0_passDay l G (ad (17 + (Int32.toNatClampNeg (v1 + 1)))) (wR ad G.2 S13 (17 + (Int32.toNatClampNeg (v1 + 1))) ++ X) (S13 (17 + (Int32.toNatClampNeg (v1 + 1)))) 0) mi_X0_passDay md_X0_passDay ms_X0_passDay ml_RX6_231 has_C_0 ⟨_, rfl, rfl⟩ (by omega) rfl rfl dX6_sumOverFutures_72 (Nat.le_of_ble_eq_true rfl)) (sOut (17 + (Int32.toNatClampNeg (v1 + 1))) (by have := hq4; omega) (wB_17 hq4)) (fun _ => sIn (17 + (Int32.toNatClampNeg (v1 + 1))) (by have := hq4; omega) (wB_17 hq4) _) (fun r14 S15 => ?_)
    refine z_lload C 0 dX6_sumOverFutures_75 rfl ?_
    refine z_iload_n C 6 dX6_sumOverFutures_77 rfl ?_
    refine z_i2l C dX6_sumOverFutures_78 ?_
    refine z_aload_n C 3 dX6_sumOverFutures_79 rfl ?_
    refine z_iload_n C 4 dX6_sumOverFutures_80 rfl ?_
    refine z_iconst (v := 1) C dX6_sumOverFutures_81 (by decide) ?_
    refine z_iadd C dX6_sumOverFutures_82 ?_
    refine z_iload_n C 5 dX6_sumOverFutures_83 rfl ?_
    refine z_iload_n C 6 dX6_sumOverFutures_84 rfl ?_
    refine z_iload C 7 dX6_sumOverFutures_85 rfl ?_
    refine z_iload C 8 dX6_sumOverFutures_87 rfl ?_
    refine y_callLS C (z_invS C [.ref (ad 0 2), .int (v1 + 1), .int v2, .int v3, .int v4, .int v5] [.long (Int32.toInt64 v3), .long (0 : Int64)] (hfr S15 (v1 + 1) v2 v3 v4 v5) mi_X6_sumOverFutures mt_X6_sumOverFutures ml_RX6_276 (by omega) rfl rfl dX6_sumOverFutures_89 (Nat.le_of_ble_eq_true rfl)) (List.Perm.refl _) (fun _ => List.Perm.refl _) (fun r16 S17 => ?_)
    refine z_lmul C dX6_sumOverFutures_92 ?_
    refine z_ladd C dX6_sumOverFutures_93 ?_
    refine z_lstore C [(8, .long ((0 : Int64) + ((Int32.toInt64 v3) * r16.1))), (7, .ref (ad (17 + (Int32.toNatClampNeg (v1 + 1))) 0)), (6, .ref (ad (17 + (Int32.toNatClampNeg v1)) 0)), (0, .ref (ad 0 2)), (1, .int v1), (2, .int v2), (3, .int v3), (4, .int v4), (5, .int v5)] dX6_sumOverFutures_94 (by decide) rfl ?_
    refine z_loc C [(0, .ref (ad 0 2)), (1, .int v1), (2, .int v2), (3, .int v3), (4, .int v4), (5, .int v5), (6, .ref (ad (17 + (Int32.toNatClampNeg v1)) 0)), (7, .ref (ad (17 + (Int32.toNatClampNeg (v1 + 1))) 0)), (8, .long ((0 : Int64) + ((Int32.toInt64 v3) * r16.1)))] [3, 4, 5, 6, 7, 8, 2, 1, 0] rfl ?_
    exact w_X6_sumB_96 C ad X K fr hfr     S17 v1 v2 v3 v4 v5 ((0 : Int64) + ((Int32.toInt64 v3) * r16.1)) hv1 hq1 hv4 hq4
  refine z_loc C [(1, .int v1), (4, .int v4), (5, .int v5), (6, .ref (ad (17 + (Int32.toNatClampNeg v1)) 0))] [2, 5, 6, 0] rfl ?_
  exact w_X6_sumB_18 C ad X K fr hfr     S v1 v4 v5 hv1 hq1
noncomputable def f_X6_sumOverFutures : Nat → (Nat → zM) → Int32 → Int32 → Int32 → Int32 → Int32 → Option (Int64 × (Nat → zM))
  | 0 => fun _ _ _ _ _ _ => none
  | n + 1 => fun S v1 v2 v3 v4 v5 => f_X6_sumB (fun S v1 v2 v3 v4 v5 => f_X6_sumOverFutures n S v1 v2 v3 v4 v5) S v1 v2 v3 v4 v5
theorem ct_X6_sumOverFutures (l : Launch) (G : zG) (ad : Nat → Nat → Nat) (X : va_W) : ∀ (n : Nat) (S : Nat → zM) (v1 v2 v3 v4 v5 : Int32), zCt l yX6_sumOverFutures cX6_sumOverFutures 10 (some .long) (20 + n) G [.ref (ad 0 2), .int v1, .int v2, .int v3, .int v4, .int v5] (fun S : Nat → zM => wS ad G.2 S ++ X) (fun r : Int64 × (Nat → zM) => some (.long r.1)) (fun r => r.2) S (f_X6_sumOverFutures n S v1 v2 v3 v4 v5) := by
  intro n
  induction n with
  | zero => intro S v1 v2 v3 v4 v5 r hr; cases hr
  | succ n ih => intro S v1 v2 v3 v4 v5; exact ct_X6_sumB l G ad X n _ ih S v1 v2 v3 v4 v5
noncomputable def f_X6_byOdds (S : (Nat → zM)) (v1 : Int32) (v2 : Int32) (v3 : Int32) (v4 : Int32) (v5 : Int32) : Option (Int64 × (Nat → zM)) := (f_X6_isWithin v1 0 10).bind fun r1 => if r1 = true then (f_X6_isWithin v2 0 8).bind fun r2 => if r2 = true then (f_X6_isWithin v3 0 1).bind fun r3 => if r3 = true then if z_in 0 9 = true then (f_X0_copyFrom (S 4) (S (17 + (Int32.toNatClampNeg 0)))).bind fun r5 => zlet (va_up S (17 + (Int32.toNatClampNeg 0)) r5) fun S6 => (f_X6_sumOverFutures 12 S6 0 v2 v1 v4 v5).bind fun r7 => zlet r7.2 fun S8 => (f_X6_fractionOfTens r7.1 v2 v3).bind fun r9 => some (r9, S8) else none else some ((-1 : Int64), S) else some ((-1 : Int64), S) else some ((-1 : Int64), S)
set_option maxHeartbeats 4000000 in
set_option maxRecDepth 100000 in
theorem ct_X6_byOdds (l : Launch) (G : zG) (ad : Nat → Nat → Nat) (X : va_W) (S : (Nat → zM)) (v1 : Int32) (v2 : Int32) (v3 : Int32) (v4 : Int32) (v5 : Int32) : zCt l yX6_byOdds cX6_byOdds 6 (some .long) 33 G [.ref (ad 0 0), .int v1, .int v2, .int v3, .int v4, .int v5] (fun S : Nat → zM => wS ad G.2 S ++ X) (fun r : Int64 × (Nat → zM) => some (.long r.1)) (fun r => r.2) S (f_X6_byOdds S v1 v2 v3 v4 v5) := by
  refine zCt.of (by decide) (Nat.le_of_ble_eq_true rfl) (fun p e s m args below meth c A C => ?_)
  refine y_lv (lv' := [(0, .ref (ad 0 0)), (1, .int v1), (2, .int v2), (3, .int v3), (4, .int v4), (5, .int v5)]) rfl ?_
  rw [f_X6_byOdds]
  refine z_iload_n C 1 dX6_byOdds_0 rfl ?_
  refine z_iconst (v := 0) C dX6_byOdds_1 (by decide) ?_
  refine z_bipush (v := 10) C dX6_byOdds_2 (by decide) ?_
  refine y_callZ C (z_invS C [.int v1, .int 0, .int 10] [] (ct_X6_isWithin l G ((fun S : Nat → zM => wS ad G.2 S ++ X) S) v1 0 10) mi_X6_isWithin mt_X6_isWithin ml_RX6_68 (by decide) rfl rfl dX6_byOdds_4 (Nat.le_of_ble_eq_true rfl)) (List.Perm.refl _) (fun r1 => ?_)
  refine z_zifeq C 29 dX6_byOdds_7 (by decide) ?_ ?_
  · refine z_iload_n C 2 dX6_byOdds_10 rfl ?_
    refine z_iconst (v := 0) C dX6_byOdds_11 (by decide) ?_
    refine z_bipush (v := 8) C dX6_byOdds_12 (by decide) ?_
    refine y_callZ C (z_invS C [.int v2, .int 0, .int 8] [] (ct_X6_isWithin l G ((fun S : Nat → zM => wS ad G.2 S ++ X) S) v2 0 8) mi_X6_isWithin mt_X6_isWithin ml_RX6_68 (by decide) rfl rfl dX6_byOdds_14 (Nat.le_of_ble_eq_true rfl)) (List.Perm.refl _) (fun r2 => ?_)
    refine z_zifeq C 29 dX6_byOdds_17 (by decide) ?_ ?_
    · refine z_iload_n C 3 dX6_byOdds_20 rfl ?_
      refine z_iconst (v := 0) C dX6_byOdds_21 (by decide) ?_
      refine z_iconst (v := 1) C dX6_byOdds_22 (by decide) ?_
      refine y_callZ C (z_invS C [.int v3, .int 0, .int 1] [] (ct_X6_isWithin l G ((fun S : Nat → zM => wS ad G.2 S ++ X) S) v3 0 1) mi_X6_isWithin mt_X6_isWithin ml_RX6_68 (by decide) rfl rfl dX6_byOdds_23 (Nat.le_of_ble_eq_true rfl)) (List.Perm.refl _) (fun r3 => ?_)
      refine z_zifne C 33 dX6_byOdds_26 (by decide) ?_ ?_
      · refine z_aload_n C 0 dX6_byOdds_33 rfl ?_
        refine z_get C fl_RX6_42 (sHas 0 (by decide) wB_0 (fun _ => has_Top_0)) rfl dX6_byOdds_34 ?_
        refine z_iconst (v := 0) C dX6_byOdds_37 (by decide) ?_
        refine y_aald (t0 := 3) (g := fun k => ad (17 + k) 0) C (sHas 0 (by decide) wB_0 (fun _ => has_Top_2)) rfl (fun _ _ => rfl) dX6_byOdds_38 (fun hv4 hq4 => ?_)
        refine z_aload_n C 0 dX6_byOdds_39 rfl ?_
        refine z_get C fl_RX6_28 (sHas 0 (by decide) wB_0 (fun _ => has_Top_0)) rfl dX6_byOdds_40 ?_
        refine y_callVS C (z_invV C [.ref (ad 4 0)] [] (ct_X0_copyFrom l G (ad (17 + (Int32.toNatClampNeg 0))) (ad 4) (wR2 ad G.2 S (17 + (Int32.toNatClampNeg 0)) 4 ++ X) (S 4) (S (17 + (Int32.toNatClampNeg 0))) ) mi_X0_copyFrom md_X0_copyFrom ms_X0_copyFrom ml_RX6_89 has_C_0 ⟨_, rfl, rfl⟩ (by decide) rfl rfl dX6_byOdds_43 (Nat.le_of_ble_eq_true rfl)) (sOut2 (17 + (Int32.toNatClampNeg 0)) 4 (by have := hq4; omega) (by decide) (by have := hq4; omega) (wB_17 hq4) wB_4) (fun _ => sIn2 (17 + (Int32.toNatClampNeg 0)) 4 (by have := hq4; omega) (by decide) (by have := hq4; omega) (wB_17 hq4) wB_4 _) (fun r5 S6 => ?_)
        refine z_aload_n C 0 dX6_byOdds_46 rfl ?_
        refine z_get C fl_RX6_42 (sHas 0 (by decide) wB_0 (fun _ => has_Top_0)) rfl dX6_byOdds_47 ?_
        refine z_iconst (v := 0) C dX6_byOdds_50 (by decide) ?_
        refine z_iload_n C 2 dX6_byOdds_51 rfl ?_
        refine z_iload_n C 1 dX6_byOdds_52 rfl ?_
        refine z_iload C 4 dX6_byOdds_53 rfl ?_
        refine z_iload C 5 dX6_byOdds_55 rfl ?_
        refine y_callLS C (z_invS C [.ref (ad 0 2), .int 0, .int v2, .int v1, .int v4, .int v5] [] (ct_X6_sumOverFutures l G ad X 12 S6 0 v2 v1 v4 v5) mi_X6_sumOverFutures mt_X6_sumOverFutures ml_RX6_276 (by decide) rfl rfl dX6_byOdds_57 (Nat.le_of_ble_eq_true rfl)) (List.Perm.refl _) (fun _ => List.Perm.refl _) (fun r7 S8 => ?_)
        refine z_iload_n C 2 dX6_byOdds_60 rfl ?_
        refine z_iload_n C 3 dX6_byOdds_61 rfl ?_
        refine y_callL C (z_invS C [.long r7.1, .int v2, .int v3] [] (ct_X6_fractionOfTens l G ((fun S : Nat → zM => wS ad G.2 S ++ X) S8) r7.1 v2 v3) mi_X6_fractionOfTens mt_X6_fractionOfTens ml_RX6_280 (by decide) rfl rfl dX6_byOdds_62 (Nat.le_of_ble_eq_true rfl)) (List.Perm.refl _) (fun r9 => ?_)
        exact z_lret C dX6_byOdds_65 rfl rfl
      refine z_ldc2 C kc_RX6_209 dX6_byOdds_29 ?_
      exact z_lret C dX6_byOdds_32 rfl rfl
    refine z_ldc2 C kc_RX6_209 dX6_byOdds_29 ?_
    exact z_lret C dX6_byOdds_32 rfl rfl
  refine z_ldc2 C kc_RX6_209 dX6_byOdds_29 ?_
  exact z_lret C dX6_byOdds_32 rfl rfl
noncomputable def f_X6_luck (S : (Nat → zM)) (v1 : Int32) (v2 : Int32) (v3 : Int32) (v4 : Int32) : Option (Int64 × (Nat → zM)) := (f_X0_hasBeetle (S 4) v2).bind fun r1 => if r1 = true then (f_X6_byOdds S v1 v3 v4 0 v2).bind fun r2 => zlet r2.2 fun S3 => some (r2.1, S3) else some ((-1 : Int64), S)
set_option maxHeartbeats 4000000 in
set_option maxRecDepth 100000 in
theorem ct_X6_luck (l : Launch) (G : zG) (ad : Nat → Nat → Nat) (X : va_W) (S : (Nat → zM)) (v1 : Int32) (v2 : Int32) (v3 : Int32) (v4 : Int32) : zCt l yX6_luck cX6_luck 5 (some .long) 34 G [.ref (ad 0 0), .int v1, .int v2, .int v3, .int v4] (fun S : Nat → zM => wS ad G.2 S ++ X) (fun r : Int64 × (Nat → zM) => some (.long r.1)) (fun r => r.2) S (f_X6_luck S v1 v2 v3 v4) := by
  refine zCt.of (by decide) (Nat.le_of_ble_eq_true rfl) (fun p e s m args below meth c A C => ?_)
  refine y_lv (lv' := [(0, .ref (ad 0 0)), (1, .int v1), (2, .int v2), (3, .int v3), (4, .int v4)]) rfl ?_
  rw [f_X6_luck]
  refine z_aload_n C 0 dX6_luck_0 rfl ?_
  refine z_get C fl_RX6_28 (sHas 0 (by decide) wB_0 (fun _ => has_Top_0)) rfl dX6_luck_1 ?_
  refine z_iload_n C 2 dX6_luck_4 rfl ?_
  refine y_callZ C (z_invV C [.int v2] [] (ct_X0_hasBeetle l G (ad 4) (wR ad G.2 S 4 ++ X) (S 4) v2) mi_X0_hasBeetle md_X0_hasBeetle ms_X0_hasBeetle ml_RX6_141 has_C_0 ⟨_, rfl, rfl⟩ (by decide) rfl rfl dX6_luck_5 (Nat.le_of_ble_eq_true rfl)) (sOut 4 (by decide) wB_4) (fun r1 => ?_)
  refine z_zifeq C 24 dX6_luck_8 (by decide) ?_ ?_
  · refine z_aload_n C 0 dX6_luck_11 rfl ?_
    refine z_iload_n C 1 dX6_luck_12 rfl ?_
    refine z_iload_n C 3 dX6_luck_13 rfl ?_
    refine z_iload C 4 dX6_luck_14 rfl ?_
    refine z_iconst (v := 0) C dX6_luck_16 (by decide) ?_
    refine z_iload_n C 2 dX6_luck_17 rfl ?_
    refine y_callLS C (z_invV C [.int v1, .int v3, .int v4, .int 0, .int v2] [] (ct_X6_byOdds l G ad X S v1 v3 v4 0 v2) mi_X6_byOdds md_X6_byOdds ms_X6_byOdds ml_RX6_205 (sHas 0 (by decide) wB_0 (fun _ => has_Top_0)) ⟨_, rfl, rfl⟩ (by decide) rfl rfl dX6_luck_18 (Nat.le_of_ble_eq_true rfl)) (List.Perm.refl _) (fun _ => List.Perm.refl _) (fun r2 S3 => ?_)
    refine z_goto C 27 dX6_luck_21 (by decide) ?_
    exact z_lret C dX6_luck_27 rfl rfl
  refine z_ldc2 C kc_RX6_209 dX6_luck_24 ?_
  exact z_lret C dX6_luck_27 rfl rfl
noncomputable def f_X6_mean (S : (Nat → zM)) (v1 : Int32) (v2 : Int32) (v3 : Int32) (v4 : Int32) : Option (Int64 × (Nat → zM)) := (f_X0_hasOne (S 4) v2).bind fun r1 => if r1 = true then (f_X6_byOdds S v1 v3 v4 1 v2).bind fun r2 => zlet r2.2 fun S3 => some (r2.1, S3) else some ((-1 : Int64), S)
set_option maxHeartbeats 4000000 in
set_option maxRecDepth 100000 in
theorem ct_X6_mean (l : Launch) (G : zG) (ad : Nat → Nat → Nat) (X : va_W) (S : (Nat → zM)) (v1 : Int32) (v2 : Int32) (v3 : Int32) (v4 : Int32) : zCt l yX6_mean cX6_mean 5 (some .long) 34 G [.ref (ad 0 0), .int v1, .int v2, .int v3, .int v4] (fun S : Nat → zM => wS ad G.2 S ++ X) (fun r : Int64 × (Nat → zM) => some (.long r.1)) (fun r => r.2) S (f_X6_mean S v1 v2 v3 v4) := by
  refine zCt.of (by decide) (Nat.le_of_ble_eq_true rfl) (fun p e s m args below meth c A C => ?_)
  refine y_lv (lv' := [(0, .ref (ad 0 0)), (1, .int v1), (2, .int v2), (3, .int v3), (4, .int v4)]) rfl ?_
  rw [f_X6_mean]
  refine z_aload_n C 0 dX6_mean_0 rfl ?_
  refine z_get C fl_RX6_28 (sHas 0 (by decide) wB_0 (fun _ => has_Top_0)) rfl dX6_mean_1 ?_
  refine z_iload_n C 2 dX6_mean_4 rfl ?_
  refine y_callZ C (z_invV C [.int v2] [] (ct_X0_hasOne l G (ad 4) (wR ad G.2 S 4 ++ X) (S 4) v2) mi_X0_hasOne md_X0_hasOne ms_X0_hasOne ml_RX6_125 has_C_0 ⟨_, rfl, rfl⟩ (by decide) rfl rfl dX6_mean_5 (Nat.le_of_ble_eq_true rfl)) (sOut 4 (by decide) wB_4) (fun r1 => ?_)
  refine z_zifeq C 24 dX6_mean_8 (by decide) ?_ ?_
  · refine z_aload_n C 0 dX6_mean_11 rfl ?_
    refine z_iload_n C 1 dX6_mean_12 rfl ?_
    refine z_iload_n C 3 dX6_mean_13 rfl ?_
    refine z_iload C 4 dX6_mean_14 rfl ?_
    refine z_iconst (v := 1) C dX6_mean_16 (by decide) ?_
    refine z_iload_n C 2 dX6_mean_17 rfl ?_
    refine y_callLS C (z_invV C [.int v1, .int v3, .int v4, .int 1, .int v2] [] (ct_X6_byOdds l G ad X S v1 v3 v4 1 v2) mi_X6_byOdds md_X6_byOdds ms_X6_byOdds ml_RX6_205 (sHas 0 (by decide) wB_0 (fun _ => has_Top_0)) ⟨_, rfl, rfl⟩ (by decide) rfl rfl dX6_mean_18 (Nat.le_of_ble_eq_true rfl)) (List.Perm.refl _) (fun _ => List.Perm.refl _) (fun r2 S3 => ?_)
    refine z_goto C 27 dX6_mean_21 (by decide) ?_
    exact z_lret C dX6_mean_27 rfl rfl
  refine z_ldc2 C kc_RX6_209 dX6_mean_24 ?_
  exact z_lret C dX6_mean_27 rfl rfl
