def z0 : zM := fun _ _ => 0
def zSh0 : zM := zU z0 0 1 (-4)
theorem zHas.hd {w : va_W} {a : Nat} {e : va_E} : zHas ((a, e) :: w) a e := ⟨0, rfl⟩
theorem zHas.cons {w : va_W} {x : Nat × va_E} {a : Nat} {e : va_E} (h : zHas w a e) : zHas (x :: w) a e := zHas.app (w1 := [x]) h
theorem zUpd.hd {w : va_W} {a : Nat} {e e' : va_E} : zUpd ((a, e) :: w) a e e' ((a, e') :: w) := zUpd.at 0 rfl rfl
theorem zUpd.cons {w v : va_W} {x : Nat × va_E} {a : Nat} {e e' : va_E} (h : zUpd w a e e' v) : zUpd (x :: w) a e e' (x :: v) := zUpd.app (w1 := [x]) h
theorem zRev {l X : va_W} : (l.reverse ++ X).Perm (l ++ X) := (List.reverse_perm l).append_right X
theorem zff_0_5 : zFF 0 5 (.array .int) := ⟨RX0, TX0, 12, rfl, rfl, rfl, by decide +kernel⟩
theorem zff_0_6 : zFF 0 6 (.array .int) := ⟨RX0, TX0, 12, rfl, rfl, rfl, by decide +kernel⟩
theorem zff_0_7 : zFF 0 7 (.array .int) := ⟨RX0, TX0, 12, rfl, rfl, rfl, by decide +kernel⟩
theorem zff_0_8 : zFF 0 8 (.array .int) := ⟨RX0, TX0, 12, rfl, rfl, rfl, by decide +kernel⟩
theorem zff_0_9 : zFF 0 9 (.array .int) := ⟨RX0, TX0, 12, rfl, rfl, rfl, by decide +kernel⟩
theorem zff_0_10 : zFF 0 10 (.array .int) := ⟨RX0, TX0, 12, rfl, rfl, rfl, by decide +kernel⟩
theorem zff_0_11 : zFF 0 11 (.array .int) := ⟨RX0, TX0, 12, rfl, rfl, rfl, by decide +kernel⟩
theorem zNw_0 : zNw 0 12 RX0 [.int 0, .int 0, .int 0, .int 0, .int 0, .null, .null, .null, .null, .null, .null, .null] := ⟨TX0, tyX0, rfl, inTX0, tyX0_ok, (by intro j hj; have : j ∈ List.range 12 := List.mem_range.mpr hj; revert j; decide), mem_tb 62 (by decide +kernel) rfl, mem_tb 4 (by decide +kernel) rfl⟩
theorem zff_1_1 : zFF 1 1 (.object "SorrowSpots$County") := ⟨RX1, TX1, 3, rfl, rfl, rfl, by decide +kernel⟩
theorem zff_1_2 : zFF 1 2 (.object "SorrowSpots$Seen") := ⟨RX1, TX1, 3, rfl, rfl, rfl, by decide +kernel⟩
theorem zNw_1 : zNw 1 3 RX1 [.int 0, .null, .null] := ⟨TX1, tyX1, rfl, inTX1, tyX1_ok, (by intro j hj; have : j ∈ List.range 3 := List.mem_range.mpr hj; revert j; decide), mem_tb 172 (by decide +kernel) rfl, mem_tb 6 (by decide +kernel) rfl⟩
theorem zff_2_1 : zFF 2 1 (.array .int) := ⟨RX2, TX2, 4, rfl, rfl, rfl, by decide +kernel⟩
theorem zff_2_2 : zFF 2 2 (.array .int) := ⟨RX2, TX2, 4, rfl, rfl, rfl, by decide +kernel⟩
theorem zff_2_3 : zFF 2 3 (.array .int) := ⟨RX2, TX2, 4, rfl, rfl, rfl, by decide +kernel⟩
theorem zNw_2 : zNw 2 4 RX2 [.int 0, .null, .null, .null] := ⟨TX2, tyX2, rfl, inTX2, tyX2_ok, (by intro j hj; have : j ∈ List.range 4 := List.mem_range.mpr hj; revert j; decide), mem_tb 148 (by decide +kernel) rfl, mem_tb 5 (by decide +kernel) rfl⟩
theorem zff_3_2 : zFF 3 2 (.array .int) := ⟨RX3, TX3, 3, rfl, rfl, rfl, by decide +kernel⟩
theorem zNw_3 : zNw 3 3 RX3 [.int 0, .int 0, .null] := ⟨TX3, tyX3, rfl, inTX3, tyX3_ok, (by intro j hj; have : j ∈ List.range 3 := List.mem_range.mpr hj; revert j; decide), mem_tb 194 (by decide +kernel) rfl, mem_tb 7 (by decide +kernel) rfl⟩
theorem zff_4_0 : zFF 4 0 (.array .byte) := ⟨RX4, TX4, 6, rfl, rfl, rfl, by decide +kernel⟩
theorem zNw_4 : zNw 4 6 RX4 [.null, .int 0, .int 0, .int 0, .int 0, .int 0] := ⟨TX4, tyX4, rfl, inTX4, tyX4_ok, (by intro j hj; have : j ∈ List.range 6 := List.mem_range.mpr hj; revert j; decide), mem_tb 26 (by decide +kernel) rfl, mem_tb 2 (by decide +kernel) rfl⟩
theorem zff_5_0 : zFF 5 0 (.object "SorrowSpots$Tape") := ⟨RX5, TX5, 7, rfl, rfl, rfl, by decide +kernel⟩
theorem zff_5_1 : zFF 5 1 (.object "SorrowSpots$County") := ⟨RX5, TX5, 7, rfl, rfl, rfl, by decide +kernel⟩
theorem zff_5_2 : zFF 5 2 (.array .int) := ⟨RX5, TX5, 7, rfl, rfl, rfl, by decide +kernel⟩
theorem zNw_5 : zNw 5 7 RX5 [.null, .null, .null, .int 0, .int 0, .int 0, .int 0] := ⟨TX5, tyX5, rfl, inTX5, tyX5_ok, (by intro j hj; have : j ∈ List.range 7 := List.mem_range.mpr hj; revert j; decide), mem_tb 56 (by decide +kernel) rfl, mem_tb 3 (by decide +kernel) rfl⟩
theorem zff_6_0 : zFF 6 0 (.object "SorrowSpots$Tape") := ⟨RX6, TX6, 10, rfl, rfl, rfl, by decide +kernel⟩
theorem zff_6_1 : zFF 6 1 (.object "SorrowSpots$Teller") := ⟨RX6, TX6, 10, rfl, rfl, rfl, by decide +kernel⟩
theorem zff_6_2 : zFF 6 2 (.object "SorrowSpots$County") := ⟨RX6, TX6, 10, rfl, rfl, rfl, by decide +kernel⟩
theorem zff_6_3 : zFF 6 3 (.object "SorrowSpots$Seen") := ⟨RX6, TX6, 10, rfl, rfl, rfl, by decide +kernel⟩
theorem zff_6_4 : zFF 6 4 (.object "SorrowSpots$County") := ⟨RX6, TX6, 10, rfl, rfl, rfl, by decide +kernel⟩
theorem zff_6_5 : zFF 6 5 (.array (.object "SorrowSpots$County")) := ⟨RX6, TX6, 10, rfl, rfl, rfl, by decide +kernel⟩
theorem zff_6_6 : zFF 6 6 (.array .int) := ⟨RX6, TX6, 10, rfl, rfl, rfl, by decide +kernel⟩
theorem zff_6_7 : zFF 6 7 (.array (.object "SorrowSpots$Image")) := ⟨RX6, TX6, 10, rfl, rfl, rfl, by decide +kernel⟩
theorem zff_6_8 : zFF 6 8 (.array (.object "SorrowSpots$Sheet")) := ⟨RX6, TX6, 10, rfl, rfl, rfl, by decide +kernel⟩
theorem zNw_6 : zNw 6 10 RX6 [.null, .null, .null, .null, .null, .null, .null, .null, .null, .int 0] := ⟨TX6, tyX6, rfl, inTX6, tyX6_ok, (by intro j hj; have : j ∈ List.range 10 := List.mem_range.mpr hj; revert j; decide), mem_tb 18 (by decide +kernel) rfl, mem_tb 1 (by decide +kernel) rfl⟩
theorem zff_7_0 : zFF 7 0 (.array .int) := ⟨RX7, TX7, 29, rfl, rfl, rfl, by decide +kernel⟩
theorem zff_7_1 : zFF 7 1 (.array .int) := ⟨RX7, TX7, 29, rfl, rfl, rfl, by decide +kernel⟩
theorem zff_7_2 : zFF 7 2 (.array .boolean) := ⟨RX7, TX7, 29, rfl, rfl, rfl, by decide +kernel⟩
theorem zff_7_4 : zFF 7 4 (.array .int) := ⟨RX7, TX7, 29, rfl, rfl, rfl, by decide +kernel⟩
theorem zff_7_8 : zFF 7 8 (.array .int) := ⟨RX7, TX7, 29, rfl, rfl, rfl, by decide +kernel⟩
theorem zff_7_22 : zFF 7 22 (.array .int) := ⟨RX7, TX7, 29, rfl, rfl, rfl, by decide +kernel⟩
theorem zff_7_23 : zFF 7 23 (.array .int) := ⟨RX7, TX7, 29, rfl, rfl, rfl, by decide +kernel⟩
theorem zff_7_24 : zFF 7 24 (.array .int) := ⟨RX7, TX7, 29, rfl, rfl, rfl, by decide +kernel⟩
theorem zff_7_25 : zFF 7 25 (.array .int) := ⟨RX7, TX7, 29, rfl, rfl, rfl, by decide +kernel⟩
theorem zff_7_26 : zFF 7 26 (.array .int) := ⟨RX7, TX7, 29, rfl, rfl, rfl, by decide +kernel⟩
theorem zff_7_28 : zFF 7 28 (.array .int) := ⟨RX7, TX7, 29, rfl, rfl, rfl, by decide +kernel⟩
theorem zNw_7 : zNw 7 29 RX7 [.null, .null, .null, .int 0, .null, .int 0, .int 0, .int 0, .null, .int 0, .int 0, .int 0, .int 0, .int 0, .int 0, .int 0, .int 0, .int 0, .int 0, .long 0, .long 0, .long 0, .null, .null, .null, .null, .null, .int 0, .null] := ⟨TX7, tyX7, rfl, inTX7, tyX7_ok, (by intro j hj; have : j ∈ List.range 29 := List.mem_range.mpr hj; revert j; decide), mem_tb 770 (by decide +kernel) rfl, mem_tb 8 (by decide +kernel) rfl⟩
set_option maxHeartbeats 4000000 in
set_option maxRecDepth 100000 in
theorem cc_X0_init (l : Launch) (G : zG) (h0 : Nat) (X : va_W) : zCC l yX0_init cX0_init 1 1 7 40 G [.ref h0] (fun _ => True) ((h0, .inr (0, [.int 0, .int 0, .int 0, .int 0, .int 0, .null, .null, .null, .null, .null, .null, .null])) :: X) (fun w => ∃ a : Nat → Nat, h0 = a 0 ∧ w = wC a G.2 z0 ++ X) := by
  refine zCC.of (by decide) rfl (Nat.le_of_ble_eq_true rfl) (fun p e s m args below meth c A C hi hEx => ?_)
  refine c_lv (lv' := [(0, .ref h0)]) rfl ?_
  refine c_aload_n C 0 dX0_init_0 rfl ?_
  refine c_obj C 66 (by decide +kernel) (by decide) (Nat.le_of_ble_eq_true rfl) dX0_init_1 ?_
  refine c_aload_n C 0 dX0_init_4 rfl ?_
  refine c_iconst (v := 0) C dX0_init_5 (by decide) ?_
  refine c_put (ws' := (h0, .inr (0, [.int 0, .int 0, .int 0, .int 0, .int 0, .null, .null, .null, .null, .null, .null, .null])) :: (X)) C fl_RX0_9 ft_0_0 zUpd.hd rfl rfl (Nat.le_of_ble_eq_true rfl) dX0_init_6 ?_
  refine c_aload_n C 0 dX0_init_9 rfl ?_
  refine c_iconst (v := 0) C dX0_init_10 (by decide) ?_
  refine c_put (ws' := (h0, .inr (0, [.int 0, .int 0, .int 0, .int 0, .int 0, .null, .null, .null, .null, .null, .null, .null])) :: (X)) C fl_RX0_15 ft_0_1 zUpd.hd rfl rfl (Nat.le_of_ble_eq_true rfl) dX0_init_11 ?_
  refine c_aload_n C 0 dX0_init_14 rfl ?_
  refine c_iconst (v := 0) C dX0_init_15 (by decide) ?_
  refine c_put (ws' := (h0, .inr (0, [.int 0, .int 0, .int 0, .int 0, .int 0, .null, .null, .null, .null, .null, .null, .null])) :: (X)) C fl_RX0_18 ft_0_2 zUpd.hd rfl rfl (Nat.le_of_ble_eq_true rfl) dX0_init_16 ?_
  refine c_aload_n C 0 dX0_init_19 rfl ?_
  refine c_iconst (v := 0) C dX0_init_20 (by decide) ?_
  refine c_put (ws' := (h0, .inr (0, [.int 0, .int 0, .int 0, .int 0, .int 0, .null, .null, .null, .null, .null, .null, .null])) :: (X)) C fl_RX0_21 ft_0_3 zUpd.hd rfl rfl (Nat.le_of_ble_eq_true rfl) dX0_init_21 ?_
  refine c_aload_n C 0 dX0_init_24 rfl ?_
  refine c_iconst (v := 0) C dX0_init_25 (by decide) ?_
  refine c_put (ws' := (h0, .inr (0, [.int 0, .int 0, .int 0, .int 0, .int 0, .null, .null, .null, .null, .null, .null, .null])) :: (X)) C fl_RX0_24 ft_0_4 zUpd.hd rfl rfl (Nat.le_of_ble_eq_true rfl) dX0_init_26 ?_
  refine c_aload_n C 0 dX0_init_29 rfl ?_
  refine c_iconst (v := 4) C dX0_init_30 (by decide) ?_
  refine c_newa C 1 (a0 := (4, .inl (fun _ => 0))) (mem_tb 118 (by decide +kernel) rfl) rfl rfl (by intro _ h; cases h) (fun _ => rfl) (by decide) (by decide) (by decide) (by decide) (by decide) dX0_init_31 (fun q31_20 => ?_)
  refine c_putF (ws' := (q31_20, .inl (G.2 1, 4, .inl (fun _ => 0))) :: ((h0, .inr (0, [.int 0, .int 0, .int 0, .int 0, .int 0, .ref q31_20, .null, .null, .null, .null, .null, .null])) :: (X))) C hi fl_RX0_27 zff_0_5 ⟨_, rfl, rfl, mem_tb 78 (by decide +kernel) rfl⟩ (zUpd.cons zUpd.hd) rfl rfl (Nat.le_of_ble_eq_true rfl) dX0_init_33 ?_
  refine c_aload_n C 0 dX0_init_36 rfl ?_
  refine c_bipush (v := 6) C dX0_init_37 (by decide) ?_
  refine c_newa C 1 (a0 := (6, .inl (fun _ => 0))) (mem_tb 118 (by decide +kernel) rfl) rfl rfl (by intro _ h; cases h) (fun _ => rfl) (by decide) (by decide) (by decide) (by decide) (by decide) dX0_init_39 (fun q39_24 => ?_)
  refine c_putF (ws' := (q39_24, .inl (G.2 1, 6, .inl (fun _ => 0))) :: ((q31_20, .inl (G.2 1, 4, .inl (fun _ => 0))) :: ((h0, .inr (0, [.int 0, .int 0, .int 0, .int 0, .int 0, .ref q31_20, .ref q39_24, .null, .null, .null, .null, .null])) :: (X)))) C hi fl_RX0_31 zff_0_6 ⟨_, rfl, rfl, mem_tb 80 (by decide +kernel) rfl⟩ (zUpd.cons (zUpd.cons zUpd.hd)) rfl rfl (Nat.le_of_ble_eq_true rfl) dX0_init_41 ?_
  refine c_aload_n C 0 dX0_init_44 rfl ?_
  refine c_bipush (v := 6) C dX0_init_45 (by decide) ?_
  refine c_newa C 1 (a0 := (6, .inl (fun _ => 0))) (mem_tb 118 (by decide +kernel) rfl) rfl rfl (by intro _ h; cases h) (fun _ => rfl) (by decide) (by decide) (by decide) (by decide) (by decide) dX0_init_47 (fun q47_28 => ?_)
  refine c_putF (ws' := (q47_28, .inl (G.2 1, 6, .inl (fun _ => 0))) :: ((q39_24, .inl (G.2 1, 6, .inl (fun _ => 0))) :: ((q31_20, .inl (G.2 1, 4, .inl (fun _ => 0))) :: ((h0, .inr (0, [.int 0, .int 0, .int 0, .int 0, .int 0, .ref q31_20, .ref q39_24, .ref q47_28, .null, .null, .null, .null])) :: (X))))) C hi fl_RX0_34 zff_0_7 ⟨_, rfl, rfl, mem_tb 82 (by decide +kernel) rfl⟩ (zUpd.cons (zUpd.cons (zUpd.cons zUpd.hd))) rfl rfl (Nat.le_of_ble_eq_true rfl) dX0_init_49 ?_
  refine c_aload_n C 0 dX0_init_52 rfl ?_
  refine c_bipush (v := 6) C dX0_init_53 (by decide) ?_
  refine c_newa C 1 (a0 := (6, .inl (fun _ => 0))) (mem_tb 118 (by decide +kernel) rfl) rfl rfl (by intro _ h; cases h) (fun _ => rfl) (by decide) (by decide) (by decide) (by decide) (by decide) dX0_init_55 (fun q55_32 => ?_)
  refine c_putF (ws' := (q55_32, .inl (G.2 1, 6, .inl (fun _ => 0))) :: ((q47_28, .inl (G.2 1, 6, .inl (fun _ => 0))) :: ((q39_24, .inl (G.2 1, 6, .inl (fun _ => 0))) :: ((q31_20, .inl (G.2 1, 4, .inl (fun _ => 0))) :: ((h0, .inr (0, [.int 0, .int 0, .int 0, .int 0, .int 0, .ref q31_20, .ref q39_24, .ref q47_28, .ref q55_32, .null, .null, .null])) :: (X)))))) C hi fl_RX0_37 zff_0_8 ⟨_, rfl, rfl, mem_tb 84 (by decide +kernel) rfl⟩ (zUpd.cons (zUpd.cons (zUpd.cons (zUpd.cons zUpd.hd)))) rfl rfl (Nat.le_of_ble_eq_true rfl) dX0_init_57 ?_
  refine c_aload_n C 0 dX0_init_60 rfl ?_
  refine c_bipush (v := 6) C dX0_init_61 (by decide) ?_
  refine c_newa C 1 (a0 := (6, .inl (fun _ => 0))) (mem_tb 118 (by decide +kernel) rfl) rfl rfl (by intro _ h; cases h) (fun _ => rfl) (by decide) (by decide) (by decide) (by decide) (by decide) dX0_init_63 (fun q63_36 => ?_)
  refine c_putF (ws' := (q63_36, .inl (G.2 1, 6, .inl (fun _ => 0))) :: ((q55_32, .inl (G.2 1, 6, .inl (fun _ => 0))) :: ((q47_28, .inl (G.2 1, 6, .inl (fun _ => 0))) :: ((q39_24, .inl (G.2 1, 6, .inl (fun _ => 0))) :: ((q31_20, .inl (G.2 1, 4, .inl (fun _ => 0))) :: ((h0, .inr (0, [.int 0, .int 0, .int 0, .int 0, .int 0, .ref q31_20, .ref q39_24, .ref q47_28, .ref q55_32, .ref q63_36, .null, .null])) :: (X))))))) C hi fl_RX0_40 zff_0_9 ⟨_, rfl, rfl, mem_tb 87 (by decide +kernel) rfl⟩ (zUpd.cons (zUpd.cons (zUpd.cons (zUpd.cons (zUpd.cons zUpd.hd))))) rfl rfl (Nat.le_of_ble_eq_true rfl) dX0_init_65 ?_
  refine c_aload_n C 0 dX0_init_68 rfl ?_
  refine c_bipush (v := 6) C dX0_init_69 (by decide) ?_
  refine c_newa C 1 (a0 := (6, .inl (fun _ => 0))) (mem_tb 118 (by decide +kernel) rfl) rfl rfl (by intro _ h; cases h) (fun _ => rfl) (by decide) (by decide) (by decide) (by decide) (by decide) dX0_init_71 (fun q71_40 => ?_)
  refine c_putF (ws' := (q71_40, .inl (G.2 1, 6, .inl (fun _ => 0))) :: ((q63_36, .inl (G.2 1, 6, .inl (fun _ => 0))) :: ((q55_32, .inl (G.2 1, 6, .inl (fun _ => 0))) :: ((q47_28, .inl (G.2 1, 6, .inl (fun _ => 0))) :: ((q39_24, .inl (G.2 1, 6, .inl (fun _ => 0))) :: ((q31_20, .inl (G.2 1, 4, .inl (fun _ => 0))) :: ((h0, .inr (0, [.int 0, .int 0, .int 0, .int 0, .int 0, .ref q31_20, .ref q39_24, .ref q47_28, .ref q55_32, .ref q63_36, .ref q71_40, .null])) :: (X)))))))) C hi fl_RX0_43 zff_0_10 ⟨_, rfl, rfl, mem_tb 89 (by decide +kernel) rfl⟩ (zUpd.cons (zUpd.cons (zUpd.cons (zUpd.cons (zUpd.cons (zUpd.cons zUpd.hd)))))) rfl rfl (Nat.le_of_ble_eq_true rfl) dX0_init_73 ?_
  refine c_aload_n C 0 dX0_init_76 rfl ?_
  refine c_bipush (v := 6) C dX0_init_77 (by decide) ?_
  refine c_newa C 1 (a0 := (6, .inl (fun _ => 0))) (mem_tb 118 (by decide +kernel) rfl) rfl rfl (by intro _ h; cases h) (fun _ => rfl) (by decide) (by decide) (by decide) (by decide) (by decide) dX0_init_79 (fun q79_44 => ?_)
  refine c_putF (ws' := (q79_44, .inl (G.2 1, 6, .inl (fun _ => 0))) :: ((q71_40, .inl (G.2 1, 6, .inl (fun _ => 0))) :: ((q63_36, .inl (G.2 1, 6, .inl (fun _ => 0))) :: ((q55_32, .inl (G.2 1, 6, .inl (fun _ => 0))) :: ((q47_28, .inl (G.2 1, 6, .inl (fun _ => 0))) :: ((q39_24, .inl (G.2 1, 6, .inl (fun _ => 0))) :: ((q31_20, .inl (G.2 1, 4, .inl (fun _ => 0))) :: ((h0, .inr (0, [.int 0, .int 0, .int 0, .int 0, .int 0, .ref q31_20, .ref q39_24, .ref q47_28, .ref q55_32, .ref q63_36, .ref q71_40, .ref q79_44])) :: (X))))))))) C hi fl_RX0_46 zff_0_11 ⟨_, rfl, rfl, mem_tb 90 (by decide +kernel) rfl⟩ (zUpd.cons (zUpd.cons (zUpd.cons (zUpd.cons (zUpd.cons (zUpd.cons (zUpd.cons zUpd.hd))))))) rfl rfl (Nat.le_of_ble_eq_true rfl) dX0_init_81 ?_
  exact c_ret C (by decide) (by decide) dX0_init_84 ⟨wC (fun j => if j = 0 then h0 else if j = 1 then q31_20 else if j = 2 then q39_24 else if j = 3 then q47_28 else if j = 4 then q55_32 else if j = 5 then q63_36 else if j = 6 then q71_40 else q79_44) G.2 z0 ++ X, zRev (l := wC (fun j => if j = 0 then h0 else if j = 1 then q31_20 else if j = 2 then q39_24 else if j = 3 then q47_28 else if j = 4 then q55_32 else if j = 5 then q63_36 else if j = 6 then q71_40 else q79_44) G.2 z0), (fun j => if j = 0 then h0 else if j = 1 then q31_20 else if j = 2 then q39_24 else if j = 3 then q47_28 else if j = 4 then q55_32 else if j = 5 then q63_36 else if j = 6 then q71_40 else q79_44), rfl, rfl⟩
set_option maxHeartbeats 4000000 in
set_option maxRecDepth 100000 in
theorem cc_X2_init (l : Launch) (G : zG) (h0 : Nat) (X : va_W) : zCC l yX2_init cX2_init 1 1 3 18 G [.ref h0] (fun _ => True) ((h0, .inr (2, [.int 0, .null, .null, .null])) :: X) (fun w => ∃ a : Nat → Nat, h0 = a 0 ∧ w = wSn a G.2 z0 ++ X) := by
  refine zCC.of (by decide) rfl (Nat.le_of_ble_eq_true rfl) (fun p e s m args below meth c A C hi hEx => ?_)
  refine c_lv (lv' := [(0, .ref h0)]) rfl ?_
  refine c_aload_n C 0 dX2_init_0 rfl ?_
  refine c_obj C 152 (by decide +kernel) (by decide) (Nat.le_of_ble_eq_true rfl) dX2_init_1 ?_
  refine c_aload_n C 0 dX2_init_4 rfl ?_
  refine c_iconst (v := 0) C dX2_init_5 (by decide) ?_
  refine c_put (ws' := (h0, .inr (2, [.int 0, .null, .null, .null])) :: (X)) C fl_RX2_9 ft_2_0 zUpd.hd rfl rfl (Nat.le_of_ble_eq_true rfl) dX2_init_6 ?_
  refine c_aload_n C 0 dX2_init_9 rfl ?_
  refine c_bipush (v := 6) C dX2_init_10 (by decide) ?_
  refine c_newa C 1 (a0 := (6, .inl (fun _ => 0))) (mem_tb 118 (by decide +kernel) rfl) rfl rfl (by intro _ h; cases h) (fun _ => rfl) (by decide) (by decide) (by decide) (by decide) (by decide) dX2_init_12 (fun q12_8 => ?_)
  refine c_putF (ws' := (q12_8, .inl (G.2 1, 6, .inl (fun _ => 0))) :: ((h0, .inr (2, [.int 0, .ref q12_8, .null, .null])) :: (X))) C hi fl_RX2_15 zff_2_1 ⟨_, rfl, rfl, mem_tb 155 (by decide +kernel) rfl⟩ (zUpd.cons zUpd.hd) rfl rfl (Nat.le_of_ble_eq_true rfl) dX2_init_14 ?_
  refine c_aload_n C 0 dX2_init_17 rfl ?_
  refine c_bipush (v := 6) C dX2_init_18 (by decide) ?_
  refine c_newa C 1 (a0 := (6, .inl (fun _ => 0))) (mem_tb 118 (by decide +kernel) rfl) rfl rfl (by intro _ h; cases h) (fun _ => rfl) (by decide) (by decide) (by decide) (by decide) (by decide) dX2_init_20 (fun q20_12 => ?_)
  refine c_putF (ws' := (q20_12, .inl (G.2 1, 6, .inl (fun _ => 0))) :: ((q12_8, .inl (G.2 1, 6, .inl (fun _ => 0))) :: ((h0, .inr (2, [.int 0, .ref q12_8, .ref q20_12, .null])) :: (X)))) C hi fl_RX2_19 zff_2_2 ⟨_, rfl, rfl, mem_tb 156 (by decide +kernel) rfl⟩ (zUpd.cons (zUpd.cons zUpd.hd)) rfl rfl (Nat.le_of_ble_eq_true rfl) dX2_init_22 ?_
  refine c_aload_n C 0 dX2_init_25 rfl ?_
  refine c_bipush (v := 6) C dX2_init_26 (by decide) ?_
  refine c_newa C 1 (a0 := (6, .inl (fun _ => 0))) (mem_tb 118 (by decide +kernel) rfl) rfl rfl (by intro _ h; cases h) (fun _ => rfl) (by decide) (by decide) (by decide) (by decide) (by decide) dX2_init_28 (fun q28_16 => ?_)
  refine c_putF (ws' := (q28_16, .inl (G.2 1, 6, .inl (fun _ => 0))) :: ((q20_12, .inl (G.2 1, 6, .inl (fun _ => 0))) :: ((q12_8, .inl (G.2 1, 6, .inl (fun _ => 0))) :: ((h0, .inr (2, [.int 0, .ref q12_8, .ref q20_12, .ref q28_16])) :: (X))))) C hi fl_RX2_22 zff_2_3 ⟨_, rfl, rfl, mem_tb 157 (by decide +kernel) rfl⟩ (zUpd.cons (zUpd.cons (zUpd.cons zUpd.hd))) rfl rfl (Nat.le_of_ble_eq_true rfl) dX2_init_30 ?_
  exact c_ret C (by decide) (by decide) dX2_init_33 ⟨wSn (fun j => if j = 0 then h0 else if j = 1 then q12_8 else if j = 2 then q20_12 else q28_16) G.2 z0 ++ X, zRev (l := wSn (fun j => if j = 0 then h0 else if j = 1 then q12_8 else if j = 2 then q20_12 else q28_16) G.2 z0), (fun j => if j = 0 then h0 else if j = 1 then q12_8 else if j = 2 then q20_12 else q28_16), rfl, rfl⟩
set_option maxHeartbeats 4000000 in
set_option maxRecDepth 100000 in
theorem cc_X3_init (l : Launch) (G : zG) (h0 : Nat) (X : va_W) : zCC l yX3_init cX3_init 1 1 1 40 G [.ref h0] (fun _ => True) ((h0, .inr (3, [.int 0, .int 0, .null])) :: X) (fun w => ∃ a : Nat → Nat, h0 = a 0 ∧ w = wSh a G.2 zSh0 ++ X) := by
  refine zCC.of (by decide) rfl (Nat.le_of_ble_eq_true rfl) (fun p e s m args below meth c A C hi hEx => ?_)
  refine c_lv (lv' := [(0, .ref h0)]) rfl ?_
  refine c_aload_n C 0 dX3_init_0 rfl ?_
  refine c_obj C 198 (by decide +kernel) (by decide) (Nat.le_of_ble_eq_true rfl) dX3_init_1 ?_
  refine c_aload_n C 0 dX3_init_4 rfl ?_
  refine c_iconst (v := 0) C dX3_init_5 (by decide) ?_
  refine c_put (ws' := (h0, .inr (3, [.int 0, .int 0, .null])) :: (X)) C fl_RX3_9 ft_3_0 zUpd.hd rfl rfl (Nat.le_of_ble_eq_true rfl) dX3_init_6 ?_
  refine c_aload_n C 0 dX3_init_9 rfl ?_
  refine c_bipush (v := (-4)) C dX3_init_10 (by decide) ?_
  refine c_put (ws' := (h0, .inr (3, [.int 0, .int (-4), .null])) :: (X)) C fl_RX3_15 ft_3_1 zUpd.hd rfl rfl (Nat.le_of_ble_eq_true rfl) dX3_init_12 ?_
  refine c_aload_n C 0 dX3_init_15 rfl ?_
  refine c_bipush (v := 40) C dX3_init_16 (by decide) ?_
  refine c_newa C 1 (a0 := (40, .inl (fun _ => 0))) (mem_tb 118 (by decide +kernel) rfl) rfl rfl (by intro _ h; cases h) (fun _ => rfl) (by decide) (by decide) (by decide) (by decide) (by decide) dX3_init_18 (fun q18_11 => ?_)
  refine c_putF (ws' := (q18_11, .inl (G.2 1, 40, .inl (fun _ => 0))) :: ((h0, .inr (3, [.int 0, .int (-4), .ref q18_11])) :: (X))) C hi fl_RX3_18 zff_3_2 ⟨_, rfl, rfl, mem_tb 203 (by decide +kernel) rfl⟩ (zUpd.cons zUpd.hd) rfl rfl (Nat.le_of_ble_eq_true rfl) dX3_init_20 ?_
  exact c_ret C (by decide) (by decide) dX3_init_23 ⟨wSh (fun j => if j = 0 then h0 else q18_11) G.2 zSh0 ++ X, zRev (l := wSh (fun j => if j = 0 then h0 else q18_11) G.2 zSh0), (fun j => if j = 0 then h0 else q18_11), rfl, rfl⟩
set_option maxHeartbeats 4000000 in
set_option maxRecDepth 100000 in
theorem cc_X4_init (l : Launch) (G : zG) (h0 : Nat) (X : va_W) : zCC l yX4_init cX4_init 1 1 1 160 G [.ref h0] (fun _ => True) ((h0, .inr (4, [.null, .int 0, .int 0, .int 0, .int 0, .int 0])) :: X) (fun w => ∃ a : Nat → Nat, h0 = a 0 ∧ w = wTp a G.2 z0 ++ X) := by
  refine zCC.of (by decide) rfl (Nat.le_of_ble_eq_true rfl) (fun p e s m args below meth c A C hi hEx => ?_)
  refine c_lv (lv' := [(0, .ref h0)]) rfl ?_
  refine c_aload_n C 0 dX4_init_0 rfl ?_
  refine c_obj C 30 (by decide +kernel) (by decide) (Nat.le_of_ble_eq_true rfl) dX4_init_1 ?_
  refine c_aload_n C 0 dX4_init_4 rfl ?_
  refine c_sipush (v := 160) C dX4_init_5 (by decide) ?_
  refine c_newa C 0 (a0 := (160, .inl (fun _ => 0))) (mem_tb 54 (by decide +kernel) rfl) rfl rfl (by intro _ h; cases h) (fun _ => rfl) (by decide) (by decide) (by decide) (by decide) (by decide) dX4_init_8 (fun q8_5 => ?_)
  refine c_putF (ws' := (q8_5, .inl (G.2 0, 160, .inl (fun _ => 0))) :: ((h0, .inr (4, [.ref q8_5, .int 0, .int 0, .int 0, .int 0, .int 0])) :: (X))) C hi fl_RX4_9 zff_4_0 ⟨_, rfl, rfl, mem_tb 31 (by decide +kernel) rfl⟩ (zUpd.cons zUpd.hd) rfl rfl (Nat.le_of_ble_eq_true rfl) dX4_init_10 ?_
  refine c_aload_n C 0 dX4_init_13 rfl ?_
  refine c_iconst (v := 0) C dX4_init_14 (by decide) ?_
  refine c_put (ws' := (q8_5, .inl (G.2 0, 160, .inl (fun _ => 0))) :: ((h0, .inr (4, [.ref q8_5, .int 0, .int 0, .int 0, .int 0, .int 0])) :: (X))) C fl_RX4_15 ft_4_1 (zUpd.cons zUpd.hd) rfl rfl (Nat.le_of_ble_eq_true rfl) dX4_init_15 ?_
  refine c_aload_n C 0 dX4_init_18 rfl ?_
  refine c_iconst (v := 0) C dX4_init_19 (by decide) ?_
  refine c_put (ws' := (q8_5, .inl (G.2 0, 160, .inl (fun _ => 0))) :: ((h0, .inr (4, [.ref q8_5, .int 0, .int 0, .int 0, .int 0, .int 0])) :: (X))) C fl_RX4_19 ft_4_2 (zUpd.cons zUpd.hd) rfl rfl (Nat.le_of_ble_eq_true rfl) dX4_init_20 ?_
  refine c_aload_n C 0 dX4_init_23 rfl ?_
  refine c_iconst (v := 0) C dX4_init_24 (by decide) ?_
  refine c_put (ws' := (q8_5, .inl (G.2 0, 160, .inl (fun _ => 0))) :: ((h0, .inr (4, [.ref q8_5, .int 0, .int 0, .int 0, .int 0, .int 0])) :: (X))) C fl_RX4_22 ft_4_3 (zUpd.cons zUpd.hd) rfl rfl (Nat.le_of_ble_eq_true rfl) dX4_init_25 ?_
  refine c_aload_n C 0 dX4_init_28 rfl ?_
  refine c_iconst (v := 0) C dX4_init_29 (by decide) ?_
  refine c_put (ws' := (q8_5, .inl (G.2 0, 160, .inl (fun _ => 0))) :: ((h0, .inr (4, [.ref q8_5, .int 0, .int 0, .int 0, .int 0, .int 0])) :: (X))) C fl_RX4_25 ft_4_4 (zUpd.cons zUpd.hd) rfl rfl (Nat.le_of_ble_eq_true rfl) dX4_init_30 ?_
  refine c_aload_n C 0 dX4_init_33 rfl ?_
  refine c_iconst (v := 0) C dX4_init_34 (by decide) ?_
  refine c_put (ws' := (q8_5, .inl (G.2 0, 160, .inl (fun _ => 0))) :: ((h0, .inr (4, [.ref q8_5, .int 0, .int 0, .int 0, .int 0, .int 0])) :: (X))) C fl_RX4_28 ft_4_5 (zUpd.cons zUpd.hd) rfl rfl (Nat.le_of_ble_eq_true rfl) dX4_init_35 ?_
  exact c_ret C (by decide) (by decide) dX4_init_38 ⟨wTp (fun j => if j = 0 then h0 else q8_5) G.2 z0 ++ X, zRev (l := wTp (fun j => if j = 0 then h0 else q8_5) G.2 z0), (fun j => if j = 0 then h0 else q8_5), rfl, rfl⟩
theorem zp5 {x y : Nat × va_E} {w X : va_W} : (y :: (w ++ (x :: X))).Perm (x :: (y :: (w ++ X))) := (List.Perm.cons y List.perm_middle).trans (List.Perm.swap x y _)
set_option maxHeartbeats 4000000 in
set_option maxRecDepth 100000 in
theorem cc_X5_init (l : Launch) (G : zG) (h0 : Nat) (tp : Nat) (X : va_W) : zCC l yX5_init cX5_init 2 2 9 55 G [.ref h0, .ref tp] (fun _ => True) ((h0, .inr (5, [.null, .null, .null, .int 0, .int 0, .int 0, .int 0])) :: X) (fun w => ∃ (a : Nat → Nat) (q : Nat), w = (h0, .inr (5, [.ref tp, .ref (a 0), .ref q, .int 0, .int 0, .int 0, .int 0])) :: ((q, .inl (G.2 1, 3, .inl (fun _ => 0))) :: (wC a G.2 z0 ++ X))) := by
  refine zCC.of (by decide) rfl (Nat.le_of_ble_eq_true rfl) (fun p e s m args below meth c A C hi hEx => ?_)
  refine c_lv (lv' := [(0, .ref h0), (1, .ref tp)]) rfl ?_
  refine c_aload_n C 0 dX5_init_0 rfl ?_
  refine c_obj C 60 (by decide +kernel) (by decide) (Nat.le_of_ble_eq_true rfl) dX5_init_1 ?_
  refine c_aload_n C 0 dX5_init_4 rfl ?_
  refine c_new C zNw_0 (mem_tb 61 (by decide +kernel) rfl) (by decide) (by decide) dX5_init_5 (fun q5_4 => ?_)
  refine c_dup C dX5_init_8 rfl ?_
  refine c_init C [] [.ref q5_4, .ref h0] (cc_X0_init l G q5_4 ((h0, .inr (5, [.null, .null, .null, .int 0, .int 0, .int 0, .int 0])) :: (X))) (fun _ _ _ => trivial) (fun _ _ _ _ h => h) mi_X0_init rfl md_X0_init ml_RX5_11 (by decide) (by decide) (by decide) rfl rfl dX5_init_9 (Nat.le_of_ble_eq_true rfl) (List.Perm.refl _) (fun w hw => ?_)
  obtain ⟨a9_6, rfl, rfl⟩ := hw
  refine c_putF (ws' := wC a9_6 G.2 z0 ++ ((h0, .inr (5, [.null, .ref (a9_6 0), .null, .int 0, .int 0, .int 0, .int 0])) :: (X))) C hi fl_RX5_12 zff_5_1 ⟨_, rfl, rfl, mem_tb 120 (by decide +kernel) rfl⟩ (zUpd.app zUpd.hd) rfl rfl (Nat.le_of_ble_eq_true rfl) dX5_init_12 ?_
  refine c_aload_n C 0 dX5_init_15 rfl ?_
  refine c_iconst (v := 3) C dX5_init_16 (by decide) ?_
  refine c_newa C 1 (a0 := (3, .inl (fun _ => 0))) (mem_tb 118 (by decide +kernel) rfl) rfl rfl (by intro _ h; cases h) (fun _ => rfl) (by decide) (by decide) (by decide) (by decide) (by decide) dX5_init_17 (fun q17_10 => ?_)
  refine c_putF (ws' := (q17_10, .inl (G.2 1, 3, .inl (fun _ => 0))) :: (wC a9_6 G.2 z0 ++ ((h0, .inr (5, [.null, .ref (a9_6 0), .ref q17_10, .int 0, .int 0, .int 0, .int 0])) :: (X)))) C hi fl_RX5_18 zff_5_2 ⟨_, rfl, rfl, mem_tb 122 (by decide +kernel) rfl⟩ (zUpd.cons (zUpd.app zUpd.hd)) rfl rfl (Nat.le_of_ble_eq_true rfl) dX5_init_19 ?_
  refine c_aload_n C 0 dX5_init_22 rfl ?_
  refine c_iconst (v := 0) C dX5_init_23 (by decide) ?_
  refine c_put (ws' := (q17_10, .inl (G.2 1, 3, .inl (fun _ => 0))) :: (wC a9_6 G.2 z0 ++ ((h0, .inr (5, [.null, .ref (a9_6 0), .ref q17_10, .int 0, .int 0, .int 0, .int 0])) :: (X)))) C fl_RX5_22 ft_5_3 (zUpd.cons (zUpd.app zUpd.hd)) rfl rfl (Nat.le_of_ble_eq_true rfl) dX5_init_24 ?_
  refine c_aload_n C 0 dX5_init_27 rfl ?_
  refine c_iconst (v := 0) C dX5_init_28 (by decide) ?_
  refine c_put (ws' := (q17_10, .inl (G.2 1, 3, .inl (fun _ => 0))) :: (wC a9_6 G.2 z0 ++ ((h0, .inr (5, [.null, .ref (a9_6 0), .ref q17_10, .int 0, .int 0, .int 0, .int 0])) :: (X)))) C fl_RX5_26 ft_5_4 (zUpd.cons (zUpd.app zUpd.hd)) rfl rfl (Nat.le_of_ble_eq_true rfl) dX5_init_29 ?_
  refine c_aload_n C 0 dX5_init_32 rfl ?_
  refine c_iconst (v := 0) C dX5_init_33 (by decide) ?_
  refine c_put (ws' := (q17_10, .inl (G.2 1, 3, .inl (fun _ => 0))) :: (wC a9_6 G.2 z0 ++ ((h0, .inr (5, [.null, .ref (a9_6 0), .ref q17_10, .int 0, .int 0, .int 0, .int 0])) :: (X)))) C fl_RX5_29 ft_5_5 (zUpd.cons (zUpd.app zUpd.hd)) rfl rfl (Nat.le_of_ble_eq_true rfl) dX5_init_34 ?_
  refine c_aload_n C 0 dX5_init_37 rfl ?_
  refine c_iconst (v := 0) C dX5_init_38 (by decide) ?_
  refine c_put (ws' := (q17_10, .inl (G.2 1, 3, .inl (fun _ => 0))) :: (wC a9_6 G.2 z0 ++ ((h0, .inr (5, [.null, .ref (a9_6 0), .ref q17_10, .int 0, .int 0, .int 0, .int 0])) :: (X)))) C fl_RX5_32 ft_5_6 (zUpd.cons (zUpd.app zUpd.hd)) rfl rfl (Nat.le_of_ble_eq_true rfl) dX5_init_39 ?_
  refine c_aload_n C 0 dX5_init_42 rfl ?_
  refine c_aload_n C 1 dX5_init_43 rfl ?_
  refine c_putF (ws' := (q17_10, .inl (G.2 1, 3, .inl (fun _ => 0))) :: (wC a9_6 G.2 z0 ++ ((h0, .inr (5, [.ref tp, .ref (a9_6 0), .ref q17_10, .int 0, .int 0, .int 0, .int 0])) :: (X)))) C hi fl_RX5_35 zff_5_0 ⟨_, rfl, rfl, mem_tb 119 (by decide +kernel) rfl⟩ (zUpd.cons (zUpd.app zUpd.hd)) rfl rfl (Nat.le_of_ble_eq_true rfl) dX5_init_44 ?_
  exact c_ret C (by decide) (by decide) dX5_init_47 ⟨(h0, .inr (5, [.ref tp, .ref (a9_6 0), .ref q17_10, .int 0, .int 0, .int 0, .int 0])) :: ((q17_10, .inl (G.2 1, 3, .inl (fun _ => 0))) :: (wC a9_6 G.2 z0 ++ X)), zp5, a9_6, q17_10, rfl⟩
theorem zp1 {x : Nat × va_E} {w v X : va_W} : (v ++ (w ++ (x :: X))).Perm (x :: (w ++ (v ++ X))) := by
  refine (List.Perm.append_left v List.perm_middle).trans (List.perm_middle.trans (List.Perm.cons x ?_))
  rw [← List.append_assoc, ← List.append_assoc]
  exact List.perm_append_comm.append_right X
set_option maxHeartbeats 4000000 in
set_option maxRecDepth 100000 in
theorem cc_X1_init (l : Launch) (G : zG) (h0 : Nat) (X : va_W) : zCC l yX1_init cX1_init 1 2 12 74 G [.ref h0] (fun _ => True) ((h0, .inr (1, [.int 0, .null, .null])) :: X) (fun w => ∃ a b : Nat → Nat, w = (h0, .inr (1, [.int 0, .ref (a 0), .ref (b 0)])) :: (wC a G.2 z0 ++ (wSn b G.2 z0 ++ X))) := by
  refine zCC.of (by decide) rfl (Nat.le_of_ble_eq_true rfl) (fun p e s m args below meth c A C hi hEx => ?_)
  refine c_lv (lv' := [(0, .ref h0)]) rfl ?_
  refine c_aload_n C 0 dX1_init_0 rfl ?_
  refine c_obj C 176 (by decide +kernel) (by decide) (Nat.le_of_ble_eq_true rfl) dX1_init_1 ?_
  refine c_aload_n C 0 dX1_init_4 rfl ?_
  refine c_iconst (v := 0) C dX1_init_5 (by decide) ?_
  refine c_put (ws' := (h0, .inr (1, [.int 0, .null, .null])) :: (X)) C fl_RX1_7 ft_1_0 zUpd.hd rfl rfl (Nat.le_of_ble_eq_true rfl) dX1_init_6 ?_
  refine c_aload_n C 0 dX1_init_9 rfl ?_
  refine c_new C zNw_0 (mem_tb 177 (by decide +kernel) rfl) (by decide) (by decide) dX1_init_10 (fun q10_7 => ?_)
  refine c_dup C dX1_init_13 rfl ?_
  refine c_init C [] [.ref q10_7, .ref h0] (cc_X0_init l G q10_7 ((h0, .inr (1, [.int 0, .null, .null])) :: (X))) (fun _ _ _ => trivial) (fun _ _ _ _ h => h) mi_X0_init rfl md_X0_init ml_RX1_15 (by decide) (by decide) (by decide) rfl rfl dX1_init_14 (Nat.le_of_ble_eq_true rfl) (List.Perm.refl _) (fun w hw => ?_)
  obtain ⟨a14_9, rfl, rfl⟩ := hw
  refine c_putF (ws' := wC a14_9 G.2 z0 ++ ((h0, .inr (1, [.int 0, .ref (a14_9 0), .null])) :: (X))) C hi fl_RX1_16 zff_1_1 ⟨_, rfl, rfl, mem_tb 183 (by decide +kernel) rfl⟩ (zUpd.app zUpd.hd) rfl rfl (Nat.le_of_ble_eq_true rfl) dX1_init_17 ?_
  refine c_aload_n C 0 dX1_init_20 rfl ?_
  refine c_new C zNw_2 (mem_tb 179 (by decide +kernel) rfl) (by decide) (by decide) dX1_init_21 (fun q21_12 => ?_)
  refine c_dup C dX1_init_24 rfl ?_
  refine c_init C [] [.ref q21_12, .ref h0] (cc_X2_init l G q21_12 (wC a14_9 G.2 z0 ++ ((h0, .inr (1, [.int 0, .ref (a14_9 0), .null])) :: (X)))) (fun _ _ _ => trivial) (fun _ _ _ _ h => h) mi_X2_init rfl md_X2_init ml_RX1_22 (by decide) (by decide) (by decide) rfl rfl dX1_init_25 (Nat.le_of_ble_eq_true rfl) (List.Perm.refl _) (fun w hw => ?_)
  obtain ⟨a25_14, rfl, rfl⟩ := hw
  refine c_putF (ws' := wSn a25_14 G.2 z0 ++ (wC a14_9 G.2 z0 ++ ((h0, .inr (1, [.int 0, .ref (a14_9 0), .ref (a25_14 0)])) :: (X)))) C hi fl_RX1_23 zff_1_2 ⟨_, rfl, rfl, mem_tb 185 (by decide +kernel) rfl⟩ (zUpd.app (zUpd.app zUpd.hd)) rfl rfl (Nat.le_of_ble_eq_true rfl) dX1_init_28 ?_
  exact c_ret C (by decide) (by decide) dX1_init_31 ⟨(h0, .inr (1, [.int 0, .ref (a14_9 0), .ref (a25_14 0)])) :: (wC a14_9 G.2 z0 ++ (wSn a25_14 G.2 z0 ++ X)), zp1, a14_9, a25_14, rfl⟩
