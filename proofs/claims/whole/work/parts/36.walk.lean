theorem dX11_canAskWriter_0 : decode cX11_canAskWriter 0 = .ok (.aload_n 0, 1) := by decide +kernel
theorem dX11_canAskWriter_1 : decode cX11_canAskWriter 1 = .ok (.getfield 19, 3) := by decide +kernel
theorem dX11_canAskWriter_4 : decode cX11_canAskWriter 4 = .ok (.invokevirtual 238, 3) := by decide +kernel
theorem dX11_canAskWriter_7 : decode cX11_canAskWriter 7 = .ok (.ifCond .eq 29, 3) := by decide +kernel
theorem dX11_canAskWriter_10 : decode cX11_canAskWriter 10 = .ok (.iload_n 1, 1) := by decide +kernel
theorem dX11_canAskWriter_11 : decode cX11_canAskWriter 11 = .ok (.iconst 1, 1) := by decide +kernel
theorem dX11_canAskWriter_12 : decode cX11_canAskWriter 12 = .ok (.if_icmp .lt 24, 3) := by decide +kernel
theorem dX11_canAskWriter_15 : decode cX11_canAskWriter 15 = .ok (.iload_n 1, 1) := by decide +kernel
theorem dX11_canAskWriter_16 : decode cX11_canAskWriter 16 = .ok (.sipush 500, 3) := by decide +kernel
theorem dX11_canAskWriter_19 : decode cX11_canAskWriter 19 = .ok (.if_icmp .gt 17, 3) := by decide +kernel
theorem dX11_canAskWriter_22 : decode cX11_canAskWriter 22 = .ok (.iload_n 2, 1) := by decide +kernel
theorem dX11_canAskWriter_23 : decode cX11_canAskWriter 23 = .ok (.ifCond .lt 13, 3) := by decide +kernel
theorem dX11_canAskWriter_26 : decode cX11_canAskWriter 26 = .ok (.iload_n 2, 1) := by decide +kernel
theorem dX11_canAskWriter_27 : decode cX11_canAskWriter 27 = .ok (.bipush 50, 2) := by decide +kernel
theorem dX11_canAskWriter_29 : decode cX11_canAskWriter 29 = .ok (.if_icmp .gt 7, 3) := by decide +kernel
theorem dX11_canAskWriter_32 : decode cX11_canAskWriter 32 = .ok (.iconst 1, 1) := by decide +kernel
theorem dX11_canAskWriter_33 : decode cX11_canAskWriter 33 = .ok (.goto 4, 3) := by decide +kernel
theorem dX11_canAskWriter_36 : decode cX11_canAskWriter 36 = .ok (.iconst 0, 1) := by decide +kernel
theorem dX11_canAskWriter_37 : decode cX11_canAskWriter 37 = .ok (.ireturn, 1) := by decide +kernel
theorem r_X11_canAskWriter (E : kr_E) (p1 : Int32) (p2 : Int32) (M : kr_M) : kR kr_vi E Y_X11_canAskWriter 2 0 [(0, kr_r E 0), (1, .int p1), (2, .int p2)] [] M (f_X11_canAskWriter p1 p2 M) := by
  rw [f_X11_canAskWriter]
  refine kr_aload_n dX11_canAskWriter_0 rfl 0 rfl ?_
  refine kr_getG (o := 0) (ci := 11) (j := 1) dX11_canAskWriter_1 kr_at_0 fl_RX11_19 rfl (fun g1 h_g1 => ?_)
  refine kr_Vi (As := []) (st := []) zv_X2_isTold dX11_canAskWriter_4 ml_RX11_238 h_g1 (r_X2_isTold E g1 h_g1 M) rfl rfl (Nat.le_of_ble_eq_true rfl) rfl (by decide) (Nat.le_of_ble_eq_true rfl) (fun r3 M2 => ?_)
  refine kr_if_eq (tgt := 36) dX11_canAskWriter_7 (by decide) ?_ ?_
  · refine kr_iconst (v := 0) dX11_canAskWriter_36 (by decide) ?_
    exact kr_zret1 dX11_canAskWriter_37 rfl rfl
  · refine kr_iload_n dX11_canAskWriter_10 rfl 1 rfl ?_
    refine kr_iconst (v := 1) dX11_canAskWriter_11 (by decide) ?_
    refine kr_icmp_lt (tgt := 36) dX11_canAskWriter_12 (by decide) ?_ ?_
    · refine kr_iconst (v := 0) dX11_canAskWriter_36 (by decide) ?_
      exact kr_zret1 dX11_canAskWriter_37 rfl rfl
    · refine kr_iload_n dX11_canAskWriter_15 rfl 1 rfl ?_
      refine kr_sipush (v := 500) dX11_canAskWriter_16 (by decide) ?_
      refine kr_icmp_gt (tgt := 36) dX11_canAskWriter_19 (by decide) ?_ ?_
      · refine kr_iconst (v := 0) dX11_canAskWriter_36 (by decide) ?_
        exact kr_zret1 dX11_canAskWriter_37 rfl rfl
      · refine kr_iload_n dX11_canAskWriter_22 rfl 2 rfl ?_
        refine kr_if_lt (tgt := 36) dX11_canAskWriter_23 (by decide) ?_ ?_
        · refine kr_iconst (v := 0) dX11_canAskWriter_36 (by decide) ?_
          exact kr_zret1 dX11_canAskWriter_37 rfl rfl
        · refine kr_iload_n dX11_canAskWriter_26 rfl 2 rfl ?_
          refine kr_bipush (v := 50) dX11_canAskWriter_27 (by decide) ?_
          refine kr_icmp_gt (tgt := 36) dX11_canAskWriter_29 (by decide) ?_ ?_
          · refine kr_iconst (v := 0) dX11_canAskWriter_36 (by decide) ?_
            exact kr_zret1 dX11_canAskWriter_37 rfl rfl
          · refine kr_iconst (v := 1) dX11_canAskWriter_32 (by decide) ?_
            refine kr_goto (tgt := 37) dX11_canAskWriter_33 (by decide) ?_
            exact kr_zret1 dX11_canAskWriter_37 rfl rfl
theorem dX11_shortest_0 : decode cX11_shortest 0 = .ok (.aload_n 0, 1) := by decide +kernel
theorem dX11_shortest_1 : decode cX11_shortest 1 = .ok (.iload_n 1, 1) := by decide +kernel
theorem dX11_shortest_2 : decode cX11_shortest 2 = .ok (.iload_n 2, 1) := by decide +kernel
theorem dX11_shortest_3 : decode cX11_shortest 3 = .ok (.invokevirtual 226, 3) := by decide +kernel
theorem dX11_shortest_6 : decode cX11_shortest 6 = .ok (.ifCond .ne 6, 3) := by decide +kernel
theorem dX11_shortest_9 : decode cX11_shortest 9 = .ok (.bipush (-2), 2) := by decide +kernel
theorem dX11_shortest_11 : decode cX11_shortest 11 = .ok (.ireturn, 1) := by decide +kernel
theorem dX11_shortest_12 : decode cX11_shortest 12 = .ok (.aload_n 0, 1) := by decide +kernel
theorem dX11_shortest_13 : decode cX11_shortest 13 = .ok (.getfield 79, 3) := by decide +kernel
theorem dX11_shortest_16 : decode cX11_shortest 16 = .ok (.aload_n 0, 1) := by decide +kernel
theorem dX11_shortest_17 : decode cX11_shortest 17 = .ok (.getfield 19, 3) := by decide +kernel
theorem dX11_shortest_20 : decode cX11_shortest 20 = .ok (.iload_n 1, 1) := by decide +kernel
theorem dX11_shortest_21 : decode cX11_shortest 21 = .ok (.iload_n 2, 1) := by decide +kernel
theorem dX11_shortest_22 : decode cX11_shortest 22 = .ok (.invokevirtual 229, 3) := by decide +kernel
theorem dX11_shortest_25 : decode cX11_shortest 25 = .ok (.aload_n 0, 1) := by decide +kernel
theorem dX11_shortest_26 : decode cX11_shortest 26 = .ok (.getfield 79, 3) := by decide +kernel
theorem dX11_shortest_29 : decode cX11_shortest 29 = .ok (.iload_n 1, 1) := by decide +kernel
theorem dX11_shortest_30 : decode cX11_shortest 30 = .ok (.invokevirtual 232, 3) := by decide +kernel
theorem dX11_shortest_33 : decode cX11_shortest 33 = .ok (.ireturn, 1) := by decide +kernel
theorem r_X11_shortest (E : kr_E) (p1 : Int32) (p2 : Int32) (M : kr_M) : kR kr_vi E Y_X11_shortest 4 0 [(0, kr_r E 0), (1, .int p1), (2, .int p2)] [] M (f_X11_shortest p1 p2 M) := by
  rw [f_X11_shortest]
  refine kr_aload_n dX11_shortest_0 rfl 0 rfl ?_
  refine kr_iload_n dX11_shortest_1 rfl 1 rfl ?_
  refine kr_iload_n dX11_shortest_2 rfl 2 rfl ?_
  refine kr_Vi (As := [.int p1, .int p2]) (st := []) zv_X11_canAskWriter dX11_shortest_3 ml_RX11_226 kr_at_0 (r_X11_canAskWriter E p1 p2 M) rfl rfl (Nat.le_of_ble_eq_true rfl) rfl (by decide) (Nat.le_of_ble_eq_true rfl) (fun r2 M1 => ?_)
  refine kr_if_ne (tgt := 12) dX11_shortest_6 (by decide) ?_ ?_
  · refine kr_aload_n dX11_shortest_12 rfl 0 rfl ?_
    refine kr_getA (o := 327) (ci := 11) (j := 11) dX11_shortest_13 kr_at_0 fl_RX11_79 rfl ?_
    refine kr_aload_n dX11_shortest_16 rfl 0 rfl ?_
    refine kr_getG (o := 0) (ci := 11) (j := 1) dX11_shortest_17 kr_at_0 fl_RX11_19 rfl (fun g3 h_g3 => ?_)
    refine kr_iload_n dX11_shortest_20 rfl 1 rfl ?_
    refine kr_iload_n dX11_shortest_21 rfl 2 rfl ?_
    refine kr_Vv (As := [kr_r E g3, .int p1, .int p2]) (st := []) zv_X10_study dX11_shortest_22 ml_RX11_229 kr_at_327 (r_X10_study E g3 h_g3 p1 p2 M1) rfl rfl (Nat.le_of_ble_eq_true rfl) rfl (by decide) (Nat.le_of_ble_eq_true rfl) (fun M4 => ?_)
    refine kr_aload_n dX11_shortest_25 rfl 0 rfl ?_
    refine kr_getA (o := 327) (ci := 11) (j := 11) dX11_shortest_26 kr_at_0 fl_RX11_79 rfl ?_
    refine kr_iload_n dX11_shortest_29 rfl 1 rfl ?_
    refine kr_Vi (As := [.int p1]) (st := []) zv_X10_fewestInches dX11_shortest_30 ml_RX11_232 kr_at_327 (r_X10_fewestInches E p1 M4) rfl rfl (Nat.le_of_ble_eq_true rfl) rfl (by decide) (Nat.le_of_ble_eq_true rfl) (fun r7 M6 => ?_)
    exact kr_iret dX11_shortest_33 rfl
  · refine kr_bipush (v := -2) dX11_shortest_9 (by decide) ?_
    exact kr_iret dX11_shortest_11 rfl
theorem dX11_writes_0 : decode cX11_writes 0 = .ok (.aload_n 0, 1) := by decide +kernel
theorem dX11_writes_1 : decode cX11_writes 1 = .ok (.iload_n 1, 1) := by decide +kernel
theorem dX11_writes_2 : decode cX11_writes 2 = .ok (.iload_n 2, 1) := by decide +kernel
theorem dX11_writes_3 : decode cX11_writes 3 = .ok (.invokevirtual 226, 3) := by decide +kernel
theorem dX11_writes_6 : decode cX11_writes 6 = .ok (.ifCond .ne 6, 3) := by decide +kernel
theorem dX11_writes_9 : decode cX11_writes 9 = .ok (.bipush (-2), 2) := by decide +kernel
theorem dX11_writes_11 : decode cX11_writes 11 = .ok (.ireturn, 1) := by decide +kernel
theorem dX11_writes_12 : decode cX11_writes 12 = .ok (.aload_n 0, 1) := by decide +kernel
theorem dX11_writes_13 : decode cX11_writes 13 = .ok (.getfield 79, 3) := by decide +kernel
theorem dX11_writes_16 : decode cX11_writes 16 = .ok (.aload_n 0, 1) := by decide +kernel
theorem dX11_writes_17 : decode cX11_writes 17 = .ok (.getfield 19, 3) := by decide +kernel
theorem dX11_writes_20 : decode cX11_writes 20 = .ok (.iload_n 1, 1) := by decide +kernel
theorem dX11_writes_21 : decode cX11_writes 21 = .ok (.iload_n 2, 1) := by decide +kernel
theorem dX11_writes_22 : decode cX11_writes 22 = .ok (.invokevirtual 229, 3) := by decide +kernel
theorem dX11_writes_25 : decode cX11_writes 25 = .ok (.aload_n 0, 1) := by decide +kernel
theorem dX11_writes_26 : decode cX11_writes 26 = .ok (.getfield 79, 3) := by decide +kernel
theorem dX11_writes_29 : decode cX11_writes 29 = .ok (.aload_n 0, 1) := by decide +kernel
theorem dX11_writes_30 : decode cX11_writes 30 = .ok (.getfield 19, 3) := by decide +kernel
theorem dX11_writes_33 : decode cX11_writes 33 = .ok (.iload_n 1, 1) := by decide +kernel
theorem dX11_writes_34 : decode cX11_writes 34 = .ok (.iload_n 3, 1) := by decide +kernel
theorem dX11_writes_35 : decode cX11_writes 35 = .ok (.invokevirtual 235, 3) := by decide +kernel
theorem dX11_writes_38 : decode cX11_writes 38 = .ok (.ireturn, 1) := by decide +kernel
theorem r_X11_writes (E : kr_E) (p1 : Int32) (p2 : Int32) (p3 : Int32) (M : kr_M) : kR kr_vi E Y_X11_writes 4 0 [(0, kr_r E 0), (1, .int p1), (2, .int p2), (3, .int p3)] [] M (f_X11_writes p1 p2 p3 M) := by
  rw [f_X11_writes]
  refine kr_aload_n dX11_writes_0 rfl 0 rfl ?_
  refine kr_iload_n dX11_writes_1 rfl 1 rfl ?_
  refine kr_iload_n dX11_writes_2 rfl 2 rfl ?_
  refine kr_Vi (As := [.int p1, .int p2]) (st := []) zv_X11_canAskWriter dX11_writes_3 ml_RX11_226 kr_at_0 (r_X11_canAskWriter E p1 p2 M) rfl rfl (Nat.le_of_ble_eq_true rfl) rfl (by decide) (Nat.le_of_ble_eq_true rfl) (fun r2 M1 => ?_)
  refine kr_if_ne (tgt := 12) dX11_writes_6 (by decide) ?_ ?_
  · refine kr_aload_n dX11_writes_12 rfl 0 rfl ?_
    refine kr_getA (o := 327) (ci := 11) (j := 11) dX11_writes_13 kr_at_0 fl_RX11_79 rfl ?_
    refine kr_aload_n dX11_writes_16 rfl 0 rfl ?_
    refine kr_getG (o := 0) (ci := 11) (j := 1) dX11_writes_17 kr_at_0 fl_RX11_19 rfl (fun g3 h_g3 => ?_)
    refine kr_iload_n dX11_writes_20 rfl 1 rfl ?_
    refine kr_iload_n dX11_writes_21 rfl 2 rfl ?_
    refine kr_Vv (As := [kr_r E g3, .int p1, .int p2]) (st := []) zv_X10_study dX11_writes_22 ml_RX11_229 kr_at_327 (r_X10_study E g3 h_g3 p1 p2 M1) rfl rfl (Nat.le_of_ble_eq_true rfl) rfl (by decide) (Nat.le_of_ble_eq_true rfl) (fun M4 => ?_)
    refine kr_aload_n dX11_writes_25 rfl 0 rfl ?_
    refine kr_getA (o := 327) (ci := 11) (j := 11) dX11_writes_26 kr_at_0 fl_RX11_79 rfl ?_
    refine kr_aload_n dX11_writes_29 rfl 0 rfl ?_
    refine kr_getG (o := 0) (ci := 11) (j := 1) dX11_writes_30 kr_at_0 fl_RX11_19 rfl (fun g6 h_g6 => ?_)
    refine kr_iload_n dX11_writes_33 rfl 1 rfl ?_
    refine kr_iload_n dX11_writes_34 rfl 3 rfl ?_
    refine kr_Vi (As := [kr_r E g6, .int p1, .int p3]) (st := []) zv_X10_wordOfFirst dX11_writes_35 ml_RX11_235 kr_at_327 (r_X10_wordOfFirst E g6 h_g6 p1 p3 M4) rfl rfl (Nat.le_of_ble_eq_true rfl) rfl (by decide) (Nat.le_of_ble_eq_true rfl) (fun r8 M7 => ?_)
    exact kr_iret dX11_writes_38 rfl
  · refine kr_bipush (v := -2) dX11_writes_9 (by decide) ?_
    exact kr_iret dX11_writes_11 rfl
theorem dX11_opensSlips_0 : decode cX11_opensSlips 0 = .ok (.aload_n 0, 1) := by decide +kernel
theorem dX11_opensSlips_1 : decode cX11_opensSlips 1 = .ok (.iload_n 1, 1) := by decide +kernel
theorem dX11_opensSlips_2 : decode cX11_opensSlips 2 = .ok (.iconst 0, 1) := by decide +kernel
theorem dX11_opensSlips_3 : decode cX11_opensSlips 3 = .ok (.invokevirtual 197, 3) := by decide +kernel
theorem dX11_opensSlips_6 : decode cX11_opensSlips 6 = .ok (.ifCond .ne 5, 3) := by decide +kernel
theorem dX11_opensSlips_9 : decode cX11_opensSlips 9 = .ok (.iconst 0, 1) := by decide +kernel
theorem dX11_opensSlips_10 : decode cX11_opensSlips 10 = .ok (.ireturn, 1) := by decide +kernel
theorem dX11_opensSlips_11 : decode cX11_opensSlips 11 = .ok (.aload_n 0, 1) := by decide +kernel
theorem dX11_opensSlips_12 : decode cX11_opensSlips 12 = .ok (.getfield 65, 3) := by decide +kernel
theorem dX11_opensSlips_15 : decode cX11_opensSlips 15 = .ok (.invokevirtual 276, 3) := by decide +kernel
theorem dX11_opensSlips_18 : decode cX11_opensSlips 18 = .ok (.iconst 1, 1) := by decide +kernel
theorem dX11_opensSlips_19 : decode cX11_opensSlips 19 = .ok (.ireturn, 1) := by decide +kernel
theorem r_X11_opensSlips (E : kr_E) (p1 : Int32) (M : kr_M) : kR kr_vi E Y_X11_opensSlips 7 0 [(0, kr_r E 0), (1, .int p1)] [] M (f_X11_opensSlips p1 M) := by
  rw [f_X11_opensSlips]
  refine kr_aload_n dX11_opensSlips_0 rfl 0 rfl ?_
  refine kr_iload_n dX11_opensSlips_1 rfl 1 rfl ?_
  refine kr_iconst (v := 0) dX11_opensSlips_2 (by decide) ?_
  refine kr_Vi (As := [.int p1, .int (0 : Int32)]) (st := []) zv_X11_opens dX11_opensSlips_3 ml_RX11_197 kr_at_0 (r_X11_opens E p1 (0 : Int32) M) rfl rfl (Nat.le_of_ble_eq_true rfl) rfl (by decide) (Nat.le_of_ble_eq_true rfl) (fun r2 M1 => ?_)
  refine kr_if_ne (tgt := 11) dX11_opensSlips_6 (by decide) ?_ ?_
  · refine kr_aload_n dX11_opensSlips_11 rfl 0 rfl ?_
    refine kr_getA (o := 315) (ci := 11) (j := 9) dX11_opensSlips_12 kr_at_0 fl_RX11_65 rfl ?_
    refine kr_Vv (As := []) (st := []) zv_X4_studySlips dX11_opensSlips_15 ml_RX11_276 kr_at_315 (r_X4_studySlips E  M1) rfl rfl (Nat.le_of_ble_eq_true rfl) rfl (by decide) (Nat.le_of_ble_eq_true rfl) (fun M3 => ?_)
    refine kr_iconst (v := 1) dX11_opensSlips_18 (by decide) ?_
    exact kr_zret1 dX11_opensSlips_19 rfl rfl
  · refine kr_iconst (v := 0) dX11_opensSlips_9 (by decide) ?_
    exact kr_zret1 dX11_opensSlips_10 rfl rfl
theorem dX11_slips_0 : decode cX11_slips 0 = .ok (.aload_n 0, 1) := by decide +kernel
theorem dX11_slips_1 : decode cX11_slips 1 = .ok (.iload_n 1, 1) := by decide +kernel
theorem dX11_slips_2 : decode cX11_slips 2 = .ok (.invokevirtual 242, 3) := by decide +kernel
theorem dX11_slips_5 : decode cX11_slips 5 = .ok (.ifCond .ne 6, 3) := by decide +kernel
theorem dX11_slips_8 : decode cX11_slips 8 = .ok (.bipush (-2), 2) := by decide +kernel
theorem dX11_slips_10 : decode cX11_slips 10 = .ok (.ireturn, 1) := by decide +kernel
theorem dX11_slips_11 : decode cX11_slips 11 = .ok (.aload_n 0, 1) := by decide +kernel
theorem dX11_slips_12 : decode cX11_slips 12 = .ok (.getfield 65, 3) := by decide +kernel
theorem dX11_slips_15 : decode cX11_slips 15 = .ok (.invokevirtual 245, 3) := by decide +kernel
theorem dX11_slips_18 : decode cX11_slips 18 = .ok (.ireturn, 1) := by decide +kernel
theorem r_X11_slips (E : kr_E) (p1 : Int32) (M : kr_M) : kR kr_vi E Y_X11_slips 8 0 [(0, kr_r E 0), (1, .int p1)] [] M (f_X11_slips p1 M) := by
  rw [f_X11_slips]
  refine kr_aload_n dX11_slips_0 rfl 0 rfl ?_
  refine kr_iload_n dX11_slips_1 rfl 1 rfl ?_
  refine kr_Vi (As := [.int p1]) (st := []) zv_X11_opensSlips dX11_slips_2 ml_RX11_242 kr_at_0 (r_X11_opensSlips E p1 M) rfl rfl (Nat.le_of_ble_eq_true rfl) rfl (by decide) (Nat.le_of_ble_eq_true rfl) (fun r2 M1 => ?_)
  refine kr_if_ne (tgt := 11) dX11_slips_5 (by decide) ?_ ?_
  · refine kr_aload_n dX11_slips_11 rfl 0 rfl ?_
    refine kr_getA (o := 315) (ci := 11) (j := 9) dX11_slips_12 kr_at_0 fl_RX11_65 rfl ?_
    refine kr_Vi (As := []) (st := []) zv_X4_slipsInAll dX11_slips_15 ml_RX11_245 kr_at_315 (r_X4_slipsInAll E  M1) rfl rfl (Nat.le_of_ble_eq_true rfl) rfl (by decide) (Nat.le_of_ble_eq_true rfl) (fun r4 M3 => ?_)
    exact kr_iret dX11_slips_18 rfl
  · refine kr_bipush (v := -2) dX11_slips_8 (by decide) ?_
    exact kr_iret dX11_slips_10 rfl
theorem dX11_spots_0 : decode cX11_spots 0 = .ok (.aload_n 0, 1) := by decide +kernel
theorem dX11_spots_1 : decode cX11_spots 1 = .ok (.iload_n 1, 1) := by decide +kernel
theorem dX11_spots_2 : decode cX11_spots 2 = .ok (.invokevirtual 242, 3) := by decide +kernel
theorem dX11_spots_5 : decode cX11_spots 5 = .ok (.ifCond .ne 6, 3) := by decide +kernel
theorem dX11_spots_8 : decode cX11_spots 8 = .ok (.bipush (-2), 2) := by decide +kernel
theorem dX11_spots_10 : decode cX11_spots 10 = .ok (.ireturn, 1) := by decide +kernel
theorem dX11_spots_11 : decode cX11_spots 11 = .ok (.iconst 0, 1) := by decide +kernel
theorem dX11_spots_12 : decode cX11_spots 12 = .ok (.istore_n 2, 1) := by decide +kernel
theorem dX11_spots_13 : decode cX11_spots 13 = .ok (.iconst 0, 1) := by decide +kernel
theorem dX11_spots_14 : decode cX11_spots 14 = .ok (.istore_n 3, 1) := by decide +kernel
theorem dX11_spots_15 : decode cX11_spots 15 = .ok (.iload_n 3, 1) := by decide +kernel
theorem dX11_spots_16 : decode cX11_spots 16 = .ok (.aload_n 0, 1) := by decide +kernel
theorem dX11_spots_17 : decode cX11_spots 17 = .ok (.getfield 65, 3) := by decide +kernel
theorem dX11_spots_20 : decode cX11_spots 20 = .ok (.getfield 249, 3) := by decide +kernel
theorem dX11_spots_23 : decode cX11_spots 23 = .ok (.getfield 175, 3) := by decide +kernel
theorem dX11_spots_26 : decode cX11_spots 26 = .ok (.if_icmp .ge 26, 3) := by decide +kernel
theorem dX11_spots_29 : decode cX11_spots 29 = .ok (.aload_n 0, 1) := by decide +kernel
theorem dX11_spots_30 : decode cX11_spots 30 = .ok (.getfield 65, 3) := by decide +kernel
theorem dX11_spots_33 : decode cX11_spots 33 = .ok (.iload_n 3, 1) := by decide +kernel
theorem dX11_spots_34 : decode cX11_spots 34 = .ok (.invokevirtual 252, 3) := by decide +kernel
theorem dX11_spots_37 : decode cX11_spots 37 = .ok (.ifCond .le 9, 3) := by decide +kernel
theorem dX11_spots_40 : decode cX11_spots 40 = .ok (.iload_n 2, 1) := by decide +kernel
theorem dX11_spots_41 : decode cX11_spots 41 = .ok (.iconst 1, 1) := by decide +kernel
theorem dX11_spots_42 : decode cX11_spots 42 = .ok (.iload_n 3, 1) := by decide +kernel
theorem dX11_spots_43 : decode cX11_spots 43 = .ok (.ishl, 1) := by decide +kernel
theorem dX11_spots_44 : decode cX11_spots 44 = .ok (.ior, 1) := by decide +kernel
theorem dX11_spots_45 : decode cX11_spots 45 = .ok (.istore_n 2, 1) := by decide +kernel
theorem dX11_spots_46 : decode cX11_spots 46 = .ok (.iinc 3 1, 3) := by decide +kernel
theorem dX11_spots_49 : decode cX11_spots 49 = .ok (.goto (-34), 3) := by decide +kernel
theorem dX11_spots_52 : decode cX11_spots 52 = .ok (.iload_n 2, 1) := by decide +kernel
theorem dX11_spots_53 : decode cX11_spots 53 = .ok (.ireturn, 1) := by decide +kernel
theorem r_X11_spots_46 (E : kr_E) (k_15 : Int32 → Int32 → kr_M → Option (Int32 × kr_M)) (l2 : Int32) (l3 : Int32) (hk_15 : ∀ (x2 : Int32) (x3 : Int32) (M : kr_M), kR kr_vi E Y_X11_spots 8 15 [(0, kr_r E 0), (2, .int x2), (3, .int x3)] [] M (k_15 x2 x3 M)) (M : kr_M) : kR kr_vi E Y_X11_spots 8 46 [(0, kr_r E 0), (2, .int l2), (3, .int l3)] [] M (f_X11_spots_46 k_15 l2 l3 M) := by
  rw [f_X11_spots_46]
  refine kr_iinc (j := 2) (v := (l3 + (1 : Int32))) (lv' := [(3, .int (l3 + (1 : Int32))), (0, kr_r E 0), (2, .int l2)]) dX11_spots_46 rfl rfl (by decide) rfl ?_
  refine kr_goto (tgt := 15) dX11_spots_49 (by decide) ?_
  refine kr_sub [1, 2, 0] rfl ?_
  exact hk_15 l2 (l3 + (1 : Int32)) M
theorem r_X11_spots_15 (E : kr_E)    : ∀ (n : Nat) (l2 : Int32) (l3 : Int32) (M : kr_M), kR kr_vi E Y_X11_spots 8 15 [(0, kr_r E 0), (2, .int l2), (3, .int l3)] [] M (f_X11_spots_15 n l2 l3 M) := by
  intro n
  induction n with
  | zero => intro l2 l3 M; exact kr_none
  | succ n ih =>
    intro l2 l3 M
    rw [f_X11_spots_15]
    refine kr_iload_n dX11_spots_15 rfl 2 rfl ?_
    refine kr_aload_n dX11_spots_16 rfl 0 rfl ?_
    refine kr_getA (o := 315) (ci := 11) (j := 9) dX11_spots_17 kr_at_0 fl_RX11_65 rfl ?_
    refine kr_getA (o := 1) (ci := 4) (j := 1) dX11_spots_20 kr_at_315 fl_RX11_249 rfl ?_
    refine kr_getI (ci := 7) (j := 1) dX11_spots_23 kr_at_316 fl_RX11_175 rfl (fun v1 => ?_)
    refine kr_icmp_ge (tgt := 52) dX11_spots_26 (by decide) ?_ ?_
    · refine kr_iload_n dX11_spots_52 rfl 1 rfl ?_
      exact kr_iret dX11_spots_53 rfl
    · refine kr_aload_n dX11_spots_29 rfl 0 rfl ?_
      refine kr_getA (o := 315) (ci := 11) (j := 9) dX11_spots_30 kr_at_0 fl_RX11_65 rfl ?_
      refine kr_iload_n dX11_spots_33 rfl 2 rfl ?_
      refine kr_Vi (As := [.int l3]) (st := []) zv_X4_slipsAt dX11_spots_34 ml_RX11_252 kr_at_315 (r_X4_slipsAt E l3 M) rfl rfl (Nat.le_of_ble_eq_true rfl) rfl (by decide) (Nat.le_of_ble_eq_true rfl) (fun r3 M2 => ?_)
      refine kr_if_le (tgt := 46) dX11_spots_37 (by decide) ?_ ?_
      · refine kr_sub [0, 1, 2] rfl ?_
        exact r_X11_spots_46 E _ l2 l3 ih M2
      · refine kr_iload_n dX11_spots_40 rfl 1 rfl ?_
        refine kr_iconst (v := 1) dX11_spots_41 (by decide) ?_
        refine kr_iload_n dX11_spots_42 rfl 2 rfl ?_
        refine kr_ishl dX11_spots_43 ?_
        refine kr_ior dX11_spots_44 ?_
        refine kr_nmi (fun v4 => ?_)
        refine kr_istore_n (lv' := [(2, .int v4), (0, kr_r E 0), (3, .int l3)]) dX11_spots_45 rfl (by decide) rfl ?_
        refine kr_sub [1, 0, 2] rfl ?_
        exact r_X11_spots_46 E _ v4 l3 ih M2
theorem r_X11_spots (E : kr_E) (p1 : Int32) (M : kr_M) : kR kr_vi E Y_X11_spots 8 0 [(0, kr_r E 0), (1, .int p1)] [] M (f_X11_spots p1 M) := by
  rw [f_X11_spots]
  refine kr_aload_n dX11_spots_0 rfl 0 rfl ?_
  refine kr_iload_n dX11_spots_1 rfl 1 rfl ?_
  refine kr_Vi (As := [.int p1]) (st := []) zv_X11_opensSlips dX11_spots_2 ml_RX11_242 kr_at_0 (r_X11_opensSlips E p1 M) rfl rfl (Nat.le_of_ble_eq_true rfl) rfl (by decide) (Nat.le_of_ble_eq_true rfl) (fun r2 M1 => ?_)
  refine kr_if_ne (tgt := 11) dX11_spots_5 (by decide) ?_ ?_
  · refine kr_iconst (v := 0) dX11_spots_11 (by decide) ?_
    refine kr_istore_n (lv' := [(2, .int (0 : Int32)), (0, kr_r E 0), (1, .int p1)]) dX11_spots_12 rfl (by decide) rfl ?_
    refine kr_iconst (v := 0) dX11_spots_13 (by decide) ?_
    refine kr_istore_n (lv' := [(3, .int (0 : Int32)), (2, .int (0 : Int32)), (0, kr_r E 0), (1, .int p1)]) dX11_spots_14 rfl (by decide) rfl ?_
    refine kr_sub [2, 1, 0] rfl ?_
    exact r_X11_spots_15 E _ (0 : Int32) (0 : Int32) M1
  · refine kr_bipush (v := -2) dX11_spots_8 (by decide) ?_
    exact kr_iret dX11_spots_10 rfl
theorem dX11_feel_0 : decode cX11_feel 0 = .ok (.aload_n 0, 1) := by decide +kernel
theorem dX11_feel_1 : decode cX11_feel 1 = .ok (.iload_n 1, 1) := by decide +kernel
theorem dX11_feel_2 : decode cX11_feel 2 = .ok (.invokevirtual 242, 3) := by decide +kernel
theorem dX11_feel_5 : decode cX11_feel 5 = .ok (.ifCond .ne 6, 3) := by decide +kernel
theorem dX11_feel_8 : decode cX11_feel 8 = .ok (.bipush (-2), 2) := by decide +kernel
theorem dX11_feel_10 : decode cX11_feel 10 = .ok (.ireturn, 1) := by decide +kernel
theorem dX11_feel_11 : decode cX11_feel 11 = .ok (.aload_n 0, 1) := by decide +kernel
theorem dX11_feel_12 : decode cX11_feel 12 = .ok (.getfield 65, 3) := by decide +kernel
theorem dX11_feel_15 : decode cX11_feel 15 = .ok (.invokevirtual 255, 3) := by decide +kernel
theorem dX11_feel_18 : decode cX11_feel 18 = .ok (.aload_n 0, 1) := by decide +kernel
theorem dX11_feel_19 : decode cX11_feel 19 = .ok (.getfield 65, 3) := by decide +kernel
theorem dX11_feel_22 : decode cX11_feel 22 = .ok (.getfield 258, 3) := by decide +kernel
theorem dX11_feel_25 : decode cX11_feel 25 = .ok (.ireturn, 1) := by decide +kernel
theorem r_X11_feel (E : kr_E) (p1 : Int32) (M : kr_M) : kR kr_vi E Y_X11_feel 8 0 [(0, kr_r E 0), (1, .int p1)] [] M (f_X11_feel p1 M) := by
  rw [f_X11_feel]
  refine kr_aload_n dX11_feel_0 rfl 0 rfl ?_
  refine kr_iload_n dX11_feel_1 rfl 1 rfl ?_
  refine kr_Vi (As := [.int p1]) (st := []) zv_X11_opensSlips dX11_feel_2 ml_RX11_242 kr_at_0 (r_X11_opensSlips E p1 M) rfl rfl (Nat.le_of_ble_eq_true rfl) rfl (by decide) (Nat.le_of_ble_eq_true rfl) (fun r2 M1 => ?_)
  refine kr_if_ne (tgt := 11) dX11_feel_5 (by decide) ?_ ?_
  · refine kr_aload_n dX11_feel_11 rfl 0 rfl ?_
    refine kr_getA (o := 315) (ci := 11) (j := 9) dX11_feel_12 kr_at_0 fl_RX11_65 rfl ?_
    refine kr_Vv (As := []) (st := []) zv_X4_studyFeel dX11_feel_15 ml_RX11_255 kr_at_315 (r_X4_studyFeel E  M1) rfl rfl (Nat.le_of_ble_eq_true rfl) rfl (by decide) (Nat.le_of_ble_eq_true rfl) (fun M3 => ?_)
    refine kr_aload_n dX11_feel_18 rfl 0 rfl ?_
    refine kr_getA (o := 315) (ci := 11) (j := 9) dX11_feel_19 kr_at_0 fl_RX11_65 rfl ?_
    refine kr_getI (ci := 4) (j := 8) dX11_feel_22 kr_at_315 fl_RX11_258 rfl (fun v5 => ?_)
    exact kr_iret dX11_feel_25 rfl
  · refine kr_bipush (v := -2) dX11_feel_8 (by decide) ?_
    exact kr_iret dX11_feel_10 rfl
theorem dX11_leaves_0 : decode cX11_leaves 0 = .ok (.aload_n 0, 1) := by decide +kernel
theorem dX11_leaves_1 : decode cX11_leaves 1 = .ok (.iload_n 1, 1) := by decide +kernel
theorem dX11_leaves_2 : decode cX11_leaves 2 = .ok (.invokevirtual 242, 3) := by decide +kernel
theorem dX11_leaves_5 : decode cX11_leaves 5 = .ok (.ifCond .ne 6, 3) := by decide +kernel
theorem dX11_leaves_8 : decode cX11_leaves 8 = .ok (.bipush (-2), 2) := by decide +kernel
theorem dX11_leaves_10 : decode cX11_leaves 10 = .ok (.ireturn, 1) := by decide +kernel
theorem dX11_leaves_11 : decode cX11_leaves 11 = .ok (.aload_n 0, 1) := by decide +kernel
theorem dX11_leaves_12 : decode cX11_leaves 12 = .ok (.getfield 65, 3) := by decide +kernel
theorem dX11_leaves_15 : decode cX11_leaves 15 = .ok (.invokevirtual 255, 3) := by decide +kernel
theorem dX11_leaves_18 : decode cX11_leaves 18 = .ok (.aload_n 0, 1) := by decide +kernel
theorem dX11_leaves_19 : decode cX11_leaves 19 = .ok (.getfield 65, 3) := by decide +kernel
theorem dX11_leaves_22 : decode cX11_leaves 22 = .ok (.getfield 261, 3) := by decide +kernel
theorem dX11_leaves_25 : decode cX11_leaves 25 = .ok (.ireturn, 1) := by decide +kernel
theorem r_X11_leaves (E : kr_E) (p1 : Int32) (M : kr_M) : kR kr_vi E Y_X11_leaves 8 0 [(0, kr_r E 0), (1, .int p1)] [] M (f_X11_leaves p1 M) := by
  rw [f_X11_leaves]
  refine kr_aload_n dX11_leaves_0 rfl 0 rfl ?_
  refine kr_iload_n dX11_leaves_1 rfl 1 rfl ?_
  refine kr_Vi (As := [.int p1]) (st := []) zv_X11_opensSlips dX11_leaves_2 ml_RX11_242 kr_at_0 (r_X11_opensSlips E p1 M) rfl rfl (Nat.le_of_ble_eq_true rfl) rfl (by decide) (Nat.le_of_ble_eq_true rfl) (fun r2 M1 => ?_)
  refine kr_if_ne (tgt := 11) dX11_leaves_5 (by decide) ?_ ?_
  · refine kr_aload_n dX11_leaves_11 rfl 0 rfl ?_
    refine kr_getA (o := 315) (ci := 11) (j := 9) dX11_leaves_12 kr_at_0 fl_RX11_65 rfl ?_
    refine kr_Vv (As := []) (st := []) zv_X4_studyFeel dX11_leaves_15 ml_RX11_255 kr_at_315 (r_X4_studyFeel E  M1) rfl rfl (Nat.le_of_ble_eq_true rfl) rfl (by decide) (Nat.le_of_ble_eq_true rfl) (fun M3 => ?_)
    refine kr_aload_n dX11_leaves_18 rfl 0 rfl ?_
    refine kr_getA (o := 315) (ci := 11) (j := 9) dX11_leaves_19 kr_at_0 fl_RX11_65 rfl ?_
    refine kr_getI (ci := 4) (j := 9) dX11_leaves_22 kr_at_315 fl_RX11_261 rfl (fun v5 => ?_)
    exact kr_iret dX11_leaves_25 rfl
  · refine kr_bipush (v := -2) dX11_leaves_8 (by decide) ?_
    exact kr_iret dX11_leaves_10 rfl
theorem dX11_forged_0 : decode cX11_forged 0 = .ok (.aload_n 0, 1) := by decide +kernel
theorem dX11_forged_1 : decode cX11_forged 1 = .ok (.iload_n 1, 1) := by decide +kernel
theorem dX11_forged_2 : decode cX11_forged 2 = .ok (.invokevirtual 242, 3) := by decide +kernel
theorem dX11_forged_5 : decode cX11_forged 5 = .ok (.ifCond .ne 6, 3) := by decide +kernel
theorem dX11_forged_8 : decode cX11_forged 8 = .ok (.bipush (-2), 2) := by decide +kernel
theorem dX11_forged_10 : decode cX11_forged 10 = .ok (.ireturn, 1) := by decide +kernel
theorem dX11_forged_11 : decode cX11_forged 11 = .ok (.aload_n 0, 1) := by decide +kernel
theorem dX11_forged_12 : decode cX11_forged 12 = .ok (.getfield 65, 3) := by decide +kernel
theorem dX11_forged_15 : decode cX11_forged 15 = .ok (.invokevirtual 264, 3) := by decide +kernel
theorem dX11_forged_18 : decode cX11_forged 18 = .ok (.aload_n 0, 1) := by decide +kernel
theorem dX11_forged_19 : decode cX11_forged 19 = .ok (.getfield 65, 3) := by decide +kernel
theorem dX11_forged_22 : decode cX11_forged 22 = .ok (.getfield 267, 3) := by decide +kernel
theorem dX11_forged_25 : decode cX11_forged 25 = .ok (.ireturn, 1) := by decide +kernel
theorem r_X11_forged (E : kr_E) (p1 : Int32) (M : kr_M) : kR kr_vi E Y_X11_forged 8 0 [(0, kr_r E 0), (1, .int p1)] [] M (f_X11_forged p1 M) := by
  rw [f_X11_forged]
  refine kr_aload_n dX11_forged_0 rfl 0 rfl ?_
  refine kr_iload_n dX11_forged_1 rfl 1 rfl ?_
  refine kr_Vi (As := [.int p1]) (st := []) zv_X11_opensSlips dX11_forged_2 ml_RX11_242 kr_at_0 (r_X11_opensSlips E p1 M) rfl rfl (Nat.le_of_ble_eq_true rfl) rfl (by decide) (Nat.le_of_ble_eq_true rfl) (fun r2 M1 => ?_)
  refine kr_if_ne (tgt := 11) dX11_forged_5 (by decide) ?_ ?_
  · refine kr_aload_n dX11_forged_11 rfl 0 rfl ?_
    refine kr_getA (o := 315) (ci := 11) (j := 9) dX11_forged_12 kr_at_0 fl_RX11_65 rfl ?_
    refine kr_Vv (As := []) (st := []) zv_X4_studyForgery dX11_forged_15 ml_RX11_264 kr_at_315 (r_X4_studyForgery E  M1) rfl rfl (Nat.le_of_ble_eq_true rfl) rfl (by decide) (Nat.le_of_ble_eq_true rfl) (fun M3 => ?_)
    refine kr_aload_n dX11_forged_18 rfl 0 rfl ?_
    refine kr_getA (o := 315) (ci := 11) (j := 9) dX11_forged_19 kr_at_0 fl_RX11_65 rfl ?_
    refine kr_getI (ci := 4) (j := 10) dX11_forged_22 kr_at_315 fl_RX11_267 rfl (fun v5 => ?_)
    exact kr_iret dX11_forged_25 rfl
  · refine kr_bipush (v := -2) dX11_forged_8 (by decide) ?_
    exact kr_iret dX11_forged_10 rfl
theorem dX11_forge_0 : decode cX11_forge 0 = .ok (.iload_n 2, 1) := by decide +kernel
theorem dX11_forge_1 : decode cX11_forge 1 = .ok (.ifCond .lt 16, 3) := by decide +kernel
theorem dX11_forge_4 : decode cX11_forge 4 = .ok (.iload_n 2, 1) := by decide +kernel
theorem dX11_forge_5 : decode cX11_forge 5 = .ok (.iconst 1, 1) := by decide +kernel
theorem dX11_forge_6 : decode cX11_forge 6 = .ok (.if_icmp .gt 11, 3) := by decide +kernel
theorem dX11_forge_9 : decode cX11_forge 9 = .ok (.aload_n 0, 1) := by decide +kernel
theorem dX11_forge_10 : decode cX11_forge 10 = .ok (.iload_n 1, 1) := by decide +kernel
theorem dX11_forge_11 : decode cX11_forge 11 = .ok (.invokevirtual 242, 3) := by decide +kernel
theorem dX11_forge_14 : decode cX11_forge 14 = .ok (.ifCond .ne 6, 3) := by decide +kernel
theorem dX11_forge_17 : decode cX11_forge 17 = .ok (.bipush (-2), 2) := by decide +kernel
theorem dX11_forge_19 : decode cX11_forge 19 = .ok (.ireturn, 1) := by decide +kernel
theorem dX11_forge_20 : decode cX11_forge 20 = .ok (.aload_n 0, 1) := by decide +kernel
theorem dX11_forge_21 : decode cX11_forge 21 = .ok (.getfield 65, 3) := by decide +kernel
theorem dX11_forge_24 : decode cX11_forge 24 = .ok (.invokevirtual 264, 3) := by decide +kernel
theorem dX11_forge_27 : decode cX11_forge 27 = .ok (.iload_n 2, 1) := by decide +kernel
theorem dX11_forge_28 : decode cX11_forge 28 = .ok (.ifCond .ne 13, 3) := by decide +kernel
theorem dX11_forge_31 : decode cX11_forge 31 = .ok (.aload_n 0, 1) := by decide +kernel
theorem dX11_forge_32 : decode cX11_forge 32 = .ok (.getfield 65, 3) := by decide +kernel
theorem dX11_forge_35 : decode cX11_forge 35 = .ok (.getfield 270, 3) := by decide +kernel
theorem dX11_forge_38 : decode cX11_forge 38 = .ok (.goto 10, 3) := by decide +kernel
theorem dX11_forge_41 : decode cX11_forge 41 = .ok (.aload_n 0, 1) := by decide +kernel
theorem dX11_forge_42 : decode cX11_forge 42 = .ok (.getfield 65, 3) := by decide +kernel
theorem dX11_forge_45 : decode cX11_forge 45 = .ok (.getfield 273, 3) := by decide +kernel
theorem dX11_forge_48 : decode cX11_forge 48 = .ok (.ireturn, 1) := by decide +kernel
theorem r_X11_forge (E : kr_E) (p1 : Int32) (p2 : Int32) (M : kr_M) : kR kr_vi E Y_X11_forge 8 0 [(0, kr_r E 0), (1, .int p1), (2, .int p2)] [] M (f_X11_forge p1 p2 M) := by
  rw [f_X11_forge]
  refine kr_iload_n dX11_forge_0 rfl 2 rfl ?_
  refine kr_if_lt (tgt := 17) dX11_forge_1 (by decide) ?_ ?_
  · refine kr_bipush (v := -2) dX11_forge_17 (by decide) ?_
    exact kr_iret dX11_forge_19 rfl
  · refine kr_iload_n dX11_forge_4 rfl 2 rfl ?_
    refine kr_iconst (v := 1) dX11_forge_5 (by decide) ?_
    refine kr_icmp_gt (tgt := 17) dX11_forge_6 (by decide) ?_ ?_
    · refine kr_bipush (v := -2) dX11_forge_17 (by decide) ?_
      exact kr_iret dX11_forge_19 rfl
    · refine kr_aload_n dX11_forge_9 rfl 0 rfl ?_
      refine kr_iload_n dX11_forge_10 rfl 1 rfl ?_
      refine kr_Vi (As := [.int p1]) (st := []) zv_X11_opensSlips dX11_forge_11 ml_RX11_242 kr_at_0 (r_X11_opensSlips E p1 M) rfl rfl (Nat.le_of_ble_eq_true rfl) rfl (by decide) (Nat.le_of_ble_eq_true rfl) (fun r2 M1 => ?_)
      refine kr_if_ne (tgt := 20) dX11_forge_14 (by decide) ?_ ?_
      · refine kr_aload_n dX11_forge_20 rfl 0 rfl ?_
        refine kr_getA (o := 315) (ci := 11) (j := 9) dX11_forge_21 kr_at_0 fl_RX11_65 rfl ?_
        refine kr_Vv (As := []) (st := []) zv_X4_studyForgery dX11_forge_24 ml_RX11_264 kr_at_315 (r_X4_studyForgery E  M1) rfl rfl (Nat.le_of_ble_eq_true rfl) rfl (by decide) (Nat.le_of_ble_eq_true rfl) (fun M3 => ?_)
        refine kr_iload_n dX11_forge_27 rfl 2 rfl ?_
        refine kr_if_ne (tgt := 41) dX11_forge_28 (by decide) ?_ ?_
        · refine kr_aload_n dX11_forge_41 rfl 0 rfl ?_
          refine kr_getA (o := 315) (ci := 11) (j := 9) dX11_forge_42 kr_at_0 fl_RX11_65 rfl ?_
          refine kr_getI (ci := 4) (j := 12) dX11_forge_45 kr_at_315 fl_RX11_273 rfl (fun v5 => ?_)
          exact kr_iret dX11_forge_48 rfl
        · refine kr_aload_n dX11_forge_31 rfl 0 rfl ?_
          refine kr_getA (o := 315) (ci := 11) (j := 9) dX11_forge_32 kr_at_0 fl_RX11_65 rfl ?_
          refine kr_getI (ci := 4) (j := 11) dX11_forge_35 kr_at_315 fl_RX11_270 rfl (fun v6 => ?_)
          refine kr_goto (tgt := 48) dX11_forge_38 (by decide) ?_
          exact kr_iret dX11_forge_48 rfl
      · refine kr_bipush (v := -2) dX11_forge_17 (by decide) ?_
        exact kr_iret dX11_forge_19 rfl
theorem dX11_hasRopes_0 : decode cX11_hasRopes 0 = .ok (.aload_n 0, 1) := by decide +kernel
theorem dX11_hasRopes_1 : decode cX11_hasRopes 1 = .ok (.getfield 19, 3) := by decide +kernel
theorem dX11_hasRopes_4 : decode cX11_hasRopes 4 = .ok (.iload_n 1, 1) := by decide +kernel
theorem dX11_hasRopes_5 : decode cX11_hasRopes 5 = .ok (.invokevirtual 154, 3) := by decide +kernel
theorem dX11_hasRopes_8 : decode cX11_hasRopes 8 = .ok (.ifCond .eq 18, 3) := by decide +kernel
theorem dX11_hasRopes_11 : decode cX11_hasRopes 11 = .ok (.aload_n 0, 1) := by decide +kernel
theorem dX11_hasRopes_12 : decode cX11_hasRopes 12 = .ok (.getfield 19, 3) := by decide +kernel
theorem dX11_hasRopes_15 : decode cX11_hasRopes 15 = .ok (.iload_n 2, 1) := by decide +kernel
theorem dX11_hasRopes_16 : decode cX11_hasRopes 16 = .ok (.invokevirtual 154, 3) := by decide +kernel
theorem dX11_hasRopes_19 : decode cX11_hasRopes 19 = .ok (.ifCond .eq 7, 3) := by decide +kernel
theorem dX11_hasRopes_22 : decode cX11_hasRopes 22 = .ok (.iconst 1, 1) := by decide +kernel
theorem dX11_hasRopes_23 : decode cX11_hasRopes 23 = .ok (.goto 4, 3) := by decide +kernel
theorem dX11_hasRopes_26 : decode cX11_hasRopes 26 = .ok (.iconst 0, 1) := by decide +kernel
theorem dX11_hasRopes_27 : decode cX11_hasRopes 27 = .ok (.ireturn, 1) := by decide +kernel
theorem r_X11_hasRopes (E : kr_E) (p1 : Int32) (p2 : Int32) (M : kr_M) : kR kr_vi E Y_X11_hasRopes 2 0 [(0, kr_r E 0), (1, .int p1), (2, .int p2)] [] M (f_X11_hasRopes p1 p2 M) := by
  rw [f_X11_hasRopes]
  refine kr_aload_n dX11_hasRopes_0 rfl 0 rfl ?_
  refine kr_getG (o := 0) (ci := 11) (j := 1) dX11_hasRopes_1 kr_at_0 fl_RX11_19 rfl (fun g1 h_g1 => ?_)
  refine kr_iload_n dX11_hasRopes_4 rfl 1 rfl ?_
  refine kr_Vi (As := [.int p1]) (st := []) zv_X2_hasRope dX11_hasRopes_5 ml_RX11_154 h_g1 (r_X2_hasRope E g1 h_g1 p1 M) rfl rfl (Nat.le_of_ble_eq_true rfl) rfl (by decide) (Nat.le_of_ble_eq_true rfl) (fun r3 M2 => ?_)
  refine kr_if_eq (tgt := 26) dX11_hasRopes_8 (by decide) ?_ ?_
  · refine kr_iconst (v := 0) dX11_hasRopes_26 (by decide) ?_
    exact kr_zret1 dX11_hasRopes_27 rfl rfl
  · refine kr_aload_n dX11_hasRopes_11 rfl 0 rfl ?_
    refine kr_getG (o := 0) (ci := 11) (j := 1) dX11_hasRopes_12 kr_at_0 fl_RX11_19 rfl (fun g4 h_g4 => ?_)
    refine kr_iload_n dX11_hasRopes_15 rfl 2 rfl ?_
    refine kr_Vi (As := [.int p2]) (st := []) zv_X2_hasRope dX11_hasRopes_16 ml_RX11_154 h_g4 (r_X2_hasRope E g4 h_g4 p2 M2) rfl rfl (Nat.le_of_ble_eq_true rfl) rfl (by decide) (Nat.le_of_ble_eq_true rfl) (fun r6 M5 => ?_)
    refine kr_if_eq (tgt := 26) dX11_hasRopes_19 (by decide) ?_ ?_
    · refine kr_iconst (v := 0) dX11_hasRopes_26 (by decide) ?_
      exact kr_zret1 dX11_hasRopes_27 rfl rfl
    · refine kr_iconst (v := 1) dX11_hasRopes_22 (by decide) ?_
      refine kr_goto (tgt := 27) dX11_hasRopes_23 (by decide) ?_
      exact kr_zret1 dX11_hasRopes_27 rfl rfl
theorem dX11_overlap_0 : decode cX11_overlap 0 = .ok (.aload_n 0, 1) := by decide +kernel
theorem dX11_overlap_1 : decode cX11_overlap 1 = .ok (.iload_n 1, 1) := by decide +kernel
theorem dX11_overlap_2 : decode cX11_overlap 2 = .ok (.iload_n 2, 1) := by decide +kernel
theorem dX11_overlap_3 : decode cX11_overlap 3 = .ok (.invokevirtual 279, 3) := by decide +kernel
theorem dX11_overlap_6 : decode cX11_overlap 6 = .ok (.ifCond .ne 6, 3) := by decide +kernel
theorem dX11_overlap_9 : decode cX11_overlap 9 = .ok (.bipush (-2), 2) := by decide +kernel
theorem dX11_overlap_11 : decode cX11_overlap 11 = .ok (.ireturn, 1) := by decide +kernel
theorem dX11_overlap_12 : decode cX11_overlap 12 = .ok (.aload_n 0, 1) := by decide +kernel
theorem dX11_overlap_13 : decode cX11_overlap 13 = .ok (.getfield 19, 3) := by decide +kernel
theorem dX11_overlap_16 : decode cX11_overlap 16 = .ok (.getfield 157, 3) := by decide +kernel
theorem dX11_overlap_19 : decode cX11_overlap 19 = .ok (.iload_n 1, 1) := by decide +kernel
theorem dX11_overlap_20 : decode cX11_overlap 20 = .ok (.aaload, 1) := by decide +kernel
theorem dX11_overlap_21 : decode cX11_overlap 21 = .ok (.getfield 172, 3) := by decide +kernel
theorem dX11_overlap_24 : decode cX11_overlap 24 = .ok (.astore_n 3, 1) := by decide +kernel
theorem dX11_overlap_25 : decode cX11_overlap 25 = .ok (.iload_n 1, 1) := by decide +kernel
theorem dX11_overlap_26 : decode cX11_overlap 26 = .ok (.iload_n 2, 1) := by decide +kernel
theorem dX11_overlap_27 : decode cX11_overlap 27 = .ok (.if_icmp .ne 12, 3) := by decide +kernel
theorem dX11_overlap_30 : decode cX11_overlap 30 = .ok (.aload_n 3, 1) := by decide +kernel
theorem dX11_overlap_31 : decode cX11_overlap 31 = .ok (.getfield 175, 3) := by decide +kernel
theorem dX11_overlap_34 : decode cX11_overlap 34 = .ok (.iconst 1, 1) := by decide +kernel
theorem dX11_overlap_35 : decode cX11_overlap 35 = .ok (.isub, 1) := by decide +kernel
theorem dX11_overlap_36 : decode cX11_overlap 36 = .ok (.goto 7, 3) := by decide +kernel
theorem dX11_overlap_39 : decode cX11_overlap 39 = .ok (.aload_n 3, 1) := by decide +kernel
theorem dX11_overlap_40 : decode cX11_overlap 40 = .ok (.getfield 175, 3) := by decide +kernel
theorem dX11_overlap_43 : decode cX11_overlap 43 = .ok (.istore 4, 2) := by decide +kernel
theorem dX11_overlap_45 : decode cX11_overlap 45 = .ok (.aload_n 3, 1) := by decide +kernel
theorem dX11_overlap_46 : decode cX11_overlap 46 = .ok (.aload_n 0, 1) := by decide +kernel
theorem dX11_overlap_47 : decode cX11_overlap 47 = .ok (.getfield 19, 3) := by decide +kernel
theorem dX11_overlap_50 : decode cX11_overlap 50 = .ok (.getfield 157, 3) := by decide +kernel
theorem dX11_overlap_53 : decode cX11_overlap 53 = .ok (.iload_n 2, 1) := by decide +kernel
theorem dX11_overlap_54 : decode cX11_overlap 54 = .ok (.aaload, 1) := by decide +kernel
theorem dX11_overlap_55 : decode cX11_overlap 55 = .ok (.getfield 172, 3) := by decide +kernel
theorem dX11_overlap_58 : decode cX11_overlap 58 = .ok (.iload 4, 2) := by decide +kernel
theorem dX11_overlap_60 : decode cX11_overlap 60 = .ok (.invokevirtual 282, 3) := by decide +kernel
theorem dX11_overlap_63 : decode cX11_overlap 63 = .ok (.ireturn, 1) := by decide +kernel
theorem r_X11_overlap_43 (E : kr_E)  (l2 : Int32) (l3 : Nat) (h_l3 : kr_sh l3 = (7, 0)) (s0 : Int32)  (M : kr_M) : kR kr_vi E Y_X11_overlap 3 43 [(0, kr_r E 0), (2, .int l2), (3, kr_r E l3)] [.int s0] M (f_X11_overlap_43 l2 l3 s0 M) := by
  rw [f_X11_overlap_43]
  refine kr_istore (lv' := [(4, .int s0), (0, kr_r E 0), (2, .int l2), (3, kr_r E l3)]) dX11_overlap_43 (by decide) rfl ?_
  refine kr_aload_n dX11_overlap_45 rfl 3 rfl ?_
  refine kr_aload_n dX11_overlap_46 rfl 1 rfl ?_
  refine kr_getG (o := 0) (ci := 11) (j := 1) dX11_overlap_47 kr_at_0 fl_RX11_19 rfl (fun g1 h_g1 => ?_)
  refine kr_getA (o := 5) (ci := 2) (j := 14) dX11_overlap_50 h_g1 fl_RX11_157 rfl ?_
  refine kr_iload_n dX11_overlap_53 rfl 2 rfl ?_
  refine kr_aaldR dX11_overlap_54 h_g1 (fun h2 => ?_)
  refine kr_getA (o := 3) (ci := 5) (j := 5) dX11_overlap_55 h2 fl_RX11_172 rfl ?_
  refine kr_iload dX11_overlap_58 0 rfl ?_
  refine kr_Vi (As := [kr_r E ((kr_rp g1 l2) + 3), .int s0]) (st := []) zv_X7_overlapWith dX11_overlap_60 ml_RX11_282 h_l3 (r_X7_overlapWith E l3 h_l3 ((kr_rp g1 l2) + 3) (kr_shR3 _ h2) s0 M) rfl rfl (Nat.le_of_ble_eq_true rfl) rfl (by decide) (Nat.le_of_ble_eq_true rfl) (fun r4 M3 => ?_)
  exact kr_iret dX11_overlap_63 rfl
theorem r_X11_overlap (E : kr_E) (p1 : Int32) (p2 : Int32) (M : kr_M) : kR kr_vi E Y_X11_overlap 3 0 [(0, kr_r E 0), (1, .int p1), (2, .int p2)] [] M (f_X11_overlap p1 p2 M) := by
  rw [f_X11_overlap]
  refine kr_aload_n dX11_overlap_0 rfl 0 rfl ?_
  refine kr_iload_n dX11_overlap_1 rfl 1 rfl ?_
  refine kr_iload_n dX11_overlap_2 rfl 2 rfl ?_
  refine kr_Vi (As := [.int p1, .int p2]) (st := []) zv_X11_hasRopes dX11_overlap_3 ml_RX11_279 kr_at_0 (r_X11_hasRopes E p1 p2 M) rfl rfl (Nat.le_of_ble_eq_true rfl) rfl (by decide) (Nat.le_of_ble_eq_true rfl) (fun r2 M1 => ?_)
  refine kr_if_ne (tgt := 12) dX11_overlap_6 (by decide) ?_ ?_
  · refine kr_aload_n dX11_overlap_12 rfl 0 rfl ?_
    refine kr_getG (o := 0) (ci := 11) (j := 1) dX11_overlap_13 kr_at_0 fl_RX11_19 rfl (fun g3 h_g3 => ?_)
    refine kr_getA (o := 5) (ci := 2) (j := 14) dX11_overlap_16 h_g3 fl_RX11_157 rfl ?_
    refine kr_iload_n dX11_overlap_19 rfl 1 rfl ?_
    refine kr_aaldR dX11_overlap_20 h_g3 (fun h4 => ?_)
    refine kr_getA (o := 3) (ci := 5) (j := 5) dX11_overlap_21 h4 fl_RX11_172 rfl ?_
    refine kr_astore_n (lv' := [(3, kr_r E ((kr_rp g3 p1) + 3)), (0, kr_r E 0), (1, .int p1), (2, .int p2)]) dX11_overlap_24 rfl (by decide) rfl ?_
    refine kr_iload_n dX11_overlap_25 rfl 2 rfl ?_
    refine kr_iload_n dX11_overlap_26 rfl 3 rfl ?_
    refine kr_icmp_ne (tgt := 39) dX11_overlap_27 (by decide) ?_ ?_
    · refine kr_aload_n dX11_overlap_39 rfl 0 rfl ?_
      refine kr_getI (ci := 7) (j := 1) dX11_overlap_40 (kr_shR3 _ h4) fl_RX11_175 rfl (fun v5 => ?_)
      refine kr_sub [1, 3, 0] rfl ?_
      exact r_X11_overlap_43 E p2 ((kr_rp g3 p1) + 3) (kr_shR3 _ h4) v5 M1
    · refine kr_aload_n dX11_overlap_30 rfl 0 rfl ?_
      refine kr_getI (ci := 7) (j := 1) dX11_overlap_31 (kr_shR3 _ h4) fl_RX11_175 rfl (fun v6 => ?_)
      refine kr_iconst (v := 1) dX11_overlap_34 (by decide) ?_
      refine kr_isub dX11_overlap_35 ?_
      refine kr_goto (tgt := 43) dX11_overlap_36 (by decide) ?_
      refine kr_sub [1, 3, 0] rfl ?_
      exact r_X11_overlap_43 E p2 ((kr_rp g3 p1) + 3) (kr_shR3 _ h4) (v6 - (1 : Int32)) M1
  · refine kr_bipush (v := -2) dX11_overlap_9 (by decide) ?_
    exact kr_iret dX11_overlap_11 rfl
theorem dX11_all_0 : decode cX11_all 0 = .ok (.aload_n 0, 1) := by decide +kernel
theorem dX11_all_1 : decode cX11_all 1 = .ok (.getfield 19, 3) := by decide +kernel
theorem dX11_all_4 : decode cX11_all 4 = .ok (.invokevirtual 238, 3) := by decide +kernel
theorem dX11_all_7 : decode cX11_all 7 = .ok (.ifCond .ne 6, 3) := by decide +kernel
theorem dX11_all_10 : decode cX11_all 10 = .ok (.bipush (-2), 2) := by decide +kernel
theorem dX11_all_12 : decode cX11_all 12 = .ok (.ireturn, 1) := by decide +kernel
theorem dX11_all_13 : decode cX11_all 13 = .ok (.aload_n 0, 1) := by decide +kernel
theorem dX11_all_14 : decode cX11_all 14 = .ok (.getfield 86, 3) := by decide +kernel
theorem dX11_all_17 : decode cX11_all 17 = .ok (.aload_n 0, 1) := by decide +kernel
theorem dX11_all_18 : decode cX11_all 18 = .ok (.getfield 19, 3) := by decide +kernel
theorem dX11_all_21 : decode cX11_all 21 = .ok (.invokevirtual 286, 3) := by decide +kernel
theorem dX11_all_24 : decode cX11_all 24 = .ok (.aload_n 0, 1) := by decide +kernel
theorem dX11_all_25 : decode cX11_all 25 = .ok (.getfield 86, 3) := by decide +kernel
theorem dX11_all_28 : decode cX11_all 28 = .ok (.aload_n 0, 1) := by decide +kernel
theorem dX11_all_29 : decode cX11_all 29 = .ok (.getfield 19, 3) := by decide +kernel
theorem dX11_all_32 : decode cX11_all 32 = .ok (.invokevirtual 289, 3) := by decide +kernel
theorem dX11_all_35 : decode cX11_all 35 = .ok (.ireturn, 1) := by decide +kernel
theorem r_X11_all (E : kr_E)  (M : kr_M) : kR kr_vi E Y_X11_all 6 0 [(0, kr_r E 0)] [] M (f_X11_all M) := by
  rw [f_X11_all]
  refine kr_aload_n dX11_all_0 rfl 0 rfl ?_
  refine kr_getG (o := 0) (ci := 11) (j := 1) dX11_all_1 kr_at_0 fl_RX11_19 rfl (fun g1 h_g1 => ?_)
  refine kr_Vi (As := []) (st := []) zv_X2_isTold dX11_all_4 ml_RX11_238 h_g1 (r_X2_isTold E g1 h_g1 M) rfl rfl (Nat.le_of_ble_eq_true rfl) rfl (by decide) (Nat.le_of_ble_eq_true rfl) (fun r3 M2 => ?_)
  refine kr_if_ne (tgt := 13) dX11_all_7 (by decide) ?_ ?_
  · refine kr_aload_n dX11_all_13 rfl 0 rfl ?_
    refine kr_getA (o := 330) (ci := 11) (j := 12) dX11_all_14 kr_at_0 fl_RX11_86 rfl ?_
    refine kr_aload_n dX11_all_17 rfl 0 rfl ?_
    refine kr_getG (o := 0) (ci := 11) (j := 1) dX11_all_18 kr_at_0 fl_RX11_19 rfl (fun g4 h_g4 => ?_)
    refine kr_Vv (As := [kr_r E g4]) (st := []) zv_X0_lay dX11_all_21 ml_RX11_286 kr_at_330 (r_X0_lay E g4 h_g4 M2) rfl rfl (Nat.le_of_ble_eq_true rfl) rfl (by decide) (Nat.le_of_ble_eq_true rfl) (fun M5 => ?_)
    refine kr_aload_n dX11_all_24 rfl 0 rfl ?_
    refine kr_getA (o := 330) (ci := 11) (j := 12) dX11_all_25 kr_at_0 fl_RX11_86 rfl ?_
    refine kr_aload_n dX11_all_28 rfl 0 rfl ?_
    refine kr_getG (o := 0) (ci := 11) (j := 1) dX11_all_29 kr_at_0 fl_RX11_19 rfl (fun g7 h_g7 => ?_)
    refine kr_Vi (As := [kr_r E g7]) (st := []) zv_X0_shortestLaid dX11_all_32 ml_RX11_289 kr_at_330 (r_X0_shortestLaid E g7 h_g7 M5) rfl rfl (Nat.le_of_ble_eq_true rfl) rfl (by decide) (Nat.le_of_ble_eq_true rfl) (fun r9 M8 => ?_)
    exact kr_iret dX11_all_35 rfl
  · refine kr_bipush (v := -2) dX11_all_10 (by decide) ?_
    exact kr_iret dX11_all_12 rfl
theorem dX11_order_0 : decode cX11_order 0 = .ok (.aload_n 0, 1) := by decide +kernel
theorem dX11_order_1 : decode cX11_order 1 = .ok (.getfield 19, 3) := by decide +kernel
theorem dX11_order_4 : decode cX11_order 4 = .ok (.invokevirtual 238, 3) := by decide +kernel
theorem dX11_order_7 : decode cX11_order 7 = .ok (.ifCond .ne 6, 3) := by decide +kernel
theorem dX11_order_10 : decode cX11_order 10 = .ok (.bipush (-2), 2) := by decide +kernel
theorem dX11_order_12 : decode cX11_order 12 = .ok (.ireturn, 1) := by decide +kernel
theorem dX11_order_13 : decode cX11_order 13 = .ok (.aload_n 0, 1) := by decide +kernel
theorem dX11_order_14 : decode cX11_order 14 = .ok (.getfield 86, 3) := by decide +kernel
theorem dX11_order_17 : decode cX11_order 17 = .ok (.aload_n 0, 1) := by decide +kernel
theorem dX11_order_18 : decode cX11_order 18 = .ok (.getfield 19, 3) := by decide +kernel
theorem dX11_order_21 : decode cX11_order 21 = .ok (.invokevirtual 286, 3) := by decide +kernel
theorem dX11_order_24 : decode cX11_order 24 = .ok (.aload_n 0, 1) := by decide +kernel
theorem dX11_order_25 : decode cX11_order 25 = .ok (.getfield 86, 3) := by decide +kernel
theorem dX11_order_28 : decode cX11_order 28 = .ok (.aload_n 0, 1) := by decide +kernel
theorem dX11_order_29 : decode cX11_order 29 = .ok (.getfield 19, 3) := by decide +kernel
theorem dX11_order_32 : decode cX11_order 32 = .ok (.iload_n 1, 1) := by decide +kernel
theorem dX11_order_33 : decode cX11_order 33 = .ok (.invokevirtual 293, 3) := by decide +kernel
theorem dX11_order_36 : decode cX11_order 36 = .ok (.ireturn, 1) := by decide +kernel
theorem r_X11_order (E : kr_E) (p1 : Int32) (M : kr_M) : kR kr_vi E Y_X11_order 6 0 [(0, kr_r E 0), (1, .int p1)] [] M (f_X11_order p1 M) := by
  rw [f_X11_order]
  refine kr_aload_n dX11_order_0 rfl 0 rfl ?_
  refine kr_getG (o := 0) (ci := 11) (j := 1) dX11_order_1 kr_at_0 fl_RX11_19 rfl (fun g1 h_g1 => ?_)
  refine kr_Vi (As := []) (st := []) zv_X2_isTold dX11_order_4 ml_RX11_238 h_g1 (r_X2_isTold E g1 h_g1 M) rfl rfl (Nat.le_of_ble_eq_true rfl) rfl (by decide) (Nat.le_of_ble_eq_true rfl) (fun r3 M2 => ?_)
  refine kr_if_ne (tgt := 13) dX11_order_7 (by decide) ?_ ?_
  · refine kr_aload_n dX11_order_13 rfl 0 rfl ?_
    refine kr_getA (o := 330) (ci := 11) (j := 12) dX11_order_14 kr_at_0 fl_RX11_86 rfl ?_
    refine kr_aload_n dX11_order_17 rfl 0 rfl ?_
    refine kr_getG (o := 0) (ci := 11) (j := 1) dX11_order_18 kr_at_0 fl_RX11_19 rfl (fun g4 h_g4 => ?_)
    refine kr_Vv (As := [kr_r E g4]) (st := []) zv_X0_lay dX11_order_21 ml_RX11_286 kr_at_330 (r_X0_lay E g4 h_g4 M2) rfl rfl (Nat.le_of_ble_eq_true rfl) rfl (by decide) (Nat.le_of_ble_eq_true rfl) (fun M5 => ?_)
    refine kr_aload_n dX11_order_24 rfl 0 rfl ?_
    refine kr_getA (o := 330) (ci := 11) (j := 12) dX11_order_25 kr_at_0 fl_RX11_86 rfl ?_
    refine kr_aload_n dX11_order_28 rfl 0 rfl ?_
    refine kr_getG (o := 0) (ci := 11) (j := 1) dX11_order_29 kr_at_0 fl_RX11_19 rfl (fun g7 h_g7 => ?_)
    refine kr_iload_n dX11_order_32 rfl 1 rfl ?_
    refine kr_Vi (As := [kr_r E g7, .int p1]) (st := []) zv_X0_ropeOfFirst dX11_order_33 ml_RX11_293 kr_at_330 (r_X0_ropeOfFirst E g7 h_g7 p1 M5) rfl rfl (Nat.le_of_ble_eq_true rfl) rfl (by decide) (Nat.le_of_ble_eq_true rfl) (fun r9 M8 => ?_)
    exact kr_iret dX11_order_36 rfl
  · refine kr_bipush (v := -2) dX11_order_10 (by decide) ?_
    exact kr_iret dX11_order_12 rfl
theorem dX11_part_0 : decode cX11_part 0 = .ok (.aload_n 0, 1) := by decide +kernel
theorem dX11_part_1 : decode cX11_part 1 = .ok (.iload_n 1, 1) := by decide +kernel
theorem dX11_part_2 : decode cX11_part 2 = .ok (.iload_n 2, 1) := by decide +kernel
theorem dX11_part_3 : decode cX11_part 3 = .ok (.invokevirtual 279, 3) := by decide +kernel
theorem dX11_part_6 : decode cX11_part 6 = .ok (.ifCond .ne 6, 3) := by decide +kernel
theorem dX11_part_9 : decode cX11_part 9 = .ok (.bipush (-2), 2) := by decide +kernel
theorem dX11_part_11 : decode cX11_part 11 = .ok (.ireturn, 1) := by decide +kernel
theorem dX11_part_12 : decode cX11_part 12 = .ok (.aload_n 0, 1) := by decide +kernel
theorem dX11_part_13 : decode cX11_part 13 = .ok (.getfield 19, 3) := by decide +kernel
theorem dX11_part_16 : decode cX11_part 16 = .ok (.getfield 157, 3) := by decide +kernel
theorem dX11_part_19 : decode cX11_part 19 = .ok (.iload_n 1, 1) := by decide +kernel
theorem dX11_part_20 : decode cX11_part 20 = .ok (.aaload, 1) := by decide +kernel
theorem dX11_part_21 : decode cX11_part 21 = .ok (.getfield 172, 3) := by decide +kernel
theorem dX11_part_24 : decode cX11_part 24 = .ok (.aload_n 0, 1) := by decide +kernel
theorem dX11_part_25 : decode cX11_part 25 = .ok (.getfield 19, 3) := by decide +kernel
theorem dX11_part_28 : decode cX11_part 28 = .ok (.getfield 157, 3) := by decide +kernel
theorem dX11_part_31 : decode cX11_part 31 = .ok (.iload_n 2, 1) := by decide +kernel
theorem dX11_part_32 : decode cX11_part 32 = .ok (.aaload, 1) := by decide +kernel
theorem dX11_part_33 : decode cX11_part 33 = .ok (.getfield 172, 3) := by decide +kernel
theorem dX11_part_36 : decode cX11_part 36 = .ok (.invokevirtual 297, 3) := by decide +kernel
theorem dX11_part_39 : decode cX11_part 39 = .ok (.ireturn, 1) := by decide +kernel
theorem r_X11_part (E : kr_E) (p1 : Int32) (p2 : Int32) (M : kr_M) : kR kr_vi E Y_X11_part 4 0 [(0, kr_r E 0), (1, .int p1), (2, .int p2)] [] M (f_X11_part p1 p2 M) := by
  rw [f_X11_part]
  refine kr_aload_n dX11_part_0 rfl 0 rfl ?_
  refine kr_iload_n dX11_part_1 rfl 1 rfl ?_
  refine kr_iload_n dX11_part_2 rfl 2 rfl ?_
  refine kr_Vi (As := [.int p1, .int p2]) (st := []) zv_X11_hasRopes dX11_part_3 ml_RX11_279 kr_at_0 (r_X11_hasRopes E p1 p2 M) rfl rfl (Nat.le_of_ble_eq_true rfl) rfl (by decide) (Nat.le_of_ble_eq_true rfl) (fun r2 M1 => ?_)
  refine kr_if_ne (tgt := 12) dX11_part_6 (by decide) ?_ ?_
  · refine kr_aload_n dX11_part_12 rfl 0 rfl ?_
    refine kr_getG (o := 0) (ci := 11) (j := 1) dX11_part_13 kr_at_0 fl_RX11_19 rfl (fun g3 h_g3 => ?_)
    refine kr_getA (o := 5) (ci := 2) (j := 14) dX11_part_16 h_g3 fl_RX11_157 rfl ?_
    refine kr_iload_n dX11_part_19 rfl 1 rfl ?_
    refine kr_aaldR dX11_part_20 h_g3 (fun h4 => ?_)
    refine kr_getA (o := 3) (ci := 5) (j := 5) dX11_part_21 h4 fl_RX11_172 rfl ?_
    refine kr_aload_n dX11_part_24 rfl 0 rfl ?_
    refine kr_getG (o := 0) (ci := 11) (j := 1) dX11_part_25 kr_at_0 fl_RX11_19 rfl (fun g5 h_g5 => ?_)
    refine kr_getA (o := 5) (ci := 2) (j := 14) dX11_part_28 h_g5 fl_RX11_157 rfl ?_
    refine kr_iload_n dX11_part_31 rfl 2 rfl ?_
    refine kr_aaldR dX11_part_32 h_g5 (fun h6 => ?_)
    refine kr_getA (o := 3) (ci := 5) (j := 5) dX11_part_33 h6 fl_RX11_172 rfl ?_
    refine kr_Vi (As := [kr_r E ((kr_rp g5 p2) + 3)]) (st := []) zv_X7_placeOf dX11_part_36 ml_RX11_297 (kr_shR3 _ h4) (r_X7_placeOf E ((kr_rp g3 p1) + 3) (kr_shR3 _ h4) ((kr_rp g5 p2) + 3) (kr_shR3 _ h6) M1) rfl rfl (Nat.le_of_ble_eq_true rfl) rfl (by decide) (Nat.le_of_ble_eq_true rfl) (fun r8 M7 => ?_)
    exact kr_iret dX11_part_39 rfl
  · refine kr_bipush (v := -2) dX11_part_9 (by decide) ?_
    exact kr_iret dX11_part_11 rfl
theorem dX11_errors_0 : decode cX11_errors 0 = .ok (.aload_n 0, 1) := by decide +kernel
theorem dX11_errors_1 : decode cX11_errors 1 = .ok (.iload_n 1, 1) := by decide +kernel
theorem dX11_errors_2 : decode cX11_errors 2 = .ok (.iload_n 2, 1) := by decide +kernel
theorem dX11_errors_3 : decode cX11_errors 3 = .ok (.invokevirtual 279, 3) := by decide +kernel
theorem dX11_errors_6 : decode cX11_errors 6 = .ok (.ifCond .ne 6, 3) := by decide +kernel
theorem dX11_errors_9 : decode cX11_errors 9 = .ok (.bipush (-2), 2) := by decide +kernel
theorem dX11_errors_11 : decode cX11_errors 11 = .ok (.ireturn, 1) := by decide +kernel
theorem dX11_errors_12 : decode cX11_errors 12 = .ok (.aload_n 0, 1) := by decide +kernel
theorem dX11_errors_13 : decode cX11_errors 13 = .ok (.getfield 86, 3) := by decide +kernel
theorem dX11_errors_16 : decode cX11_errors 16 = .ok (.aload_n 0, 1) := by decide +kernel
theorem dX11_errors_17 : decode cX11_errors 17 = .ok (.getfield 19, 3) := by decide +kernel
theorem dX11_errors_20 : decode cX11_errors 20 = .ok (.getfield 157, 3) := by decide +kernel
theorem dX11_errors_23 : decode cX11_errors 23 = .ok (.iload_n 1, 1) := by decide +kernel
theorem dX11_errors_24 : decode cX11_errors 24 = .ok (.aaload, 1) := by decide +kernel
theorem dX11_errors_25 : decode cX11_errors 25 = .ok (.getfield 172, 3) := by decide +kernel
theorem dX11_errors_28 : decode cX11_errors 28 = .ok (.aload_n 0, 1) := by decide +kernel
theorem dX11_errors_29 : decode cX11_errors 29 = .ok (.getfield 19, 3) := by decide +kernel
theorem dX11_errors_32 : decode cX11_errors 32 = .ok (.getfield 157, 3) := by decide +kernel
theorem dX11_errors_35 : decode cX11_errors 35 = .ok (.iload_n 2, 1) := by decide +kernel
theorem dX11_errors_36 : decode cX11_errors 36 = .ok (.aaload, 1) := by decide +kernel
theorem dX11_errors_37 : decode cX11_errors 37 = .ok (.getfield 172, 3) := by decide +kernel
theorem dX11_errors_40 : decode cX11_errors 40 = .ok (.invokevirtual 301, 3) := by decide +kernel
theorem dX11_errors_43 : decode cX11_errors 43 = .ok (.ireturn, 1) := by decide +kernel
theorem r_X11_errors (E : kr_E) (p1 : Int32) (p2 : Int32) (M : kr_M) : kR kr_vi E Y_X11_errors 3 0 [(0, kr_r E 0), (1, .int p1), (2, .int p2)] [] M (f_X11_errors p1 p2 M) := by
  rw [f_X11_errors]
  refine kr_aload_n dX11_errors_0 rfl 0 rfl ?_
  refine kr_iload_n dX11_errors_1 rfl 1 rfl ?_
  refine kr_iload_n dX11_errors_2 rfl 2 rfl ?_
  refine kr_Vi (As := [.int p1, .int p2]) (st := []) zv_X11_hasRopes dX11_errors_3 ml_RX11_279 kr_at_0 (r_X11_hasRopes E p1 p2 M) rfl rfl (Nat.le_of_ble_eq_true rfl) rfl (by decide) (Nat.le_of_ble_eq_true rfl) (fun r2 M1 => ?_)
  refine kr_if_ne (tgt := 12) dX11_errors_6 (by decide) ?_ ?_
  · refine kr_aload_n dX11_errors_12 rfl 0 rfl ?_
    refine kr_getA (o := 330) (ci := 11) (j := 12) dX11_errors_13 kr_at_0 fl_RX11_86 rfl ?_
    refine kr_aload_n dX11_errors_16 rfl 0 rfl ?_
    refine kr_getG (o := 0) (ci := 11) (j := 1) dX11_errors_17 kr_at_0 fl_RX11_19 rfl (fun g3 h_g3 => ?_)
    refine kr_getA (o := 5) (ci := 2) (j := 14) dX11_errors_20 h_g3 fl_RX11_157 rfl ?_
    refine kr_iload_n dX11_errors_23 rfl 1 rfl ?_
    refine kr_aaldR dX11_errors_24 h_g3 (fun h4 => ?_)
    refine kr_getA (o := 3) (ci := 5) (j := 5) dX11_errors_25 h4 fl_RX11_172 rfl ?_
    refine kr_aload_n dX11_errors_28 rfl 0 rfl ?_
    refine kr_getG (o := 0) (ci := 11) (j := 1) dX11_errors_29 kr_at_0 fl_RX11_19 rfl (fun g5 h_g5 => ?_)
    refine kr_getA (o := 5) (ci := 2) (j := 14) dX11_errors_32 h_g5 fl_RX11_157 rfl ?_
    refine kr_iload_n dX11_errors_35 rfl 2 rfl ?_
    refine kr_aaldR dX11_errors_36 h_g5 (fun h6 => ?_)
    refine kr_getA (o := 3) (ci := 5) (j := 5) dX11_errors_37 h6 fl_RX11_172 rfl ?_
    refine kr_Vi (As := [kr_r E ((kr_rp g3 p1) + 3), kr_r E ((kr_rp g5 p2) + 3)]) (st := []) zv_X0_fewestErrors dX11_errors_40 ml_RX11_301 kr_at_330 (r_X0_fewestErrors E ((kr_rp g3 p1) + 3) (kr_shR3 _ h4) ((kr_rp g5 p2) + 3) (kr_shR3 _ h6) M1) rfl rfl (Nat.le_of_ble_eq_true rfl) rfl (by decide) (Nat.le_of_ble_eq_true rfl) (fun r8 M7 => ?_)
    exact kr_iret dX11_errors_43 rfl
  · refine kr_bipush (v := -2) dX11_errors_9 (by decide) ?_
    exact kr_iret dX11_errors_11 rfl
theorem dX11_common_0 : decode cX11_common 0 = .ok (.aload_n 0, 1) := by decide +kernel
theorem dX11_common_1 : decode cX11_common 1 = .ok (.iload_n 1, 1) := by decide +kernel
theorem dX11_common_2 : decode cX11_common 2 = .ok (.iload_n 2, 1) := by decide +kernel
theorem dX11_common_3 : decode cX11_common 3 = .ok (.invokevirtual 279, 3) := by decide +kernel
theorem dX11_common_6 : decode cX11_common 6 = .ok (.ifCond .ne 6, 3) := by decide +kernel
theorem dX11_common_9 : decode cX11_common 9 = .ok (.bipush (-2), 2) := by decide +kernel
theorem dX11_common_11 : decode cX11_common 11 = .ok (.ireturn, 1) := by decide +kernel
theorem dX11_common_12 : decode cX11_common 12 = .ok (.aload_n 0, 1) := by decide +kernel
theorem dX11_common_13 : decode cX11_common 13 = .ok (.getfield 86, 3) := by decide +kernel
theorem dX11_common_16 : decode cX11_common 16 = .ok (.aload_n 0, 1) := by decide +kernel
theorem dX11_common_17 : decode cX11_common 17 = .ok (.getfield 19, 3) := by decide +kernel
theorem dX11_common_20 : decode cX11_common 20 = .ok (.getfield 157, 3) := by decide +kernel
theorem dX11_common_23 : decode cX11_common 23 = .ok (.iload_n 1, 1) := by decide +kernel
theorem dX11_common_24 : decode cX11_common 24 = .ok (.aaload, 1) := by decide +kernel
theorem dX11_common_25 : decode cX11_common 25 = .ok (.getfield 172, 3) := by decide +kernel
theorem dX11_common_28 : decode cX11_common 28 = .ok (.aload_n 0, 1) := by decide +kernel
theorem dX11_common_29 : decode cX11_common 29 = .ok (.getfield 19, 3) := by decide +kernel
theorem dX11_common_32 : decode cX11_common 32 = .ok (.getfield 157, 3) := by decide +kernel
theorem dX11_common_35 : decode cX11_common 35 = .ok (.iload_n 2, 1) := by decide +kernel
theorem dX11_common_36 : decode cX11_common 36 = .ok (.aaload, 1) := by decide +kernel
theorem dX11_common_37 : decode cX11_common 37 = .ok (.getfield 172, 3) := by decide +kernel
theorem dX11_common_40 : decode cX11_common 40 = .ok (.invokevirtual 305, 3) := by decide +kernel
theorem dX11_common_43 : decode cX11_common 43 = .ok (.ireturn, 1) := by decide +kernel
theorem r_X11_common (E : kr_E) (p1 : Int32) (p2 : Int32) (M : kr_M) : kR kr_vi E Y_X11_common 3 0 [(0, kr_r E 0), (1, .int p1), (2, .int p2)] [] M (f_X11_common p1 p2 M) := by
  rw [f_X11_common]
  refine kr_aload_n dX11_common_0 rfl 0 rfl ?_
  refine kr_iload_n dX11_common_1 rfl 1 rfl ?_
  refine kr_iload_n dX11_common_2 rfl 2 rfl ?_
  refine kr_Vi (As := [.int p1, .int p2]) (st := []) zv_X11_hasRopes dX11_common_3 ml_RX11_279 kr_at_0 (r_X11_hasRopes E p1 p2 M) rfl rfl (Nat.le_of_ble_eq_true rfl) rfl (by decide) (Nat.le_of_ble_eq_true rfl) (fun r2 M1 => ?_)
  refine kr_if_ne (tgt := 12) dX11_common_6 (by decide) ?_ ?_
  · refine kr_aload_n dX11_common_12 rfl 0 rfl ?_
    refine kr_getA (o := 330) (ci := 11) (j := 12) dX11_common_13 kr_at_0 fl_RX11_86 rfl ?_
    refine kr_aload_n dX11_common_16 rfl 0 rfl ?_
    refine kr_getG (o := 0) (ci := 11) (j := 1) dX11_common_17 kr_at_0 fl_RX11_19 rfl (fun g3 h_g3 => ?_)
    refine kr_getA (o := 5) (ci := 2) (j := 14) dX11_common_20 h_g3 fl_RX11_157 rfl ?_
    refine kr_iload_n dX11_common_23 rfl 1 rfl ?_
    refine kr_aaldR dX11_common_24 h_g3 (fun h4 => ?_)
    refine kr_getA (o := 3) (ci := 5) (j := 5) dX11_common_25 h4 fl_RX11_172 rfl ?_
    refine kr_aload_n dX11_common_28 rfl 0 rfl ?_
    refine kr_getG (o := 0) (ci := 11) (j := 1) dX11_common_29 kr_at_0 fl_RX11_19 rfl (fun g5 h_g5 => ?_)
    refine kr_getA (o := 5) (ci := 2) (j := 14) dX11_common_32 h_g5 fl_RX11_157 rfl ?_
    refine kr_iload_n dX11_common_35 rfl 2 rfl ?_
    refine kr_aaldR dX11_common_36 h_g5 (fun h6 => ?_)
    refine kr_getA (o := 3) (ci := 5) (j := 5) dX11_common_37 h6 fl_RX11_172 rfl ?_
    refine kr_Vi (As := [kr_r E ((kr_rp g3 p1) + 3), kr_r E ((kr_rp g5 p2) + 3)]) (st := []) zv_X0_mostShared dX11_common_40 ml_RX11_305 kr_at_330 (r_X0_mostShared E ((kr_rp g3 p1) + 3) (kr_shR3 _ h4) ((kr_rp g5 p2) + 3) (kr_shR3 _ h6) M1) rfl rfl (Nat.le_of_ble_eq_true rfl) rfl (by decide) (Nat.le_of_ble_eq_true rfl) (fun r8 M7 => ?_)
    exact kr_iret dX11_common_43 rfl
  · refine kr_bipush (v := -2) dX11_common_9 (by decide) ?_
    exact kr_iret dX11_common_11 rfl
theorem dX11_which_0 : decode cX11_which 0 = .ok (.aload_n 0, 1) := by decide +kernel
theorem dX11_which_1 : decode cX11_which 1 = .ok (.getfield 19, 3) := by decide +kernel
theorem dX11_which_4 : decode cX11_which 4 = .ok (.iload_n 1, 1) := by decide +kernel
theorem dX11_which_5 : decode cX11_which 5 = .ok (.invokevirtual 308, 3) := by decide +kernel
theorem dX11_which_8 : decode cX11_which 8 = .ok (.ifCond .ne 6, 3) := by decide +kernel
theorem dX11_which_11 : decode cX11_which 11 = .ok (.bipush (-2), 2) := by decide +kernel
theorem dX11_which_13 : decode cX11_which 13 = .ok (.ireturn, 1) := by decide +kernel
theorem dX11_which_14 : decode cX11_which 14 = .ok (.aload_n 0, 1) := by decide +kernel
theorem dX11_which_15 : decode cX11_which 15 = .ok (.getfield 93, 3) := by decide +kernel
theorem dX11_which_18 : decode cX11_which 18 = .ok (.aload_n 0, 1) := by decide +kernel
theorem dX11_which_19 : decode cX11_which 19 = .ok (.getfield 19, 3) := by decide +kernel
theorem dX11_which_22 : decode cX11_which 22 = .ok (.iload_n 1, 1) := by decide +kernel
theorem dX11_which_23 : decode cX11_which 23 = .ok (.invokevirtual 311, 3) := by decide +kernel
theorem dX11_which_26 : decode cX11_which 26 = .ok (.aload_n 0, 1) := by decide +kernel
theorem dX11_which_27 : decode cX11_which 27 = .ok (.getfield 93, 3) := by decide +kernel
theorem dX11_which_30 : decode cX11_which 30 = .ok (.getfield 314, 3) := by decide +kernel
theorem dX11_which_33 : decode cX11_which 33 = .ok (.iload_n 1, 1) := by decide +kernel
theorem dX11_which_34 : decode cX11_which 34 = .ok (.iaload, 1) := by decide +kernel
theorem dX11_which_35 : decode cX11_which 35 = .ok (.ireturn, 1) := by decide +kernel
theorem r_X11_which (E : kr_E) (p1 : Int32) (M : kr_M) : kR kr_vi E Y_X11_which 5 0 [(0, kr_r E 0), (1, .int p1)] [] M (f_X11_which p1 M) := by
  rw [f_X11_which]
  refine kr_aload_n dX11_which_0 rfl 0 rfl ?_
  refine kr_getG (o := 0) (ci := 11) (j := 1) dX11_which_1 kr_at_0 fl_RX11_19 rfl (fun g1 h_g1 => ?_)
  refine kr_iload_n dX11_which_4 rfl 1 rfl ?_
  refine kr_Vi (As := [.int p1]) (st := []) zv_X2_hasRopeSet dX11_which_5 ml_RX11_308 h_g1 (r_X2_hasRopeSet E g1 h_g1 p1 M) rfl rfl (Nat.le_of_ble_eq_true rfl) rfl (by decide) (Nat.le_of_ble_eq_true rfl) (fun r3 M2 => ?_)
  refine kr_if_ne (tgt := 14) dX11_which_8 (by decide) ?_ ?_
  · refine kr_aload_n dX11_which_14 rfl 0 rfl ?_
    refine kr_getA (o := 334) (ci := 11) (j := 13) dX11_which_15 kr_at_0 fl_RX11_93 rfl ?_
    refine kr_aload_n dX11_which_18 rfl 0 rfl ?_
    refine kr_getG (o := 0) (ci := 11) (j := 1) dX11_which_19 kr_at_0 fl_RX11_19 rfl (fun g4 h_g4 => ?_)
    refine kr_iload_n dX11_which_22 rfl 1 rfl ?_
    refine kr_Vv (As := [kr_r E g4, .int p1]) (st := []) zv_X8_study dX11_which_23 ml_RX11_311 kr_at_334 (r_X8_study E g4 h_g4 p1 M2) rfl rfl (Nat.le_of_ble_eq_true rfl) rfl (by decide) (Nat.le_of_ble_eq_true rfl) (fun M5 => ?_)
    refine kr_aload_n dX11_which_26 rfl 0 rfl ?_
    refine kr_getA (o := 334) (ci := 11) (j := 13) dX11_which_27 kr_at_0 fl_RX11_93 rfl ?_
    refine kr_getA (o := 1) (ci := 8) (j := 0) dX11_which_30 kr_at_334 fl_RX11_314 rfl ?_
    refine kr_iload_n dX11_which_33 rfl 1 rfl ?_
    refine kr_iald dX11_which_34 kr_at_335 (fun v7 => ?_)
    exact kr_iret dX11_which_35 rfl
  · refine kr_bipush (v := -2) dX11_which_11 (by decide) ?_
    exact kr_iret dX11_which_13 rfl
theorem dX11_feels_0 : decode cX11_feels 0 = .ok (.aload_n 0, 1) := by decide +kernel
theorem dX11_feels_1 : decode cX11_feels 1 = .ok (.getfield 19, 3) := by decide +kernel
theorem dX11_feels_4 : decode cX11_feels 4 = .ok (.iload_n 1, 1) := by decide +kernel
theorem dX11_feels_5 : decode cX11_feels 5 = .ok (.invokevirtual 308, 3) := by decide +kernel
theorem dX11_feels_8 : decode cX11_feels 8 = .ok (.ifCond .ne 6, 3) := by decide +kernel
theorem dX11_feels_11 : decode cX11_feels 11 = .ok (.bipush (-2), 2) := by decide +kernel
theorem dX11_feels_13 : decode cX11_feels 13 = .ok (.ireturn, 1) := by decide +kernel
theorem dX11_feels_14 : decode cX11_feels 14 = .ok (.aload_n 0, 1) := by decide +kernel
theorem dX11_feels_15 : decode cX11_feels 15 = .ok (.getfield 93, 3) := by decide +kernel
theorem dX11_feels_18 : decode cX11_feels 18 = .ok (.aload_n 0, 1) := by decide +kernel
theorem dX11_feels_19 : decode cX11_feels 19 = .ok (.getfield 19, 3) := by decide +kernel
theorem dX11_feels_22 : decode cX11_feels 22 = .ok (.iload_n 1, 1) := by decide +kernel
theorem dX11_feels_23 : decode cX11_feels 23 = .ok (.invokevirtual 311, 3) := by decide +kernel
theorem dX11_feels_26 : decode cX11_feels 26 = .ok (.aload_n 0, 1) := by decide +kernel
theorem dX11_feels_27 : decode cX11_feels 27 = .ok (.getfield 93, 3) := by decide +kernel
theorem dX11_feels_30 : decode cX11_feels 30 = .ok (.getfield 317, 3) := by decide +kernel
theorem dX11_feels_33 : decode cX11_feels 33 = .ok (.iload_n 1, 1) := by decide +kernel
theorem dX11_feels_34 : decode cX11_feels 34 = .ok (.iaload, 1) := by decide +kernel
theorem dX11_feels_35 : decode cX11_feels 35 = .ok (.ireturn, 1) := by decide +kernel
theorem r_X11_feels (E : kr_E) (p1 : Int32) (M : kr_M) : kR kr_vi E Y_X11_feels 5 0 [(0, kr_r E 0), (1, .int p1)] [] M (f_X11_feels p1 M) := by
  rw [f_X11_feels]
  refine kr_aload_n dX11_feels_0 rfl 0 rfl ?_
  refine kr_getG (o := 0) (ci := 11) (j := 1) dX11_feels_1 kr_at_0 fl_RX11_19 rfl (fun g1 h_g1 => ?_)
  refine kr_iload_n dX11_feels_4 rfl 1 rfl ?_
  refine kr_Vi (As := [.int p1]) (st := []) zv_X2_hasRopeSet dX11_feels_5 ml_RX11_308 h_g1 (r_X2_hasRopeSet E g1 h_g1 p1 M) rfl rfl (Nat.le_of_ble_eq_true rfl) rfl (by decide) (Nat.le_of_ble_eq_true rfl) (fun r3 M2 => ?_)
  refine kr_if_ne (tgt := 14) dX11_feels_8 (by decide) ?_ ?_
  · refine kr_aload_n dX11_feels_14 rfl 0 rfl ?_
    refine kr_getA (o := 334) (ci := 11) (j := 13) dX11_feels_15 kr_at_0 fl_RX11_93 rfl ?_
    refine kr_aload_n dX11_feels_18 rfl 0 rfl ?_
    refine kr_getG (o := 0) (ci := 11) (j := 1) dX11_feels_19 kr_at_0 fl_RX11_19 rfl (fun g4 h_g4 => ?_)
    refine kr_iload_n dX11_feels_22 rfl 1 rfl ?_
    refine kr_Vv (As := [kr_r E g4, .int p1]) (st := []) zv_X8_study dX11_feels_23 ml_RX11_311 kr_at_334 (r_X8_study E g4 h_g4 p1 M2) rfl rfl (Nat.le_of_ble_eq_true rfl) rfl (by decide) (Nat.le_of_ble_eq_true rfl) (fun M5 => ?_)
    refine kr_aload_n dX11_feels_26 rfl 0 rfl ?_
    refine kr_getA (o := 334) (ci := 11) (j := 13) dX11_feels_27 kr_at_0 fl_RX11_93 rfl ?_
    refine kr_getA (o := 2) (ci := 8) (j := 1) dX11_feels_30 kr_at_334 fl_RX11_317 rfl ?_
    refine kr_iload_n dX11_feels_33 rfl 1 rfl ?_
    refine kr_iald dX11_feels_34 kr_at_336 (fun v7 => ?_)
    exact kr_iret dX11_feels_35 rfl
  · refine kr_bipush (v := -2) dX11_feels_11 (by decide) ?_
    exact kr_iret dX11_feels_13 rfl
theorem dX11_opensWays_0 : decode cX11_opensWays 0 = .ok (.aload_n 0, 1) := by decide +kernel
theorem dX11_opensWays_1 : decode cX11_opensWays 1 = .ok (.getfield 19, 3) := by decide +kernel
theorem dX11_opensWays_4 : decode cX11_opensWays 4 = .ok (.iload_n 1, 1) := by decide +kernel
theorem dX11_opensWays_5 : decode cX11_opensWays 5 = .ok (.invokevirtual 185, 3) := by decide +kernel
theorem dX11_opensWays_8 : decode cX11_opensWays 8 = .ok (.ifCond .eq 25, 3) := by decide +kernel
theorem dX11_opensWays_11 : decode cX11_opensWays 11 = .ok (.aload_n 0, 1) := by decide +kernel
theorem dX11_opensWays_12 : decode cX11_opensWays 12 = .ok (.getfield 19, 3) := by decide +kernel
theorem dX11_opensWays_15 : decode cX11_opensWays 15 = .ok (.iload_n 2, 1) := by decide +kernel
theorem dX11_opensWays_16 : decode cX11_opensWays 16 = .ok (.invokevirtual 348, 3) := by decide +kernel
theorem dX11_opensWays_19 : decode cX11_opensWays 19 = .ok (.ifCond .eq 14, 3) := by decide +kernel
theorem dX11_opensWays_22 : decode cX11_opensWays 22 = .ok (.aload_n 0, 1) := by decide +kernel
theorem dX11_opensWays_23 : decode cX11_opensWays 23 = .ok (.getfield 19, 3) := by decide +kernel
theorem dX11_opensWays_26 : decode cX11_opensWays 26 = .ok (.iload_n 3, 1) := by decide +kernel
theorem dX11_opensWays_27 : decode cX11_opensWays 27 = .ok (.invokevirtual 348, 3) := by decide +kernel
theorem dX11_opensWays_30 : decode cX11_opensWays 30 = .ok (.ifCond .ne 5, 3) := by decide +kernel
theorem dX11_opensWays_33 : decode cX11_opensWays 33 = .ok (.iconst 0, 1) := by decide +kernel
theorem dX11_opensWays_34 : decode cX11_opensWays 34 = .ok (.ireturn, 1) := by decide +kernel
theorem dX11_opensWays_35 : decode cX11_opensWays 35 = .ok (.aload_n 0, 1) := by decide +kernel
theorem dX11_opensWays_36 : decode cX11_opensWays 36 = .ok (.getfield 100, 3) := by decide +kernel
theorem dX11_opensWays_39 : decode cX11_opensWays 39 = .ok (.aload_n 0, 1) := by decide +kernel
theorem dX11_opensWays_40 : decode cX11_opensWays 40 = .ok (.getfield 19, 3) := by decide +kernel
theorem dX11_opensWays_43 : decode cX11_opensWays 43 = .ok (.iload_n 1, 1) := by decide +kernel
theorem dX11_opensWays_44 : decode cX11_opensWays 44 = .ok (.iconst (-1), 1) := by decide +kernel
theorem dX11_opensWays_45 : decode cX11_opensWays 45 = .ok (.invokevirtual 351, 3) := by decide +kernel
theorem dX11_opensWays_48 : decode cX11_opensWays 48 = .ok (.iconst 1, 1) := by decide +kernel
theorem dX11_opensWays_49 : decode cX11_opensWays 49 = .ok (.ireturn, 1) := by decide +kernel
theorem r_X11_opensWays (E : kr_E) (p1 : Int32) (p2 : Int32) (p3 : Int32) (M : kr_M) : kR kr_vi E Y_X11_opensWays 6 0 [(0, kr_r E 0), (1, .int p1), (2, .int p2), (3, .int p3)] [] M (f_X11_opensWays p1 p2 p3 M) := by
  rw [f_X11_opensWays]
  refine kr_aload_n dX11_opensWays_0 rfl 0 rfl ?_
  refine kr_getG (o := 0) (ci := 11) (j := 1) dX11_opensWays_1 kr_at_0 fl_RX11_19 rfl (fun g1 h_g1 => ?_)
  refine kr_iload_n dX11_opensWays_4 rfl 1 rfl ?_
  refine kr_Vi (As := [.int p1]) (st := []) zv_X2_hasPerson dX11_opensWays_5 ml_RX11_185 h_g1 (r_X2_hasPerson E g1 h_g1 p1 M) rfl rfl (Nat.le_of_ble_eq_true rfl) rfl (by decide) (Nat.le_of_ble_eq_true rfl) (fun r3 M2 => ?_)
  refine kr_if_eq (tgt := 33) dX11_opensWays_8 (by decide) ?_ ?_
  · refine kr_iconst (v := 0) dX11_opensWays_33 (by decide) ?_
    exact kr_zret1 dX11_opensWays_34 rfl rfl
  · refine kr_aload_n dX11_opensWays_11 rfl 0 rfl ?_
    refine kr_getG (o := 0) (ci := 11) (j := 1) dX11_opensWays_12 kr_at_0 fl_RX11_19 rfl (fun g4 h_g4 => ?_)
    refine kr_iload_n dX11_opensWays_15 rfl 2 rfl ?_
    refine kr_Vi (As := [.int p2]) (st := []) zv_X2_hasPlace dX11_opensWays_16 ml_RX11_348 h_g4 (r_X2_hasPlace E g4 h_g4 p2 M2) rfl rfl (Nat.le_of_ble_eq_true rfl) rfl (by decide) (Nat.le_of_ble_eq_true rfl) (fun r6 M5 => ?_)
    refine kr_if_eq (tgt := 33) dX11_opensWays_19 (by decide) ?_ ?_
    · refine kr_iconst (v := 0) dX11_opensWays_33 (by decide) ?_
      exact kr_zret1 dX11_opensWays_34 rfl rfl
    · refine kr_aload_n dX11_opensWays_22 rfl 0 rfl ?_
      refine kr_getG (o := 0) (ci := 11) (j := 1) dX11_opensWays_23 kr_at_0 fl_RX11_19 rfl (fun g7 h_g7 => ?_)
      refine kr_iload_n dX11_opensWays_26 rfl 3 rfl ?_
      refine kr_Vi (As := [.int p3]) (st := []) zv_X2_hasPlace dX11_opensWays_27 ml_RX11_348 h_g7 (r_X2_hasPlace E g7 h_g7 p3 M5) rfl rfl (Nat.le_of_ble_eq_true rfl) rfl (by decide) (Nat.le_of_ble_eq_true rfl) (fun r9 M8 => ?_)
      refine kr_if_ne (tgt := 35) dX11_opensWays_30 (by decide) ?_ ?_
      · refine kr_aload_n dX11_opensWays_35 rfl 0 rfl ?_
        refine kr_getA (o := 338) (ci := 11) (j := 14) dX11_opensWays_36 kr_at_0 fl_RX11_100 rfl ?_
        refine kr_aload_n dX11_opensWays_39 rfl 0 rfl ?_
        refine kr_getG (o := 0) (ci := 11) (j := 1) dX11_opensWays_40 kr_at_0 fl_RX11_19 rfl (fun g10 h_g10 => ?_)
        refine kr_iload_n dX11_opensWays_43 rfl 1 rfl ?_
        refine kr_iconst (v := -1) dX11_opensWays_44 (by decide) ?_
        refine kr_Vv (As := [kr_r E g10, .int p1, .int (-1 : Int32)]) (st := []) zv_X9_study dX11_opensWays_45 ml_RX11_351 kr_at_338 (r_X9_study E g10 h_g10 p1 (-1 : Int32) M8) rfl rfl (Nat.le_of_ble_eq_true rfl) rfl (by decide) (Nat.le_of_ble_eq_true rfl) (fun M11 => ?_)
        refine kr_iconst (v := 1) dX11_opensWays_48 (by decide) ?_
        exact kr_zret1 dX11_opensWays_49 rfl rfl
      · refine kr_iconst (v := 0) dX11_opensWays_33 (by decide) ?_
        exact kr_zret1 dX11_opensWays_34 rfl rfl
theorem dX11_way_0 : decode cX11_way 0 = .ok (.aload_n 0, 1) := by decide +kernel
theorem dX11_way_1 : decode cX11_way 1 = .ok (.iload_n 1, 1) := by decide +kernel
theorem dX11_way_2 : decode cX11_way 2 = .ok (.iload_n 2, 1) := by decide +kernel
theorem dX11_way_3 : decode cX11_way 3 = .ok (.iload_n 3, 1) := by decide +kernel
theorem dX11_way_4 : decode cX11_way 4 = .ok (.invokevirtual 320, 3) := by decide +kernel
theorem dX11_way_7 : decode cX11_way 7 = .ok (.ifCond .ne 6, 3) := by decide +kernel
theorem dX11_way_10 : decode cX11_way 10 = .ok (.bipush (-2), 2) := by decide +kernel
theorem dX11_way_12 : decode cX11_way 12 = .ok (.ireturn, 1) := by decide +kernel
theorem dX11_way_13 : decode cX11_way 13 = .ok (.aload_n 0, 1) := by decide +kernel
theorem dX11_way_14 : decode cX11_way 14 = .ok (.getfield 100, 3) := by decide +kernel
theorem dX11_way_17 : decode cX11_way 17 = .ok (.iload_n 2, 1) := by decide +kernel
theorem dX11_way_18 : decode cX11_way 18 = .ok (.iload_n 3, 1) := by decide +kernel
theorem dX11_way_19 : decode cX11_way 19 = .ok (.invokevirtual 324, 3) := by decide +kernel
theorem dX11_way_22 : decode cX11_way 22 = .ok (.ireturn, 1) := by decide +kernel
theorem r_X11_way (E : kr_E) (p1 : Int32) (p2 : Int32) (p3 : Int32) (M : kr_M) : kR kr_vi E Y_X11_way 7 0 [(0, kr_r E 0), (1, .int p1), (2, .int p2), (3, .int p3)] [] M (f_X11_way p1 p2 p3 M) := by
  rw [f_X11_way]
  refine kr_aload_n dX11_way_0 rfl 0 rfl ?_
  refine kr_iload_n dX11_way_1 rfl 1 rfl ?_
  refine kr_iload_n dX11_way_2 rfl 2 rfl ?_
  refine kr_iload_n dX11_way_3 rfl 3 rfl ?_
  refine kr_Vi (As := [.int p1, .int p2, .int p3]) (st := []) zv_X11_opensWays dX11_way_4 ml_RX11_320 kr_at_0 (r_X11_opensWays E p1 p2 p3 M) rfl rfl (Nat.le_of_ble_eq_true rfl) rfl (by decide) (Nat.le_of_ble_eq_true rfl) (fun r2 M1 => ?_)
  refine kr_if_ne (tgt := 13) dX11_way_7 (by decide) ?_ ?_
  · refine kr_aload_n dX11_way_13 rfl 0 rfl ?_
    refine kr_getA (o := 338) (ci := 11) (j := 14) dX11_way_14 kr_at_0 fl_RX11_100 rfl ?_
    refine kr_iload_n dX11_way_17 rfl 2 rfl ?_
    refine kr_iload_n dX11_way_18 rfl 3 rfl ?_
    refine kr_Vi (As := [.int p2, .int p3]) (st := []) zv_X9_timeFrom dX11_way_19 ml_RX11_324 kr_at_338 (r_X9_timeFrom E p2 p3 M1) rfl rfl (Nat.le_of_ble_eq_true rfl) rfl (by decide) (Nat.le_of_ble_eq_true rfl) (fun r4 M3 => ?_)
    exact kr_iret dX11_way_22 rfl
  · refine kr_bipush (v := -2) dX11_way_10 (by decide) ?_
    exact kr_iret dX11_way_12 rfl
theorem dX11_by_0 : decode cX11_by 0 = .ok (.aload_n 0, 1) := by decide +kernel
theorem dX11_by_1 : decode cX11_by 1 = .ok (.iload_n 1, 1) := by decide +kernel
theorem dX11_by_2 : decode cX11_by 2 = .ok (.iload_n 2, 1) := by decide +kernel
theorem dX11_by_3 : decode cX11_by 3 = .ok (.iload_n 3, 1) := by decide +kernel
theorem dX11_by_4 : decode cX11_by 4 = .ok (.invokevirtual 320, 3) := by decide +kernel
theorem dX11_by_7 : decode cX11_by 7 = .ok (.ifCond .ne 6, 3) := by decide +kernel
theorem dX11_by_10 : decode cX11_by 10 = .ok (.bipush (-2), 2) := by decide +kernel
theorem dX11_by_12 : decode cX11_by 12 = .ok (.ireturn, 1) := by decide +kernel
theorem dX11_by_13 : decode cX11_by 13 = .ok (.aload_n 0, 1) := by decide +kernel
theorem dX11_by_14 : decode cX11_by 14 = .ok (.getfield 100, 3) := by decide +kernel
theorem dX11_by_17 : decode cX11_by 17 = .ok (.aload_n 0, 1) := by decide +kernel
theorem dX11_by_18 : decode cX11_by 18 = .ok (.getfield 19, 3) := by decide +kernel
theorem dX11_by_21 : decode cX11_by 21 = .ok (.iload_n 2, 1) := by decide +kernel
theorem dX11_by_22 : decode cX11_by 22 = .ok (.iload_n 3, 1) := by decide +kernel
theorem dX11_by_23 : decode cX11_by 23 = .ok (.iload 4, 2) := by decide +kernel
theorem dX11_by_25 : decode cX11_by 25 = .ok (.invokevirtual 328, 3) := by decide +kernel
theorem dX11_by_28 : decode cX11_by 28 = .ok (.ireturn, 1) := by decide +kernel
theorem r_X11_by (E : kr_E) (p1 : Int32) (p2 : Int32) (p3 : Int32) (p4 : Int32) (M : kr_M) : kR kr_vi E Y_X11_by 7 0 [(0, kr_r E 0), (1, .int p1), (2, .int p2), (3, .int p3), (4, .int p4)] [] M (f_X11_by p1 p2 p3 p4 M) := by
  rw [f_X11_by]
  refine kr_aload_n dX11_by_0 rfl 0 rfl ?_
  refine kr_iload_n dX11_by_1 rfl 1 rfl ?_
  refine kr_iload_n dX11_by_2 rfl 2 rfl ?_
  refine kr_iload_n dX11_by_3 rfl 3 rfl ?_
  refine kr_Vi (As := [.int p1, .int p2, .int p3]) (st := []) zv_X11_opensWays dX11_by_4 ml_RX11_320 kr_at_0 (r_X11_opensWays E p1 p2 p3 M) rfl rfl (Nat.le_of_ble_eq_true rfl) rfl (by decide) (Nat.le_of_ble_eq_true rfl) (fun r2 M1 => ?_)
  refine kr_if_ne (tgt := 13) dX11_by_7 (by decide) ?_ ?_
  · refine kr_aload_n dX11_by_13 rfl 0 rfl ?_
    refine kr_getA (o := 338) (ci := 11) (j := 14) dX11_by_14 kr_at_0 fl_RX11_100 rfl ?_
    refine kr_aload_n dX11_by_17 rfl 0 rfl ?_
    refine kr_getG (o := 0) (ci := 11) (j := 1) dX11_by_18 kr_at_0 fl_RX11_19 rfl (fun g3 h_g3 => ?_)
    refine kr_iload_n dX11_by_21 rfl 2 rfl ?_
    refine kr_iload_n dX11_by_22 rfl 3 rfl ?_
    refine kr_iload dX11_by_23 4 rfl ?_
    refine kr_Vi (As := [kr_r E g3, .int p2, .int p3, .int p4]) (st := []) zv_X9_ropeOfFirst dX11_by_25 ml_RX11_328 kr_at_338 (r_X9_ropeOfFirst E g3 h_g3 p2 p3 p4 M1) rfl rfl (Nat.le_of_ble_eq_true rfl) rfl (by decide) (Nat.le_of_ble_eq_true rfl) (fun r5 M4 => ?_)
    exact kr_iret dX11_by_28 rfl
  · refine kr_bipush (v := -2) dX11_by_10 (by decide) ?_
    exact kr_iret dX11_by_12 rfl
theorem dX11_learnsOn_0 : decode cX11_learnsOn 0 = .ok (.aload_n 0, 1) := by decide +kernel
theorem dX11_learnsOn_1 : decode cX11_learnsOn 1 = .ok (.getfield 100, 3) := by decide +kernel
theorem dX11_learnsOn_4 : decode cX11_learnsOn 4 = .ok (.aload_n 0, 1) := by decide +kernel
theorem dX11_learnsOn_5 : decode cX11_learnsOn 5 = .ok (.getfield 19, 3) := by decide +kernel
theorem dX11_learnsOn_8 : decode cX11_learnsOn 8 = .ok (.iload_n 1, 1) := by decide +kernel
theorem dX11_learnsOn_9 : decode cX11_learnsOn 9 = .ok (.iload_n 2, 1) := by decide +kernel
theorem dX11_learnsOn_10 : decode cX11_learnsOn 10 = .ok (.iload_n 3, 1) := by decide +kernel
theorem dX11_learnsOn_11 : decode cX11_learnsOn 11 = .ok (.iload 4, 2) := by decide +kernel
theorem dX11_learnsOn_13 : decode cX11_learnsOn 13 = .ok (.invokevirtual 341, 3) := by decide +kernel
theorem dX11_learnsOn_16 : decode cX11_learnsOn 16 = .ok (.istore 6, 2) := by decide +kernel
theorem dX11_learnsOn_18 : decode cX11_learnsOn 18 = .ok (.iload 6, 2) := by decide +kernel
theorem dX11_learnsOn_20 : decode cX11_learnsOn 20 = .ok (.iconst (-1), 1) := by decide +kernel
theorem dX11_learnsOn_21 : decode cX11_learnsOn 21 = .ok (.if_icmp .eq 24, 3) := by decide +kernel
theorem dX11_learnsOn_24 : decode cX11_learnsOn 24 = .ok (.aload_n 0, 1) := by decide +kernel
theorem dX11_learnsOn_25 : decode cX11_learnsOn 25 = .ok (.iload_n 1, 1) := by decide +kernel
theorem dX11_learnsOn_26 : decode cX11_learnsOn 26 = .ok (.iload_n 2, 1) := by decide +kernel
theorem dX11_learnsOn_27 : decode cX11_learnsOn 27 = .ok (.invokevirtual 197, 3) := by decide +kernel
theorem dX11_learnsOn_30 : decode cX11_learnsOn 30 = .ok (.ifCond .eq 15, 3) := by decide +kernel
theorem dX11_learnsOn_33 : decode cX11_learnsOn 33 = .ok (.aload_n 0, 1) := by decide +kernel
theorem dX11_learnsOn_34 : decode cX11_learnsOn 34 = .ok (.getfield 65, 3) := by decide +kernel
theorem dX11_learnsOn_37 : decode cX11_learnsOn 37 = .ok (.iload 5, 2) := by decide +kernel
theorem dX11_learnsOn_39 : decode cX11_learnsOn 39 = .ok (.invokevirtual 219, 3) := by decide +kernel
theorem dX11_learnsOn_42 : decode cX11_learnsOn 42 = .ok (.ifCond .ne 5, 3) := by decide +kernel
theorem dX11_learnsOn_45 : decode cX11_learnsOn 45 = .ok (.iconst (-1), 1) := by decide +kernel
theorem dX11_learnsOn_46 : decode cX11_learnsOn 46 = .ok (.ireturn, 1) := by decide +kernel
theorem dX11_learnsOn_47 : decode cX11_learnsOn 47 = .ok (.iload 6, 2) := by decide +kernel
theorem dX11_learnsOn_49 : decode cX11_learnsOn 49 = .ok (.ireturn, 1) := by decide +kernel
theorem r_X11_learnsOn (E : kr_E) (p1 : Int32) (p2 : Int32) (p3 : Int32) (p4 : Int32) (p5 : Int32) (M : kr_M) : kR kr_vi E Y_X11_learnsOn 6 0 [(0, kr_r E 0), (1, .int p1), (2, .int p2), (3, .int p3), (4, .int p4), (5, .int p5)] [] M (f_X11_learnsOn p1 p2 p3 p4 p5 M) := by
  rw [f_X11_learnsOn]
  refine kr_aload_n dX11_learnsOn_0 rfl 0 rfl ?_
  refine kr_getA (o := 338) (ci := 11) (j := 14) dX11_learnsOn_1 kr_at_0 fl_RX11_100 rfl ?_
  refine kr_aload_n dX11_learnsOn_4 rfl 0 rfl ?_
  refine kr_getG (o := 0) (ci := 11) (j := 1) dX11_learnsOn_5 kr_at_0 fl_RX11_19 rfl (fun g1 h_g1 => ?_)
  refine kr_iload_n dX11_learnsOn_8 rfl 1 rfl ?_
  refine kr_iload_n dX11_learnsOn_9 rfl 2 rfl ?_
  refine kr_iload_n dX11_learnsOn_10 rfl 3 rfl ?_
  refine kr_iload dX11_learnsOn_11 4 rfl ?_
  refine kr_Vi (As := [kr_r E g1, .int p1, .int p2, .int p3, .int p4]) (st := []) zv_X9_timeOver dX11_learnsOn_13 ml_RX11_341 kr_at_338 (r_X9_timeOver E g1 h_g1 p1 p2 p3 p4 M) rfl rfl (Nat.le_of_ble_eq_true rfl) rfl (by decide) (Nat.le_of_ble_eq_true rfl) (fun r3 M2 => ?_)
  refine kr_istore (lv' := [(6, .int r3), (0, kr_r E 0), (1, .int p1), (2, .int p2), (3, .int p3), (4, .int p4), (5, .int p5)]) dX11_learnsOn_16 (by decide) rfl ?_
  refine kr_iload dX11_learnsOn_18 0 rfl ?_
  refine kr_iconst (v := -1) dX11_learnsOn_20 (by decide) ?_
  refine kr_icmp_eq (tgt := 45) dX11_learnsOn_21 (by decide) ?_ ?_
  · refine kr_iconst (v := -1) dX11_learnsOn_45 (by decide) ?_
    exact kr_iret dX11_learnsOn_46 rfl
  · refine kr_aload_n dX11_learnsOn_24 rfl 1 rfl ?_
    refine kr_iload_n dX11_learnsOn_25 rfl 2 rfl ?_
    refine kr_iload_n dX11_learnsOn_26 rfl 3 rfl ?_
    refine kr_Vi (As := [.int p1, .int p2]) (st := []) zv_X11_opens dX11_learnsOn_27 ml_RX11_197 kr_at_0 (r_X11_opens E p1 p2 M2) rfl rfl (Nat.le_of_ble_eq_true rfl) rfl (by decide) (Nat.le_of_ble_eq_true rfl) (fun r5 M4 => ?_)
    refine kr_if_eq (tgt := 45) dX11_learnsOn_30 (by decide) ?_ ?_
    · refine kr_iconst (v := -1) dX11_learnsOn_45 (by decide) ?_
      exact kr_iret dX11_learnsOn_46 rfl
    · refine kr_aload_n dX11_learnsOn_33 rfl 1 rfl ?_
      refine kr_getA (o := 315) (ci := 11) (j := 9) dX11_learnsOn_34 kr_at_0 fl_RX11_65 rfl ?_
      refine kr_iload dX11_learnsOn_37 6 rfl ?_
      refine kr_Vi (As := [.int p5]) (st := []) zv_X4_canMean dX11_learnsOn_39 ml_RX11_219 kr_at_315 (r_X4_canMean E p5 M4) rfl rfl (Nat.le_of_ble_eq_true rfl) rfl (by decide) (Nat.le_of_ble_eq_true rfl) (fun r7 M6 => ?_)
      refine kr_if_ne (tgt := 47) dX11_learnsOn_42 (by decide) ?_ ?_
      · refine kr_iload dX11_learnsOn_47 0 rfl ?_
        exact kr_iret dX11_learnsOn_49 rfl
      · refine kr_iconst (v := -1) dX11_learnsOn_45 (by decide) ?_
        exact kr_iret dX11_learnsOn_46 rfl
theorem dX11_learns_0 : decode cX11_learns 0 = .ok (.iload 4, 2) := by decide +kernel
theorem dX11_learns_2 : decode cX11_learns 2 = .ok (.invokestatic 216, 3) := by decide +kernel
theorem dX11_learns_5 : decode cX11_learns 5 = .ok (.ifCond .eq 13, 3) := by decide +kernel
theorem dX11_learns_8 : decode cX11_learns 8 = .ok (.aload_n 0, 1) := by decide +kernel
theorem dX11_learns_9 : decode cX11_learns 9 = .ok (.iload_n 1, 1) := by decide +kernel
theorem dX11_learns_10 : decode cX11_learns 10 = .ok (.iload_n 2, 1) := by decide +kernel
theorem dX11_learns_11 : decode cX11_learns 11 = .ok (.iload_n 3, 1) := by decide +kernel
theorem dX11_learns_12 : decode cX11_learns 12 = .ok (.invokevirtual 320, 3) := by decide +kernel
theorem dX11_learns_15 : decode cX11_learns 15 = .ok (.ifCond .ne 6, 3) := by decide +kernel
theorem dX11_learns_18 : decode cX11_learns 18 = .ok (.bipush (-2), 2) := by decide +kernel
theorem dX11_learns_20 : decode cX11_learns 20 = .ok (.ireturn, 1) := by decide +kernel
theorem dX11_learns_21 : decode cX11_learns 21 = .ok (.iconst (-1), 1) := by decide +kernel
theorem dX11_learns_22 : decode cX11_learns 22 = .ok (.istore 5, 2) := by decide +kernel
theorem dX11_learns_24 : decode cX11_learns 24 = .ok (.iconst 0, 1) := by decide +kernel
theorem dX11_learns_25 : decode cX11_learns 25 = .ok (.istore 6, 2) := by decide +kernel
theorem dX11_learns_27 : decode cX11_learns 27 = .ok (.iload 6, 2) := by decide +kernel
theorem dX11_learns_29 : decode cX11_learns 29 = .ok (.aload_n 0, 1) := by decide +kernel
theorem dX11_learns_30 : decode cX11_learns 30 = .ok (.getfield 19, 3) := by decide +kernel
theorem dX11_learns_33 : decode cX11_learns 33 = .ok (.getfield 331, 3) := by decide +kernel
theorem dX11_learns_36 : decode cX11_learns 36 = .ok (.if_icmp .ge 45, 3) := by decide +kernel
theorem dX11_learns_39 : decode cX11_learns 39 = .ok (.iload 5, 2) := by decide +kernel
theorem dX11_learns_41 : decode cX11_learns 41 = .ok (.aload_n 0, 1) := by decide +kernel
theorem dX11_learns_42 : decode cX11_learns 42 = .ok (.iload 6, 2) := by decide +kernel
theorem dX11_learns_44 : decode cX11_learns 44 = .ok (.iconst 0, 1) := by decide +kernel
theorem dX11_learns_45 : decode cX11_learns 45 = .ok (.iload_n 2, 1) := by decide +kernel
theorem dX11_learns_46 : decode cX11_learns 46 = .ok (.iload_n 3, 1) := by decide +kernel
theorem dX11_learns_47 : decode cX11_learns 47 = .ok (.iload 4, 2) := by decide +kernel
theorem dX11_learns_49 : decode cX11_learns 49 = .ok (.invokevirtual 334, 3) := by decide +kernel
theorem dX11_learns_52 : decode cX11_learns 52 = .ok (.invokestatic 338, 3) := by decide +kernel
theorem dX11_learns_55 : decode cX11_learns 55 = .ok (.istore 5, 2) := by decide +kernel
theorem dX11_learns_57 : decode cX11_learns 57 = .ok (.iload 5, 2) := by decide +kernel
theorem dX11_learns_59 : decode cX11_learns 59 = .ok (.aload_n 0, 1) := by decide +kernel
theorem dX11_learns_60 : decode cX11_learns 60 = .ok (.iload 6, 2) := by decide +kernel
theorem dX11_learns_62 : decode cX11_learns 62 = .ok (.iconst 1, 1) := by decide +kernel
theorem dX11_learns_63 : decode cX11_learns 63 = .ok (.iload_n 2, 1) := by decide +kernel
theorem dX11_learns_64 : decode cX11_learns 64 = .ok (.iload_n 3, 1) := by decide +kernel
theorem dX11_learns_65 : decode cX11_learns 65 = .ok (.iload 4, 2) := by decide +kernel
theorem dX11_learns_67 : decode cX11_learns 67 = .ok (.invokevirtual 334, 3) := by decide +kernel
theorem dX11_learns_70 : decode cX11_learns 70 = .ok (.invokestatic 338, 3) := by decide +kernel
theorem dX11_learns_73 : decode cX11_learns 73 = .ok (.istore 5, 2) := by decide +kernel
theorem dX11_learns_75 : decode cX11_learns 75 = .ok (.iinc 6 1, 3) := by decide +kernel
theorem dX11_learns_78 : decode cX11_learns 78 = .ok (.goto (-51), 3) := by decide +kernel
theorem dX11_learns_81 : decode cX11_learns 81 = .ok (.iload 5, 2) := by decide +kernel
theorem dX11_learns_83 : decode cX11_learns 83 = .ok (.ireturn, 1) := by decide +kernel
theorem r_X11_learns_27 (E : kr_E)  (l2 : Int32) (l3 : Int32) (l4 : Int32)  : ∀ (n : Nat) (l5 : Int32) (l6 : Int32) (M : kr_M), kR kr_vi E Y_X11_learns 7 27 [(0, kr_r E 0), (2, .int l2), (3, .int l3), (4, .int l4), (5, .int l5), (6, .int l6)] [] M (f_X11_learns_27 l2 l3 l4 n l5 l6 M) := by
  intro n
  induction n with
  | zero => intro l5 l6 M; exact kr_none
  | succ n ih =>
    intro l5 l6 M
    rw [f_X11_learns_27]
    refine kr_iload dX11_learns_27 5 rfl ?_
    refine kr_aload_n dX11_learns_29 rfl 0 rfl ?_
    refine kr_getG (o := 0) (ci := 11) (j := 1) dX11_learns_30 kr_at_0 fl_RX11_19 rfl (fun g1 h_g1 => ?_)
    refine kr_getI (ci := 2) (j := 6) dX11_learns_33 h_g1 fl_RX11_331 rfl (fun v2 => ?_)
    refine kr_icmp_ge (tgt := 81) dX11_learns_36 (by decide) ?_ ?_
    · refine kr_iload dX11_learns_81 4 rfl ?_
      exact kr_iret dX11_learns_83 rfl
    · refine kr_iload dX11_learns_39 4 rfl ?_
      refine kr_aload_n dX11_learns_41 rfl 0 rfl ?_
      refine kr_iload dX11_learns_42 5 rfl ?_
      refine kr_iconst (v := 0) dX11_learns_44 (by decide) ?_
      refine kr_iload_n dX11_learns_45 rfl 1 rfl ?_
      refine kr_iload_n dX11_learns_46 rfl 2 rfl ?_
      refine kr_iload dX11_learns_47 3 rfl ?_
      refine kr_Vi (As := [.int l6, .int (0 : Int32), .int l2, .int l3, .int l4]) (st := [.int l5]) zv_X11_learnsOn dX11_learns_49 ml_RX11_334 kr_at_0 (r_X11_learnsOn E l6 (0 : Int32) l2 l3 l4 M) rfl rfl (Nat.le_of_ble_eq_true rfl) rfl (by decide) (Nat.le_of_ble_eq_true rfl) (fun r4 M3 => ?_)
      refine kr_Si (As := [.int l5, .int r4]) (st := []) zs_X11_lesser dX11_learns_52 ml_RX11_338 (r_X11_lesser E l5 r4 M3) rfl rfl (Nat.le_of_ble_eq_true rfl) rfl (by decide) (Nat.le_of_ble_eq_true rfl) (fun r6 M5 => ?_)
      refine kr_istore (lv' := [(5, .int r6), (0, kr_r E 0), (2, .int l2), (3, .int l3), (4, .int l4), (6, .int l6)]) dX11_learns_55 (by decide) rfl ?_
      refine kr_iload dX11_learns_57 0 rfl ?_
      refine kr_aload_n dX11_learns_59 rfl 1 rfl ?_
      refine kr_iload dX11_learns_60 5 rfl ?_
      refine kr_iconst (v := 1) dX11_learns_62 (by decide) ?_
      refine kr_iload_n dX11_learns_63 rfl 2 rfl ?_
      refine kr_iload_n dX11_learns_64 rfl 3 rfl ?_
      refine kr_iload dX11_learns_65 4 rfl ?_
      refine kr_Vi (As := [.int l6, .int (1 : Int32), .int l2, .int l3, .int l4]) (st := [.int r6]) zv_X11_learnsOn dX11_learns_67 ml_RX11_334 kr_at_0 (r_X11_learnsOn E l6 (1 : Int32) l2 l3 l4 M5) rfl rfl (Nat.le_of_ble_eq_true rfl) rfl (by decide) (Nat.le_of_ble_eq_true rfl) (fun r8 M7 => ?_)
      refine kr_Si (As := [.int r6, .int r8]) (st := []) zs_X11_lesser dX11_learns_70 ml_RX11_338 (r_X11_lesser E r6 r8 M7) rfl rfl (Nat.le_of_ble_eq_true rfl) rfl (by decide) (Nat.le_of_ble_eq_true rfl) (fun r10 M9 => ?_)
      refine kr_istore (lv' := [(5, .int r10), (0, kr_r E 0), (2, .int l2), (3, .int l3), (4, .int l4), (6, .int l6)]) dX11_learns_73 (by decide) rfl ?_
      refine kr_iinc (j := 5) (v := (l6 + (1 : Int32))) (lv' := [(6, .int (l6 + (1 : Int32))), (5, .int r10), (0, kr_r E 0), (2, .int l2), (3, .int l3), (4, .int l4)]) dX11_learns_75 rfl rfl (by decide) rfl ?_
      refine kr_goto (tgt := 27) dX11_learns_78 (by decide) ?_
      refine kr_sub [2, 3, 4, 5, 1, 0] rfl ?_
      exact ih r10 (l6 + (1 : Int32)) M9
theorem r_X11_learns (E : kr_E) (p1 : Int32) (p2 : Int32) (p3 : Int32) (p4 : Int32) (M : kr_M) : kR kr_vi E Y_X11_learns 7 0 [(0, kr_r E 0), (1, .int p1), (2, .int p2), (3, .int p3), (4, .int p4)] [] M (f_X11_learns p1 p2 p3 p4 M) := by
  rw [f_X11_learns]
  refine kr_iload dX11_learns_0 4 rfl ?_
  refine kr_Si (As := [.int p4]) (st := []) zs_X11_isSum dX11_learns_2 ml_RX11_216 (r_X11_isSum E p4 M) rfl rfl (Nat.le_of_ble_eq_true rfl) rfl (by decide) (Nat.le_of_ble_eq_true rfl) (fun r2 M1 => ?_)
  refine kr_if_eq (tgt := 18) dX11_learns_5 (by decide) ?_ ?_
  · refine kr_bipush (v := -2) dX11_learns_18 (by decide) ?_
    exact kr_iret dX11_learns_20 rfl
  · refine kr_aload_n dX11_learns_8 rfl 0 rfl ?_
    refine kr_iload_n dX11_learns_9 rfl 1 rfl ?_
    refine kr_iload_n dX11_learns_10 rfl 2 rfl ?_
    refine kr_iload_n dX11_learns_11 rfl 3 rfl ?_
    refine kr_Vi (As := [.int p1, .int p2, .int p3]) (st := []) zv_X11_opensWays dX11_learns_12 ml_RX11_320 kr_at_0 (r_X11_opensWays E p1 p2 p3 M1) rfl rfl (Nat.le_of_ble_eq_true rfl) rfl (by decide) (Nat.le_of_ble_eq_true rfl) (fun r4 M3 => ?_)
    refine kr_if_ne (tgt := 21) dX11_learns_15 (by decide) ?_ ?_
    · refine kr_iconst (v := -1) dX11_learns_21 (by decide) ?_
      refine kr_istore (lv' := [(5, .int (-1 : Int32)), (0, kr_r E 0), (1, .int p1), (2, .int p2), (3, .int p3), (4, .int p4)]) dX11_learns_22 (by decide) rfl ?_
      refine kr_iconst (v := 0) dX11_learns_24 (by decide) ?_
      refine kr_istore (lv' := [(6, .int (0 : Int32)), (5, .int (-1 : Int32)), (0, kr_r E 0), (1, .int p1), (2, .int p2), (3, .int p3), (4, .int p4)]) dX11_learns_25 (by decide) rfl ?_
      refine kr_sub [2, 4, 5, 6, 1, 0] rfl ?_
      exact r_X11_learns_27 E p2 p3 p4 _ (-1 : Int32) (0 : Int32) M3
    · refine kr_bipush (v := -2) dX11_learns_18 (by decide) ?_
      exact kr_iret dX11_learns_20 rfl
theorem dX11_keys_0 : decode cX11_keys 0 = .ok (.aload_n 0, 1) := by decide +kernel
theorem dX11_keys_1 : decode cX11_keys 1 = .ok (.iload_n 1, 1) := by decide +kernel
theorem dX11_keys_2 : decode cX11_keys 2 = .ok (.iload_n 2, 1) := by decide +kernel
theorem dX11_keys_3 : decode cX11_keys 3 = .ok (.iload_n 3, 1) := by decide +kernel
theorem dX11_keys_4 : decode cX11_keys 4 = .ok (.invokevirtual 320, 3) := by decide +kernel
theorem dX11_keys_7 : decode cX11_keys 7 = .ok (.ifCond .ne 6, 3) := by decide +kernel
theorem dX11_keys_10 : decode cX11_keys 10 = .ok (.bipush (-2), 2) := by decide +kernel
theorem dX11_keys_12 : decode cX11_keys 12 = .ok (.ireturn, 1) := by decide +kernel
theorem dX11_keys_13 : decode cX11_keys 13 = .ok (.aload_n 0, 1) := by decide +kernel
theorem dX11_keys_14 : decode cX11_keys 14 = .ok (.getfield 100, 3) := by decide +kernel
theorem dX11_keys_17 : decode cX11_keys 17 = .ok (.aload_n 0, 1) := by decide +kernel
theorem dX11_keys_18 : decode cX11_keys 18 = .ok (.getfield 19, 3) := by decide +kernel
theorem dX11_keys_21 : decode cX11_keys 21 = .ok (.iload_n 1, 1) := by decide +kernel
theorem dX11_keys_22 : decode cX11_keys 22 = .ok (.iload_n 2, 1) := by decide +kernel
theorem dX11_keys_23 : decode cX11_keys 23 = .ok (.iload_n 3, 1) := by decide +kernel
theorem dX11_keys_24 : decode cX11_keys 24 = .ok (.invokevirtual 345, 3) := by decide +kernel
theorem dX11_keys_27 : decode cX11_keys 27 = .ok (.ireturn, 1) := by decide +kernel
theorem r_X11_keys (E : kr_E) (p1 : Int32) (p2 : Int32) (p3 : Int32) (M : kr_M) : kR kr_vi E Y_X11_keys 7 0 [(0, kr_r E 0), (1, .int p1), (2, .int p2), (3, .int p3)] [] M (f_X11_keys p1 p2 p3 M) := by
  rw [f_X11_keys]
  refine kr_aload_n dX11_keys_0 rfl 0 rfl ?_
  refine kr_iload_n dX11_keys_1 rfl 1 rfl ?_
  refine kr_iload_n dX11_keys_2 rfl 2 rfl ?_
  refine kr_iload_n dX11_keys_3 rfl 3 rfl ?_
  refine kr_Vi (As := [.int p1, .int p2, .int p3]) (st := []) zv_X11_opensWays dX11_keys_4 ml_RX11_320 kr_at_0 (r_X11_opensWays E p1 p2 p3 M) rfl rfl (Nat.le_of_ble_eq_true rfl) rfl (by decide) (Nat.le_of_ble_eq_true rfl) (fun r2 M1 => ?_)
  refine kr_if_ne (tgt := 13) dX11_keys_7 (by decide) ?_ ?_
  · refine kr_aload_n dX11_keys_13 rfl 0 rfl ?_
    refine kr_getA (o := 338) (ci := 11) (j := 14) dX11_keys_14 kr_at_0 fl_RX11_100 rfl ?_
    refine kr_aload_n dX11_keys_17 rfl 0 rfl ?_
    refine kr_getG (o := 0) (ci := 11) (j := 1) dX11_keys_18 kr_at_0 fl_RX11_19 rfl (fun g3 h_g3 => ?_)
    refine kr_iload_n dX11_keys_21 rfl 1 rfl ?_
    refine kr_iload_n dX11_keys_22 rfl 2 rfl ?_
    refine kr_iload_n dX11_keys_23 rfl 3 rfl ?_
    refine kr_Vi (As := [kr_r E g3, .int p1, .int p2, .int p3]) (st := []) zv_X9_ropesOnAll dX11_keys_24 ml_RX11_345 kr_at_338 (r_X9_ropesOnAll E g3 h_g3 p1 p2 p3 M1) rfl rfl (Nat.le_of_ble_eq_true rfl) rfl (by decide) (Nat.le_of_ble_eq_true rfl) (fun r5 M4 => ?_)
    exact kr_iret dX11_keys_27 rfl
  · refine kr_bipush (v := -2) dX11_keys_10 (by decide) ?_
    exact kr_iret dX11_keys_12 rfl
theorem dX11_opensFerry_0 : decode cX11_opensFerry 0 = .ok (.aload_n 0, 1) := by decide +kernel
theorem dX11_opensFerry_1 : decode cX11_opensFerry 1 = .ok (.getfield 19, 3) := by decide +kernel
theorem dX11_opensFerry_4 : decode cX11_opensFerry 4 = .ok (.iload_n 1, 1) := by decide +kernel
theorem dX11_opensFerry_5 : decode cX11_opensFerry 5 = .ok (.invokevirtual 154, 3) := by decide +kernel
theorem dX11_opensFerry_8 : decode cX11_opensFerry 8 = .ok (.ifCond .ne 5, 3) := by decide +kernel
theorem dX11_opensFerry_11 : decode cX11_opensFerry 11 = .ok (.iconst 0, 1) := by decide +kernel
theorem dX11_opensFerry_12 : decode cX11_opensFerry 12 = .ok (.ireturn, 1) := by decide +kernel
theorem dX11_opensFerry_13 : decode cX11_opensFerry 13 = .ok (.aload_n 0, 1) := by decide +kernel
theorem dX11_opensFerry_14 : decode cX11_opensFerry 14 = .ok (.getfield 107, 3) := by decide +kernel
theorem dX11_opensFerry_17 : decode cX11_opensFerry 17 = .ok (.aload_n 0, 1) := by decide +kernel
theorem dX11_opensFerry_18 : decode cX11_opensFerry 18 = .ok (.getfield 19, 3) := by decide +kernel
theorem dX11_opensFerry_21 : decode cX11_opensFerry 21 = .ok (.aload_n 0, 1) := by decide +kernel
theorem dX11_opensFerry_22 : decode cX11_opensFerry 22 = .ok (.getfield 19, 3) := by decide +kernel
theorem dX11_opensFerry_25 : decode cX11_opensFerry 25 = .ok (.iload_n 1, 1) := by decide +kernel
theorem dX11_opensFerry_26 : decode cX11_opensFerry 26 = .ok (.invokevirtual 179, 3) := by decide +kernel
theorem dX11_opensFerry_29 : decode cX11_opensFerry 29 = .ok (.invokevirtual 364, 3) := by decide +kernel
theorem dX11_opensFerry_32 : decode cX11_opensFerry 32 = .ok (.iconst 1, 1) := by decide +kernel
theorem dX11_opensFerry_33 : decode cX11_opensFerry 33 = .ok (.ireturn, 1) := by decide +kernel
theorem r_X11_opensFerry (E : kr_E) (p1 : Int32) (M : kr_M) : kR kr_vi E Y_X11_opensFerry 5 0 [(0, kr_r E 0), (1, .int p1)] [] M (f_X11_opensFerry p1 M) := by
  rw [f_X11_opensFerry]
  refine kr_aload_n dX11_opensFerry_0 rfl 0 rfl ?_
  refine kr_getG (o := 0) (ci := 11) (j := 1) dX11_opensFerry_1 kr_at_0 fl_RX11_19 rfl (fun g1 h_g1 => ?_)
  refine kr_iload_n dX11_opensFerry_4 rfl 1 rfl ?_
  refine kr_Vi (As := [.int p1]) (st := []) zv_X2_hasRope dX11_opensFerry_5 ml_RX11_154 h_g1 (r_X2_hasRope E g1 h_g1 p1 M) rfl rfl (Nat.le_of_ble_eq_true rfl) rfl (by decide) (Nat.le_of_ble_eq_true rfl) (fun r3 M2 => ?_)
  refine kr_if_ne (tgt := 13) dX11_opensFerry_8 (by decide) ?_ ?_
  · refine kr_aload_n dX11_opensFerry_13 rfl 0 rfl ?_
    refine kr_getA (o := 341) (ci := 11) (j := 15) dX11_opensFerry_14 kr_at_0 fl_RX11_107 rfl ?_
    refine kr_aload_n dX11_opensFerry_17 rfl 0 rfl ?_
    refine kr_getG (o := 0) (ci := 11) (j := 1) dX11_opensFerry_18 kr_at_0 fl_RX11_19 rfl (fun g4 h_g4 => ?_)
    refine kr_aload_n dX11_opensFerry_21 rfl 0 rfl ?_
    refine kr_getG (o := 0) (ci := 11) (j := 1) dX11_opensFerry_22 kr_at_0 fl_RX11_19 rfl (fun g5 h_g5 => ?_)
    refine kr_iload_n dX11_opensFerry_25 rfl 1 rfl ?_
    refine kr_Vi (As := [.int p1]) (st := [kr_r E g4, kr_r E 341]) zv_X2_strengthOf dX11_opensFerry_26 ml_RX11_179 h_g5 (r_X2_strengthOf E g5 h_g5 p1 M2) rfl rfl (Nat.le_of_ble_eq_true rfl) rfl (by decide) (Nat.le_of_ble_eq_true rfl) (fun r7 M6 => ?_)
    refine kr_Vv (As := [kr_r E g4, .int r7]) (st := []) zv_X1_study dX11_opensFerry_29 ml_RX11_364 kr_at_341 (r_X1_study E g4 h_g4 r7 M6) rfl rfl (Nat.le_of_ble_eq_true rfl) rfl (by decide) (Nat.le_of_ble_eq_true rfl) (fun M8 => ?_)
    refine kr_iconst (v := 1) dX11_opensFerry_32 (by decide) ?_
    exact kr_zret1 dX11_opensFerry_33 rfl rfl
  · refine kr_iconst (v := 0) dX11_opensFerry_11 (by decide) ?_
    exact kr_zret1 dX11_opensFerry_12 rfl rfl
theorem dX11_ferry_0 : decode cX11_ferry 0 = .ok (.aload_n 0, 1) := by decide +kernel
theorem dX11_ferry_1 : decode cX11_ferry 1 = .ok (.iload_n 1, 1) := by decide +kernel
theorem dX11_ferry_2 : decode cX11_ferry 2 = .ok (.invokevirtual 352, 3) := by decide +kernel
theorem dX11_ferry_5 : decode cX11_ferry 5 = .ok (.ifCond .ne 6, 3) := by decide +kernel
theorem dX11_ferry_8 : decode cX11_ferry 8 = .ok (.bipush (-2), 2) := by decide +kernel
theorem dX11_ferry_10 : decode cX11_ferry 10 = .ok (.ireturn, 1) := by decide +kernel
theorem dX11_ferry_11 : decode cX11_ferry 11 = .ok (.aload_n 0, 1) := by decide +kernel
theorem dX11_ferry_12 : decode cX11_ferry 12 = .ok (.getfield 107, 3) := by decide +kernel
theorem dX11_ferry_15 : decode cX11_ferry 15 = .ok (.invokevirtual 355, 3) := by decide +kernel
theorem dX11_ferry_18 : decode cX11_ferry 18 = .ok (.istore_n 2, 1) := by decide +kernel
theorem dX11_ferry_19 : decode cX11_ferry 19 = .ok (.iload_n 2, 1) := by decide +kernel
theorem dX11_ferry_20 : decode cX11_ferry 20 = .ok (.iconst (-1), 1) := by decide +kernel
theorem dX11_ferry_21 : decode cX11_ferry 21 = .ok (.if_icmp .ne 7, 3) := by decide +kernel
theorem dX11_ferry_24 : decode cX11_ferry 24 = .ok (.iconst (-1), 1) := by decide +kernel
theorem dX11_ferry_25 : decode cX11_ferry 25 = .ok (.goto 13, 3) := by decide +kernel
theorem dX11_ferry_28 : decode cX11_ferry 28 = .ok (.iload_n 2, 1) := by decide +kernel
theorem dX11_ferry_29 : decode cX11_ferry 29 = .ok (.aload_n 0, 1) := by decide +kernel
theorem dX11_ferry_30 : decode cX11_ferry 30 = .ok (.getfield 19, 3) := by decide +kernel
theorem dX11_ferry_33 : decode cX11_ferry 33 = .ok (.iload_n 1, 1) := by decide +kernel
theorem dX11_ferry_34 : decode cX11_ferry 34 = .ok (.invokevirtual 176, 3) := by decide +kernel
theorem dX11_ferry_37 : decode cX11_ferry 37 = .ok (.imul, 1) := by decide +kernel
theorem dX11_ferry_38 : decode cX11_ferry 38 = .ok (.ireturn, 1) := by decide +kernel
theorem r_X11_ferry (E : kr_E) (p1 : Int32) (M : kr_M) : kR kr_vi E Y_X11_ferry 6 0 [(0, kr_r E 0), (1, .int p1)] [] M (f_X11_ferry p1 M) := by
  rw [f_X11_ferry]
  refine kr_aload_n dX11_ferry_0 rfl 0 rfl ?_
  refine kr_iload_n dX11_ferry_1 rfl 1 rfl ?_
  refine kr_Vi (As := [.int p1]) (st := []) zv_X11_opensFerry dX11_ferry_2 ml_RX11_352 kr_at_0 (r_X11_opensFerry E p1 M) rfl rfl (Nat.le_of_ble_eq_true rfl) rfl (by decide) (Nat.le_of_ble_eq_true rfl) (fun r2 M1 => ?_)
  refine kr_if_ne (tgt := 11) dX11_ferry_5 (by decide) ?_ ?_
  · refine kr_aload_n dX11_ferry_11 rfl 0 rfl ?_
    refine kr_getA (o := 341) (ci := 11) (j := 15) dX11_ferry_12 kr_at_0 fl_RX11_107 rfl ?_
    refine kr_Vi (As := []) (st := []) zv_X1_leastPaces dX11_ferry_15 ml_RX11_355 kr_at_341 (r_X1_leastPaces E  M1) rfl rfl (Nat.le_of_ble_eq_true rfl) rfl (by decide) (Nat.le_of_ble_eq_true rfl) (fun r4 M3 => ?_)
    refine kr_istore_n (lv' := [(2, .int r4), (0, kr_r E 0), (1, .int p1)]) dX11_ferry_18 rfl (by decide) rfl ?_
    refine kr_iload_n dX11_ferry_19 rfl 0 rfl ?_
    refine kr_iconst (v := -1) dX11_ferry_20 (by decide) ?_
    refine kr_icmp_ne (tgt := 28) dX11_ferry_21 (by decide) ?_ ?_
    · refine kr_iload_n dX11_ferry_28 rfl 0 rfl ?_
      refine kr_aload_n dX11_ferry_29 rfl 1 rfl ?_
      refine kr_getG (o := 0) (ci := 11) (j := 1) dX11_ferry_30 kr_at_0 fl_RX11_19 rfl (fun g5 h_g5 => ?_)
      refine kr_iload_n dX11_ferry_33 rfl 2 rfl ?_
      refine kr_Vi (As := [.int p1]) (st := [.int r4]) zv_X2_inchesOf dX11_ferry_34 ml_RX11_176 h_g5 (r_X2_inchesOf E g5 h_g5 p1 M3) rfl rfl (Nat.le_of_ble_eq_true rfl) rfl (by decide) (Nat.le_of_ble_eq_true rfl) (fun r7 M6 => ?_)
      refine kr_imul dX11_ferry_37 ?_
      exact kr_iret dX11_ferry_38 rfl
    · refine kr_iconst (v := -1) dX11_ferry_24 (by decide) ?_
      refine kr_goto (tgt := 38) dX11_ferry_25 (by decide) ?_
      exact kr_iret dX11_ferry_38 rfl
  · refine kr_bipush (v := -2) dX11_ferry_8 (by decide) ?_
    exact kr_iret dX11_ferry_10 rfl
theorem dX11_groups_0 : decode cX11_groups 0 = .ok (.aload_n 0, 1) := by decide +kernel
theorem dX11_groups_1 : decode cX11_groups 1 = .ok (.iload_n 1, 1) := by decide +kernel
theorem dX11_groups_2 : decode cX11_groups 2 = .ok (.invokevirtual 352, 3) := by decide +kernel
theorem dX11_groups_5 : decode cX11_groups 5 = .ok (.ifCond .ne 6, 3) := by decide +kernel
theorem dX11_groups_8 : decode cX11_groups 8 = .ok (.bipush (-2), 2) := by decide +kernel
theorem dX11_groups_10 : decode cX11_groups 10 = .ok (.ireturn, 1) := by decide +kernel
theorem dX11_groups_11 : decode cX11_groups 11 = .ok (.aload_n 0, 1) := by decide +kernel
theorem dX11_groups_12 : decode cX11_groups 12 = .ok (.getfield 107, 3) := by decide +kernel
theorem dX11_groups_15 : decode cX11_groups 15 = .ok (.invokevirtual 358, 3) := by decide +kernel
theorem dX11_groups_18 : decode cX11_groups 18 = .ok (.ireturn, 1) := by decide +kernel
theorem r_X11_groups (E : kr_E) (p1 : Int32) (M : kr_M) : kR kr_vi E Y_X11_groups 6 0 [(0, kr_r E 0), (1, .int p1)] [] M (f_X11_groups p1 M) := by
  rw [f_X11_groups]
  refine kr_aload_n dX11_groups_0 rfl 0 rfl ?_
  refine kr_iload_n dX11_groups_1 rfl 1 rfl ?_
  refine kr_Vi (As := [.int p1]) (st := []) zv_X11_opensFerry dX11_groups_2 ml_RX11_352 kr_at_0 (r_X11_opensFerry E p1 M) rfl rfl (Nat.le_of_ble_eq_true rfl) rfl (by decide) (Nat.le_of_ble_eq_true rfl) (fun r2 M1 => ?_)
  refine kr_if_ne (tgt := 11) dX11_groups_5 (by decide) ?_ ?_
  · refine kr_aload_n dX11_groups_11 rfl 0 rfl ?_
    refine kr_getA (o := 341) (ci := 11) (j := 15) dX11_groups_12 kr_at_0 fl_RX11_107 rfl ?_
    refine kr_Vi (As := []) (st := []) zv_X1_fewestGroups dX11_groups_15 ml_RX11_358 kr_at_341 (r_X1_fewestGroups E  M1) rfl rfl (Nat.le_of_ble_eq_true rfl) rfl (by decide) (Nat.le_of_ble_eq_true rfl) (fun r4 M3 => ?_)
    exact kr_iret dX11_groups_18 rfl
  · refine kr_bipush (v := -2) dX11_groups_8 (by decide) ?_
    exact kr_iret dX11_groups_10 rfl
theorem dX11_group_0 : decode cX11_group 0 = .ok (.aload_n 0, 1) := by decide +kernel
theorem dX11_group_1 : decode cX11_group 1 = .ok (.iload_n 1, 1) := by decide +kernel
theorem dX11_group_2 : decode cX11_group 2 = .ok (.invokevirtual 352, 3) := by decide +kernel
theorem dX11_group_5 : decode cX11_group 5 = .ok (.ifCond .ne 6, 3) := by decide +kernel
theorem dX11_group_8 : decode cX11_group 8 = .ok (.bipush (-2), 2) := by decide +kernel
theorem dX11_group_10 : decode cX11_group 10 = .ok (.ireturn, 1) := by decide +kernel
theorem dX11_group_11 : decode cX11_group 11 = .ok (.aload_n 0, 1) := by decide +kernel
theorem dX11_group_12 : decode cX11_group 12 = .ok (.getfield 107, 3) := by decide +kernel
theorem dX11_group_15 : decode cX11_group 15 = .ok (.invokevirtual 361, 3) := by decide +kernel
theorem dX11_group_18 : decode cX11_group 18 = .ok (.ireturn, 1) := by decide +kernel
theorem r_X11_group (E : kr_E) (p1 : Int32) (M : kr_M) : kR kr_vi E Y_X11_group 6 0 [(0, kr_r E 0), (1, .int p1)] [] M (f_X11_group p1 M) := by
  rw [f_X11_group]
  refine kr_aload_n dX11_group_0 rfl 0 rfl ?_
  refine kr_iload_n dX11_group_1 rfl 1 rfl ?_
  refine kr_Vi (As := [.int p1]) (st := []) zv_X11_opensFerry dX11_group_2 ml_RX11_352 kr_at_0 (r_X11_opensFerry E p1 M) rfl rfl (Nat.le_of_ble_eq_true rfl) rfl (by decide) (Nat.le_of_ble_eq_true rfl) (fun r2 M1 => ?_)
  refine kr_if_ne (tgt := 11) dX11_group_5 (by decide) ?_ ?_
  · refine kr_aload_n dX11_group_11 rfl 0 rfl ?_
    refine kr_getA (o := 341) (ci := 11) (j := 15) dX11_group_12 kr_at_0 fl_RX11_107 rfl ?_
    refine kr_Vi (As := []) (st := []) zv_X1_groupOfFirst dX11_group_15 ml_RX11_361 kr_at_341 (r_X1_groupOfFirst E  M1) rfl rfl (Nat.le_of_ble_eq_true rfl) rfl (by decide) (Nat.le_of_ble_eq_true rfl) (fun r4 M3 => ?_)
    exact kr_iret dX11_group_18 rfl
  · refine kr_bipush (v := -2) dX11_group_8 (by decide) ?_
    exact kr_iret dX11_group_10 rfl
theorem dX11_lasts_0 : decode cX11_lasts 0 = .ok (.aload_n 0, 1) := by decide +kernel
theorem dX11_lasts_1 : decode cX11_lasts 1 = .ok (.getfield 19, 3) := by decide +kernel
theorem dX11_lasts_4 : decode cX11_lasts 4 = .ok (.iload_n 1, 1) := by decide +kernel
theorem dX11_lasts_5 : decode cX11_lasts 5 = .ok (.invokevirtual 154, 3) := by decide +kernel
theorem dX11_lasts_8 : decode cX11_lasts 8 = .ok (.ifCond .eq 15, 3) := by decide +kernel
theorem dX11_lasts_11 : decode cX11_lasts 11 = .ok (.iload_n 2, 1) := by decide +kernel
theorem dX11_lasts_12 : decode cX11_lasts 12 = .ok (.iconst 1, 1) := by decide +kernel
theorem dX11_lasts_13 : decode cX11_lasts 13 = .ok (.if_icmp .lt 10, 3) := by decide +kernel
theorem dX11_lasts_16 : decode cX11_lasts 16 = .ok (.iload_n 2, 1) := by decide +kernel
theorem dX11_lasts_17 : decode cX11_lasts 17 = .ok (.sipush 999, 3) := by decide +kernel
theorem dX11_lasts_20 : decode cX11_lasts 20 = .ok (.if_icmp .le 6, 3) := by decide +kernel
theorem dX11_lasts_23 : decode cX11_lasts 23 = .ok (.bipush (-2), 2) := by decide +kernel
theorem dX11_lasts_25 : decode cX11_lasts 25 = .ok (.ireturn, 1) := by decide +kernel
theorem dX11_lasts_26 : decode cX11_lasts 26 = .ok (.aload_n 0, 1) := by decide +kernel
theorem dX11_lasts_27 : decode cX11_lasts 27 = .ok (.getfield 19, 3) := by decide +kernel
theorem dX11_lasts_30 : decode cX11_lasts 30 = .ok (.iload_n 1, 1) := by decide +kernel
theorem dX11_lasts_31 : decode cX11_lasts 31 = .ok (.invokevirtual 179, 3) := by decide +kernel
theorem dX11_lasts_34 : decode cX11_lasts 34 = .ok (.iload_n 2, 1) := by decide +kernel
theorem dX11_lasts_35 : decode cX11_lasts 35 = .ok (.isub, 1) := by decide +kernel
theorem dX11_lasts_36 : decode cX11_lasts 36 = .ok (.istore_n 3, 1) := by decide +kernel
theorem dX11_lasts_37 : decode cX11_lasts 37 = .ok (.iload_n 3, 1) := by decide +kernel
theorem dX11_lasts_38 : decode cX11_lasts 38 = .ok (.ifCond .ge 5, 3) := by decide +kernel
theorem dX11_lasts_41 : decode cX11_lasts 41 = .ok (.iconst 0, 1) := by decide +kernel
theorem dX11_lasts_42 : decode cX11_lasts 42 = .ok (.ireturn, 1) := by decide +kernel
theorem dX11_lasts_43 : decode cX11_lasts 43 = .ok (.aload_n 0, 1) := by decide +kernel
theorem dX11_lasts_44 : decode cX11_lasts 44 = .ok (.getfield 19, 3) := by decide +kernel
theorem dX11_lasts_47 : decode cX11_lasts 47 = .ok (.getfield 365, 3) := by decide +kernel
theorem dX11_lasts_50 : decode cX11_lasts 50 = .ok (.ifCond .ne 7, 3) := by decide +kernel
theorem dX11_lasts_53 : decode cX11_lasts 53 = .ok (.iconst (-1), 1) := by decide +kernel
theorem dX11_lasts_54 : decode cX11_lasts 54 = .ok (.goto 14, 3) := by decide +kernel
theorem dX11_lasts_57 : decode cX11_lasts 57 = .ok (.iload_n 3, 1) := by decide +kernel
theorem dX11_lasts_58 : decode cX11_lasts 58 = .ok (.aload_n 0, 1) := by decide +kernel
theorem dX11_lasts_59 : decode cX11_lasts 59 = .ok (.getfield 19, 3) := by decide +kernel
theorem dX11_lasts_62 : decode cX11_lasts 62 = .ok (.getfield 365, 3) := by decide +kernel
theorem dX11_lasts_65 : decode cX11_lasts 65 = .ok (.idiv, 1) := by decide +kernel
theorem dX11_lasts_66 : decode cX11_lasts 66 = .ok (.iconst 1, 1) := by decide +kernel
theorem dX11_lasts_67 : decode cX11_lasts 67 = .ok (.iadd, 1) := by decide +kernel
theorem dX11_lasts_68 : decode cX11_lasts 68 = .ok (.ireturn, 1) := by decide +kernel
theorem r_X11_lasts (E : kr_E) (p1 : Int32) (p2 : Int32) (M : kr_M) : kR kr_vi E Y_X11_lasts 3 0 [(0, kr_r E 0), (1, .int p1), (2, .int p2)] [] M (f_X11_lasts p1 p2 M) := by
  rw [f_X11_lasts]
  refine kr_aload_n dX11_lasts_0 rfl 0 rfl ?_
  refine kr_getG (o := 0) (ci := 11) (j := 1) dX11_lasts_1 kr_at_0 fl_RX11_19 rfl (fun g1 h_g1 => ?_)
  refine kr_iload_n dX11_lasts_4 rfl 1 rfl ?_
  refine kr_Vi (As := [.int p1]) (st := []) zv_X2_hasRope dX11_lasts_5 ml_RX11_154 h_g1 (r_X2_hasRope E g1 h_g1 p1 M) rfl rfl (Nat.le_of_ble_eq_true rfl) rfl (by decide) (Nat.le_of_ble_eq_true rfl) (fun r3 M2 => ?_)
  refine kr_if_eq (tgt := 23) dX11_lasts_8 (by decide) ?_ ?_
  · refine kr_bipush (v := -2) dX11_lasts_23 (by decide) ?_
    exact kr_iret dX11_lasts_25 rfl
  · refine kr_iload_n dX11_lasts_11 rfl 2 rfl ?_
    refine kr_iconst (v := 1) dX11_lasts_12 (by decide) ?_
    refine kr_icmp_lt (tgt := 23) dX11_lasts_13 (by decide) ?_ ?_
    · refine kr_bipush (v := -2) dX11_lasts_23 (by decide) ?_
      exact kr_iret dX11_lasts_25 rfl
    · refine kr_iload_n dX11_lasts_16 rfl 2 rfl ?_
      refine kr_sipush (v := 999) dX11_lasts_17 (by decide) ?_
      refine kr_icmp_le (tgt := 26) dX11_lasts_20 (by decide) ?_ ?_
      · refine kr_aload_n dX11_lasts_26 rfl 0 rfl ?_
        refine kr_getG (o := 0) (ci := 11) (j := 1) dX11_lasts_27 kr_at_0 fl_RX11_19 rfl (fun g4 h_g4 => ?_)
        refine kr_iload_n dX11_lasts_30 rfl 1 rfl ?_
        refine kr_Vi (As := [.int p1]) (st := []) zv_X2_strengthOf dX11_lasts_31 ml_RX11_179 h_g4 (r_X2_strengthOf E g4 h_g4 p1 M2) rfl rfl (Nat.le_of_ble_eq_true rfl) rfl (by decide) (Nat.le_of_ble_eq_true rfl) (fun r6 M5 => ?_)
        refine kr_iload_n dX11_lasts_34 rfl 2 rfl ?_
        refine kr_isub dX11_lasts_35 ?_
        refine kr_nmi (fun v7 => ?_)
        refine kr_istore_n (lv' := [(3, .int v7), (0, kr_r E 0), (1, .int p1), (2, .int p2)]) dX11_lasts_36 rfl (by decide) rfl ?_
        refine kr_iload_n dX11_lasts_37 rfl 0 rfl ?_
        refine kr_if_ge (tgt := 43) dX11_lasts_38 (by decide) ?_ ?_
        · refine kr_aload_n dX11_lasts_43 rfl 1 rfl ?_
          refine kr_getG (o := 0) (ci := 11) (j := 1) dX11_lasts_44 kr_at_0 fl_RX11_19 rfl (fun g8 h_g8 => ?_)
          refine kr_getI (ci := 2) (j := 2) dX11_lasts_47 h_g8 fl_RX11_365 rfl (fun v9 => ?_)
          refine kr_if_ne (tgt := 57) dX11_lasts_50 (by decide) ?_ ?_
          · refine kr_iload_n dX11_lasts_57 rfl 0 rfl ?_
            refine kr_aload_n dX11_lasts_58 rfl 1 rfl ?_
            refine kr_getG (o := 0) (ci := 11) (j := 1) dX11_lasts_59 kr_at_0 fl_RX11_19 rfl (fun g10 h_g10 => ?_)
            refine kr_getI (ci := 2) (j := 2) dX11_lasts_62 h_g10 fl_RX11_365 rfl (fun v11 => ?_)
            refine kr_idiv dX11_lasts_65 (fun n12 => ?_)
            refine kr_iconst (v := 1) dX11_lasts_66 (by decide) ?_
            refine kr_iadd dX11_lasts_67 ?_
            exact kr_iret dX11_lasts_68 rfl
          · refine kr_iconst (v := -1) dX11_lasts_53 (by decide) ?_
            refine kr_goto (tgt := 68) dX11_lasts_54 (by decide) ?_
            exact kr_iret dX11_lasts_68 rfl
        · refine kr_iconst (v := 0) dX11_lasts_41 (by decide) ?_
          exact kr_iret dX11_lasts_42 rfl
      · refine kr_bipush (v := -2) dX11_lasts_23 (by decide) ?_
        exact kr_iret dX11_lasts_25 rfl
theorem dX11_bears_0 : decode cX11_bears 0 = .ok (.aload_n 0, 1) := by decide +kernel
theorem dX11_bears_1 : decode cX11_bears 1 = .ok (.iload_n 1, 1) := by decide +kernel
theorem dX11_bears_2 : decode cX11_bears 2 = .ok (.invokevirtual 352, 3) := by decide +kernel
theorem dX11_bears_5 : decode cX11_bears 5 = .ok (.ifCond .ne 6, 3) := by decide +kernel
theorem dX11_bears_8 : decode cX11_bears 8 = .ok (.bipush (-2), 2) := by decide +kernel
theorem dX11_bears_10 : decode cX11_bears 10 = .ok (.ireturn, 1) := by decide +kernel
theorem dX11_bears_11 : decode cX11_bears 11 = .ok (.aload_n 0, 1) := by decide +kernel
theorem dX11_bears_12 : decode cX11_bears 12 = .ok (.getfield 107, 3) := by decide +kernel
theorem dX11_bears_15 : decode cX11_bears 15 = .ok (.invokevirtual 368, 3) := by decide +kernel
theorem dX11_bears_18 : decode cX11_bears 18 = .ok (.ireturn, 1) := by decide +kernel
theorem r_X11_bears (E : kr_E) (p1 : Int32) (M : kr_M) : kR kr_vi E Y_X11_bears 6 0 [(0, kr_r E 0), (1, .int p1)] [] M (f_X11_bears p1 M) := by
  rw [f_X11_bears]
  refine kr_aload_n dX11_bears_0 rfl 0 rfl ?_
  refine kr_iload_n dX11_bears_1 rfl 1 rfl ?_
  refine kr_Vi (As := [.int p1]) (st := []) zv_X11_opensFerry dX11_bears_2 ml_RX11_352 kr_at_0 (r_X11_opensFerry E p1 M) rfl rfl (Nat.le_of_ble_eq_true rfl) rfl (by decide) (Nat.le_of_ble_eq_true rfl) (fun r2 M1 => ?_)
  refine kr_if_ne (tgt := 11) dX11_bears_5 (by decide) ?_ ?_
  · refine kr_aload_n dX11_bears_11 rfl 0 rfl ?_
    refine kr_getA (o := 341) (ci := 11) (j := 15) dX11_bears_12 kr_at_0 fl_RX11_107 rfl ?_
    refine kr_Vi (As := []) (st := []) zv_X1_mostAtOnce dX11_bears_15 ml_RX11_368 kr_at_341 (r_X1_mostAtOnce E  M1) rfl rfl (Nat.le_of_ble_eq_true rfl) rfl (by decide) (Nat.le_of_ble_eq_true rfl) (fun r4 M3 => ?_)
    exact kr_iret dX11_bears_18 rfl
  · refine kr_bipush (v := -2) dX11_bears_8 (by decide) ?_
    exact kr_iret dX11_bears_10 rfl
theorem dX11_cross_0 : decode cX11_cross 0 = .ok (.aload_n 0, 1) := by decide +kernel
theorem dX11_cross_1 : decode cX11_cross 1 = .ok (.getfield 19, 3) := by decide +kernel
theorem dX11_cross_4 : decode cX11_cross 4 = .ok (.iload_n 1, 1) := by decide +kernel
theorem dX11_cross_5 : decode cX11_cross 5 = .ok (.invokevirtual 185, 3) := by decide +kernel
theorem dX11_cross_8 : decode cX11_cross 8 = .ok (.ifCond .eq 14, 3) := by decide +kernel
theorem dX11_cross_11 : decode cX11_cross 11 = .ok (.aload_n 0, 1) := by decide +kernel
theorem dX11_cross_12 : decode cX11_cross 12 = .ok (.getfield 19, 3) := by decide +kernel
theorem dX11_cross_15 : decode cX11_cross 15 = .ok (.iload_n 2, 1) := by decide +kernel
theorem dX11_cross_16 : decode cX11_cross 16 = .ok (.invokevirtual 154, 3) := by decide +kernel
theorem dX11_cross_19 : decode cX11_cross 19 = .ok (.ifCond .ne 6, 3) := by decide +kernel
theorem dX11_cross_22 : decode cX11_cross 22 = .ok (.bipush (-2), 2) := by decide +kernel
theorem dX11_cross_24 : decode cX11_cross 24 = .ok (.ireturn, 1) := by decide +kernel
theorem dX11_cross_25 : decode cX11_cross 25 = .ok (.aload_n 0, 1) := by decide +kernel
theorem dX11_cross_26 : decode cX11_cross 26 = .ok (.getfield 19, 3) := by decide +kernel
theorem dX11_cross_29 : decode cX11_cross 29 = .ok (.getfield 157, 3) := by decide +kernel
theorem dX11_cross_32 : decode cX11_cross 32 = .ok (.iload_n 2, 1) := by decide +kernel
theorem dX11_cross_33 : decode cX11_cross 33 = .ok (.aaload, 1) := by decide +kernel
theorem dX11_cross_34 : decode cX11_cross 34 = .ok (.aload_n 0, 1) := by decide +kernel
theorem dX11_cross_35 : decode cX11_cross 35 = .ok (.getfield 19, 3) := by decide +kernel
theorem dX11_cross_38 : decode cX11_cross 38 = .ok (.getfield 194, 3) := by decide +kernel
theorem dX11_cross_41 : decode cX11_cross 41 = .ok (.iload_n 1, 1) := by decide +kernel
theorem dX11_cross_42 : decode cX11_cross 42 = .ok (.iaload, 1) := by decide +kernel
theorem dX11_cross_43 : decode cX11_cross 43 = .ok (.invokevirtual 371, 3) := by decide +kernel
theorem dX11_cross_46 : decode cX11_cross 46 = .ok (.istore_n 3, 1) := by decide +kernel
theorem dX11_cross_47 : decode cX11_cross 47 = .ok (.iload_n 3, 1) := by decide +kernel
theorem dX11_cross_48 : decode cX11_cross 48 = .ok (.iconst (-1), 1) := by decide +kernel
theorem dX11_cross_49 : decode cX11_cross 49 = .ok (.if_icmp .eq 33, 3) := by decide +kernel
theorem dX11_cross_52 : decode cX11_cross 52 = .ok (.aload_n 0, 1) := by decide +kernel
theorem dX11_cross_53 : decode cX11_cross 53 = .ok (.getfield 19, 3) := by decide +kernel
theorem dX11_cross_56 : decode cX11_cross 56 = .ok (.getfield 188, 3) := by decide +kernel
theorem dX11_cross_59 : decode cX11_cross 59 = .ok (.iload_n 1, 1) := by decide +kernel
theorem dX11_cross_60 : decode cX11_cross 60 = .ok (.iaload, 1) := by decide +kernel
theorem dX11_cross_61 : decode cX11_cross 61 = .ok (.aload_n 0, 1) := by decide +kernel
theorem dX11_cross_62 : decode cX11_cross 62 = .ok (.getfield 19, 3) := by decide +kernel
theorem dX11_cross_65 : decode cX11_cross 65 = .ok (.iload_n 2, 1) := by decide +kernel
theorem dX11_cross_66 : decode cX11_cross 66 = .ok (.invokevirtual 179, 3) := by decide +kernel
theorem dX11_cross_69 : decode cX11_cross 69 = .ok (.if_icmp .gt 13, 3) := by decide +kernel
theorem dX11_cross_72 : decode cX11_cross 72 = .ok (.aload_n 0, 1) := by decide +kernel
theorem dX11_cross_73 : decode cX11_cross 73 = .ok (.getfield 19, 3) := by decide +kernel
theorem dX11_cross_76 : decode cX11_cross 76 = .ok (.invokevirtual 374, 3) := by decide +kernel
theorem dX11_cross_79 : decode cX11_cross 79 = .ok (.ifCond .eq 6, 3) := by decide +kernel
theorem dX11_cross_82 : decode cX11_cross 82 = .ok (.bipush (-5), 2) := by decide +kernel
theorem dX11_cross_84 : decode cX11_cross 84 = .ok (.ireturn, 1) := by decide +kernel
theorem dX11_cross_85 : decode cX11_cross 85 = .ok (.aload_n 0, 1) := by decide +kernel
theorem dX11_cross_86 : decode cX11_cross 86 = .ok (.getfield 19, 3) := by decide +kernel
theorem dX11_cross_89 : decode cX11_cross 89 = .ok (.iconst 0, 1) := by decide +kernel
theorem dX11_cross_90 : decode cX11_cross 90 = .ok (.iload_n 1, 1) := by decide +kernel
theorem dX11_cross_91 : decode cX11_cross 91 = .ok (.iload_n 2, 1) := by decide +kernel
theorem dX11_cross_92 : decode cX11_cross 92 = .ok (.iconst 0, 1) := by decide +kernel
theorem dX11_cross_93 : decode cX11_cross 93 = .ok (.invokevirtual 377, 3) := by decide +kernel
theorem dX11_cross_96 : decode cX11_cross 96 = .ok (.iload_n 3, 1) := by decide +kernel
theorem dX11_cross_97 : decode cX11_cross 97 = .ok (.ireturn, 1) := by decide +kernel
theorem r_X11_cross (E : kr_E) (p1 : Int32) (p2 : Int32) (M : kr_M) : kR kr_vi E Y_X11_cross 5 0 [(0, kr_r E 0), (1, .int p1), (2, .int p2)] [] M (f_X11_cross p1 p2 M) := by
  rw [f_X11_cross]
  refine kr_aload_n dX11_cross_0 rfl 0 rfl ?_
  refine kr_getG (o := 0) (ci := 11) (j := 1) dX11_cross_1 kr_at_0 fl_RX11_19 rfl (fun g1 h_g1 => ?_)
  refine kr_iload_n dX11_cross_4 rfl 1 rfl ?_
  refine kr_Vi (As := [.int p1]) (st := []) zv_X2_hasPerson dX11_cross_5 ml_RX11_185 h_g1 (r_X2_hasPerson E g1 h_g1 p1 M) rfl rfl (Nat.le_of_ble_eq_true rfl) rfl (by decide) (Nat.le_of_ble_eq_true rfl) (fun r3 M2 => ?_)
  refine kr_if_eq (tgt := 22) dX11_cross_8 (by decide) ?_ ?_
  · refine kr_bipush (v := -2) dX11_cross_22 (by decide) ?_
    exact kr_iret dX11_cross_24 rfl
  · refine kr_aload_n dX11_cross_11 rfl 0 rfl ?_
    refine kr_getG (o := 0) (ci := 11) (j := 1) dX11_cross_12 kr_at_0 fl_RX11_19 rfl (fun g4 h_g4 => ?_)
    refine kr_iload_n dX11_cross_15 rfl 2 rfl ?_
    refine kr_Vi (As := [.int p2]) (st := []) zv_X2_hasRope dX11_cross_16 ml_RX11_154 h_g4 (r_X2_hasRope E g4 h_g4 p2 M2) rfl rfl (Nat.le_of_ble_eq_true rfl) rfl (by decide) (Nat.le_of_ble_eq_true rfl) (fun r6 M5 => ?_)
    refine kr_if_ne (tgt := 25) dX11_cross_19 (by decide) ?_ ?_
    · refine kr_aload_n dX11_cross_25 rfl 0 rfl ?_
      refine kr_getG (o := 0) (ci := 11) (j := 1) dX11_cross_26 kr_at_0 fl_RX11_19 rfl (fun g7 h_g7 => ?_)
      refine kr_getA (o := 5) (ci := 2) (j := 14) dX11_cross_29 h_g7 fl_RX11_157 rfl ?_
      refine kr_iload_n dX11_cross_32 rfl 2 rfl ?_
      refine kr_aaldR dX11_cross_33 h_g7 (fun h8 => ?_)
      refine kr_aload_n dX11_cross_34 rfl 0 rfl ?_
      refine kr_getG (o := 0) (ci := 11) (j := 1) dX11_cross_35 kr_at_0 fl_RX11_19 rfl (fun g9 h_g9 => ?_)
      refine kr_getA (o := 9) (ci := 2) (j := 18) dX11_cross_38 h_g9 fl_RX11_194 rfl ?_
      refine kr_iload_n dX11_cross_41 rfl 1 rfl ?_
      refine kr_iald dX11_cross_42 (kr_shG9 _ h_g9) (fun v10 => ?_)
      refine kr_Vi (As := [.int v10]) (st := []) zv_X5_otherEnd dX11_cross_43 ml_RX11_371 h8 (r_X5_otherEnd E (kr_rp g7 p2) h8 v10 M5) rfl rfl (Nat.le_of_ble_eq_true rfl) rfl (by decide) (Nat.le_of_ble_eq_true rfl) (fun r12 M11 => ?_)
      refine kr_istore_n (lv' := [(3, .int r12), (0, kr_r E 0), (1, .int p1), (2, .int p2)]) dX11_cross_46 rfl (by decide) rfl ?_
      refine kr_iload_n dX11_cross_47 rfl 0 rfl ?_
      refine kr_iconst (v := -1) dX11_cross_48 (by decide) ?_
      refine kr_icmp_eq (tgt := 82) dX11_cross_49 (by decide) ?_ ?_
      · refine kr_bipush (v := -5) dX11_cross_82 (by decide) ?_
        exact kr_iret dX11_cross_84 rfl
      · refine kr_aload_n dX11_cross_52 rfl 1 rfl ?_
        refine kr_getG (o := 0) (ci := 11) (j := 1) dX11_cross_53 kr_at_0 fl_RX11_19 rfl (fun g13 h_g13 => ?_)
        refine kr_getA (o := 6) (ci := 2) (j := 15) dX11_cross_56 h_g13 fl_RX11_188 rfl ?_
        refine kr_iload_n dX11_cross_59 rfl 2 rfl ?_
        refine kr_iald dX11_cross_60 (kr_shG6 _ h_g13) (fun v14 => ?_)
        refine kr_aload_n dX11_cross_61 rfl 1 rfl ?_
        refine kr_getG (o := 0) (ci := 11) (j := 1) dX11_cross_62 kr_at_0 fl_RX11_19 rfl (fun g15 h_g15 => ?_)
        refine kr_iload_n dX11_cross_65 rfl 3 rfl ?_
        refine kr_Vi (As := [.int p2]) (st := [.int v14]) zv_X2_strengthOf dX11_cross_66 ml_RX11_179 h_g15 (r_X2_strengthOf E g15 h_g15 p2 M11) rfl rfl (Nat.le_of_ble_eq_true rfl) rfl (by decide) (Nat.le_of_ble_eq_true rfl) (fun r17 M16 => ?_)
        refine kr_icmp_gt (tgt := 82) dX11_cross_69 (by decide) ?_ ?_
        · refine kr_bipush (v := -5) dX11_cross_82 (by decide) ?_
          exact kr_iret dX11_cross_84 rfl
        · refine kr_aload_n dX11_cross_72 rfl 1 rfl ?_
          refine kr_getG (o := 0) (ci := 11) (j := 1) dX11_cross_73 kr_at_0 fl_RX11_19 rfl (fun g18 h_g18 => ?_)
          refine kr_Vi (As := []) (st := []) zv_X2_isTired dX11_cross_76 ml_RX11_374 h_g18 (r_X2_isTired E g18 h_g18 M16) rfl rfl (Nat.le_of_ble_eq_true rfl) rfl (by decide) (Nat.le_of_ble_eq_true rfl) (fun r20 M19 => ?_)
          refine kr_if_eq (tgt := 85) dX11_cross_79 (by decide) ?_ ?_
          · refine kr_aload_n dX11_cross_85 rfl 1 rfl ?_
            refine kr_getG (o := 0) (ci := 11) (j := 1) dX11_cross_86 kr_at_0 fl_RX11_19 rfl (fun g21 h_g21 => ?_)
            refine kr_iconst (v := 0) dX11_cross_89 (by decide) ?_
            refine kr_iload_n dX11_cross_90 rfl 2 rfl ?_
            refine kr_iload_n dX11_cross_91 rfl 3 rfl ?_
            refine kr_iconst (v := 0) dX11_cross_92 (by decide) ?_
            refine kr_Vv (As := [.int (0 : Int32), .int p1, .int p2, .int (0 : Int32)]) (st := []) zv_X2_act dX11_cross_93 ml_RX11_377 h_g21 (r_X2_act E g21 h_g21 (0 : Int32) p1 p2 (0 : Int32) M19) rfl rfl (Nat.le_of_ble_eq_true rfl) rfl (by decide) (Nat.le_of_ble_eq_true rfl) (fun M22 => ?_)
            refine kr_iload_n dX11_cross_96 rfl 0 rfl ?_
            exact kr_iret dX11_cross_97 rfl
          · refine kr_bipush (v := -5) dX11_cross_82 (by decide) ?_
            exact kr_iret dX11_cross_84 rfl
    · refine kr_bipush (v := -2) dX11_cross_22 (by decide) ?_
      exact kr_iret dX11_cross_24 rfl
theorem dX11_tie_0 : decode cX11_tie 0 = .ok (.aload_n 0, 1) := by decide +kernel
theorem dX11_tie_1 : decode cX11_tie 1 = .ok (.getfield 19, 3) := by decide +kernel
theorem dX11_tie_4 : decode cX11_tie 4 = .ok (.iload_n 1, 1) := by decide +kernel
theorem dX11_tie_5 : decode cX11_tie 5 = .ok (.invokevirtual 154, 3) := by decide +kernel
theorem dX11_tie_8 : decode cX11_tie 8 = .ok (.ifCond .eq 14, 3) := by decide +kernel
theorem dX11_tie_11 : decode cX11_tie 11 = .ok (.aload_n 0, 1) := by decide +kernel
theorem dX11_tie_12 : decode cX11_tie 12 = .ok (.getfield 19, 3) := by decide +kernel
theorem dX11_tie_15 : decode cX11_tie 15 = .ok (.iload_n 3, 1) := by decide +kernel
theorem dX11_tie_16 : decode cX11_tie 16 = .ok (.invokevirtual 130, 3) := by decide +kernel
theorem dX11_tie_19 : decode cX11_tie 19 = .ok (.ifCond .ne 6, 3) := by decide +kernel
theorem dX11_tie_22 : decode cX11_tie 22 = .ok (.bipush (-2), 2) := by decide +kernel
theorem dX11_tie_24 : decode cX11_tie 24 = .ok (.ireturn, 1) := by decide +kernel
theorem dX11_tie_25 : decode cX11_tie 25 = .ok (.aload_n 0, 1) := by decide +kernel
theorem dX11_tie_26 : decode cX11_tie 26 = .ok (.getfield 19, 3) := by decide +kernel
theorem dX11_tie_29 : decode cX11_tie 29 = .ok (.getfield 157, 3) := by decide +kernel
theorem dX11_tie_32 : decode cX11_tie 32 = .ok (.iload_n 1, 1) := by decide +kernel
theorem dX11_tie_33 : decode cX11_tie 33 = .ok (.aaload, 1) := by decide +kernel
theorem dX11_tie_34 : decode cX11_tie 34 = .ok (.getfield 172, 3) := by decide +kernel
theorem dX11_tie_37 : decode cX11_tie 37 = .ok (.iload_n 2, 1) := by decide +kernel
theorem dX11_tie_38 : decode cX11_tie 38 = .ok (.invokevirtual 147, 3) := by decide +kernel
theorem dX11_tie_41 : decode cX11_tie 41 = .ok (.istore 4, 2) := by decide +kernel
theorem dX11_tie_43 : decode cX11_tie 43 = .ok (.iload 4, 2) := by decide +kernel
theorem dX11_tie_45 : decode cX11_tie 45 = .ok (.iconst (-1), 1) := by decide +kernel
theorem dX11_tie_46 : decode cX11_tie 46 = .ok (.if_icmp .ne 6, 3) := by decide +kernel
theorem dX11_tie_49 : decode cX11_tie 49 = .ok (.bipush (-2), 2) := by decide +kernel
theorem dX11_tie_51 : decode cX11_tie 51 = .ok (.ireturn, 1) := by decide +kernel
theorem dX11_tie_52 : decode cX11_tie 52 = .ok (.aload_n 0, 1) := by decide +kernel
theorem dX11_tie_53 : decode cX11_tie 53 = .ok (.getfield 19, 3) := by decide +kernel
theorem dX11_tie_56 : decode cX11_tie 56 = .ok (.invokevirtual 374, 3) := by decide +kernel
theorem dX11_tie_59 : decode cX11_tie 59 = .ok (.ifCond .eq 6, 3) := by decide +kernel
theorem dX11_tie_62 : decode cX11_tie 62 = .ok (.bipush (-5), 2) := by decide +kernel
theorem dX11_tie_64 : decode cX11_tie 64 = .ok (.ireturn, 1) := by decide +kernel
theorem dX11_tie_65 : decode cX11_tie 65 = .ok (.aload_n 0, 1) := by decide +kernel
theorem dX11_tie_66 : decode cX11_tie 66 = .ok (.getfield 19, 3) := by decide +kernel
theorem dX11_tie_69 : decode cX11_tie 69 = .ok (.iconst 1, 1) := by decide +kernel
theorem dX11_tie_70 : decode cX11_tie 70 = .ok (.iload_n 1, 1) := by decide +kernel
theorem dX11_tie_71 : decode cX11_tie 71 = .ok (.iload_n 2, 1) := by decide +kernel
theorem dX11_tie_72 : decode cX11_tie 72 = .ok (.iload_n 3, 1) := by decide +kernel
theorem dX11_tie_73 : decode cX11_tie 73 = .ok (.invokevirtual 377, 3) := by decide +kernel
theorem dX11_tie_76 : decode cX11_tie 76 = .ok (.iload 4, 2) := by decide +kernel
theorem dX11_tie_78 : decode cX11_tie 78 = .ok (.ireturn, 1) := by decide +kernel
theorem r_X11_tie (E : kr_E) (p1 : Int32) (p2 : Int32) (p3 : Int32) (M : kr_M) : kR kr_vi E Y_X11_tie 5 0 [(0, kr_r E 0), (1, .int p1), (2, .int p2), (3, .int p3)] [] M (f_X11_tie p1 p2 p3 M) := by
  rw [f_X11_tie]
  refine kr_aload_n dX11_tie_0 rfl 0 rfl ?_
  refine kr_getG (o := 0) (ci := 11) (j := 1) dX11_tie_1 kr_at_0 fl_RX11_19 rfl (fun g1 h_g1 => ?_)
  refine kr_iload_n dX11_tie_4 rfl 1 rfl ?_
  refine kr_Vi (As := [.int p1]) (st := []) zv_X2_hasRope dX11_tie_5 ml_RX11_154 h_g1 (r_X2_hasRope E g1 h_g1 p1 M) rfl rfl (Nat.le_of_ble_eq_true rfl) rfl (by decide) (Nat.le_of_ble_eq_true rfl) (fun r3 M2 => ?_)
  refine kr_if_eq (tgt := 22) dX11_tie_8 (by decide) ?_ ?_
  · refine kr_bipush (v := -2) dX11_tie_22 (by decide) ?_
    exact kr_iret dX11_tie_24 rfl
  · refine kr_aload_n dX11_tie_11 rfl 0 rfl ?_
    refine kr_getG (o := 0) (ci := 11) (j := 1) dX11_tie_12 kr_at_0 fl_RX11_19 rfl (fun g4 h_g4 => ?_)
    refine kr_iload_n dX11_tie_15 rfl 3 rfl ?_
    refine kr_Vi (As := [.int p3]) (st := []) zv_X2_hasKind dX11_tie_16 ml_RX11_130 h_g4 (r_X2_hasKind E g4 h_g4 p3 M2) rfl rfl (Nat.le_of_ble_eq_true rfl) rfl (by decide) (Nat.le_of_ble_eq_true rfl) (fun r6 M5 => ?_)
    refine kr_if_ne (tgt := 25) dX11_tie_19 (by decide) ?_ ?_
    · refine kr_aload_n dX11_tie_25 rfl 0 rfl ?_
      refine kr_getG (o := 0) (ci := 11) (j := 1) dX11_tie_26 kr_at_0 fl_RX11_19 rfl (fun g7 h_g7 => ?_)
      refine kr_getA (o := 5) (ci := 2) (j := 14) dX11_tie_29 h_g7 fl_RX11_157 rfl ?_
      refine kr_iload_n dX11_tie_32 rfl 1 rfl ?_
      refine kr_aaldR dX11_tie_33 h_g7 (fun h8 => ?_)
      refine kr_getA (o := 3) (ci := 5) (j := 5) dX11_tie_34 h8 fl_RX11_172 rfl ?_
      refine kr_iload_n dX11_tie_37 rfl 2 rfl ?_
      refine kr_Vi (As := [.int p2]) (st := []) zv_X7_kindAt dX11_tie_38 ml_RX11_147 (kr_shR3 _ h8) (r_X7_kindAt E ((kr_rp g7 p1) + 3) (kr_shR3 _ h8) p2 M5) rfl rfl (Nat.le_of_ble_eq_true rfl) rfl (by decide) (Nat.le_of_ble_eq_true rfl) (fun r10 M9 => ?_)
      refine kr_istore (lv' := [(4, .int r10), (0, kr_r E 0), (1, .int p1), (2, .int p2), (3, .int p3)]) dX11_tie_41 (by decide) rfl ?_
      refine kr_iload dX11_tie_43 0 rfl ?_
      refine kr_iconst (v := -1) dX11_tie_45 (by decide) ?_
      refine kr_icmp_ne (tgt := 52) dX11_tie_46 (by decide) ?_ ?_
      · refine kr_aload_n dX11_tie_52 rfl 1 rfl ?_
        refine kr_getG (o := 0) (ci := 11) (j := 1) dX11_tie_53 kr_at_0 fl_RX11_19 rfl (fun g11 h_g11 => ?_)
        refine kr_Vi (As := []) (st := []) zv_X2_isTired dX11_tie_56 ml_RX11_374 h_g11 (r_X2_isTired E g11 h_g11 M9) rfl rfl (Nat.le_of_ble_eq_true rfl) rfl (by decide) (Nat.le_of_ble_eq_true rfl) (fun r13 M12 => ?_)
        refine kr_if_eq (tgt := 65) dX11_tie_59 (by decide) ?_ ?_
        · refine kr_aload_n dX11_tie_65 rfl 1 rfl ?_
          refine kr_getG (o := 0) (ci := 11) (j := 1) dX11_tie_66 kr_at_0 fl_RX11_19 rfl (fun g14 h_g14 => ?_)
          refine kr_iconst (v := 1) dX11_tie_69 (by decide) ?_
          refine kr_iload_n dX11_tie_70 rfl 2 rfl ?_
          refine kr_iload_n dX11_tie_71 rfl 3 rfl ?_
          refine kr_iload_n dX11_tie_72 rfl 4 rfl ?_
          refine kr_Vv (As := [.int (1 : Int32), .int p1, .int p2, .int p3]) (st := []) zv_X2_act dX11_tie_73 ml_RX11_377 h_g14 (r_X2_act E g14 h_g14 (1 : Int32) p1 p2 p3 M12) rfl rfl (Nat.le_of_ble_eq_true rfl) rfl (by decide) (Nat.le_of_ble_eq_true rfl) (fun M15 => ?_)
          refine kr_iload dX11_tie_76 0 rfl ?_
          exact kr_iret dX11_tie_78 rfl
        · refine kr_bipush (v := -5) dX11_tie_62 (by decide) ?_
          exact kr_iret dX11_tie_64 rfl
      · refine kr_bipush (v := -2) dX11_tie_49 (by decide) ?_
        exact kr_iret dX11_tie_51 rfl
    · refine kr_bipush (v := -2) dX11_tie_22 (by decide) ?_
      exact kr_iret dX11_tie_24 rfl
