theorem dX12_wet_0 : decode cX12_wet 0 = .ok (.aload_n 0, 1) := by decide +kernel
theorem dX12_wet_1 : decode cX12_wet 1 = .ok (.iconst 0, 1) := by decide +kernel
theorem dX12_wet_2 : decode cX12_wet 2 = .ok (.putfield 138, 3) := by decide +kernel
theorem dX12_wet_5 : decode cX12_wet 5 = .ok (.aload_n 0, 1) := by decide +kernel
theorem dX12_wet_6 : decode cX12_wet 6 = .ok (.invokevirtual 381, 3) := by decide +kernel
theorem dX12_wet_9 : decode cX12_wet 9 = .ok (.ifCond .eq 13, 3) := by decide +kernel
theorem dX12_wet_12 : decode cX12_wet 12 = .ok (.iload_n 1, 1) := by decide +kernel
theorem dX12_wet_13 : decode cX12_wet 13 = .ok (.i2l, 1) := by decide +kernel
theorem dX12_wet_14 : decode cX12_wet 14 = .ok (.lconst 0, 1) := by decide +kernel
theorem dX12_wet_15 : decode cX12_wet 15 = .ok (.lconst 1, 1) := by decide +kernel
theorem dX12_wet_16 : decode cX12_wet 16 = .ok (.invokestatic 143, 3) := by decide +kernel
theorem dX12_wet_19 : decode cX12_wet 19 = .ok (.ifCond .ne 6, 3) := by decide +kernel
theorem dX12_wet_22 : decode cX12_wet 22 = .ok (.bipush (-2), 2) := by decide +kernel
theorem dX12_wet_24 : decode cX12_wet 24 = .ok (.ireturn, 1) := by decide +kernel
theorem dX12_wet_25 : decode cX12_wet 25 = .ok (.aload_n 0, 1) := by decide +kernel
theorem dX12_wet_26 : decode cX12_wet 26 = .ok (.invokevirtual 337, 3) := by decide +kernel
theorem dX12_wet_29 : decode cX12_wet 29 = .ok (.aload_n 0, 1) := by decide +kernel
theorem dX12_wet_30 : decode cX12_wet 30 = .ok (.invokevirtual 504, 3) := by decide +kernel
theorem dX12_wet_33 : decode cX12_wet 33 = .ok (.ifCond .eq 6, 3) := by decide +kernel
theorem dX12_wet_36 : decode cX12_wet 36 = .ok (.bipush (-5), 2) := by decide +kernel
theorem dX12_wet_38 : decode cX12_wet 38 = .ok (.ireturn, 1) := by decide +kernel
theorem dX12_wet_39 : decode cX12_wet 39 = .ok (.aload_n 0, 1) := by decide +kernel
theorem dX12_wet_40 : decode cX12_wet 40 = .ok (.iconst 4, 1) := by decide +kernel
theorem dX12_wet_41 : decode cX12_wet 41 = .ok (.iload_n 1, 1) := by decide +kernel
theorem dX12_wet_42 : decode cX12_wet 42 = .ok (.iconst 0, 1) := by decide +kernel
theorem dX12_wet_43 : decode cX12_wet 43 = .ok (.iconst 0, 1) := by decide +kernel
theorem dX12_wet_44 : decode cX12_wet 44 = .ok (.invokevirtual 507, 3) := by decide +kernel
theorem dX12_wet_47 : decode cX12_wet 47 = .ok (.aload_n 0, 1) := by decide +kernel
theorem dX12_wet_48 : decode cX12_wet 48 = .ok (.getfield 322, 3) := by decide +kernel
theorem dX12_wet_51 : decode cX12_wet 51 = .ok (.ireturn, 1) := by decide +kernel
theorem r_X12_wet (E : kr_E) (p1 : Int32) (M : kr_M) : kR kr_vi E Y_X12_wet 4 0 [(0, kr_r E 346), (1, .int p1)] [] M (f_X12_wet p1 M) := by
  rw [f_X12_wet]
  refine kr_aload_n dX12_wet_0 rfl 0 rfl ?_
  refine kr_iconst (v := 0) dX12_wet_1 (by decide) ?_
  refine kr_putI (ci := 12) (j := 0) dX12_wet_2 kr_at_346 fl_RX12_138 rfl rfl (fun M1 => ?_)
  refine kr_aload_n dX12_wet_5 rfl 0 rfl ?_
  refine kr_Vi (As := []) (st := []) zv_X12_isGorge dX12_wet_6 ml_RX12_381 kr_at_346 (r_X12_isGorge E  M1) rfl rfl (Nat.le_of_ble_eq_true rfl) rfl (by decide) (Nat.le_of_ble_eq_true rfl) (fun r3 M2 => ?_)
  refine kr_if_eq (tgt := 22) dX12_wet_9 (by decide) ?_ ?_
  · refine kr_bipush (v := -2) dX12_wet_22 (by decide) ?_
    exact kr_iret dX12_wet_24 rfl
  · refine kr_iload_n dX12_wet_12 rfl 1 rfl ?_
    refine kr_i2l dX12_wet_13 ?_
    refine kr_lconst (v := 0) dX12_wet_14 (by decide) ?_
    refine kr_lconst (v := 1) dX12_wet_15 (by decide) ?_
    refine kr_Si (As := [.long (p1.toInt64), .long (0 : Int64), .long (1 : Int64)]) (st := []) zs_X12_in dX12_wet_16 ml_RX12_143 (r_X12_in E (p1.toInt64) (0 : Int64) (1 : Int64) M2) rfl rfl (Nat.le_of_ble_eq_true rfl) rfl (by decide) (Nat.le_of_ble_eq_true rfl) (fun r5 M4 => ?_)
    refine kr_if_ne (tgt := 25) dX12_wet_19 (by decide) ?_ ?_
    · refine kr_aload_n dX12_wet_25 rfl 0 rfl ?_
      refine kr_Vv (As := []) (st := []) zv_X12_lays dX12_wet_26 ml_RX12_337 kr_at_346 (r_X12_lays E  M4) rfl rfl (Nat.le_of_ble_eq_true rfl) rfl (by decide) (Nat.le_of_ble_eq_true rfl) (fun M6 => ?_)
      refine kr_aload_n dX12_wet_29 rfl 0 rfl ?_
      refine kr_Vi (As := []) (st := []) zv_X12_isFull dX12_wet_30 ml_RX12_504 kr_at_346 (r_X12_isFull E  M6) rfl rfl (Nat.le_of_ble_eq_true rfl) rfl (by decide) (Nat.le_of_ble_eq_true rfl) (fun r9 M8 => ?_)
      refine kr_if_eq (tgt := 39) dX12_wet_33 (by decide) ?_ ?_
      · refine kr_aload_n dX12_wet_39 rfl 0 rfl ?_
        refine kr_iconst (v := 4) dX12_wet_40 (by decide) ?_
        refine kr_iload_n dX12_wet_41 rfl 1 rfl ?_
        refine kr_iconst (v := 0) dX12_wet_42 (by decide) ?_
        refine kr_iconst (v := 0) dX12_wet_43 (by decide) ?_
        refine kr_Vv (As := [.int (4 : Int32), .int p1, .int (0 : Int32), .int (0 : Int32)]) (st := []) zv_X12_acts dX12_wet_44 ml_RX12_507 kr_at_346 (r_X12_acts E (4 : Int32) p1 (0 : Int32) (0 : Int32) M8) rfl rfl (Nat.le_of_ble_eq_true rfl) rfl (by decide) (Nat.le_of_ble_eq_true rfl) (fun M10 => ?_)
        refine kr_aload_n dX12_wet_47 rfl 0 rfl ?_
        refine kr_getI (ci := 12) (j := 32) dX12_wet_48 kr_at_346 fl_RX12_322 rfl (fun v12 => ?_)
        exact kr_iret dX12_wet_51 rfl
      · refine kr_bipush (v := -5) dX12_wet_36 (by decide) ?_
        exact kr_iret dX12_wet_38 rfl
    · refine kr_bipush (v := -2) dX12_wet_22 (by decide) ?_
      exact kr_iret dX12_wet_24 rfl
theorem dX12_undo_0 : decode cX12_undo 0 = .ok (.aload_n 0, 1) := by decide +kernel
theorem dX12_undo_1 : decode cX12_undo 1 = .ok (.iconst 0, 1) := by decide +kernel
theorem dX12_undo_2 : decode cX12_undo 2 = .ok (.putfield 138, 3) := by decide +kernel
theorem dX12_undo_5 : decode cX12_undo 5 = .ok (.aload_n 0, 1) := by decide +kernel
theorem dX12_undo_6 : decode cX12_undo 6 = .ok (.invokevirtual 381, 3) := by decide +kernel
theorem dX12_undo_9 : decode cX12_undo 9 = .ok (.ifCond .ne 6, 3) := by decide +kernel
theorem dX12_undo_12 : decode cX12_undo 12 = .ok (.bipush (-2), 2) := by decide +kernel
theorem dX12_undo_14 : decode cX12_undo 14 = .ok (.ireturn, 1) := by decide +kernel
theorem dX12_undo_15 : decode cX12_undo 15 = .ok (.aload_n 0, 1) := by decide +kernel
theorem dX12_undo_16 : decode cX12_undo 16 = .ok (.getfield 34, 3) := by decide +kernel
theorem dX12_undo_19 : decode cX12_undo 19 = .ok (.bipush 7, 2) := by decide +kernel
theorem dX12_undo_21 : decode cX12_undo 21 = .ok (.iaload, 1) := by decide +kernel
theorem dX12_undo_22 : decode cX12_undo 22 = .ok (.ifCond .ne 6, 3) := by decide +kernel
theorem dX12_undo_25 : decode cX12_undo 25 = .ok (.bipush (-5), 2) := by decide +kernel
theorem dX12_undo_27 : decode cX12_undo 27 = .ok (.ireturn, 1) := by decide +kernel
theorem dX12_undo_28 : decode cX12_undo 28 = .ok (.aload_n 0, 1) := by decide +kernel
theorem dX12_undo_29 : decode cX12_undo 29 = .ok (.getfield 34, 3) := by decide +kernel
theorem dX12_undo_32 : decode cX12_undo 32 = .ok (.bipush 7, 2) := by decide +kernel
theorem dX12_undo_34 : decode cX12_undo 34 = .ok (.dup2, 1) := by decide +kernel
theorem dX12_undo_35 : decode cX12_undo 35 = .ok (.iaload, 1) := by decide +kernel
theorem dX12_undo_36 : decode cX12_undo 36 = .ok (.iconst 1, 1) := by decide +kernel
theorem dX12_undo_37 : decode cX12_undo 37 = .ok (.isub, 1) := by decide +kernel
theorem dX12_undo_38 : decode cX12_undo 38 = .ok (.iastore, 1) := by decide +kernel
theorem dX12_undo_39 : decode cX12_undo 39 = .ok (.aload_n 0, 1) := by decide +kernel
theorem dX12_undo_40 : decode cX12_undo 40 = .ok (.getfield 34, 3) := by decide +kernel
theorem dX12_undo_43 : decode cX12_undo 43 = .ok (.bipush 7, 2) := by decide +kernel
theorem dX12_undo_45 : decode cX12_undo 45 = .ok (.iaload, 1) := by decide +kernel
theorem dX12_undo_46 : decode cX12_undo 46 = .ok (.ireturn, 1) := by decide +kernel
theorem r_X12_undo (E : kr_E)  (M : kr_M) : kR kr_vi E Y_X12_undo 2 0 [(0, kr_r E 346)] [] M (f_X12_undo M) := by
  rw [f_X12_undo]
  refine kr_aload_n dX12_undo_0 rfl 0 rfl ?_
  refine kr_iconst (v := 0) dX12_undo_1 (by decide) ?_
  refine kr_putI (ci := 12) (j := 0) dX12_undo_2 kr_at_346 fl_RX12_138 rfl rfl (fun M1 => ?_)
  refine kr_aload_n dX12_undo_5 rfl 0 rfl ?_
  refine kr_Vi (As := []) (st := []) zv_X12_isGorge dX12_undo_6 ml_RX12_381 kr_at_346 (r_X12_isGorge E  M1) rfl rfl (Nat.le_of_ble_eq_true rfl) rfl (by decide) (Nat.le_of_ble_eq_true rfl) (fun r3 M2 => ?_)
  refine kr_if_ne (tgt := 15) dX12_undo_9 (by decide) ?_ ?_
  · refine kr_aload_n dX12_undo_15 rfl 0 rfl ?_
    refine kr_getA (o := 7) (ci := 12) (j := 17) dX12_undo_16 kr_at_346 fl_RX12_34 rfl ?_
    refine kr_bipush (v := 7) dX12_undo_19 (by decide) ?_
    refine kr_iald dX12_undo_21 kr_at_353 (fun v4 => ?_)
    refine kr_if_ne (tgt := 28) dX12_undo_22 (by decide) ?_ ?_
    · refine kr_aload_n dX12_undo_28 rfl 0 rfl ?_
      refine kr_getA (o := 7) (ci := 12) (j := 17) dX12_undo_29 kr_at_346 fl_RX12_34 rfl ?_
      refine kr_bipush (v := 7) dX12_undo_32 (by decide) ?_
      refine kr_dup2 dX12_undo_34 rfl rfl ?_
      refine kr_iald dX12_undo_35 kr_at_353 (fun v5 => ?_)
      refine kr_iconst (v := 1) dX12_undo_36 (by decide) ?_
      refine kr_isub dX12_undo_37 ?_
      refine kr_iast dX12_undo_38 kr_at_353 (fun M6 => ?_)
      refine kr_aload_n dX12_undo_39 rfl 0 rfl ?_
      refine kr_getA (o := 7) (ci := 12) (j := 17) dX12_undo_40 kr_at_346 fl_RX12_34 rfl ?_
      refine kr_bipush (v := 7) dX12_undo_43 (by decide) ?_
      refine kr_iald dX12_undo_45 kr_at_353 (fun v7 => ?_)
      exact kr_iret dX12_undo_46 rfl
    · refine kr_bipush (v := -5) dX12_undo_25 (by decide) ?_
      exact kr_iret dX12_undo_27 rfl
  · refine kr_bipush (v := -2) dX12_undo_12 (by decide) ?_
    exact kr_iret dX12_undo_14 rfl
theorem dX12_anew_0 : decode cX12_anew 0 = .ok (.aload_n 0, 1) := by decide +kernel
theorem dX12_anew_1 : decode cX12_anew 1 = .ok (.iconst 0, 1) := by decide +kernel
theorem dX12_anew_2 : decode cX12_anew 2 = .ok (.putfield 138, 3) := by decide +kernel
theorem dX12_anew_5 : decode cX12_anew 5 = .ok (.aload_n 0, 1) := by decide +kernel
theorem dX12_anew_6 : decode cX12_anew 6 = .ok (.invokevirtual 381, 3) := by decide +kernel
theorem dX12_anew_9 : decode cX12_anew 9 = .ok (.ifCond .ne 6, 3) := by decide +kernel
theorem dX12_anew_12 : decode cX12_anew 12 = .ok (.bipush (-2), 2) := by decide +kernel
theorem dX12_anew_14 : decode cX12_anew 14 = .ok (.ireturn, 1) := by decide +kernel
theorem dX12_anew_15 : decode cX12_anew 15 = .ok (.aload_n 0, 1) := by decide +kernel
theorem dX12_anew_16 : decode cX12_anew 16 = .ok (.getfield 34, 3) := by decide +kernel
theorem dX12_anew_19 : decode cX12_anew 19 = .ok (.bipush 7, 2) := by decide +kernel
theorem dX12_anew_21 : decode cX12_anew 21 = .ok (.iaload, 1) := by decide +kernel
theorem dX12_anew_22 : decode cX12_anew 22 = .ok (.istore_n 1, 1) := by decide +kernel
theorem dX12_anew_23 : decode cX12_anew 23 = .ok (.aload_n 0, 1) := by decide +kernel
theorem dX12_anew_24 : decode cX12_anew 24 = .ok (.getfield 34, 3) := by decide +kernel
theorem dX12_anew_27 : decode cX12_anew 27 = .ok (.bipush 7, 2) := by decide +kernel
theorem dX12_anew_29 : decode cX12_anew 29 = .ok (.iconst 0, 1) := by decide +kernel
theorem dX12_anew_30 : decode cX12_anew 30 = .ok (.iastore, 1) := by decide +kernel
theorem dX12_anew_31 : decode cX12_anew 31 = .ok (.iload_n 1, 1) := by decide +kernel
theorem dX12_anew_32 : decode cX12_anew 32 = .ok (.ireturn, 1) := by decide +kernel
theorem r_X12_anew (E : kr_E)  (M : kr_M) : kR kr_vi E Y_X12_anew 2 0 [(0, kr_r E 346)] [] M (f_X12_anew M) := by
  rw [f_X12_anew]
  refine kr_aload_n dX12_anew_0 rfl 0 rfl ?_
  refine kr_iconst (v := 0) dX12_anew_1 (by decide) ?_
  refine kr_putI (ci := 12) (j := 0) dX12_anew_2 kr_at_346 fl_RX12_138 rfl rfl (fun M1 => ?_)
  refine kr_aload_n dX12_anew_5 rfl 0 rfl ?_
  refine kr_Vi (As := []) (st := []) zv_X12_isGorge dX12_anew_6 ml_RX12_381 kr_at_346 (r_X12_isGorge E  M1) rfl rfl (Nat.le_of_ble_eq_true rfl) rfl (by decide) (Nat.le_of_ble_eq_true rfl) (fun r3 M2 => ?_)
  refine kr_if_ne (tgt := 15) dX12_anew_9 (by decide) ?_ ?_
  · refine kr_aload_n dX12_anew_15 rfl 0 rfl ?_
    refine kr_getA (o := 7) (ci := 12) (j := 17) dX12_anew_16 kr_at_346 fl_RX12_34 rfl ?_
    refine kr_bipush (v := 7) dX12_anew_19 (by decide) ?_
    refine kr_iald dX12_anew_21 kr_at_353 (fun v4 => ?_)
    refine kr_istore_n (lv' := [(1, .int v4), (0, kr_r E 346)]) dX12_anew_22 rfl (by decide) rfl ?_
    refine kr_aload_n dX12_anew_23 rfl 1 rfl ?_
    refine kr_getA (o := 7) (ci := 12) (j := 17) dX12_anew_24 kr_at_346 fl_RX12_34 rfl ?_
    refine kr_bipush (v := 7) dX12_anew_27 (by decide) ?_
    refine kr_iconst (v := 0) dX12_anew_29 (by decide) ?_
    refine kr_iast dX12_anew_30 kr_at_353 (fun M5 => ?_)
    refine kr_iload_n dX12_anew_31 rfl 0 rfl ?_
    exact kr_iret dX12_anew_32 rfl
  · refine kr_bipush (v := -2) dX12_anew_12 (by decide) ?_
    exact kr_iret dX12_anew_14 rfl
theorem dX12_draws_0 : decode cX12_draws 0 = .ok (.aload_n 0, 1) := by decide +kernel
theorem dX12_draws_1 : decode cX12_draws 1 = .ok (.invokevirtual 337, 3) := by decide +kernel
theorem dX12_draws_4 : decode cX12_draws 4 = .ok (.aload_n 0, 1) := by decide +kernel
theorem dX12_draws_5 : decode cX12_draws 5 = .ok (.iload_n 3, 1) := by decide +kernel
theorem dX12_draws_6 : decode cX12_draws 6 = .ok (.iconst 0, 1) := by decide +kernel
theorem dX12_draws_7 : decode cX12_draws 7 = .ok (.invokevirtual 358, 3) := by decide +kernel
theorem dX12_draws_10 : decode cX12_draws 10 = .ok (.lload_n 1, 1) := by decide +kernel
theorem dX12_draws_11 : decode cX12_draws 11 = .ok (.lstore 4, 2) := by decide +kernel
theorem dX12_draws_13 : decode cX12_draws 13 = .ok (.aload_n 0, 1) := by decide +kernel
theorem dX12_draws_14 : decode cX12_draws 14 = .ok (.iconst 0, 1) := by decide +kernel
theorem dX12_draws_15 : decode cX12_draws 15 = .ok (.putfield 510, 3) := by decide +kernel
theorem dX12_draws_18 : decode cX12_draws 18 = .ok (.iconst 0, 1) := by decide +kernel
theorem dX12_draws_19 : decode cX12_draws 19 = .ok (.istore 6, 2) := by decide +kernel
theorem dX12_draws_21 : decode cX12_draws 21 = .ok (.iload 6, 2) := by decide +kernel
theorem dX12_draws_23 : decode cX12_draws 23 = .ok (.aload_n 0, 1) := by decide +kernel
theorem dX12_draws_24 : decode cX12_draws 24 = .ok (.getfield 351, 3) := by decide +kernel
theorem dX12_draws_27 : decode cX12_draws 27 = .ok (.if_icmp .ge 102, 3) := by decide +kernel
theorem dX12_draws_30 : decode cX12_draws 30 = .ok (.ldc2_w 513, 3) := by decide +kernel
theorem dX12_draws_33 : decode cX12_draws 33 = .ok (.lload 4, 2) := by decide +kernel
theorem dX12_draws_35 : decode cX12_draws 35 = .ok (.lmul, 1) := by decide +kernel
theorem dX12_draws_36 : decode cX12_draws 36 = .ok (.ldc2_w 515, 3) := by decide +kernel
theorem dX12_draws_39 : decode cX12_draws 39 = .ok (.ladd, 1) := by decide +kernel
theorem dX12_draws_40 : decode cX12_draws 40 = .ok (.ldc2_w 517, 3) := by decide +kernel
theorem dX12_draws_43 : decode cX12_draws 43 = .ok (.lrem, 1) := by decide +kernel
theorem dX12_draws_44 : decode cX12_draws 44 = .ok (.lstore 4, 2) := by decide +kernel
theorem dX12_draws_46 : decode cX12_draws 46 = .ok (.lload 4, 2) := by decide +kernel
theorem dX12_draws_48 : decode cX12_draws 48 = .ok (.ldc2_w 519, 3) := by decide +kernel
theorem dX12_draws_51 : decode cX12_draws 51 = .ok (.ldiv, 1) := by decide +kernel
theorem dX12_draws_52 : decode cX12_draws 52 = .ok (.ldc2_w 521, 3) := by decide +kernel
theorem dX12_draws_55 : decode cX12_draws 55 = .ok (.lrem, 1) := by decide +kernel
theorem dX12_draws_56 : decode cX12_draws 56 = .ok (.aload_n 0, 1) := by decide +kernel
theorem dX12_draws_57 : decode cX12_draws 57 = .ok (.getfield 34, 3) := by decide +kernel
theorem dX12_draws_60 : decode cX12_draws 60 = .ok (.iconst 2, 1) := by decide +kernel
theorem dX12_draws_61 : decode cX12_draws 61 = .ok (.iaload, 1) := by decide +kernel
theorem dX12_draws_62 : decode cX12_draws 62 = .ok (.i2l, 1) := by decide +kernel
theorem dX12_draws_63 : decode cX12_draws 63 = .ok (.lcmp, 1) := by decide +kernel
theorem dX12_draws_64 : decode cX12_draws 64 = .ok (.ifCond .lt 6, 3) := by decide +kernel
theorem dX12_draws_67 : decode cX12_draws 67 = .ok (.goto 56, 3) := by decide +kernel
theorem dX12_draws_70 : decode cX12_draws 70 = .ok (.aload_n 0, 1) := by decide +kernel
theorem dX12_draws_71 : decode cX12_draws 71 = .ok (.getfield 80, 3) := by decide +kernel
theorem dX12_draws_74 : decode cX12_draws 74 = .ok (.iload 6, 2) := by decide +kernel
theorem dX12_draws_76 : decode cX12_draws 76 = .ok (.iaload, 1) := by decide +kernel
theorem dX12_draws_77 : decode cX12_draws 77 = .ok (.istore 7, 2) := by decide +kernel
theorem dX12_draws_79 : decode cX12_draws 79 = .ok (.aload_n 0, 1) := by decide +kernel
theorem dX12_draws_80 : decode cX12_draws 80 = .ok (.getfield 80, 3) := by decide +kernel
theorem dX12_draws_83 : decode cX12_draws 83 = .ok (.iload 6, 2) := by decide +kernel
theorem dX12_draws_85 : decode cX12_draws 85 = .ok (.iload 7, 2) := by decide +kernel
theorem dX12_draws_87 : decode cX12_draws 87 = .ok (.iconst 1, 1) := by decide +kernel
theorem dX12_draws_88 : decode cX12_draws 88 = .ok (.iadd, 1) := by decide +kernel
theorem dX12_draws_89 : decode cX12_draws 89 = .ok (.aload_n 0, 1) := by decide +kernel
theorem dX12_draws_90 : decode cX12_draws 90 = .ok (.getfield 34, 3) := by decide +kernel
theorem dX12_draws_93 : decode cX12_draws 93 = .ok (.iconst 3, 1) := by decide +kernel
theorem dX12_draws_94 : decode cX12_draws 94 = .ok (.iaload, 1) := by decide +kernel
theorem dX12_draws_95 : decode cX12_draws 95 = .ok (.irem, 1) := by decide +kernel
theorem dX12_draws_96 : decode cX12_draws 96 = .ok (.iastore, 1) := by decide +kernel
theorem dX12_draws_97 : decode cX12_draws 97 = .ok (.aload_n 0, 1) := by decide +kernel
theorem dX12_draws_98 : decode cX12_draws 98 = .ok (.dup, 1) := by decide +kernel
theorem dX12_draws_99 : decode cX12_draws 99 = .ok (.getfield 510, 3) := by decide +kernel
theorem dX12_draws_102 : decode cX12_draws 102 = .ok (.aload_n 0, 1) := by decide +kernel
theorem dX12_draws_103 : decode cX12_draws 103 = .ok (.getfield 80, 3) := by decide +kernel
theorem dX12_draws_106 : decode cX12_draws 106 = .ok (.iload 6, 2) := by decide +kernel
theorem dX12_draws_108 : decode cX12_draws 108 = .ok (.iaload, 1) := by decide +kernel
theorem dX12_draws_109 : decode cX12_draws 109 = .ok (.iload 7, 2) := by decide +kernel
theorem dX12_draws_111 : decode cX12_draws 111 = .ok (.if_icmp .eq 7, 3) := by decide +kernel
theorem dX12_draws_114 : decode cX12_draws 114 = .ok (.iconst 1, 1) := by decide +kernel
theorem dX12_draws_115 : decode cX12_draws 115 = .ok (.goto 4, 3) := by decide +kernel
theorem dX12_draws_118 : decode cX12_draws 118 = .ok (.iconst 0, 1) := by decide +kernel
theorem dX12_draws_119 : decode cX12_draws 119 = .ok (.iadd, 1) := by decide +kernel
theorem dX12_draws_120 : decode cX12_draws 120 = .ok (.putfield 510, 3) := by decide +kernel
theorem dX12_draws_123 : decode cX12_draws 123 = .ok (.iinc 6 1, 3) := by decide +kernel
theorem dX12_draws_126 : decode cX12_draws 126 = .ok (.goto (-105), 3) := by decide +kernel
theorem dX12_draws_129 : decode cX12_draws 129 = .ok (.aload_n 0, 1) := by decide +kernel
theorem dX12_draws_130 : decode cX12_draws 130 = .ok (.invokevirtual 361, 3) := by decide +kernel
theorem dX12_draws_133 : decode cX12_draws 133 = .ok (.return_, 1) := by decide +kernel
theorem r_X12_draws_129 (E : kr_E)    (M : kr_M) : kR kr_vv E Y_X12_draws 4 129 [(0, kr_r E 346)] [] M (f_X12_draws_129 M) := by
  rw [f_X12_draws_129]
  refine kr_aload_n dX12_draws_129 rfl 0 rfl ?_
  refine kr_Vv (As := []) (st := []) zv_X12_readings dX12_draws_130 ml_RX12_361 kr_at_346 (r_X12_readings E  M) rfl rfl (Nat.le_of_ble_eq_true rfl) rfl (by decide) (Nat.le_of_ble_eq_true rfl) (fun M1 => ?_)
  exact kr_vret dX12_draws_133 rfl
theorem r_X12_draws_123 (E : kr_E) (k_21 : Int64 → Int32 → kr_M → Option kr_M) (l4 : Int64) (l6 : Int32) (hk_21 : ∀ (x4 : Int64) (x6 : Int32) (M : kr_M), kR kr_vv E Y_X12_draws 4 21 [(0, kr_r E 346), (4, .long x4), (6, .int x6)] [] M (k_21 x4 x6 M)) (M : kr_M) : kR kr_vv E Y_X12_draws 4 123 [(0, kr_r E 346), (4, .long l4), (6, .int l6)] [] M (f_X12_draws_123 k_21 l4 l6 M) := by
  rw [f_X12_draws_123]
  refine kr_iinc (j := 2) (v := (l6 + (1 : Int32))) (lv' := [(6, .int (l6 + (1 : Int32))), (0, kr_r E 346), (4, .long l4)]) dX12_draws_123 rfl rfl (by decide) rfl ?_
  refine kr_goto (tgt := 21) dX12_draws_126 (by decide) ?_
  refine kr_sub [1, 2, 0] rfl ?_
  exact hk_21 l4 (l6 + (1 : Int32)) M
theorem r_X12_draws_119 (E : kr_E) (k_21 : Int64 → Int32 → kr_M → Option kr_M) (l4 : Int64) (l6 : Int32) (s0 : Int32) (s1 : Int32) (hk_21 : ∀ (x4 : Int64) (x6 : Int32) (M : kr_M), kR kr_vv E Y_X12_draws 4 21 [(0, kr_r E 346), (4, .long x4), (6, .int x6)] [] M (k_21 x4 x6 M)) (M : kr_M) : kR kr_vv E Y_X12_draws 4 119 [(0, kr_r E 346), (4, .long l4), (6, .int l6)] [.int s0, .int s1, kr_r E 346] M (f_X12_draws_119 k_21 l4 l6 s0 s1 M) := by
  rw [f_X12_draws_119]
  refine kr_iadd dX12_draws_119 ?_
  refine kr_putI (ci := 12) (j := 58) dX12_draws_120 kr_at_346 fl_RX12_510 rfl rfl (fun M1 => ?_)
  refine kr_sub [0, 1, 2] rfl ?_
  exact r_X12_draws_123 E _ l4 l6 hk_21 M1
theorem r_X12_draws_21 (E : kr_E)    : ∀ (n : Nat) (l4 : Int64) (l6 : Int32) (M : kr_M), kR kr_vv E Y_X12_draws 4 21 [(0, kr_r E 346), (4, .long l4), (6, .int l6)] [] M (f_X12_draws_21 n l4 l6 M) := by
  intro n
  induction n with
  | zero => intro l4 l6 M; exact kr_none
  | succ n ih =>
    intro l4 l6 M
    rw [f_X12_draws_21]
    refine kr_iload dX12_draws_21 2 rfl ?_
    refine kr_aload_n dX12_draws_23 rfl 0 rfl ?_
    refine kr_getI (ci := 12) (j := 34) dX12_draws_24 kr_at_346 fl_RX12_351 rfl (fun v1 => ?_)
    refine kr_icmp_ge (tgt := 129) dX12_draws_27 (by decide) ?_ ?_
    · refine kr_sub [0] rfl ?_
      exact r_X12_draws_129 E M
    · refine kr_ldc2 dX12_draws_30 kl_RX12_513 ?_
      refine kr_lload dX12_draws_33 1 rfl ?_
      refine kr_lmul dX12_draws_35 ?_
      refine kr_ldc2 dX12_draws_36 kl_RX12_515 ?_
      refine kr_ladd dX12_draws_39 ?_
      refine kr_ldc2 dX12_draws_40 kl_RX12_517 ?_
      refine kr_lrem dX12_draws_43 (fun n2 => ?_)
      refine kr_nml (fun v3 => ?_)
      refine kr_lstore (lv' := [(4, .long v3), (0, kr_r E 346), (6, .int l6)]) dX12_draws_44 (by decide) rfl ?_
      refine kr_lload dX12_draws_46 0 rfl ?_
      refine kr_ldc2 dX12_draws_48 kl_RX12_519 ?_
      refine kr_ldiv dX12_draws_51 (fun n4 => ?_)
      refine kr_ldc2 dX12_draws_52 kl_RX12_521 ?_
      refine kr_lrem dX12_draws_55 (fun n5 => ?_)
      refine kr_aload_n dX12_draws_56 rfl 1 rfl ?_
      refine kr_getA (o := 7) (ci := 12) (j := 17) dX12_draws_57 kr_at_346 fl_RX12_34 rfl ?_
      refine kr_iconst (v := 2) dX12_draws_60 (by decide) ?_
      refine kr_iald dX12_draws_61 kr_at_353 (fun v6 => ?_)
      refine kr_i2l dX12_draws_62 ?_
      refine kr_lcmp dX12_draws_63 ?_
      refine kr_if_lt (tgt := 70) dX12_draws_64 (by decide) ?_ ?_
      · refine kr_aload_n dX12_draws_70 rfl 1 rfl ?_
        refine kr_getA (o := 22) (ci := 12) (j := 33) dX12_draws_71 kr_at_346 fl_RX12_80 rfl ?_
        refine kr_iload dX12_draws_74 2 rfl ?_
        refine kr_iald dX12_draws_76 kr_at_368 (fun v7 => ?_)
        refine kr_istore (lv' := [(7, .int v7), (4, .long v3), (0, kr_r E 346), (6, .int l6)]) dX12_draws_77 (by decide) rfl ?_
        refine kr_aload_n dX12_draws_79 rfl 2 rfl ?_
        refine kr_getA (o := 22) (ci := 12) (j := 33) dX12_draws_80 kr_at_346 fl_RX12_80 rfl ?_
        refine kr_iload dX12_draws_83 3 rfl ?_
        refine kr_iload dX12_draws_85 0 rfl ?_
        refine kr_iconst (v := 1) dX12_draws_87 (by decide) ?_
        refine kr_iadd dX12_draws_88 ?_
        refine kr_aload_n dX12_draws_89 rfl 2 rfl ?_
        refine kr_getA (o := 7) (ci := 12) (j := 17) dX12_draws_90 kr_at_346 fl_RX12_34 rfl ?_
        refine kr_iconst (v := 3) dX12_draws_93 (by decide) ?_
        refine kr_iald dX12_draws_94 kr_at_353 (fun v8 => ?_)
        refine kr_irem dX12_draws_95 (fun n9 => ?_)
        refine kr_iast dX12_draws_96 kr_at_368 (fun M10 => ?_)
        refine kr_aload_n dX12_draws_97 rfl 2 rfl ?_
        refine kr_dup dX12_draws_98 rfl ?_
        refine kr_getI (ci := 12) (j := 58) dX12_draws_99 kr_at_346 fl_RX12_510 rfl (fun v11 => ?_)
        refine kr_aload_n dX12_draws_102 rfl 2 rfl ?_
        refine kr_getA (o := 22) (ci := 12) (j := 33) dX12_draws_103 kr_at_346 fl_RX12_80 rfl ?_
        refine kr_iload dX12_draws_106 3 rfl ?_
        refine kr_iald dX12_draws_108 kr_at_368 (fun v12 => ?_)
        refine kr_iload dX12_draws_109 0 rfl ?_
        refine kr_icmp_eq (tgt := 118) dX12_draws_111 (by decide) ?_ ?_
        · refine kr_iconst (v := 0) dX12_draws_118 (by decide) ?_
          refine kr_sub [2, 1, 3] rfl ?_
          exact r_X12_draws_119 E _ v3 l6 (0 : Int32) v11 ih M10
        · refine kr_iconst (v := 1) dX12_draws_114 (by decide) ?_
          refine kr_goto (tgt := 119) dX12_draws_115 (by decide) ?_
          refine kr_sub [2, 1, 3] rfl ?_
          exact r_X12_draws_119 E _ v3 l6 (1 : Int32) v11 ih M10
      · refine kr_goto (tgt := 123) dX12_draws_67 (by decide) ?_
        refine kr_sub [1, 0, 2] rfl ?_
        exact r_X12_draws_123 E _ v3 l6 ih M
theorem r_X12_draws (E : kr_E) (p1 : Int64) (p3 : Int32) (M : kr_M) : kR kr_vv E Y_X12_draws 4 0 [(0, kr_r E 346), (1, .long p1), (3, .int p3)] [] M (f_X12_draws p1 p3 M) := by
  rw [f_X12_draws]
  refine kr_aload_n dX12_draws_0 rfl 0 rfl ?_
  refine kr_Vv (As := []) (st := []) zv_X12_lays dX12_draws_1 ml_RX12_337 kr_at_346 (r_X12_lays E  M) rfl rfl (Nat.le_of_ble_eq_true rfl) rfl (by decide) (Nat.le_of_ble_eq_true rfl) (fun M1 => ?_)
  refine kr_aload_n dX12_draws_4 rfl 0 rfl ?_
  refine kr_iload_n dX12_draws_5 rfl 2 rfl ?_
  refine kr_iconst (v := 0) dX12_draws_6 (by decide) ?_
  refine kr_Vv (As := [.int p3, .int (0 : Int32)]) (st := []) zv_X12_lies dX12_draws_7 ml_RX12_358 kr_at_346 (r_X12_lies E p3 (0 : Int32) M1) rfl rfl (Nat.le_of_ble_eq_true rfl) rfl (by decide) (Nat.le_of_ble_eq_true rfl) (fun M3 => ?_)
  refine kr_lload_n dX12_draws_10 rfl 1 rfl ?_
  refine kr_lstore (lv' := [(4, .long p1), (0, kr_r E 346), (1, .long p1), (3, .int p3)]) dX12_draws_11 (by decide) rfl ?_
  refine kr_aload_n dX12_draws_13 rfl 1 rfl ?_
  refine kr_iconst (v := 0) dX12_draws_14 (by decide) ?_
  refine kr_putI (ci := 12) (j := 58) dX12_draws_15 kr_at_346 fl_RX12_510 rfl rfl (fun M5 => ?_)
  refine kr_iconst (v := 0) dX12_draws_18 (by decide) ?_
  refine kr_istore (lv' := [(6, .int (0 : Int32)), (4, .long p1), (0, kr_r E 346), (1, .long p1), (3, .int p3)]) dX12_draws_19 (by decide) rfl ?_
  refine kr_sub [2, 1, 0] rfl ?_
  exact r_X12_draws_21 E _ p1 (0 : Int32) M5
theorem dX12_isDraw_0 : decode cX12_isDraw 0 = .ok (.aload_n 0, 1) := by decide +kernel
theorem dX12_isDraw_1 : decode cX12_isDraw 1 = .ok (.iload_n 2, 1) := by decide +kernel
theorem dX12_isDraw_2 : decode cX12_isDraw 2 = .ok (.invokevirtual 319, 3) := by decide +kernel
theorem dX12_isDraw_5 : decode cX12_isDraw 5 = .ok (.ifCond .eq 19, 3) := by decide +kernel
theorem dX12_isDraw_8 : decode cX12_isDraw 8 = .ok (.iload_n 1, 1) := by decide +kernel
theorem dX12_isDraw_9 : decode cX12_isDraw 9 = .ok (.i2l, 1) := by decide +kernel
theorem dX12_isDraw_10 : decode cX12_isDraw 10 = .ok (.lconst 0, 1) := by decide +kernel
theorem dX12_isDraw_11 : decode cX12_isDraw 11 = .ok (.ldc2_w 523, 3) := by decide +kernel
theorem dX12_isDraw_14 : decode cX12_isDraw 14 = .ok (.invokestatic 143, 3) := by decide +kernel
theorem dX12_isDraw_17 : decode cX12_isDraw 17 = .ok (.ifCond .eq 7, 3) := by decide +kernel
theorem dX12_isDraw_20 : decode cX12_isDraw 20 = .ok (.iconst 1, 1) := by decide +kernel
theorem dX12_isDraw_21 : decode cX12_isDraw 21 = .ok (.goto 4, 3) := by decide +kernel
theorem dX12_isDraw_24 : decode cX12_isDraw 24 = .ok (.iconst 0, 1) := by decide +kernel
theorem dX12_isDraw_25 : decode cX12_isDraw 25 = .ok (.ireturn, 1) := by decide +kernel
theorem r_X12_isDraw (E : kr_E) (p1 : Int32) (p2 : Int32) (M : kr_M) : kR kr_vi E Y_X12_isDraw 3 0 [(0, kr_r E 346), (1, .int p1), (2, .int p2)] [] M (f_X12_isDraw p1 p2 M) := by
  rw [f_X12_isDraw]
  refine kr_aload_n dX12_isDraw_0 rfl 0 rfl ?_
  refine kr_iload_n dX12_isDraw_1 rfl 2 rfl ?_
  refine kr_Vi (As := [.int p2]) (st := []) zv_X12_isRope dX12_isDraw_2 ml_RX12_319 kr_at_346 (r_X12_isRope E p2 M) rfl rfl (Nat.le_of_ble_eq_true rfl) rfl (by decide) (Nat.le_of_ble_eq_true rfl) (fun r2 M1 => ?_)
  refine kr_if_eq (tgt := 24) dX12_isDraw_5 (by decide) ?_ ?_
  · refine kr_iconst (v := 0) dX12_isDraw_24 (by decide) ?_
    exact kr_zret1 dX12_isDraw_25 rfl rfl
  · refine kr_iload_n dX12_isDraw_8 rfl 1 rfl ?_
    refine kr_i2l dX12_isDraw_9 ?_
    refine kr_lconst (v := 0) dX12_isDraw_10 (by decide) ?_
    refine kr_ldc2 dX12_isDraw_11 kl_RX12_523 ?_
    refine kr_Si (As := [.long (p1.toInt64), .long (0 : Int64), .long (2000000000 : Int64)]) (st := []) zs_X12_in dX12_isDraw_14 ml_RX12_143 (r_X12_in E (p1.toInt64) (0 : Int64) (2000000000 : Int64) M1) rfl rfl (Nat.le_of_ble_eq_true rfl) rfl (by decide) (Nat.le_of_ble_eq_true rfl) (fun r4 M3 => ?_)
    refine kr_if_eq (tgt := 24) dX12_isDraw_17 (by decide) ?_ ?_
    · refine kr_iconst (v := 0) dX12_isDraw_24 (by decide) ?_
      exact kr_zret1 dX12_isDraw_25 rfl rfl
    · refine kr_iconst (v := 1) dX12_isDraw_20 (by decide) ?_
      refine kr_goto (tgt := 25) dX12_isDraw_21 (by decide) ?_
      exact kr_zret1 dX12_isDraw_25 rfl rfl
theorem dX12_drawn_0 : decode cX12_drawn 0 = .ok (.aload_n 0, 1) := by decide +kernel
theorem dX12_drawn_1 : decode cX12_drawn 1 = .ok (.iconst 0, 1) := by decide +kernel
theorem dX12_drawn_2 : decode cX12_drawn 2 = .ok (.putfield 138, 3) := by decide +kernel
theorem dX12_drawn_5 : decode cX12_drawn 5 = .ok (.aload_n 0, 1) := by decide +kernel
theorem dX12_drawn_6 : decode cX12_drawn 6 = .ok (.iload_n 1, 1) := by decide +kernel
theorem dX12_drawn_7 : decode cX12_drawn 7 = .ok (.iload_n 2, 1) := by decide +kernel
theorem dX12_drawn_8 : decode cX12_drawn 8 = .ok (.invokevirtual 525, 3) := by decide +kernel
theorem dX12_drawn_11 : decode cX12_drawn 11 = .ok (.ifCond .eq 15, 3) := by decide +kernel
theorem dX12_drawn_14 : decode cX12_drawn 14 = .ok (.iload_n 3, 1) := by decide +kernel
theorem dX12_drawn_15 : decode cX12_drawn 15 = .ok (.i2l, 1) := by decide +kernel
theorem dX12_drawn_16 : decode cX12_drawn 16 = .ok (.lconst 0, 1) := by decide +kernel
theorem dX12_drawn_17 : decode cX12_drawn 17 = .ok (.ldc2_w 349, 3) := by decide +kernel
theorem dX12_drawn_20 : decode cX12_drawn 20 = .ok (.invokestatic 143, 3) := by decide +kernel
theorem dX12_drawn_23 : decode cX12_drawn 23 = .ok (.ifCond .ne 6, 3) := by decide +kernel
theorem dX12_drawn_26 : decode cX12_drawn 26 = .ok (.bipush (-2), 2) := by decide +kernel
theorem dX12_drawn_28 : decode cX12_drawn 28 = .ok (.ireturn, 1) := by decide +kernel
theorem dX12_drawn_29 : decode cX12_drawn 29 = .ok (.aload_n 0, 1) := by decide +kernel
theorem dX12_drawn_30 : decode cX12_drawn 30 = .ok (.iload_n 1, 1) := by decide +kernel
theorem dX12_drawn_31 : decode cX12_drawn 31 = .ok (.i2l, 1) := by decide +kernel
theorem dX12_drawn_32 : decode cX12_drawn 32 = .ok (.iload_n 2, 1) := by decide +kernel
theorem dX12_drawn_33 : decode cX12_drawn 33 = .ok (.invokevirtual 528, 3) := by decide +kernel
theorem dX12_drawn_36 : decode cX12_drawn 36 = .ok (.iload_n 3, 1) := by decide +kernel
theorem dX12_drawn_37 : decode cX12_drawn 37 = .ok (.ifCond .ne 10, 3) := by decide +kernel
theorem dX12_drawn_40 : decode cX12_drawn 40 = .ok (.aload_n 0, 1) := by decide +kernel
theorem dX12_drawn_41 : decode cX12_drawn 41 = .ok (.getfield 510, 3) := by decide +kernel
theorem dX12_drawn_44 : decode cX12_drawn 44 = .ok (.goto 44, 3) := by decide +kernel
theorem dX12_drawn_47 : decode cX12_drawn 47 = .ok (.iload_n 3, 1) := by decide +kernel
theorem dX12_drawn_48 : decode cX12_drawn 48 = .ok (.iconst 1, 1) := by decide +kernel
theorem dX12_drawn_49 : decode cX12_drawn 49 = .ok (.if_icmp .ne 20, 3) := by decide +kernel
theorem dX12_drawn_52 : decode cX12_drawn 52 = .ok (.aload_n 0, 1) := by decide +kernel
theorem dX12_drawn_53 : decode cX12_drawn 53 = .ok (.getfield 83, 3) := by decide +kernel
theorem dX12_drawn_56 : decode cX12_drawn 56 = .ok (.iconst 0, 1) := by decide +kernel
theorem dX12_drawn_57 : decode cX12_drawn 57 = .ok (.iaload, 1) := by decide +kernel
theorem dX12_drawn_58 : decode cX12_drawn 58 = .ok (.ifCond .le 7, 3) := by decide +kernel
theorem dX12_drawn_61 : decode cX12_drawn 61 = .ok (.iconst 1, 1) := by decide +kernel
theorem dX12_drawn_62 : decode cX12_drawn 62 = .ok (.goto 26, 3) := by decide +kernel
theorem dX12_drawn_65 : decode cX12_drawn 65 = .ok (.iconst 0, 1) := by decide +kernel
theorem dX12_drawn_66 : decode cX12_drawn 66 = .ok (.goto 22, 3) := by decide +kernel
theorem dX12_drawn_69 : decode cX12_drawn 69 = .ok (.aload_n 0, 1) := by decide +kernel
theorem dX12_drawn_70 : decode cX12_drawn 70 = .ok (.getfield 83, 3) := by decide +kernel
theorem dX12_drawn_73 : decode cX12_drawn 73 = .ok (.iconst 0, 1) := by decide +kernel
theorem dX12_drawn_74 : decode cX12_drawn 74 = .ok (.iaload, 1) := by decide +kernel
theorem dX12_drawn_75 : decode cX12_drawn 75 = .ok (.ifCond .le 12, 3) := by decide +kernel
theorem dX12_drawn_78 : decode cX12_drawn 78 = .ok (.aload_n 0, 1) := by decide +kernel
theorem dX12_drawn_79 : decode cX12_drawn 79 = .ok (.getfield 86, 3) := by decide +kernel
theorem dX12_drawn_82 : decode cX12_drawn 82 = .ok (.iconst 0, 1) := by decide +kernel
theorem dX12_drawn_83 : decode cX12_drawn 83 = .ok (.iaload, 1) := by decide +kernel
theorem dX12_drawn_84 : decode cX12_drawn 84 = .ok (.goto 4, 3) := by decide +kernel
theorem dX12_drawn_87 : decode cX12_drawn 87 = .ok (.iconst (-1), 1) := by decide +kernel
theorem dX12_drawn_88 : decode cX12_drawn 88 = .ok (.ireturn, 1) := by decide +kernel
theorem r_X12_drawn (E : kr_E) (p1 : Int32) (p2 : Int32) (p3 : Int32) (M : kr_M) : kR kr_vi E Y_X12_drawn 5 0 [(0, kr_r E 346), (1, .int p1), (2, .int p2), (3, .int p3)] [] M (f_X12_drawn p1 p2 p3 M) := by
  rw [f_X12_drawn]
  refine kr_aload_n dX12_drawn_0 rfl 0 rfl ?_
  refine kr_iconst (v := 0) dX12_drawn_1 (by decide) ?_
  refine kr_putI (ci := 12) (j := 0) dX12_drawn_2 kr_at_346 fl_RX12_138 rfl rfl (fun M1 => ?_)
  refine kr_aload_n dX12_drawn_5 rfl 0 rfl ?_
  refine kr_iload_n dX12_drawn_6 rfl 1 rfl ?_
  refine kr_iload_n dX12_drawn_7 rfl 2 rfl ?_
  refine kr_Vi (As := [.int p1, .int p2]) (st := []) zv_X12_isDraw dX12_drawn_8 ml_RX12_525 kr_at_346 (r_X12_isDraw E p1 p2 M1) rfl rfl (Nat.le_of_ble_eq_true rfl) rfl (by decide) (Nat.le_of_ble_eq_true rfl) (fun r3 M2 => ?_)
  refine kr_if_eq (tgt := 26) dX12_drawn_11 (by decide) ?_ ?_
  · refine kr_bipush (v := -2) dX12_drawn_26 (by decide) ?_
    exact kr_iret dX12_drawn_28 rfl
  · refine kr_iload_n dX12_drawn_14 rfl 3 rfl ?_
    refine kr_i2l dX12_drawn_15 ?_
    refine kr_lconst (v := 0) dX12_drawn_16 (by decide) ?_
    refine kr_ldc2 dX12_drawn_17 kl_RX12_349 ?_
    refine kr_Si (As := [.long (p3.toInt64), .long (0 : Int64), .long (2 : Int64)]) (st := []) zs_X12_in dX12_drawn_20 ml_RX12_143 (r_X12_in E (p3.toInt64) (0 : Int64) (2 : Int64) M2) rfl rfl (Nat.le_of_ble_eq_true rfl) rfl (by decide) (Nat.le_of_ble_eq_true rfl) (fun r5 M4 => ?_)
    refine kr_if_ne (tgt := 29) dX12_drawn_23 (by decide) ?_ ?_
    · refine kr_aload_n dX12_drawn_29 rfl 0 rfl ?_
      refine kr_iload_n dX12_drawn_30 rfl 1 rfl ?_
      refine kr_i2l dX12_drawn_31 ?_
      refine kr_iload_n dX12_drawn_32 rfl 2 rfl ?_
      refine kr_Vv (As := [.long (p1.toInt64), .int p2]) (st := []) zv_X12_draws dX12_drawn_33 ml_RX12_528 kr_at_346 (r_X12_draws E (p1.toInt64) p2 M4) rfl rfl (Nat.le_of_ble_eq_true rfl) rfl (by decide) (Nat.le_of_ble_eq_true rfl) (fun M6 => ?_)
      refine kr_iload_n dX12_drawn_36 rfl 3 rfl ?_
      refine kr_if_ne (tgt := 47) dX12_drawn_37 (by decide) ?_ ?_
      · refine kr_iload_n dX12_drawn_47 rfl 3 rfl ?_
        refine kr_iconst (v := 1) dX12_drawn_48 (by decide) ?_
        refine kr_icmp_ne (tgt := 69) dX12_drawn_49 (by decide) ?_ ?_
        · refine kr_aload_n dX12_drawn_69 rfl 0 rfl ?_
          refine kr_getA (o := 23) (ci := 12) (j := 35) dX12_drawn_70 kr_at_346 fl_RX12_83 rfl ?_
          refine kr_iconst (v := 0) dX12_drawn_73 (by decide) ?_
          refine kr_iald dX12_drawn_74 kr_at_369 (fun v8 => ?_)
          refine kr_if_le (tgt := 87) dX12_drawn_75 (by decide) ?_ ?_
          · refine kr_iconst (v := -1) dX12_drawn_87 (by decide) ?_
            exact kr_iret dX12_drawn_88 rfl
          · refine kr_aload_n dX12_drawn_78 rfl 0 rfl ?_
            refine kr_getA (o := 24) (ci := 12) (j := 36) dX12_drawn_79 kr_at_346 fl_RX12_86 rfl ?_
            refine kr_iconst (v := 0) dX12_drawn_82 (by decide) ?_
            refine kr_iald dX12_drawn_83 kr_at_370 (fun v9 => ?_)
            refine kr_goto (tgt := 88) dX12_drawn_84 (by decide) ?_
            exact kr_iret dX12_drawn_88 rfl
        · refine kr_aload_n dX12_drawn_52 rfl 0 rfl ?_
          refine kr_getA (o := 23) (ci := 12) (j := 35) dX12_drawn_53 kr_at_346 fl_RX12_83 rfl ?_
          refine kr_iconst (v := 0) dX12_drawn_56 (by decide) ?_
          refine kr_iald dX12_drawn_57 kr_at_369 (fun v10 => ?_)
          refine kr_if_le (tgt := 65) dX12_drawn_58 (by decide) ?_ ?_
          · refine kr_iconst (v := 0) dX12_drawn_65 (by decide) ?_
            refine kr_goto (tgt := 88) dX12_drawn_66 (by decide) ?_
            exact kr_iret dX12_drawn_88 rfl
          · refine kr_iconst (v := 1) dX12_drawn_61 (by decide) ?_
            refine kr_goto (tgt := 88) dX12_drawn_62 (by decide) ?_
            exact kr_iret dX12_drawn_88 rfl
      · refine kr_aload_n dX12_drawn_40 rfl 0 rfl ?_
        refine kr_getI (ci := 12) (j := 58) dX12_drawn_41 kr_at_346 fl_RX12_510 rfl (fun v11 => ?_)
        refine kr_goto (tgt := 88) dX12_drawn_44 (by decide) ?_
        exact kr_iret dX12_drawn_88 rfl
    · refine kr_bipush (v := -2) dX12_drawn_26 (by decide) ?_
      exact kr_iret dX12_drawn_28 rfl
theorem dX12_winters_0 : decode cX12_winters 0 = .ok (.aload_n 0, 1) := by decide +kernel
theorem dX12_winters_1 : decode cX12_winters 1 = .ok (.iconst 0, 1) := by decide +kernel
theorem dX12_winters_2 : decode cX12_winters 2 = .ok (.putfield 138, 3) := by decide +kernel
theorem dX12_winters_5 : decode cX12_winters 5 = .ok (.aload_n 0, 1) := by decide +kernel
theorem dX12_winters_6 : decode cX12_winters 6 = .ok (.iload_n 1, 1) := by decide +kernel
theorem dX12_winters_7 : decode cX12_winters 7 = .ok (.iload_n 2, 1) := by decide +kernel
theorem dX12_winters_8 : decode cX12_winters 8 = .ok (.invokevirtual 525, 3) := by decide +kernel
theorem dX12_winters_11 : decode cX12_winters 11 = .ok (.ifCond .eq 15, 3) := by decide +kernel
theorem dX12_winters_14 : decode cX12_winters 14 = .ok (.iload_n 3, 1) := by decide +kernel
theorem dX12_winters_15 : decode cX12_winters 15 = .ok (.i2l, 1) := by decide +kernel
theorem dX12_winters_16 : decode cX12_winters 16 = .ok (.lconst 1, 1) := by decide +kernel
theorem dX12_winters_17 : decode cX12_winters 17 = .ok (.ldc2_w 532, 3) := by decide +kernel
theorem dX12_winters_20 : decode cX12_winters 20 = .ok (.invokestatic 143, 3) := by decide +kernel
theorem dX12_winters_23 : decode cX12_winters 23 = .ok (.ifCond .ne 6, 3) := by decide +kernel
theorem dX12_winters_26 : decode cX12_winters 26 = .ok (.bipush (-2), 2) := by decide +kernel
theorem dX12_winters_28 : decode cX12_winters 28 = .ok (.ireturn, 1) := by decide +kernel
theorem dX12_winters_29 : decode cX12_winters 29 = .ok (.iconst 0, 1) := by decide +kernel
theorem dX12_winters_30 : decode cX12_winters 30 = .ok (.istore 4, 2) := by decide +kernel
theorem dX12_winters_32 : decode cX12_winters 32 = .ok (.iconst 0, 1) := by decide +kernel
theorem dX12_winters_33 : decode cX12_winters 33 = .ok (.istore 5, 2) := by decide +kernel
theorem dX12_winters_35 : decode cX12_winters 35 = .ok (.iload 5, 2) := by decide +kernel
theorem dX12_winters_37 : decode cX12_winters 37 = .ok (.iload_n 3, 1) := by decide +kernel
theorem dX12_winters_38 : decode cX12_winters 38 = .ok (.if_icmp .ge 46, 3) := by decide +kernel
theorem dX12_winters_41 : decode cX12_winters 41 = .ok (.aload_n 0, 1) := by decide +kernel
theorem dX12_winters_42 : decode cX12_winters 42 = .ok (.iload_n 1, 1) := by decide +kernel
theorem dX12_winters_43 : decode cX12_winters 43 = .ok (.i2l, 1) := by decide +kernel
theorem dX12_winters_44 : decode cX12_winters 44 = .ok (.iload 5, 2) := by decide +kernel
theorem dX12_winters_46 : decode cX12_winters 46 = .ok (.i2l, 1) := by decide +kernel
theorem dX12_winters_47 : decode cX12_winters 47 = .ok (.ladd, 1) := by decide +kernel
theorem dX12_winters_48 : decode cX12_winters 48 = .ok (.iload_n 2, 1) := by decide +kernel
theorem dX12_winters_49 : decode cX12_winters 49 = .ok (.invokevirtual 528, 3) := by decide +kernel
theorem dX12_winters_52 : decode cX12_winters 52 = .ok (.iload 4, 2) := by decide +kernel
theorem dX12_winters_54 : decode cX12_winters 54 = .ok (.aload_n 0, 1) := by decide +kernel
theorem dX12_winters_55 : decode cX12_winters 55 = .ok (.getfield 510, 3) := by decide +kernel
theorem dX12_winters_58 : decode cX12_winters 58 = .ok (.ifCond .le 16, 3) := by decide +kernel
theorem dX12_winters_61 : decode cX12_winters 61 = .ok (.aload_n 0, 1) := by decide +kernel
theorem dX12_winters_62 : decode cX12_winters 62 = .ok (.getfield 83, 3) := by decide +kernel
theorem dX12_winters_65 : decode cX12_winters 65 = .ok (.iconst 0, 1) := by decide +kernel
theorem dX12_winters_66 : decode cX12_winters 66 = .ok (.iaload, 1) := by decide +kernel
theorem dX12_winters_67 : decode cX12_winters 67 = .ok (.ifCond .le 7, 3) := by decide +kernel
theorem dX12_winters_70 : decode cX12_winters 70 = .ok (.iconst 1, 1) := by decide +kernel
theorem dX12_winters_71 : decode cX12_winters 71 = .ok (.goto 4, 3) := by decide +kernel
theorem dX12_winters_74 : decode cX12_winters 74 = .ok (.iconst 0, 1) := by decide +kernel
theorem dX12_winters_75 : decode cX12_winters 75 = .ok (.iadd, 1) := by decide +kernel
theorem dX12_winters_76 : decode cX12_winters 76 = .ok (.istore 4, 2) := by decide +kernel
theorem dX12_winters_78 : decode cX12_winters 78 = .ok (.iinc 5 1, 3) := by decide +kernel
theorem dX12_winters_81 : decode cX12_winters 81 = .ok (.goto (-46), 3) := by decide +kernel
theorem dX12_winters_84 : decode cX12_winters 84 = .ok (.iload 4, 2) := by decide +kernel
theorem dX12_winters_86 : decode cX12_winters 86 = .ok (.ireturn, 1) := by decide +kernel
theorem r_X12_winters_75 (E : kr_E) (k_35 : Int32 → Int32 → kr_M → Option (Int32 × kr_M)) (l1 : Int32) (l2 : Int32) (l3 : Int32) (l5 : Int32) (s0 : Int32) (s1 : Int32) (hk_35 : ∀ (x4 : Int32) (x5 : Int32) (M : kr_M), kR kr_vi E Y_X12_winters 5 35 [(0, kr_r E 346), (1, .int l1), (2, .int l2), (3, .int l3), (4, .int x4), (5, .int x5)] [] M (k_35 x4 x5 M)) (M : kr_M) : kR kr_vi E Y_X12_winters 5 75 [(0, kr_r E 346), (1, .int l1), (2, .int l2), (3, .int l3), (5, .int l5)] [.int s0, .int s1] M (f_X12_winters_75 k_35 l5 s0 s1 M) := by
  rw [f_X12_winters_75]
  refine kr_iadd dX12_winters_75 ?_
  refine kr_nmi (fun v1 => ?_)
  refine kr_istore (lv' := [(4, .int v1), (0, kr_r E 346), (1, .int l1), (2, .int l2), (3, .int l3), (5, .int l5)]) dX12_winters_76 (by decide) rfl ?_
  refine kr_iinc (j := 5) (v := (l5 + (1 : Int32))) (lv' := [(5, .int (l5 + (1 : Int32))), (4, .int v1), (0, kr_r E 346), (1, .int l1), (2, .int l2), (3, .int l3)]) dX12_winters_78 rfl rfl (by decide) rfl ?_
  refine kr_goto (tgt := 35) dX12_winters_81 (by decide) ?_
  refine kr_sub [2, 3, 4, 5, 1, 0] rfl ?_
  exact hk_35 v1 (l5 + (1 : Int32)) M
theorem r_X12_winters_74 (E : kr_E) (k_35 : Int32 → Int32 → kr_M → Option (Int32 × kr_M)) (l1 : Int32) (l2 : Int32) (l3 : Int32) (l5 : Int32) (s0 : Int32) (hk_35 : ∀ (x4 : Int32) (x5 : Int32) (M : kr_M), kR kr_vi E Y_X12_winters 5 35 [(0, kr_r E 346), (1, .int l1), (2, .int l2), (3, .int l3), (4, .int x4), (5, .int x5)] [] M (k_35 x4 x5 M)) (M : kr_M) : kR kr_vi E Y_X12_winters 5 74 [(0, kr_r E 346), (1, .int l1), (2, .int l2), (3, .int l3), (5, .int l5)] [.int s0] M (f_X12_winters_74 k_35 l5 s0 M) := by
  rw [f_X12_winters_74]
  refine kr_iconst (v := 0) dX12_winters_74 (by decide) ?_
  refine kr_sub [0, 1, 2, 3, 4] rfl ?_
  exact r_X12_winters_75 E _ l1 l2 l3 l5 (0 : Int32) s0 hk_35 M
theorem r_X12_winters_35 (E : kr_E)  (l1 : Int32) (l2 : Int32) (l3 : Int32)  : ∀ (n : Nat) (l4 : Int32) (l5 : Int32) (M : kr_M), kR kr_vi E Y_X12_winters 5 35 [(0, kr_r E 346), (1, .int l1), (2, .int l2), (3, .int l3), (4, .int l4), (5, .int l5)] [] M (f_X12_winters_35 l1 l2 l3 n l4 l5 M) := by
  intro n
  induction n with
  | zero => intro l4 l5 M; exact kr_none
  | succ n ih =>
    intro l4 l5 M
    rw [f_X12_winters_35]
    refine kr_iload dX12_winters_35 5 rfl ?_
    refine kr_iload_n dX12_winters_37 rfl 3 rfl ?_
    refine kr_icmp_ge (tgt := 84) dX12_winters_38 (by decide) ?_ ?_
    · refine kr_iload dX12_winters_84 4 rfl ?_
      exact kr_iret dX12_winters_86 rfl
    · refine kr_aload_n dX12_winters_41 rfl 0 rfl ?_
      refine kr_iload_n dX12_winters_42 rfl 1 rfl ?_
      refine kr_i2l dX12_winters_43 ?_
      refine kr_iload dX12_winters_44 5 rfl ?_
      refine kr_i2l dX12_winters_46 ?_
      refine kr_ladd dX12_winters_47 ?_
      refine kr_iload_n dX12_winters_48 rfl 2 rfl ?_
      refine kr_Vv (As := [.long ((l1.toInt64) + (l5.toInt64)), .int l2]) (st := []) zv_X12_draws dX12_winters_49 ml_RX12_528 kr_at_346 (r_X12_draws E ((l1.toInt64) + (l5.toInt64)) l2 M) rfl rfl (Nat.le_of_ble_eq_true rfl) rfl (by decide) (Nat.le_of_ble_eq_true rfl) (fun M1 => ?_)
      refine kr_iload dX12_winters_52 4 rfl ?_
      refine kr_aload_n dX12_winters_54 rfl 0 rfl ?_
      refine kr_getI (ci := 12) (j := 58) dX12_winters_55 kr_at_346 fl_RX12_510 rfl (fun v3 => ?_)
      refine kr_if_le (tgt := 74) dX12_winters_58 (by decide) ?_ ?_
      · refine kr_sub [0, 1, 2, 3, 5] rfl ?_
        exact r_X12_winters_74 E _ l1 l2 l3 l5 l4 ih M1
      · refine kr_aload_n dX12_winters_61 rfl 0 rfl ?_
        refine kr_getA (o := 23) (ci := 12) (j := 35) dX12_winters_62 kr_at_346 fl_RX12_83 rfl ?_
        refine kr_iconst (v := 0) dX12_winters_65 (by decide) ?_
        refine kr_iald dX12_winters_66 kr_at_369 (fun v4 => ?_)
        refine kr_if_le (tgt := 74) dX12_winters_67 (by decide) ?_ ?_
        · refine kr_sub [0, 1, 2, 3, 5] rfl ?_
          exact r_X12_winters_74 E _ l1 l2 l3 l5 l4 ih M1
        · refine kr_iconst (v := 1) dX12_winters_70 (by decide) ?_
          refine kr_goto (tgt := 75) dX12_winters_71 (by decide) ?_
          refine kr_sub [0, 1, 2, 3, 5] rfl ?_
          exact r_X12_winters_75 E _ l1 l2 l3 l5 (1 : Int32) l4 ih M1
theorem r_X12_winters (E : kr_E) (p1 : Int32) (p2 : Int32) (p3 : Int32) (M : kr_M) : kR kr_vi E Y_X12_winters 5 0 [(0, kr_r E 346), (1, .int p1), (2, .int p2), (3, .int p3)] [] M (f_X12_winters p1 p2 p3 M) := by
  rw [f_X12_winters]
  refine kr_aload_n dX12_winters_0 rfl 0 rfl ?_
  refine kr_iconst (v := 0) dX12_winters_1 (by decide) ?_
  refine kr_putI (ci := 12) (j := 0) dX12_winters_2 kr_at_346 fl_RX12_138 rfl rfl (fun M1 => ?_)
  refine kr_aload_n dX12_winters_5 rfl 0 rfl ?_
  refine kr_iload_n dX12_winters_6 rfl 1 rfl ?_
  refine kr_iload_n dX12_winters_7 rfl 2 rfl ?_
  refine kr_Vi (As := [.int p1, .int p2]) (st := []) zv_X12_isDraw dX12_winters_8 ml_RX12_525 kr_at_346 (r_X12_isDraw E p1 p2 M1) rfl rfl (Nat.le_of_ble_eq_true rfl) rfl (by decide) (Nat.le_of_ble_eq_true rfl) (fun r3 M2 => ?_)
  refine kr_if_eq (tgt := 26) dX12_winters_11 (by decide) ?_ ?_
  · refine kr_bipush (v := -2) dX12_winters_26 (by decide) ?_
    exact kr_iret dX12_winters_28 rfl
  · refine kr_iload_n dX12_winters_14 rfl 3 rfl ?_
    refine kr_i2l dX12_winters_15 ?_
    refine kr_lconst (v := 1) dX12_winters_16 (by decide) ?_
    refine kr_ldc2 dX12_winters_17 kl_RX12_532 ?_
    refine kr_Si (As := [.long (p3.toInt64), .long (1 : Int64), .long (20 : Int64)]) (st := []) zs_X12_in dX12_winters_20 ml_RX12_143 (r_X12_in E (p3.toInt64) (1 : Int64) (20 : Int64) M2) rfl rfl (Nat.le_of_ble_eq_true rfl) rfl (by decide) (Nat.le_of_ble_eq_true rfl) (fun r5 M4 => ?_)
    refine kr_if_ne (tgt := 29) dX12_winters_23 (by decide) ?_ ?_
    · refine kr_iconst (v := 0) dX12_winters_29 (by decide) ?_
      refine kr_istore (lv' := [(4, .int (0 : Int32)), (0, kr_r E 346), (1, .int p1), (2, .int p2), (3, .int p3)]) dX12_winters_30 (by decide) rfl ?_
      refine kr_iconst (v := 0) dX12_winters_32 (by decide) ?_
      refine kr_istore (lv' := [(5, .int (0 : Int32)), (4, .int (0 : Int32)), (0, kr_r E 346), (1, .int p1), (2, .int p2), (3, .int p3)]) dX12_winters_33 (by decide) rfl ?_
      refine kr_sub [2, 3, 4, 5, 1, 0] rfl ?_
      exact r_X12_winters_35 E p1 p2 p3 _ (0 : Int32) (0 : Int32) M4
    · refine kr_bipush (v := -2) dX12_winters_26 (by decide) ?_
      exact kr_iret dX12_winters_28 rfl
theorem dX12_whyNot_0 : decode cX12_whyNot 0 = .ok (.iload_n 1, 1) := by decide +kernel
theorem dX12_whyNot_1 : decode cX12_whyNot 1 = .ok (.invokestatic 147, 3) := by decide +kernel
theorem dX12_whyNot_4 : decode cX12_whyNot 4 = .ok (.ifCond .eq 10, 3) := by decide +kernel
theorem dX12_whyNot_7 : decode cX12_whyNot 7 = .ok (.aload_n 0, 1) := by decide +kernel
theorem dX12_whyNot_8 : decode cX12_whyNot 8 = .ok (.invokevirtual 381, 3) := by decide +kernel
theorem dX12_whyNot_11 : decode cX12_whyNot 11 = .ok (.ifCond .ne 6, 3) := by decide +kernel
theorem dX12_whyNot_14 : decode cX12_whyNot 14 = .ok (.bipush (-2), 2) := by decide +kernel
theorem dX12_whyNot_16 : decode cX12_whyNot 16 = .ok (.ireturn, 1) := by decide +kernel
theorem dX12_whyNot_17 : decode cX12_whyNot 17 = .ok (.aload_n 0, 1) := by decide +kernel
theorem dX12_whyNot_18 : decode cX12_whyNot 18 = .ok (.getfield 7, 3) := by decide +kernel
theorem dX12_whyNot_21 : decode cX12_whyNot 21 = .ok (.iload_n 1, 1) := by decide +kernel
theorem dX12_whyNot_22 : decode cX12_whyNot 22 = .ok (.iaload, 1) := by decide +kernel
theorem dX12_whyNot_23 : decode cX12_whyNot 23 = .ok (.iconst (-1), 1) := by decide +kernel
theorem dX12_whyNot_24 : decode cX12_whyNot 24 = .ok (.if_icmp .ne 6, 3) := by decide +kernel
theorem dX12_whyNot_27 : decode cX12_whyNot 27 = .ok (.bipush (-6), 2) := by decide +kernel
theorem dX12_whyNot_29 : decode cX12_whyNot 29 = .ok (.ireturn, 1) := by decide +kernel
theorem dX12_whyNot_30 : decode cX12_whyNot 30 = .ok (.aload_n 0, 1) := by decide +kernel
theorem dX12_whyNot_31 : decode cX12_whyNot 31 = .ok (.getfield 13, 3) := by decide +kernel
theorem dX12_whyNot_34 : decode cX12_whyNot 34 = .ok (.iload_n 1, 1) := by decide +kernel
theorem dX12_whyNot_35 : decode cX12_whyNot 35 = .ok (.iaload, 1) := by decide +kernel
theorem dX12_whyNot_36 : decode cX12_whyNot 36 = .ok (.bipush 24, 2) := by decide +kernel
theorem dX12_whyNot_38 : decode cX12_whyNot 38 = .ok (.if_icmp .le 6, 3) := by decide +kernel
theorem dX12_whyNot_41 : decode cX12_whyNot 41 = .ok (.bipush (-2), 2) := by decide +kernel
theorem dX12_whyNot_43 : decode cX12_whyNot 43 = .ok (.ireturn, 1) := by decide +kernel
theorem dX12_whyNot_44 : decode cX12_whyNot 44 = .ok (.iconst 0, 1) := by decide +kernel
theorem dX12_whyNot_45 : decode cX12_whyNot 45 = .ok (.istore_n 2, 1) := by decide +kernel
theorem dX12_whyNot_46 : decode cX12_whyNot 46 = .ok (.iload_n 2, 1) := by decide +kernel
theorem dX12_whyNot_47 : decode cX12_whyNot 47 = .ok (.aload_n 0, 1) := by decide +kernel
theorem dX12_whyNot_48 : decode cX12_whyNot 48 = .ok (.getfield 13, 3) := by decide +kernel
theorem dX12_whyNot_51 : decode cX12_whyNot 51 = .ok (.iload_n 1, 1) := by decide +kernel
theorem dX12_whyNot_52 : decode cX12_whyNot 52 = .ok (.iaload, 1) := by decide +kernel
theorem dX12_whyNot_53 : decode cX12_whyNot 53 = .ok (.if_icmp .ge 39, 3) := by decide +kernel
theorem dX12_whyNot_56 : decode cX12_whyNot 56 = .ok (.aload_n 0, 1) := by decide +kernel
theorem dX12_whyNot_57 : decode cX12_whyNot 57 = .ok (.getfield 16, 3) := by decide +kernel
theorem dX12_whyNot_60 : decode cX12_whyNot 60 = .ok (.bipush 60, 2) := by decide +kernel
theorem dX12_whyNot_62 : decode cX12_whyNot 62 = .ok (.iload_n 1, 1) := by decide +kernel
theorem dX12_whyNot_63 : decode cX12_whyNot 63 = .ok (.imul, 1) := by decide +kernel
theorem dX12_whyNot_64 : decode cX12_whyNot 64 = .ok (.iload_n 2, 1) := by decide +kernel
theorem dX12_whyNot_65 : decode cX12_whyNot 65 = .ok (.iadd, 1) := by decide +kernel
theorem dX12_whyNot_66 : decode cX12_whyNot 66 = .ok (.laload, 1) := by decide +kernel
theorem dX12_whyNot_67 : decode cX12_whyNot 67 = .ok (.lconst 0, 1) := by decide +kernel
theorem dX12_whyNot_68 : decode cX12_whyNot 68 = .ok (.aload_n 0, 1) := by decide +kernel
theorem dX12_whyNot_69 : decode cX12_whyNot 69 = .ok (.getfield 34, 3) := by decide +kernel
theorem dX12_whyNot_72 : decode cX12_whyNot 72 = .ok (.iconst 3, 1) := by decide +kernel
theorem dX12_whyNot_73 : decode cX12_whyNot 73 = .ok (.iaload, 1) := by decide +kernel
theorem dX12_whyNot_74 : decode cX12_whyNot 74 = .ok (.i2l, 1) := by decide +kernel
theorem dX12_whyNot_75 : decode cX12_whyNot 75 = .ok (.lconst 1, 1) := by decide +kernel
theorem dX12_whyNot_76 : decode cX12_whyNot 76 = .ok (.lsub, 1) := by decide +kernel
theorem dX12_whyNot_77 : decode cX12_whyNot 77 = .ok (.invokestatic 143, 3) := by decide +kernel
theorem dX12_whyNot_80 : decode cX12_whyNot 80 = .ok (.ifCond .ne 6, 3) := by decide +kernel
theorem dX12_whyNot_83 : decode cX12_whyNot 83 = .ok (.bipush (-2), 2) := by decide +kernel
theorem dX12_whyNot_85 : decode cX12_whyNot 85 = .ok (.ireturn, 1) := by decide +kernel
theorem dX12_whyNot_86 : decode cX12_whyNot 86 = .ok (.iinc 2 1, 3) := by decide +kernel
theorem dX12_whyNot_89 : decode cX12_whyNot 89 = .ok (.goto (-43), 3) := by decide +kernel
theorem dX12_whyNot_92 : decode cX12_whyNot 92 = .ok (.iconst 0, 1) := by decide +kernel
theorem dX12_whyNot_93 : decode cX12_whyNot 93 = .ok (.ireturn, 1) := by decide +kernel
theorem r_X12_whyNot_46 (E : kr_E)  (l1 : Int32)  : ∀ (n : Nat) (l2 : Int32) (M : kr_M), kR kr_vi E Y_X12_whyNot 3 46 [(0, kr_r E 346), (1, .int l1), (2, .int l2)] [] M (f_X12_whyNot_46 l1 n l2 M) := by
  intro n
  induction n with
  | zero => intro l2 M; exact kr_none
  | succ n ih =>
    intro l2 M
    rw [f_X12_whyNot_46]
    refine kr_iload_n dX12_whyNot_46 rfl 2 rfl ?_
    refine kr_aload_n dX12_whyNot_47 rfl 0 rfl ?_
    refine kr_getA (o := 2) (ci := 12) (j := 2) dX12_whyNot_48 kr_at_346 fl_RX12_13 rfl ?_
    refine kr_iload_n dX12_whyNot_51 rfl 1 rfl ?_
    refine kr_iald dX12_whyNot_52 kr_at_348 (fun v1 => ?_)
    refine kr_icmp_ge (tgt := 92) dX12_whyNot_53 (by decide) ?_ ?_
    · refine kr_iconst (v := 0) dX12_whyNot_92 (by decide) ?_
      exact kr_iret dX12_whyNot_93 rfl
    · refine kr_aload_n dX12_whyNot_56 rfl 0 rfl ?_
      refine kr_getA (o := 3) (ci := 12) (j := 3) dX12_whyNot_57 kr_at_346 fl_RX12_16 rfl ?_
      refine kr_bipush (v := 60) dX12_whyNot_60 (by decide) ?_
      refine kr_iload_n dX12_whyNot_62 rfl 1 rfl ?_
      refine kr_imul dX12_whyNot_63 ?_
      refine kr_iload_n dX12_whyNot_64 rfl 2 rfl ?_
      refine kr_iadd dX12_whyNot_65 ?_
      refine kr_lald dX12_whyNot_66 kr_at_349 (fun v2 => ?_)
      refine kr_lconst (v := 0) dX12_whyNot_67 (by decide) ?_
      refine kr_aload_n dX12_whyNot_68 rfl 0 rfl ?_
      refine kr_getA (o := 7) (ci := 12) (j := 17) dX12_whyNot_69 kr_at_346 fl_RX12_34 rfl ?_
      refine kr_iconst (v := 3) dX12_whyNot_72 (by decide) ?_
      refine kr_iald dX12_whyNot_73 kr_at_353 (fun v3 => ?_)
      refine kr_i2l dX12_whyNot_74 ?_
      refine kr_lconst (v := 1) dX12_whyNot_75 (by decide) ?_
      refine kr_lsub dX12_whyNot_76 ?_
      refine kr_Si (As := [.long v2, .long (0 : Int64), .long ((v3.toInt64) - (1 : Int64))]) (st := []) zs_X12_in dX12_whyNot_77 ml_RX12_143 (r_X12_in E v2 (0 : Int64) ((v3.toInt64) - (1 : Int64)) M) rfl rfl (Nat.le_of_ble_eq_true rfl) rfl (by decide) (Nat.le_of_ble_eq_true rfl) (fun r5 M4 => ?_)
      refine kr_if_ne (tgt := 86) dX12_whyNot_80 (by decide) ?_ ?_
      · refine kr_iinc (j := 2) (v := (l2 + (1 : Int32))) (lv' := [(2, .int (l2 + (1 : Int32))), (0, kr_r E 346), (1, .int l1)]) dX12_whyNot_86 rfl rfl (by decide) rfl ?_
        refine kr_goto (tgt := 46) dX12_whyNot_89 (by decide) ?_
        refine kr_sub [1, 2, 0] rfl ?_
        exact ih (l2 + (1 : Int32)) M4
      · refine kr_bipush (v := -2) dX12_whyNot_83 (by decide) ?_
        exact kr_iret dX12_whyNot_85 rfl
theorem r_X12_whyNot (E : kr_E) (p1 : Int32) (M : kr_M) : kR kr_vi E Y_X12_whyNot 3 0 [(0, kr_r E 346), (1, .int p1)] [] M (f_X12_whyNot p1 M) := by
  rw [f_X12_whyNot]
  refine kr_iload_n dX12_whyNot_0 rfl 1 rfl ?_
  refine kr_Si (As := [.int p1]) (st := []) zs_X12_isSlot dX12_whyNot_1 ml_RX12_147 (r_X12_isSlot E p1 M) rfl rfl (Nat.le_of_ble_eq_true rfl) rfl (by decide) (Nat.le_of_ble_eq_true rfl) (fun r2 M1 => ?_)
  refine kr_if_eq (tgt := 14) dX12_whyNot_4 (by decide) ?_ ?_
  · refine kr_bipush (v := -2) dX12_whyNot_14 (by decide) ?_
    exact kr_iret dX12_whyNot_16 rfl
  · refine kr_aload_n dX12_whyNot_7 rfl 0 rfl ?_
    refine kr_Vi (As := []) (st := []) zv_X12_isGorge dX12_whyNot_8 ml_RX12_381 kr_at_346 (r_X12_isGorge E  M1) rfl rfl (Nat.le_of_ble_eq_true rfl) rfl (by decide) (Nat.le_of_ble_eq_true rfl) (fun r4 M3 => ?_)
    refine kr_if_ne (tgt := 17) dX12_whyNot_11 (by decide) ?_ ?_
    · refine kr_aload_n dX12_whyNot_17 rfl 0 rfl ?_
      refine kr_getA (o := 1) (ci := 12) (j := 1) dX12_whyNot_18 kr_at_346 fl_RX12_7 rfl ?_
      refine kr_iload_n dX12_whyNot_21 rfl 1 rfl ?_
      refine kr_iald dX12_whyNot_22 kr_at_347 (fun v5 => ?_)
      refine kr_iconst (v := -1) dX12_whyNot_23 (by decide) ?_
      refine kr_icmp_ne (tgt := 30) dX12_whyNot_24 (by decide) ?_ ?_
      · refine kr_aload_n dX12_whyNot_30 rfl 0 rfl ?_
        refine kr_getA (o := 2) (ci := 12) (j := 2) dX12_whyNot_31 kr_at_346 fl_RX12_13 rfl ?_
        refine kr_iload_n dX12_whyNot_34 rfl 1 rfl ?_
        refine kr_iald dX12_whyNot_35 kr_at_348 (fun v6 => ?_)
        refine kr_bipush (v := 24) dX12_whyNot_36 (by decide) ?_
        refine kr_icmp_le (tgt := 44) dX12_whyNot_38 (by decide) ?_ ?_
        · refine kr_iconst (v := 0) dX12_whyNot_44 (by decide) ?_
          refine kr_istore_n (lv' := [(2, .int (0 : Int32)), (0, kr_r E 346), (1, .int p1)]) dX12_whyNot_45 rfl (by decide) rfl ?_
          refine kr_sub [1, 2, 0] rfl ?_
          exact r_X12_whyNot_46 E p1 _ (0 : Int32) M3
        · refine kr_bipush (v := -2) dX12_whyNot_41 (by decide) ?_
          exact kr_iret dX12_whyNot_43 rfl
      · refine kr_bipush (v := -6) dX12_whyNot_27 (by decide) ?_
        exact kr_iret dX12_whyNot_29 rfl
    · refine kr_bipush (v := -2) dX12_whyNot_14 (by decide) ?_
      exact kr_iret dX12_whyNot_16 rfl
theorem dX12_liesTold_0 : decode cX12_liesTold 0 = .ok (.aload_n 0, 1) := by decide +kernel
theorem dX12_liesTold_1 : decode cX12_liesTold 1 = .ok (.invokevirtual 337, 3) := by decide +kernel
theorem dX12_liesTold_4 : decode cX12_liesTold 4 = .ok (.aload_n 0, 1) := by decide +kernel
theorem dX12_liesTold_5 : decode cX12_liesTold 5 = .ok (.aload_n 0, 1) := by decide +kernel
theorem dX12_liesTold_6 : decode cX12_liesTold 6 = .ok (.getfield 13, 3) := by decide +kernel
theorem dX12_liesTold_9 : decode cX12_liesTold 9 = .ok (.iload_n 1, 1) := by decide +kernel
theorem dX12_liesTold_10 : decode cX12_liesTold 10 = .ok (.iaload, 1) := by decide +kernel
theorem dX12_liesTold_11 : decode cX12_liesTold 11 = .ok (.putfield 351, 3) := by decide +kernel
theorem dX12_liesTold_14 : decode cX12_liesTold 14 = .ok (.iconst 0, 1) := by decide +kernel
theorem dX12_liesTold_15 : decode cX12_liesTold 15 = .ok (.istore_n 2, 1) := by decide +kernel
theorem dX12_liesTold_16 : decode cX12_liesTold 16 = .ok (.iload_n 2, 1) := by decide +kernel
theorem dX12_liesTold_17 : decode cX12_liesTold 17 = .ok (.aload_n 0, 1) := by decide +kernel
theorem dX12_liesTold_18 : decode cX12_liesTold 18 = .ok (.getfield 351, 3) := by decide +kernel
theorem dX12_liesTold_21 : decode cX12_liesTold 21 = .ok (.if_icmp .ge 27, 3) := by decide +kernel
theorem dX12_liesTold_24 : decode cX12_liesTold 24 = .ok (.aload_n 0, 1) := by decide +kernel
theorem dX12_liesTold_25 : decode cX12_liesTold 25 = .ok (.getfield 80, 3) := by decide +kernel
theorem dX12_liesTold_28 : decode cX12_liesTold 28 = .ok (.iload_n 2, 1) := by decide +kernel
theorem dX12_liesTold_29 : decode cX12_liesTold 29 = .ok (.aload_n 0, 1) := by decide +kernel
theorem dX12_liesTold_30 : decode cX12_liesTold 30 = .ok (.getfield 16, 3) := by decide +kernel
theorem dX12_liesTold_33 : decode cX12_liesTold 33 = .ok (.bipush 60, 2) := by decide +kernel
theorem dX12_liesTold_35 : decode cX12_liesTold 35 = .ok (.iload_n 1, 1) := by decide +kernel
theorem dX12_liesTold_36 : decode cX12_liesTold 36 = .ok (.imul, 1) := by decide +kernel
theorem dX12_liesTold_37 : decode cX12_liesTold 37 = .ok (.iload_n 2, 1) := by decide +kernel
theorem dX12_liesTold_38 : decode cX12_liesTold 38 = .ok (.iadd, 1) := by decide +kernel
theorem dX12_liesTold_39 : decode cX12_liesTold 39 = .ok (.laload, 1) := by decide +kernel
theorem dX12_liesTold_40 : decode cX12_liesTold 40 = .ok (.l2i, 1) := by decide +kernel
theorem dX12_liesTold_41 : decode cX12_liesTold 41 = .ok (.iastore, 1) := by decide +kernel
theorem dX12_liesTold_42 : decode cX12_liesTold 42 = .ok (.iinc 2 1, 3) := by decide +kernel
theorem dX12_liesTold_45 : decode cX12_liesTold 45 = .ok (.goto (-29), 3) := by decide +kernel
theorem dX12_liesTold_48 : decode cX12_liesTold 48 = .ok (.return_, 1) := by decide +kernel
theorem r_X12_liesTold_16 (E : kr_E)  (l1 : Int32)  : ∀ (n : Nat) (l2 : Int32) (M : kr_M), kR kr_vv E Y_X12_liesTold 4 16 [(0, kr_r E 346), (1, .int l1), (2, .int l2)] [] M (f_X12_liesTold_16 l1 n l2 M) := by
  intro n
  induction n with
  | zero => intro l2 M; exact kr_none
  | succ n ih =>
    intro l2 M
    rw [f_X12_liesTold_16]
    refine kr_iload_n dX12_liesTold_16 rfl 2 rfl ?_
    refine kr_aload_n dX12_liesTold_17 rfl 0 rfl ?_
    refine kr_getI (ci := 12) (j := 34) dX12_liesTold_18 kr_at_346 fl_RX12_351 rfl (fun v1 => ?_)
    refine kr_icmp_ge (tgt := 48) dX12_liesTold_21 (by decide) ?_ ?_
    · exact kr_vret dX12_liesTold_48 rfl
    · refine kr_aload_n dX12_liesTold_24 rfl 0 rfl ?_
      refine kr_getA (o := 22) (ci := 12) (j := 33) dX12_liesTold_25 kr_at_346 fl_RX12_80 rfl ?_
      refine kr_iload_n dX12_liesTold_28 rfl 2 rfl ?_
      refine kr_aload_n dX12_liesTold_29 rfl 0 rfl ?_
      refine kr_getA (o := 3) (ci := 12) (j := 3) dX12_liesTold_30 kr_at_346 fl_RX12_16 rfl ?_
      refine kr_bipush (v := 60) dX12_liesTold_33 (by decide) ?_
      refine kr_iload_n dX12_liesTold_35 rfl 1 rfl ?_
      refine kr_imul dX12_liesTold_36 ?_
      refine kr_iload_n dX12_liesTold_37 rfl 2 rfl ?_
      refine kr_iadd dX12_liesTold_38 ?_
      refine kr_lald dX12_liesTold_39 kr_at_349 (fun v2 => ?_)
      refine kr_l2i dX12_liesTold_40 ?_
      refine kr_iast dX12_liesTold_41 kr_at_368 (fun M3 => ?_)
      refine kr_iinc (j := 2) (v := (l2 + (1 : Int32))) (lv' := [(2, .int (l2 + (1 : Int32))), (0, kr_r E 346), (1, .int l1)]) dX12_liesTold_42 rfl rfl (by decide) rfl ?_
      refine kr_goto (tgt := 16) dX12_liesTold_45 (by decide) ?_
      refine kr_sub [1, 2, 0] rfl ?_
      exact ih (l2 + (1 : Int32)) M3
theorem r_X12_liesTold (E : kr_E) (p1 : Int32) (M : kr_M) : kR kr_vv E Y_X12_liesTold 4 0 [(0, kr_r E 346), (1, .int p1)] [] M (f_X12_liesTold p1 M) := by
  rw [f_X12_liesTold]
  refine kr_aload_n dX12_liesTold_0 rfl 0 rfl ?_
  refine kr_Vv (As := []) (st := []) zv_X12_lays dX12_liesTold_1 ml_RX12_337 kr_at_346 (r_X12_lays E  M) rfl rfl (Nat.le_of_ble_eq_true rfl) rfl (by decide) (Nat.le_of_ble_eq_true rfl) (fun M1 => ?_)
  refine kr_aload_n dX12_liesTold_4 rfl 0 rfl ?_
  refine kr_aload_n dX12_liesTold_5 rfl 0 rfl ?_
  refine kr_getA (o := 2) (ci := 12) (j := 2) dX12_liesTold_6 kr_at_346 fl_RX12_13 rfl ?_
  refine kr_iload_n dX12_liesTold_9 rfl 1 rfl ?_
  refine kr_iald dX12_liesTold_10 kr_at_348 (fun v3 => ?_)
  refine kr_putI (ci := 12) (j := 34) dX12_liesTold_11 kr_at_346 fl_RX12_351 rfl rfl (fun M4 => ?_)
  refine kr_iconst (v := 0) dX12_liesTold_14 (by decide) ?_
  refine kr_istore_n (lv' := [(2, .int (0 : Int32)), (0, kr_r E 346), (1, .int p1)]) dX12_liesTold_15 rfl (by decide) rfl ?_
  refine kr_sub [1, 2, 0] rfl ?_
  exact r_X12_liesTold_16 E p1 _ (0 : Int32) M4
theorem dX12_text_0 : decode cX12_text 0 = .ok (.aload_n 0, 1) := by decide +kernel
theorem dX12_text_1 : decode cX12_text 1 = .ok (.iconst 0, 1) := by decide +kernel
theorem dX12_text_2 : decode cX12_text 2 = .ok (.putfield 138, 3) := by decide +kernel
theorem dX12_text_5 : decode cX12_text 5 = .ok (.aload_n 0, 1) := by decide +kernel
theorem dX12_text_6 : decode cX12_text 6 = .ok (.iload_n 1, 1) := by decide +kernel
theorem dX12_text_7 : decode cX12_text 7 = .ok (.invokevirtual 534, 3) := by decide +kernel
theorem dX12_text_10 : decode cX12_text 10 = .ok (.istore_n 2, 1) := by decide +kernel
theorem dX12_text_11 : decode cX12_text 11 = .ok (.iload_n 2, 1) := by decide +kernel
theorem dX12_text_12 : decode cX12_text 12 = .ok (.ifCond .eq 5, 3) := by decide +kernel
theorem dX12_text_15 : decode cX12_text 15 = .ok (.iload_n 2, 1) := by decide +kernel
theorem dX12_text_16 : decode cX12_text 16 = .ok (.ireturn, 1) := by decide +kernel
theorem dX12_text_17 : decode cX12_text 17 = .ok (.aload_n 0, 1) := by decide +kernel
theorem dX12_text_18 : decode cX12_text 18 = .ok (.iload_n 1, 1) := by decide +kernel
theorem dX12_text_19 : decode cX12_text 19 = .ok (.invokevirtual 537, 3) := by decide +kernel
theorem dX12_text_22 : decode cX12_text 22 = .ok (.aload_n 0, 1) := by decide +kernel
theorem dX12_text_23 : decode cX12_text 23 = .ok (.invokevirtual 361, 3) := by decide +kernel
theorem dX12_text_26 : decode cX12_text 26 = .ok (.aload_n 0, 1) := by decide +kernel
theorem dX12_text_27 : decode cX12_text 27 = .ok (.getfield 83, 3) := by decide +kernel
theorem dX12_text_30 : decode cX12_text 30 = .ok (.iconst 0, 1) := by decide +kernel
theorem dX12_text_31 : decode cX12_text 31 = .ok (.iaload, 1) := by decide +kernel
theorem dX12_text_32 : decode cX12_text 32 = .ok (.ireturn, 1) := by decide +kernel
theorem r_X12_text (E : kr_E) (p1 : Int32) (M : kr_M) : kR kr_vi E Y_X12_text 5 0 [(0, kr_r E 346), (1, .int p1)] [] M (f_X12_text p1 M) := by
  rw [f_X12_text]
  refine kr_aload_n dX12_text_0 rfl 0 rfl ?_
  refine kr_iconst (v := 0) dX12_text_1 (by decide) ?_
  refine kr_putI (ci := 12) (j := 0) dX12_text_2 kr_at_346 fl_RX12_138 rfl rfl (fun M1 => ?_)
  refine kr_aload_n dX12_text_5 rfl 0 rfl ?_
  refine kr_iload_n dX12_text_6 rfl 1 rfl ?_
  refine kr_Vi (As := [.int p1]) (st := []) zv_X12_whyNot dX12_text_7 ml_RX12_534 kr_at_346 (r_X12_whyNot E p1 M1) rfl rfl (Nat.le_of_ble_eq_true rfl) rfl (by decide) (Nat.le_of_ble_eq_true rfl) (fun r3 M2 => ?_)
  refine kr_istore_n (lv' := [(2, .int r3), (0, kr_r E 346), (1, .int p1)]) dX12_text_10 rfl (by decide) rfl ?_
  refine kr_iload_n dX12_text_11 rfl 0 rfl ?_
  refine kr_if_eq (tgt := 17) dX12_text_12 (by decide) ?_ ?_
  · refine kr_aload_n dX12_text_17 rfl 1 rfl ?_
    refine kr_iload_n dX12_text_18 rfl 2 rfl ?_
    refine kr_Vv (As := [.int p1]) (st := []) zv_X12_liesTold dX12_text_19 ml_RX12_537 kr_at_346 (r_X12_liesTold E p1 M2) rfl rfl (Nat.le_of_ble_eq_true rfl) rfl (by decide) (Nat.le_of_ble_eq_true rfl) (fun M4 => ?_)
    refine kr_aload_n dX12_text_22 rfl 1 rfl ?_
    refine kr_Vv (As := []) (st := []) zv_X12_readings dX12_text_23 ml_RX12_361 kr_at_346 (r_X12_readings E  M4) rfl rfl (Nat.le_of_ble_eq_true rfl) rfl (by decide) (Nat.le_of_ble_eq_true rfl) (fun M6 => ?_)
    refine kr_aload_n dX12_text_26 rfl 1 rfl ?_
    refine kr_getA (o := 23) (ci := 12) (j := 35) dX12_text_27 kr_at_346 fl_RX12_83 rfl ?_
    refine kr_iconst (v := 0) dX12_text_30 (by decide) ?_
    refine kr_iald dX12_text_31 kr_at_369 (fun v8 => ?_)
    exact kr_iret dX12_text_32 rfl
  · refine kr_iload_n dX12_text_15 rfl 0 rfl ?_
    exact kr_iret dX12_text_16 rfl
theorem dX12_like_0 : decode cX12_like 0 = .ok (.aload_n 0, 1) := by decide +kernel
theorem dX12_like_1 : decode cX12_like 1 = .ok (.iconst 0, 1) := by decide +kernel
theorem dX12_like_2 : decode cX12_like 2 = .ok (.putfield 138, 3) := by decide +kernel
theorem dX12_like_5 : decode cX12_like 5 = .ok (.aload_n 0, 1) := by decide +kernel
theorem dX12_like_6 : decode cX12_like 6 = .ok (.iload_n 1, 1) := by decide +kernel
theorem dX12_like_7 : decode cX12_like 7 = .ok (.invokevirtual 534, 3) := by decide +kernel
theorem dX12_like_10 : decode cX12_like 10 = .ok (.istore_n 2, 1) := by decide +kernel
theorem dX12_like_11 : decode cX12_like 11 = .ok (.iload_n 2, 1) := by decide +kernel
theorem dX12_like_12 : decode cX12_like 12 = .ok (.ifCond .eq 5, 3) := by decide +kernel
theorem dX12_like_15 : decode cX12_like 15 = .ok (.iload_n 2, 1) := by decide +kernel
theorem dX12_like_16 : decode cX12_like 16 = .ok (.ireturn, 1) := by decide +kernel
theorem dX12_like_17 : decode cX12_like 17 = .ok (.aload_n 0, 1) := by decide +kernel
theorem dX12_like_18 : decode cX12_like 18 = .ok (.iload_n 1, 1) := by decide +kernel
theorem dX12_like_19 : decode cX12_like 19 = .ok (.invokevirtual 537, 3) := by decide +kernel
theorem dX12_like_22 : decode cX12_like 22 = .ok (.iconst (-1), 1) := by decide +kernel
theorem dX12_like_23 : decode cX12_like 23 = .ok (.istore_n 3, 1) := by decide +kernel
theorem dX12_like_24 : decode cX12_like 24 = .ok (.ldc_w 354, 3) := by decide +kernel
theorem dX12_like_27 : decode cX12_like 27 = .ok (.istore 4, 2) := by decide +kernel
theorem dX12_like_29 : decode cX12_like 29 = .ok (.iconst 0, 1) := by decide +kernel
theorem dX12_like_30 : decode cX12_like 30 = .ok (.istore 5, 2) := by decide +kernel
theorem dX12_like_32 : decode cX12_like 32 = .ok (.iload 5, 2) := by decide +kernel
theorem dX12_like_34 : decode cX12_like 34 = .ok (.aload_n 0, 1) := by decide +kernel
theorem dX12_like_35 : decode cX12_like 35 = .ok (.getfield 34, 3) := by decide +kernel
theorem dX12_like_38 : decode cX12_like 38 = .ok (.iconst 5, 1) := by decide +kernel
theorem dX12_like_39 : decode cX12_like 39 = .ok (.iaload, 1) := by decide +kernel
theorem dX12_like_40 : decode cX12_like 40 = .ok (.if_icmp .ge 34, 3) := by decide +kernel
theorem dX12_like_43 : decode cX12_like 43 = .ok (.aload_n 0, 1) := by decide +kernel
theorem dX12_like_44 : decode cX12_like 44 = .ok (.iload 5, 2) := by decide +kernel
theorem dX12_like_46 : decode cX12_like 46 = .ok (.invokevirtual 459, 3) := by decide +kernel
theorem dX12_like_49 : decode cX12_like 49 = .ok (.istore 6, 2) := by decide +kernel
theorem dX12_like_51 : decode cX12_like 51 = .ok (.iload 6, 2) := by decide +kernel
theorem dX12_like_53 : decode cX12_like 53 = .ok (.iload 4, 2) := by decide +kernel
theorem dX12_like_55 : decode cX12_like 55 = .ok (.if_icmp .lt 6, 3) := by decide +kernel
theorem dX12_like_58 : decode cX12_like 58 = .ok (.goto 10, 3) := by decide +kernel
theorem dX12_like_61 : decode cX12_like 61 = .ok (.iload 5, 2) := by decide +kernel
theorem dX12_like_63 : decode cX12_like 63 = .ok (.istore_n 3, 1) := by decide +kernel
theorem dX12_like_64 : decode cX12_like 64 = .ok (.iload 6, 2) := by decide +kernel
theorem dX12_like_66 : decode cX12_like 66 = .ok (.istore 4, 2) := by decide +kernel
theorem dX12_like_68 : decode cX12_like 68 = .ok (.iinc 5 1, 3) := by decide +kernel
theorem dX12_like_71 : decode cX12_like 71 = .ok (.goto (-39), 3) := by decide +kernel
theorem dX12_like_74 : decode cX12_like 74 = .ok (.iload_n 3, 1) := by decide +kernel
theorem dX12_like_75 : decode cX12_like 75 = .ok (.ireturn, 1) := by decide +kernel
theorem r_X12_like_68 (E : kr_E) (k_32 : Int32 → Int32 → Int32 → kr_M → Option (Int32 × kr_M)) (l3 : Int32) (l4 : Int32) (l5 : Int32) (hk_32 : ∀ (x3 : Int32) (x4 : Int32) (x5 : Int32) (M : kr_M), kR kr_vi E Y_X12_like 5 32 [(0, kr_r E 346), (3, .int x3), (4, .int x4), (5, .int x5)] [] M (k_32 x3 x4 x5 M)) (M : kr_M) : kR kr_vi E Y_X12_like 5 68 [(0, kr_r E 346), (3, .int l3), (4, .int l4), (5, .int l5)] [] M (f_X12_like_68 k_32 l3 l4 l5 M) := by
  rw [f_X12_like_68]
  refine kr_iinc (j := 3) (v := (l5 + (1 : Int32))) (lv' := [(5, .int (l5 + (1 : Int32))), (0, kr_r E 346), (3, .int l3), (4, .int l4)]) dX12_like_68 rfl rfl (by decide) rfl ?_
  refine kr_goto (tgt := 32) dX12_like_71 (by decide) ?_
  refine kr_sub [1, 2, 3, 0] rfl ?_
  exact hk_32 l3 l4 (l5 + (1 : Int32)) M
theorem r_X12_like_32 (E : kr_E)    : ∀ (n : Nat) (l3 : Int32) (l4 : Int32) (l5 : Int32) (M : kr_M), kR kr_vi E Y_X12_like 5 32 [(0, kr_r E 346), (3, .int l3), (4, .int l4), (5, .int l5)] [] M (f_X12_like_32 n l3 l4 l5 M) := by
  intro n
  induction n with
  | zero => intro l3 l4 l5 M; exact kr_none
  | succ n ih =>
    intro l3 l4 l5 M
    rw [f_X12_like_32]
    refine kr_iload dX12_like_32 3 rfl ?_
    refine kr_aload_n dX12_like_34 rfl 0 rfl ?_
    refine kr_getA (o := 7) (ci := 12) (j := 17) dX12_like_35 kr_at_346 fl_RX12_34 rfl ?_
    refine kr_iconst (v := 5) dX12_like_38 (by decide) ?_
    refine kr_iald dX12_like_39 kr_at_353 (fun v1 => ?_)
    refine kr_icmp_ge (tgt := 74) dX12_like_40 (by decide) ?_ ?_
    · refine kr_iload_n dX12_like_74 rfl 1 rfl ?_
      exact kr_iret dX12_like_75 rfl
    · refine kr_aload_n dX12_like_43 rfl 0 rfl ?_
      refine kr_iload dX12_like_44 3 rfl ?_
      refine kr_Vi (As := [.int l5]) (st := []) zv_X12_errorsTo dX12_like_46 ml_RX12_459 kr_at_346 (r_X12_errorsTo E l5 M) rfl rfl (Nat.le_of_ble_eq_true rfl) rfl (by decide) (Nat.le_of_ble_eq_true rfl) (fun r3 M2 => ?_)
      refine kr_istore (lv' := [(6, .int r3), (0, kr_r E 346), (3, .int l3), (4, .int l4), (5, .int l5)]) dX12_like_49 (by decide) rfl ?_
      refine kr_iload dX12_like_51 0 rfl ?_
      refine kr_iload dX12_like_53 3 rfl ?_
      refine kr_icmp_lt (tgt := 61) dX12_like_55 (by decide) ?_ ?_
      · refine kr_iload dX12_like_61 4 rfl ?_
        refine kr_istore_n (lv' := [(3, .int l5), (6, .int r3), (0, kr_r E 346), (4, .int l4), (5, .int l5)]) dX12_like_63 rfl (by decide) rfl ?_
        refine kr_iload dX12_like_64 1 rfl ?_
        refine kr_istore (lv' := [(4, .int r3), (3, .int l5), (6, .int r3), (0, kr_r E 346), (5, .int l5)]) dX12_like_66 (by decide) rfl ?_
        refine kr_sub [3, 1, 0, 4] rfl ?_
        exact r_X12_like_68 E _ l5 r3 l5 ih M2
      · refine kr_goto (tgt := 68) dX12_like_58 (by decide) ?_
        refine kr_sub [1, 2, 3, 4] rfl ?_
        exact r_X12_like_68 E _ l3 l4 l5 ih M2
theorem r_X12_like (E : kr_E) (p1 : Int32) (M : kr_M) : kR kr_vi E Y_X12_like 5 0 [(0, kr_r E 346), (1, .int p1)] [] M (f_X12_like p1 M) := by
  rw [f_X12_like]
  refine kr_aload_n dX12_like_0 rfl 0 rfl ?_
  refine kr_iconst (v := 0) dX12_like_1 (by decide) ?_
  refine kr_putI (ci := 12) (j := 0) dX12_like_2 kr_at_346 fl_RX12_138 rfl rfl (fun M1 => ?_)
  refine kr_aload_n dX12_like_5 rfl 0 rfl ?_
  refine kr_iload_n dX12_like_6 rfl 1 rfl ?_
  refine kr_Vi (As := [.int p1]) (st := []) zv_X12_whyNot dX12_like_7 ml_RX12_534 kr_at_346 (r_X12_whyNot E p1 M1) rfl rfl (Nat.le_of_ble_eq_true rfl) rfl (by decide) (Nat.le_of_ble_eq_true rfl) (fun r3 M2 => ?_)
  refine kr_istore_n (lv' := [(2, .int r3), (0, kr_r E 346), (1, .int p1)]) dX12_like_10 rfl (by decide) rfl ?_
  refine kr_iload_n dX12_like_11 rfl 0 rfl ?_
  refine kr_if_eq (tgt := 17) dX12_like_12 (by decide) ?_ ?_
  · refine kr_aload_n dX12_like_17 rfl 1 rfl ?_
    refine kr_iload_n dX12_like_18 rfl 2 rfl ?_
    refine kr_Vv (As := [.int p1]) (st := []) zv_X12_liesTold dX12_like_19 ml_RX12_537 kr_at_346 (r_X12_liesTold E p1 M2) rfl rfl (Nat.le_of_ble_eq_true rfl) rfl (by decide) (Nat.le_of_ble_eq_true rfl) (fun M4 => ?_)
    refine kr_iconst (v := -1) dX12_like_22 (by decide) ?_
    refine kr_istore_n (lv' := [(3, .int (-1 : Int32)), (2, .int r3), (0, kr_r E 346), (1, .int p1)]) dX12_like_23 rfl (by decide) rfl ?_
    refine kr_ldcw dX12_like_24 kc_RX12_354 ?_
    refine kr_istore (lv' := [(4, .int (100000000 : Int32)), (3, .int (-1 : Int32)), (2, .int r3), (0, kr_r E 346), (1, .int p1)]) dX12_like_27 (by decide) rfl ?_
    refine kr_iconst (v := 0) dX12_like_29 (by decide) ?_
    refine kr_istore (lv' := [(5, .int (0 : Int32)), (4, .int (100000000 : Int32)), (3, .int (-1 : Int32)), (2, .int r3), (0, kr_r E 346), (1, .int p1)]) dX12_like_30 (by decide) rfl ?_
    refine kr_sub [4, 2, 1, 0] rfl ?_
    exact r_X12_like_32 E _ (-1 : Int32) (100000000 : Int32) (0 : Int32) M4
  · refine kr_iload_n dX12_like_15 rfl 0 rfl ?_
    exact kr_iret dX12_like_16 rfl
theorem dX12_found_0 : decode cX12_found 0 = .ok (.aload_n 0, 1) := by decide +kernel
theorem dX12_found_1 : decode cX12_found 1 = .ok (.iconst 0, 1) := by decide +kernel
theorem dX12_found_2 : decode cX12_found 2 = .ok (.putfield 138, 3) := by decide +kernel
theorem dX12_found_5 : decode cX12_found 5 = .ok (.aload_n 0, 1) := by decide +kernel
theorem dX12_found_6 : decode cX12_found 6 = .ok (.iload_n 1, 1) := by decide +kernel
theorem dX12_found_7 : decode cX12_found 7 = .ok (.invokevirtual 534, 3) := by decide +kernel
theorem dX12_found_10 : decode cX12_found 10 = .ok (.istore_n 2, 1) := by decide +kernel
theorem dX12_found_11 : decode cX12_found 11 = .ok (.iload_n 2, 1) := by decide +kernel
theorem dX12_found_12 : decode cX12_found 12 = .ok (.ifCond .eq 5, 3) := by decide +kernel
theorem dX12_found_15 : decode cX12_found 15 = .ok (.iload_n 2, 1) := by decide +kernel
theorem dX12_found_16 : decode cX12_found 16 = .ok (.ireturn, 1) := by decide +kernel
theorem dX12_found_17 : decode cX12_found 17 = .ok (.aload_n 0, 1) := by decide +kernel
theorem dX12_found_18 : decode cX12_found 18 = .ok (.iload_n 1, 1) := by decide +kernel
theorem dX12_found_19 : decode cX12_found 19 = .ok (.invokevirtual 537, 3) := by decide +kernel
theorem dX12_found_22 : decode cX12_found 22 = .ok (.iconst 0, 1) := by decide +kernel
theorem dX12_found_23 : decode cX12_found 23 = .ok (.istore_n 3, 1) := by decide +kernel
theorem dX12_found_24 : decode cX12_found 24 = .ok (.iconst 0, 1) := by decide +kernel
theorem dX12_found_25 : decode cX12_found 25 = .ok (.istore 4, 2) := by decide +kernel
theorem dX12_found_27 : decode cX12_found 27 = .ok (.iload 4, 2) := by decide +kernel
theorem dX12_found_29 : decode cX12_found 29 = .ok (.aload_n 0, 1) := by decide +kernel
theorem dX12_found_30 : decode cX12_found 30 = .ok (.getfield 34, 3) := by decide +kernel
theorem dX12_found_33 : decode cX12_found 33 = .ok (.iconst 5, 1) := by decide +kernel
theorem dX12_found_34 : decode cX12_found 34 = .ok (.iaload, 1) := by decide +kernel
theorem dX12_found_35 : decode cX12_found 35 = .ok (.if_icmp .ge 110, 3) := by decide +kernel
theorem dX12_found_38 : decode cX12_found 38 = .ok (.iconst 0, 1) := by decide +kernel
theorem dX12_found_39 : decode cX12_found 39 = .ok (.istore 5, 2) := by decide +kernel
theorem dX12_found_41 : decode cX12_found 41 = .ok (.iload 5, 2) := by decide +kernel
theorem dX12_found_43 : decode cX12_found 43 = .ok (.aload_n 0, 1) := by decide +kernel
theorem dX12_found_44 : decode cX12_found 44 = .ok (.getfield 351, 3) := by decide +kernel
theorem dX12_found_47 : decode cX12_found 47 = .ok (.iadd, 1) := by decide +kernel
theorem dX12_found_48 : decode cX12_found 48 = .ok (.aload_n 0, 1) := by decide +kernel
theorem dX12_found_49 : decode cX12_found 49 = .ok (.getfield 71, 3) := by decide +kernel
theorem dX12_found_52 : decode cX12_found 52 = .ok (.iload 4, 2) := by decide +kernel
theorem dX12_found_54 : decode cX12_found 54 = .ok (.iaload, 1) := by decide +kernel
theorem dX12_found_55 : decode cX12_found 55 = .ok (.if_icmp .gt 84, 3) := by decide +kernel
theorem dX12_found_58 : decode cX12_found 58 = .ok (.iconst 1, 1) := by decide +kernel
theorem dX12_found_59 : decode cX12_found 59 = .ok (.istore 6, 2) := by decide +kernel
theorem dX12_found_61 : decode cX12_found 61 = .ok (.iconst 0, 1) := by decide +kernel
theorem dX12_found_62 : decode cX12_found 62 = .ok (.istore 7, 2) := by decide +kernel
theorem dX12_found_64 : decode cX12_found 64 = .ok (.iload 7, 2) := by decide +kernel
theorem dX12_found_66 : decode cX12_found 66 = .ok (.aload_n 0, 1) := by decide +kernel
theorem dX12_found_67 : decode cX12_found 67 = .ok (.getfield 351, 3) := by decide +kernel
theorem dX12_found_70 : decode cX12_found 70 = .ok (.if_icmp .ge 47, 3) := by decide +kernel
theorem dX12_found_73 : decode cX12_found 73 = .ok (.iload 6, 2) := by decide +kernel
theorem dX12_found_75 : decode cX12_found 75 = .ok (.ifCond .eq 42, 3) := by decide +kernel
theorem dX12_found_78 : decode cX12_found 78 = .ok (.aload_n 0, 1) := by decide +kernel
theorem dX12_found_79 : decode cX12_found 79 = .ok (.getfield 68, 3) := by decide +kernel
theorem dX12_found_82 : decode cX12_found 82 = .ok (.bipush 24, 2) := by decide +kernel
theorem dX12_found_84 : decode cX12_found 84 = .ok (.iload 4, 2) := by decide +kernel
theorem dX12_found_86 : decode cX12_found 86 = .ok (.imul, 1) := by decide +kernel
theorem dX12_found_87 : decode cX12_found 87 = .ok (.iload 5, 2) := by decide +kernel
theorem dX12_found_89 : decode cX12_found 89 = .ok (.iadd, 1) := by decide +kernel
theorem dX12_found_90 : decode cX12_found 90 = .ok (.iload 7, 2) := by decide +kernel
theorem dX12_found_92 : decode cX12_found 92 = .ok (.iadd, 1) := by decide +kernel
theorem dX12_found_93 : decode cX12_found 93 = .ok (.iaload, 1) := by decide +kernel
theorem dX12_found_94 : decode cX12_found 94 = .ok (.aload_n 0, 1) := by decide +kernel
theorem dX12_found_95 : decode cX12_found 95 = .ok (.getfield 80, 3) := by decide +kernel
theorem dX12_found_98 : decode cX12_found 98 = .ok (.iload 7, 2) := by decide +kernel
theorem dX12_found_100 : decode cX12_found 100 = .ok (.iaload, 1) := by decide +kernel
theorem dX12_found_101 : decode cX12_found 101 = .ok (.if_icmp .ne 7, 3) := by decide +kernel
theorem dX12_found_104 : decode cX12_found 104 = .ok (.iconst 1, 1) := by decide +kernel
theorem dX12_found_105 : decode cX12_found 105 = .ok (.goto 4, 3) := by decide +kernel
theorem dX12_found_108 : decode cX12_found 108 = .ok (.iconst 0, 1) := by decide +kernel
theorem dX12_found_109 : decode cX12_found 109 = .ok (.istore 6, 2) := by decide +kernel
theorem dX12_found_111 : decode cX12_found 111 = .ok (.iinc 7 1, 3) := by decide +kernel
theorem dX12_found_114 : decode cX12_found 114 = .ok (.goto (-50), 3) := by decide +kernel
theorem dX12_found_117 : decode cX12_found 117 = .ok (.iload_n 3, 1) := by decide +kernel
theorem dX12_found_118 : decode cX12_found 118 = .ok (.iload 6, 2) := by decide +kernel
theorem dX12_found_120 : decode cX12_found 120 = .ok (.ifCond .eq 10, 3) := by decide +kernel
theorem dX12_found_123 : decode cX12_found 123 = .ok (.iconst 1, 1) := by decide +kernel
theorem dX12_found_124 : decode cX12_found 124 = .ok (.iload 4, 2) := by decide +kernel
theorem dX12_found_126 : decode cX12_found 126 = .ok (.ishl, 1) := by decide +kernel
theorem dX12_found_127 : decode cX12_found 127 = .ok (.goto 4, 3) := by decide +kernel
theorem dX12_found_130 : decode cX12_found 130 = .ok (.iconst 0, 1) := by decide +kernel
theorem dX12_found_131 : decode cX12_found 131 = .ok (.ior, 1) := by decide +kernel
theorem dX12_found_132 : decode cX12_found 132 = .ok (.istore_n 3, 1) := by decide +kernel
theorem dX12_found_133 : decode cX12_found 133 = .ok (.iinc 5 1, 3) := by decide +kernel
theorem dX12_found_136 : decode cX12_found 136 = .ok (.goto (-95), 3) := by decide +kernel
theorem dX12_found_139 : decode cX12_found 139 = .ok (.iinc 4 1, 3) := by decide +kernel
theorem dX12_found_142 : decode cX12_found 142 = .ok (.goto (-115), 3) := by decide +kernel
theorem dX12_found_145 : decode cX12_found 145 = .ok (.iload_n 3, 1) := by decide +kernel
theorem dX12_found_146 : decode cX12_found 146 = .ok (.ireturn, 1) := by decide +kernel
theorem r_X12_found_139 (E : kr_E) (k_27 : Int32 → Int32 → kr_M → Option (Int32 × kr_M)) (l3 : Int32) (l4 : Int32) (hk_27 : ∀ (x3 : Int32) (x4 : Int32) (M : kr_M), kR kr_vi E Y_X12_found 5 27 [(0, kr_r E 346), (3, .int x3), (4, .int x4)] [] M (k_27 x3 x4 M)) (M : kr_M) : kR kr_vi E Y_X12_found 5 139 [(0, kr_r E 346), (3, .int l3), (4, .int l4)] [] M (f_X12_found_139 k_27 l3 l4 M) := by
  rw [f_X12_found_139]
  refine kr_iinc (j := 2) (v := (l4 + (1 : Int32))) (lv' := [(4, .int (l4 + (1 : Int32))), (0, kr_r E 346), (3, .int l3)]) dX12_found_139 rfl rfl (by decide) rfl ?_
  refine kr_goto (tgt := 27) dX12_found_142 (by decide) ?_
  refine kr_sub [1, 2, 0] rfl ?_
  exact hk_27 l3 (l4 + (1 : Int32)) M
theorem r_X12_found_131 (E : kr_E) (k_41 : Int32 → Int32 → kr_M → Option (Int32 × kr_M)) (l4 : Int32) (l5 : Int32) (s0 : Int32) (s1 : Int32) (hk_41 : ∀ (x3 : Int32) (x5 : Int32) (M : kr_M), kR kr_vi E Y_X12_found 5 41 [(0, kr_r E 346), (3, .int x3), (4, .int l4), (5, .int x5)] [] M (k_41 x3 x5 M)) (M : kr_M) : kR kr_vi E Y_X12_found 5 131 [(0, kr_r E 346), (4, .int l4), (5, .int l5)] [.int s0, .int s1] M (f_X12_found_131 k_41 l5 s0 s1 M) := by
  rw [f_X12_found_131]
  refine kr_ior dX12_found_131 ?_
  refine kr_nmi (fun v1 => ?_)
  refine kr_istore_n (lv' := [(3, .int v1), (0, kr_r E 346), (4, .int l4), (5, .int l5)]) dX12_found_132 rfl (by decide) rfl ?_
  refine kr_iinc (j := 3) (v := (l5 + (1 : Int32))) (lv' := [(5, .int (l5 + (1 : Int32))), (3, .int v1), (0, kr_r E 346), (4, .int l4)]) dX12_found_133 rfl rfl (by decide) rfl ?_
  refine kr_goto (tgt := 41) dX12_found_136 (by decide) ?_
  refine kr_sub [2, 1, 3, 0] rfl ?_
  exact hk_41 v1 (l5 + (1 : Int32)) M
theorem r_X12_found_117 (E : kr_E) (k_41 : Int32 → Int32 → kr_M → Option (Int32 × kr_M)) (l3 : Int32) (l4 : Int32) (l5 : Int32) (l6 : Int32) (hk_41 : ∀ (x3 : Int32) (x5 : Int32) (M : kr_M), kR kr_vi E Y_X12_found 5 41 [(0, kr_r E 346), (3, .int x3), (4, .int l4), (5, .int x5)] [] M (k_41 x3 x5 M)) (M : kr_M) : kR kr_vi E Y_X12_found 5 117 [(0, kr_r E 346), (3, .int l3), (4, .int l4), (5, .int l5), (6, .int l6)] [] M (f_X12_found_117 k_41 l3 l4 l5 l6 M) := by
  rw [f_X12_found_117]
  refine kr_iload_n dX12_found_117 rfl 1 rfl ?_
  refine kr_iload dX12_found_118 4 rfl ?_
  refine kr_if_eq (tgt := 130) dX12_found_120 (by decide) ?_ ?_
  · refine kr_iconst (v := 0) dX12_found_130 (by decide) ?_
    refine kr_sub [0, 2, 3] rfl ?_
    exact r_X12_found_131 E _ l4 l5 (0 : Int32) l3 hk_41 M
  · refine kr_iconst (v := 1) dX12_found_123 (by decide) ?_
    refine kr_iload dX12_found_124 2 rfl ?_
    refine kr_ishl dX12_found_126 ?_
    refine kr_goto (tgt := 131) dX12_found_127 (by decide) ?_
    refine kr_sub [0, 2, 3] rfl ?_
    exact r_X12_found_131 E _ l4 l5 ((1 : Int32) <<< (l4 &&& 31)) l3 hk_41 M
theorem r_X12_found_109 (E : kr_E) (k_64 : Int32 → Int32 → kr_M → Option (Int32 × kr_M)) (l3 : Int32) (l4 : Int32) (l5 : Int32) (l7 : Int32) (s0 : Int32) (hk_64 : ∀ (x6 : Int32) (x7 : Int32) (M : kr_M), kR kr_vi E Y_X12_found 5 64 [(0, kr_r E 346), (3, .int l3), (4, .int l4), (5, .int l5), (6, .int x6), (7, .int x7)] [] M (k_64 x6 x7 M)) (M : kr_M) : kR kr_vi E Y_X12_found 5 109 [(0, kr_r E 346), (3, .int l3), (4, .int l4), (5, .int l5), (7, .int l7)] [.int s0] M (f_X12_found_109 k_64 l7 s0 M) := by
  rw [f_X12_found_109]
  refine kr_istore (lv' := [(6, .int s0), (0, kr_r E 346), (3, .int l3), (4, .int l4), (5, .int l5), (7, .int l7)]) dX12_found_109 (by decide) rfl ?_
  refine kr_iinc (j := 5) (v := (l7 + (1 : Int32))) (lv' := [(7, .int (l7 + (1 : Int32))), (6, .int s0), (0, kr_r E 346), (3, .int l3), (4, .int l4), (5, .int l5)]) dX12_found_111 rfl rfl (by decide) rfl ?_
  refine kr_goto (tgt := 64) dX12_found_114 (by decide) ?_
  refine kr_sub [2, 3, 4, 5, 1, 0] rfl ?_
  exact hk_64 s0 (l7 + (1 : Int32)) M
theorem r_X12_found_64 (E : kr_E) (k_41 : Int32 → Int32 → kr_M → Option (Int32 × kr_M)) (l3 : Int32) (l4 : Int32) (l5 : Int32) (hk_41 : ∀ (x3 : Int32) (x5 : Int32) (M : kr_M), kR kr_vi E Y_X12_found 5 41 [(0, kr_r E 346), (3, .int x3), (4, .int l4), (5, .int x5)] [] M (k_41 x3 x5 M)) : ∀ (n : Nat) (l6 : Int32) (l7 : Int32) (M : kr_M), kR kr_vi E Y_X12_found 5 64 [(0, kr_r E 346), (3, .int l3), (4, .int l4), (5, .int l5), (6, .int l6), (7, .int l7)] [] M (f_X12_found_64 k_41 l3 l4 l5 n l6 l7 M) := by
  intro n
  induction n with
  | zero => intro l6 l7 M; exact kr_none
  | succ n ih =>
    intro l6 l7 M
    rw [f_X12_found_64]
    refine kr_iload dX12_found_64 5 rfl ?_
    refine kr_aload_n dX12_found_66 rfl 0 rfl ?_
    refine kr_getI (ci := 12) (j := 34) dX12_found_67 kr_at_346 fl_RX12_351 rfl (fun v1 => ?_)
    refine kr_icmp_ge (tgt := 117) dX12_found_70 (by decide) ?_ ?_
    · refine kr_sub [0, 1, 2, 3, 4] rfl ?_
      exact r_X12_found_117 E _ l3 l4 l5 l6 hk_41 M
    · refine kr_iload dX12_found_73 4 rfl ?_
      refine kr_if_eq (tgt := 117) dX12_found_75 (by decide) ?_ ?_
      · refine kr_sub [0, 1, 2, 3, 4] rfl ?_
        exact r_X12_found_117 E _ l3 l4 l5 l6 hk_41 M
      · refine kr_aload_n dX12_found_78 rfl 0 rfl ?_
        refine kr_getA (o := 18) (ci := 12) (j := 28) dX12_found_79 kr_at_346 fl_RX12_68 rfl ?_
        refine kr_bipush (v := 24) dX12_found_82 (by decide) ?_
        refine kr_iload dX12_found_84 2 rfl ?_
        refine kr_imul dX12_found_86 ?_
        refine kr_iload dX12_found_87 3 rfl ?_
        refine kr_iadd dX12_found_89 ?_
        refine kr_iload dX12_found_90 5 rfl ?_
        refine kr_iadd dX12_found_92 ?_
        refine kr_iald dX12_found_93 kr_at_364 (fun v2 => ?_)
        refine kr_aload_n dX12_found_94 rfl 0 rfl ?_
        refine kr_getA (o := 22) (ci := 12) (j := 33) dX12_found_95 kr_at_346 fl_RX12_80 rfl ?_
        refine kr_iload dX12_found_98 5 rfl ?_
        refine kr_iald dX12_found_100 kr_at_368 (fun v3 => ?_)
        refine kr_icmp_ne (tgt := 108) dX12_found_101 (by decide) ?_ ?_
        · refine kr_iconst (v := 0) dX12_found_108 (by decide) ?_
          refine kr_sub [0, 1, 2, 3, 5] rfl ?_
          exact r_X12_found_109 E _ l3 l4 l5 l7 (0 : Int32) ih M
        · refine kr_iconst (v := 1) dX12_found_104 (by decide) ?_
          refine kr_goto (tgt := 109) dX12_found_105 (by decide) ?_
          refine kr_sub [0, 1, 2, 3, 5] rfl ?_
          exact r_X12_found_109 E _ l3 l4 l5 l7 (1 : Int32) ih M
theorem r_X12_found_41 (E : kr_E) (k_27 : Int32 → Int32 → kr_M → Option (Int32 × kr_M)) (l4 : Int32) (hk_27 : ∀ (x3 : Int32) (x4 : Int32) (M : kr_M), kR kr_vi E Y_X12_found 5 27 [(0, kr_r E 346), (3, .int x3), (4, .int x4)] [] M (k_27 x3 x4 M)) : ∀ (n : Nat) (l3 : Int32) (l5 : Int32) (M : kr_M), kR kr_vi E Y_X12_found 5 41 [(0, kr_r E 346), (3, .int l3), (4, .int l4), (5, .int l5)] [] M (f_X12_found_41 k_27 l4 n l3 l5 M) := by
  intro n
  induction n with
  | zero => intro l3 l5 M; exact kr_none
  | succ n ih =>
    intro l3 l5 M
    rw [f_X12_found_41]
    refine kr_iload dX12_found_41 3 rfl ?_
    refine kr_aload_n dX12_found_43 rfl 0 rfl ?_
    refine kr_getI (ci := 12) (j := 34) dX12_found_44 kr_at_346 fl_RX12_351 rfl (fun v1 => ?_)
    refine kr_iadd dX12_found_47 ?_
    refine kr_aload_n dX12_found_48 rfl 0 rfl ?_
    refine kr_getA (o := 19) (ci := 12) (j := 29) dX12_found_49 kr_at_346 fl_RX12_71 rfl ?_
    refine kr_iload dX12_found_52 2 rfl ?_
    refine kr_iald dX12_found_54 kr_at_365 (fun v2 => ?_)
    refine kr_icmp_gt (tgt := 139) dX12_found_55 (by decide) ?_ ?_
    · refine kr_sub [0, 1, 2] rfl ?_
      exact r_X12_found_139 E _ l3 l4 hk_27 M
    · refine kr_iconst (v := 1) dX12_found_58 (by decide) ?_
      refine kr_istore (lv' := [(6, .int (1 : Int32)), (0, kr_r E 346), (3, .int l3), (4, .int l4), (5, .int l5)]) dX12_found_59 (by decide) rfl ?_
      refine kr_iconst (v := 0) dX12_found_61 (by decide) ?_
      refine kr_istore (lv' := [(7, .int (0 : Int32)), (6, .int (1 : Int32)), (0, kr_r E 346), (3, .int l3), (4, .int l4), (5, .int l5)]) dX12_found_62 (by decide) rfl ?_
      refine kr_sub [2, 3, 4, 5, 1, 0] rfl ?_
      exact r_X12_found_64 E _ l3 l4 l5 ih _ (1 : Int32) (0 : Int32) M
theorem r_X12_found_27 (E : kr_E)    : ∀ (n : Nat) (l3 : Int32) (l4 : Int32) (M : kr_M), kR kr_vi E Y_X12_found 5 27 [(0, kr_r E 346), (3, .int l3), (4, .int l4)] [] M (f_X12_found_27 n l3 l4 M) := by
  intro n
  induction n with
  | zero => intro l3 l4 M; exact kr_none
  | succ n ih =>
    intro l3 l4 M
    rw [f_X12_found_27]
    refine kr_iload dX12_found_27 2 rfl ?_
    refine kr_aload_n dX12_found_29 rfl 0 rfl ?_
    refine kr_getA (o := 7) (ci := 12) (j := 17) dX12_found_30 kr_at_346 fl_RX12_34 rfl ?_
    refine kr_iconst (v := 5) dX12_found_33 (by decide) ?_
    refine kr_iald dX12_found_34 kr_at_353 (fun v1 => ?_)
    refine kr_icmp_ge (tgt := 145) dX12_found_35 (by decide) ?_ ?_
    · refine kr_iload_n dX12_found_145 rfl 1 rfl ?_
      exact kr_iret dX12_found_146 rfl
    · refine kr_iconst (v := 0) dX12_found_38 (by decide) ?_
      refine kr_istore (lv' := [(5, .int (0 : Int32)), (0, kr_r E 346), (3, .int l3), (4, .int l4)]) dX12_found_39 (by decide) rfl ?_
      refine kr_sub [1, 2, 3, 0] rfl ?_
      exact r_X12_found_41 E _ l4 ih _ l3 (0 : Int32) M
theorem r_X12_found (E : kr_E) (p1 : Int32) (M : kr_M) : kR kr_vi E Y_X12_found 5 0 [(0, kr_r E 346), (1, .int p1)] [] M (f_X12_found p1 M) := by
  rw [f_X12_found]
  refine kr_aload_n dX12_found_0 rfl 0 rfl ?_
  refine kr_iconst (v := 0) dX12_found_1 (by decide) ?_
  refine kr_putI (ci := 12) (j := 0) dX12_found_2 kr_at_346 fl_RX12_138 rfl rfl (fun M1 => ?_)
  refine kr_aload_n dX12_found_5 rfl 0 rfl ?_
  refine kr_iload_n dX12_found_6 rfl 1 rfl ?_
  refine kr_Vi (As := [.int p1]) (st := []) zv_X12_whyNot dX12_found_7 ml_RX12_534 kr_at_346 (r_X12_whyNot E p1 M1) rfl rfl (Nat.le_of_ble_eq_true rfl) rfl (by decide) (Nat.le_of_ble_eq_true rfl) (fun r3 M2 => ?_)
  refine kr_istore_n (lv' := [(2, .int r3), (0, kr_r E 346), (1, .int p1)]) dX12_found_10 rfl (by decide) rfl ?_
  refine kr_iload_n dX12_found_11 rfl 0 rfl ?_
  refine kr_if_eq (tgt := 17) dX12_found_12 (by decide) ?_ ?_
  · refine kr_aload_n dX12_found_17 rfl 1 rfl ?_
    refine kr_iload_n dX12_found_18 rfl 2 rfl ?_
    refine kr_Vv (As := [.int p1]) (st := []) zv_X12_liesTold dX12_found_19 ml_RX12_537 kr_at_346 (r_X12_liesTold E p1 M2) rfl rfl (Nat.le_of_ble_eq_true rfl) rfl (by decide) (Nat.le_of_ble_eq_true rfl) (fun M4 => ?_)
    refine kr_iconst (v := 0) dX12_found_22 (by decide) ?_
    refine kr_istore_n (lv' := [(3, .int (0 : Int32)), (2, .int r3), (0, kr_r E 346), (1, .int p1)]) dX12_found_23 rfl (by decide) rfl ?_
    refine kr_iconst (v := 0) dX12_found_24 (by decide) ?_
    refine kr_istore (lv' := [(4, .int (0 : Int32)), (3, .int (0 : Int32)), (2, .int r3), (0, kr_r E 346), (1, .int p1)]) dX12_found_25 (by decide) rfl ?_
    refine kr_sub [3, 1, 0] rfl ?_
    exact r_X12_found_27 E _ (0 : Int32) (0 : Int32) M4
  · refine kr_iload_n dX12_found_15 rfl 0 rfl ?_
    exact kr_iret dX12_found_16 rfl
theorem dX12_isLess_0 : decode cX12_isLess 0 = .ok (.iload_n 1, 1) := by decide +kernel
theorem dX12_isLess_1 : decode cX12_isLess 1 = .ok (.istore_n 2, 1) := by decide +kernel
theorem dX12_isLess_2 : decode cX12_isLess 2 = .ok (.iload_n 2, 1) := by decide +kernel
theorem dX12_isLess_3 : decode cX12_isLess 3 = .ok (.aload_n 0, 1) := by decide +kernel
theorem dX12_isLess_4 : decode cX12_isLess 4 = .ok (.getfield 351, 3) := by decide +kernel
theorem dX12_isLess_7 : decode cX12_isLess 7 = .ok (.if_icmp .ge 55, 3) := by decide +kernel
theorem dX12_isLess_10 : decode cX12_isLess 10 = .ok (.aload_n 0, 1) := by decide +kernel
theorem dX12_isLess_11 : decode cX12_isLess 11 = .ok (.getfield 135, 3) := by decide +kernel
theorem dX12_isLess_14 : decode cX12_isLess 14 = .ok (.iload_n 2, 1) := by decide +kernel
theorem dX12_isLess_15 : decode cX12_isLess 15 = .ok (.iaload, 1) := by decide +kernel
theorem dX12_isLess_16 : decode cX12_isLess 16 = .ok (.aload_n 0, 1) := by decide +kernel
theorem dX12_isLess_17 : decode cX12_isLess 17 = .ok (.getfield 132, 3) := by decide +kernel
theorem dX12_isLess_20 : decode cX12_isLess 20 = .ok (.bipush 24, 2) := by decide +kernel
theorem dX12_isLess_22 : decode cX12_isLess 22 = .ok (.iload_n 1, 1) := by decide +kernel
theorem dX12_isLess_23 : decode cX12_isLess 23 = .ok (.imul, 1) := by decide +kernel
theorem dX12_isLess_24 : decode cX12_isLess 24 = .ok (.iload_n 2, 1) := by decide +kernel
theorem dX12_isLess_25 : decode cX12_isLess 25 = .ok (.iadd, 1) := by decide +kernel
theorem dX12_isLess_26 : decode cX12_isLess 26 = .ok (.iaload, 1) := by decide +kernel
theorem dX12_isLess_27 : decode cX12_isLess 27 = .ok (.if_icmp .eq 29, 3) := by decide +kernel
theorem dX12_isLess_30 : decode cX12_isLess 30 = .ok (.aload_n 0, 1) := by decide +kernel
theorem dX12_isLess_31 : decode cX12_isLess 31 = .ok (.getfield 135, 3) := by decide +kernel
theorem dX12_isLess_34 : decode cX12_isLess 34 = .ok (.iload_n 2, 1) := by decide +kernel
theorem dX12_isLess_35 : decode cX12_isLess 35 = .ok (.iaload, 1) := by decide +kernel
theorem dX12_isLess_36 : decode cX12_isLess 36 = .ok (.aload_n 0, 1) := by decide +kernel
theorem dX12_isLess_37 : decode cX12_isLess 37 = .ok (.getfield 132, 3) := by decide +kernel
theorem dX12_isLess_40 : decode cX12_isLess 40 = .ok (.bipush 24, 2) := by decide +kernel
theorem dX12_isLess_42 : decode cX12_isLess 42 = .ok (.iload_n 1, 1) := by decide +kernel
theorem dX12_isLess_43 : decode cX12_isLess 43 = .ok (.imul, 1) := by decide +kernel
theorem dX12_isLess_44 : decode cX12_isLess 44 = .ok (.iload_n 2, 1) := by decide +kernel
theorem dX12_isLess_45 : decode cX12_isLess 45 = .ok (.iadd, 1) := by decide +kernel
theorem dX12_isLess_46 : decode cX12_isLess 46 = .ok (.iaload, 1) := by decide +kernel
theorem dX12_isLess_47 : decode cX12_isLess 47 = .ok (.if_icmp .ge 7, 3) := by decide +kernel
theorem dX12_isLess_50 : decode cX12_isLess 50 = .ok (.iconst 1, 1) := by decide +kernel
theorem dX12_isLess_51 : decode cX12_isLess 51 = .ok (.goto 4, 3) := by decide +kernel
theorem dX12_isLess_54 : decode cX12_isLess 54 = .ok (.iconst 0, 1) := by decide +kernel
theorem dX12_isLess_55 : decode cX12_isLess 55 = .ok (.ireturn, 1) := by decide +kernel
theorem dX12_isLess_56 : decode cX12_isLess 56 = .ok (.iinc 2 1, 3) := by decide +kernel
theorem dX12_isLess_59 : decode cX12_isLess 59 = .ok (.goto (-57), 3) := by decide +kernel
theorem dX12_isLess_62 : decode cX12_isLess 62 = .ok (.iconst 0, 1) := by decide +kernel
theorem dX12_isLess_63 : decode cX12_isLess 63 = .ok (.ireturn, 1) := by decide +kernel
theorem r_X12_isLess_30 (E : kr_E)  (l1 : Int32) (l2 : Int32)  (M : kr_M) : kR kr_vi E Y_X12_isLess 1 30 [(0, kr_r E 346), (1, .int l1), (2, .int l2)] [] M (f_X12_isLess_30 l1 l2 M) := by
  rw [f_X12_isLess_30]
  refine kr_aload_n dX12_isLess_30 rfl 0 rfl ?_
  refine kr_getA (o := 40) (ci := 12) (j := 61) dX12_isLess_31 kr_at_346 fl_RX12_135 rfl ?_
  refine kr_iload_n dX12_isLess_34 rfl 2 rfl ?_
  refine kr_iald dX12_isLess_35 kr_at_386 (fun v1 => ?_)
  refine kr_aload_n dX12_isLess_36 rfl 0 rfl ?_
  refine kr_getA (o := 39) (ci := 12) (j := 60) dX12_isLess_37 kr_at_346 fl_RX12_132 rfl ?_
  refine kr_bipush (v := 24) dX12_isLess_40 (by decide) ?_
  refine kr_iload_n dX12_isLess_42 rfl 1 rfl ?_
  refine kr_imul dX12_isLess_43 ?_
  refine kr_iload_n dX12_isLess_44 rfl 2 rfl ?_
  refine kr_iadd dX12_isLess_45 ?_
  refine kr_iald dX12_isLess_46 kr_at_385 (fun v2 => ?_)
  refine kr_icmp_ge (tgt := 54) dX12_isLess_47 (by decide) ?_ ?_
  · refine kr_iconst (v := 0) dX12_isLess_54 (by decide) ?_
    exact kr_zret1 dX12_isLess_55 rfl rfl
  · refine kr_iconst (v := 1) dX12_isLess_50 (by decide) ?_
    refine kr_goto (tgt := 55) dX12_isLess_51 (by decide) ?_
    exact kr_zret1 dX12_isLess_55 rfl rfl
theorem r_X12_isLess_2 (E : kr_E)  (l1 : Int32)  : ∀ (n : Nat) (l2 : Int32) (M : kr_M), kR kr_vi E Y_X12_isLess 1 2 [(0, kr_r E 346), (1, .int l1), (2, .int l2)] [] M (f_X12_isLess_2 l1 n l2 M) := by
  intro n
  induction n with
  | zero => intro l2 M; exact kr_none
  | succ n ih =>
    intro l2 M
    rw [f_X12_isLess_2]
    refine kr_iload_n dX12_isLess_2 rfl 2 rfl ?_
    refine kr_aload_n dX12_isLess_3 rfl 0 rfl ?_
    refine kr_getI (ci := 12) (j := 34) dX12_isLess_4 kr_at_346 fl_RX12_351 rfl (fun v1 => ?_)
    refine kr_icmp_ge (tgt := 62) dX12_isLess_7 (by decide) ?_ ?_
    · refine kr_iconst (v := 0) dX12_isLess_62 (by decide) ?_
      exact kr_zret1 dX12_isLess_63 rfl rfl
    · refine kr_aload_n dX12_isLess_10 rfl 0 rfl ?_
      refine kr_getA (o := 40) (ci := 12) (j := 61) dX12_isLess_11 kr_at_346 fl_RX12_135 rfl ?_
      refine kr_iload_n dX12_isLess_14 rfl 2 rfl ?_
      refine kr_iald dX12_isLess_15 kr_at_386 (fun v2 => ?_)
      refine kr_aload_n dX12_isLess_16 rfl 0 rfl ?_
      refine kr_getA (o := 39) (ci := 12) (j := 60) dX12_isLess_17 kr_at_346 fl_RX12_132 rfl ?_
      refine kr_bipush (v := 24) dX12_isLess_20 (by decide) ?_
      refine kr_iload_n dX12_isLess_22 rfl 1 rfl ?_
      refine kr_imul dX12_isLess_23 ?_
      refine kr_iload_n dX12_isLess_24 rfl 2 rfl ?_
      refine kr_iadd dX12_isLess_25 ?_
      refine kr_iald dX12_isLess_26 kr_at_385 (fun v3 => ?_)
      refine kr_icmp_eq (tgt := 56) dX12_isLess_27 (by decide) ?_ ?_
      · refine kr_iinc (j := 2) (v := (l2 + (1 : Int32))) (lv' := [(2, .int (l2 + (1 : Int32))), (0, kr_r E 346), (1, .int l1)]) dX12_isLess_56 rfl rfl (by decide) rfl ?_
        refine kr_goto (tgt := 2) dX12_isLess_59 (by decide) ?_
        refine kr_sub [1, 2, 0] rfl ?_
        exact ih (l2 + (1 : Int32)) M
      · refine kr_sub [0, 1, 2] rfl ?_
        exact r_X12_isLess_30 E l1 l2 M
theorem r_X12_isLess (E : kr_E) (p1 : Int32) (M : kr_M) : kR kr_vi E Y_X12_isLess 1 0 [(0, kr_r E 346), (1, .int p1)] [] M (f_X12_isLess p1 M) := by
  rw [f_X12_isLess]
  refine kr_iload_n dX12_isLess_0 rfl 1 rfl ?_
  refine kr_istore_n (lv' := [(2, .int p1), (0, kr_r E 346), (1, .int p1)]) dX12_isLess_1 rfl (by decide) rfl ?_
  refine kr_sub [1, 2, 0] rfl ?_
  exact r_X12_isLess_2 E p1 _ p1 M
theorem dX12_laysMend_0 : decode cX12_laysMend 0 = .ok (.aload_n 0, 1) := by decide +kernel
theorem dX12_laysMend_1 : decode cX12_laysMend 1 = .ok (.iload_n 1, 1) := by decide +kernel
theorem dX12_laysMend_2 : decode cX12_laysMend 2 = .ok (.invokevirtual 537, 3) := by decide +kernel
theorem dX12_laysMend_5 : decode cX12_laysMend 5 = .ok (.aload_n 0, 1) := by decide +kernel
theorem dX12_laysMend_6 : decode cX12_laysMend 6 = .ok (.getfield 129, 3) := by decide +kernel
theorem dX12_laysMend_9 : decode cX12_laysMend 9 = .ok (.aload_n 0, 1) := by decide +kernel
theorem dX12_laysMend_10 : decode cX12_laysMend 10 = .ok (.getfield 351, 3) := by decide +kernel
theorem dX12_laysMend_13 : decode cX12_laysMend 13 = .ok (.iconst 0, 1) := by decide +kernel
theorem dX12_laysMend_14 : decode cX12_laysMend 14 = .ok (.iastore, 1) := by decide +kernel
theorem dX12_laysMend_15 : decode cX12_laysMend 15 = .ok (.aload_n 0, 1) := by decide +kernel
theorem dX12_laysMend_16 : decode cX12_laysMend 16 = .ok (.getfield 351, 3) := by decide +kernel
theorem dX12_laysMend_19 : decode cX12_laysMend 19 = .ok (.iconst 1, 1) := by decide +kernel
theorem dX12_laysMend_20 : decode cX12_laysMend 20 = .ok (.isub, 1) := by decide +kernel
theorem dX12_laysMend_21 : decode cX12_laysMend 21 = .ok (.istore_n 2, 1) := by decide +kernel
theorem dX12_laysMend_22 : decode cX12_laysMend 22 = .ok (.iload_n 2, 1) := by decide +kernel
theorem dX12_laysMend_23 : decode cX12_laysMend 23 = .ok (.ifCond .lt 268, 3) := by decide +kernel
theorem dX12_laysMend_26 : decode cX12_laysMend 26 = .ok (.aload_n 0, 1) := by decide +kernel
theorem dX12_laysMend_27 : decode cX12_laysMend 27 = .ok (.getfield 129, 3) := by decide +kernel
theorem dX12_laysMend_30 : decode cX12_laysMend 30 = .ok (.iload_n 2, 1) := by decide +kernel
theorem dX12_laysMend_31 : decode cX12_laysMend 31 = .ok (.ldc_w 354, 3) := by decide +kernel
theorem dX12_laysMend_34 : decode cX12_laysMend 34 = .ok (.iastore, 1) := by decide +kernel
theorem dX12_laysMend_35 : decode cX12_laysMend 35 = .ok (.iconst 0, 1) := by decide +kernel
theorem dX12_laysMend_36 : decode cX12_laysMend 36 = .ok (.istore_n 3, 1) := by decide +kernel
theorem dX12_laysMend_37 : decode cX12_laysMend 37 = .ok (.iload_n 3, 1) := by decide +kernel
theorem dX12_laysMend_38 : decode cX12_laysMend 38 = .ok (.aload_n 0, 1) := by decide +kernel
theorem dX12_laysMend_39 : decode cX12_laysMend 39 = .ok (.getfield 34, 3) := by decide +kernel
theorem dX12_laysMend_42 : decode cX12_laysMend 42 = .ok (.iconst 4, 1) := by decide +kernel
theorem dX12_laysMend_43 : decode cX12_laysMend 43 = .ok (.iaload, 1) := by decide +kernel
theorem dX12_laysMend_44 : decode cX12_laysMend 44 = .ok (.if_icmp .ge 241, 3) := by decide +kernel
theorem dX12_laysMend_47 : decode cX12_laysMend 47 = .ok (.iload_n 2, 1) := by decide +kernel
theorem dX12_laysMend_48 : decode cX12_laysMend 48 = .ok (.aload_n 0, 1) := by decide +kernel
theorem dX12_laysMend_49 : decode cX12_laysMend 49 = .ok (.getfield 43, 3) := by decide +kernel
theorem dX12_laysMend_52 : decode cX12_laysMend 52 = .ok (.iload_n 3, 1) := by decide +kernel
theorem dX12_laysMend_53 : decode cX12_laysMend 53 = .ok (.iaload, 1) := by decide +kernel
theorem dX12_laysMend_54 : decode cX12_laysMend 54 = .ok (.iadd, 1) := by decide +kernel
theorem dX12_laysMend_55 : decode cX12_laysMend 55 = .ok (.istore 4, 2) := by decide +kernel
theorem dX12_laysMend_57 : decode cX12_laysMend 57 = .ok (.iload 4, 2) := by decide +kernel
theorem dX12_laysMend_59 : decode cX12_laysMend 59 = .ok (.aload_n 0, 1) := by decide +kernel
theorem dX12_laysMend_60 : decode cX12_laysMend 60 = .ok (.getfield 351, 3) := by decide +kernel
theorem dX12_laysMend_63 : decode cX12_laysMend 63 = .ok (.if_icmp .gt 216, 3) := by decide +kernel
theorem dX12_laysMend_66 : decode cX12_laysMend 66 = .ok (.aload_n 0, 1) := by decide +kernel
theorem dX12_laysMend_67 : decode cX12_laysMend 67 = .ok (.getfield 129, 3) := by decide +kernel
theorem dX12_laysMend_70 : decode cX12_laysMend 70 = .ok (.iload 4, 2) := by decide +kernel
theorem dX12_laysMend_72 : decode cX12_laysMend 72 = .ok (.iaload, 1) := by decide +kernel
theorem dX12_laysMend_73 : decode cX12_laysMend 73 = .ok (.ldc_w 354, 3) := by decide +kernel
theorem dX12_laysMend_76 : decode cX12_laysMend 76 = .ok (.if_icmp .lt 6, 3) := by decide +kernel
theorem dX12_laysMend_79 : decode cX12_laysMend 79 = .ok (.goto 200, 3) := by decide +kernel
theorem dX12_laysMend_82 : decode cX12_laysMend 82 = .ok (.aload_n 0, 1) := by decide +kernel
theorem dX12_laysMend_83 : decode cX12_laysMend 83 = .ok (.getfield 129, 3) := by decide +kernel
theorem dX12_laysMend_86 : decode cX12_laysMend 86 = .ok (.iload 4, 2) := by decide +kernel
theorem dX12_laysMend_88 : decode cX12_laysMend 88 = .ok (.iaload, 1) := by decide +kernel
theorem dX12_laysMend_89 : decode cX12_laysMend 89 = .ok (.istore 5, 2) := by decide +kernel
theorem dX12_laysMend_91 : decode cX12_laysMend 91 = .ok (.iconst 0, 1) := by decide +kernel
theorem dX12_laysMend_92 : decode cX12_laysMend 92 = .ok (.istore 6, 2) := by decide +kernel
theorem dX12_laysMend_94 : decode cX12_laysMend 94 = .ok (.iload 6, 2) := by decide +kernel
theorem dX12_laysMend_96 : decode cX12_laysMend 96 = .ok (.aload_n 0, 1) := by decide +kernel
theorem dX12_laysMend_97 : decode cX12_laysMend 97 = .ok (.getfield 43, 3) := by decide +kernel
theorem dX12_laysMend_100 : decode cX12_laysMend 100 = .ok (.iload_n 3, 1) := by decide +kernel
theorem dX12_laysMend_101 : decode cX12_laysMend 101 = .ok (.iaload, 1) := by decide +kernel
theorem dX12_laysMend_102 : decode cX12_laysMend 102 = .ok (.if_icmp .ge 60, 3) := by decide +kernel
theorem dX12_laysMend_105 : decode cX12_laysMend 105 = .ok (.aload_n 0, 1) := by decide +kernel
theorem dX12_laysMend_106 : decode cX12_laysMend 106 = .ok (.getfield 135, 3) := by decide +kernel
theorem dX12_laysMend_109 : decode cX12_laysMend 109 = .ok (.iload_n 2, 1) := by decide +kernel
theorem dX12_laysMend_110 : decode cX12_laysMend 110 = .ok (.iload 6, 2) := by decide +kernel
theorem dX12_laysMend_112 : decode cX12_laysMend 112 = .ok (.iadd, 1) := by decide +kernel
theorem dX12_laysMend_113 : decode cX12_laysMend 113 = .ok (.aload_n 0, 1) := by decide +kernel
theorem dX12_laysMend_114 : decode cX12_laysMend 114 = .ok (.getfield 49, 3) := by decide +kernel
theorem dX12_laysMend_117 : decode cX12_laysMend 117 = .ok (.iconst 4, 1) := by decide +kernel
theorem dX12_laysMend_118 : decode cX12_laysMend 118 = .ok (.iload_n 3, 1) := by decide +kernel
theorem dX12_laysMend_119 : decode cX12_laysMend 119 = .ok (.imul, 1) := by decide +kernel
theorem dX12_laysMend_120 : decode cX12_laysMend 120 = .ok (.iload 6, 2) := by decide +kernel
theorem dX12_laysMend_122 : decode cX12_laysMend 122 = .ok (.iadd, 1) := by decide +kernel
theorem dX12_laysMend_123 : decode cX12_laysMend 123 = .ok (.iaload, 1) := by decide +kernel
theorem dX12_laysMend_124 : decode cX12_laysMend 124 = .ok (.iastore, 1) := by decide +kernel
theorem dX12_laysMend_125 : decode cX12_laysMend 125 = .ok (.iload 5, 2) := by decide +kernel
theorem dX12_laysMend_127 : decode cX12_laysMend 127 = .ok (.aload_n 0, 1) := by decide +kernel
theorem dX12_laysMend_128 : decode cX12_laysMend 128 = .ok (.getfield 135, 3) := by decide +kernel
theorem dX12_laysMend_131 : decode cX12_laysMend 131 = .ok (.iload_n 2, 1) := by decide +kernel
theorem dX12_laysMend_132 : decode cX12_laysMend 132 = .ok (.iload 6, 2) := by decide +kernel
theorem dX12_laysMend_134 : decode cX12_laysMend 134 = .ok (.iadd, 1) := by decide +kernel
theorem dX12_laysMend_135 : decode cX12_laysMend 135 = .ok (.iaload, 1) := by decide +kernel
theorem dX12_laysMend_136 : decode cX12_laysMend 136 = .ok (.aload_n 0, 1) := by decide +kernel
theorem dX12_laysMend_137 : decode cX12_laysMend 137 = .ok (.getfield 80, 3) := by decide +kernel
theorem dX12_laysMend_140 : decode cX12_laysMend 140 = .ok (.iload_n 2, 1) := by decide +kernel
theorem dX12_laysMend_141 : decode cX12_laysMend 141 = .ok (.iload 6, 2) := by decide +kernel
theorem dX12_laysMend_143 : decode cX12_laysMend 143 = .ok (.iadd, 1) := by decide +kernel
theorem dX12_laysMend_144 : decode cX12_laysMend 144 = .ok (.iaload, 1) := by decide +kernel
theorem dX12_laysMend_145 : decode cX12_laysMend 145 = .ok (.if_icmp .eq 7, 3) := by decide +kernel
theorem dX12_laysMend_148 : decode cX12_laysMend 148 = .ok (.iconst 1, 1) := by decide +kernel
theorem dX12_laysMend_149 : decode cX12_laysMend 149 = .ok (.goto 4, 3) := by decide +kernel
theorem dX12_laysMend_152 : decode cX12_laysMend 152 = .ok (.iconst 0, 1) := by decide +kernel
theorem dX12_laysMend_153 : decode cX12_laysMend 153 = .ok (.iadd, 1) := by decide +kernel
theorem dX12_laysMend_154 : decode cX12_laysMend 154 = .ok (.istore 5, 2) := by decide +kernel
theorem dX12_laysMend_156 : decode cX12_laysMend 156 = .ok (.iinc 6 1, 3) := by decide +kernel
theorem dX12_laysMend_159 : decode cX12_laysMend 159 = .ok (.goto (-65), 3) := by decide +kernel
theorem dX12_laysMend_162 : decode cX12_laysMend 162 = .ok (.iload 4, 2) := by decide +kernel
theorem dX12_laysMend_164 : decode cX12_laysMend 164 = .ok (.istore 6, 2) := by decide +kernel
theorem dX12_laysMend_166 : decode cX12_laysMend 166 = .ok (.iload 6, 2) := by decide +kernel
theorem dX12_laysMend_168 : decode cX12_laysMend 168 = .ok (.aload_n 0, 1) := by decide +kernel
theorem dX12_laysMend_169 : decode cX12_laysMend 169 = .ok (.getfield 351, 3) := by decide +kernel
theorem dX12_laysMend_172 : decode cX12_laysMend 172 = .ok (.if_icmp .ge 29, 3) := by decide +kernel
theorem dX12_laysMend_175 : decode cX12_laysMend 175 = .ok (.aload_n 0, 1) := by decide +kernel
theorem dX12_laysMend_176 : decode cX12_laysMend 176 = .ok (.getfield 135, 3) := by decide +kernel
theorem dX12_laysMend_179 : decode cX12_laysMend 179 = .ok (.iload 6, 2) := by decide +kernel
theorem dX12_laysMend_181 : decode cX12_laysMend 181 = .ok (.aload_n 0, 1) := by decide +kernel
theorem dX12_laysMend_182 : decode cX12_laysMend 182 = .ok (.getfield 132, 3) := by decide +kernel
theorem dX12_laysMend_185 : decode cX12_laysMend 185 = .ok (.bipush 24, 2) := by decide +kernel
theorem dX12_laysMend_187 : decode cX12_laysMend 187 = .ok (.iload 4, 2) := by decide +kernel
theorem dX12_laysMend_189 : decode cX12_laysMend 189 = .ok (.imul, 1) := by decide +kernel
theorem dX12_laysMend_190 : decode cX12_laysMend 190 = .ok (.iload 6, 2) := by decide +kernel
theorem dX12_laysMend_192 : decode cX12_laysMend 192 = .ok (.iadd, 1) := by decide +kernel
theorem dX12_laysMend_193 : decode cX12_laysMend 193 = .ok (.iaload, 1) := by decide +kernel
theorem dX12_laysMend_194 : decode cX12_laysMend 194 = .ok (.iastore, 1) := by decide +kernel
theorem dX12_laysMend_195 : decode cX12_laysMend 195 = .ok (.iinc 6 1, 3) := by decide +kernel
theorem dX12_laysMend_198 : decode cX12_laysMend 198 = .ok (.goto (-32), 3) := by decide +kernel
theorem dX12_laysMend_201 : decode cX12_laysMend 201 = .ok (.iload 5, 2) := by decide +kernel
theorem dX12_laysMend_203 : decode cX12_laysMend 203 = .ok (.aload_n 0, 1) := by decide +kernel
theorem dX12_laysMend_204 : decode cX12_laysMend 204 = .ok (.getfield 129, 3) := by decide +kernel
theorem dX12_laysMend_207 : decode cX12_laysMend 207 = .ok (.iload_n 2, 1) := by decide +kernel
theorem dX12_laysMend_208 : decode cX12_laysMend 208 = .ok (.iaload, 1) := by decide +kernel
theorem dX12_laysMend_209 : decode cX12_laysMend 209 = .ok (.if_icmp .gt 70, 3) := by decide +kernel
theorem dX12_laysMend_212 : decode cX12_laysMend 212 = .ok (.iload 5, 2) := by decide +kernel
theorem dX12_laysMend_214 : decode cX12_laysMend 214 = .ok (.aload_n 0, 1) := by decide +kernel
theorem dX12_laysMend_215 : decode cX12_laysMend 215 = .ok (.getfield 129, 3) := by decide +kernel
theorem dX12_laysMend_218 : decode cX12_laysMend 218 = .ok (.iload_n 2, 1) := by decide +kernel
theorem dX12_laysMend_219 : decode cX12_laysMend 219 = .ok (.iaload, 1) := by decide +kernel
theorem dX12_laysMend_220 : decode cX12_laysMend 220 = .ok (.if_icmp .ne 14, 3) := by decide +kernel
theorem dX12_laysMend_223 : decode cX12_laysMend 223 = .ok (.aload_n 0, 1) := by decide +kernel
theorem dX12_laysMend_224 : decode cX12_laysMend 224 = .ok (.iload_n 2, 1) := by decide +kernel
theorem dX12_laysMend_225 : decode cX12_laysMend 225 = .ok (.invokevirtual 540, 3) := by decide +kernel
theorem dX12_laysMend_228 : decode cX12_laysMend 228 = .ok (.ifCond .ne 6, 3) := by decide +kernel
theorem dX12_laysMend_231 : decode cX12_laysMend 231 = .ok (.goto 48, 3) := by decide +kernel
theorem dX12_laysMend_234 : decode cX12_laysMend 234 = .ok (.aload_n 0, 1) := by decide +kernel
theorem dX12_laysMend_235 : decode cX12_laysMend 235 = .ok (.getfield 129, 3) := by decide +kernel
theorem dX12_laysMend_238 : decode cX12_laysMend 238 = .ok (.iload_n 2, 1) := by decide +kernel
theorem dX12_laysMend_239 : decode cX12_laysMend 239 = .ok (.iload 5, 2) := by decide +kernel
theorem dX12_laysMend_241 : decode cX12_laysMend 241 = .ok (.iastore, 1) := by decide +kernel
theorem dX12_laysMend_242 : decode cX12_laysMend 242 = .ok (.iload_n 2, 1) := by decide +kernel
theorem dX12_laysMend_243 : decode cX12_laysMend 243 = .ok (.istore 6, 2) := by decide +kernel
theorem dX12_laysMend_245 : decode cX12_laysMend 245 = .ok (.iload 6, 2) := by decide +kernel
theorem dX12_laysMend_247 : decode cX12_laysMend 247 = .ok (.aload_n 0, 1) := by decide +kernel
theorem dX12_laysMend_248 : decode cX12_laysMend 248 = .ok (.getfield 351, 3) := by decide +kernel
theorem dX12_laysMend_251 : decode cX12_laysMend 251 = .ok (.if_icmp .ge 28, 3) := by decide +kernel
theorem dX12_laysMend_254 : decode cX12_laysMend 254 = .ok (.aload_n 0, 1) := by decide +kernel
theorem dX12_laysMend_255 : decode cX12_laysMend 255 = .ok (.getfield 132, 3) := by decide +kernel
theorem dX12_laysMend_258 : decode cX12_laysMend 258 = .ok (.bipush 24, 2) := by decide +kernel
theorem dX12_laysMend_260 : decode cX12_laysMend 260 = .ok (.iload_n 2, 1) := by decide +kernel
theorem dX12_laysMend_261 : decode cX12_laysMend 261 = .ok (.imul, 1) := by decide +kernel
theorem dX12_laysMend_262 : decode cX12_laysMend 262 = .ok (.iload 6, 2) := by decide +kernel
theorem dX12_laysMend_264 : decode cX12_laysMend 264 = .ok (.iadd, 1) := by decide +kernel
theorem dX12_laysMend_265 : decode cX12_laysMend 265 = .ok (.aload_n 0, 1) := by decide +kernel
theorem dX12_laysMend_266 : decode cX12_laysMend 266 = .ok (.getfield 135, 3) := by decide +kernel
theorem dX12_laysMend_269 : decode cX12_laysMend 269 = .ok (.iload 6, 2) := by decide +kernel
theorem dX12_laysMend_271 : decode cX12_laysMend 271 = .ok (.iaload, 1) := by decide +kernel
theorem dX12_laysMend_272 : decode cX12_laysMend 272 = .ok (.iastore, 1) := by decide +kernel
theorem dX12_laysMend_273 : decode cX12_laysMend 273 = .ok (.iinc 6 1, 3) := by decide +kernel
theorem dX12_laysMend_276 : decode cX12_laysMend 276 = .ok (.goto (-31), 3) := by decide +kernel
theorem dX12_laysMend_279 : decode cX12_laysMend 279 = .ok (.iinc 3 1, 3) := by decide +kernel
theorem dX12_laysMend_282 : decode cX12_laysMend 282 = .ok (.goto (-245), 3) := by decide +kernel
theorem dX12_laysMend_285 : decode cX12_laysMend 285 = .ok (.iinc 2 (-1), 3) := by decide +kernel
theorem dX12_laysMend_288 : decode cX12_laysMend 288 = .ok (.goto (-266), 3) := by decide +kernel
theorem dX12_laysMend_291 : decode cX12_laysMend 291 = .ok (.return_, 1) := by decide +kernel
theorem r_X12_laysMend_285 (E : kr_E) (k_22 : Int32 → kr_M → Option kr_M) (l2 : Int32) (hk_22 : ∀ (x2 : Int32) (M : kr_M), kR kr_vv E Y_X12_laysMend 5 22 [(0, kr_r E 346), (2, .int x2)] [] M (k_22 x2 M)) (M : kr_M) : kR kr_vv E Y_X12_laysMend 5 285 [(0, kr_r E 346), (2, .int l2)] [] M (f_X12_laysMend_285 k_22 l2 M) := by
  rw [f_X12_laysMend_285]
  refine kr_iinc (j := 1) (v := (l2 + (-1 : Int32))) (lv' := [(2, .int (l2 + (-1 : Int32))), (0, kr_r E 346)]) dX12_laysMend_285 rfl rfl (by decide) rfl ?_
  refine kr_goto (tgt := 22) dX12_laysMend_288 (by decide) ?_
  refine kr_sub [1, 0] rfl ?_
  exact hk_22 (l2 + (-1 : Int32)) M
theorem r_X12_laysMend_279 (E : kr_E) (k_37 : Int32 → kr_M → Option kr_M) (l2 : Int32) (l3 : Int32) (hk_37 : ∀ (x3 : Int32) (M : kr_M), kR kr_vv E Y_X12_laysMend 5 37 [(0, kr_r E 346), (2, .int l2), (3, .int x3)] [] M (k_37 x3 M)) (M : kr_M) : kR kr_vv E Y_X12_laysMend 5 279 [(0, kr_r E 346), (2, .int l2), (3, .int l3)] [] M (f_X12_laysMend_279 k_37 l3 M) := by
  rw [f_X12_laysMend_279]
  refine kr_iinc (j := 2) (v := (l3 + (1 : Int32))) (lv' := [(3, .int (l3 + (1 : Int32))), (0, kr_r E 346), (2, .int l2)]) dX12_laysMend_279 rfl rfl (by decide) rfl ?_
  refine kr_goto (tgt := 37) dX12_laysMend_282 (by decide) ?_
  refine kr_sub [1, 2, 0] rfl ?_
  exact hk_37 (l3 + (1 : Int32)) M
theorem r_X12_laysMend_245 (E : kr_E) (k_37 : Int32 → kr_M → Option kr_M) (l2 : Int32) (l3 : Int32) (hk_37 : ∀ (x3 : Int32) (M : kr_M), kR kr_vv E Y_X12_laysMend 5 37 [(0, kr_r E 346), (2, .int l2), (3, .int x3)] [] M (k_37 x3 M)) : ∀ (n : Nat) (l6 : Int32) (M : kr_M), kR kr_vv E Y_X12_laysMend 5 245 [(0, kr_r E 346), (2, .int l2), (3, .int l3), (6, .int l6)] [] M (f_X12_laysMend_245 k_37 l2 l3 n l6 M) := by
  intro n
  induction n with
  | zero => intro l6 M; exact kr_none
  | succ n ih =>
    intro l6 M
    rw [f_X12_laysMend_245]
    refine kr_iload dX12_laysMend_245 3 rfl ?_
    refine kr_aload_n dX12_laysMend_247 rfl 0 rfl ?_
    refine kr_getI (ci := 12) (j := 34) dX12_laysMend_248 kr_at_346 fl_RX12_351 rfl (fun v1 => ?_)
    refine kr_icmp_ge (tgt := 279) dX12_laysMend_251 (by decide) ?_ ?_
    · refine kr_sub [0, 1, 2] rfl ?_
      exact r_X12_laysMend_279 E _ l2 l3 hk_37 M
    · refine kr_aload_n dX12_laysMend_254 rfl 0 rfl ?_
      refine kr_getA (o := 39) (ci := 12) (j := 60) dX12_laysMend_255 kr_at_346 fl_RX12_132 rfl ?_
      refine kr_bipush (v := 24) dX12_laysMend_258 (by decide) ?_
      refine kr_iload_n dX12_laysMend_260 rfl 1 rfl ?_
      refine kr_imul dX12_laysMend_261 ?_
      refine kr_iload dX12_laysMend_262 3 rfl ?_
      refine kr_iadd dX12_laysMend_264 ?_
      refine kr_aload_n dX12_laysMend_265 rfl 0 rfl ?_
      refine kr_getA (o := 40) (ci := 12) (j := 61) dX12_laysMend_266 kr_at_346 fl_RX12_135 rfl ?_
      refine kr_iload dX12_laysMend_269 3 rfl ?_
      refine kr_iald dX12_laysMend_271 kr_at_386 (fun v2 => ?_)
      refine kr_iast dX12_laysMend_272 kr_at_385 (fun M3 => ?_)
      refine kr_iinc (j := 3) (v := (l6 + (1 : Int32))) (lv' := [(6, .int (l6 + (1 : Int32))), (0, kr_r E 346), (2, .int l2), (3, .int l3)]) dX12_laysMend_273 rfl rfl (by decide) rfl ?_
      refine kr_goto (tgt := 245) dX12_laysMend_276 (by decide) ?_
      refine kr_sub [1, 2, 3, 0] rfl ?_
      exact ih (l6 + (1 : Int32)) M3
theorem r_X12_laysMend_234 (E : kr_E) (k_37 : Int32 → kr_M → Option kr_M) (l2 : Int32) (l3 : Int32) (l5 : Int32) (hk_37 : ∀ (x3 : Int32) (M : kr_M), kR kr_vv E Y_X12_laysMend 5 37 [(0, kr_r E 346), (2, .int l2), (3, .int x3)] [] M (k_37 x3 M)) (M : kr_M) : kR kr_vv E Y_X12_laysMend 5 234 [(0, kr_r E 346), (2, .int l2), (3, .int l3), (5, .int l5)] [] M (f_X12_laysMend_234 k_37 l2 l3 l5 M) := by
  rw [f_X12_laysMend_234]
  refine kr_aload_n dX12_laysMend_234 rfl 0 rfl ?_
  refine kr_getA (o := 38) (ci := 12) (j := 59) dX12_laysMend_235 kr_at_346 fl_RX12_129 rfl ?_
  refine kr_iload_n dX12_laysMend_238 rfl 1 rfl ?_
  refine kr_iload dX12_laysMend_239 3 rfl ?_
  refine kr_iast dX12_laysMend_241 kr_at_384 (fun M1 => ?_)
  refine kr_iload_n dX12_laysMend_242 rfl 1 rfl ?_
  refine kr_istore (lv' := [(6, .int l2), (0, kr_r E 346), (2, .int l2), (3, .int l3), (5, .int l5)]) dX12_laysMend_243 (by decide) rfl ?_
  refine kr_sub [1, 2, 3, 0] rfl ?_
  exact r_X12_laysMend_245 E _ l2 l3 hk_37 _ l2 M1
theorem r_X12_laysMend_201 (E : kr_E) (k_37 : Int32 → kr_M → Option kr_M) (l2 : Int32) (l3 : Int32) (l5 : Int32) (hk_37 : ∀ (x3 : Int32) (M : kr_M), kR kr_vv E Y_X12_laysMend 5 37 [(0, kr_r E 346), (2, .int l2), (3, .int x3)] [] M (k_37 x3 M)) (M : kr_M) : kR kr_vv E Y_X12_laysMend 5 201 [(0, kr_r E 346), (2, .int l2), (3, .int l3), (5, .int l5)] [] M (f_X12_laysMend_201 k_37 l2 l3 l5 M) := by
  rw [f_X12_laysMend_201]
  refine kr_iload dX12_laysMend_201 3 rfl ?_
  refine kr_aload_n dX12_laysMend_203 rfl 0 rfl ?_
  refine kr_getA (o := 38) (ci := 12) (j := 59) dX12_laysMend_204 kr_at_346 fl_RX12_129 rfl ?_
  refine kr_iload_n dX12_laysMend_207 rfl 1 rfl ?_
  refine kr_iald dX12_laysMend_208 kr_at_384 (fun v1 => ?_)
  refine kr_icmp_gt (tgt := 279) dX12_laysMend_209 (by decide) ?_ ?_
  · refine kr_sub [0, 1, 2] rfl ?_
    exact r_X12_laysMend_279 E _ l2 l3 hk_37 M
  · refine kr_iload dX12_laysMend_212 3 rfl ?_
    refine kr_aload_n dX12_laysMend_214 rfl 0 rfl ?_
    refine kr_getA (o := 38) (ci := 12) (j := 59) dX12_laysMend_215 kr_at_346 fl_RX12_129 rfl ?_
    refine kr_iload_n dX12_laysMend_218 rfl 1 rfl ?_
    refine kr_iald dX12_laysMend_219 kr_at_384 (fun v2 => ?_)
    refine kr_icmp_ne (tgt := 234) dX12_laysMend_220 (by decide) ?_ ?_
    · refine kr_sub [0, 1, 2, 3] rfl ?_
      exact r_X12_laysMend_234 E _ l2 l3 l5 hk_37 M
    · refine kr_aload_n dX12_laysMend_223 rfl 0 rfl ?_
      refine kr_iload_n dX12_laysMend_224 rfl 1 rfl ?_
      refine kr_Vi (As := [.int l2]) (st := []) zv_X12_isLess dX12_laysMend_225 ml_RX12_540 kr_at_346 (r_X12_isLess E l2 M) rfl rfl (Nat.le_of_ble_eq_true rfl) rfl (by decide) (Nat.le_of_ble_eq_true rfl) (fun r4 M3 => ?_)
      refine kr_if_ne (tgt := 234) dX12_laysMend_228 (by decide) ?_ ?_
      · refine kr_sub [0, 1, 2, 3] rfl ?_
        exact r_X12_laysMend_234 E _ l2 l3 l5 hk_37 M3
      · refine kr_goto (tgt := 279) dX12_laysMend_231 (by decide) ?_
        refine kr_sub [0, 1, 2] rfl ?_
        exact r_X12_laysMend_279 E _ l2 l3 hk_37 M3
theorem r_X12_laysMend_166 (E : kr_E) (k_37 : Int32 → kr_M → Option kr_M) (l2 : Int32) (l3 : Int32) (l4 : Int32) (l5 : Int32) (hk_37 : ∀ (x3 : Int32) (M : kr_M), kR kr_vv E Y_X12_laysMend 5 37 [(0, kr_r E 346), (2, .int l2), (3, .int x3)] [] M (k_37 x3 M)) : ∀ (n : Nat) (l6 : Int32) (M : kr_M), kR kr_vv E Y_X12_laysMend 5 166 [(0, kr_r E 346), (2, .int l2), (3, .int l3), (4, .int l4), (5, .int l5), (6, .int l6)] [] M (f_X12_laysMend_166 k_37 l2 l3 l4 l5 n l6 M) := by
  intro n
  induction n with
  | zero => intro l6 M; exact kr_none
  | succ n ih =>
    intro l6 M
    rw [f_X12_laysMend_166]
    refine kr_iload dX12_laysMend_166 5 rfl ?_
    refine kr_aload_n dX12_laysMend_168 rfl 0 rfl ?_
    refine kr_getI (ci := 12) (j := 34) dX12_laysMend_169 kr_at_346 fl_RX12_351 rfl (fun v1 => ?_)
    refine kr_icmp_ge (tgt := 201) dX12_laysMend_172 (by decide) ?_ ?_
    · refine kr_sub [0, 1, 2, 4] rfl ?_
      exact r_X12_laysMend_201 E _ l2 l3 l5 hk_37 M
    · refine kr_aload_n dX12_laysMend_175 rfl 0 rfl ?_
      refine kr_getA (o := 40) (ci := 12) (j := 61) dX12_laysMend_176 kr_at_346 fl_RX12_135 rfl ?_
      refine kr_iload dX12_laysMend_179 5 rfl ?_
      refine kr_aload_n dX12_laysMend_181 rfl 0 rfl ?_
      refine kr_getA (o := 39) (ci := 12) (j := 60) dX12_laysMend_182 kr_at_346 fl_RX12_132 rfl ?_
      refine kr_bipush (v := 24) dX12_laysMend_185 (by decide) ?_
      refine kr_iload dX12_laysMend_187 3 rfl ?_
      refine kr_imul dX12_laysMend_189 ?_
      refine kr_iload dX12_laysMend_190 5 rfl ?_
      refine kr_iadd dX12_laysMend_192 ?_
      refine kr_iald dX12_laysMend_193 kr_at_385 (fun v2 => ?_)
      refine kr_iast dX12_laysMend_194 kr_at_386 (fun M3 => ?_)
      refine kr_iinc (j := 5) (v := (l6 + (1 : Int32))) (lv' := [(6, .int (l6 + (1 : Int32))), (0, kr_r E 346), (2, .int l2), (3, .int l3), (4, .int l4), (5, .int l5)]) dX12_laysMend_195 rfl rfl (by decide) rfl ?_
      refine kr_goto (tgt := 166) dX12_laysMend_198 (by decide) ?_
      refine kr_sub [1, 2, 3, 4, 5, 0] rfl ?_
      exact ih (l6 + (1 : Int32)) M3
theorem r_X12_laysMend_162 (E : kr_E) (k_37 : Int32 → kr_M → Option kr_M) (l2 : Int32) (l3 : Int32) (l4 : Int32) (l5 : Int32) (hk_37 : ∀ (x3 : Int32) (M : kr_M), kR kr_vv E Y_X12_laysMend 5 37 [(0, kr_r E 346), (2, .int l2), (3, .int x3)] [] M (k_37 x3 M)) (M : kr_M) : kR kr_vv E Y_X12_laysMend 5 162 [(0, kr_r E 346), (2, .int l2), (3, .int l3), (4, .int l4), (5, .int l5)] [] M (f_X12_laysMend_162 k_37 l2 l3 l4 l5 M) := by
  rw [f_X12_laysMend_162]
  refine kr_iload dX12_laysMend_162 3 rfl ?_
  refine kr_istore (lv' := [(6, .int l4), (0, kr_r E 346), (2, .int l2), (3, .int l3), (4, .int l4), (5, .int l5)]) dX12_laysMend_164 (by decide) rfl ?_
  refine kr_sub [1, 2, 3, 4, 5, 0] rfl ?_
  exact r_X12_laysMend_166 E _ l2 l3 l4 l5 hk_37 _ l4 M
theorem r_X12_laysMend_153 (E : kr_E) (k_94 : Int32 → Int32 → kr_M → Option kr_M) (l2 : Int32) (l3 : Int32) (l4 : Int32) (l6 : Int32) (s0 : Int32) (s1 : Int32) (hk_94 : ∀ (x5 : Int32) (x6 : Int32) (M : kr_M), kR kr_vv E Y_X12_laysMend 5 94 [(0, kr_r E 346), (2, .int l2), (3, .int l3), (4, .int l4), (5, .int x5), (6, .int x6)] [] M (k_94 x5 x6 M)) (M : kr_M) : kR kr_vv E Y_X12_laysMend 5 153 [(0, kr_r E 346), (2, .int l2), (3, .int l3), (4, .int l4), (6, .int l6)] [.int s0, .int s1] M (f_X12_laysMend_153 k_94 l6 s0 s1 M) := by
  rw [f_X12_laysMend_153]
  refine kr_iadd dX12_laysMend_153 ?_
  refine kr_nmi (fun v1 => ?_)
  refine kr_istore (lv' := [(5, .int v1), (0, kr_r E 346), (2, .int l2), (3, .int l3), (4, .int l4), (6, .int l6)]) dX12_laysMend_154 (by decide) rfl ?_
  refine kr_iinc (j := 5) (v := (l6 + (1 : Int32))) (lv' := [(6, .int (l6 + (1 : Int32))), (5, .int v1), (0, kr_r E 346), (2, .int l2), (3, .int l3), (4, .int l4)]) dX12_laysMend_156 rfl rfl (by decide) rfl ?_
  refine kr_goto (tgt := 94) dX12_laysMend_159 (by decide) ?_
  refine kr_sub [2, 3, 4, 5, 1, 0] rfl ?_
  exact hk_94 v1 (l6 + (1 : Int32)) M
theorem r_X12_laysMend_94 (E : kr_E) (k_37 : Int32 → kr_M → Option kr_M) (l2 : Int32) (l3 : Int32) (l4 : Int32) (hk_37 : ∀ (x3 : Int32) (M : kr_M), kR kr_vv E Y_X12_laysMend 5 37 [(0, kr_r E 346), (2, .int l2), (3, .int x3)] [] M (k_37 x3 M)) : ∀ (n : Nat) (l5 : Int32) (l6 : Int32) (M : kr_M), kR kr_vv E Y_X12_laysMend 5 94 [(0, kr_r E 346), (2, .int l2), (3, .int l3), (4, .int l4), (5, .int l5), (6, .int l6)] [] M (f_X12_laysMend_94 k_37 l2 l3 l4 n l5 l6 M) := by
  intro n
  induction n with
  | zero => intro l5 l6 M; exact kr_none
  | succ n ih =>
    intro l5 l6 M
    rw [f_X12_laysMend_94]
    refine kr_iload dX12_laysMend_94 5 rfl ?_
    refine kr_aload_n dX12_laysMend_96 rfl 0 rfl ?_
    refine kr_getA (o := 10) (ci := 12) (j := 20) dX12_laysMend_97 kr_at_346 fl_RX12_43 rfl ?_
    refine kr_iload_n dX12_laysMend_100 rfl 2 rfl ?_
    refine kr_iald dX12_laysMend_101 kr_at_356 (fun v1 => ?_)
    refine kr_icmp_ge (tgt := 162) dX12_laysMend_102 (by decide) ?_ ?_
    · refine kr_sub [0, 1, 2, 3, 4] rfl ?_
      exact r_X12_laysMend_162 E _ l2 l3 l4 l5 hk_37 M
    · refine kr_aload_n dX12_laysMend_105 rfl 0 rfl ?_
      refine kr_getA (o := 40) (ci := 12) (j := 61) dX12_laysMend_106 kr_at_346 fl_RX12_135 rfl ?_
      refine kr_iload_n dX12_laysMend_109 rfl 1 rfl ?_
      refine kr_iload dX12_laysMend_110 5 rfl ?_
      refine kr_iadd dX12_laysMend_112 ?_
      refine kr_aload_n dX12_laysMend_113 rfl 0 rfl ?_
      refine kr_getA (o := 12) (ci := 12) (j := 22) dX12_laysMend_114 kr_at_346 fl_RX12_49 rfl ?_
      refine kr_iconst (v := 4) dX12_laysMend_117 (by decide) ?_
      refine kr_iload_n dX12_laysMend_118 rfl 2 rfl ?_
      refine kr_imul dX12_laysMend_119 ?_
      refine kr_iload dX12_laysMend_120 5 rfl ?_
      refine kr_iadd dX12_laysMend_122 ?_
      refine kr_iald dX12_laysMend_123 kr_at_358 (fun v2 => ?_)
      refine kr_iast dX12_laysMend_124 kr_at_386 (fun M3 => ?_)
      refine kr_iload dX12_laysMend_125 4 rfl ?_
      refine kr_aload_n dX12_laysMend_127 rfl 0 rfl ?_
      refine kr_getA (o := 40) (ci := 12) (j := 61) dX12_laysMend_128 kr_at_346 fl_RX12_135 rfl ?_
      refine kr_iload_n dX12_laysMend_131 rfl 1 rfl ?_
      refine kr_iload dX12_laysMend_132 5 rfl ?_
      refine kr_iadd dX12_laysMend_134 ?_
      refine kr_iald dX12_laysMend_135 kr_at_386 (fun v4 => ?_)
      refine kr_aload_n dX12_laysMend_136 rfl 0 rfl ?_
      refine kr_getA (o := 22) (ci := 12) (j := 33) dX12_laysMend_137 kr_at_346 fl_RX12_80 rfl ?_
      refine kr_iload_n dX12_laysMend_140 rfl 1 rfl ?_
      refine kr_iload dX12_laysMend_141 5 rfl ?_
      refine kr_iadd dX12_laysMend_143 ?_
      refine kr_iald dX12_laysMend_144 kr_at_368 (fun v5 => ?_)
      refine kr_icmp_eq (tgt := 152) dX12_laysMend_145 (by decide) ?_ ?_
      · refine kr_iconst (v := 0) dX12_laysMend_152 (by decide) ?_
        refine kr_sub [0, 1, 2, 3, 5] rfl ?_
        exact r_X12_laysMend_153 E _ l2 l3 l4 l6 (0 : Int32) l5 ih M3
      · refine kr_iconst (v := 1) dX12_laysMend_148 (by decide) ?_
        refine kr_goto (tgt := 153) dX12_laysMend_149 (by decide) ?_
        refine kr_sub [0, 1, 2, 3, 5] rfl ?_
        exact r_X12_laysMend_153 E _ l2 l3 l4 l6 (1 : Int32) l5 ih M3
theorem r_X12_laysMend_37 (E : kr_E) (k_22 : Int32 → kr_M → Option kr_M) (l2 : Int32) (hk_22 : ∀ (x2 : Int32) (M : kr_M), kR kr_vv E Y_X12_laysMend 5 22 [(0, kr_r E 346), (2, .int x2)] [] M (k_22 x2 M)) : ∀ (n : Nat) (l3 : Int32) (M : kr_M), kR kr_vv E Y_X12_laysMend 5 37 [(0, kr_r E 346), (2, .int l2), (3, .int l3)] [] M (f_X12_laysMend_37 k_22 l2 n l3 M) := by
  intro n
  induction n with
  | zero => intro l3 M; exact kr_none
  | succ n ih =>
    intro l3 M
    rw [f_X12_laysMend_37]
    refine kr_iload_n dX12_laysMend_37 rfl 2 rfl ?_
    refine kr_aload_n dX12_laysMend_38 rfl 0 rfl ?_
    refine kr_getA (o := 7) (ci := 12) (j := 17) dX12_laysMend_39 kr_at_346 fl_RX12_34 rfl ?_
    refine kr_iconst (v := 4) dX12_laysMend_42 (by decide) ?_
    refine kr_iald dX12_laysMend_43 kr_at_353 (fun v1 => ?_)
    refine kr_icmp_ge (tgt := 285) dX12_laysMend_44 (by decide) ?_ ?_
    · refine kr_sub [0, 1] rfl ?_
      exact r_X12_laysMend_285 E _ l2 hk_22 M
    · refine kr_iload_n dX12_laysMend_47 rfl 1 rfl ?_
      refine kr_aload_n dX12_laysMend_48 rfl 0 rfl ?_
      refine kr_getA (o := 10) (ci := 12) (j := 20) dX12_laysMend_49 kr_at_346 fl_RX12_43 rfl ?_
      refine kr_iload_n dX12_laysMend_52 rfl 2 rfl ?_
      refine kr_iald dX12_laysMend_53 kr_at_356 (fun v2 => ?_)
      refine kr_iadd dX12_laysMend_54 ?_
      refine kr_nmi (fun v3 => ?_)
      refine kr_istore (lv' := [(4, .int v3), (0, kr_r E 346), (2, .int l2), (3, .int l3)]) dX12_laysMend_55 (by decide) rfl ?_
      refine kr_iload dX12_laysMend_57 0 rfl ?_
      refine kr_aload_n dX12_laysMend_59 rfl 1 rfl ?_
      refine kr_getI (ci := 12) (j := 34) dX12_laysMend_60 kr_at_346 fl_RX12_351 rfl (fun v4 => ?_)
      refine kr_icmp_gt (tgt := 279) dX12_laysMend_63 (by decide) ?_ ?_
      · refine kr_sub [1, 2, 3] rfl ?_
        exact r_X12_laysMend_279 E _ l2 l3 ih M
      · refine kr_aload_n dX12_laysMend_66 rfl 1 rfl ?_
        refine kr_getA (o := 38) (ci := 12) (j := 59) dX12_laysMend_67 kr_at_346 fl_RX12_129 rfl ?_
        refine kr_iload dX12_laysMend_70 0 rfl ?_
        refine kr_iald dX12_laysMend_72 kr_at_384 (fun v5 => ?_)
        refine kr_ldcw dX12_laysMend_73 kc_RX12_354 ?_
        refine kr_icmp_lt (tgt := 82) dX12_laysMend_76 (by decide) ?_ ?_
        · refine kr_aload_n dX12_laysMend_82 rfl 1 rfl ?_
          refine kr_getA (o := 38) (ci := 12) (j := 59) dX12_laysMend_83 kr_at_346 fl_RX12_129 rfl ?_
          refine kr_iload dX12_laysMend_86 0 rfl ?_
          refine kr_iald dX12_laysMend_88 kr_at_384 (fun v6 => ?_)
          refine kr_istore (lv' := [(5, .int v6), (4, .int v3), (0, kr_r E 346), (2, .int l2), (3, .int l3)]) dX12_laysMend_89 (by decide) rfl ?_
          refine kr_iconst (v := 0) dX12_laysMend_91 (by decide) ?_
          refine kr_istore (lv' := [(6, .int (0 : Int32)), (5, .int v6), (4, .int v3), (0, kr_r E 346), (2, .int l2), (3, .int l3)]) dX12_laysMend_92 (by decide) rfl ?_
          refine kr_sub [3, 4, 5, 2, 1, 0] rfl ?_
          exact r_X12_laysMend_94 E _ l2 l3 v3 ih _ v6 (0 : Int32) M
        · refine kr_goto (tgt := 279) dX12_laysMend_79 (by decide) ?_
          refine kr_sub [1, 2, 3] rfl ?_
          exact r_X12_laysMend_279 E _ l2 l3 ih M
theorem r_X12_laysMend_22 (E : kr_E)    : ∀ (n : Nat) (l2 : Int32) (M : kr_M), kR kr_vv E Y_X12_laysMend 5 22 [(0, kr_r E 346), (2, .int l2)] [] M (f_X12_laysMend_22 n l2 M) := by
  intro n
  induction n with
  | zero => intro l2 M; exact kr_none
  | succ n ih =>
    intro l2 M
    rw [f_X12_laysMend_22]
    refine kr_iload_n dX12_laysMend_22 rfl 1 rfl ?_
    refine kr_if_lt (tgt := 291) dX12_laysMend_23 (by decide) ?_ ?_
    · exact kr_vret dX12_laysMend_291 rfl
    · refine kr_aload_n dX12_laysMend_26 rfl 0 rfl ?_
      refine kr_getA (o := 38) (ci := 12) (j := 59) dX12_laysMend_27 kr_at_346 fl_RX12_129 rfl ?_
      refine kr_iload_n dX12_laysMend_30 rfl 1 rfl ?_
      refine kr_ldcw dX12_laysMend_31 kc_RX12_354 ?_
      refine kr_iast dX12_laysMend_34 kr_at_384 (fun M1 => ?_)
      refine kr_iconst (v := 0) dX12_laysMend_35 (by decide) ?_
      refine kr_istore_n (lv' := [(3, .int (0 : Int32)), (0, kr_r E 346), (2, .int l2)]) dX12_laysMend_36 rfl (by decide) rfl ?_
      refine kr_sub [1, 2, 0] rfl ?_
      exact r_X12_laysMend_37 E _ l2 ih _ (0 : Int32) M1
theorem r_X12_laysMend (E : kr_E) (p1 : Int32) (M : kr_M) : kR kr_vv E Y_X12_laysMend 5 0 [(0, kr_r E 346), (1, .int p1)] [] M (f_X12_laysMend p1 M) := by
  rw [f_X12_laysMend]
  refine kr_aload_n dX12_laysMend_0 rfl 0 rfl ?_
  refine kr_iload_n dX12_laysMend_1 rfl 1 rfl ?_
  refine kr_Vv (As := [.int p1]) (st := []) zv_X12_liesTold dX12_laysMend_2 ml_RX12_537 kr_at_346 (r_X12_liesTold E p1 M) rfl rfl (Nat.le_of_ble_eq_true rfl) rfl (by decide) (Nat.le_of_ble_eq_true rfl) (fun M1 => ?_)
  refine kr_aload_n dX12_laysMend_5 rfl 0 rfl ?_
  refine kr_getA (o := 38) (ci := 12) (j := 59) dX12_laysMend_6 kr_at_346 fl_RX12_129 rfl ?_
  refine kr_aload_n dX12_laysMend_9 rfl 0 rfl ?_
  refine kr_getI (ci := 12) (j := 34) dX12_laysMend_10 kr_at_346 fl_RX12_351 rfl (fun v3 => ?_)
  refine kr_iconst (v := 0) dX12_laysMend_13 (by decide) ?_
  refine kr_iast dX12_laysMend_14 kr_at_384 (fun M4 => ?_)
  refine kr_aload_n dX12_laysMend_15 rfl 0 rfl ?_
  refine kr_getI (ci := 12) (j := 34) dX12_laysMend_16 kr_at_346 fl_RX12_351 rfl (fun v5 => ?_)
  refine kr_iconst (v := 1) dX12_laysMend_19 (by decide) ?_
  refine kr_isub dX12_laysMend_20 ?_
  refine kr_nmi (fun v6 => ?_)
  refine kr_istore_n (lv' := [(2, .int v6), (0, kr_r E 346), (1, .int p1)]) dX12_laysMend_21 rfl (by decide) rfl ?_
  refine kr_sub [1, 0] rfl ?_
  exact r_X12_laysMend_22 E _ v6 M4
theorem dX12_mend_0 : decode cX12_mend 0 = .ok (.aload_n 0, 1) := by decide +kernel
theorem dX12_mend_1 : decode cX12_mend 1 = .ok (.iconst 0, 1) := by decide +kernel
theorem dX12_mend_2 : decode cX12_mend 2 = .ok (.putfield 138, 3) := by decide +kernel
theorem dX12_mend_5 : decode cX12_mend 5 = .ok (.aload_n 0, 1) := by decide +kernel
theorem dX12_mend_6 : decode cX12_mend 6 = .ok (.iload_n 1, 1) := by decide +kernel
theorem dX12_mend_7 : decode cX12_mend 7 = .ok (.invokevirtual 534, 3) := by decide +kernel
theorem dX12_mend_10 : decode cX12_mend 10 = .ok (.istore_n 2, 1) := by decide +kernel
theorem dX12_mend_11 : decode cX12_mend 11 = .ok (.iload_n 2, 1) := by decide +kernel
theorem dX12_mend_12 : decode cX12_mend 12 = .ok (.ifCond .eq 5, 3) := by decide +kernel
theorem dX12_mend_15 : decode cX12_mend 15 = .ok (.iload_n 2, 1) := by decide +kernel
theorem dX12_mend_16 : decode cX12_mend 16 = .ok (.ireturn, 1) := by decide +kernel
theorem dX12_mend_17 : decode cX12_mend 17 = .ok (.aload_n 0, 1) := by decide +kernel
theorem dX12_mend_18 : decode cX12_mend 18 = .ok (.iload_n 1, 1) := by decide +kernel
theorem dX12_mend_19 : decode cX12_mend 19 = .ok (.invokevirtual 543, 3) := by decide +kernel
theorem dX12_mend_22 : decode cX12_mend 22 = .ok (.aload_n 0, 1) := by decide +kernel
theorem dX12_mend_23 : decode cX12_mend 23 = .ok (.getfield 129, 3) := by decide +kernel
theorem dX12_mend_26 : decode cX12_mend 26 = .ok (.iconst 0, 1) := by decide +kernel
theorem dX12_mend_27 : decode cX12_mend 27 = .ok (.iaload, 1) := by decide +kernel
theorem dX12_mend_28 : decode cX12_mend 28 = .ok (.ldc_w 354, 3) := by decide +kernel
theorem dX12_mend_31 : decode cX12_mend 31 = .ok (.if_icmp .lt 7, 3) := by decide +kernel
theorem dX12_mend_34 : decode cX12_mend 34 = .ok (.iconst (-1), 1) := by decide +kernel
theorem dX12_mend_35 : decode cX12_mend 35 = .ok (.goto 9, 3) := by decide +kernel
theorem dX12_mend_38 : decode cX12_mend 38 = .ok (.aload_n 0, 1) := by decide +kernel
theorem dX12_mend_39 : decode cX12_mend 39 = .ok (.getfield 129, 3) := by decide +kernel
theorem dX12_mend_42 : decode cX12_mend 42 = .ok (.iconst 0, 1) := by decide +kernel
theorem dX12_mend_43 : decode cX12_mend 43 = .ok (.iaload, 1) := by decide +kernel
theorem dX12_mend_44 : decode cX12_mend 44 = .ok (.ireturn, 1) := by decide +kernel
theorem r_X12_mend (E : kr_E) (p1 : Int32) (M : kr_M) : kR kr_vi E Y_X12_mend 6 0 [(0, kr_r E 346), (1, .int p1)] [] M (f_X12_mend p1 M) := by
  rw [f_X12_mend]
  refine kr_aload_n dX12_mend_0 rfl 0 rfl ?_
  refine kr_iconst (v := 0) dX12_mend_1 (by decide) ?_
  refine kr_putI (ci := 12) (j := 0) dX12_mend_2 kr_at_346 fl_RX12_138 rfl rfl (fun M1 => ?_)
  refine kr_aload_n dX12_mend_5 rfl 0 rfl ?_
  refine kr_iload_n dX12_mend_6 rfl 1 rfl ?_
  refine kr_Vi (As := [.int p1]) (st := []) zv_X12_whyNot dX12_mend_7 ml_RX12_534 kr_at_346 (r_X12_whyNot E p1 M1) rfl rfl (Nat.le_of_ble_eq_true rfl) rfl (by decide) (Nat.le_of_ble_eq_true rfl) (fun r3 M2 => ?_)
  refine kr_istore_n (lv' := [(2, .int r3), (0, kr_r E 346), (1, .int p1)]) dX12_mend_10 rfl (by decide) rfl ?_
  refine kr_iload_n dX12_mend_11 rfl 0 rfl ?_
  refine kr_if_eq (tgt := 17) dX12_mend_12 (by decide) ?_ ?_
  · refine kr_aload_n dX12_mend_17 rfl 1 rfl ?_
    refine kr_iload_n dX12_mend_18 rfl 2 rfl ?_
    refine kr_Vv (As := [.int p1]) (st := []) zv_X12_laysMend dX12_mend_19 ml_RX12_543 kr_at_346 (r_X12_laysMend E p1 M2) rfl rfl (Nat.le_of_ble_eq_true rfl) rfl (by decide) (Nat.le_of_ble_eq_true rfl) (fun M4 => ?_)
    refine kr_aload_n dX12_mend_22 rfl 1 rfl ?_
    refine kr_getA (o := 38) (ci := 12) (j := 59) dX12_mend_23 kr_at_346 fl_RX12_129 rfl ?_
    refine kr_iconst (v := 0) dX12_mend_26 (by decide) ?_
    refine kr_iald dX12_mend_27 kr_at_384 (fun v6 => ?_)
    refine kr_ldcw dX12_mend_28 kc_RX12_354 ?_
    refine kr_icmp_lt (tgt := 38) dX12_mend_31 (by decide) ?_ ?_
    · refine kr_aload_n dX12_mend_38 rfl 1 rfl ?_
      refine kr_getA (o := 38) (ci := 12) (j := 59) dX12_mend_39 kr_at_346 fl_RX12_129 rfl ?_
      refine kr_iconst (v := 0) dX12_mend_42 (by decide) ?_
      refine kr_iald dX12_mend_43 kr_at_384 (fun v7 => ?_)
      exact kr_iret dX12_mend_44 rfl
    · refine kr_iconst (v := -1) dX12_mend_34 (by decide) ?_
      refine kr_goto (tgt := 44) dX12_mend_35 (by decide) ?_
      exact kr_iret dX12_mend_44 rfl
  · refine kr_iload_n dX12_mend_15 rfl 0 rfl ?_
    exact kr_iret dX12_mend_16 rfl
