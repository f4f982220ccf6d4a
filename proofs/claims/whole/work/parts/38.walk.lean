theorem dX11_paste_0 : decode cX11_paste 0 = .ok (.iload_n 1, 1) := by decide +kernel
theorem dX11_paste_1 : decode cX11_paste 1 = .ok (.invokestatic 419, 3) := by decide +kernel
theorem dX11_paste_4 : decode cX11_paste 4 = .ok (.ifCond .eq 10, 3) := by decide +kernel
theorem dX11_paste_7 : decode cX11_paste 7 = .ok (.iload_n 3, 1) := by decide +kernel
theorem dX11_paste_8 : decode cX11_paste 8 = .ok (.invokestatic 419, 3) := by decide +kernel
theorem dX11_paste_11 : decode cX11_paste 11 = .ok (.ifCond .ne 6, 3) := by decide +kernel
theorem dX11_paste_14 : decode cX11_paste 14 = .ok (.bipush (-2), 2) := by decide +kernel
theorem dX11_paste_16 : decode cX11_paste 16 = .ok (.ireturn, 1) := by decide +kernel
theorem dX11_paste_17 : decode cX11_paste 17 = .ok (.aload_n 0, 1) := by decide +kernel
theorem dX11_paste_18 : decode cX11_paste 18 = .ok (.getfield 42, 3) := by decide +kernel
theorem dX11_paste_21 : decode cX11_paste 21 = .ok (.iload_n 1, 1) := by decide +kernel
theorem dX11_paste_22 : decode cX11_paste 22 = .ok (.iaload, 1) := by decide +kernel
theorem dX11_paste_23 : decode cX11_paste 23 = .ok (.ifCond .lt 12, 3) := by decide +kernel
theorem dX11_paste_26 : decode cX11_paste 26 = .ok (.aload_n 0, 1) := by decide +kernel
theorem dX11_paste_27 : decode cX11_paste 27 = .ok (.getfield 42, 3) := by decide +kernel
theorem dX11_paste_30 : decode cX11_paste 30 = .ok (.iload_n 3, 1) := by decide +kernel
theorem dX11_paste_31 : decode cX11_paste 31 = .ok (.iaload, 1) := by decide +kernel
theorem dX11_paste_32 : decode cX11_paste 32 = .ok (.ifCond .ge 6, 3) := by decide +kernel
theorem dX11_paste_35 : decode cX11_paste 35 = .ok (.bipush (-6), 2) := by decide +kernel
theorem dX11_paste_37 : decode cX11_paste 37 = .ok (.ireturn, 1) := by decide +kernel
theorem dX11_paste_38 : decode cX11_paste 38 = .ok (.aload_n 0, 1) := by decide +kernel
theorem dX11_paste_39 : decode cX11_paste 39 = .ok (.getfield 38, 3) := by decide +kernel
theorem dX11_paste_42 : decode cX11_paste 42 = .ok (.iload_n 1, 1) := by decide +kernel
theorem dX11_paste_43 : decode cX11_paste 43 = .ok (.iaload, 1) := by decide +kernel
theorem dX11_paste_44 : decode cX11_paste 44 = .ok (.aload_n 0, 1) := by decide +kernel
theorem dX11_paste_45 : decode cX11_paste 45 = .ok (.getfield 38, 3) := by decide +kernel
theorem dX11_paste_48 : decode cX11_paste 48 = .ok (.iload_n 3, 1) := by decide +kernel
theorem dX11_paste_49 : decode cX11_paste 49 = .ok (.iaload, 1) := by decide +kernel
theorem dX11_paste_50 : decode cX11_paste 50 = .ok (.if_icmp .eq 6, 3) := by decide +kernel
theorem dX11_paste_53 : decode cX11_paste 53 = .ok (.bipush (-8), 2) := by decide +kernel
theorem dX11_paste_55 : decode cX11_paste 55 = .ok (.ireturn, 1) := by decide +kernel
theorem dX11_paste_56 : decode cX11_paste 56 = .ok (.aload_n 0, 1) := by decide +kernel
theorem dX11_paste_57 : decode cX11_paste 57 = .ok (.iload_n 1, 1) := by decide +kernel
theorem dX11_paste_58 : decode cX11_paste 58 = .ok (.iload_n 2, 1) := by decide +kernel
theorem dX11_paste_59 : decode cX11_paste 59 = .ok (.iload 5, 2) := by decide +kernel
theorem dX11_paste_61 : decode cX11_paste 61 = .ok (.invokevirtual 438, 3) := by decide +kernel
theorem dX11_paste_64 : decode cX11_paste 64 = .ok (.ifCond .eq 15, 3) := by decide +kernel
theorem dX11_paste_67 : decode cX11_paste 67 = .ok (.aload_n 0, 1) := by decide +kernel
theorem dX11_paste_68 : decode cX11_paste 68 = .ok (.iload_n 3, 1) := by decide +kernel
theorem dX11_paste_69 : decode cX11_paste 69 = .ok (.iload 4, 2) := by decide +kernel
theorem dX11_paste_71 : decode cX11_paste 71 = .ok (.iload 5, 2) := by decide +kernel
theorem dX11_paste_73 : decode cX11_paste 73 = .ok (.invokevirtual 438, 3) := by decide +kernel
theorem dX11_paste_76 : decode cX11_paste 76 = .ok (.ifCond .ne 6, 3) := by decide +kernel
theorem dX11_paste_79 : decode cX11_paste 79 = .ok (.bipush (-7), 2) := by decide +kernel
theorem dX11_paste_81 : decode cX11_paste 81 = .ok (.ireturn, 1) := by decide +kernel
theorem dX11_paste_82 : decode cX11_paste 82 = .ok (.aload_n 0, 1) := by decide +kernel
theorem dX11_paste_83 : decode cX11_paste 83 = .ok (.getfield 34, 3) := by decide +kernel
theorem dX11_paste_86 : decode cX11_paste 86 = .ok (.iload_n 1, 1) := by decide +kernel
theorem dX11_paste_87 : decode cX11_paste 87 = .ok (.bipush 60, 2) := by decide +kernel
theorem dX11_paste_89 : decode cX11_paste 89 = .ok (.imul, 1) := by decide +kernel
theorem dX11_paste_90 : decode cX11_paste 90 = .ok (.iload_n 2, 1) := by decide +kernel
theorem dX11_paste_91 : decode cX11_paste 91 = .ok (.iadd, 1) := by decide +kernel
theorem dX11_paste_92 : decode cX11_paste 92 = .ok (.aload_n 0, 1) := by decide +kernel
theorem dX11_paste_93 : decode cX11_paste 93 = .ok (.getfield 34, 3) := by decide +kernel
theorem dX11_paste_96 : decode cX11_paste 96 = .ok (.iload_n 3, 1) := by decide +kernel
theorem dX11_paste_97 : decode cX11_paste 97 = .ok (.bipush 60, 2) := by decide +kernel
theorem dX11_paste_99 : decode cX11_paste 99 = .ok (.imul, 1) := by decide +kernel
theorem dX11_paste_100 : decode cX11_paste 100 = .ok (.iload 4, 2) := by decide +kernel
theorem dX11_paste_102 : decode cX11_paste 102 = .ok (.iadd, 1) := by decide +kernel
theorem dX11_paste_103 : decode cX11_paste 103 = .ok (.iload 5, 2) := by decide +kernel
theorem dX11_paste_105 : decode cX11_paste 105 = .ok (.invokestatic 441, 3) := by decide +kernel
theorem dX11_paste_108 : decode cX11_paste 108 = .ok (.iconst 0, 1) := by decide +kernel
theorem dX11_paste_109 : decode cX11_paste 109 = .ok (.ireturn, 1) := by decide +kernel
theorem r_X11_paste (E : kr_E) (p1 : Int32) (p2 : Int32) (p3 : Int32) (p4 : Int32) (p5 : Int32) (M : kr_M) : kR kr_vi E Y_X11_paste 2 0 [(0, kr_r E 0), (1, .int p1), (2, .int p2), (3, .int p3), (4, .int p4), (5, .int p5)] [] M (f_X11_paste p1 p2 p3 p4 p5 M) := by
  rw [f_X11_paste]
  refine kr_iload_n dX11_paste_0 rfl 1 rfl ?_
  refine kr_Si (As := [.int p1]) (st := []) zs_X11_isSlot dX11_paste_1 ml_RX11_419 (r_X11_isSlot E p1 M) rfl rfl (Nat.le_of_ble_eq_true rfl) rfl (by decide) (Nat.le_of_ble_eq_true rfl) (fun r2 M1 => ?_)
  refine kr_if_eq (tgt := 14) dX11_paste_4 (by decide) ?_ ?_
  · refine kr_bipush (v := -2) dX11_paste_14 (by decide) ?_
    exact kr_iret dX11_paste_16 rfl
  · refine kr_iload_n dX11_paste_7 rfl 3 rfl ?_
    refine kr_Si (As := [.int p3]) (st := []) zs_X11_isSlot dX11_paste_8 ml_RX11_419 (r_X11_isSlot E p3 M1) rfl rfl (Nat.le_of_ble_eq_true rfl) rfl (by decide) (Nat.le_of_ble_eq_true rfl) (fun r4 M3 => ?_)
    refine kr_if_ne (tgt := 17) dX11_paste_11 (by decide) ?_ ?_
    · refine kr_aload_n dX11_paste_17 rfl 0 rfl ?_
      refine kr_getA (o := 312) (ci := 11) (j := 7) dX11_paste_18 kr_at_0 fl_RX11_42 rfl ?_
      refine kr_iload_n dX11_paste_21 rfl 1 rfl ?_
      refine kr_iald dX11_paste_22 kr_at_312 (fun v5 => ?_)
      refine kr_if_lt (tgt := 35) dX11_paste_23 (by decide) ?_ ?_
      · refine kr_bipush (v := -6) dX11_paste_35 (by decide) ?_
        exact kr_iret dX11_paste_37 rfl
      · refine kr_aload_n dX11_paste_26 rfl 0 rfl ?_
        refine kr_getA (o := 312) (ci := 11) (j := 7) dX11_paste_27 kr_at_0 fl_RX11_42 rfl ?_
        refine kr_iload_n dX11_paste_30 rfl 3 rfl ?_
        refine kr_iald dX11_paste_31 kr_at_312 (fun v6 => ?_)
        refine kr_if_ge (tgt := 38) dX11_paste_32 (by decide) ?_ ?_
        · refine kr_aload_n dX11_paste_38 rfl 0 rfl ?_
          refine kr_getA (o := 311) (ci := 11) (j := 6) dX11_paste_39 kr_at_0 fl_RX11_38 rfl ?_
          refine kr_iload_n dX11_paste_42 rfl 1 rfl ?_
          refine kr_iald dX11_paste_43 kr_at_311 (fun v7 => ?_)
          refine kr_aload_n dX11_paste_44 rfl 0 rfl ?_
          refine kr_getA (o := 311) (ci := 11) (j := 6) dX11_paste_45 kr_at_0 fl_RX11_38 rfl ?_
          refine kr_iload_n dX11_paste_48 rfl 3 rfl ?_
          refine kr_iald dX11_paste_49 kr_at_311 (fun v8 => ?_)
          refine kr_icmp_eq (tgt := 56) dX11_paste_50 (by decide) ?_ ?_
          · refine kr_aload_n dX11_paste_56 rfl 0 rfl ?_
            refine kr_iload_n dX11_paste_57 rfl 1 rfl ?_
            refine kr_iload_n dX11_paste_58 rfl 2 rfl ?_
            refine kr_iload dX11_paste_59 5 rfl ?_
            refine kr_Vi (As := [.int p1, .int p2, .int p5]) (st := []) zv_X11_standsIn dX11_paste_61 ml_RX11_438 kr_at_0 (r_X11_standsIn E p1 p2 p5 M3) rfl rfl (Nat.le_of_ble_eq_true rfl) rfl (by decide) (Nat.le_of_ble_eq_true rfl) (fun r10 M9 => ?_)
            refine kr_if_eq (tgt := 79) dX11_paste_64 (by decide) ?_ ?_
            · refine kr_bipush (v := -7) dX11_paste_79 (by decide) ?_
              exact kr_iret dX11_paste_81 rfl
            · refine kr_aload_n dX11_paste_67 rfl 0 rfl ?_
              refine kr_iload_n dX11_paste_68 rfl 3 rfl ?_
              refine kr_iload dX11_paste_69 4 rfl ?_
              refine kr_iload dX11_paste_71 5 rfl ?_
              refine kr_Vi (As := [.int p3, .int p4, .int p5]) (st := []) zv_X11_standsIn dX11_paste_73 ml_RX11_438 kr_at_0 (r_X11_standsIn E p3 p4 p5 M9) rfl rfl (Nat.le_of_ble_eq_true rfl) rfl (by decide) (Nat.le_of_ble_eq_true rfl) (fun r12 M11 => ?_)
              refine kr_if_ne (tgt := 82) dX11_paste_76 (by decide) ?_ ?_
              · refine kr_aload_n dX11_paste_82 rfl 0 rfl ?_
                refine kr_getA (o := 310) (ci := 11) (j := 5) dX11_paste_83 kr_at_0 fl_RX11_34 rfl ?_
                refine kr_iload_n dX11_paste_86 rfl 1 rfl ?_
                refine kr_bipush (v := 60) dX11_paste_87 (by decide) ?_
                refine kr_imul dX11_paste_89 ?_
                refine kr_iload_n dX11_paste_90 rfl 2 rfl ?_
                refine kr_iadd dX11_paste_91 ?_
                refine kr_aload_n dX11_paste_92 rfl 0 rfl ?_
                refine kr_getA (o := 310) (ci := 11) (j := 5) dX11_paste_93 kr_at_0 fl_RX11_34 rfl ?_
                refine kr_iload_n dX11_paste_96 rfl 3 rfl ?_
                refine kr_bipush (v := 60) dX11_paste_97 (by decide) ?_
                refine kr_imul dX11_paste_99 ?_
                refine kr_iload dX11_paste_100 4 rfl ?_
                refine kr_iadd dX11_paste_102 ?_
                refine kr_iload dX11_paste_103 5 rfl ?_
                refine kr_copyL dX11_paste_105 ml_RX11_441 kr_at_310 kr_at_310 (by decide) (Nat.le_of_ble_eq_true rfl) (fun M13 => ?_)
                refine kr_iconst (v := 0) dX11_paste_108 (by decide) ?_
                exact kr_iret dX11_paste_109 rfl
              · refine kr_bipush (v := -7) dX11_paste_79 (by decide) ?_
                exact kr_iret dX11_paste_81 rfl
          · refine kr_bipush (v := -8) dX11_paste_53 (by decide) ?_
            exact kr_iret dX11_paste_55 rfl
        · refine kr_bipush (v := -6) dX11_paste_35 (by decide) ?_
          exact kr_iret dX11_paste_37 rfl
    · refine kr_bipush (v := -2) dX11_paste_14 (by decide) ?_
      exact kr_iret dX11_paste_16 rfl
theorem dX12_in_0 : decode cX12_in 0 = .ok (.lload_n 0, 1) := by decide +kernel
theorem dX12_in_1 : decode cX12_in 1 = .ok (.lload_n 2, 1) := by decide +kernel
theorem dX12_in_2 : decode cX12_in 2 = .ok (.lcmp, 1) := by decide +kernel
theorem dX12_in_3 : decode cX12_in 3 = .ok (.ifCond .lt 14, 3) := by decide +kernel
theorem dX12_in_6 : decode cX12_in 6 = .ok (.lload_n 0, 1) := by decide +kernel
theorem dX12_in_7 : decode cX12_in 7 = .ok (.lload 4, 2) := by decide +kernel
theorem dX12_in_9 : decode cX12_in 9 = .ok (.lcmp, 1) := by decide +kernel
theorem dX12_in_10 : decode cX12_in 10 = .ok (.ifCond .gt 7, 3) := by decide +kernel
theorem dX12_in_13 : decode cX12_in 13 = .ok (.iconst 1, 1) := by decide +kernel
theorem dX12_in_14 : decode cX12_in 14 = .ok (.goto 4, 3) := by decide +kernel
theorem dX12_in_17 : decode cX12_in 17 = .ok (.iconst 0, 1) := by decide +kernel
theorem dX12_in_18 : decode cX12_in 18 = .ok (.ireturn, 1) := by decide +kernel
theorem r_X12_in (E : kr_E) (p0 : Int64) (p2 : Int64) (p4 : Int64) (M : kr_M) : kR kr_vi E Y_X12_in 1 0 [(0, .long p0), (2, .long p2), (4, .long p4)] [] M (f_X12_in p0 p2 p4 M) := by
  rw [f_X12_in]
  refine kr_lload_n dX12_in_0 rfl 0 rfl ?_
  refine kr_lload_n dX12_in_1 rfl 1 rfl ?_
  refine kr_lcmp dX12_in_2 ?_
  refine kr_if_lt (tgt := 17) dX12_in_3 (by decide) ?_ ?_
  · refine kr_iconst (v := 0) dX12_in_17 (by decide) ?_
    exact kr_zret1 dX12_in_18 rfl rfl
  · refine kr_lload_n dX12_in_6 rfl 0 rfl ?_
    refine kr_lload dX12_in_7 2 rfl ?_
    refine kr_lcmp dX12_in_9 ?_
    refine kr_if_gt (tgt := 17) dX12_in_10 (by decide) ?_ ?_
    · refine kr_iconst (v := 0) dX12_in_17 (by decide) ?_
      exact kr_zret1 dX12_in_18 rfl rfl
    · refine kr_iconst (v := 1) dX12_in_13 (by decide) ?_
      refine kr_goto (tgt := 18) dX12_in_14 (by decide) ?_
      exact kr_zret1 dX12_in_18 rfl rfl
theorem dX12_isSlot_0 : decode cX12_isSlot 0 = .ok (.iload_n 0, 1) := by decide +kernel
theorem dX12_isSlot_1 : decode cX12_isSlot 1 = .ok (.i2l, 1) := by decide +kernel
theorem dX12_isSlot_2 : decode cX12_isSlot 2 = .ok (.lconst 0, 1) := by decide +kernel
theorem dX12_isSlot_3 : decode cX12_isSlot 3 = .ok (.ldc2_w 141, 3) := by decide +kernel
theorem dX12_isSlot_6 : decode cX12_isSlot 6 = .ok (.invokestatic 143, 3) := by decide +kernel
theorem dX12_isSlot_9 : decode cX12_isSlot 9 = .ok (.ireturn, 1) := by decide +kernel
theorem r_X12_isSlot (E : kr_E) (p0 : Int32) (M : kr_M) : kR kr_vi E Y_X12_isSlot 2 0 [(0, .int p0)] [] M (f_X12_isSlot p0 M) := by
  rw [f_X12_isSlot]
  refine kr_iload_n dX12_isSlot_0 rfl 0 rfl ?_
  refine kr_i2l dX12_isSlot_1 ?_
  refine kr_lconst (v := 0) dX12_isSlot_2 (by decide) ?_
  refine kr_ldc2 dX12_isSlot_3 kl_RX12_141 ?_
  refine kr_Si (As := [.long (p0.toInt64), .long (0 : Int64), .long (3 : Int64)]) (st := []) zs_X12_in dX12_isSlot_6 ml_RX12_143 (r_X12_in E (p0.toInt64) (0 : Int64) (3 : Int64) M) rfl rfl (Nat.le_of_ble_eq_true rfl) rfl (by decide) (Nat.le_of_ble_eq_true rfl) (fun r2 M1 => ?_)
  exact kr_zret dX12_isSlot_9 rfl
theorem dX12_row_0 : decode cX12_row 0 = .ok (.aload_n 0, 1) := by decide +kernel
theorem dX12_row_1 : decode cX12_row 1 = .ok (.iconst 0, 1) := by decide +kernel
theorem dX12_row_2 : decode cX12_row 2 = .ok (.putfield 138, 3) := by decide +kernel
theorem dX12_row_5 : decode cX12_row 5 = .ok (.iload_n 1, 1) := by decide +kernel
theorem dX12_row_6 : decode cX12_row 6 = .ok (.invokestatic 147, 3) := by decide +kernel
theorem dX12_row_9 : decode cX12_row 9 = .ok (.ifCond .eq 21, 3) := by decide +kernel
theorem dX12_row_12 : decode cX12_row 12 = .ok (.iload_n 2, 1) := by decide +kernel
theorem dX12_row_13 : decode cX12_row 13 = .ok (.i2l, 1) := by decide +kernel
theorem dX12_row_14 : decode cX12_row 14 = .ok (.lconst 0, 1) := by decide +kernel
theorem dX12_row_15 : decode cX12_row 15 = .ok (.ldc2_w 141, 3) := by decide +kernel
theorem dX12_row_18 : decode cX12_row 18 = .ok (.invokestatic 143, 3) := by decide +kernel
theorem dX12_row_21 : decode cX12_row 21 = .ok (.ifCond .eq 9, 3) := by decide +kernel
theorem dX12_row_24 : decode cX12_row 24 = .ok (.iload_n 3, 1) := by decide +kernel
theorem dX12_row_25 : decode cX12_row 25 = .ok (.bipush 60, 2) := by decide +kernel
theorem dX12_row_27 : decode cX12_row 27 = .ok (.if_icmp .le 6, 3) := by decide +kernel
theorem dX12_row_30 : decode cX12_row 30 = .ok (.bipush (-2), 2) := by decide +kernel
theorem dX12_row_32 : decode cX12_row 32 = .ok (.ireturn, 1) := by decide +kernel
theorem dX12_row_33 : decode cX12_row 33 = .ok (.iload_n 3, 1) := by decide +kernel
theorem dX12_row_34 : decode cX12_row 34 = .ok (.ifCond .ge 6, 3) := by decide +kernel
theorem dX12_row_37 : decode cX12_row 37 = .ok (.bipush (-3), 2) := by decide +kernel
theorem dX12_row_39 : decode cX12_row 39 = .ok (.ireturn, 1) := by decide +kernel
theorem dX12_row_40 : decode cX12_row 40 = .ok (.aload_n 0, 1) := by decide +kernel
theorem dX12_row_41 : decode cX12_row 41 = .ok (.getfield 7, 3) := by decide +kernel
theorem dX12_row_44 : decode cX12_row 44 = .ok (.iload_n 1, 1) := by decide +kernel
theorem dX12_row_45 : decode cX12_row 45 = .ok (.iload_n 2, 1) := by decide +kernel
theorem dX12_row_46 : decode cX12_row 46 = .ok (.iastore, 1) := by decide +kernel
theorem dX12_row_47 : decode cX12_row 47 = .ok (.aload_n 0, 1) := by decide +kernel
theorem dX12_row_48 : decode cX12_row 48 = .ok (.getfield 13, 3) := by decide +kernel
theorem dX12_row_51 : decode cX12_row 51 = .ok (.iload_n 1, 1) := by decide +kernel
theorem dX12_row_52 : decode cX12_row 52 = .ok (.iload_n 3, 1) := by decide +kernel
theorem dX12_row_53 : decode cX12_row 53 = .ok (.iastore, 1) := by decide +kernel
theorem dX12_row_54 : decode cX12_row 54 = .ok (.iconst 0, 1) := by decide +kernel
theorem dX12_row_55 : decode cX12_row 55 = .ok (.istore 4, 2) := by decide +kernel
theorem dX12_row_57 : decode cX12_row 57 = .ok (.iload 4, 2) := by decide +kernel
theorem dX12_row_59 : decode cX12_row 59 = .ok (.iload_n 3, 1) := by decide +kernel
theorem dX12_row_60 : decode cX12_row 60 = .ok (.if_icmp .ge 22, 3) := by decide +kernel
theorem dX12_row_63 : decode cX12_row 63 = .ok (.aload_n 0, 1) := by decide +kernel
theorem dX12_row_64 : decode cX12_row 64 = .ok (.getfield 16, 3) := by decide +kernel
theorem dX12_row_67 : decode cX12_row 67 = .ok (.bipush 60, 2) := by decide +kernel
theorem dX12_row_69 : decode cX12_row 69 = .ok (.iload_n 1, 1) := by decide +kernel
theorem dX12_row_70 : decode cX12_row 70 = .ok (.imul, 1) := by decide +kernel
theorem dX12_row_71 : decode cX12_row 71 = .ok (.iload 4, 2) := by decide +kernel
theorem dX12_row_73 : decode cX12_row 73 = .ok (.iadd, 1) := by decide +kernel
theorem dX12_row_74 : decode cX12_row 74 = .ok (.lconst 0, 1) := by decide +kernel
theorem dX12_row_75 : decode cX12_row 75 = .ok (.lastore, 1) := by decide +kernel
theorem dX12_row_76 : decode cX12_row 76 = .ok (.iinc 4 1, 3) := by decide +kernel
theorem dX12_row_79 : decode cX12_row 79 = .ok (.goto (-22), 3) := by decide +kernel
theorem dX12_row_82 : decode cX12_row 82 = .ok (.iconst 0, 1) := by decide +kernel
theorem dX12_row_83 : decode cX12_row 83 = .ok (.ireturn, 1) := by decide +kernel
theorem r_X12_row_57 (E : kr_E)  (l1 : Int32) (l3 : Int32)  : ∀ (n : Nat) (l4 : Int32) (M : kr_M), kR kr_vi E Y_X12_row 3 57 [(0, kr_r E 346), (1, .int l1), (3, .int l3), (4, .int l4)] [] M (f_X12_row_57 l1 l3 n l4 M) := by
  intro n
  induction n with
  | zero => intro l4 M; exact kr_none
  | succ n ih =>
    intro l4 M
    rw [f_X12_row_57]
    refine kr_iload dX12_row_57 3 rfl ?_
    refine kr_iload_n dX12_row_59 rfl 2 rfl ?_
    refine kr_icmp_ge (tgt := 82) dX12_row_60 (by decide) ?_ ?_
    · refine kr_iconst (v := 0) dX12_row_82 (by decide) ?_
      exact kr_iret dX12_row_83 rfl
    · refine kr_aload_n dX12_row_63 rfl 0 rfl ?_
      refine kr_getA (o := 3) (ci := 12) (j := 3) dX12_row_64 kr_at_346 fl_RX12_16 rfl ?_
      refine kr_bipush (v := 60) dX12_row_67 (by decide) ?_
      refine kr_iload_n dX12_row_69 rfl 1 rfl ?_
      refine kr_imul dX12_row_70 ?_
      refine kr_iload dX12_row_71 3 rfl ?_
      refine kr_iadd dX12_row_73 ?_
      refine kr_lconst (v := 0) dX12_row_74 (by decide) ?_
      refine kr_last dX12_row_75 kr_at_349 (fun M1 => ?_)
      refine kr_iinc (j := 3) (v := (l4 + (1 : Int32))) (lv' := [(4, .int (l4 + (1 : Int32))), (0, kr_r E 346), (1, .int l1), (3, .int l3)]) dX12_row_76 rfl rfl (by decide) rfl ?_
      refine kr_goto (tgt := 57) dX12_row_79 (by decide) ?_
      refine kr_sub [1, 2, 3, 0] rfl ?_
      exact ih (l4 + (1 : Int32)) M1
theorem r_X12_row (E : kr_E) (p1 : Int32) (p2 : Int32) (p3 : Int32) (M : kr_M) : kR kr_vi E Y_X12_row 3 0 [(0, kr_r E 346), (1, .int p1), (2, .int p2), (3, .int p3)] [] M (f_X12_row p1 p2 p3 M) := by
  rw [f_X12_row]
  refine kr_aload_n dX12_row_0 rfl 0 rfl ?_
  refine kr_iconst (v := 0) dX12_row_1 (by decide) ?_
  refine kr_putI (ci := 12) (j := 0) dX12_row_2 kr_at_346 fl_RX12_138 rfl rfl (fun M1 => ?_)
  refine kr_iload_n dX12_row_5 rfl 1 rfl ?_
  refine kr_Si (As := [.int p1]) (st := []) zs_X12_isSlot dX12_row_6 ml_RX12_147 (r_X12_isSlot E p1 M1) rfl rfl (Nat.le_of_ble_eq_true rfl) rfl (by decide) (Nat.le_of_ble_eq_true rfl) (fun r3 M2 => ?_)
  refine kr_if_eq (tgt := 30) dX12_row_9 (by decide) ?_ ?_
  · refine kr_bipush (v := -2) dX12_row_30 (by decide) ?_
    exact kr_iret dX12_row_32 rfl
  · refine kr_iload_n dX12_row_12 rfl 2 rfl ?_
    refine kr_i2l dX12_row_13 ?_
    refine kr_lconst (v := 0) dX12_row_14 (by decide) ?_
    refine kr_ldc2 dX12_row_15 kl_RX12_141 ?_
    refine kr_Si (As := [.long (p2.toInt64), .long (0 : Int64), .long (3 : Int64)]) (st := []) zs_X12_in dX12_row_18 ml_RX12_143 (r_X12_in E (p2.toInt64) (0 : Int64) (3 : Int64) M2) rfl rfl (Nat.le_of_ble_eq_true rfl) rfl (by decide) (Nat.le_of_ble_eq_true rfl) (fun r5 M4 => ?_)
    refine kr_if_eq (tgt := 30) dX12_row_21 (by decide) ?_ ?_
    · refine kr_bipush (v := -2) dX12_row_30 (by decide) ?_
      exact kr_iret dX12_row_32 rfl
    · refine kr_iload_n dX12_row_24 rfl 3 rfl ?_
      refine kr_bipush (v := 60) dX12_row_25 (by decide) ?_
      refine kr_icmp_le (tgt := 33) dX12_row_27 (by decide) ?_ ?_
      · refine kr_iload_n dX12_row_33 rfl 3 rfl ?_
        refine kr_if_ge (tgt := 40) dX12_row_34 (by decide) ?_ ?_
        · refine kr_aload_n dX12_row_40 rfl 0 rfl ?_
          refine kr_getA (o := 1) (ci := 12) (j := 1) dX12_row_41 kr_at_346 fl_RX12_7 rfl ?_
          refine kr_iload_n dX12_row_44 rfl 1 rfl ?_
          refine kr_iload_n dX12_row_45 rfl 2 rfl ?_
          refine kr_iast dX12_row_46 kr_at_347 (fun M6 => ?_)
          refine kr_aload_n dX12_row_47 rfl 0 rfl ?_
          refine kr_getA (o := 2) (ci := 12) (j := 2) dX12_row_48 kr_at_346 fl_RX12_13 rfl ?_
          refine kr_iload_n dX12_row_51 rfl 1 rfl ?_
          refine kr_iload_n dX12_row_52 rfl 3 rfl ?_
          refine kr_iast dX12_row_53 kr_at_348 (fun M7 => ?_)
          refine kr_iconst (v := 0) dX12_row_54 (by decide) ?_
          refine kr_istore (lv' := [(4, .int (0 : Int32)), (0, kr_r E 346), (1, .int p1), (2, .int p2), (3, .int p3)]) dX12_row_55 (by decide) rfl ?_
          refine kr_sub [1, 2, 4, 0] rfl ?_
          exact r_X12_row_57 E p1 p3 _ (0 : Int32) M7
        · refine kr_bipush (v := -3) dX12_row_37 (by decide) ?_
          exact kr_iret dX12_row_39 rfl
      · refine kr_bipush (v := -2) dX12_row_30 (by decide) ?_
        exact kr_iret dX12_row_32 rfl
theorem dX12_cut_0 : decode cX12_cut 0 = .ok (.iload_n 2, 1) := by decide +kernel
theorem dX12_cut_1 : decode cX12_cut 1 = .ok (.ifCond .ne 10, 3) := by decide +kernel
theorem dX12_cut_4 : decode cX12_cut 4 = .ok (.lload_n 0, 1) := by decide +kernel
theorem dX12_cut_5 : decode cX12_cut 5 = .ok (.l2i, 1) := by decide +kernel
theorem dX12_cut_6 : decode cX12_cut 6 = .ok (.i2b, 1) := by decide +kernel
theorem dX12_cut_7 : decode cX12_cut 7 = .ok (.i2l, 1) := by decide +kernel
theorem dX12_cut_8 : decode cX12_cut 8 = .ok (.goto 27, 3) := by decide +kernel
theorem dX12_cut_11 : decode cX12_cut 11 = .ok (.iload_n 2, 1) := by decide +kernel
theorem dX12_cut_12 : decode cX12_cut 12 = .ok (.iconst 1, 1) := by decide +kernel
theorem dX12_cut_13 : decode cX12_cut 13 = .ok (.if_icmp .ne 10, 3) := by decide +kernel
theorem dX12_cut_16 : decode cX12_cut 16 = .ok (.lload_n 0, 1) := by decide +kernel
theorem dX12_cut_17 : decode cX12_cut 17 = .ok (.l2i, 1) := by decide +kernel
theorem dX12_cut_18 : decode cX12_cut 18 = .ok (.i2s, 1) := by decide +kernel
theorem dX12_cut_19 : decode cX12_cut 19 = .ok (.i2l, 1) := by decide +kernel
theorem dX12_cut_20 : decode cX12_cut 20 = .ok (.goto 15, 3) := by decide +kernel
theorem dX12_cut_23 : decode cX12_cut 23 = .ok (.iload_n 2, 1) := by decide +kernel
theorem dX12_cut_24 : decode cX12_cut 24 = .ok (.iconst 2, 1) := by decide +kernel
theorem dX12_cut_25 : decode cX12_cut 25 = .ok (.if_icmp .ne 9, 3) := by decide +kernel
theorem dX12_cut_28 : decode cX12_cut 28 = .ok (.lload_n 0, 1) := by decide +kernel
theorem dX12_cut_29 : decode cX12_cut 29 = .ok (.l2i, 1) := by decide +kernel
theorem dX12_cut_30 : decode cX12_cut 30 = .ok (.i2l, 1) := by decide +kernel
theorem dX12_cut_31 : decode cX12_cut 31 = .ok (.goto 4, 3) := by decide +kernel
theorem dX12_cut_34 : decode cX12_cut 34 = .ok (.lload_n 0, 1) := by decide +kernel
theorem dX12_cut_35 : decode cX12_cut 35 = .ok (.lreturn, 1) := by decide +kernel
theorem r_X12_cut (E : kr_E) (p0 : Int64) (p2 : Int32) (M : kr_M) : kR kr_vl E Y_X12_cut 1 0 [(0, .long p0), (2, .int p2)] [] M (f_X12_cut p0 p2 M) := by
  rw [f_X12_cut]
  refine kr_iload_n dX12_cut_0 rfl 1 rfl ?_
  refine kr_if_ne (tgt := 11) dX12_cut_1 (by decide) ?_ ?_
  · refine kr_iload_n dX12_cut_11 rfl 1 rfl ?_
    refine kr_iconst (v := 1) dX12_cut_12 (by decide) ?_
    refine kr_icmp_ne (tgt := 23) dX12_cut_13 (by decide) ?_ ?_
    · refine kr_iload_n dX12_cut_23 rfl 1 rfl ?_
      refine kr_iconst (v := 2) dX12_cut_24 (by decide) ?_
      refine kr_icmp_ne (tgt := 34) dX12_cut_25 (by decide) ?_ ?_
      · refine kr_lload_n dX12_cut_34 rfl 0 rfl ?_
        exact kr_lret dX12_cut_35 rfl
      · refine kr_lload_n dX12_cut_28 rfl 0 rfl ?_
        refine kr_l2i dX12_cut_29 ?_
        refine kr_i2l dX12_cut_30 ?_
        refine kr_goto (tgt := 35) dX12_cut_31 (by decide) ?_
        exact kr_lret dX12_cut_35 rfl
    · refine kr_lload_n dX12_cut_16 rfl 0 rfl ?_
      refine kr_l2i dX12_cut_17 ?_
      refine kr_i2s dX12_cut_18 ?_
      refine kr_i2l dX12_cut_19 ?_
      refine kr_goto (tgt := 35) dX12_cut_20 (by decide) ?_
      exact kr_lret dX12_cut_35 rfl
  · refine kr_lload_n dX12_cut_4 rfl 0 rfl ?_
    refine kr_l2i dX12_cut_5 ?_
    refine kr_i2b dX12_cut_6 ?_
    refine kr_i2l dX12_cut_7 ?_
    refine kr_goto (tgt := 35) dX12_cut_8 (by decide) ?_
    exact kr_lret dX12_cut_35 rfl
theorem dX12_write_0 : decode cX12_write 0 = .ok (.aload_n 0, 1) := by decide +kernel
theorem dX12_write_1 : decode cX12_write 1 = .ok (.iconst 0, 1) := by decide +kernel
theorem dX12_write_2 : decode cX12_write 2 = .ok (.putfield 138, 3) := by decide +kernel
theorem dX12_write_5 : decode cX12_write 5 = .ok (.iload_n 1, 1) := by decide +kernel
theorem dX12_write_6 : decode cX12_write 6 = .ok (.invokestatic 147, 3) := by decide +kernel
theorem dX12_write_9 : decode cX12_write 9 = .ok (.ifCond .ne 6, 3) := by decide +kernel
theorem dX12_write_12 : decode cX12_write 12 = .ok (.bipush (-2), 2) := by decide +kernel
theorem dX12_write_14 : decode cX12_write 14 = .ok (.ireturn, 1) := by decide +kernel
theorem dX12_write_15 : decode cX12_write 15 = .ok (.aload_n 0, 1) := by decide +kernel
theorem dX12_write_16 : decode cX12_write 16 = .ok (.getfield 7, 3) := by decide +kernel
theorem dX12_write_19 : decode cX12_write 19 = .ok (.iload_n 1, 1) := by decide +kernel
theorem dX12_write_20 : decode cX12_write 20 = .ok (.iaload, 1) := by decide +kernel
theorem dX12_write_21 : decode cX12_write 21 = .ok (.iconst (-1), 1) := by decide +kernel
theorem dX12_write_22 : decode cX12_write 22 = .ok (.if_icmp .ne 6, 3) := by decide +kernel
theorem dX12_write_25 : decode cX12_write 25 = .ok (.bipush (-6), 2) := by decide +kernel
theorem dX12_write_27 : decode cX12_write 27 = .ok (.ireturn, 1) := by decide +kernel
theorem dX12_write_28 : decode cX12_write 28 = .ok (.iload_n 2, 1) := by decide +kernel
theorem dX12_write_29 : decode cX12_write 29 = .ok (.i2l, 1) := by decide +kernel
theorem dX12_write_30 : decode cX12_write 30 = .ok (.lconst 0, 1) := by decide +kernel
theorem dX12_write_31 : decode cX12_write 31 = .ok (.aload_n 0, 1) := by decide +kernel
theorem dX12_write_32 : decode cX12_write 32 = .ok (.getfield 13, 3) := by decide +kernel
theorem dX12_write_35 : decode cX12_write 35 = .ok (.iload_n 1, 1) := by decide +kernel
theorem dX12_write_36 : decode cX12_write 36 = .ok (.iaload, 1) := by decide +kernel
theorem dX12_write_37 : decode cX12_write 37 = .ok (.iconst 1, 1) := by decide +kernel
theorem dX12_write_38 : decode cX12_write 38 = .ok (.isub, 1) := by decide +kernel
theorem dX12_write_39 : decode cX12_write 39 = .ok (.i2l, 1) := by decide +kernel
theorem dX12_write_40 : decode cX12_write 40 = .ok (.invokestatic 143, 3) := by decide +kernel
theorem dX12_write_43 : decode cX12_write 43 = .ok (.ifCond .ne 6, 3) := by decide +kernel
theorem dX12_write_46 : decode cX12_write 46 = .ok (.bipush (-7), 2) := by decide +kernel
theorem dX12_write_48 : decode cX12_write 48 = .ok (.ireturn, 1) := by decide +kernel
theorem dX12_write_49 : decode cX12_write 49 = .ok (.aload_n 0, 1) := by decide +kernel
theorem dX12_write_50 : decode cX12_write 50 = .ok (.getfield 16, 3) := by decide +kernel
theorem dX12_write_53 : decode cX12_write 53 = .ok (.bipush 60, 2) := by decide +kernel
theorem dX12_write_55 : decode cX12_write 55 = .ok (.iload_n 1, 1) := by decide +kernel
theorem dX12_write_56 : decode cX12_write 56 = .ok (.imul, 1) := by decide +kernel
theorem dX12_write_57 : decode cX12_write 57 = .ok (.iload_n 2, 1) := by decide +kernel
theorem dX12_write_58 : decode cX12_write 58 = .ok (.iadd, 1) := by decide +kernel
theorem dX12_write_59 : decode cX12_write 59 = .ok (.lload_n 3, 1) := by decide +kernel
theorem dX12_write_60 : decode cX12_write 60 = .ok (.aload_n 0, 1) := by decide +kernel
theorem dX12_write_61 : decode cX12_write 61 = .ok (.getfield 7, 3) := by decide +kernel
theorem dX12_write_64 : decode cX12_write 64 = .ok (.iload_n 1, 1) := by decide +kernel
theorem dX12_write_65 : decode cX12_write 65 = .ok (.iaload, 1) := by decide +kernel
theorem dX12_write_66 : decode cX12_write 66 = .ok (.invokestatic 151, 3) := by decide +kernel
theorem dX12_write_69 : decode cX12_write 69 = .ok (.lastore, 1) := by decide +kernel
theorem dX12_write_70 : decode cX12_write 70 = .ok (.iconst 0, 1) := by decide +kernel
theorem dX12_write_71 : decode cX12_write 71 = .ok (.ireturn, 1) := by decide +kernel
theorem r_X12_write (E : kr_E) (p1 : Int32) (p2 : Int32) (p3 : Int64) (M : kr_M) : kR kr_vi E Y_X12_write 3 0 [(0, kr_r E 346), (1, .int p1), (2, .int p2), (3, .long p3)] [] M (f_X12_write p1 p2 p3 M) := by
  rw [f_X12_write]
  refine kr_aload_n dX12_write_0 rfl 0 rfl ?_
  refine kr_iconst (v := 0) dX12_write_1 (by decide) ?_
  refine kr_putI (ci := 12) (j := 0) dX12_write_2 kr_at_346 fl_RX12_138 rfl rfl (fun M1 => ?_)
  refine kr_iload_n dX12_write_5 rfl 1 rfl ?_
  refine kr_Si (As := [.int p1]) (st := []) zs_X12_isSlot dX12_write_6 ml_RX12_147 (r_X12_isSlot E p1 M1) rfl rfl (Nat.le_of_ble_eq_true rfl) rfl (by decide) (Nat.le_of_ble_eq_true rfl) (fun r3 M2 => ?_)
  refine kr_if_ne (tgt := 15) dX12_write_9 (by decide) ?_ ?_
  · refine kr_aload_n dX12_write_15 rfl 0 rfl ?_
    refine kr_getA (o := 1) (ci := 12) (j := 1) dX12_write_16 kr_at_346 fl_RX12_7 rfl ?_
    refine kr_iload_n dX12_write_19 rfl 1 rfl ?_
    refine kr_iald dX12_write_20 kr_at_347 (fun v4 => ?_)
    refine kr_iconst (v := -1) dX12_write_21 (by decide) ?_
    refine kr_icmp_ne (tgt := 28) dX12_write_22 (by decide) ?_ ?_
    · refine kr_iload_n dX12_write_28 rfl 2 rfl ?_
      refine kr_i2l dX12_write_29 ?_
      refine kr_lconst (v := 0) dX12_write_30 (by decide) ?_
      refine kr_aload_n dX12_write_31 rfl 0 rfl ?_
      refine kr_getA (o := 2) (ci := 12) (j := 2) dX12_write_32 kr_at_346 fl_RX12_13 rfl ?_
      refine kr_iload_n dX12_write_35 rfl 1 rfl ?_
      refine kr_iald dX12_write_36 kr_at_348 (fun v5 => ?_)
      refine kr_iconst (v := 1) dX12_write_37 (by decide) ?_
      refine kr_isub dX12_write_38 ?_
      refine kr_i2l dX12_write_39 ?_
      refine kr_Si (As := [.long (p2.toInt64), .long (0 : Int64), .long ((v5 - (1 : Int32)).toInt64)]) (st := []) zs_X12_in dX12_write_40 ml_RX12_143 (r_X12_in E (p2.toInt64) (0 : Int64) ((v5 - (1 : Int32)).toInt64) M2) rfl rfl (Nat.le_of_ble_eq_true rfl) rfl (by decide) (Nat.le_of_ble_eq_true rfl) (fun r7 M6 => ?_)
      refine kr_if_ne (tgt := 49) dX12_write_43 (by decide) ?_ ?_
      · refine kr_aload_n dX12_write_49 rfl 0 rfl ?_
        refine kr_getA (o := 3) (ci := 12) (j := 3) dX12_write_50 kr_at_346 fl_RX12_16 rfl ?_
        refine kr_bipush (v := 60) dX12_write_53 (by decide) ?_
        refine kr_iload_n dX12_write_55 rfl 1 rfl ?_
        refine kr_imul dX12_write_56 ?_
        refine kr_iload_n dX12_write_57 rfl 2 rfl ?_
        refine kr_iadd dX12_write_58 ?_
        refine kr_lload_n dX12_write_59 rfl 3 rfl ?_
        refine kr_aload_n dX12_write_60 rfl 0 rfl ?_
        refine kr_getA (o := 1) (ci := 12) (j := 1) dX12_write_61 kr_at_346 fl_RX12_7 rfl ?_
        refine kr_iload_n dX12_write_64 rfl 1 rfl ?_
        refine kr_iald dX12_write_65 kr_at_347 (fun v8 => ?_)
        refine kr_Sl (As := [.long p3, .int v8]) (st := [.int (((60 : Int32) * p1) + p2), kr_r E 349]) zs_X12_cut dX12_write_66 ml_RX12_151 (r_X12_cut E p3 v8 M6) rfl rfl (Nat.le_of_ble_eq_true rfl) rfl (by decide) (Nat.le_of_ble_eq_true rfl) (fun r10 M9 => ?_)
        refine kr_last dX12_write_69 kr_at_349 (fun M11 => ?_)
        refine kr_iconst (v := 0) dX12_write_70 (by decide) ?_
        exact kr_iret dX12_write_71 rfl
      · refine kr_bipush (v := -7) dX12_write_46 (by decide) ?_
        exact kr_iret dX12_write_48 rfl
    · refine kr_bipush (v := -6) dX12_write_25 (by decide) ?_
      exact kr_iret dX12_write_27 rfl
  · refine kr_bipush (v := -2) dX12_write_12 (by decide) ?_
    exact kr_iret dX12_write_14 rfl
theorem dX12_paste_0 : decode cX12_paste 0 = .ok (.aload_n 0, 1) := by decide +kernel
theorem dX12_paste_1 : decode cX12_paste 1 = .ok (.iconst 0, 1) := by decide +kernel
theorem dX12_paste_2 : decode cX12_paste 2 = .ok (.putfield 138, 3) := by decide +kernel
theorem dX12_paste_5 : decode cX12_paste 5 = .ok (.iload_n 1, 1) := by decide +kernel
theorem dX12_paste_6 : decode cX12_paste 6 = .ok (.invokestatic 147, 3) := by decide +kernel
theorem dX12_paste_9 : decode cX12_paste 9 = .ok (.ifCond .eq 10, 3) := by decide +kernel
theorem dX12_paste_12 : decode cX12_paste 12 = .ok (.iload_n 3, 1) := by decide +kernel
theorem dX12_paste_13 : decode cX12_paste 13 = .ok (.invokestatic 147, 3) := by decide +kernel
theorem dX12_paste_16 : decode cX12_paste 16 = .ok (.ifCond .ne 6, 3) := by decide +kernel
theorem dX12_paste_19 : decode cX12_paste 19 = .ok (.bipush (-2), 2) := by decide +kernel
theorem dX12_paste_21 : decode cX12_paste 21 = .ok (.ireturn, 1) := by decide +kernel
theorem dX12_paste_22 : decode cX12_paste 22 = .ok (.aload_n 0, 1) := by decide +kernel
theorem dX12_paste_23 : decode cX12_paste 23 = .ok (.getfield 7, 3) := by decide +kernel
theorem dX12_paste_26 : decode cX12_paste 26 = .ok (.iload_n 1, 1) := by decide +kernel
theorem dX12_paste_27 : decode cX12_paste 27 = .ok (.iaload, 1) := by decide +kernel
theorem dX12_paste_28 : decode cX12_paste 28 = .ok (.iconst (-1), 1) := by decide +kernel
theorem dX12_paste_29 : decode cX12_paste 29 = .ok (.if_icmp .eq 13, 3) := by decide +kernel
theorem dX12_paste_32 : decode cX12_paste 32 = .ok (.aload_n 0, 1) := by decide +kernel
theorem dX12_paste_33 : decode cX12_paste 33 = .ok (.getfield 7, 3) := by decide +kernel
theorem dX12_paste_36 : decode cX12_paste 36 = .ok (.iload_n 3, 1) := by decide +kernel
theorem dX12_paste_37 : decode cX12_paste 37 = .ok (.iaload, 1) := by decide +kernel
theorem dX12_paste_38 : decode cX12_paste 38 = .ok (.iconst (-1), 1) := by decide +kernel
theorem dX12_paste_39 : decode cX12_paste 39 = .ok (.if_icmp .ne 6, 3) := by decide +kernel
theorem dX12_paste_42 : decode cX12_paste 42 = .ok (.bipush (-6), 2) := by decide +kernel
theorem dX12_paste_44 : decode cX12_paste 44 = .ok (.ireturn, 1) := by decide +kernel
theorem dX12_paste_45 : decode cX12_paste 45 = .ok (.aload_n 0, 1) := by decide +kernel
theorem dX12_paste_46 : decode cX12_paste 46 = .ok (.getfield 7, 3) := by decide +kernel
theorem dX12_paste_49 : decode cX12_paste 49 = .ok (.iload_n 1, 1) := by decide +kernel
theorem dX12_paste_50 : decode cX12_paste 50 = .ok (.iaload, 1) := by decide +kernel
theorem dX12_paste_51 : decode cX12_paste 51 = .ok (.aload_n 0, 1) := by decide +kernel
theorem dX12_paste_52 : decode cX12_paste 52 = .ok (.getfield 7, 3) := by decide +kernel
theorem dX12_paste_55 : decode cX12_paste 55 = .ok (.iload_n 3, 1) := by decide +kernel
theorem dX12_paste_56 : decode cX12_paste 56 = .ok (.iaload, 1) := by decide +kernel
theorem dX12_paste_57 : decode cX12_paste 57 = .ok (.if_icmp .eq 6, 3) := by decide +kernel
theorem dX12_paste_60 : decode cX12_paste 60 = .ok (.bipush (-8), 2) := by decide +kernel
theorem dX12_paste_62 : decode cX12_paste 62 = .ok (.ireturn, 1) := by decide +kernel
theorem dX12_paste_63 : decode cX12_paste 63 = .ok (.iload_n 2, 1) := by decide +kernel
theorem dX12_paste_64 : decode cX12_paste 64 = .ok (.ifCond .lt 48, 3) := by decide +kernel
theorem dX12_paste_67 : decode cX12_paste 67 = .ok (.iload 4, 2) := by decide +kernel
theorem dX12_paste_69 : decode cX12_paste 69 = .ok (.ifCond .lt 43, 3) := by decide +kernel
theorem dX12_paste_72 : decode cX12_paste 72 = .ok (.iload 5, 2) := by decide +kernel
theorem dX12_paste_74 : decode cX12_paste 74 = .ok (.ifCond .lt 38, 3) := by decide +kernel
theorem dX12_paste_77 : decode cX12_paste 77 = .ok (.iload_n 2, 1) := by decide +kernel
theorem dX12_paste_78 : decode cX12_paste 78 = .ok (.i2l, 1) := by decide +kernel
theorem dX12_paste_79 : decode cX12_paste 79 = .ok (.iload 5, 2) := by decide +kernel
theorem dX12_paste_81 : decode cX12_paste 81 = .ok (.i2l, 1) := by decide +kernel
theorem dX12_paste_82 : decode cX12_paste 82 = .ok (.ladd, 1) := by decide +kernel
theorem dX12_paste_83 : decode cX12_paste 83 = .ok (.aload_n 0, 1) := by decide +kernel
theorem dX12_paste_84 : decode cX12_paste 84 = .ok (.getfield 13, 3) := by decide +kernel
theorem dX12_paste_87 : decode cX12_paste 87 = .ok (.iload_n 1, 1) := by decide +kernel
theorem dX12_paste_88 : decode cX12_paste 88 = .ok (.iaload, 1) := by decide +kernel
theorem dX12_paste_89 : decode cX12_paste 89 = .ok (.i2l, 1) := by decide +kernel
theorem dX12_paste_90 : decode cX12_paste 90 = .ok (.lcmp, 1) := by decide +kernel
theorem dX12_paste_91 : decode cX12_paste 91 = .ok (.ifCond .gt 21, 3) := by decide +kernel
theorem dX12_paste_94 : decode cX12_paste 94 = .ok (.iload 4, 2) := by decide +kernel
theorem dX12_paste_96 : decode cX12_paste 96 = .ok (.i2l, 1) := by decide +kernel
theorem dX12_paste_97 : decode cX12_paste 97 = .ok (.iload 5, 2) := by decide +kernel
theorem dX12_paste_99 : decode cX12_paste 99 = .ok (.i2l, 1) := by decide +kernel
theorem dX12_paste_100 : decode cX12_paste 100 = .ok (.ladd, 1) := by decide +kernel
theorem dX12_paste_101 : decode cX12_paste 101 = .ok (.aload_n 0, 1) := by decide +kernel
theorem dX12_paste_102 : decode cX12_paste 102 = .ok (.getfield 13, 3) := by decide +kernel
theorem dX12_paste_105 : decode cX12_paste 105 = .ok (.iload_n 3, 1) := by decide +kernel
theorem dX12_paste_106 : decode cX12_paste 106 = .ok (.iaload, 1) := by decide +kernel
theorem dX12_paste_107 : decode cX12_paste 107 = .ok (.i2l, 1) := by decide +kernel
theorem dX12_paste_108 : decode cX12_paste 108 = .ok (.lcmp, 1) := by decide +kernel
theorem dX12_paste_109 : decode cX12_paste 109 = .ok (.ifCond .le 6, 3) := by decide +kernel
theorem dX12_paste_112 : decode cX12_paste 112 = .ok (.bipush (-7), 2) := by decide +kernel
theorem dX12_paste_114 : decode cX12_paste 114 = .ok (.ireturn, 1) := by decide +kernel
theorem dX12_paste_115 : decode cX12_paste 115 = .ok (.iconst 0, 1) := by decide +kernel
theorem dX12_paste_116 : decode cX12_paste 116 = .ok (.istore 6, 2) := by decide +kernel
theorem dX12_paste_118 : decode cX12_paste 118 = .ok (.iload 6, 2) := by decide +kernel
theorem dX12_paste_120 : decode cX12_paste 120 = .ok (.iload 5, 2) := by decide +kernel
theorem dX12_paste_122 : decode cX12_paste 122 = .ok (.if_icmp .ge 30, 3) := by decide +kernel
theorem dX12_paste_125 : decode cX12_paste 125 = .ok (.aload_n 0, 1) := by decide +kernel
theorem dX12_paste_126 : decode cX12_paste 126 = .ok (.getfield 20, 3) := by decide +kernel
theorem dX12_paste_129 : decode cX12_paste 129 = .ok (.iload 6, 2) := by decide +kernel
theorem dX12_paste_131 : decode cX12_paste 131 = .ok (.aload_n 0, 1) := by decide +kernel
theorem dX12_paste_132 : decode cX12_paste 132 = .ok (.getfield 16, 3) := by decide +kernel
theorem dX12_paste_135 : decode cX12_paste 135 = .ok (.bipush 60, 2) := by decide +kernel
theorem dX12_paste_137 : decode cX12_paste 137 = .ok (.iload_n 1, 1) := by decide +kernel
theorem dX12_paste_138 : decode cX12_paste 138 = .ok (.imul, 1) := by decide +kernel
theorem dX12_paste_139 : decode cX12_paste 139 = .ok (.iload_n 2, 1) := by decide +kernel
theorem dX12_paste_140 : decode cX12_paste 140 = .ok (.iadd, 1) := by decide +kernel
theorem dX12_paste_141 : decode cX12_paste 141 = .ok (.iload 6, 2) := by decide +kernel
theorem dX12_paste_143 : decode cX12_paste 143 = .ok (.iadd, 1) := by decide +kernel
theorem dX12_paste_144 : decode cX12_paste 144 = .ok (.laload, 1) := by decide +kernel
theorem dX12_paste_145 : decode cX12_paste 145 = .ok (.lastore, 1) := by decide +kernel
theorem dX12_paste_146 : decode cX12_paste 146 = .ok (.iinc 6 1, 3) := by decide +kernel
theorem dX12_paste_149 : decode cX12_paste 149 = .ok (.goto (-31), 3) := by decide +kernel
theorem dX12_paste_152 : decode cX12_paste 152 = .ok (.iconst 0, 1) := by decide +kernel
theorem dX12_paste_153 : decode cX12_paste 153 = .ok (.istore 6, 2) := by decide +kernel
theorem dX12_paste_155 : decode cX12_paste 155 = .ok (.iload 6, 2) := by decide +kernel
theorem dX12_paste_157 : decode cX12_paste 157 = .ok (.iload 5, 2) := by decide +kernel
theorem dX12_paste_159 : decode cX12_paste 159 = .ok (.if_icmp .ge 31, 3) := by decide +kernel
theorem dX12_paste_162 : decode cX12_paste 162 = .ok (.aload_n 0, 1) := by decide +kernel
theorem dX12_paste_163 : decode cX12_paste 163 = .ok (.getfield 16, 3) := by decide +kernel
theorem dX12_paste_166 : decode cX12_paste 166 = .ok (.bipush 60, 2) := by decide +kernel
theorem dX12_paste_168 : decode cX12_paste 168 = .ok (.iload_n 3, 1) := by decide +kernel
theorem dX12_paste_169 : decode cX12_paste 169 = .ok (.imul, 1) := by decide +kernel
theorem dX12_paste_170 : decode cX12_paste 170 = .ok (.iload 4, 2) := by decide +kernel
theorem dX12_paste_172 : decode cX12_paste 172 = .ok (.iadd, 1) := by decide +kernel
theorem dX12_paste_173 : decode cX12_paste 173 = .ok (.iload 6, 2) := by decide +kernel
theorem dX12_paste_175 : decode cX12_paste 175 = .ok (.iadd, 1) := by decide +kernel
theorem dX12_paste_176 : decode cX12_paste 176 = .ok (.aload_n 0, 1) := by decide +kernel
theorem dX12_paste_177 : decode cX12_paste 177 = .ok (.getfield 20, 3) := by decide +kernel
theorem dX12_paste_180 : decode cX12_paste 180 = .ok (.iload 6, 2) := by decide +kernel
theorem dX12_paste_182 : decode cX12_paste 182 = .ok (.laload, 1) := by decide +kernel
theorem dX12_paste_183 : decode cX12_paste 183 = .ok (.lastore, 1) := by decide +kernel
theorem dX12_paste_184 : decode cX12_paste 184 = .ok (.iinc 6 1, 3) := by decide +kernel
theorem dX12_paste_187 : decode cX12_paste 187 = .ok (.goto (-32), 3) := by decide +kernel
theorem dX12_paste_190 : decode cX12_paste 190 = .ok (.iconst 0, 1) := by decide +kernel
theorem dX12_paste_191 : decode cX12_paste 191 = .ok (.ireturn, 1) := by decide +kernel
theorem r_X12_paste_155 (E : kr_E)  (l3 : Int32) (l4 : Int32) (l5 : Int32)  : ∀ (n : Nat) (l6 : Int32) (M : kr_M), kR kr_vi E Y_X12_paste 3 155 [(0, kr_r E 346), (3, .int l3), (4, .int l4), (5, .int l5), (6, .int l6)] [] M (f_X12_paste_155 l3 l4 l5 n l6 M) := by
  intro n
  induction n with
  | zero => intro l6 M; exact kr_none
  | succ n ih =>
    intro l6 M
    rw [f_X12_paste_155]
    refine kr_iload dX12_paste_155 4 rfl ?_
    refine kr_iload dX12_paste_157 3 rfl ?_
    refine kr_icmp_ge (tgt := 190) dX12_paste_159 (by decide) ?_ ?_
    · refine kr_iconst (v := 0) dX12_paste_190 (by decide) ?_
      exact kr_iret dX12_paste_191 rfl
    · refine kr_aload_n dX12_paste_162 rfl 0 rfl ?_
      refine kr_getA (o := 3) (ci := 12) (j := 3) dX12_paste_163 kr_at_346 fl_RX12_16 rfl ?_
      refine kr_bipush (v := 60) dX12_paste_166 (by decide) ?_
      refine kr_iload_n dX12_paste_168 rfl 1 rfl ?_
      refine kr_imul dX12_paste_169 ?_
      refine kr_iload dX12_paste_170 2 rfl ?_
      refine kr_iadd dX12_paste_172 ?_
      refine kr_iload dX12_paste_173 4 rfl ?_
      refine kr_iadd dX12_paste_175 ?_
      refine kr_aload_n dX12_paste_176 rfl 0 rfl ?_
      refine kr_getA (o := 4) (ci := 12) (j := 4) dX12_paste_177 kr_at_346 fl_RX12_20 rfl ?_
      refine kr_iload dX12_paste_180 4 rfl ?_
      refine kr_lald dX12_paste_182 kr_at_350 (fun v1 => ?_)
      refine kr_last dX12_paste_183 kr_at_349 (fun M2 => ?_)
      refine kr_iinc (j := 4) (v := (l6 + (1 : Int32))) (lv' := [(6, .int (l6 + (1 : Int32))), (0, kr_r E 346), (3, .int l3), (4, .int l4), (5, .int l5)]) dX12_paste_184 rfl rfl (by decide) rfl ?_
      refine kr_goto (tgt := 155) dX12_paste_187 (by decide) ?_
      refine kr_sub [1, 2, 3, 4, 0] rfl ?_
      exact ih (l6 + (1 : Int32)) M2
theorem r_X12_paste_152 (E : kr_E)  (l3 : Int32) (l4 : Int32) (l5 : Int32)  (M : kr_M) : kR kr_vi E Y_X12_paste 3 152 [(0, kr_r E 346), (3, .int l3), (4, .int l4), (5, .int l5)] [] M (f_X12_paste_152 l3 l4 l5 M) := by
  rw [f_X12_paste_152]
  refine kr_iconst (v := 0) dX12_paste_152 (by decide) ?_
  refine kr_istore (lv' := [(6, .int (0 : Int32)), (0, kr_r E 346), (3, .int l3), (4, .int l4), (5, .int l5)]) dX12_paste_153 (by decide) rfl ?_
  refine kr_sub [1, 2, 3, 4, 0] rfl ?_
  exact r_X12_paste_155 E l3 l4 l5 _ (0 : Int32) M
theorem r_X12_paste_118 (E : kr_E)  (l1 : Int32) (l2 : Int32) (l3 : Int32) (l4 : Int32) (l5 : Int32)  : ∀ (n : Nat) (l6 : Int32) (M : kr_M), kR kr_vi E Y_X12_paste 3 118 [(0, kr_r E 346), (1, .int l1), (2, .int l2), (3, .int l3), (4, .int l4), (5, .int l5), (6, .int l6)] [] M (f_X12_paste_118 l1 l2 l3 l4 l5 n l6 M) := by
  intro n
  induction n with
  | zero => intro l6 M; exact kr_none
  | succ n ih =>
    intro l6 M
    rw [f_X12_paste_118]
    refine kr_iload dX12_paste_118 6 rfl ?_
    refine kr_iload dX12_paste_120 5 rfl ?_
    refine kr_icmp_ge (tgt := 152) dX12_paste_122 (by decide) ?_ ?_
    · refine kr_sub [0, 3, 4, 5] rfl ?_
      exact r_X12_paste_152 E l3 l4 l5 M
    · refine kr_aload_n dX12_paste_125 rfl 0 rfl ?_
      refine kr_getA (o := 4) (ci := 12) (j := 4) dX12_paste_126 kr_at_346 fl_RX12_20 rfl ?_
      refine kr_iload dX12_paste_129 6 rfl ?_
      refine kr_aload_n dX12_paste_131 rfl 0 rfl ?_
      refine kr_getA (o := 3) (ci := 12) (j := 3) dX12_paste_132 kr_at_346 fl_RX12_16 rfl ?_
      refine kr_bipush (v := 60) dX12_paste_135 (by decide) ?_
      refine kr_iload_n dX12_paste_137 rfl 1 rfl ?_
      refine kr_imul dX12_paste_138 ?_
      refine kr_iload_n dX12_paste_139 rfl 2 rfl ?_
      refine kr_iadd dX12_paste_140 ?_
      refine kr_iload dX12_paste_141 6 rfl ?_
      refine kr_iadd dX12_paste_143 ?_
      refine kr_lald dX12_paste_144 kr_at_349 (fun v1 => ?_)
      refine kr_last dX12_paste_145 kr_at_350 (fun M2 => ?_)
      refine kr_iinc (j := 6) (v := (l6 + (1 : Int32))) (lv' := [(6, .int (l6 + (1 : Int32))), (0, kr_r E 346), (1, .int l1), (2, .int l2), (3, .int l3), (4, .int l4), (5, .int l5)]) dX12_paste_146 rfl rfl (by decide) rfl ?_
      refine kr_goto (tgt := 118) dX12_paste_149 (by decide) ?_
      refine kr_sub [1, 2, 3, 4, 5, 6, 0] rfl ?_
      exact ih (l6 + (1 : Int32)) M2
theorem r_X12_paste (E : kr_E) (p1 : Int32) (p2 : Int32) (p3 : Int32) (p4 : Int32) (p5 : Int32) (M : kr_M) : kR kr_vi E Y_X12_paste 3 0 [(0, kr_r E 346), (1, .int p1), (2, .int p2), (3, .int p3), (4, .int p4), (5, .int p5)] [] M (f_X12_paste p1 p2 p3 p4 p5 M) := by
  rw [f_X12_paste]
  refine kr_aload_n dX12_paste_0 rfl 0 rfl ?_
  refine kr_iconst (v := 0) dX12_paste_1 (by decide) ?_
  refine kr_putI (ci := 12) (j := 0) dX12_paste_2 kr_at_346 fl_RX12_138 rfl rfl (fun M1 => ?_)
  refine kr_iload_n dX12_paste_5 rfl 1 rfl ?_
  refine kr_Si (As := [.int p1]) (st := []) zs_X12_isSlot dX12_paste_6 ml_RX12_147 (r_X12_isSlot E p1 M1) rfl rfl (Nat.le_of_ble_eq_true rfl) rfl (by decide) (Nat.le_of_ble_eq_true rfl) (fun r3 M2 => ?_)
  refine kr_if_eq (tgt := 19) dX12_paste_9 (by decide) ?_ ?_
  · refine kr_bipush (v := -2) dX12_paste_19 (by decide) ?_
    exact kr_iret dX12_paste_21 rfl
  · refine kr_iload_n dX12_paste_12 rfl 3 rfl ?_
    refine kr_Si (As := [.int p3]) (st := []) zs_X12_isSlot dX12_paste_13 ml_RX12_147 (r_X12_isSlot E p3 M2) rfl rfl (Nat.le_of_ble_eq_true rfl) rfl (by decide) (Nat.le_of_ble_eq_true rfl) (fun r5 M4 => ?_)
    refine kr_if_ne (tgt := 22) dX12_paste_16 (by decide) ?_ ?_
    · refine kr_aload_n dX12_paste_22 rfl 0 rfl ?_
      refine kr_getA (o := 1) (ci := 12) (j := 1) dX12_paste_23 kr_at_346 fl_RX12_7 rfl ?_
      refine kr_iload_n dX12_paste_26 rfl 1 rfl ?_
      refine kr_iald dX12_paste_27 kr_at_347 (fun v6 => ?_)
      refine kr_iconst (v := -1) dX12_paste_28 (by decide) ?_
      refine kr_icmp_eq (tgt := 42) dX12_paste_29 (by decide) ?_ ?_
      · refine kr_bipush (v := -6) dX12_paste_42 (by decide) ?_
        exact kr_iret dX12_paste_44 rfl
      · refine kr_aload_n dX12_paste_32 rfl 0 rfl ?_
        refine kr_getA (o := 1) (ci := 12) (j := 1) dX12_paste_33 kr_at_346 fl_RX12_7 rfl ?_
        refine kr_iload_n dX12_paste_36 rfl 3 rfl ?_
        refine kr_iald dX12_paste_37 kr_at_347 (fun v7 => ?_)
        refine kr_iconst (v := -1) dX12_paste_38 (by decide) ?_
        refine kr_icmp_ne (tgt := 45) dX12_paste_39 (by decide) ?_ ?_
        · refine kr_aload_n dX12_paste_45 rfl 0 rfl ?_
          refine kr_getA (o := 1) (ci := 12) (j := 1) dX12_paste_46 kr_at_346 fl_RX12_7 rfl ?_
          refine kr_iload_n dX12_paste_49 rfl 1 rfl ?_
          refine kr_iald dX12_paste_50 kr_at_347 (fun v8 => ?_)
          refine kr_aload_n dX12_paste_51 rfl 0 rfl ?_
          refine kr_getA (o := 1) (ci := 12) (j := 1) dX12_paste_52 kr_at_346 fl_RX12_7 rfl ?_
          refine kr_iload_n dX12_paste_55 rfl 3 rfl ?_
          refine kr_iald dX12_paste_56 kr_at_347 (fun v9 => ?_)
          refine kr_icmp_eq (tgt := 63) dX12_paste_57 (by decide) ?_ ?_
          · refine kr_iload_n dX12_paste_63 rfl 2 rfl ?_
            refine kr_if_lt (tgt := 112) dX12_paste_64 (by decide) ?_ ?_
            · refine kr_bipush (v := -7) dX12_paste_112 (by decide) ?_
              exact kr_iret dX12_paste_114 rfl
            · refine kr_iload dX12_paste_67 4 rfl ?_
              refine kr_if_lt (tgt := 112) dX12_paste_69 (by decide) ?_ ?_
              · refine kr_bipush (v := -7) dX12_paste_112 (by decide) ?_
                exact kr_iret dX12_paste_114 rfl
              · refine kr_iload dX12_paste_72 5 rfl ?_
                refine kr_if_lt (tgt := 112) dX12_paste_74 (by decide) ?_ ?_
                · refine kr_bipush (v := -7) dX12_paste_112 (by decide) ?_
                  exact kr_iret dX12_paste_114 rfl
                · refine kr_iload_n dX12_paste_77 rfl 2 rfl ?_
                  refine kr_i2l dX12_paste_78 ?_
                  refine kr_iload dX12_paste_79 5 rfl ?_
                  refine kr_i2l dX12_paste_81 ?_
                  refine kr_ladd dX12_paste_82 ?_
                  refine kr_aload_n dX12_paste_83 rfl 0 rfl ?_
                  refine kr_getA (o := 2) (ci := 12) (j := 2) dX12_paste_84 kr_at_346 fl_RX12_13 rfl ?_
                  refine kr_iload_n dX12_paste_87 rfl 1 rfl ?_
                  refine kr_iald dX12_paste_88 kr_at_348 (fun v10 => ?_)
                  refine kr_i2l dX12_paste_89 ?_
                  refine kr_lcmp dX12_paste_90 ?_
                  refine kr_if_gt (tgt := 112) dX12_paste_91 (by decide) ?_ ?_
                  · refine kr_bipush (v := -7) dX12_paste_112 (by decide) ?_
                    exact kr_iret dX12_paste_114 rfl
                  · refine kr_iload dX12_paste_94 4 rfl ?_
                    refine kr_i2l dX12_paste_96 ?_
                    refine kr_iload dX12_paste_97 5 rfl ?_
                    refine kr_i2l dX12_paste_99 ?_
                    refine kr_ladd dX12_paste_100 ?_
                    refine kr_aload_n dX12_paste_101 rfl 0 rfl ?_
                    refine kr_getA (o := 2) (ci := 12) (j := 2) dX12_paste_102 kr_at_346 fl_RX12_13 rfl ?_
                    refine kr_iload_n dX12_paste_105 rfl 3 rfl ?_
                    refine kr_iald dX12_paste_106 kr_at_348 (fun v11 => ?_)
                    refine kr_i2l dX12_paste_107 ?_
                    refine kr_lcmp dX12_paste_108 ?_
                    refine kr_if_le (tgt := 115) dX12_paste_109 (by decide) ?_ ?_
                    · refine kr_iconst (v := 0) dX12_paste_115 (by decide) ?_
                      refine kr_istore (lv' := [(6, .int (0 : Int32)), (0, kr_r E 346), (1, .int p1), (2, .int p2), (3, .int p3), (4, .int p4), (5, .int p5)]) dX12_paste_116 (by decide) rfl ?_
                      refine kr_sub [1, 2, 3, 4, 5, 6, 0] rfl ?_
                      exact r_X12_paste_118 E p1 p2 p3 p4 p5 _ (0 : Int32) M4
                    · refine kr_bipush (v := -7) dX12_paste_112 (by decide) ?_
                      exact kr_iret dX12_paste_114 rfl
          · refine kr_bipush (v := -8) dX12_paste_60 (by decide) ?_
            exact kr_iret dX12_paste_62 rfl
        · refine kr_bipush (v := -6) dX12_paste_42 (by decide) ?_
          exact kr_iret dX12_paste_44 rfl
    · refine kr_bipush (v := -2) dX12_paste_19 (by decide) ?_
      exact kr_iret dX12_paste_21 rfl
theorem dX12_four_0 : decode cX12_four 0 = .ok (.bipush 24, 2) := by decide +kernel
theorem dX12_four_2 : decode cX12_four 2 = .ok (.istore_n 2, 1) := by decide +kernel
theorem dX12_four_3 : decode cX12_four 3 = .ok (.iload_n 2, 1) := by decide +kernel
theorem dX12_four_4 : decode cX12_four 4 = .ok (.ifCond .lt 32, 3) := by decide +kernel
theorem dX12_four_7 : decode cX12_four 7 = .ok (.aload_n 0, 1) := by decide +kernel
theorem dX12_four_8 : decode cX12_four 8 = .ok (.getfield 23, 3) := by decide +kernel
theorem dX12_four_11 : decode cX12_four 11 = .ok (.aload_n 0, 1) := by decide +kernel
theorem dX12_four_12 : decode cX12_four 12 = .ok (.getfield 155, 3) := by decide +kernel
theorem dX12_four_15 : decode cX12_four 15 = .ok (.iload_n 1, 1) := by decide +kernel
theorem dX12_four_16 : decode cX12_four 16 = .ok (.iload_n 2, 1) := by decide +kernel
theorem dX12_four_17 : decode cX12_four 17 = .ok (.ishr, 1) := by decide +kernel
theorem dX12_four_18 : decode cX12_four 18 = .ok (.i2b, 1) := by decide +kernel
theorem dX12_four_19 : decode cX12_four 19 = .ok (.bastore, 1) := by decide +kernel
theorem dX12_four_20 : decode cX12_four 20 = .ok (.aload_n 0, 1) := by decide +kernel
theorem dX12_four_21 : decode cX12_four 21 = .ok (.dup, 1) := by decide +kernel
theorem dX12_four_22 : decode cX12_four 22 = .ok (.getfield 155, 3) := by decide +kernel
theorem dX12_four_25 : decode cX12_four 25 = .ok (.iconst 1, 1) := by decide +kernel
theorem dX12_four_26 : decode cX12_four 26 = .ok (.iadd, 1) := by decide +kernel
theorem dX12_four_27 : decode cX12_four 27 = .ok (.putfield 155, 3) := by decide +kernel
theorem dX12_four_30 : decode cX12_four 30 = .ok (.iinc 2 (-8), 3) := by decide +kernel
theorem dX12_four_33 : decode cX12_four 33 = .ok (.goto (-30), 3) := by decide +kernel
theorem dX12_four_36 : decode cX12_four 36 = .ok (.return_, 1) := by decide +kernel
theorem r_X12_four_3 (E : kr_E)  (l1 : Int32)  : ∀ (n : Nat) (l2 : Int32) (M : kr_M), kR kr_vv E Y_X12_four 1 3 [(0, kr_r E 346), (1, .int l1), (2, .int l2)] [] M (f_X12_four_3 l1 n l2 M) := by
  intro n
  induction n with
  | zero => intro l2 M; exact kr_none
  | succ n ih =>
    intro l2 M
    rw [f_X12_four_3]
    refine kr_iload_n dX12_four_3 rfl 2 rfl ?_
    refine kr_if_lt (tgt := 36) dX12_four_4 (by decide) ?_ ?_
    · exact kr_vret dX12_four_36 rfl
    · refine kr_aload_n dX12_four_7 rfl 0 rfl ?_
      refine kr_getA (o := 5) (ci := 12) (j := 5) dX12_four_8 kr_at_346 fl_RX12_23 rfl ?_
      refine kr_aload_n dX12_four_11 rfl 0 rfl ?_
      refine kr_getI (ci := 12) (j := 6) dX12_four_12 kr_at_346 fl_RX12_155 rfl (fun v1 => ?_)
      refine kr_iload_n dX12_four_15 rfl 1 rfl ?_
      refine kr_iload_n dX12_four_16 rfl 2 rfl ?_
      refine kr_ishr dX12_four_17 ?_
      refine kr_i2b dX12_four_18 ?_
      refine kr_bast dX12_four_19 kr_at_351 (fun M2 => ?_)
      refine kr_aload_n dX12_four_20 rfl 0 rfl ?_
      refine kr_dup dX12_four_21 rfl ?_
      refine kr_getI (ci := 12) (j := 6) dX12_four_22 kr_at_346 fl_RX12_155 rfl (fun v3 => ?_)
      refine kr_iconst (v := 1) dX12_four_25 (by decide) ?_
      refine kr_iadd dX12_four_26 ?_
      refine kr_putI (ci := 12) (j := 6) dX12_four_27 kr_at_346 fl_RX12_155 rfl rfl (fun M4 => ?_)
      refine kr_iinc (j := 2) (v := (l2 + (-8 : Int32))) (lv' := [(2, .int (l2 + (-8 : Int32))), (0, kr_r E 346), (1, .int l1)]) dX12_four_30 rfl rfl (by decide) rfl ?_
      refine kr_goto (tgt := 3) dX12_four_33 (by decide) ?_
      refine kr_sub [1, 2, 0] rfl ?_
      exact ih (l2 + (-8 : Int32)) M4
theorem r_X12_four (E : kr_E) (p1 : Int32) (M : kr_M) : kR kr_vv E Y_X12_four 1 0 [(0, kr_r E 346), (1, .int p1)] [] M (f_X12_four p1 M) := by
  rw [f_X12_four]
  refine kr_bipush (v := 24) dX12_four_0 (by decide) ?_
  refine kr_istore_n (lv' := [(2, .int (24 : Int32)), (0, kr_r E 346), (1, .int p1)]) dX12_four_2 rfl (by decide) rfl ?_
  refine kr_sub [1, 2, 0] rfl ?_
  exact r_X12_four_3 E p1 _ (24 : Int32) M
theorem dX12_feed_0 : decode cX12_feed 0 = .ok (.aload_n 0, 1) := by decide +kernel
theorem dX12_feed_1 : decode cX12_feed 1 = .ok (.iconst 0, 1) := by decide +kernel
theorem dX12_feed_2 : decode cX12_feed 2 = .ok (.putfield 138, 3) := by decide +kernel
theorem dX12_feed_5 : decode cX12_feed 5 = .ok (.aload_n 0, 1) := by decide +kernel
theorem dX12_feed_6 : decode cX12_feed 6 = .ok (.getfield 155, 3) := by decide +kernel
theorem dX12_feed_9 : decode cX12_feed 9 = .ok (.bipush 20, 2) := by decide +kernel
theorem dX12_feed_11 : decode cX12_feed 11 = .ok (.iadd, 1) := by decide +kernel
theorem dX12_feed_12 : decode cX12_feed 12 = .ok (.sipush 1400, 3) := by decide +kernel
theorem dX12_feed_15 : decode cX12_feed 15 = .ok (.if_icmp .le 5, 3) := by decide +kernel
theorem dX12_feed_18 : decode cX12_feed 18 = .ok (.iconst (-1), 1) := by decide +kernel
theorem dX12_feed_19 : decode cX12_feed 19 = .ok (.ireturn, 1) := by decide +kernel
theorem dX12_feed_20 : decode cX12_feed 20 = .ok (.aload_n 0, 1) := by decide +kernel
theorem dX12_feed_21 : decode cX12_feed 21 = .ok (.iload_n 1, 1) := by decide +kernel
theorem dX12_feed_22 : decode cX12_feed 22 = .ok (.invokevirtual 158, 3) := by decide +kernel
theorem dX12_feed_25 : decode cX12_feed 25 = .ok (.aload_n 0, 1) := by decide +kernel
theorem dX12_feed_26 : decode cX12_feed 26 = .ok (.iload_n 2, 1) := by decide +kernel
theorem dX12_feed_27 : decode cX12_feed 27 = .ok (.invokevirtual 158, 3) := by decide +kernel
theorem dX12_feed_30 : decode cX12_feed 30 = .ok (.aload_n 0, 1) := by decide +kernel
theorem dX12_feed_31 : decode cX12_feed 31 = .ok (.iload_n 3, 1) := by decide +kernel
theorem dX12_feed_32 : decode cX12_feed 32 = .ok (.invokevirtual 158, 3) := by decide +kernel
theorem dX12_feed_35 : decode cX12_feed 35 = .ok (.aload_n 0, 1) := by decide +kernel
theorem dX12_feed_36 : decode cX12_feed 36 = .ok (.iload 4, 2) := by decide +kernel
theorem dX12_feed_38 : decode cX12_feed 38 = .ok (.invokevirtual 158, 3) := by decide +kernel
theorem dX12_feed_41 : decode cX12_feed 41 = .ok (.aload_n 0, 1) := by decide +kernel
theorem dX12_feed_42 : decode cX12_feed 42 = .ok (.iload 5, 2) := by decide +kernel
theorem dX12_feed_44 : decode cX12_feed 44 = .ok (.invokevirtual 158, 3) := by decide +kernel
theorem dX12_feed_47 : decode cX12_feed 47 = .ok (.aload_n 0, 1) := by decide +kernel
theorem dX12_feed_48 : decode cX12_feed 48 = .ok (.getfield 155, 3) := by decide +kernel
theorem dX12_feed_51 : decode cX12_feed 51 = .ok (.ireturn, 1) := by decide +kernel
theorem r_X12_feed (E : kr_E) (p1 : Int32) (p2 : Int32) (p3 : Int32) (p4 : Int32) (p5 : Int32) (M : kr_M) : kR kr_vi E Y_X12_feed 2 0 [(0, kr_r E 346), (1, .int p1), (2, .int p2), (3, .int p3), (4, .int p4), (5, .int p5)] [] M (f_X12_feed p1 p2 p3 p4 p5 M) := by
  rw [f_X12_feed]
  refine kr_aload_n dX12_feed_0 rfl 0 rfl ?_
  refine kr_iconst (v := 0) dX12_feed_1 (by decide) ?_
  refine kr_putI (ci := 12) (j := 0) dX12_feed_2 kr_at_346 fl_RX12_138 rfl rfl (fun M1 => ?_)
  refine kr_aload_n dX12_feed_5 rfl 0 rfl ?_
  refine kr_getI (ci := 12) (j := 6) dX12_feed_6 kr_at_346 fl_RX12_155 rfl (fun v2 => ?_)
  refine kr_bipush (v := 20) dX12_feed_9 (by decide) ?_
  refine kr_iadd dX12_feed_11 ?_
  refine kr_sipush (v := 1400) dX12_feed_12 (by decide) ?_
  refine kr_icmp_le (tgt := 20) dX12_feed_15 (by decide) ?_ ?_
  · refine kr_aload_n dX12_feed_20 rfl 0 rfl ?_
    refine kr_iload_n dX12_feed_21 rfl 1 rfl ?_
    refine kr_Vv (As := [.int p1]) (st := []) zv_X12_four dX12_feed_22 ml_RX12_158 kr_at_346 (r_X12_four E p1 M1) rfl rfl (Nat.le_of_ble_eq_true rfl) rfl (by decide) (Nat.le_of_ble_eq_true rfl) (fun M3 => ?_)
    refine kr_aload_n dX12_feed_25 rfl 0 rfl ?_
    refine kr_iload_n dX12_feed_26 rfl 2 rfl ?_
    refine kr_Vv (As := [.int p2]) (st := []) zv_X12_four dX12_feed_27 ml_RX12_158 kr_at_346 (r_X12_four E p2 M3) rfl rfl (Nat.le_of_ble_eq_true rfl) rfl (by decide) (Nat.le_of_ble_eq_true rfl) (fun M5 => ?_)
    refine kr_aload_n dX12_feed_30 rfl 0 rfl ?_
    refine kr_iload_n dX12_feed_31 rfl 3 rfl ?_
    refine kr_Vv (As := [.int p3]) (st := []) zv_X12_four dX12_feed_32 ml_RX12_158 kr_at_346 (r_X12_four E p3 M5) rfl rfl (Nat.le_of_ble_eq_true rfl) rfl (by decide) (Nat.le_of_ble_eq_true rfl) (fun M7 => ?_)
    refine kr_aload_n dX12_feed_35 rfl 0 rfl ?_
    refine kr_iload dX12_feed_36 4 rfl ?_
    refine kr_Vv (As := [.int p4]) (st := []) zv_X12_four dX12_feed_38 ml_RX12_158 kr_at_346 (r_X12_four E p4 M7) rfl rfl (Nat.le_of_ble_eq_true rfl) rfl (by decide) (Nat.le_of_ble_eq_true rfl) (fun M9 => ?_)
    refine kr_aload_n dX12_feed_41 rfl 0 rfl ?_
    refine kr_iload dX12_feed_42 5 rfl ?_
    refine kr_Vv (As := [.int p5]) (st := []) zv_X12_four dX12_feed_44 ml_RX12_158 kr_at_346 (r_X12_four E p5 M9) rfl rfl (Nat.le_of_ble_eq_true rfl) rfl (by decide) (Nat.le_of_ble_eq_true rfl) (fun M11 => ?_)
    refine kr_aload_n dX12_feed_47 rfl 0 rfl ?_
    refine kr_getI (ci := 12) (j := 6) dX12_feed_48 kr_at_346 fl_RX12_155 rfl (fun v13 => ?_)
    exact kr_iret dX12_feed_51 rfl
  · refine kr_iconst (v := -1) dX12_feed_18 (by decide) ?_
    exact kr_iret dX12_feed_19 rfl
theorem dX12_end_0 : decode cX12_end 0 = .ok (.aload_n 0, 1) := by decide +kernel
theorem dX12_end_1 : decode cX12_end 1 = .ok (.iconst 0, 1) := by decide +kernel
theorem dX12_end_2 : decode cX12_end 2 = .ok (.putfield 138, 3) := by decide +kernel
theorem dX12_end_5 : decode cX12_end 5 = .ok (.iload_n 1, 1) := by decide +kernel
theorem dX12_end_6 : decode cX12_end 6 = .ok (.i2l, 1) := by decide +kernel
theorem dX12_end_7 : decode cX12_end 7 = .ok (.lconst 0, 1) := by decide +kernel
theorem dX12_end_8 : decode cX12_end 8 = .ok (.aload_n 0, 1) := by decide +kernel
theorem dX12_end_9 : decode cX12_end 9 = .ok (.getfield 155, 3) := by decide +kernel
theorem dX12_end_12 : decode cX12_end 12 = .ok (.i2l, 1) := by decide +kernel
theorem dX12_end_13 : decode cX12_end 13 = .ok (.invokestatic 143, 3) := by decide +kernel
theorem dX12_end_16 : decode cX12_end 16 = .ok (.ifCond .ne 5, 3) := by decide +kernel
theorem dX12_end_19 : decode cX12_end 19 = .ok (.iconst (-1), 1) := by decide +kernel
theorem dX12_end_20 : decode cX12_end 20 = .ok (.ireturn, 1) := by decide +kernel
theorem dX12_end_21 : decode cX12_end 21 = .ok (.aload_n 0, 1) := by decide +kernel
theorem dX12_end_22 : decode cX12_end 22 = .ok (.iload_n 1, 1) := by decide +kernel
theorem dX12_end_23 : decode cX12_end 23 = .ok (.putfield 155, 3) := by decide +kernel
theorem dX12_end_26 : decode cX12_end 26 = .ok (.iload_n 1, 1) := by decide +kernel
theorem dX12_end_27 : decode cX12_end 27 = .ok (.ireturn, 1) := by decide +kernel
theorem r_X12_end (E : kr_E) (p1 : Int32) (M : kr_M) : kR kr_vi E Y_X12_end 2 0 [(0, kr_r E 346), (1, .int p1)] [] M (f_X12_end p1 M) := by
  rw [f_X12_end]
  refine kr_aload_n dX12_end_0 rfl 0 rfl ?_
  refine kr_iconst (v := 0) dX12_end_1 (by decide) ?_
  refine kr_putI (ci := 12) (j := 0) dX12_end_2 kr_at_346 fl_RX12_138 rfl rfl (fun M1 => ?_)
  refine kr_iload_n dX12_end_5 rfl 1 rfl ?_
  refine kr_i2l dX12_end_6 ?_
  refine kr_lconst (v := 0) dX12_end_7 (by decide) ?_
  refine kr_aload_n dX12_end_8 rfl 0 rfl ?_
  refine kr_getI (ci := 12) (j := 6) dX12_end_9 kr_at_346 fl_RX12_155 rfl (fun v2 => ?_)
  refine kr_i2l dX12_end_12 ?_
  refine kr_Si (As := [.long (p1.toInt64), .long (0 : Int64), .long (v2.toInt64)]) (st := []) zs_X12_in dX12_end_13 ml_RX12_143 (r_X12_in E (p1.toInt64) (0 : Int64) (v2.toInt64) M1) rfl rfl (Nat.le_of_ble_eq_true rfl) rfl (by decide) (Nat.le_of_ble_eq_true rfl) (fun r4 M3 => ?_)
  refine kr_if_ne (tgt := 21) dX12_end_16 (by decide) ?_ ?_
  · refine kr_aload_n dX12_end_21 rfl 0 rfl ?_
    refine kr_iload_n dX12_end_22 rfl 1 rfl ?_
    refine kr_putI (ci := 12) (j := 6) dX12_end_23 kr_at_346 fl_RX12_155 rfl rfl (fun M5 => ?_)
    refine kr_iload_n dX12_end_26 rfl 1 rfl ?_
    exact kr_iret dX12_end_27 rfl
  · refine kr_iconst (v := -1) dX12_end_19 (by decide) ?_
    exact kr_iret dX12_end_20 rfl
theorem dX12_isByte_0 : decode cX12_isByte 0 = .ok (.iload_n 1, 1) := by decide +kernel
theorem dX12_isByte_1 : decode cX12_isByte 1 = .ok (.aload_n 0, 1) := by decide +kernel
theorem dX12_isByte_2 : decode cX12_isByte 2 = .ok (.getfield 155, 3) := by decide +kernel
theorem dX12_isByte_5 : decode cX12_isByte 5 = .ok (.if_icmp .ge 27, 3) := by decide +kernel
theorem dX12_isByte_8 : decode cX12_isByte 8 = .ok (.aload_n 0, 1) := by decide +kernel
theorem dX12_isByte_9 : decode cX12_isByte 9 = .ok (.getfield 23, 3) := by decide +kernel
theorem dX12_isByte_12 : decode cX12_isByte 12 = .ok (.iload_n 1, 1) := by decide +kernel
theorem dX12_isByte_13 : decode cX12_isByte 13 = .ok (.baload, 1) := by decide +kernel
theorem dX12_isByte_14 : decode cX12_isByte 14 = .ok (.iload_n 2, 1) := by decide +kernel
theorem dX12_isByte_15 : decode cX12_isByte 15 = .ok (.if_icmp .lt 17, 3) := by decide +kernel
theorem dX12_isByte_18 : decode cX12_isByte 18 = .ok (.aload_n 0, 1) := by decide +kernel
theorem dX12_isByte_19 : decode cX12_isByte 19 = .ok (.getfield 23, 3) := by decide +kernel
theorem dX12_isByte_22 : decode cX12_isByte 22 = .ok (.iload_n 1, 1) := by decide +kernel
theorem dX12_isByte_23 : decode cX12_isByte 23 = .ok (.baload, 1) := by decide +kernel
theorem dX12_isByte_24 : decode cX12_isByte 24 = .ok (.iload_n 3, 1) := by decide +kernel
theorem dX12_isByte_25 : decode cX12_isByte 25 = .ok (.if_icmp .gt 7, 3) := by decide +kernel
theorem dX12_isByte_28 : decode cX12_isByte 28 = .ok (.iconst 1, 1) := by decide +kernel
theorem dX12_isByte_29 : decode cX12_isByte 29 = .ok (.goto 4, 3) := by decide +kernel
theorem dX12_isByte_32 : decode cX12_isByte 32 = .ok (.iconst 0, 1) := by decide +kernel
theorem dX12_isByte_33 : decode cX12_isByte 33 = .ok (.ireturn, 1) := by decide +kernel
theorem r_X12_isByte (E : kr_E) (p1 : Int32) (p2 : Int32) (p3 : Int32) (M : kr_M) : kR kr_vi E Y_X12_isByte 1 0 [(0, kr_r E 346), (1, .int p1), (2, .int p2), (3, .int p3)] [] M (f_X12_isByte p1 p2 p3 M) := by
  rw [f_X12_isByte]
  refine kr_iload_n dX12_isByte_0 rfl 1 rfl ?_
  refine kr_aload_n dX12_isByte_1 rfl 0 rfl ?_
  refine kr_getI (ci := 12) (j := 6) dX12_isByte_2 kr_at_346 fl_RX12_155 rfl (fun v1 => ?_)
  refine kr_icmp_ge (tgt := 32) dX12_isByte_5 (by decide) ?_ ?_
  · refine kr_iconst (v := 0) dX12_isByte_32 (by decide) ?_
    exact kr_zret1 dX12_isByte_33 rfl rfl
  · refine kr_aload_n dX12_isByte_8 rfl 0 rfl ?_
    refine kr_getA (o := 5) (ci := 12) (j := 5) dX12_isByte_9 kr_at_346 fl_RX12_23 rfl ?_
    refine kr_iload_n dX12_isByte_12 rfl 1 rfl ?_
    refine kr_bald dX12_isByte_13 kr_at_351 (fun v2 => ?_)
    refine kr_iload_n dX12_isByte_14 rfl 2 rfl ?_
    refine kr_icmp_lt (tgt := 32) dX12_isByte_15 (by decide) ?_ ?_
    · refine kr_iconst (v := 0) dX12_isByte_32 (by decide) ?_
      exact kr_zret1 dX12_isByte_33 rfl rfl
    · refine kr_aload_n dX12_isByte_18 rfl 0 rfl ?_
      refine kr_getA (o := 5) (ci := 12) (j := 5) dX12_isByte_19 kr_at_346 fl_RX12_23 rfl ?_
      refine kr_iload_n dX12_isByte_22 rfl 1 rfl ?_
      refine kr_bald dX12_isByte_23 kr_at_351 (fun v3 => ?_)
      refine kr_iload_n dX12_isByte_24 rfl 3 rfl ?_
      refine kr_icmp_gt (tgt := 32) dX12_isByte_25 (by decide) ?_ ?_
      · refine kr_iconst (v := 0) dX12_isByte_32 (by decide) ?_
        exact kr_zret1 dX12_isByte_33 rfl rfl
      · refine kr_iconst (v := 1) dX12_isByte_28 (by decide) ?_
        refine kr_goto (tgt := 33) dX12_isByte_29 (by decide) ?_
        exact kr_zret1 dX12_isByte_33 rfl rfl
theorem dX12_next_0 : decode cX12_next 0 = .ok (.aload_n 0, 1) := by decide +kernel
theorem dX12_next_1 : decode cX12_next 1 = .ok (.aload_n 0, 1) := by decide +kernel
theorem dX12_next_2 : decode cX12_next 2 = .ok (.getfield 162, 3) := by decide +kernel
theorem dX12_next_5 : decode cX12_next 5 = .ok (.bipush 32, 2) := by decide +kernel
theorem dX12_next_7 : decode cX12_next 7 = .ok (.bipush 32, 2) := by decide +kernel
theorem dX12_next_9 : decode cX12_next 9 = .ok (.invokevirtual 165, 3) := by decide +kernel
theorem dX12_next_12 : decode cX12_next 12 = .ok (.ifCond .ne 18, 3) := by decide +kernel
theorem dX12_next_15 : decode cX12_next 15 = .ok (.aload_n 0, 1) := by decide +kernel
theorem dX12_next_16 : decode cX12_next 16 = .ok (.aload_n 0, 1) := by decide +kernel
theorem dX12_next_17 : decode cX12_next 17 = .ok (.getfield 162, 3) := by decide +kernel
theorem dX12_next_20 : decode cX12_next 20 = .ok (.bipush 10, 2) := by decide +kernel
theorem dX12_next_22 : decode cX12_next 22 = .ok (.bipush 10, 2) := by decide +kernel
theorem dX12_next_24 : decode cX12_next 24 = .ok (.invokevirtual 165, 3) := by decide +kernel
theorem dX12_next_27 : decode cX12_next 27 = .ok (.ifCond .eq 16, 3) := by decide +kernel
theorem dX12_next_30 : decode cX12_next 30 = .ok (.aload_n 0, 1) := by decide +kernel
theorem dX12_next_31 : decode cX12_next 31 = .ok (.dup, 1) := by decide +kernel
theorem dX12_next_32 : decode cX12_next 32 = .ok (.getfield 162, 3) := by decide +kernel
theorem dX12_next_35 : decode cX12_next 35 = .ok (.iconst 1, 1) := by decide +kernel
theorem dX12_next_36 : decode cX12_next 36 = .ok (.iadd, 1) := by decide +kernel
theorem dX12_next_37 : decode cX12_next 37 = .ok (.putfield 162, 3) := by decide +kernel
theorem dX12_next_40 : decode cX12_next 40 = .ok (.goto (-40), 3) := by decide +kernel
theorem dX12_next_43 : decode cX12_next 43 = .ok (.aload_n 0, 1) := by decide +kernel
theorem dX12_next_44 : decode cX12_next 44 = .ok (.aload_n 0, 1) := by decide +kernel
theorem dX12_next_45 : decode cX12_next 45 = .ok (.getfield 162, 3) := by decide +kernel
theorem dX12_next_48 : decode cX12_next 48 = .ok (.putfield 169, 3) := by decide +kernel
theorem dX12_next_51 : decode cX12_next 51 = .ok (.aload_n 0, 1) := by decide +kernel
theorem dX12_next_52 : decode cX12_next 52 = .ok (.iconst 0, 1) := by decide +kernel
theorem dX12_next_53 : decode cX12_next 53 = .ok (.putfield 172, 3) := by decide +kernel
theorem dX12_next_56 : decode cX12_next 56 = .ok (.aload_n 0, 1) := by decide +kernel
theorem dX12_next_57 : decode cX12_next 57 = .ok (.lconst 0, 1) := by decide +kernel
theorem dX12_next_58 : decode cX12_next 58 = .ok (.putfield 175, 3) := by decide +kernel
theorem dX12_next_61 : decode cX12_next 61 = .ok (.aload_n 0, 1) := by decide +kernel
theorem dX12_next_62 : decode cX12_next 62 = .ok (.getfield 162, 3) := by decide +kernel
theorem dX12_next_65 : decode cX12_next 65 = .ok (.aload_n 0, 1) := by decide +kernel
theorem dX12_next_66 : decode cX12_next 66 = .ok (.getfield 155, 3) := by decide +kernel
theorem dX12_next_69 : decode cX12_next 69 = .ok (.if_icmp .ne 11, 3) := by decide +kernel
theorem dX12_next_72 : decode cX12_next 72 = .ok (.aload_n 0, 1) := by decide +kernel
theorem dX12_next_73 : decode cX12_next 73 = .ok (.iconst 0, 1) := by decide +kernel
theorem dX12_next_74 : decode cX12_next 74 = .ok (.putfield 179, 3) := by decide +kernel
theorem dX12_next_77 : decode cX12_next 77 = .ok (.goto 230, 3) := by decide +kernel
theorem dX12_next_80 : decode cX12_next 80 = .ok (.aload_n 0, 1) := by decide +kernel
theorem dX12_next_81 : decode cX12_next 81 = .ok (.aload_n 0, 1) := by decide +kernel
theorem dX12_next_82 : decode cX12_next 82 = .ok (.getfield 162, 3) := by decide +kernel
theorem dX12_next_85 : decode cX12_next 85 = .ok (.bipush 97, 2) := by decide +kernel
theorem dX12_next_87 : decode cX12_next 87 = .ok (.bipush 122, 2) := by decide +kernel
theorem dX12_next_89 : decode cX12_next 89 = .ok (.invokevirtual 165, 3) := by decide +kernel
theorem dX12_next_92 : decode cX12_next 92 = .ok (.ifCond .eq 96, 3) := by decide +kernel
theorem dX12_next_95 : decode cX12_next 95 = .ok (.aload_n 0, 1) := by decide +kernel
theorem dX12_next_96 : decode cX12_next 96 = .ok (.iconst 1, 1) := by decide +kernel
theorem dX12_next_97 : decode cX12_next 97 = .ok (.putfield 179, 3) := by decide +kernel
theorem dX12_next_100 : decode cX12_next 100 = .ok (.iconst 0, 1) := by decide +kernel
theorem dX12_next_101 : decode cX12_next 101 = .ok (.istore_n 1, 1) := by decide +kernel
theorem dX12_next_102 : decode cX12_next 102 = .ok (.aload_n 0, 1) := by decide +kernel
theorem dX12_next_103 : decode cX12_next 103 = .ok (.aload_n 0, 1) := by decide +kernel
theorem dX12_next_104 : decode cX12_next 104 = .ok (.getfield 162, 3) := by decide +kernel
theorem dX12_next_107 : decode cX12_next 107 = .ok (.bipush 97, 2) := by decide +kernel
theorem dX12_next_109 : decode cX12_next 109 = .ok (.bipush 122, 2) := by decide +kernel
theorem dX12_next_111 : decode cX12_next 111 = .ok (.invokevirtual 165, 3) := by decide +kernel
theorem dX12_next_114 : decode cX12_next 114 = .ok (.ifCond .eq 71, 3) := by decide +kernel
theorem dX12_next_117 : decode cX12_next 117 = .ok (.aload_n 0, 1) := by decide +kernel
theorem dX12_next_118 : decode cX12_next 118 = .ok (.iload_n 1, 1) := by decide +kernel
theorem dX12_next_119 : decode cX12_next 119 = .ok (.bipush 11, 2) := by decide +kernel
theorem dX12_next_121 : decode cX12_next 121 = .ok (.if_icmp .le 9, 3) := by decide +kernel
theorem dX12_next_124 : decode cX12_next 124 = .ok (.ldc2_w 182, 3) := by decide +kernel
theorem dX12_next_127 : decode cX12_next 127 = .ok (.goto 26, 3) := by decide +kernel
theorem dX12_next_130 : decode cX12_next 130 = .ok (.ldc2_w 184, 3) := by decide +kernel
theorem dX12_next_133 : decode cX12_next 133 = .ok (.aload_n 0, 1) := by decide +kernel
theorem dX12_next_134 : decode cX12_next 134 = .ok (.getfield 175, 3) := by decide +kernel
theorem dX12_next_137 : decode cX12_next 137 = .ok (.lmul, 1) := by decide +kernel
theorem dX12_next_138 : decode cX12_next 138 = .ok (.aload_n 0, 1) := by decide +kernel
theorem dX12_next_139 : decode cX12_next 139 = .ok (.getfield 23, 3) := by decide +kernel
theorem dX12_next_142 : decode cX12_next 142 = .ok (.aload_n 0, 1) := by decide +kernel
theorem dX12_next_143 : decode cX12_next 143 = .ok (.getfield 162, 3) := by decide +kernel
theorem dX12_next_146 : decode cX12_next 146 = .ok (.baload, 1) := by decide +kernel
theorem dX12_next_147 : decode cX12_next 147 = .ok (.i2l, 1) := by decide +kernel
theorem dX12_next_148 : decode cX12_next 148 = .ok (.ladd, 1) := by decide +kernel
theorem dX12_next_149 : decode cX12_next 149 = .ok (.ldc2_w 186, 3) := by decide +kernel
theorem dX12_next_152 : decode cX12_next 152 = .ok (.lsub, 1) := by decide +kernel
theorem dX12_next_153 : decode cX12_next 153 = .ok (.putfield 175, 3) := by decide +kernel
theorem dX12_next_156 : decode cX12_next 156 = .ok (.iload_n 1, 1) := by decide +kernel
theorem dX12_next_157 : decode cX12_next 157 = .ok (.bipush 11, 2) := by decide +kernel
theorem dX12_next_159 : decode cX12_next 159 = .ok (.if_icmp .le 10, 3) := by decide +kernel
theorem dX12_next_162 : decode cX12_next 162 = .ok (.aload_n 0, 1) := by decide +kernel
theorem dX12_next_163 : decode cX12_next 163 = .ok (.ldc2_w 182, 3) := by decide +kernel
theorem dX12_next_166 : decode cX12_next 166 = .ok (.putfield 175, 3) := by decide +kernel
theorem dX12_next_169 : decode cX12_next 169 = .ok (.aload_n 0, 1) := by decide +kernel
theorem dX12_next_170 : decode cX12_next 170 = .ok (.dup, 1) := by decide +kernel
theorem dX12_next_171 : decode cX12_next 171 = .ok (.getfield 162, 3) := by decide +kernel
theorem dX12_next_174 : decode cX12_next 174 = .ok (.iconst 1, 1) := by decide +kernel
theorem dX12_next_175 : decode cX12_next 175 = .ok (.iadd, 1) := by decide +kernel
theorem dX12_next_176 : decode cX12_next 176 = .ok (.putfield 162, 3) := by decide +kernel
theorem dX12_next_179 : decode cX12_next 179 = .ok (.iinc 1 1, 3) := by decide +kernel
theorem dX12_next_182 : decode cX12_next 182 = .ok (.goto (-80), 3) := by decide +kernel
theorem dX12_next_185 : decode cX12_next 185 = .ok (.goto 122, 3) := by decide +kernel
theorem dX12_next_188 : decode cX12_next 188 = .ok (.aload_n 0, 1) := by decide +kernel
theorem dX12_next_189 : decode cX12_next 189 = .ok (.aload_n 0, 1) := by decide +kernel
theorem dX12_next_190 : decode cX12_next 190 = .ok (.getfield 162, 3) := by decide +kernel
theorem dX12_next_193 : decode cX12_next 193 = .ok (.bipush 48, 2) := by decide +kernel
theorem dX12_next_195 : decode cX12_next 195 = .ok (.bipush 57, 2) := by decide +kernel
theorem dX12_next_197 : decode cX12_next 197 = .ok (.invokevirtual 165, 3) := by decide +kernel
theorem dX12_next_200 : decode cX12_next 200 = .ok (.ifCond .eq 74, 3) := by decide +kernel
theorem dX12_next_203 : decode cX12_next 203 = .ok (.aload_n 0, 1) := by decide +kernel
theorem dX12_next_204 : decode cX12_next 204 = .ok (.iconst 2, 1) := by decide +kernel
theorem dX12_next_205 : decode cX12_next 205 = .ok (.putfield 179, 3) := by decide +kernel
theorem dX12_next_208 : decode cX12_next 208 = .ok (.aload_n 0, 1) := by decide +kernel
theorem dX12_next_209 : decode cX12_next 209 = .ok (.aload_n 0, 1) := by decide +kernel
theorem dX12_next_210 : decode cX12_next 210 = .ok (.getfield 162, 3) := by decide +kernel
theorem dX12_next_213 : decode cX12_next 213 = .ok (.bipush 48, 2) := by decide +kernel
theorem dX12_next_215 : decode cX12_next 215 = .ok (.bipush 57, 2) := by decide +kernel
theorem dX12_next_217 : decode cX12_next 217 = .ok (.invokevirtual 165, 3) := by decide +kernel
theorem dX12_next_220 : decode cX12_next 220 = .ok (.ifCond .eq 87, 3) := by decide +kernel
theorem dX12_next_223 : decode cX12_next 223 = .ok (.aload_n 0, 1) := by decide +kernel
theorem dX12_next_224 : decode cX12_next 224 = .ok (.aload_n 0, 1) := by decide +kernel
theorem dX12_next_225 : decode cX12_next 225 = .ok (.getfield 172, 3) := by decide +kernel
theorem dX12_next_228 : decode cX12_next 228 = .ok (.ldc 188, 2) := by decide +kernel
theorem dX12_next_230 : decode cX12_next 230 = .ok (.if_icmp .le 8, 3) := by decide +kernel
theorem dX12_next_233 : decode cX12_next 233 = .ok (.ldc 189, 2) := by decide +kernel
theorem dX12_next_235 : decode cX12_next 235 = .ok (.goto 23, 3) := by decide +kernel
theorem dX12_next_238 : decode cX12_next 238 = .ok (.bipush 10, 2) := by decide +kernel
theorem dX12_next_240 : decode cX12_next 240 = .ok (.aload_n 0, 1) := by decide +kernel
theorem dX12_next_241 : decode cX12_next 241 = .ok (.getfield 172, 3) := by decide +kernel
theorem dX12_next_244 : decode cX12_next 244 = .ok (.imul, 1) := by decide +kernel
theorem dX12_next_245 : decode cX12_next 245 = .ok (.aload_n 0, 1) := by decide +kernel
theorem dX12_next_246 : decode cX12_next 246 = .ok (.getfield 23, 3) := by decide +kernel
theorem dX12_next_249 : decode cX12_next 249 = .ok (.aload_n 0, 1) := by decide +kernel
theorem dX12_next_250 : decode cX12_next 250 = .ok (.getfield 162, 3) := by decide +kernel
theorem dX12_next_253 : decode cX12_next 253 = .ok (.baload, 1) := by decide +kernel
theorem dX12_next_254 : decode cX12_next 254 = .ok (.iadd, 1) := by decide +kernel
theorem dX12_next_255 : decode cX12_next 255 = .ok (.bipush 48, 2) := by decide +kernel
theorem dX12_next_257 : decode cX12_next 257 = .ok (.isub, 1) := by decide +kernel
theorem dX12_next_258 : decode cX12_next 258 = .ok (.putfield 172, 3) := by decide +kernel
theorem dX12_next_261 : decode cX12_next 261 = .ok (.aload_n 0, 1) := by decide +kernel
theorem dX12_next_262 : decode cX12_next 262 = .ok (.dup, 1) := by decide +kernel
theorem dX12_next_263 : decode cX12_next 263 = .ok (.getfield 162, 3) := by decide +kernel
theorem dX12_next_266 : decode cX12_next 266 = .ok (.iconst 1, 1) := by decide +kernel
theorem dX12_next_267 : decode cX12_next 267 = .ok (.iadd, 1) := by decide +kernel
theorem dX12_next_268 : decode cX12_next 268 = .ok (.putfield 162, 3) := by decide +kernel
theorem dX12_next_271 : decode cX12_next 271 = .ok (.goto (-63), 3) := by decide +kernel
theorem dX12_next_274 : decode cX12_next 274 = .ok (.aload_n 0, 1) := by decide +kernel
theorem dX12_next_275 : decode cX12_next 275 = .ok (.aload_n 0, 1) := by decide +kernel
theorem dX12_next_276 : decode cX12_next 276 = .ok (.getfield 23, 3) := by decide +kernel
theorem dX12_next_279 : decode cX12_next 279 = .ok (.aload_n 0, 1) := by decide +kernel
theorem dX12_next_280 : decode cX12_next 280 = .ok (.getfield 162, 3) := by decide +kernel
theorem dX12_next_283 : decode cX12_next 283 = .ok (.baload, 1) := by decide +kernel
theorem dX12_next_284 : decode cX12_next 284 = .ok (.bipush 59, 2) := by decide +kernel
theorem dX12_next_286 : decode cX12_next 286 = .ok (.if_icmp .ne 7, 3) := by decide +kernel
theorem dX12_next_289 : decode cX12_next 289 = .ok (.iconst 3, 1) := by decide +kernel
theorem dX12_next_290 : decode cX12_next 290 = .ok (.goto 4, 3) := by decide +kernel
theorem dX12_next_293 : decode cX12_next 293 = .ok (.iconst 4, 1) := by decide +kernel
theorem dX12_next_294 : decode cX12_next 294 = .ok (.putfield 179, 3) := by decide +kernel
theorem dX12_next_297 : decode cX12_next 297 = .ok (.aload_n 0, 1) := by decide +kernel
theorem dX12_next_298 : decode cX12_next 298 = .ok (.dup, 1) := by decide +kernel
theorem dX12_next_299 : decode cX12_next 299 = .ok (.getfield 162, 3) := by decide +kernel
theorem dX12_next_302 : decode cX12_next 302 = .ok (.iconst 1, 1) := by decide +kernel
theorem dX12_next_303 : decode cX12_next 303 = .ok (.iadd, 1) := by decide +kernel
theorem dX12_next_304 : decode cX12_next 304 = .ok (.putfield 162, 3) := by decide +kernel
theorem dX12_next_307 : decode cX12_next 307 = .ok (.return_, 1) := by decide +kernel
theorem r_X12_next_30 (E : kr_E) (k_0 : kr_M → Option kr_M)  (hk_0 : ∀  (M : kr_M), kR kr_vv E Y_X12_next 2 0 [(0, kr_r E 346)] [] M (k_0  M)) (M : kr_M) : kR kr_vv E Y_X12_next 2 30 [(0, kr_r E 346)] [] M (f_X12_next_30 k_0 M) := by
  rw [f_X12_next_30]
  refine kr_aload_n dX12_next_30 rfl 0 rfl ?_
  refine kr_dup dX12_next_31 rfl ?_
  refine kr_getI (ci := 12) (j := 7) dX12_next_32 kr_at_346 fl_RX12_162 rfl (fun v1 => ?_)
  refine kr_iconst (v := 1) dX12_next_35 (by decide) ?_
  refine kr_iadd dX12_next_36 ?_
  refine kr_putI (ci := 12) (j := 7) dX12_next_37 kr_at_346 fl_RX12_162 rfl rfl (fun M2 => ?_)
  refine kr_goto (tgt := 0) dX12_next_40 (by decide) ?_
  refine kr_sub [0] rfl ?_
  exact hk_0 M2
theorem r_X12_next_294 (E : kr_E)  (s0 : Int32)  (M : kr_M) : kR kr_vv E Y_X12_next 2 294 [(0, kr_r E 346)] [.int s0, kr_r E 346] M (f_X12_next_294 s0 M) := by
  rw [f_X12_next_294]
  refine kr_putI (ci := 12) (j := 8) dX12_next_294 kr_at_346 fl_RX12_179 rfl rfl (fun M1 => ?_)
  refine kr_aload_n dX12_next_297 rfl 0 rfl ?_
  refine kr_dup dX12_next_298 rfl ?_
  refine kr_getI (ci := 12) (j := 7) dX12_next_299 kr_at_346 fl_RX12_162 rfl (fun v2 => ?_)
  refine kr_iconst (v := 1) dX12_next_302 (by decide) ?_
  refine kr_iadd dX12_next_303 ?_
  refine kr_putI (ci := 12) (j := 7) dX12_next_304 kr_at_346 fl_RX12_162 rfl rfl (fun M3 => ?_)
  exact kr_vret dX12_next_307 rfl
theorem r_X12_next_258 (E : kr_E) (k_208 : kr_M → Option kr_M) (s0 : Int32) (hk_208 : ∀  (M : kr_M), kR kr_vv E Y_X12_next 2 208 [(0, kr_r E 346)] [] M (k_208  M)) (M : kr_M) : kR kr_vv E Y_X12_next 2 258 [(0, kr_r E 346)] [.int s0, kr_r E 346] M (f_X12_next_258 k_208 s0 M) := by
  rw [f_X12_next_258]
  refine kr_putI (ci := 12) (j := 10) dX12_next_258 kr_at_346 fl_RX12_172 rfl rfl (fun M1 => ?_)
  refine kr_aload_n dX12_next_261 rfl 0 rfl ?_
  refine kr_dup dX12_next_262 rfl ?_
  refine kr_getI (ci := 12) (j := 7) dX12_next_263 kr_at_346 fl_RX12_162 rfl (fun v2 => ?_)
  refine kr_iconst (v := 1) dX12_next_266 (by decide) ?_
  refine kr_iadd dX12_next_267 ?_
  refine kr_putI (ci := 12) (j := 7) dX12_next_268 kr_at_346 fl_RX12_162 rfl rfl (fun M3 => ?_)
  refine kr_goto (tgt := 208) dX12_next_271 (by decide) ?_
  refine kr_sub [0] rfl ?_
  exact hk_208 M3
theorem r_X12_next_208 (E : kr_E)    : ∀ (n : Nat)  (M : kr_M), kR kr_vv E Y_X12_next 2 208 [(0, kr_r E 346)] [] M (f_X12_next_208 n M) := by
  intro n
  induction n with
  | zero => intro  M; exact kr_none
  | succ n ih =>
    intro  M
    rw [f_X12_next_208]
    refine kr_aload_n dX12_next_208 rfl 0 rfl ?_
    refine kr_aload_n dX12_next_209 rfl 0 rfl ?_
    refine kr_getI (ci := 12) (j := 7) dX12_next_210 kr_at_346 fl_RX12_162 rfl (fun v1 => ?_)
    refine kr_bipush (v := 48) dX12_next_213 (by decide) ?_
    refine kr_bipush (v := 57) dX12_next_215 (by decide) ?_
    refine kr_Vi (As := [.int v1, .int (48 : Int32), .int (57 : Int32)]) (st := []) zv_X12_isByte dX12_next_217 ml_RX12_165 kr_at_346 (r_X12_isByte E v1 (48 : Int32) (57 : Int32) M) rfl rfl (Nat.le_of_ble_eq_true rfl) rfl (by decide) (Nat.le_of_ble_eq_true rfl) (fun r3 M2 => ?_)
    refine kr_if_eq (tgt := 307) dX12_next_220 (by decide) ?_ ?_
    · exact kr_vret dX12_next_307 rfl
    · refine kr_aload_n dX12_next_223 rfl 0 rfl ?_
      refine kr_aload_n dX12_next_224 rfl 0 rfl ?_
      refine kr_getI (ci := 12) (j := 10) dX12_next_225 kr_at_346 fl_RX12_172 rfl (fun v4 => ?_)
      refine kr_ldc dX12_next_228 kc_RX12_188 ?_
      refine kr_icmp_le (tgt := 238) dX12_next_230 (by decide) ?_ ?_
      · refine kr_bipush (v := 10) dX12_next_238 (by decide) ?_
        refine kr_aload_n dX12_next_240 rfl 0 rfl ?_
        refine kr_getI (ci := 12) (j := 10) dX12_next_241 kr_at_346 fl_RX12_172 rfl (fun v5 => ?_)
        refine kr_imul dX12_next_244 ?_
        refine kr_aload_n dX12_next_245 rfl 0 rfl ?_
        refine kr_getA (o := 5) (ci := 12) (j := 5) dX12_next_246 kr_at_346 fl_RX12_23 rfl ?_
        refine kr_aload_n dX12_next_249 rfl 0 rfl ?_
        refine kr_getI (ci := 12) (j := 7) dX12_next_250 kr_at_346 fl_RX12_162 rfl (fun v6 => ?_)
        refine kr_bald dX12_next_253 kr_at_351 (fun v7 => ?_)
        refine kr_iadd dX12_next_254 ?_
        refine kr_bipush (v := 48) dX12_next_255 (by decide) ?_
        refine kr_isub dX12_next_257 ?_
        refine kr_sub [0] rfl ?_
        exact r_X12_next_258 E _ ((((10 : Int32) * v5) + v7) - (48 : Int32)) ih M2
      · refine kr_ldc dX12_next_233 kc_RX12_189 ?_
        refine kr_goto (tgt := 258) dX12_next_235 (by decide) ?_
        refine kr_sub [0] rfl ?_
        exact r_X12_next_258 E _ (1000000 : Int32) ih M2
theorem r_X12_next_185 (E : kr_E)    (M : kr_M) : kR kr_vv E Y_X12_next 2 185 [] [] M (f_X12_next_185 M) := by
  rw [f_X12_next_185]
  refine kr_goto (tgt := 307) dX12_next_185 (by decide) ?_
  exact kr_vret dX12_next_307 rfl
theorem r_X12_next_169 (E : kr_E) (k_102 : Int32 → kr_M → Option kr_M) (l1 : Int32) (hk_102 : ∀ (x1 : Int32) (M : kr_M), kR kr_vv E Y_X12_next 2 102 [(0, kr_r E 346), (1, .int x1)] [] M (k_102 x1 M)) (M : kr_M) : kR kr_vv E Y_X12_next 2 169 [(0, kr_r E 346), (1, .int l1)] [] M (f_X12_next_169 k_102 l1 M) := by
  rw [f_X12_next_169]
  refine kr_aload_n dX12_next_169 rfl 0 rfl ?_
  refine kr_dup dX12_next_170 rfl ?_
  refine kr_getI (ci := 12) (j := 7) dX12_next_171 kr_at_346 fl_RX12_162 rfl (fun v1 => ?_)
  refine kr_iconst (v := 1) dX12_next_174 (by decide) ?_
  refine kr_iadd dX12_next_175 ?_
  refine kr_putI (ci := 12) (j := 7) dX12_next_176 kr_at_346 fl_RX12_162 rfl rfl (fun M2 => ?_)
  refine kr_iinc (j := 1) (v := (l1 + (1 : Int32))) (lv' := [(1, .int (l1 + (1 : Int32))), (0, kr_r E 346)]) dX12_next_179 rfl rfl (by decide) rfl ?_
  refine kr_goto (tgt := 102) dX12_next_182 (by decide) ?_
  refine kr_sub [1, 0] rfl ?_
  exact hk_102 (l1 + (1 : Int32)) M2
theorem r_X12_next_153 (E : kr_E) (k_102 : Int32 → kr_M → Option kr_M) (l1 : Int32) (s0 : Int64) (hk_102 : ∀ (x1 : Int32) (M : kr_M), kR kr_vv E Y_X12_next 2 102 [(0, kr_r E 346), (1, .int x1)] [] M (k_102 x1 M)) (M : kr_M) : kR kr_vv E Y_X12_next 2 153 [(0, kr_r E 346), (1, .int l1)] [.long s0, kr_r E 346] M (f_X12_next_153 k_102 l1 s0 M) := by
  rw [f_X12_next_153]
  refine kr_putJ (ci := 12) (j := 11) dX12_next_153 kr_at_346 fl_RX12_175 rfl rfl (fun M1 => ?_)
  refine kr_iload_n dX12_next_156 rfl 1 rfl ?_
  refine kr_bipush (v := 11) dX12_next_157 (by decide) ?_
  refine kr_icmp_le (tgt := 169) dX12_next_159 (by decide) ?_ ?_
  · refine kr_sub [0, 1] rfl ?_
    exact r_X12_next_169 E _ l1 hk_102 M1
  · refine kr_aload_n dX12_next_162 rfl 0 rfl ?_
    refine kr_ldc2 dX12_next_163 kl_RX12_182 ?_
    refine kr_putJ (ci := 12) (j := 11) dX12_next_166 kr_at_346 fl_RX12_175 rfl rfl (fun M2 => ?_)
    refine kr_sub [0, 1] rfl ?_
    exact r_X12_next_169 E _ l1 hk_102 M2
theorem r_X12_next_102 (E : kr_E)    : ∀ (n : Nat) (l1 : Int32) (M : kr_M), kR kr_vv E Y_X12_next 2 102 [(0, kr_r E 346), (1, .int l1)] [] M (f_X12_next_102 n l1 M) := by
  intro n
  induction n with
  | zero => intro l1 M; exact kr_none
  | succ n ih =>
    intro l1 M
    rw [f_X12_next_102]
    refine kr_aload_n dX12_next_102 rfl 0 rfl ?_
    refine kr_aload_n dX12_next_103 rfl 0 rfl ?_
    refine kr_getI (ci := 12) (j := 7) dX12_next_104 kr_at_346 fl_RX12_162 rfl (fun v1 => ?_)
    refine kr_bipush (v := 97) dX12_next_107 (by decide) ?_
    refine kr_bipush (v := 122) dX12_next_109 (by decide) ?_
    refine kr_Vi (As := [.int v1, .int (97 : Int32), .int (122 : Int32)]) (st := []) zv_X12_isByte dX12_next_111 ml_RX12_165 kr_at_346 (r_X12_isByte E v1 (97 : Int32) (122 : Int32) M) rfl rfl (Nat.le_of_ble_eq_true rfl) rfl (by decide) (Nat.le_of_ble_eq_true rfl) (fun r3 M2 => ?_)
    refine kr_if_eq (tgt := 185) dX12_next_114 (by decide) ?_ ?_
    · refine kr_sub [] rfl ?_
      exact r_X12_next_185 E M2
    · refine kr_aload_n dX12_next_117 rfl 0 rfl ?_
      refine kr_iload_n dX12_next_118 rfl 1 rfl ?_
      refine kr_bipush (v := 11) dX12_next_119 (by decide) ?_
      refine kr_icmp_le (tgt := 130) dX12_next_121 (by decide) ?_ ?_
      · refine kr_ldc2 dX12_next_130 kl_RX12_184 ?_
        refine kr_aload_n dX12_next_133 rfl 0 rfl ?_
        refine kr_getJ (ci := 12) (j := 11) dX12_next_134 kr_at_346 fl_RX12_175 rfl (fun v4 => ?_)
        refine kr_lmul dX12_next_137 ?_
        refine kr_aload_n dX12_next_138 rfl 0 rfl ?_
        refine kr_getA (o := 5) (ci := 12) (j := 5) dX12_next_139 kr_at_346 fl_RX12_23 rfl ?_
        refine kr_aload_n dX12_next_142 rfl 0 rfl ?_
        refine kr_getI (ci := 12) (j := 7) dX12_next_143 kr_at_346 fl_RX12_162 rfl (fun v5 => ?_)
        refine kr_bald dX12_next_146 kr_at_351 (fun v6 => ?_)
        refine kr_i2l dX12_next_147 ?_
        refine kr_ladd dX12_next_148 ?_
        refine kr_ldc2 dX12_next_149 kl_RX12_186 ?_
        refine kr_lsub dX12_next_152 ?_
        refine kr_sub [0, 1] rfl ?_
        exact r_X12_next_153 E _ l1 ((((27 : Int64) * v4) + (v6.toInt64)) - (96 : Int64)) ih M2
      · refine kr_ldc2 dX12_next_124 kl_RX12_182 ?_
        refine kr_goto (tgt := 153) dX12_next_127 (by decide) ?_
        refine kr_sub [0, 1] rfl ?_
        exact r_X12_next_153 E _ l1 (-1 : Int64) ih M2
theorem r_X12_next_43 (E : kr_E)    (M : kr_M) : kR kr_vv E Y_X12_next 2 43 [(0, kr_r E 346)] [] M (f_X12_next_43 M) := by
  rw [f_X12_next_43]
  refine kr_aload_n dX12_next_43 rfl 0 rfl ?_
  refine kr_aload_n dX12_next_44 rfl 0 rfl ?_
  refine kr_getI (ci := 12) (j := 7) dX12_next_45 kr_at_346 fl_RX12_162 rfl (fun v1 => ?_)
  refine kr_putI (ci := 12) (j := 9) dX12_next_48 kr_at_346 fl_RX12_169 rfl rfl (fun M2 => ?_)
  refine kr_aload_n dX12_next_51 rfl 0 rfl ?_
  refine kr_iconst (v := 0) dX12_next_52 (by decide) ?_
  refine kr_putI (ci := 12) (j := 10) dX12_next_53 kr_at_346 fl_RX12_172 rfl rfl (fun M3 => ?_)
  refine kr_aload_n dX12_next_56 rfl 0 rfl ?_
  refine kr_lconst (v := 0) dX12_next_57 (by decide) ?_
  refine kr_putJ (ci := 12) (j := 11) dX12_next_58 kr_at_346 fl_RX12_175 rfl rfl (fun M4 => ?_)
  refine kr_aload_n dX12_next_61 rfl 0 rfl ?_
  refine kr_getI (ci := 12) (j := 7) dX12_next_62 kr_at_346 fl_RX12_162 rfl (fun v5 => ?_)
  refine kr_aload_n dX12_next_65 rfl 0 rfl ?_
  refine kr_getI (ci := 12) (j := 6) dX12_next_66 kr_at_346 fl_RX12_155 rfl (fun v6 => ?_)
  refine kr_icmp_ne (tgt := 80) dX12_next_69 (by decide) ?_ ?_
  · refine kr_aload_n dX12_next_80 rfl 0 rfl ?_
    refine kr_aload_n dX12_next_81 rfl 0 rfl ?_
    refine kr_getI (ci := 12) (j := 7) dX12_next_82 kr_at_346 fl_RX12_162 rfl (fun v7 => ?_)
    refine kr_bipush (v := 97) dX12_next_85 (by decide) ?_
    refine kr_bipush (v := 122) dX12_next_87 (by decide) ?_
    refine kr_Vi (As := [.int v7, .int (97 : Int32), .int (122 : Int32)]) (st := []) zv_X12_isByte dX12_next_89 ml_RX12_165 kr_at_346 (r_X12_isByte E v7 (97 : Int32) (122 : Int32) M4) rfl rfl (Nat.le_of_ble_eq_true rfl) rfl (by decide) (Nat.le_of_ble_eq_true rfl) (fun r9 M8 => ?_)
    refine kr_if_eq (tgt := 188) dX12_next_92 (by decide) ?_ ?_
    · refine kr_aload_n dX12_next_188 rfl 0 rfl ?_
      refine kr_aload_n dX12_next_189 rfl 0 rfl ?_
      refine kr_getI (ci := 12) (j := 7) dX12_next_190 kr_at_346 fl_RX12_162 rfl (fun v10 => ?_)
      refine kr_bipush (v := 48) dX12_next_193 (by decide) ?_
      refine kr_bipush (v := 57) dX12_next_195 (by decide) ?_
      refine kr_Vi (As := [.int v10, .int (48 : Int32), .int (57 : Int32)]) (st := []) zv_X12_isByte dX12_next_197 ml_RX12_165 kr_at_346 (r_X12_isByte E v10 (48 : Int32) (57 : Int32) M8) rfl rfl (Nat.le_of_ble_eq_true rfl) rfl (by decide) (Nat.le_of_ble_eq_true rfl) (fun r12 M11 => ?_)
      refine kr_if_eq (tgt := 274) dX12_next_200 (by decide) ?_ ?_
      · refine kr_aload_n dX12_next_274 rfl 0 rfl ?_
        refine kr_aload_n dX12_next_275 rfl 0 rfl ?_
        refine kr_getA (o := 5) (ci := 12) (j := 5) dX12_next_276 kr_at_346 fl_RX12_23 rfl ?_
        refine kr_aload_n dX12_next_279 rfl 0 rfl ?_
        refine kr_getI (ci := 12) (j := 7) dX12_next_280 kr_at_346 fl_RX12_162 rfl (fun v13 => ?_)
        refine kr_bald dX12_next_283 kr_at_351 (fun v14 => ?_)
        refine kr_bipush (v := 59) dX12_next_284 (by decide) ?_
        refine kr_icmp_ne (tgt := 293) dX12_next_286 (by decide) ?_ ?_
        · refine kr_iconst (v := 4) dX12_next_293 (by decide) ?_
          refine kr_sub [0] rfl ?_
          exact r_X12_next_294 E (4 : Int32) M11
        · refine kr_iconst (v := 3) dX12_next_289 (by decide) ?_
          refine kr_goto (tgt := 294) dX12_next_290 (by decide) ?_
          refine kr_sub [0] rfl ?_
          exact r_X12_next_294 E (3 : Int32) M11
      · refine kr_aload_n dX12_next_203 rfl 0 rfl ?_
        refine kr_iconst (v := 2) dX12_next_204 (by decide) ?_
        refine kr_putI (ci := 12) (j := 8) dX12_next_205 kr_at_346 fl_RX12_179 rfl rfl (fun M15 => ?_)
        refine kr_sub [0] rfl ?_
        exact r_X12_next_208 E _ M15
    · refine kr_aload_n dX12_next_95 rfl 0 rfl ?_
      refine kr_iconst (v := 1) dX12_next_96 (by decide) ?_
      refine kr_putI (ci := 12) (j := 8) dX12_next_97 kr_at_346 fl_RX12_179 rfl rfl (fun M16 => ?_)
      refine kr_iconst (v := 0) dX12_next_100 (by decide) ?_
      refine kr_istore_n (lv' := [(1, .int (0 : Int32)), (0, kr_r E 346)]) dX12_next_101 rfl (by decide) rfl ?_
      refine kr_sub [1, 0] rfl ?_
      exact r_X12_next_102 E _ (0 : Int32) M16
  · refine kr_aload_n dX12_next_72 rfl 0 rfl ?_
    refine kr_iconst (v := 0) dX12_next_73 (by decide) ?_
    refine kr_putI (ci := 12) (j := 8) dX12_next_74 kr_at_346 fl_RX12_179 rfl rfl (fun M17 => ?_)
    refine kr_goto (tgt := 307) dX12_next_77 (by decide) ?_
    exact kr_vret dX12_next_307 rfl
theorem r_X12_next_0 (E : kr_E)    : ∀ (n : Nat)  (M : kr_M), kR kr_vv E Y_X12_next 2 0 [(0, kr_r E 346)] [] M (f_X12_next_0 n M) := by
  intro n
  induction n with
  | zero => intro  M; exact kr_none
  | succ n ih =>
    intro  M
    rw [f_X12_next_0]
    refine kr_aload_n dX12_next_0 rfl 0 rfl ?_
    refine kr_aload_n dX12_next_1 rfl 0 rfl ?_
    refine kr_getI (ci := 12) (j := 7) dX12_next_2 kr_at_346 fl_RX12_162 rfl (fun v1 => ?_)
    refine kr_bipush (v := 32) dX12_next_5 (by decide) ?_
    refine kr_bipush (v := 32) dX12_next_7 (by decide) ?_
    refine kr_Vi (As := [.int v1, .int (32 : Int32), .int (32 : Int32)]) (st := []) zv_X12_isByte dX12_next_9 ml_RX12_165 kr_at_346 (r_X12_isByte E v1 (32 : Int32) (32 : Int32) M) rfl rfl (Nat.le_of_ble_eq_true rfl) rfl (by decide) (Nat.le_of_ble_eq_true rfl) (fun r3 M2 => ?_)
    refine kr_if_ne (tgt := 30) dX12_next_12 (by decide) ?_ ?_
    · refine kr_sub [0] rfl ?_
      exact r_X12_next_30 E _ ih M2
    · refine kr_aload_n dX12_next_15 rfl 0 rfl ?_
      refine kr_aload_n dX12_next_16 rfl 0 rfl ?_
      refine kr_getI (ci := 12) (j := 7) dX12_next_17 kr_at_346 fl_RX12_162 rfl (fun v4 => ?_)
      refine kr_bipush (v := 10) dX12_next_20 (by decide) ?_
      refine kr_bipush (v := 10) dX12_next_22 (by decide) ?_
      refine kr_Vi (As := [.int v4, .int (10 : Int32), .int (10 : Int32)]) (st := []) zv_X12_isByte dX12_next_24 ml_RX12_165 kr_at_346 (r_X12_isByte E v4 (10 : Int32) (10 : Int32) M2) rfl rfl (Nat.le_of_ble_eq_true rfl) rfl (by decide) (Nat.le_of_ble_eq_true rfl) (fun r6 M5 => ?_)
      refine kr_if_eq (tgt := 43) dX12_next_27 (by decide) ?_ ?_
      · refine kr_sub [0] rfl ?_
        exact r_X12_next_43 E M5
      · refine kr_sub [0] rfl ?_
        exact r_X12_next_30 E _ ih M5
theorem r_X12_next (E : kr_E)  (M : kr_M) : kR kr_vv E Y_X12_next 2 0 [(0, kr_r E 346)] [] M (f_X12_next M) := by
  rw [f_X12_next]
  refine kr_sub [0] rfl ?_
  exact r_X12_next_0 E _ M
theorem dX12_isGood_0 : decode cX12_isGood 0 = .ok (.aload_n 0, 1) := by decide +kernel
theorem dX12_isGood_1 : decode cX12_isGood 1 = .ok (.getfield 190, 3) := by decide +kernel
theorem dX12_isGood_4 : decode cX12_isGood 4 = .ok (.ifCond .ne 7, 3) := by decide +kernel
theorem dX12_isGood_7 : decode cX12_isGood 7 = .ok (.iconst 1, 1) := by decide +kernel
theorem dX12_isGood_8 : decode cX12_isGood 8 = .ok (.goto 4, 3) := by decide +kernel
theorem dX12_isGood_11 : decode cX12_isGood 11 = .ok (.iconst 0, 1) := by decide +kernel
theorem dX12_isGood_12 : decode cX12_isGood 12 = .ok (.ireturn, 1) := by decide +kernel
theorem r_X12_isGood (E : kr_E)  (M : kr_M) : kR kr_vi E Y_X12_isGood 1 0 [(0, kr_r E 346)] [] M (f_X12_isGood M) := by
  rw [f_X12_isGood]
  refine kr_aload_n dX12_isGood_0 rfl 0 rfl ?_
  refine kr_getI (ci := 12) (j := 12) dX12_isGood_1 kr_at_346 fl_RX12_190 rfl (fun v1 => ?_)
  refine kr_if_ne (tgt := 11) dX12_isGood_4 (by decide) ?_ ?_
  · refine kr_iconst (v := 0) dX12_isGood_11 (by decide) ?_
    exact kr_zret1 dX12_isGood_12 rfl rfl
  · refine kr_iconst (v := 1) dX12_isGood_7 (by decide) ?_
    refine kr_goto (tgt := 12) dX12_isGood_8 (by decide) ?_
    exact kr_zret1 dX12_isGood_12 rfl rfl
theorem dX12_fails_0 : decode cX12_fails 0 = .ok (.aload_n 0, 1) := by decide +kernel
theorem dX12_fails_1 : decode cX12_fails 1 = .ok (.getfield 190, 3) := by decide +kernel
theorem dX12_fails_4 : decode cX12_fails 4 = .ok (.ifCond .eq 4, 3) := by decide +kernel
theorem dX12_fails_7 : decode cX12_fails 7 = .ok (.return_, 1) := by decide +kernel
theorem dX12_fails_8 : decode cX12_fails 8 = .ok (.aload_n 0, 1) := by decide +kernel
theorem dX12_fails_9 : decode cX12_fails 9 = .ok (.iload_n 1, 1) := by decide +kernel
theorem dX12_fails_10 : decode cX12_fails 10 = .ok (.putfield 190, 3) := by decide +kernel
theorem dX12_fails_13 : decode cX12_fails 13 = .ok (.aload_n 0, 1) := by decide +kernel
theorem dX12_fails_14 : decode cX12_fails 14 = .ok (.aload_n 0, 1) := by decide +kernel
theorem dX12_fails_15 : decode cX12_fails 15 = .ok (.getfield 169, 3) := by decide +kernel
theorem dX12_fails_18 : decode cX12_fails 18 = .ok (.putfield 193, 3) := by decide +kernel
theorem dX12_fails_21 : decode cX12_fails 21 = .ok (.return_, 1) := by decide +kernel
theorem r_X12_fails (E : kr_E) (p1 : Int32) (M : kr_M) : kR kr_vv E Y_X12_fails 1 0 [(0, kr_r E 346), (1, .int p1)] [] M (f_X12_fails p1 M) := by
  rw [f_X12_fails]
  refine kr_aload_n dX12_fails_0 rfl 0 rfl ?_
  refine kr_getI (ci := 12) (j := 12) dX12_fails_1 kr_at_346 fl_RX12_190 rfl (fun v1 => ?_)
  refine kr_if_eq (tgt := 8) dX12_fails_4 (by decide) ?_ ?_
  · refine kr_aload_n dX12_fails_8 rfl 0 rfl ?_
    refine kr_iload_n dX12_fails_9 rfl 1 rfl ?_
    refine kr_putI (ci := 12) (j := 12) dX12_fails_10 kr_at_346 fl_RX12_190 rfl rfl (fun M2 => ?_)
    refine kr_aload_n dX12_fails_13 rfl 0 rfl ?_
    refine kr_aload_n dX12_fails_14 rfl 0 rfl ?_
    refine kr_getI (ci := 12) (j := 9) dX12_fails_15 kr_at_346 fl_RX12_169 rfl (fun v3 => ?_)
    refine kr_putI (ci := 12) (j := 13) dX12_fails_18 kr_at_346 fl_RX12_193 rfl rfl (fun M4 => ?_)
    exact kr_vret dX12_fails_21 rfl
  · exact kr_vret dX12_fails_7 rfl
theorem dX12_is_0 : decode cX12_is 0 = .ok (.aload_n 0, 1) := by decide +kernel
theorem dX12_is_1 : decode cX12_is 1 = .ok (.getfield 190, 3) := by decide +kernel
theorem dX12_is_4 : decode cX12_is 4 = .ok (.ifCond .ne 24, 3) := by decide +kernel
theorem dX12_is_7 : decode cX12_is 7 = .ok (.aload_n 0, 1) := by decide +kernel
theorem dX12_is_8 : decode cX12_is 8 = .ok (.getfield 179, 3) := by decide +kernel
theorem dX12_is_11 : decode cX12_is 11 = .ok (.iconst 1, 1) := by decide +kernel
theorem dX12_is_12 : decode cX12_is 12 = .ok (.if_icmp .ne 16, 3) := by decide +kernel
theorem dX12_is_15 : decode cX12_is 15 = .ok (.aload_n 0, 1) := by decide +kernel
theorem dX12_is_16 : decode cX12_is 16 = .ok (.getfield 175, 3) := by decide +kernel
theorem dX12_is_19 : decode cX12_is 19 = .ok (.lload_n 1, 1) := by decide +kernel
theorem dX12_is_20 : decode cX12_is 20 = .ok (.lcmp, 1) := by decide +kernel
theorem dX12_is_21 : decode cX12_is 21 = .ok (.ifCond .ne 7, 3) := by decide +kernel
theorem dX12_is_24 : decode cX12_is 24 = .ok (.iconst 1, 1) := by decide +kernel
theorem dX12_is_25 : decode cX12_is 25 = .ok (.goto 4, 3) := by decide +kernel
theorem dX12_is_28 : decode cX12_is 28 = .ok (.iconst 0, 1) := by decide +kernel
theorem dX12_is_29 : decode cX12_is 29 = .ok (.ireturn, 1) := by decide +kernel
theorem r_X12_is (E : kr_E) (p1 : Int64) (M : kr_M) : kR kr_vi E Y_X12_is 1 0 [(0, kr_r E 346), (1, .long p1)] [] M (f_X12_is p1 M) := by
  rw [f_X12_is]
  refine kr_aload_n dX12_is_0 rfl 0 rfl ?_
  refine kr_getI (ci := 12) (j := 12) dX12_is_1 kr_at_346 fl_RX12_190 rfl (fun v1 => ?_)
  refine kr_if_ne (tgt := 28) dX12_is_4 (by decide) ?_ ?_
  · refine kr_iconst (v := 0) dX12_is_28 (by decide) ?_
    exact kr_zret1 dX12_is_29 rfl rfl
  · refine kr_aload_n dX12_is_7 rfl 0 rfl ?_
    refine kr_getI (ci := 12) (j := 8) dX12_is_8 kr_at_346 fl_RX12_179 rfl (fun v2 => ?_)
    refine kr_iconst (v := 1) dX12_is_11 (by decide) ?_
    refine kr_icmp_ne (tgt := 28) dX12_is_12 (by decide) ?_ ?_
    · refine kr_iconst (v := 0) dX12_is_28 (by decide) ?_
      exact kr_zret1 dX12_is_29 rfl rfl
    · refine kr_aload_n dX12_is_15 rfl 0 rfl ?_
      refine kr_getJ (ci := 12) (j := 11) dX12_is_16 kr_at_346 fl_RX12_175 rfl (fun v3 => ?_)
      refine kr_lload_n dX12_is_19 rfl 1 rfl ?_
      refine kr_lcmp dX12_is_20 ?_
      refine kr_if_ne (tgt := 28) dX12_is_21 (by decide) ?_ ?_
      · refine kr_iconst (v := 0) dX12_is_28 (by decide) ?_
        exact kr_zret1 dX12_is_29 rfl rfl
      · refine kr_iconst (v := 1) dX12_is_24 (by decide) ?_
        refine kr_goto (tgt := 29) dX12_is_25 (by decide) ?_
        exact kr_zret1 dX12_is_29 rfl rfl
theorem dX12_takes_0 : decode cX12_takes 0 = .ok (.aload_n 0, 1) := by decide +kernel
theorem dX12_takes_1 : decode cX12_takes 1 = .ok (.lload_n 1, 1) := by decide +kernel
theorem dX12_takes_2 : decode cX12_takes 2 = .ok (.invokevirtual 196, 3) := by decide +kernel
theorem dX12_takes_5 : decode cX12_takes 5 = .ok (.ifCond .ne 5, 3) := by decide +kernel
theorem dX12_takes_8 : decode cX12_takes 8 = .ok (.iconst 0, 1) := by decide +kernel
theorem dX12_takes_9 : decode cX12_takes 9 = .ok (.ireturn, 1) := by decide +kernel
theorem dX12_takes_10 : decode cX12_takes 10 = .ok (.aload_n 0, 1) := by decide +kernel
theorem dX12_takes_11 : decode cX12_takes 11 = .ok (.invokevirtual 200, 3) := by decide +kernel
theorem dX12_takes_14 : decode cX12_takes 14 = .ok (.iconst 1, 1) := by decide +kernel
theorem dX12_takes_15 : decode cX12_takes 15 = .ok (.ireturn, 1) := by decide +kernel
theorem r_X12_takes (E : kr_E) (p1 : Int64) (M : kr_M) : kR kr_vi E Y_X12_takes 3 0 [(0, kr_r E 346), (1, .long p1)] [] M (f_X12_takes p1 M) := by
  rw [f_X12_takes]
  refine kr_aload_n dX12_takes_0 rfl 0 rfl ?_
  refine kr_lload_n dX12_takes_1 rfl 1 rfl ?_
  refine kr_Vi (As := [.long p1]) (st := []) zv_X12_is dX12_takes_2 ml_RX12_196 kr_at_346 (r_X12_is E p1 M) rfl rfl (Nat.le_of_ble_eq_true rfl) rfl (by decide) (Nat.le_of_ble_eq_true rfl) (fun r2 M1 => ?_)
  refine kr_if_ne (tgt := 10) dX12_takes_5 (by decide) ?_ ?_
  · refine kr_aload_n dX12_takes_10 rfl 0 rfl ?_
    refine kr_Vv (As := []) (st := []) zv_X12_next dX12_takes_11 ml_RX12_200 kr_at_346 (r_X12_next E  M1) rfl rfl (Nat.le_of_ble_eq_true rfl) rfl (by decide) (Nat.le_of_ble_eq_true rfl) (fun M3 => ?_)
    refine kr_iconst (v := 1) dX12_takes_14 (by decide) ?_
    exact kr_zret1 dX12_takes_15 rfl rfl
  · refine kr_iconst (v := 0) dX12_takes_8 (by decide) ?_
    exact kr_zret1 dX12_takes_9 rfl rfl
theorem dX12_asks_0 : decode cX12_asks 0 = .ok (.aload_n 0, 1) := by decide +kernel
theorem dX12_asks_1 : decode cX12_asks 1 = .ok (.lload_n 1, 1) := by decide +kernel
theorem dX12_asks_2 : decode cX12_asks 2 = .ok (.invokevirtual 203, 3) := by decide +kernel
theorem dX12_asks_5 : decode cX12_asks 5 = .ok (.ifCond .ne 8, 3) := by decide +kernel
theorem dX12_asks_8 : decode cX12_asks 8 = .ok (.aload_n 0, 1) := by decide +kernel
theorem dX12_asks_9 : decode cX12_asks 9 = .ok (.iconst 1, 1) := by decide +kernel
theorem dX12_asks_10 : decode cX12_asks 10 = .ok (.invokevirtual 206, 3) := by decide +kernel
theorem dX12_asks_13 : decode cX12_asks 13 = .ok (.return_, 1) := by decide +kernel
theorem r_X12_asks (E : kr_E) (p1 : Int64) (M : kr_M) : kR kr_vv E Y_X12_asks 4 0 [(0, kr_r E 346), (1, .long p1)] [] M (f_X12_asks p1 M) := by
  rw [f_X12_asks]
  refine kr_aload_n dX12_asks_0 rfl 0 rfl ?_
  refine kr_lload_n dX12_asks_1 rfl 1 rfl ?_
  refine kr_Vi (As := [.long p1]) (st := []) zv_X12_takes dX12_asks_2 ml_RX12_203 kr_at_346 (r_X12_takes E p1 M) rfl rfl (Nat.le_of_ble_eq_true rfl) rfl (by decide) (Nat.le_of_ble_eq_true rfl) (fun r2 M1 => ?_)
  refine kr_if_ne (tgt := 13) dX12_asks_5 (by decide) ?_ ?_
  · exact kr_vret dX12_asks_13 rfl
  · refine kr_aload_n dX12_asks_8 rfl 0 rfl ?_
    refine kr_iconst (v := 1) dX12_asks_9 (by decide) ?_
    refine kr_Vv (As := [.int (1 : Int32)]) (st := []) zv_X12_fails dX12_asks_10 ml_RX12_206 kr_at_346 (r_X12_fails E (1 : Int32) M1) rfl rfl (Nat.le_of_ble_eq_true rfl) rfl (by decide) (Nat.le_of_ble_eq_true rfl) (fun M3 => ?_)
    exact kr_vret dX12_asks_13 rfl
theorem dX12_number_0 : decode cX12_number 0 = .ok (.aload_n 0, 1) := by decide +kernel
theorem dX12_number_1 : decode cX12_number 1 = .ok (.getfield 190, 3) := by decide +kernel
theorem dX12_number_4 : decode cX12_number 4 = .ok (.ifCond .eq 5, 3) := by decide +kernel
theorem dX12_number_7 : decode cX12_number 7 = .ok (.iload_n 1, 1) := by decide +kernel
theorem dX12_number_8 : decode cX12_number 8 = .ok (.ireturn, 1) := by decide +kernel
theorem dX12_number_9 : decode cX12_number 9 = .ok (.aload_n 0, 1) := by decide +kernel
theorem dX12_number_10 : decode cX12_number 10 = .ok (.getfield 179, 3) := by decide +kernel
theorem dX12_number_13 : decode cX12_number 13 = .ok (.iconst 2, 1) := by decide +kernel
theorem dX12_number_14 : decode cX12_number 14 = .ok (.if_icmp .eq 10, 3) := by decide +kernel
theorem dX12_number_17 : decode cX12_number 17 = .ok (.aload_n 0, 1) := by decide +kernel
theorem dX12_number_18 : decode cX12_number 18 = .ok (.iconst 1, 1) := by decide +kernel
theorem dX12_number_19 : decode cX12_number 19 = .ok (.invokevirtual 206, 3) := by decide +kernel
theorem dX12_number_22 : decode cX12_number 22 = .ok (.iload_n 1, 1) := by decide +kernel
theorem dX12_number_23 : decode cX12_number 23 = .ok (.ireturn, 1) := by decide +kernel
theorem dX12_number_24 : decode cX12_number 24 = .ok (.aload_n 0, 1) := by decide +kernel
theorem dX12_number_25 : decode cX12_number 25 = .ok (.getfield 172, 3) := by decide +kernel
theorem dX12_number_28 : decode cX12_number 28 = .ok (.i2l, 1) := by decide +kernel
theorem dX12_number_29 : decode cX12_number 29 = .ok (.iload_n 1, 1) := by decide +kernel
theorem dX12_number_30 : decode cX12_number 30 = .ok (.i2l, 1) := by decide +kernel
theorem dX12_number_31 : decode cX12_number 31 = .ok (.iload_n 2, 1) := by decide +kernel
theorem dX12_number_32 : decode cX12_number 32 = .ok (.i2l, 1) := by decide +kernel
theorem dX12_number_33 : decode cX12_number 33 = .ok (.invokestatic 143, 3) := by decide +kernel
theorem dX12_number_36 : decode cX12_number 36 = .ok (.ifCond .ne 10, 3) := by decide +kernel
theorem dX12_number_39 : decode cX12_number 39 = .ok (.aload_n 0, 1) := by decide +kernel
theorem dX12_number_40 : decode cX12_number 40 = .ok (.iconst 2, 1) := by decide +kernel
theorem dX12_number_41 : decode cX12_number 41 = .ok (.invokevirtual 206, 3) := by decide +kernel
theorem dX12_number_44 : decode cX12_number 44 = .ok (.iload_n 1, 1) := by decide +kernel
theorem dX12_number_45 : decode cX12_number 45 = .ok (.ireturn, 1) := by decide +kernel
theorem dX12_number_46 : decode cX12_number 46 = .ok (.aload_n 0, 1) := by decide +kernel
theorem dX12_number_47 : decode cX12_number 47 = .ok (.getfield 172, 3) := by decide +kernel
theorem dX12_number_50 : decode cX12_number 50 = .ok (.istore_n 3, 1) := by decide +kernel
theorem dX12_number_51 : decode cX12_number 51 = .ok (.aload_n 0, 1) := by decide +kernel
theorem dX12_number_52 : decode cX12_number 52 = .ok (.invokevirtual 200, 3) := by decide +kernel
theorem dX12_number_55 : decode cX12_number 55 = .ok (.iload_n 3, 1) := by decide +kernel
theorem dX12_number_56 : decode cX12_number 56 = .ok (.ireturn, 1) := by decide +kernel
theorem r_X12_number (E : kr_E) (p1 : Int32) (p2 : Int32) (M : kr_M) : kR kr_vi E Y_X12_number 3 0 [(0, kr_r E 346), (1, .int p1), (2, .int p2)] [] M (f_X12_number p1 p2 M) := by
  rw [f_X12_number]
  refine kr_aload_n dX12_number_0 rfl 0 rfl ?_
  refine kr_getI (ci := 12) (j := 12) dX12_number_1 kr_at_346 fl_RX12_190 rfl (fun v1 => ?_)
  refine kr_if_eq (tgt := 9) dX12_number_4 (by decide) ?_ ?_
  · refine kr_aload_n dX12_number_9 rfl 0 rfl ?_
    refine kr_getI (ci := 12) (j := 8) dX12_number_10 kr_at_346 fl_RX12_179 rfl (fun v2 => ?_)
    refine kr_iconst (v := 2) dX12_number_13 (by decide) ?_
    refine kr_icmp_eq (tgt := 24) dX12_number_14 (by decide) ?_ ?_
    · refine kr_aload_n dX12_number_24 rfl 0 rfl ?_
      refine kr_getI (ci := 12) (j := 10) dX12_number_25 kr_at_346 fl_RX12_172 rfl (fun v3 => ?_)
      refine kr_i2l dX12_number_28 ?_
      refine kr_iload_n dX12_number_29 rfl 1 rfl ?_
      refine kr_i2l dX12_number_30 ?_
      refine kr_iload_n dX12_number_31 rfl 2 rfl ?_
      refine kr_i2l dX12_number_32 ?_
      refine kr_Si (As := [.long (v3.toInt64), .long (p1.toInt64), .long (p2.toInt64)]) (st := []) zs_X12_in dX12_number_33 ml_RX12_143 (r_X12_in E (v3.toInt64) (p1.toInt64) (p2.toInt64) M) rfl rfl (Nat.le_of_ble_eq_true rfl) rfl (by decide) (Nat.le_of_ble_eq_true rfl) (fun r5 M4 => ?_)
      refine kr_if_ne (tgt := 46) dX12_number_36 (by decide) ?_ ?_
      · refine kr_aload_n dX12_number_46 rfl 0 rfl ?_
        refine kr_getI (ci := 12) (j := 10) dX12_number_47 kr_at_346 fl_RX12_172 rfl (fun v6 => ?_)
        refine kr_istore_n (lv' := [(3, .int v6), (0, kr_r E 346), (1, .int p1), (2, .int p2)]) dX12_number_50 rfl (by decide) rfl ?_
        refine kr_aload_n dX12_number_51 rfl 1 rfl ?_
        refine kr_Vv (As := []) (st := []) zv_X12_next dX12_number_52 ml_RX12_200 kr_at_346 (r_X12_next E  M4) rfl rfl (Nat.le_of_ble_eq_true rfl) rfl (by decide) (Nat.le_of_ble_eq_true rfl) (fun M7 => ?_)
        refine kr_iload_n dX12_number_55 rfl 0 rfl ?_
        exact kr_iret dX12_number_56 rfl
      · refine kr_aload_n dX12_number_39 rfl 0 rfl ?_
        refine kr_iconst (v := 2) dX12_number_40 (by decide) ?_
        refine kr_Vv (As := [.int (2 : Int32)]) (st := []) zv_X12_fails dX12_number_41 ml_RX12_206 kr_at_346 (r_X12_fails E (2 : Int32) M4) rfl rfl (Nat.le_of_ble_eq_true rfl) rfl (by decide) (Nat.le_of_ble_eq_true rfl) (fun M9 => ?_)
        refine kr_iload_n dX12_number_44 rfl 1 rfl ?_
        exact kr_iret dX12_number_45 rfl
    · refine kr_aload_n dX12_number_17 rfl 0 rfl ?_
      refine kr_iconst (v := 1) dX12_number_18 (by decide) ?_
      refine kr_Vv (As := [.int (1 : Int32)]) (st := []) zv_X12_fails dX12_number_19 ml_RX12_206 kr_at_346 (r_X12_fails E (1 : Int32) M) rfl rfl (Nat.le_of_ble_eq_true rfl) rfl (by decide) (Nat.le_of_ble_eq_true rfl) (fun M11 => ?_)
      refine kr_iload_n dX12_number_22 rfl 1 rfl ?_
      exact kr_iret dX12_number_23 rfl
  · refine kr_iload_n dX12_number_7 rfl 1 rfl ?_
    exact kr_iret dX12_number_8 rfl
theorem dX12_number__0 : decode cX12_number_ 0 = .ok (.aload_n 0, 1) := by decide +kernel
theorem dX12_number__1 : decode cX12_number_ 1 = .ok (.lload_n 1, 1) := by decide +kernel
theorem dX12_number__2 : decode cX12_number_ 2 = .ok (.invokevirtual 209, 3) := by decide +kernel
theorem dX12_number__5 : decode cX12_number_ 5 = .ok (.aload_n 0, 1) := by decide +kernel
theorem dX12_number__6 : decode cX12_number_ 6 = .ok (.iload_n 3, 1) := by decide +kernel
theorem dX12_number__7 : decode cX12_number_ 7 = .ok (.iload 4, 2) := by decide +kernel
theorem dX12_number__9 : decode cX12_number_ 9 = .ok (.invokevirtual 213, 3) := by decide +kernel
theorem dX12_number__12 : decode cX12_number_ 12 = .ok (.ireturn, 1) := by decide +kernel
theorem r_X12_number_ (E : kr_E) (p1 : Int64) (p3 : Int32) (p4 : Int32) (M : kr_M) : kR kr_vi E Y_X12_number_ 5 0 [(0, kr_r E 346), (1, .long p1), (3, .int p3), (4, .int p4)] [] M (f_X12_number_ p1 p3 p4 M) := by
  rw [f_X12_number_]
  refine kr_aload_n dX12_number__0 rfl 0 rfl ?_
  refine kr_lload_n dX12_number__1 rfl 1 rfl ?_
  refine kr_Vv (As := [.long p1]) (st := []) zv_X12_asks dX12_number__2 ml_RX12_209 kr_at_346 (r_X12_asks E p1 M) rfl rfl (Nat.le_of_ble_eq_true rfl) rfl (by decide) (Nat.le_of_ble_eq_true rfl) (fun M1 => ?_)
  refine kr_aload_n dX12_number__5 rfl 0 rfl ?_
  refine kr_iload_n dX12_number__6 rfl 2 rfl ?_
  refine kr_iload dX12_number__7 3 rfl ?_
  refine kr_Vi (As := [.int p3, .int p4]) (st := []) zv_X12_number dX12_number__9 ml_RX12_213 kr_at_346 (r_X12_number E p3 p4 M1) rfl rfl (Nat.le_of_ble_eq_true rfl) rfl (by decide) (Nat.le_of_ble_eq_true rfl) (fun r4 M3 => ?_)
  exact kr_iret dX12_number__12 rfl
theorem dX12_ends_0 : decode cX12_ends 0 = .ok (.aload_n 0, 1) := by decide +kernel
theorem dX12_ends_1 : decode cX12_ends 1 = .ok (.getfield 179, 3) := by decide +kernel
theorem dX12_ends_4 : decode cX12_ends 4 = .ok (.iconst 3, 1) := by decide +kernel
theorem dX12_ends_5 : decode cX12_ends 5 = .ok (.if_icmp .eq 8, 3) := by decide +kernel
theorem dX12_ends_8 : decode cX12_ends 8 = .ok (.aload_n 0, 1) := by decide +kernel
theorem dX12_ends_9 : decode cX12_ends 9 = .ok (.iconst 1, 1) := by decide +kernel
theorem dX12_ends_10 : decode cX12_ends 10 = .ok (.invokevirtual 206, 3) := by decide +kernel
theorem dX12_ends_13 : decode cX12_ends 13 = .ok (.aload_n 0, 1) := by decide +kernel
theorem dX12_ends_14 : decode cX12_ends 14 = .ok (.getfield 190, 3) := by decide +kernel
theorem dX12_ends_17 : decode cX12_ends 17 = .ok (.ifCond .ne 7, 3) := by decide +kernel
theorem dX12_ends_20 : decode cX12_ends 20 = .ok (.aload_n 0, 1) := by decide +kernel
theorem dX12_ends_21 : decode cX12_ends 21 = .ok (.invokevirtual 200, 3) := by decide +kernel
theorem dX12_ends_24 : decode cX12_ends 24 = .ok (.return_, 1) := by decide +kernel
theorem r_X12_ends_13 (E : kr_E)    (M : kr_M) : kR kr_vv E Y_X12_ends 3 13 [(0, kr_r E 346)] [] M (f_X12_ends_13 M) := by
  rw [f_X12_ends_13]
  refine kr_aload_n dX12_ends_13 rfl 0 rfl ?_
  refine kr_getI (ci := 12) (j := 12) dX12_ends_14 kr_at_346 fl_RX12_190 rfl (fun v1 => ?_)
  refine kr_if_ne (tgt := 24) dX12_ends_17 (by decide) ?_ ?_
  · exact kr_vret dX12_ends_24 rfl
  · refine kr_aload_n dX12_ends_20 rfl 0 rfl ?_
    refine kr_Vv (As := []) (st := []) zv_X12_next dX12_ends_21 ml_RX12_200 kr_at_346 (r_X12_next E  M) rfl rfl (Nat.le_of_ble_eq_true rfl) rfl (by decide) (Nat.le_of_ble_eq_true rfl) (fun M2 => ?_)
    exact kr_vret dX12_ends_24 rfl
theorem r_X12_ends (E : kr_E)  (M : kr_M) : kR kr_vv E Y_X12_ends 3 0 [(0, kr_r E 346)] [] M (f_X12_ends M) := by
  rw [f_X12_ends]
  refine kr_aload_n dX12_ends_0 rfl 0 rfl ?_
  refine kr_getI (ci := 12) (j := 8) dX12_ends_1 kr_at_346 fl_RX12_179 rfl (fun v1 => ?_)
  refine kr_iconst (v := 3) dX12_ends_4 (by decide) ?_
  refine kr_icmp_eq (tgt := 13) dX12_ends_5 (by decide) ?_ ?_
  · refine kr_sub [0] rfl ?_
    exact r_X12_ends_13 E M
  · refine kr_aload_n dX12_ends_8 rfl 0 rfl ?_
    refine kr_iconst (v := 1) dX12_ends_9 (by decide) ?_
    refine kr_Vv (As := [.int (1 : Int32)]) (st := []) zv_X12_fails dX12_ends_10 ml_RX12_206 kr_at_346 (r_X12_fails E (1 : Int32) M) rfl rfl (Nat.le_of_ble_eq_true rfl) rfl (by decide) (Nat.le_of_ble_eq_true rfl) (fun M2 => ?_)
    refine kr_sub [0] rfl ?_
    exact r_X12_ends_13 E M2
theorem dX12_begins_0 : decode cX12_begins 0 = .ok (.aload_n 0, 1) := by decide +kernel
theorem dX12_begins_1 : decode cX12_begins 1 = .ok (.iconst 0, 1) := by decide +kernel
theorem dX12_begins_2 : decode cX12_begins 2 = .ok (.putfield 190, 3) := by decide +kernel
theorem dX12_begins_5 : decode cX12_begins 5 = .ok (.aload_n 0, 1) := by decide +kernel
theorem dX12_begins_6 : decode cX12_begins 6 = .ok (.iconst (-1), 1) := by decide +kernel
theorem dX12_begins_7 : decode cX12_begins 7 = .ok (.putfield 193, 3) := by decide +kernel
theorem dX12_begins_10 : decode cX12_begins 10 = .ok (.aload_n 0, 1) := by decide +kernel
theorem dX12_begins_11 : decode cX12_begins 11 = .ok (.iconst 0, 1) := by decide +kernel
theorem dX12_begins_12 : decode cX12_begins 12 = .ok (.putfield 162, 3) := by decide +kernel
theorem dX12_begins_15 : decode cX12_begins 15 = .ok (.aload_n 0, 1) := by decide +kernel
theorem dX12_begins_16 : decode cX12_begins 16 = .ok (.invokevirtual 200, 3) := by decide +kernel
theorem dX12_begins_19 : decode cX12_begins 19 = .ok (.return_, 1) := by decide +kernel
theorem r_X12_begins (E : kr_E)  (M : kr_M) : kR kr_vv E Y_X12_begins 3 0 [(0, kr_r E 346)] [] M (f_X12_begins M) := by
  rw [f_X12_begins]
  refine kr_aload_n dX12_begins_0 rfl 0 rfl ?_
  refine kr_iconst (v := 0) dX12_begins_1 (by decide) ?_
  refine kr_putI (ci := 12) (j := 12) dX12_begins_2 kr_at_346 fl_RX12_190 rfl rfl (fun M1 => ?_)
  refine kr_aload_n dX12_begins_5 rfl 0 rfl ?_
  refine kr_iconst (v := -1) dX12_begins_6 (by decide) ?_
  refine kr_putI (ci := 12) (j := 13) dX12_begins_7 kr_at_346 fl_RX12_193 rfl rfl (fun M2 => ?_)
  refine kr_aload_n dX12_begins_10 rfl 0 rfl ?_
  refine kr_iconst (v := 0) dX12_begins_11 (by decide) ?_
  refine kr_putI (ci := 12) (j := 7) dX12_begins_12 kr_at_346 fl_RX12_162 rfl rfl (fun M3 => ?_)
  refine kr_aload_n dX12_begins_15 rfl 0 rfl ?_
  refine kr_Vv (As := []) (st := []) zv_X12_next dX12_begins_16 ml_RX12_200 kr_at_346 (r_X12_next E  M3) rfl rfl (Nat.le_of_ble_eq_true rfl) rfl (by decide) (Nat.le_of_ble_eq_true rfl) (fun M4 => ?_)
  exact kr_vret dX12_begins_19 rfl
theorem dX12_isOver_0 : decode cX12_isOver 0 = .ok (.aload_n 0, 1) := by decide +kernel
theorem dX12_isOver_1 : decode cX12_isOver 1 = .ok (.iconst 0, 1) := by decide +kernel
theorem dX12_isOver_2 : decode cX12_isOver 2 = .ok (.putfield 155, 3) := by decide +kernel
theorem dX12_isOver_5 : decode cX12_isOver 5 = .ok (.aload_n 0, 1) := by decide +kernel
theorem dX12_isOver_6 : decode cX12_isOver 6 = .ok (.aload_n 0, 1) := by decide +kernel
theorem dX12_isOver_7 : decode cX12_isOver 7 = .ok (.getfield 190, 3) := by decide +kernel
theorem dX12_isOver_10 : decode cX12_isOver 10 = .ok (.putfield 217, 3) := by decide +kernel
theorem dX12_isOver_13 : decode cX12_isOver 13 = .ok (.aload_n 0, 1) := by decide +kernel
theorem dX12_isOver_14 : decode cX12_isOver 14 = .ok (.aload_n 0, 1) := by decide +kernel
theorem dX12_isOver_15 : decode cX12_isOver 15 = .ok (.getfield 190, 3) := by decide +kernel
theorem dX12_isOver_18 : decode cX12_isOver 18 = .ok (.ifCond .ne 7, 3) := by decide +kernel
theorem dX12_isOver_21 : decode cX12_isOver 21 = .ok (.iconst (-1), 1) := by decide +kernel
theorem dX12_isOver_22 : decode cX12_isOver 22 = .ok (.goto 7, 3) := by decide +kernel
theorem dX12_isOver_25 : decode cX12_isOver 25 = .ok (.aload_n 0, 1) := by decide +kernel
theorem dX12_isOver_26 : decode cX12_isOver 26 = .ok (.getfield 193, 3) := by decide +kernel
theorem dX12_isOver_29 : decode cX12_isOver 29 = .ok (.putfield 27, 3) := by decide +kernel
theorem dX12_isOver_32 : decode cX12_isOver 32 = .ok (.return_, 1) := by decide +kernel
theorem r_X12_isOver_29 (E : kr_E)  (s0 : Int32)  (M : kr_M) : kR kr_vv E Y_X12_isOver 1 29 [] [.int s0, kr_r E 346] M (f_X12_isOver_29 s0 M) := by
  rw [f_X12_isOver_29]
  refine kr_putI (ci := 12) (j := 15) dX12_isOver_29 kr_at_346 fl_RX12_27 rfl rfl (fun M1 => ?_)
  exact kr_vret dX12_isOver_32 rfl
theorem r_X12_isOver (E : kr_E)  (M : kr_M) : kR kr_vv E Y_X12_isOver 1 0 [(0, kr_r E 346)] [] M (f_X12_isOver M) := by
  rw [f_X12_isOver]
  refine kr_aload_n dX12_isOver_0 rfl 0 rfl ?_
  refine kr_iconst (v := 0) dX12_isOver_1 (by decide) ?_
  refine kr_putI (ci := 12) (j := 6) dX12_isOver_2 kr_at_346 fl_RX12_155 rfl rfl (fun M1 => ?_)
  refine kr_aload_n dX12_isOver_5 rfl 0 rfl ?_
  refine kr_aload_n dX12_isOver_6 rfl 0 rfl ?_
  refine kr_getI (ci := 12) (j := 12) dX12_isOver_7 kr_at_346 fl_RX12_190 rfl (fun v2 => ?_)
  refine kr_putI (ci := 12) (j := 14) dX12_isOver_10 kr_at_346 fl_RX12_217 rfl rfl (fun M3 => ?_)
  refine kr_aload_n dX12_isOver_13 rfl 0 rfl ?_
  refine kr_aload_n dX12_isOver_14 rfl 0 rfl ?_
  refine kr_getI (ci := 12) (j := 12) dX12_isOver_15 kr_at_346 fl_RX12_190 rfl (fun v4 => ?_)
  refine kr_if_ne (tgt := 25) dX12_isOver_18 (by decide) ?_ ?_
  · refine kr_aload_n dX12_isOver_25 rfl 0 rfl ?_
    refine kr_getI (ci := 12) (j := 13) dX12_isOver_26 kr_at_346 fl_RX12_193 rfl (fun v5 => ?_)
    refine kr_sub [] rfl ?_
    exact r_X12_isOver_29 E v5 M3
  · refine kr_iconst (v := -1) dX12_isOver_21 (by decide) ?_
    refine kr_goto (tgt := 29) dX12_isOver_22 (by decide) ?_
    refine kr_sub [] rfl ?_
    exact r_X12_isOver_29 E (-1 : Int32) M3
theorem dX12_fault_0 : decode cX12_fault 0 = .ok (.aload_n 0, 1) := by decide +kernel
theorem dX12_fault_1 : decode cX12_fault 1 = .ok (.iconst 0, 1) := by decide +kernel
theorem dX12_fault_2 : decode cX12_fault 2 = .ok (.putfield 138, 3) := by decide +kernel
theorem dX12_fault_5 : decode cX12_fault 5 = .ok (.iload_n 1, 1) := by decide +kernel
theorem dX12_fault_6 : decode cX12_fault 6 = .ok (.ifCond .ne 10, 3) := by decide +kernel
theorem dX12_fault_9 : decode cX12_fault 9 = .ok (.aload_n 0, 1) := by decide +kernel
theorem dX12_fault_10 : decode cX12_fault 10 = .ok (.getfield 217, 3) := by decide +kernel
theorem dX12_fault_13 : decode cX12_fault 13 = .ok (.goto 16, 3) := by decide +kernel
theorem dX12_fault_16 : decode cX12_fault 16 = .ok (.iload_n 1, 1) := by decide +kernel
theorem dX12_fault_17 : decode cX12_fault 17 = .ok (.iconst 1, 1) := by decide +kernel
theorem dX12_fault_18 : decode cX12_fault 18 = .ok (.if_icmp .ne 10, 3) := by decide +kernel
theorem dX12_fault_21 : decode cX12_fault 21 = .ok (.aload_n 0, 1) := by decide +kernel
theorem dX12_fault_22 : decode cX12_fault 22 = .ok (.getfield 27, 3) := by decide +kernel
theorem dX12_fault_25 : decode cX12_fault 25 = .ok (.goto 4, 3) := by decide +kernel
theorem dX12_fault_28 : decode cX12_fault 28 = .ok (.iconst (-1), 1) := by decide +kernel
theorem dX12_fault_29 : decode cX12_fault 29 = .ok (.ireturn, 1) := by decide +kernel
theorem r_X12_fault (E : kr_E) (p1 : Int32) (M : kr_M) : kR kr_vi E Y_X12_fault 1 0 [(0, kr_r E 346), (1, .int p1)] [] M (f_X12_fault p1 M) := by
  rw [f_X12_fault]
  refine kr_aload_n dX12_fault_0 rfl 0 rfl ?_
  refine kr_iconst (v := 0) dX12_fault_1 (by decide) ?_
  refine kr_putI (ci := 12) (j := 0) dX12_fault_2 kr_at_346 fl_RX12_138 rfl rfl (fun M1 => ?_)
  refine kr_iload_n dX12_fault_5 rfl 1 rfl ?_
  refine kr_if_ne (tgt := 16) dX12_fault_6 (by decide) ?_ ?_
  · refine kr_iload_n dX12_fault_16 rfl 1 rfl ?_
    refine kr_iconst (v := 1) dX12_fault_17 (by decide) ?_
    refine kr_icmp_ne (tgt := 28) dX12_fault_18 (by decide) ?_ ?_
    · refine kr_iconst (v := -1) dX12_fault_28 (by decide) ?_
      exact kr_iret dX12_fault_29 rfl
    · refine kr_aload_n dX12_fault_21 rfl 0 rfl ?_
      refine kr_getI (ci := 12) (j := 15) dX12_fault_22 kr_at_346 fl_RX12_27 rfl (fun v2 => ?_)
      refine kr_goto (tgt := 29) dX12_fault_25 (by decide) ?_
      exact kr_iret dX12_fault_29 rfl
  · refine kr_aload_n dX12_fault_9 rfl 0 rfl ?_
    refine kr_getI (ci := 12) (j := 14) dX12_fault_10 kr_at_346 fl_RX12_217 rfl (fun v3 => ?_)
    refine kr_goto (tgt := 29) dX12_fault_13 (by decide) ?_
    exact kr_iret dX12_fault_29 rfl
