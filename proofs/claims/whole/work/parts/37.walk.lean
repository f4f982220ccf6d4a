theorem dX11_cut_0 : decode cX11_cut 0 = .ok (.aload_n 0, 1) := by decide +kernel
theorem dX11_cut_1 : decode cX11_cut 1 = .ok (.getfield 19, 3) := by decide +kernel
theorem dX11_cut_4 : decode cX11_cut 4 = .ok (.iload_n 1, 1) := by decide +kernel
theorem dX11_cut_5 : decode cX11_cut 5 = .ok (.invokevirtual 154, 3) := by decide +kernel
theorem dX11_cut_8 : decode cX11_cut 8 = .ok (.ifCond .eq 27, 3) := by decide +kernel
theorem dX11_cut_11 : decode cX11_cut 11 = .ok (.iload_n 2, 1) := by decide +kernel
theorem dX11_cut_12 : decode cX11_cut 12 = .ok (.iconst 1, 1) := by decide +kernel
theorem dX11_cut_13 : decode cX11_cut 13 = .ok (.if_icmp .lt 22, 3) := by decide +kernel
theorem dX11_cut_16 : decode cX11_cut 16 = .ok (.iload_n 2, 1) := by decide +kernel
theorem dX11_cut_17 : decode cX11_cut 17 = .ok (.aload_n 0, 1) := by decide +kernel
theorem dX11_cut_18 : decode cX11_cut 18 = .ok (.getfield 19, 3) := by decide +kernel
theorem dX11_cut_21 : decode cX11_cut 21 = .ok (.getfield 157, 3) := by decide +kernel
theorem dX11_cut_24 : decode cX11_cut 24 = .ok (.iload_n 1, 1) := by decide +kernel
theorem dX11_cut_25 : decode cX11_cut 25 = .ok (.aaload, 1) := by decide +kernel
theorem dX11_cut_26 : decode cX11_cut 26 = .ok (.getfield 172, 3) := by decide +kernel
theorem dX11_cut_29 : decode cX11_cut 29 = .ok (.getfield 175, 3) := by decide +kernel
theorem dX11_cut_32 : decode cX11_cut 32 = .ok (.if_icmp .lt 6, 3) := by decide +kernel
theorem dX11_cut_35 : decode cX11_cut 35 = .ok (.bipush (-2), 2) := by decide +kernel
theorem dX11_cut_37 : decode cX11_cut 37 = .ok (.ireturn, 1) := by decide +kernel
theorem dX11_cut_38 : decode cX11_cut 38 = .ok (.aload_n 0, 1) := by decide +kernel
theorem dX11_cut_39 : decode cX11_cut 39 = .ok (.getfield 19, 3) := by decide +kernel
theorem dX11_cut_42 : decode cX11_cut 42 = .ok (.invokevirtual 374, 3) := by decide +kernel
theorem dX11_cut_45 : decode cX11_cut 45 = .ok (.ifCond .eq 6, 3) := by decide +kernel
theorem dX11_cut_48 : decode cX11_cut 48 = .ok (.bipush (-5), 2) := by decide +kernel
theorem dX11_cut_50 : decode cX11_cut 50 = .ok (.ireturn, 1) := by decide +kernel
theorem dX11_cut_51 : decode cX11_cut 51 = .ok (.aload_n 0, 1) := by decide +kernel
theorem dX11_cut_52 : decode cX11_cut 52 = .ok (.getfield 19, 3) := by decide +kernel
theorem dX11_cut_55 : decode cX11_cut 55 = .ok (.getfield 157, 3) := by decide +kernel
theorem dX11_cut_58 : decode cX11_cut 58 = .ok (.iload_n 1, 1) := by decide +kernel
theorem dX11_cut_59 : decode cX11_cut 59 = .ok (.aaload, 1) := by decide +kernel
theorem dX11_cut_60 : decode cX11_cut 60 = .ok (.getfield 172, 3) := by decide +kernel
theorem dX11_cut_63 : decode cX11_cut 63 = .ok (.getfield 175, 3) := by decide +kernel
theorem dX11_cut_66 : decode cX11_cut 66 = .ok (.iload_n 2, 1) := by decide +kernel
theorem dX11_cut_67 : decode cX11_cut 67 = .ok (.isub, 1) := by decide +kernel
theorem dX11_cut_68 : decode cX11_cut 68 = .ok (.istore_n 3, 1) := by decide +kernel
theorem dX11_cut_69 : decode cX11_cut 69 = .ok (.aload_n 0, 1) := by decide +kernel
theorem dX11_cut_70 : decode cX11_cut 70 = .ok (.getfield 19, 3) := by decide +kernel
theorem dX11_cut_73 : decode cX11_cut 73 = .ok (.iconst 2, 1) := by decide +kernel
theorem dX11_cut_74 : decode cX11_cut 74 = .ok (.iload_n 1, 1) := by decide +kernel
theorem dX11_cut_75 : decode cX11_cut 75 = .ok (.iload_n 2, 1) := by decide +kernel
theorem dX11_cut_76 : decode cX11_cut 76 = .ok (.iconst 0, 1) := by decide +kernel
theorem dX11_cut_77 : decode cX11_cut 77 = .ok (.invokevirtual 377, 3) := by decide +kernel
theorem dX11_cut_80 : decode cX11_cut 80 = .ok (.iload_n 3, 1) := by decide +kernel
theorem dX11_cut_81 : decode cX11_cut 81 = .ok (.ireturn, 1) := by decide +kernel
theorem r_X11_cut (E : kr_E) (p1 : Int32) (p2 : Int32) (M : kr_M) : kR kr_vi E Y_X11_cut 5 0 [(0, kr_r E 0), (1, .int p1), (2, .int p2)] [] M (f_X11_cut p1 p2 M) := by
  rw [f_X11_cut]
  refine kr_aload_n dX11_cut_0 rfl 0 rfl ?_
  refine kr_getG (o := 0) (ci := 11) (j := 1) dX11_cut_1 kr_at_0 fl_RX11_19 rfl (fun g1 h_g1 => ?_)
  refine kr_iload_n dX11_cut_4 rfl 1 rfl ?_
  refine kr_Vi (As := [.int p1]) (st := []) zv_X2_hasRope dX11_cut_5 ml_RX11_154 h_g1 (r_X2_hasRope E g1 h_g1 p1 M) rfl rfl (Nat.le_of_ble_eq_true rfl) rfl (by decide) (Nat.le_of_ble_eq_true rfl) (fun r3 M2 => ?_)
  refine kr_if_eq (tgt := 35) dX11_cut_8 (by decide) ?_ ?_
  · refine kr_bipush (v := -2) dX11_cut_35 (by decide) ?_
    exact kr_iret dX11_cut_37 rfl
  · refine kr_iload_n dX11_cut_11 rfl 2 rfl ?_
    refine kr_iconst (v := 1) dX11_cut_12 (by decide) ?_
    refine kr_icmp_lt (tgt := 35) dX11_cut_13 (by decide) ?_ ?_
    · refine kr_bipush (v := -2) dX11_cut_35 (by decide) ?_
      exact kr_iret dX11_cut_37 rfl
    · refine kr_iload_n dX11_cut_16 rfl 2 rfl ?_
      refine kr_aload_n dX11_cut_17 rfl 0 rfl ?_
      refine kr_getG (o := 0) (ci := 11) (j := 1) dX11_cut_18 kr_at_0 fl_RX11_19 rfl (fun g4 h_g4 => ?_)
      refine kr_getA (o := 5) (ci := 2) (j := 14) dX11_cut_21 h_g4 fl_RX11_157 rfl ?_
      refine kr_iload_n dX11_cut_24 rfl 1 rfl ?_
      refine kr_aaldR dX11_cut_25 h_g4 (fun h5 => ?_)
      refine kr_getA (o := 3) (ci := 5) (j := 5) dX11_cut_26 h5 fl_RX11_172 rfl ?_
      refine kr_getI (ci := 7) (j := 1) dX11_cut_29 (kr_shR3 _ h5) fl_RX11_175 rfl (fun v6 => ?_)
      refine kr_icmp_lt (tgt := 38) dX11_cut_32 (by decide) ?_ ?_
      · refine kr_aload_n dX11_cut_38 rfl 0 rfl ?_
        refine kr_getG (o := 0) (ci := 11) (j := 1) dX11_cut_39 kr_at_0 fl_RX11_19 rfl (fun g7 h_g7 => ?_)
        refine kr_Vi (As := []) (st := []) zv_X2_isTired dX11_cut_42 ml_RX11_374 h_g7 (r_X2_isTired E g7 h_g7 M2) rfl rfl (Nat.le_of_ble_eq_true rfl) rfl (by decide) (Nat.le_of_ble_eq_true rfl) (fun r9 M8 => ?_)
        refine kr_if_eq (tgt := 51) dX11_cut_45 (by decide) ?_ ?_
        · refine kr_aload_n dX11_cut_51 rfl 0 rfl ?_
          refine kr_getG (o := 0) (ci := 11) (j := 1) dX11_cut_52 kr_at_0 fl_RX11_19 rfl (fun g10 h_g10 => ?_)
          refine kr_getA (o := 5) (ci := 2) (j := 14) dX11_cut_55 h_g10 fl_RX11_157 rfl ?_
          refine kr_iload_n dX11_cut_58 rfl 1 rfl ?_
          refine kr_aaldR dX11_cut_59 h_g10 (fun h11 => ?_)
          refine kr_getA (o := 3) (ci := 5) (j := 5) dX11_cut_60 h11 fl_RX11_172 rfl ?_
          refine kr_getI (ci := 7) (j := 1) dX11_cut_63 (kr_shR3 _ h11) fl_RX11_175 rfl (fun v12 => ?_)
          refine kr_iload_n dX11_cut_66 rfl 2 rfl ?_
          refine kr_isub dX11_cut_67 ?_
          refine kr_nmi (fun v13 => ?_)
          refine kr_istore_n (lv' := [(3, .int v13), (0, kr_r E 0), (1, .int p1), (2, .int p2)]) dX11_cut_68 rfl (by decide) rfl ?_
          refine kr_aload_n dX11_cut_69 rfl 1 rfl ?_
          refine kr_getG (o := 0) (ci := 11) (j := 1) dX11_cut_70 kr_at_0 fl_RX11_19 rfl (fun g14 h_g14 => ?_)
          refine kr_iconst (v := 2) dX11_cut_73 (by decide) ?_
          refine kr_iload_n dX11_cut_74 rfl 2 rfl ?_
          refine kr_iload_n dX11_cut_75 rfl 3 rfl ?_
          refine kr_iconst (v := 0) dX11_cut_76 (by decide) ?_
          refine kr_Vv (As := [.int (2 : Int32), .int p1, .int p2, .int (0 : Int32)]) (st := []) zv_X2_act dX11_cut_77 ml_RX11_377 h_g14 (r_X2_act E g14 h_g14 (2 : Int32) p1 p2 (0 : Int32) M8) rfl rfl (Nat.le_of_ble_eq_true rfl) rfl (by decide) (Nat.le_of_ble_eq_true rfl) (fun M15 => ?_)
          refine kr_iload_n dX11_cut_80 rfl 0 rfl ?_
          exact kr_iret dX11_cut_81 rfl
        · refine kr_bipush (v := -5) dX11_cut_48 (by decide) ?_
          exact kr_iret dX11_cut_50 rfl
      · refine kr_bipush (v := -2) dX11_cut_35 (by decide) ?_
        exact kr_iret dX11_cut_37 rfl
theorem dX11_splice_0 : decode cX11_splice 0 = .ok (.aload_n 0, 1) := by decide +kernel
theorem dX11_splice_1 : decode cX11_splice 1 = .ok (.iload_n 1, 1) := by decide +kernel
theorem dX11_splice_2 : decode cX11_splice 2 = .ok (.iload_n 2, 1) := by decide +kernel
theorem dX11_splice_3 : decode cX11_splice 3 = .ok (.invokevirtual 279, 3) := by decide +kernel
theorem dX11_splice_6 : decode cX11_splice 6 = .ok (.ifCond .ne 6, 3) := by decide +kernel
theorem dX11_splice_9 : decode cX11_splice 9 = .ok (.bipush (-2), 2) := by decide +kernel
theorem dX11_splice_11 : decode cX11_splice 11 = .ok (.ireturn, 1) := by decide +kernel
theorem dX11_splice_12 : decode cX11_splice 12 = .ok (.aload_n 0, 1) := by decide +kernel
theorem dX11_splice_13 : decode cX11_splice 13 = .ok (.getfield 19, 3) := by decide +kernel
theorem dX11_splice_16 : decode cX11_splice 16 = .ok (.getfield 157, 3) := by decide +kernel
theorem dX11_splice_19 : decode cX11_splice 19 = .ok (.iload_n 1, 1) := by decide +kernel
theorem dX11_splice_20 : decode cX11_splice 20 = .ok (.aaload, 1) := by decide +kernel
theorem dX11_splice_21 : decode cX11_splice 21 = .ok (.getfield 172, 3) := by decide +kernel
theorem dX11_splice_24 : decode cX11_splice 24 = .ok (.getfield 175, 3) := by decide +kernel
theorem dX11_splice_27 : decode cX11_splice 27 = .ok (.aload_n 0, 1) := by decide +kernel
theorem dX11_splice_28 : decode cX11_splice 28 = .ok (.getfield 19, 3) := by decide +kernel
theorem dX11_splice_31 : decode cX11_splice 31 = .ok (.getfield 157, 3) := by decide +kernel
theorem dX11_splice_34 : decode cX11_splice 34 = .ok (.iload_n 2, 1) := by decide +kernel
theorem dX11_splice_35 : decode cX11_splice 35 = .ok (.aaload, 1) := by decide +kernel
theorem dX11_splice_36 : decode cX11_splice 36 = .ok (.getfield 172, 3) := by decide +kernel
theorem dX11_splice_39 : decode cX11_splice 39 = .ok (.getfield 175, 3) := by decide +kernel
theorem dX11_splice_42 : decode cX11_splice 42 = .ok (.iadd, 1) := by decide +kernel
theorem dX11_splice_43 : decode cX11_splice 43 = .ok (.istore_n 3, 1) := by decide +kernel
theorem dX11_splice_44 : decode cX11_splice 44 = .ok (.iload_n 3, 1) := by decide +kernel
theorem dX11_splice_45 : decode cX11_splice 45 = .ok (.bipush 24, 2) := by decide +kernel
theorem dX11_splice_47 : decode cX11_splice 47 = .ok (.if_icmp .gt 13, 3) := by decide +kernel
theorem dX11_splice_50 : decode cX11_splice 50 = .ok (.aload_n 0, 1) := by decide +kernel
theorem dX11_splice_51 : decode cX11_splice 51 = .ok (.getfield 19, 3) := by decide +kernel
theorem dX11_splice_54 : decode cX11_splice 54 = .ok (.invokevirtual 374, 3) := by decide +kernel
theorem dX11_splice_57 : decode cX11_splice 57 = .ok (.ifCond .eq 6, 3) := by decide +kernel
theorem dX11_splice_60 : decode cX11_splice 60 = .ok (.bipush (-5), 2) := by decide +kernel
theorem dX11_splice_62 : decode cX11_splice 62 = .ok (.ireturn, 1) := by decide +kernel
theorem dX11_splice_63 : decode cX11_splice 63 = .ok (.aload_n 0, 1) := by decide +kernel
theorem dX11_splice_64 : decode cX11_splice 64 = .ok (.getfield 19, 3) := by decide +kernel
theorem dX11_splice_67 : decode cX11_splice 67 = .ok (.iconst 3, 1) := by decide +kernel
theorem dX11_splice_68 : decode cX11_splice 68 = .ok (.iload_n 1, 1) := by decide +kernel
theorem dX11_splice_69 : decode cX11_splice 69 = .ok (.iload_n 2, 1) := by decide +kernel
theorem dX11_splice_70 : decode cX11_splice 70 = .ok (.iconst 0, 1) := by decide +kernel
theorem dX11_splice_71 : decode cX11_splice 71 = .ok (.invokevirtual 377, 3) := by decide +kernel
theorem dX11_splice_74 : decode cX11_splice 74 = .ok (.iload_n 3, 1) := by decide +kernel
theorem dX11_splice_75 : decode cX11_splice 75 = .ok (.ireturn, 1) := by decide +kernel
theorem r_X11_splice (E : kr_E) (p1 : Int32) (p2 : Int32) (M : kr_M) : kR kr_vi E Y_X11_splice 5 0 [(0, kr_r E 0), (1, .int p1), (2, .int p2)] [] M (f_X11_splice p1 p2 M) := by
  rw [f_X11_splice]
  refine kr_aload_n dX11_splice_0 rfl 0 rfl ?_
  refine kr_iload_n dX11_splice_1 rfl 1 rfl ?_
  refine kr_iload_n dX11_splice_2 rfl 2 rfl ?_
  refine kr_Vi (As := [.int p1, .int p2]) (st := []) zv_X11_hasRopes dX11_splice_3 ml_RX11_279 kr_at_0 (r_X11_hasRopes E p1 p2 M) rfl rfl (Nat.le_of_ble_eq_true rfl) rfl (by decide) (Nat.le_of_ble_eq_true rfl) (fun r2 M1 => ?_)
  refine kr_if_ne (tgt := 12) dX11_splice_6 (by decide) ?_ ?_
  · refine kr_aload_n dX11_splice_12 rfl 0 rfl ?_
    refine kr_getG (o := 0) (ci := 11) (j := 1) dX11_splice_13 kr_at_0 fl_RX11_19 rfl (fun g3 h_g3 => ?_)
    refine kr_getA (o := 5) (ci := 2) (j := 14) dX11_splice_16 h_g3 fl_RX11_157 rfl ?_
    refine kr_iload_n dX11_splice_19 rfl 1 rfl ?_
    refine kr_aaldR dX11_splice_20 h_g3 (fun h4 => ?_)
    refine kr_getA (o := 3) (ci := 5) (j := 5) dX11_splice_21 h4 fl_RX11_172 rfl ?_
    refine kr_getI (ci := 7) (j := 1) dX11_splice_24 (kr_shR3 _ h4) fl_RX11_175 rfl (fun v5 => ?_)
    refine kr_aload_n dX11_splice_27 rfl 0 rfl ?_
    refine kr_getG (o := 0) (ci := 11) (j := 1) dX11_splice_28 kr_at_0 fl_RX11_19 rfl (fun g6 h_g6 => ?_)
    refine kr_getA (o := 5) (ci := 2) (j := 14) dX11_splice_31 h_g6 fl_RX11_157 rfl ?_
    refine kr_iload_n dX11_splice_34 rfl 2 rfl ?_
    refine kr_aaldR dX11_splice_35 h_g6 (fun h7 => ?_)
    refine kr_getA (o := 3) (ci := 5) (j := 5) dX11_splice_36 h7 fl_RX11_172 rfl ?_
    refine kr_getI (ci := 7) (j := 1) dX11_splice_39 (kr_shR3 _ h7) fl_RX11_175 rfl (fun v8 => ?_)
    refine kr_iadd dX11_splice_42 ?_
    refine kr_nmi (fun v9 => ?_)
    refine kr_istore_n (lv' := [(3, .int v9), (0, kr_r E 0), (1, .int p1), (2, .int p2)]) dX11_splice_43 rfl (by decide) rfl ?_
    refine kr_iload_n dX11_splice_44 rfl 0 rfl ?_
    refine kr_bipush (v := 24) dX11_splice_45 (by decide) ?_
    refine kr_icmp_gt (tgt := 60) dX11_splice_47 (by decide) ?_ ?_
    · refine kr_bipush (v := -5) dX11_splice_60 (by decide) ?_
      exact kr_iret dX11_splice_62 rfl
    · refine kr_aload_n dX11_splice_50 rfl 1 rfl ?_
      refine kr_getG (o := 0) (ci := 11) (j := 1) dX11_splice_51 kr_at_0 fl_RX11_19 rfl (fun g10 h_g10 => ?_)
      refine kr_Vi (As := []) (st := []) zv_X2_isTired dX11_splice_54 ml_RX11_374 h_g10 (r_X2_isTired E g10 h_g10 M1) rfl rfl (Nat.le_of_ble_eq_true rfl) rfl (by decide) (Nat.le_of_ble_eq_true rfl) (fun r12 M11 => ?_)
      refine kr_if_eq (tgt := 63) dX11_splice_57 (by decide) ?_ ?_
      · refine kr_aload_n dX11_splice_63 rfl 1 rfl ?_
        refine kr_getG (o := 0) (ci := 11) (j := 1) dX11_splice_64 kr_at_0 fl_RX11_19 rfl (fun g13 h_g13 => ?_)
        refine kr_iconst (v := 3) dX11_splice_67 (by decide) ?_
        refine kr_iload_n dX11_splice_68 rfl 2 rfl ?_
        refine kr_iload_n dX11_splice_69 rfl 3 rfl ?_
        refine kr_iconst (v := 0) dX11_splice_70 (by decide) ?_
        refine kr_Vv (As := [.int (3 : Int32), .int p1, .int p2, .int (0 : Int32)]) (st := []) zv_X2_act dX11_splice_71 ml_RX11_377 h_g13 (r_X2_act E g13 h_g13 (3 : Int32) p1 p2 (0 : Int32) M11) rfl rfl (Nat.le_of_ble_eq_true rfl) rfl (by decide) (Nat.le_of_ble_eq_true rfl) (fun M14 => ?_)
        refine kr_iload_n dX11_splice_74 rfl 0 rfl ?_
        exact kr_iret dX11_splice_75 rfl
      · refine kr_bipush (v := -5) dX11_splice_60 (by decide) ?_
        exact kr_iret dX11_splice_62 rfl
  · refine kr_bipush (v := -2) dX11_splice_9 (by decide) ?_
    exact kr_iret dX11_splice_11 rfl
theorem dX11_wet_0 : decode cX11_wet 0 = .ok (.aload_n 0, 1) := by decide +kernel
theorem dX11_wet_1 : decode cX11_wet 1 = .ok (.getfield 19, 3) := by decide +kernel
theorem dX11_wet_4 : decode cX11_wet 4 = .ok (.invokevirtual 238, 3) := by decide +kernel
theorem dX11_wet_7 : decode cX11_wet 7 = .ok (.ifCond .eq 12, 3) := by decide +kernel
theorem dX11_wet_10 : decode cX11_wet 10 = .ok (.iload_n 1, 1) := by decide +kernel
theorem dX11_wet_11 : decode cX11_wet 11 = .ok (.ifCond .lt 8, 3) := by decide +kernel
theorem dX11_wet_14 : decode cX11_wet 14 = .ok (.iload_n 1, 1) := by decide +kernel
theorem dX11_wet_15 : decode cX11_wet 15 = .ok (.iconst 1, 1) := by decide +kernel
theorem dX11_wet_16 : decode cX11_wet 16 = .ok (.if_icmp .le 6, 3) := by decide +kernel
theorem dX11_wet_19 : decode cX11_wet 19 = .ok (.bipush (-2), 2) := by decide +kernel
theorem dX11_wet_21 : decode cX11_wet 21 = .ok (.ireturn, 1) := by decide +kernel
theorem dX11_wet_22 : decode cX11_wet 22 = .ok (.aload_n 0, 1) := by decide +kernel
theorem dX11_wet_23 : decode cX11_wet 23 = .ok (.getfield 19, 3) := by decide +kernel
theorem dX11_wet_26 : decode cX11_wet 26 = .ok (.invokevirtual 374, 3) := by decide +kernel
theorem dX11_wet_29 : decode cX11_wet 29 = .ok (.ifCond .eq 6, 3) := by decide +kernel
theorem dX11_wet_32 : decode cX11_wet 32 = .ok (.bipush (-5), 2) := by decide +kernel
theorem dX11_wet_34 : decode cX11_wet 34 = .ok (.ireturn, 1) := by decide +kernel
theorem dX11_wet_35 : decode cX11_wet 35 = .ok (.aload_n 0, 1) := by decide +kernel
theorem dX11_wet_36 : decode cX11_wet 36 = .ok (.getfield 19, 3) := by decide +kernel
theorem dX11_wet_39 : decode cX11_wet 39 = .ok (.getfield 381, 3) := by decide +kernel
theorem dX11_wet_42 : decode cX11_wet 42 = .ok (.istore_n 2, 1) := by decide +kernel
theorem dX11_wet_43 : decode cX11_wet 43 = .ok (.aload_n 0, 1) := by decide +kernel
theorem dX11_wet_44 : decode cX11_wet 44 = .ok (.getfield 19, 3) := by decide +kernel
theorem dX11_wet_47 : decode cX11_wet 47 = .ok (.iconst 4, 1) := by decide +kernel
theorem dX11_wet_48 : decode cX11_wet 48 = .ok (.iload_n 1, 1) := by decide +kernel
theorem dX11_wet_49 : decode cX11_wet 49 = .ok (.iconst 0, 1) := by decide +kernel
theorem dX11_wet_50 : decode cX11_wet 50 = .ok (.iconst 0, 1) := by decide +kernel
theorem dX11_wet_51 : decode cX11_wet 51 = .ok (.invokevirtual 377, 3) := by decide +kernel
theorem dX11_wet_54 : decode cX11_wet 54 = .ok (.iload_n 2, 1) := by decide +kernel
theorem dX11_wet_55 : decode cX11_wet 55 = .ok (.ireturn, 1) := by decide +kernel
theorem r_X11_wet (E : kr_E) (p1 : Int32) (M : kr_M) : kR kr_vi E Y_X11_wet 5 0 [(0, kr_r E 0), (1, .int p1)] [] M (f_X11_wet p1 M) := by
  rw [f_X11_wet]
  refine kr_aload_n dX11_wet_0 rfl 0 rfl ?_
  refine kr_getG (o := 0) (ci := 11) (j := 1) dX11_wet_1 kr_at_0 fl_RX11_19 rfl (fun g1 h_g1 => ?_)
  refine kr_Vi (As := []) (st := []) zv_X2_isTold dX11_wet_4 ml_RX11_238 h_g1 (r_X2_isTold E g1 h_g1 M) rfl rfl (Nat.le_of_ble_eq_true rfl) rfl (by decide) (Nat.le_of_ble_eq_true rfl) (fun r3 M2 => ?_)
  refine kr_if_eq (tgt := 19) dX11_wet_7 (by decide) ?_ ?_
  · refine kr_bipush (v := -2) dX11_wet_19 (by decide) ?_
    exact kr_iret dX11_wet_21 rfl
  · refine kr_iload_n dX11_wet_10 rfl 1 rfl ?_
    refine kr_if_lt (tgt := 19) dX11_wet_11 (by decide) ?_ ?_
    · refine kr_bipush (v := -2) dX11_wet_19 (by decide) ?_
      exact kr_iret dX11_wet_21 rfl
    · refine kr_iload_n dX11_wet_14 rfl 1 rfl ?_
      refine kr_iconst (v := 1) dX11_wet_15 (by decide) ?_
      refine kr_icmp_le (tgt := 22) dX11_wet_16 (by decide) ?_ ?_
      · refine kr_aload_n dX11_wet_22 rfl 0 rfl ?_
        refine kr_getG (o := 0) (ci := 11) (j := 1) dX11_wet_23 kr_at_0 fl_RX11_19 rfl (fun g4 h_g4 => ?_)
        refine kr_Vi (As := []) (st := []) zv_X2_isTired dX11_wet_26 ml_RX11_374 h_g4 (r_X2_isTired E g4 h_g4 M2) rfl rfl (Nat.le_of_ble_eq_true rfl) rfl (by decide) (Nat.le_of_ble_eq_true rfl) (fun r6 M5 => ?_)
        refine kr_if_eq (tgt := 35) dX11_wet_29 (by decide) ?_ ?_
        · refine kr_aload_n dX11_wet_35 rfl 0 rfl ?_
          refine kr_getG (o := 0) (ci := 11) (j := 1) dX11_wet_36 kr_at_0 fl_RX11_19 rfl (fun g7 h_g7 => ?_)
          refine kr_getI (ci := 2) (j := 8) dX11_wet_39 h_g7 fl_RX11_381 rfl (fun v8 => ?_)
          refine kr_istore_n (lv' := [(2, .int v8), (0, kr_r E 0), (1, .int p1)]) dX11_wet_42 rfl (by decide) rfl ?_
          refine kr_aload_n dX11_wet_43 rfl 1 rfl ?_
          refine kr_getG (o := 0) (ci := 11) (j := 1) dX11_wet_44 kr_at_0 fl_RX11_19 rfl (fun g9 h_g9 => ?_)
          refine kr_iconst (v := 4) dX11_wet_47 (by decide) ?_
          refine kr_iload_n dX11_wet_48 rfl 2 rfl ?_
          refine kr_iconst (v := 0) dX11_wet_49 (by decide) ?_
          refine kr_iconst (v := 0) dX11_wet_50 (by decide) ?_
          refine kr_Vv (As := [.int (4 : Int32), .int p1, .int (0 : Int32), .int (0 : Int32)]) (st := []) zv_X2_act dX11_wet_51 ml_RX11_377 h_g9 (r_X2_act E g9 h_g9 (4 : Int32) p1 (0 : Int32) (0 : Int32) M5) rfl rfl (Nat.le_of_ble_eq_true rfl) rfl (by decide) (Nat.le_of_ble_eq_true rfl) (fun M10 => ?_)
          refine kr_iload_n dX11_wet_54 rfl 0 rfl ?_
          exact kr_iret dX11_wet_55 rfl
        · refine kr_bipush (v := -5) dX11_wet_32 (by decide) ?_
          exact kr_iret dX11_wet_34 rfl
      · refine kr_bipush (v := -2) dX11_wet_19 (by decide) ?_
        exact kr_iret dX11_wet_21 rfl
theorem dX11_undo_0 : decode cX11_undo 0 = .ok (.aload_n 0, 1) := by decide +kernel
theorem dX11_undo_1 : decode cX11_undo 1 = .ok (.getfield 19, 3) := by decide +kernel
theorem dX11_undo_4 : decode cX11_undo 4 = .ok (.invokevirtual 238, 3) := by decide +kernel
theorem dX11_undo_7 : decode cX11_undo 7 = .ok (.ifCond .ne 6, 3) := by decide +kernel
theorem dX11_undo_10 : decode cX11_undo 10 = .ok (.bipush (-2), 2) := by decide +kernel
theorem dX11_undo_12 : decode cX11_undo 12 = .ok (.ireturn, 1) := by decide +kernel
theorem dX11_undo_13 : decode cX11_undo 13 = .ok (.aload_n 0, 1) := by decide +kernel
theorem dX11_undo_14 : decode cX11_undo 14 = .ok (.getfield 19, 3) := by decide +kernel
theorem dX11_undo_17 : decode cX11_undo 17 = .ok (.getfield 384, 3) := by decide +kernel
theorem dX11_undo_20 : decode cX11_undo 20 = .ok (.ifCond .ne 6, 3) := by decide +kernel
theorem dX11_undo_23 : decode cX11_undo 23 = .ok (.bipush (-5), 2) := by decide +kernel
theorem dX11_undo_25 : decode cX11_undo 25 = .ok (.ireturn, 1) := by decide +kernel
theorem dX11_undo_26 : decode cX11_undo 26 = .ok (.aload_n 0, 1) := by decide +kernel
theorem dX11_undo_27 : decode cX11_undo 27 = .ok (.getfield 19, 3) := by decide +kernel
theorem dX11_undo_30 : decode cX11_undo 30 = .ok (.aload_n 0, 1) := by decide +kernel
theorem dX11_undo_31 : decode cX11_undo 31 = .ok (.getfield 19, 3) := by decide +kernel
theorem dX11_undo_34 : decode cX11_undo 34 = .ok (.getfield 384, 3) := by decide +kernel
theorem dX11_undo_37 : decode cX11_undo 37 = .ok (.iconst 1, 1) := by decide +kernel
theorem dX11_undo_38 : decode cX11_undo 38 = .ok (.isub, 1) := by decide +kernel
theorem dX11_undo_39 : decode cX11_undo 39 = .ok (.invokevirtual 387, 3) := by decide +kernel
theorem dX11_undo_42 : decode cX11_undo 42 = .ok (.aload_n 0, 1) := by decide +kernel
theorem dX11_undo_43 : decode cX11_undo 43 = .ok (.getfield 19, 3) := by decide +kernel
theorem dX11_undo_46 : decode cX11_undo 46 = .ok (.getfield 384, 3) := by decide +kernel
theorem dX11_undo_49 : decode cX11_undo 49 = .ok (.ireturn, 1) := by decide +kernel
theorem r_X11_undo (E : kr_E)  (M : kr_M) : kR kr_vi E Y_X11_undo 7 0 [(0, kr_r E 0)] [] M (f_X11_undo M) := by
  rw [f_X11_undo]
  refine kr_aload_n dX11_undo_0 rfl 0 rfl ?_
  refine kr_getG (o := 0) (ci := 11) (j := 1) dX11_undo_1 kr_at_0 fl_RX11_19 rfl (fun g1 h_g1 => ?_)
  refine kr_Vi (As := []) (st := []) zv_X2_isTold dX11_undo_4 ml_RX11_238 h_g1 (r_X2_isTold E g1 h_g1 M) rfl rfl (Nat.le_of_ble_eq_true rfl) rfl (by decide) (Nat.le_of_ble_eq_true rfl) (fun r3 M2 => ?_)
  refine kr_if_ne (tgt := 13) dX11_undo_7 (by decide) ?_ ?_
  · refine kr_aload_n dX11_undo_13 rfl 0 rfl ?_
    refine kr_getG (o := 0) (ci := 11) (j := 1) dX11_undo_14 kr_at_0 fl_RX11_19 rfl (fun g4 h_g4 => ?_)
    refine kr_getI (ci := 2) (j := 9) dX11_undo_17 h_g4 fl_RX11_384 rfl (fun v5 => ?_)
    refine kr_if_ne (tgt := 26) dX11_undo_20 (by decide) ?_ ?_
    · refine kr_aload_n dX11_undo_26 rfl 0 rfl ?_
      refine kr_getG (o := 0) (ci := 11) (j := 1) dX11_undo_27 kr_at_0 fl_RX11_19 rfl (fun g6 h_g6 => ?_)
      refine kr_aload_n dX11_undo_30 rfl 0 rfl ?_
      refine kr_getG (o := 0) (ci := 11) (j := 1) dX11_undo_31 kr_at_0 fl_RX11_19 rfl (fun g7 h_g7 => ?_)
      refine kr_getI (ci := 2) (j := 9) dX11_undo_34 h_g7 fl_RX11_384 rfl (fun v8 => ?_)
      refine kr_iconst (v := 1) dX11_undo_37 (by decide) ?_
      refine kr_isub dX11_undo_38 ?_
      refine kr_Vv (As := [.int (v8 - (1 : Int32))]) (st := []) zv_X2_takeBackTo dX11_undo_39 ml_RX11_387 h_g6 (r_X2_takeBackTo E g6 h_g6 (v8 - (1 : Int32)) M2) rfl rfl (Nat.le_of_ble_eq_true rfl) rfl (by decide) (Nat.le_of_ble_eq_true rfl) (fun M9 => ?_)
      refine kr_aload_n dX11_undo_42 rfl 0 rfl ?_
      refine kr_getG (o := 0) (ci := 11) (j := 1) dX11_undo_43 kr_at_0 fl_RX11_19 rfl (fun g11 h_g11 => ?_)
      refine kr_getI (ci := 2) (j := 9) dX11_undo_46 h_g11 fl_RX11_384 rfl (fun v12 => ?_)
      exact kr_iret dX11_undo_49 rfl
    · refine kr_bipush (v := -5) dX11_undo_23 (by decide) ?_
      exact kr_iret dX11_undo_25 rfl
  · refine kr_bipush (v := -2) dX11_undo_10 (by decide) ?_
    exact kr_iret dX11_undo_12 rfl
theorem dX11_anew_0 : decode cX11_anew 0 = .ok (.aload_n 0, 1) := by decide +kernel
theorem dX11_anew_1 : decode cX11_anew 1 = .ok (.getfield 19, 3) := by decide +kernel
theorem dX11_anew_4 : decode cX11_anew 4 = .ok (.invokevirtual 238, 3) := by decide +kernel
theorem dX11_anew_7 : decode cX11_anew 7 = .ok (.ifCond .ne 6, 3) := by decide +kernel
theorem dX11_anew_10 : decode cX11_anew 10 = .ok (.bipush (-2), 2) := by decide +kernel
theorem dX11_anew_12 : decode cX11_anew 12 = .ok (.ireturn, 1) := by decide +kernel
theorem dX11_anew_13 : decode cX11_anew 13 = .ok (.aload_n 0, 1) := by decide +kernel
theorem dX11_anew_14 : decode cX11_anew 14 = .ok (.getfield 19, 3) := by decide +kernel
theorem dX11_anew_17 : decode cX11_anew 17 = .ok (.getfield 384, 3) := by decide +kernel
theorem dX11_anew_20 : decode cX11_anew 20 = .ok (.istore_n 1, 1) := by decide +kernel
theorem dX11_anew_21 : decode cX11_anew 21 = .ok (.aload_n 0, 1) := by decide +kernel
theorem dX11_anew_22 : decode cX11_anew 22 = .ok (.getfield 19, 3) := by decide +kernel
theorem dX11_anew_25 : decode cX11_anew 25 = .ok (.iconst 0, 1) := by decide +kernel
theorem dX11_anew_26 : decode cX11_anew 26 = .ok (.invokevirtual 387, 3) := by decide +kernel
theorem dX11_anew_29 : decode cX11_anew 29 = .ok (.iload_n 1, 1) := by decide +kernel
theorem dX11_anew_30 : decode cX11_anew 30 = .ok (.ireturn, 1) := by decide +kernel
theorem r_X11_anew (E : kr_E)  (M : kr_M) : kR kr_vi E Y_X11_anew 7 0 [(0, kr_r E 0)] [] M (f_X11_anew M) := by
  rw [f_X11_anew]
  refine kr_aload_n dX11_anew_0 rfl 0 rfl ?_
  refine kr_getG (o := 0) (ci := 11) (j := 1) dX11_anew_1 kr_at_0 fl_RX11_19 rfl (fun g1 h_g1 => ?_)
  refine kr_Vi (As := []) (st := []) zv_X2_isTold dX11_anew_4 ml_RX11_238 h_g1 (r_X2_isTold E g1 h_g1 M) rfl rfl (Nat.le_of_ble_eq_true rfl) rfl (by decide) (Nat.le_of_ble_eq_true rfl) (fun r3 M2 => ?_)
  refine kr_if_ne (tgt := 13) dX11_anew_7 (by decide) ?_ ?_
  · refine kr_aload_n dX11_anew_13 rfl 0 rfl ?_
    refine kr_getG (o := 0) (ci := 11) (j := 1) dX11_anew_14 kr_at_0 fl_RX11_19 rfl (fun g4 h_g4 => ?_)
    refine kr_getI (ci := 2) (j := 9) dX11_anew_17 h_g4 fl_RX11_384 rfl (fun v5 => ?_)
    refine kr_istore_n (lv' := [(1, .int v5), (0, kr_r E 0)]) dX11_anew_20 rfl (by decide) rfl ?_
    refine kr_aload_n dX11_anew_21 rfl 1 rfl ?_
    refine kr_getG (o := 0) (ci := 11) (j := 1) dX11_anew_22 kr_at_0 fl_RX11_19 rfl (fun g6 h_g6 => ?_)
    refine kr_iconst (v := 0) dX11_anew_25 (by decide) ?_
    refine kr_Vv (As := [.int (0 : Int32)]) (st := []) zv_X2_takeBackTo dX11_anew_26 ml_RX11_387 h_g6 (r_X2_takeBackTo E g6 h_g6 (0 : Int32) M2) rfl rfl (Nat.le_of_ble_eq_true rfl) rfl (by decide) (Nat.le_of_ble_eq_true rfl) (fun M7 => ?_)
    refine kr_iload_n dX11_anew_29 rfl 0 rfl ?_
    exact kr_iret dX11_anew_30 rfl
  · refine kr_bipush (v := -2) dX11_anew_10 (by decide) ?_
    exact kr_iret dX11_anew_12 rfl
theorem dX11_canDraw_0 : decode cX11_canDraw 0 = .ok (.aload_n 0, 1) := by decide +kernel
theorem dX11_canDraw_1 : decode cX11_canDraw 1 = .ok (.getfield 19, 3) := by decide +kernel
theorem dX11_canDraw_4 : decode cX11_canDraw 4 = .ok (.iload_n 2, 1) := by decide +kernel
theorem dX11_canDraw_5 : decode cX11_canDraw 5 = .ok (.invokevirtual 154, 3) := by decide +kernel
theorem dX11_canDraw_8 : decode cX11_canDraw 8 = .ok (.ifCond .eq 18, 3) := by decide +kernel
theorem dX11_canDraw_11 : decode cX11_canDraw 11 = .ok (.iload_n 1, 1) := by decide +kernel
theorem dX11_canDraw_12 : decode cX11_canDraw 12 = .ok (.ifCond .lt 14, 3) := by decide +kernel
theorem dX11_canDraw_15 : decode cX11_canDraw 15 = .ok (.iload_n 1, 1) := by decide +kernel
theorem dX11_canDraw_16 : decode cX11_canDraw 16 = .ok (.ldc_w 396, 3) := by decide +kernel
theorem dX11_canDraw_19 : decode cX11_canDraw 19 = .ok (.if_icmp .gt 7, 3) := by decide +kernel
theorem dX11_canDraw_22 : decode cX11_canDraw 22 = .ok (.iconst 1, 1) := by decide +kernel
theorem dX11_canDraw_23 : decode cX11_canDraw 23 = .ok (.goto 4, 3) := by decide +kernel
theorem dX11_canDraw_26 : decode cX11_canDraw 26 = .ok (.iconst 0, 1) := by decide +kernel
theorem dX11_canDraw_27 : decode cX11_canDraw 27 = .ok (.ireturn, 1) := by decide +kernel
theorem r_X11_canDraw (E : kr_E) (p1 : Int32) (p2 : Int32) (M : kr_M) : kR kr_vi E Y_X11_canDraw 2 0 [(0, kr_r E 0), (1, .int p1), (2, .int p2)] [] M (f_X11_canDraw p1 p2 M) := by
  rw [f_X11_canDraw]
  refine kr_aload_n dX11_canDraw_0 rfl 0 rfl ?_
  refine kr_getG (o := 0) (ci := 11) (j := 1) dX11_canDraw_1 kr_at_0 fl_RX11_19 rfl (fun g1 h_g1 => ?_)
  refine kr_iload_n dX11_canDraw_4 rfl 2 rfl ?_
  refine kr_Vi (As := [.int p2]) (st := []) zv_X2_hasRope dX11_canDraw_5 ml_RX11_154 h_g1 (r_X2_hasRope E g1 h_g1 p2 M) rfl rfl (Nat.le_of_ble_eq_true rfl) rfl (by decide) (Nat.le_of_ble_eq_true rfl) (fun r3 M2 => ?_)
  refine kr_if_eq (tgt := 26) dX11_canDraw_8 (by decide) ?_ ?_
  · refine kr_iconst (v := 0) dX11_canDraw_26 (by decide) ?_
    exact kr_zret1 dX11_canDraw_27 rfl rfl
  · refine kr_iload_n dX11_canDraw_11 rfl 1 rfl ?_
    refine kr_if_lt (tgt := 26) dX11_canDraw_12 (by decide) ?_ ?_
    · refine kr_iconst (v := 0) dX11_canDraw_26 (by decide) ?_
      exact kr_zret1 dX11_canDraw_27 rfl rfl
    · refine kr_iload_n dX11_canDraw_15 rfl 1 rfl ?_
      refine kr_ldcw dX11_canDraw_16 kc_RX11_396 ?_
      refine kr_icmp_gt (tgt := 26) dX11_canDraw_19 (by decide) ?_ ?_
      · refine kr_iconst (v := 0) dX11_canDraw_26 (by decide) ?_
        exact kr_zret1 dX11_canDraw_27 rfl rfl
      · refine kr_iconst (v := 1) dX11_canDraw_22 (by decide) ?_
        refine kr_goto (tgt := 27) dX11_canDraw_23 (by decide) ?_
        exact kr_zret1 dX11_canDraw_27 rfl rfl
theorem dX11_drawCopy_0 : decode cX11_drawCopy 0 = .ok (.aload_n 0, 1) := by decide +kernel
theorem dX11_drawCopy_1 : decode cX11_drawCopy 1 = .ok (.getfield 65, 3) := by decide +kernel
theorem dX11_drawCopy_4 : decode cX11_drawCopy 4 = .ok (.aload_n 0, 1) := by decide +kernel
theorem dX11_drawCopy_5 : decode cX11_drawCopy 5 = .ok (.getfield 19, 3) := by decide +kernel
theorem dX11_drawCopy_8 : decode cX11_drawCopy 8 = .ok (.aload_n 0, 1) := by decide +kernel
theorem dX11_drawCopy_9 : decode cX11_drawCopy 9 = .ok (.getfield 19, 3) := by decide +kernel
theorem dX11_drawCopy_12 : decode cX11_drawCopy 12 = .ok (.getfield 157, 3) := by decide +kernel
theorem dX11_drawCopy_15 : decode cX11_drawCopy 15 = .ok (.iload_n 2, 1) := by decide +kernel
theorem dX11_drawCopy_16 : decode cX11_drawCopy 16 = .ok (.aaload, 1) := by decide +kernel
theorem dX11_drawCopy_17 : decode cX11_drawCopy 17 = .ok (.getfield 172, 3) := by decide +kernel
theorem dX11_drawCopy_20 : decode cX11_drawCopy 20 = .ok (.iconst 0, 1) := by decide +kernel
theorem dX11_drawCopy_21 : decode cX11_drawCopy 21 = .ok (.invokevirtual 222, 3) := by decide +kernel
theorem dX11_drawCopy_24 : decode cX11_drawCopy 24 = .ok (.aload_n 0, 1) := by decide +kernel
theorem dX11_drawCopy_25 : decode cX11_drawCopy 25 = .ok (.getfield 65, 3) := by decide +kernel
theorem dX11_drawCopy_28 : decode cX11_drawCopy 28 = .ok (.getfield 249, 3) := by decide +kernel
theorem dX11_drawCopy_31 : decode cX11_drawCopy 31 = .ok (.iload_n 1, 1) := by decide +kernel
theorem dX11_drawCopy_32 : decode cX11_drawCopy 32 = .ok (.aload_n 0, 1) := by decide +kernel
theorem dX11_drawCopy_33 : decode cX11_drawCopy 33 = .ok (.getfield 19, 3) := by decide +kernel
theorem dX11_drawCopy_36 : decode cX11_drawCopy 36 = .ok (.getfield 397, 3) := by decide +kernel
theorem dX11_drawCopy_39 : decode cX11_drawCopy 39 = .ok (.aload_n 0, 1) := by decide +kernel
theorem dX11_drawCopy_40 : decode cX11_drawCopy 40 = .ok (.getfield 19, 3) := by decide +kernel
theorem dX11_drawCopy_43 : decode cX11_drawCopy 43 = .ok (.getfield 400, 3) := by decide +kernel
theorem dX11_drawCopy_46 : decode cX11_drawCopy 46 = .ok (.invokevirtual 403, 3) := by decide +kernel
theorem dX11_drawCopy_49 : decode cX11_drawCopy 49 = .ok (.istore_n 3, 1) := by decide +kernel
theorem dX11_drawCopy_50 : decode cX11_drawCopy 50 = .ok (.aload_n 0, 1) := by decide +kernel
theorem dX11_drawCopy_51 : decode cX11_drawCopy 51 = .ok (.getfield 65, 3) := by decide +kernel
theorem dX11_drawCopy_54 : decode cX11_drawCopy 54 = .ok (.invokevirtual 201, 3) := by decide +kernel
theorem dX11_drawCopy_57 : decode cX11_drawCopy 57 = .ok (.iload_n 3, 1) := by decide +kernel
theorem dX11_drawCopy_58 : decode cX11_drawCopy 58 = .ok (.ireturn, 1) := by decide +kernel
theorem r_X11_drawCopy (E : kr_E) (p1 : Int32) (p2 : Int32) (M : kr_M) : kR kr_vi E Y_X11_drawCopy 6 0 [(0, kr_r E 0), (1, .int p1), (2, .int p2)] [] M (f_X11_drawCopy p1 p2 M) := by
  rw [f_X11_drawCopy]
  refine kr_aload_n dX11_drawCopy_0 rfl 0 rfl ?_
  refine kr_getA (o := 315) (ci := 11) (j := 9) dX11_drawCopy_1 kr_at_0 fl_RX11_65 rfl ?_
  refine kr_aload_n dX11_drawCopy_4 rfl 0 rfl ?_
  refine kr_getG (o := 0) (ci := 11) (j := 1) dX11_drawCopy_5 kr_at_0 fl_RX11_19 rfl (fun g1 h_g1 => ?_)
  refine kr_aload_n dX11_drawCopy_8 rfl 0 rfl ?_
  refine kr_getG (o := 0) (ci := 11) (j := 1) dX11_drawCopy_9 kr_at_0 fl_RX11_19 rfl (fun g2 h_g2 => ?_)
  refine kr_getA (o := 5) (ci := 2) (j := 14) dX11_drawCopy_12 h_g2 fl_RX11_157 rfl ?_
  refine kr_iload_n dX11_drawCopy_15 rfl 2 rfl ?_
  refine kr_aaldR dX11_drawCopy_16 h_g2 (fun h3 => ?_)
  refine kr_getA (o := 3) (ci := 5) (j := 5) dX11_drawCopy_17 h3 fl_RX11_172 rfl ?_
  refine kr_iconst (v := 0) dX11_drawCopy_20 (by decide) ?_
  refine kr_Vv (As := [kr_r E g1, kr_r E ((kr_rp g2 p2) + 3), .int (0 : Int32)]) (st := []) zv_X4_open dX11_drawCopy_21 ml_RX11_222 kr_at_315 (r_X4_open E g1 h_g1 ((kr_rp g2 p2) + 3) (kr_shR3 _ h3) (0 : Int32) M) rfl rfl (Nat.le_of_ble_eq_true rfl) rfl (by decide) (Nat.le_of_ble_eq_true rfl) (fun M4 => ?_)
  refine kr_aload_n dX11_drawCopy_24 rfl 0 rfl ?_
  refine kr_getA (o := 315) (ci := 11) (j := 9) dX11_drawCopy_25 kr_at_0 fl_RX11_65 rfl ?_
  refine kr_getA (o := 1) (ci := 4) (j := 1) dX11_drawCopy_28 kr_at_315 fl_RX11_249 rfl ?_
  refine kr_iload_n dX11_drawCopy_31 rfl 1 rfl ?_
  refine kr_aload_n dX11_drawCopy_32 rfl 0 rfl ?_
  refine kr_getG (o := 0) (ci := 11) (j := 1) dX11_drawCopy_33 kr_at_0 fl_RX11_19 rfl (fun g6 h_g6 => ?_)
  refine kr_getI (ci := 2) (j := 3) dX11_drawCopy_36 h_g6 fl_RX11_397 rfl (fun v7 => ?_)
  refine kr_aload_n dX11_drawCopy_39 rfl 0 rfl ?_
  refine kr_getG (o := 0) (ci := 11) (j := 1) dX11_drawCopy_40 kr_at_0 fl_RX11_19 rfl (fun g8 h_g8 => ?_)
  refine kr_getI (ci := 2) (j := 4) dX11_drawCopy_43 h_g8 fl_RX11_400 rfl (fun v9 => ?_)
  refine kr_Vi (As := [.int p1, .int v7, .int v9]) (st := []) zv_X7_slipByDraws dX11_drawCopy_46 ml_RX11_403 kr_at_316 (r_X7_slipByDraws E 316 kr_at_316 p1 v7 v9 M4) rfl rfl (Nat.le_of_ble_eq_true rfl) rfl (by decide) (Nat.le_of_ble_eq_true rfl) (fun r11 M10 => ?_)
  refine kr_istore_n (lv' := [(3, .int r11), (0, kr_r E 0), (1, .int p1), (2, .int p2)]) dX11_drawCopy_49 rfl (by decide) rfl ?_
  refine kr_aload_n dX11_drawCopy_50 rfl 1 rfl ?_
  refine kr_getA (o := 315) (ci := 11) (j := 9) dX11_drawCopy_51 kr_at_0 fl_RX11_65 rfl ?_
  refine kr_Vv (As := []) (st := []) zv_X4_study dX11_drawCopy_54 ml_RX11_201 kr_at_315 (r_X4_study E  M10) rfl rfl (Nat.le_of_ble_eq_true rfl) rfl (by decide) (Nat.le_of_ble_eq_true rfl) (fun M12 => ?_)
  refine kr_iload_n dX11_drawCopy_57 rfl 0 rfl ?_
  exact kr_iret dX11_drawCopy_58 rfl
theorem dX11_drawn_0 : decode cX11_drawn 0 = .ok (.aload_n 0, 1) := by decide +kernel
theorem dX11_drawn_1 : decode cX11_drawn 1 = .ok (.iload_n 1, 1) := by decide +kernel
theorem dX11_drawn_2 : decode cX11_drawn 2 = .ok (.iload_n 2, 1) := by decide +kernel
theorem dX11_drawn_3 : decode cX11_drawn 3 = .ok (.invokevirtual 390, 3) := by decide +kernel
theorem dX11_drawn_6 : decode cX11_drawn 6 = .ok (.ifCond .ne 6, 3) := by decide +kernel
theorem dX11_drawn_9 : decode cX11_drawn 9 = .ok (.bipush (-2), 2) := by decide +kernel
theorem dX11_drawn_11 : decode cX11_drawn 11 = .ok (.ireturn, 1) := by decide +kernel
theorem dX11_drawn_12 : decode cX11_drawn 12 = .ok (.aload_n 0, 1) := by decide +kernel
theorem dX11_drawn_13 : decode cX11_drawn 13 = .ok (.iload_n 1, 1) := by decide +kernel
theorem dX11_drawn_14 : decode cX11_drawn 14 = .ok (.iload_n 2, 1) := by decide +kernel
theorem dX11_drawn_15 : decode cX11_drawn 15 = .ok (.invokevirtual 393, 3) := by decide +kernel
theorem dX11_drawn_18 : decode cX11_drawn 18 = .ok (.istore 4, 2) := by decide +kernel
theorem dX11_drawn_20 : decode cX11_drawn 20 = .ok (.iload_n 3, 1) := by decide +kernel
theorem dX11_drawn_21 : decode cX11_drawn 21 = .ok (.tableswitch 58 0 2 #[27, 30, 48], 27) := by decide +kernel
theorem dX11_drawn_48 : decode cX11_drawn 48 = .ok (.iload 4, 2) := by decide +kernel
theorem dX11_drawn_50 : decode cX11_drawn 50 = .ok (.ireturn, 1) := by decide +kernel
theorem dX11_drawn_51 : decode cX11_drawn 51 = .ok (.aload_n 0, 1) := by decide +kernel
theorem dX11_drawn_52 : decode cX11_drawn 52 = .ok (.getfield 65, 3) := by decide +kernel
theorem dX11_drawn_55 : decode cX11_drawn 55 = .ok (.getfield 204, 3) := by decide +kernel
theorem dX11_drawn_58 : decode cX11_drawn 58 = .ok (.iconst 0, 1) := by decide +kernel
theorem dX11_drawn_59 : decode cX11_drawn 59 = .ok (.iaload, 1) := by decide +kernel
theorem dX11_drawn_60 : decode cX11_drawn 60 = .ok (.ifCond .le 7, 3) := by decide +kernel
theorem dX11_drawn_63 : decode cX11_drawn 63 = .ok (.iconst 1, 1) := by decide +kernel
theorem dX11_drawn_64 : decode cX11_drawn 64 = .ok (.goto 4, 3) := by decide +kernel
theorem dX11_drawn_67 : decode cX11_drawn 67 = .ok (.iconst 0, 1) := by decide +kernel
theorem dX11_drawn_68 : decode cX11_drawn 68 = .ok (.ireturn, 1) := by decide +kernel
theorem dX11_drawn_69 : decode cX11_drawn 69 = .ok (.aload_n 0, 1) := by decide +kernel
theorem dX11_drawn_70 : decode cX11_drawn 70 = .ok (.getfield 65, 3) := by decide +kernel
theorem dX11_drawn_73 : decode cX11_drawn 73 = .ok (.getfield 210, 3) := by decide +kernel
theorem dX11_drawn_76 : decode cX11_drawn 76 = .ok (.iconst 0, 1) := by decide +kernel
theorem dX11_drawn_77 : decode cX11_drawn 77 = .ok (.iaload, 1) := by decide +kernel
theorem dX11_drawn_78 : decode cX11_drawn 78 = .ok (.ireturn, 1) := by decide +kernel
theorem dX11_drawn_79 : decode cX11_drawn 79 = .ok (.bipush (-2), 2) := by decide +kernel
theorem dX11_drawn_81 : decode cX11_drawn 81 = .ok (.ireturn, 1) := by decide +kernel
theorem r_X11_drawn (E : kr_E) (p1 : Int32) (p2 : Int32) (p3 : Int32) (M : kr_M) : kR kr_vi E Y_X11_drawn 7 0 [(0, kr_r E 0), (1, .int p1), (2, .int p2), (3, .int p3)] [] M (f_X11_drawn p1 p2 p3 M) := by
  rw [f_X11_drawn]
  refine kr_aload_n dX11_drawn_0 rfl 0 rfl ?_
  refine kr_iload_n dX11_drawn_1 rfl 1 rfl ?_
  refine kr_iload_n dX11_drawn_2 rfl 2 rfl ?_
  refine kr_Vi (As := [.int p1, .int p2]) (st := []) zv_X11_canDraw dX11_drawn_3 ml_RX11_390 kr_at_0 (r_X11_canDraw E p1 p2 M) rfl rfl (Nat.le_of_ble_eq_true rfl) rfl (by decide) (Nat.le_of_ble_eq_true rfl) (fun r2 M1 => ?_)
  refine kr_if_ne (tgt := 12) dX11_drawn_6 (by decide) ?_ ?_
  · refine kr_aload_n dX11_drawn_12 rfl 0 rfl ?_
    refine kr_iload_n dX11_drawn_13 rfl 1 rfl ?_
    refine kr_iload_n dX11_drawn_14 rfl 2 rfl ?_
    refine kr_Vi (As := [.int p1, .int p2]) (st := []) zv_X11_drawCopy dX11_drawn_15 ml_RX11_393 kr_at_0 (r_X11_drawCopy E p1 p2 M1) rfl rfl (Nat.le_of_ble_eq_true rfl) rfl (by decide) (Nat.le_of_ble_eq_true rfl) (fun r4 M3 => ?_)
    refine kr_istore (lv' := [(4, .int r4), (0, kr_r E 0), (1, .int p1), (2, .int p2), (3, .int p3)]) dX11_drawn_18 (by decide) rfl ?_
    refine kr_iload_n dX11_drawn_20 rfl 4 rfl ?_
    refine kr_case (0 : Int32) (fun c5 => ?_) (fun c5 => ?_)
    · refine kr_tin (v := 0) (off := 27) (tgt := 48) c5 dX11_drawn_21 (by decide) (by decide) (by decide) (by decide) ?_
      refine kr_iload dX11_drawn_48 0 rfl ?_
      exact kr_iret dX11_drawn_50 rfl
    refine kr_case (1 : Int32) (fun c6 => ?_) (fun c6 => ?_)
    · refine kr_tin (v := 1) (off := 30) (tgt := 51) c6 dX11_drawn_21 (by decide) (by decide) (by decide) (by decide) ?_
      refine kr_aload_n dX11_drawn_51 rfl 1 rfl ?_
      refine kr_getA (o := 315) (ci := 11) (j := 9) dX11_drawn_52 kr_at_0 fl_RX11_65 rfl ?_
      refine kr_getA (o := 3) (ci := 4) (j := 2) dX11_drawn_55 kr_at_315 fl_RX11_204 rfl ?_
      refine kr_iconst (v := 0) dX11_drawn_58 (by decide) ?_
      refine kr_iald dX11_drawn_59 kr_at_318 (fun v7 => ?_)
      refine kr_if_le (tgt := 67) dX11_drawn_60 (by decide) ?_ ?_
      · refine kr_iconst (v := 0) dX11_drawn_67 (by decide) ?_
        exact kr_iret dX11_drawn_68 rfl
      · refine kr_iconst (v := 1) dX11_drawn_63 (by decide) ?_
        refine kr_goto (tgt := 68) dX11_drawn_64 (by decide) ?_
        exact kr_iret dX11_drawn_68 rfl
    refine kr_case (2 : Int32) (fun c8 => ?_) (fun c8 => ?_)
    · refine kr_tin (v := 2) (off := 48) (tgt := 69) c8 dX11_drawn_21 (by decide) (by decide) (by decide) (by decide) ?_
      refine kr_aload_n dX11_drawn_69 rfl 1 rfl ?_
      refine kr_getA (o := 315) (ci := 11) (j := 9) dX11_drawn_70 kr_at_0 fl_RX11_65 rfl ?_
      refine kr_getA (o := 4) (ci := 4) (j := 3) dX11_drawn_73 kr_at_315 fl_RX11_210 rfl ?_
      refine kr_iconst (v := 0) dX11_drawn_76 (by decide) ?_
      refine kr_iald dX11_drawn_77 kr_at_319 (fun v9 => ?_)
      exact kr_iret dX11_drawn_78 rfl
    refine kr_tout (tgt := 79) dX11_drawn_21 (by have zc5 := lv_neT c5 (show (0 : Int32).toInt = 0 by decide); have zc6 := lv_neT c6 (show (1 : Int32).toInt = 1 by decide); have zc8 := lv_neT c8 (show (2 : Int32).toInt = 2 by decide); omega) (by decide) ?_
    refine kr_bipush (v := -2) dX11_drawn_79 (by decide) ?_
    exact kr_iret dX11_drawn_81 rfl
  · refine kr_bipush (v := -2) dX11_drawn_9 (by decide) ?_
    exact kr_iret dX11_drawn_11 rfl
theorem dX11_winters_0 : decode cX11_winters 0 = .ok (.aload_n 0, 1) := by decide +kernel
theorem dX11_winters_1 : decode cX11_winters 1 = .ok (.iload_n 1, 1) := by decide +kernel
theorem dX11_winters_2 : decode cX11_winters 2 = .ok (.iload_n 2, 1) := by decide +kernel
theorem dX11_winters_3 : decode cX11_winters 3 = .ok (.invokevirtual 390, 3) := by decide +kernel
theorem dX11_winters_6 : decode cX11_winters 6 = .ok (.ifCond .eq 14, 3) := by decide +kernel
theorem dX11_winters_9 : decode cX11_winters 9 = .ok (.iload_n 3, 1) := by decide +kernel
theorem dX11_winters_10 : decode cX11_winters 10 = .ok (.iconst 1, 1) := by decide +kernel
theorem dX11_winters_11 : decode cX11_winters 11 = .ok (.if_icmp .lt 9, 3) := by decide +kernel
theorem dX11_winters_14 : decode cX11_winters 14 = .ok (.iload_n 3, 1) := by decide +kernel
theorem dX11_winters_15 : decode cX11_winters 15 = .ok (.bipush 20, 2) := by decide +kernel
theorem dX11_winters_17 : decode cX11_winters 17 = .ok (.if_icmp .le 6, 3) := by decide +kernel
theorem dX11_winters_20 : decode cX11_winters 20 = .ok (.bipush (-2), 2) := by decide +kernel
theorem dX11_winters_22 : decode cX11_winters 22 = .ok (.ireturn, 1) := by decide +kernel
theorem dX11_winters_23 : decode cX11_winters 23 = .ok (.iconst 0, 1) := by decide +kernel
theorem dX11_winters_24 : decode cX11_winters 24 = .ok (.istore 4, 2) := by decide +kernel
theorem dX11_winters_26 : decode cX11_winters 26 = .ok (.iconst 0, 1) := by decide +kernel
theorem dX11_winters_27 : decode cX11_winters 27 = .ok (.istore 5, 2) := by decide +kernel
theorem dX11_winters_29 : decode cX11_winters 29 = .ok (.iload 5, 2) := by decide +kernel
theorem dX11_winters_31 : decode cX11_winters 31 = .ok (.iload_n 3, 1) := by decide +kernel
theorem dX11_winters_32 : decode cX11_winters 32 = .ok (.if_icmp .ge 40, 3) := by decide +kernel
theorem dX11_winters_35 : decode cX11_winters 35 = .ok (.aload_n 0, 1) := by decide +kernel
theorem dX11_winters_36 : decode cX11_winters 36 = .ok (.iload_n 1, 1) := by decide +kernel
theorem dX11_winters_37 : decode cX11_winters 37 = .ok (.iload 5, 2) := by decide +kernel
theorem dX11_winters_39 : decode cX11_winters 39 = .ok (.iadd, 1) := by decide +kernel
theorem dX11_winters_40 : decode cX11_winters 40 = .ok (.iload_n 2, 1) := by decide +kernel
theorem dX11_winters_41 : decode cX11_winters 41 = .ok (.invokevirtual 393, 3) := by decide +kernel
theorem dX11_winters_44 : decode cX11_winters 44 = .ok (.istore 6, 2) := by decide +kernel
theorem dX11_winters_46 : decode cX11_winters 46 = .ok (.iload 6, 2) := by decide +kernel
theorem dX11_winters_48 : decode cX11_winters 48 = .ok (.ifCond .le 18, 3) := by decide +kernel
theorem dX11_winters_51 : decode cX11_winters 51 = .ok (.aload_n 0, 1) := by decide +kernel
theorem dX11_winters_52 : decode cX11_winters 52 = .ok (.getfield 65, 3) := by decide +kernel
theorem dX11_winters_55 : decode cX11_winters 55 = .ok (.getfield 204, 3) := by decide +kernel
theorem dX11_winters_58 : decode cX11_winters 58 = .ok (.iconst 0, 1) := by decide +kernel
theorem dX11_winters_59 : decode cX11_winters 59 = .ok (.iaload, 1) := by decide +kernel
theorem dX11_winters_60 : decode cX11_winters 60 = .ok (.ifCond .le 6, 3) := by decide +kernel
theorem dX11_winters_63 : decode cX11_winters 63 = .ok (.iinc 4 1, 3) := by decide +kernel
theorem dX11_winters_66 : decode cX11_winters 66 = .ok (.iinc 5 1, 3) := by decide +kernel
theorem dX11_winters_69 : decode cX11_winters 69 = .ok (.goto (-40), 3) := by decide +kernel
theorem dX11_winters_72 : decode cX11_winters 72 = .ok (.iload 4, 2) := by decide +kernel
theorem dX11_winters_74 : decode cX11_winters 74 = .ok (.ireturn, 1) := by decide +kernel
theorem r_X11_winters_66 (E : kr_E) (k_29 : Int32 → Int32 → kr_M → Option (Int32 × kr_M)) (l1 : Int32) (l2 : Int32) (l3 : Int32) (l4 : Int32) (l5 : Int32) (hk_29 : ∀ (x4 : Int32) (x5 : Int32) (M : kr_M), kR kr_vi E Y_X11_winters 7 29 [(0, kr_r E 0), (1, .int l1), (2, .int l2), (3, .int l3), (4, .int x4), (5, .int x5)] [] M (k_29 x4 x5 M)) (M : kr_M) : kR kr_vi E Y_X11_winters 7 66 [(0, kr_r E 0), (1, .int l1), (2, .int l2), (3, .int l3), (4, .int l4), (5, .int l5)] [] M (f_X11_winters_66 k_29 l4 l5 M) := by
  rw [f_X11_winters_66]
  refine kr_iinc (j := 5) (v := (l5 + (1 : Int32))) (lv' := [(5, .int (l5 + (1 : Int32))), (0, kr_r E 0), (1, .int l1), (2, .int l2), (3, .int l3), (4, .int l4)]) dX11_winters_66 rfl rfl (by decide) rfl ?_
  refine kr_goto (tgt := 29) dX11_winters_69 (by decide) ?_
  refine kr_sub [1, 2, 3, 4, 5, 0] rfl ?_
  exact hk_29 l4 (l5 + (1 : Int32)) M
theorem r_X11_winters_29 (E : kr_E)  (l1 : Int32) (l2 : Int32) (l3 : Int32)  : ∀ (n : Nat) (l4 : Int32) (l5 : Int32) (M : kr_M), kR kr_vi E Y_X11_winters 7 29 [(0, kr_r E 0), (1, .int l1), (2, .int l2), (3, .int l3), (4, .int l4), (5, .int l5)] [] M (f_X11_winters_29 l1 l2 l3 n l4 l5 M) := by
  intro n
  induction n with
  | zero => intro l4 l5 M; exact kr_none
  | succ n ih =>
    intro l4 l5 M
    rw [f_X11_winters_29]
    refine kr_iload dX11_winters_29 5 rfl ?_
    refine kr_iload_n dX11_winters_31 rfl 3 rfl ?_
    refine kr_icmp_ge (tgt := 72) dX11_winters_32 (by decide) ?_ ?_
    · refine kr_iload dX11_winters_72 4 rfl ?_
      exact kr_iret dX11_winters_74 rfl
    · refine kr_aload_n dX11_winters_35 rfl 0 rfl ?_
      refine kr_iload_n dX11_winters_36 rfl 1 rfl ?_
      refine kr_iload dX11_winters_37 5 rfl ?_
      refine kr_iadd dX11_winters_39 ?_
      refine kr_iload_n dX11_winters_40 rfl 2 rfl ?_
      refine kr_Vi (As := [.int (l1 + l5), .int l2]) (st := []) zv_X11_drawCopy dX11_winters_41 ml_RX11_393 kr_at_0 (r_X11_drawCopy E (l1 + l5) l2 M) rfl rfl (Nat.le_of_ble_eq_true rfl) rfl (by decide) (Nat.le_of_ble_eq_true rfl) (fun r2 M1 => ?_)
      refine kr_istore (lv' := [(6, .int r2), (0, kr_r E 0), (1, .int l1), (2, .int l2), (3, .int l3), (4, .int l4), (5, .int l5)]) dX11_winters_44 (by decide) rfl ?_
      refine kr_iload dX11_winters_46 0 rfl ?_
      refine kr_if_le (tgt := 66) dX11_winters_48 (by decide) ?_ ?_
      · refine kr_sub [1, 2, 3, 4, 5, 6] rfl ?_
        exact r_X11_winters_66 E _ l1 l2 l3 l4 l5 ih M1
      · refine kr_aload_n dX11_winters_51 rfl 1 rfl ?_
        refine kr_getA (o := 315) (ci := 11) (j := 9) dX11_winters_52 kr_at_0 fl_RX11_65 rfl ?_
        refine kr_getA (o := 3) (ci := 4) (j := 2) dX11_winters_55 kr_at_315 fl_RX11_204 rfl ?_
        refine kr_iconst (v := 0) dX11_winters_58 (by decide) ?_
        refine kr_iald dX11_winters_59 kr_at_318 (fun v3 => ?_)
        refine kr_if_le (tgt := 66) dX11_winters_60 (by decide) ?_ ?_
        · refine kr_sub [1, 2, 3, 4, 5, 6] rfl ?_
          exact r_X11_winters_66 E _ l1 l2 l3 l4 l5 ih M1
        · refine kr_iinc (j := 5) (v := (l4 + (1 : Int32))) (lv' := [(4, .int (l4 + (1 : Int32))), (6, .int r2), (0, kr_r E 0), (1, .int l1), (2, .int l2), (3, .int l3), (5, .int l5)]) dX11_winters_63 rfl rfl (by decide) rfl ?_
          refine kr_sub [2, 3, 4, 5, 0, 6] rfl ?_
          exact r_X11_winters_66 E _ l1 l2 l3 (l4 + (1 : Int32)) l5 ih M1
theorem r_X11_winters (E : kr_E) (p1 : Int32) (p2 : Int32) (p3 : Int32) (M : kr_M) : kR kr_vi E Y_X11_winters 7 0 [(0, kr_r E 0), (1, .int p1), (2, .int p2), (3, .int p3)] [] M (f_X11_winters p1 p2 p3 M) := by
  rw [f_X11_winters]
  refine kr_aload_n dX11_winters_0 rfl 0 rfl ?_
  refine kr_iload_n dX11_winters_1 rfl 1 rfl ?_
  refine kr_iload_n dX11_winters_2 rfl 2 rfl ?_
  refine kr_Vi (As := [.int p1, .int p2]) (st := []) zv_X11_canDraw dX11_winters_3 ml_RX11_390 kr_at_0 (r_X11_canDraw E p1 p2 M) rfl rfl (Nat.le_of_ble_eq_true rfl) rfl (by decide) (Nat.le_of_ble_eq_true rfl) (fun r2 M1 => ?_)
  refine kr_if_eq (tgt := 20) dX11_winters_6 (by decide) ?_ ?_
  · refine kr_bipush (v := -2) dX11_winters_20 (by decide) ?_
    exact kr_iret dX11_winters_22 rfl
  · refine kr_iload_n dX11_winters_9 rfl 3 rfl ?_
    refine kr_iconst (v := 1) dX11_winters_10 (by decide) ?_
    refine kr_icmp_lt (tgt := 20) dX11_winters_11 (by decide) ?_ ?_
    · refine kr_bipush (v := -2) dX11_winters_20 (by decide) ?_
      exact kr_iret dX11_winters_22 rfl
    · refine kr_iload_n dX11_winters_14 rfl 3 rfl ?_
      refine kr_bipush (v := 20) dX11_winters_15 (by decide) ?_
      refine kr_icmp_le (tgt := 23) dX11_winters_17 (by decide) ?_ ?_
      · refine kr_iconst (v := 0) dX11_winters_23 (by decide) ?_
        refine kr_istore (lv' := [(4, .int (0 : Int32)), (0, kr_r E 0), (1, .int p1), (2, .int p2), (3, .int p3)]) dX11_winters_24 (by decide) rfl ?_
        refine kr_iconst (v := 0) dX11_winters_26 (by decide) ?_
        refine kr_istore (lv' := [(5, .int (0 : Int32)), (4, .int (0 : Int32)), (0, kr_r E 0), (1, .int p1), (2, .int p2), (3, .int p3)]) dX11_winters_27 (by decide) rfl ?_
        refine kr_sub [2, 3, 4, 5, 1, 0] rfl ?_
        exact r_X11_winters_29 E p1 p2 p3 _ (0 : Int32) (0 : Int32) M1
      · refine kr_bipush (v := -2) dX11_winters_20 (by decide) ?_
        exact kr_iret dX11_winters_22 rfl
theorem dX11_isSlot_0 : decode cX11_isSlot 0 = .ok (.iload_n 0, 1) := by decide +kernel
theorem dX11_isSlot_1 : decode cX11_isSlot 1 = .ok (.ifCond .lt 12, 3) := by decide +kernel
theorem dX11_isSlot_4 : decode cX11_isSlot 4 = .ok (.iload_n 0, 1) := by decide +kernel
theorem dX11_isSlot_5 : decode cX11_isSlot 5 = .ok (.iconst 4, 1) := by decide +kernel
theorem dX11_isSlot_6 : decode cX11_isSlot 6 = .ok (.if_icmp .ge 7, 3) := by decide +kernel
theorem dX11_isSlot_9 : decode cX11_isSlot 9 = .ok (.iconst 1, 1) := by decide +kernel
theorem dX11_isSlot_10 : decode cX11_isSlot 10 = .ok (.goto 4, 3) := by decide +kernel
theorem dX11_isSlot_13 : decode cX11_isSlot 13 = .ok (.iconst 0, 1) := by decide +kernel
theorem dX11_isSlot_14 : decode cX11_isSlot 14 = .ok (.ireturn, 1) := by decide +kernel
theorem r_X11_isSlot (E : kr_E) (p0 : Int32) (M : kr_M) : kR kr_vi E Y_X11_isSlot 1 0 [(0, .int p0)] [] M (f_X11_isSlot p0 M) := by
  rw [f_X11_isSlot]
  refine kr_iload_n dX11_isSlot_0 rfl 0 rfl ?_
  refine kr_if_lt (tgt := 13) dX11_isSlot_1 (by decide) ?_ ?_
  · refine kr_iconst (v := 0) dX11_isSlot_13 (by decide) ?_
    exact kr_zret1 dX11_isSlot_14 rfl rfl
  · refine kr_iload_n dX11_isSlot_4 rfl 0 rfl ?_
    refine kr_iconst (v := 4) dX11_isSlot_5 (by decide) ?_
    refine kr_icmp_ge (tgt := 13) dX11_isSlot_6 (by decide) ?_ ?_
    · refine kr_iconst (v := 0) dX11_isSlot_13 (by decide) ?_
      exact kr_zret1 dX11_isSlot_14 rfl rfl
    · refine kr_iconst (v := 1) dX11_isSlot_9 (by decide) ?_
      refine kr_goto (tgt := 14) dX11_isSlot_10 (by decide) ?_
      exact kr_zret1 dX11_isSlot_14 rfl rfl
theorem dX11_opensSlot_0 : decode cX11_opensSlot 0 = .ok (.iload_n 1, 1) := by decide +kernel
theorem dX11_opensSlot_1 : decode cX11_opensSlot 1 = .ok (.invokestatic 419, 3) := by decide +kernel
theorem dX11_opensSlot_4 : decode cX11_opensSlot 4 = .ok (.ifCond .eq 13, 3) := by decide +kernel
theorem dX11_opensSlot_7 : decode cX11_opensSlot 7 = .ok (.aload_n 0, 1) := by decide +kernel
theorem dX11_opensSlot_8 : decode cX11_opensSlot 8 = .ok (.getfield 19, 3) := by decide +kernel
theorem dX11_opensSlot_11 : decode cX11_opensSlot 11 = .ok (.invokevirtual 238, 3) := by decide +kernel
theorem dX11_opensSlot_14 : decode cX11_opensSlot 14 = .ok (.ifCond .ne 6, 3) := by decide +kernel
theorem dX11_opensSlot_17 : decode cX11_opensSlot 17 = .ok (.bipush (-2), 2) := by decide +kernel
theorem dX11_opensSlot_19 : decode cX11_opensSlot 19 = .ok (.ireturn, 1) := by decide +kernel
theorem dX11_opensSlot_20 : decode cX11_opensSlot 20 = .ok (.aload_n 0, 1) := by decide +kernel
theorem dX11_opensSlot_21 : decode cX11_opensSlot 21 = .ok (.getfield 42, 3) := by decide +kernel
theorem dX11_opensSlot_24 : decode cX11_opensSlot 24 = .ok (.iload_n 1, 1) := by decide +kernel
theorem dX11_opensSlot_25 : decode cX11_opensSlot 25 = .ok (.iaload, 1) := by decide +kernel
theorem dX11_opensSlot_26 : decode cX11_opensSlot 26 = .ok (.istore_n 2, 1) := by decide +kernel
theorem dX11_opensSlot_27 : decode cX11_opensSlot 27 = .ok (.iload_n 2, 1) := by decide +kernel
theorem dX11_opensSlot_28 : decode cX11_opensSlot 28 = .ok (.ifCond .ge 6, 3) := by decide +kernel
theorem dX11_opensSlot_31 : decode cX11_opensSlot 31 = .ok (.bipush (-6), 2) := by decide +kernel
theorem dX11_opensSlot_33 : decode cX11_opensSlot 33 = .ok (.ireturn, 1) := by decide +kernel
theorem dX11_opensSlot_34 : decode cX11_opensSlot 34 = .ok (.iload_n 2, 1) := by decide +kernel
theorem dX11_opensSlot_35 : decode cX11_opensSlot 35 = .ok (.bipush 24, 2) := by decide +kernel
theorem dX11_opensSlot_37 : decode cX11_opensSlot 37 = .ok (.if_icmp .le 6, 3) := by decide +kernel
theorem dX11_opensSlot_40 : decode cX11_opensSlot 40 = .ok (.bipush (-2), 2) := by decide +kernel
theorem dX11_opensSlot_42 : decode cX11_opensSlot 42 = .ok (.ireturn, 1) := by decide +kernel
theorem dX11_opensSlot_43 : decode cX11_opensSlot 43 = .ok (.aload_n 0, 1) := by decide +kernel
theorem dX11_opensSlot_44 : decode cX11_opensSlot 44 = .ok (.getfield 56, 3) := by decide +kernel
theorem dX11_opensSlot_47 : decode cX11_opensSlot 47 = .ok (.iconst 0, 1) := by decide +kernel
theorem dX11_opensSlot_48 : decode cX11_opensSlot 48 = .ok (.putfield 175, 3) := by decide +kernel
theorem dX11_opensSlot_51 : decode cX11_opensSlot 51 = .ok (.iconst 0, 1) := by decide +kernel
theorem dX11_opensSlot_52 : decode cX11_opensSlot 52 = .ok (.istore_n 3, 1) := by decide +kernel
theorem dX11_opensSlot_53 : decode cX11_opensSlot 53 = .ok (.iload_n 3, 1) := by decide +kernel
theorem dX11_opensSlot_54 : decode cX11_opensSlot 54 = .ok (.iload_n 2, 1) := by decide +kernel
theorem dX11_opensSlot_55 : decode cX11_opensSlot 55 = .ok (.if_icmp .ge 56, 3) := by decide +kernel
theorem dX11_opensSlot_58 : decode cX11_opensSlot 58 = .ok (.aload_n 0, 1) := by decide +kernel
theorem dX11_opensSlot_59 : decode cX11_opensSlot 59 = .ok (.getfield 34, 3) := by decide +kernel
theorem dX11_opensSlot_62 : decode cX11_opensSlot 62 = .ok (.iload_n 1, 1) := by decide +kernel
theorem dX11_opensSlot_63 : decode cX11_opensSlot 63 = .ok (.bipush 60, 2) := by decide +kernel
theorem dX11_opensSlot_65 : decode cX11_opensSlot 65 = .ok (.imul, 1) := by decide +kernel
theorem dX11_opensSlot_66 : decode cX11_opensSlot 66 = .ok (.iload_n 3, 1) := by decide +kernel
theorem dX11_opensSlot_67 : decode cX11_opensSlot 67 = .ok (.iadd, 1) := by decide +kernel
theorem dX11_opensSlot_68 : decode cX11_opensSlot 68 = .ok (.laload, 1) := by decide +kernel
theorem dX11_opensSlot_69 : decode cX11_opensSlot 69 = .ok (.lstore 4, 2) := by decide +kernel
theorem dX11_opensSlot_71 : decode cX11_opensSlot 71 = .ok (.lload 4, 2) := by decide +kernel
theorem dX11_opensSlot_73 : decode cX11_opensSlot 73 = .ok (.lconst 0, 1) := by decide +kernel
theorem dX11_opensSlot_74 : decode cX11_opensSlot 74 = .ok (.lcmp, 1) := by decide +kernel
theorem dX11_opensSlot_75 : decode cX11_opensSlot 75 = .ok (.ifCond .lt 17, 3) := by decide +kernel
theorem dX11_opensSlot_78 : decode cX11_opensSlot 78 = .ok (.lload 4, 2) := by decide +kernel
theorem dX11_opensSlot_80 : decode cX11_opensSlot 80 = .ok (.aload_n 0, 1) := by decide +kernel
theorem dX11_opensSlot_81 : decode cX11_opensSlot 81 = .ok (.getfield 19, 3) := by decide +kernel
theorem dX11_opensSlot_84 : decode cX11_opensSlot 84 = .ok (.getfield 400, 3) := by decide +kernel
theorem dX11_opensSlot_87 : decode cX11_opensSlot 87 = .ok (.i2l, 1) := by decide +kernel
theorem dX11_opensSlot_88 : decode cX11_opensSlot 88 = .ok (.lcmp, 1) := by decide +kernel
theorem dX11_opensSlot_89 : decode cX11_opensSlot 89 = .ok (.ifCond .lt 6, 3) := by decide +kernel
theorem dX11_opensSlot_92 : decode cX11_opensSlot 92 = .ok (.bipush (-2), 2) := by decide +kernel
theorem dX11_opensSlot_94 : decode cX11_opensSlot 94 = .ok (.ireturn, 1) := by decide +kernel
theorem dX11_opensSlot_95 : decode cX11_opensSlot 95 = .ok (.aload_n 0, 1) := by decide +kernel
theorem dX11_opensSlot_96 : decode cX11_opensSlot 96 = .ok (.getfield 56, 3) := by decide +kernel
theorem dX11_opensSlot_99 : decode cX11_opensSlot 99 = .ok (.lload 4, 2) := by decide +kernel
theorem dX11_opensSlot_101 : decode cX11_opensSlot 101 = .ok (.l2i, 1) := by decide +kernel
theorem dX11_opensSlot_102 : decode cX11_opensSlot 102 = .ok (.invokevirtual 422, 3) := by decide +kernel
theorem dX11_opensSlot_105 : decode cX11_opensSlot 105 = .ok (.iinc 3 1, 3) := by decide +kernel
theorem dX11_opensSlot_108 : decode cX11_opensSlot 108 = .ok (.goto (-55), 3) := by decide +kernel
theorem dX11_opensSlot_111 : decode cX11_opensSlot 111 = .ok (.iconst 0, 1) := by decide +kernel
theorem dX11_opensSlot_112 : decode cX11_opensSlot 112 = .ok (.ireturn, 1) := by decide +kernel
theorem r_X11_opensSlot_53 (E : kr_E)  (l1 : Int32) (l2 : Int32)  : ∀ (n : Nat) (l3 : Int32) (M : kr_M), kR kr_vi E Y_X11_opensSlot 2 53 [(0, kr_r E 0), (1, .int l1), (2, .int l2), (3, .int l3)] [] M (f_X11_opensSlot_53 l1 l2 n l3 M) := by
  intro n
  induction n with
  | zero => intro l3 M; exact kr_none
  | succ n ih =>
    intro l3 M
    rw [f_X11_opensSlot_53]
    refine kr_iload_n dX11_opensSlot_53 rfl 3 rfl ?_
    refine kr_iload_n dX11_opensSlot_54 rfl 2 rfl ?_
    refine kr_icmp_ge (tgt := 111) dX11_opensSlot_55 (by decide) ?_ ?_
    · refine kr_iconst (v := 0) dX11_opensSlot_111 (by decide) ?_
      exact kr_iret dX11_opensSlot_112 rfl
    · refine kr_aload_n dX11_opensSlot_58 rfl 0 rfl ?_
      refine kr_getA (o := 310) (ci := 11) (j := 5) dX11_opensSlot_59 kr_at_0 fl_RX11_34 rfl ?_
      refine kr_iload_n dX11_opensSlot_62 rfl 1 rfl ?_
      refine kr_bipush (v := 60) dX11_opensSlot_63 (by decide) ?_
      refine kr_imul dX11_opensSlot_65 ?_
      refine kr_iload_n dX11_opensSlot_66 rfl 3 rfl ?_
      refine kr_iadd dX11_opensSlot_67 ?_
      refine kr_lald dX11_opensSlot_68 kr_at_310 (fun v1 => ?_)
      refine kr_lstore (lv' := [(4, .long v1), (0, kr_r E 0), (1, .int l1), (2, .int l2), (3, .int l3)]) dX11_opensSlot_69 (by decide) rfl ?_
      refine kr_lload dX11_opensSlot_71 0 rfl ?_
      refine kr_lconst (v := 0) dX11_opensSlot_73 (by decide) ?_
      refine kr_lcmp dX11_opensSlot_74 ?_
      refine kr_if_lt (tgt := 92) dX11_opensSlot_75 (by decide) ?_ ?_
      · refine kr_bipush (v := -2) dX11_opensSlot_92 (by decide) ?_
        exact kr_iret dX11_opensSlot_94 rfl
      · refine kr_lload dX11_opensSlot_78 0 rfl ?_
        refine kr_aload_n dX11_opensSlot_80 rfl 1 rfl ?_
        refine kr_getG (o := 0) (ci := 11) (j := 1) dX11_opensSlot_81 kr_at_0 fl_RX11_19 rfl (fun g2 h_g2 => ?_)
        refine kr_getI (ci := 2) (j := 4) dX11_opensSlot_84 h_g2 fl_RX11_400 rfl (fun v3 => ?_)
        refine kr_i2l dX11_opensSlot_87 ?_
        refine kr_lcmp dX11_opensSlot_88 ?_
        refine kr_if_lt (tgt := 95) dX11_opensSlot_89 (by decide) ?_ ?_
        · refine kr_aload_n dX11_opensSlot_95 rfl 1 rfl ?_
          refine kr_getA (o := 313) (ci := 11) (j := 8) dX11_opensSlot_96 kr_at_0 fl_RX11_56 rfl ?_
          refine kr_lload dX11_opensSlot_99 0 rfl ?_
          refine kr_l2i dX11_opensSlot_101 ?_
          refine kr_Vv (As := [.int (v1.toInt32)]) (st := []) zv_X7_put dX11_opensSlot_102 ml_RX11_422 kr_at_313 (r_X7_put E 313 kr_at_313 (v1.toInt32) M) rfl rfl (Nat.le_of_ble_eq_true rfl) rfl (by decide) (Nat.le_of_ble_eq_true rfl) (fun M4 => ?_)
          refine kr_iinc (j := 4) (v := (l3 + (1 : Int32))) (lv' := [(3, .int (l3 + (1 : Int32))), (4, .long v1), (0, kr_r E 0), (1, .int l1), (2, .int l2)]) dX11_opensSlot_105 rfl rfl (by decide) rfl ?_
          refine kr_goto (tgt := 53) dX11_opensSlot_108 (by decide) ?_
          refine kr_sub [2, 3, 4, 0] rfl ?_
          exact ih (l3 + (1 : Int32)) M4
        · refine kr_bipush (v := -2) dX11_opensSlot_92 (by decide) ?_
          exact kr_iret dX11_opensSlot_94 rfl
theorem r_X11_opensSlot (E : kr_E) (p1 : Int32) (M : kr_M) : kR kr_vi E Y_X11_opensSlot 2 0 [(0, kr_r E 0), (1, .int p1)] [] M (f_X11_opensSlot p1 M) := by
  rw [f_X11_opensSlot]
  refine kr_iload_n dX11_opensSlot_0 rfl 1 rfl ?_
  refine kr_Si (As := [.int p1]) (st := []) zs_X11_isSlot dX11_opensSlot_1 ml_RX11_419 (r_X11_isSlot E p1 M) rfl rfl (Nat.le_of_ble_eq_true rfl) rfl (by decide) (Nat.le_of_ble_eq_true rfl) (fun r2 M1 => ?_)
  refine kr_if_eq (tgt := 17) dX11_opensSlot_4 (by decide) ?_ ?_
  · refine kr_bipush (v := -2) dX11_opensSlot_17 (by decide) ?_
    exact kr_iret dX11_opensSlot_19 rfl
  · refine kr_aload_n dX11_opensSlot_7 rfl 0 rfl ?_
    refine kr_getG (o := 0) (ci := 11) (j := 1) dX11_opensSlot_8 kr_at_0 fl_RX11_19 rfl (fun g3 h_g3 => ?_)
    refine kr_Vi (As := []) (st := []) zv_X2_isTold dX11_opensSlot_11 ml_RX11_238 h_g3 (r_X2_isTold E g3 h_g3 M1) rfl rfl (Nat.le_of_ble_eq_true rfl) rfl (by decide) (Nat.le_of_ble_eq_true rfl) (fun r5 M4 => ?_)
    refine kr_if_ne (tgt := 20) dX11_opensSlot_14 (by decide) ?_ ?_
    · refine kr_aload_n dX11_opensSlot_20 rfl 0 rfl ?_
      refine kr_getA (o := 312) (ci := 11) (j := 7) dX11_opensSlot_21 kr_at_0 fl_RX11_42 rfl ?_
      refine kr_iload_n dX11_opensSlot_24 rfl 1 rfl ?_
      refine kr_iald dX11_opensSlot_25 kr_at_312 (fun v6 => ?_)
      refine kr_istore_n (lv' := [(2, .int v6), (0, kr_r E 0), (1, .int p1)]) dX11_opensSlot_26 rfl (by decide) rfl ?_
      refine kr_iload_n dX11_opensSlot_27 rfl 0 rfl ?_
      refine kr_if_ge (tgt := 34) dX11_opensSlot_28 (by decide) ?_ ?_
      · refine kr_iload_n dX11_opensSlot_34 rfl 0 rfl ?_
        refine kr_bipush (v := 24) dX11_opensSlot_35 (by decide) ?_
        refine kr_icmp_le (tgt := 43) dX11_opensSlot_37 (by decide) ?_ ?_
        · refine kr_aload_n dX11_opensSlot_43 rfl 1 rfl ?_
          refine kr_getA (o := 313) (ci := 11) (j := 8) dX11_opensSlot_44 kr_at_0 fl_RX11_56 rfl ?_
          refine kr_iconst (v := 0) dX11_opensSlot_47 (by decide) ?_
          refine kr_putI (ci := 7) (j := 1) dX11_opensSlot_48 kr_at_313 fl_RX11_175 rfl rfl (fun M7 => ?_)
          refine kr_iconst (v := 0) dX11_opensSlot_51 (by decide) ?_
          refine kr_istore_n (lv' := [(3, .int (0 : Int32)), (2, .int v6), (0, kr_r E 0), (1, .int p1)]) dX11_opensSlot_52 rfl (by decide) rfl ?_
          refine kr_sub [2, 3, 1, 0] rfl ?_
          exact r_X11_opensSlot_53 E p1 v6 _ (0 : Int32) M7
        · refine kr_bipush (v := -2) dX11_opensSlot_40 (by decide) ?_
          exact kr_iret dX11_opensSlot_42 rfl
      · refine kr_bipush (v := -6) dX11_opensSlot_31 (by decide) ?_
        exact kr_iret dX11_opensSlot_33 rfl
    · refine kr_bipush (v := -2) dX11_opensSlot_17 (by decide) ?_
      exact kr_iret dX11_opensSlot_19 rfl
theorem dX11_text_0 : decode cX11_text 0 = .ok (.aload_n 0, 1) := by decide +kernel
theorem dX11_text_1 : decode cX11_text 1 = .ok (.iload_n 1, 1) := by decide +kernel
theorem dX11_text_2 : decode cX11_text 2 = .ok (.invokevirtual 407, 3) := by decide +kernel
theorem dX11_text_5 : decode cX11_text 5 = .ok (.istore_n 2, 1) := by decide +kernel
theorem dX11_text_6 : decode cX11_text 6 = .ok (.iload_n 2, 1) := by decide +kernel
theorem dX11_text_7 : decode cX11_text 7 = .ok (.ifCond .eq 5, 3) := by decide +kernel
theorem dX11_text_10 : decode cX11_text 10 = .ok (.iload_n 2, 1) := by decide +kernel
theorem dX11_text_11 : decode cX11_text 11 = .ok (.ireturn, 1) := by decide +kernel
theorem dX11_text_12 : decode cX11_text 12 = .ok (.aload_n 0, 1) := by decide +kernel
theorem dX11_text_13 : decode cX11_text 13 = .ok (.getfield 65, 3) := by decide +kernel
theorem dX11_text_16 : decode cX11_text 16 = .ok (.aload_n 0, 1) := by decide +kernel
theorem dX11_text_17 : decode cX11_text 17 = .ok (.getfield 19, 3) := by decide +kernel
theorem dX11_text_20 : decode cX11_text 20 = .ok (.aload_n 0, 1) := by decide +kernel
theorem dX11_text_21 : decode cX11_text 21 = .ok (.getfield 56, 3) := by decide +kernel
theorem dX11_text_24 : decode cX11_text 24 = .ok (.iconst 0, 1) := by decide +kernel
theorem dX11_text_25 : decode cX11_text 25 = .ok (.invokevirtual 222, 3) := by decide +kernel
theorem dX11_text_28 : decode cX11_text 28 = .ok (.aload_n 0, 1) := by decide +kernel
theorem dX11_text_29 : decode cX11_text 29 = .ok (.getfield 65, 3) := by decide +kernel
theorem dX11_text_32 : decode cX11_text 32 = .ok (.invokevirtual 201, 3) := by decide +kernel
theorem dX11_text_35 : decode cX11_text 35 = .ok (.aload_n 0, 1) := by decide +kernel
theorem dX11_text_36 : decode cX11_text 36 = .ok (.getfield 65, 3) := by decide +kernel
theorem dX11_text_39 : decode cX11_text 39 = .ok (.getfield 204, 3) := by decide +kernel
theorem dX11_text_42 : decode cX11_text 42 = .ok (.iconst 0, 1) := by decide +kernel
theorem dX11_text_43 : decode cX11_text 43 = .ok (.iaload, 1) := by decide +kernel
theorem dX11_text_44 : decode cX11_text 44 = .ok (.ireturn, 1) := by decide +kernel
theorem r_X11_text (E : kr_E) (p1 : Int32) (M : kr_M) : kR kr_vi E Y_X11_text 6 0 [(0, kr_r E 0), (1, .int p1)] [] M (f_X11_text p1 M) := by
  rw [f_X11_text]
  refine kr_aload_n dX11_text_0 rfl 0 rfl ?_
  refine kr_iload_n dX11_text_1 rfl 1 rfl ?_
  refine kr_Vi (As := [.int p1]) (st := []) zv_X11_opensSlot dX11_text_2 ml_RX11_407 kr_at_0 (r_X11_opensSlot E p1 M) rfl rfl (Nat.le_of_ble_eq_true rfl) rfl (by decide) (Nat.le_of_ble_eq_true rfl) (fun r2 M1 => ?_)
  refine kr_istore_n (lv' := [(2, .int r2), (0, kr_r E 0), (1, .int p1)]) dX11_text_5 rfl (by decide) rfl ?_
  refine kr_iload_n dX11_text_6 rfl 0 rfl ?_
  refine kr_if_eq (tgt := 12) dX11_text_7 (by decide) ?_ ?_
  · refine kr_aload_n dX11_text_12 rfl 1 rfl ?_
    refine kr_getA (o := 315) (ci := 11) (j := 9) dX11_text_13 kr_at_0 fl_RX11_65 rfl ?_
    refine kr_aload_n dX11_text_16 rfl 1 rfl ?_
    refine kr_getG (o := 0) (ci := 11) (j := 1) dX11_text_17 kr_at_0 fl_RX11_19 rfl (fun g3 h_g3 => ?_)
    refine kr_aload_n dX11_text_20 rfl 1 rfl ?_
    refine kr_getA (o := 313) (ci := 11) (j := 8) dX11_text_21 kr_at_0 fl_RX11_56 rfl ?_
    refine kr_iconst (v := 0) dX11_text_24 (by decide) ?_
    refine kr_Vv (As := [kr_r E g3, kr_r E 313, .int (0 : Int32)]) (st := []) zv_X4_open dX11_text_25 ml_RX11_222 kr_at_315 (r_X4_open E g3 h_g3 313 kr_at_313 (0 : Int32) M1) rfl rfl (Nat.le_of_ble_eq_true rfl) rfl (by decide) (Nat.le_of_ble_eq_true rfl) (fun M4 => ?_)
    refine kr_aload_n dX11_text_28 rfl 1 rfl ?_
    refine kr_getA (o := 315) (ci := 11) (j := 9) dX11_text_29 kr_at_0 fl_RX11_65 rfl ?_
    refine kr_Vv (As := []) (st := []) zv_X4_study dX11_text_32 ml_RX11_201 kr_at_315 (r_X4_study E  M4) rfl rfl (Nat.le_of_ble_eq_true rfl) rfl (by decide) (Nat.le_of_ble_eq_true rfl) (fun M6 => ?_)
    refine kr_aload_n dX11_text_35 rfl 1 rfl ?_
    refine kr_getA (o := 315) (ci := 11) (j := 9) dX11_text_36 kr_at_0 fl_RX11_65 rfl ?_
    refine kr_getA (o := 3) (ci := 4) (j := 2) dX11_text_39 kr_at_315 fl_RX11_204 rfl ?_
    refine kr_iconst (v := 0) dX11_text_42 (by decide) ?_
    refine kr_iald dX11_text_43 kr_at_318 (fun v8 => ?_)
    exact kr_iret dX11_text_44 rfl
  · refine kr_iload_n dX11_text_10 rfl 0 rfl ?_
    exact kr_iret dX11_text_11 rfl
theorem dX11_like_0 : decode cX11_like 0 = .ok (.aload_n 0, 1) := by decide +kernel
theorem dX11_like_1 : decode cX11_like 1 = .ok (.iload_n 1, 1) := by decide +kernel
theorem dX11_like_2 : decode cX11_like 2 = .ok (.invokevirtual 407, 3) := by decide +kernel
theorem dX11_like_5 : decode cX11_like 5 = .ok (.istore_n 2, 1) := by decide +kernel
theorem dX11_like_6 : decode cX11_like 6 = .ok (.iload_n 2, 1) := by decide +kernel
theorem dX11_like_7 : decode cX11_like 7 = .ok (.ifCond .eq 5, 3) := by decide +kernel
theorem dX11_like_10 : decode cX11_like 10 = .ok (.iload_n 2, 1) := by decide +kernel
theorem dX11_like_11 : decode cX11_like 11 = .ok (.ireturn, 1) := by decide +kernel
theorem dX11_like_12 : decode cX11_like 12 = .ok (.iconst (-1), 1) := by decide +kernel
theorem dX11_like_13 : decode cX11_like 13 = .ok (.istore_n 3, 1) := by decide +kernel
theorem dX11_like_14 : decode cX11_like 14 = .ok (.iconst (-1), 1) := by decide +kernel
theorem dX11_like_15 : decode cX11_like 15 = .ok (.istore 4, 2) := by decide +kernel
theorem dX11_like_17 : decode cX11_like 17 = .ok (.iconst 0, 1) := by decide +kernel
theorem dX11_like_18 : decode cX11_like 18 = .ok (.istore 5, 2) := by decide +kernel
theorem dX11_like_20 : decode cX11_like 20 = .ok (.iload 5, 2) := by decide +kernel
theorem dX11_like_22 : decode cX11_like 22 = .ok (.aload_n 0, 1) := by decide +kernel
theorem dX11_like_23 : decode cX11_like 23 = .ok (.getfield 19, 3) := by decide +kernel
theorem dX11_like_26 : decode cX11_like 26 = .ok (.getfield 331, 3) := by decide +kernel
theorem dX11_like_29 : decode cX11_like 29 = .ok (.if_icmp .ge 54, 3) := by decide +kernel
theorem dX11_like_32 : decode cX11_like 32 = .ok (.aload_n 0, 1) := by decide +kernel
theorem dX11_like_33 : decode cX11_like 33 = .ok (.getfield 86, 3) := by decide +kernel
theorem dX11_like_36 : decode cX11_like 36 = .ok (.aload_n 0, 1) := by decide +kernel
theorem dX11_like_37 : decode cX11_like 37 = .ok (.getfield 56, 3) := by decide +kernel
theorem dX11_like_40 : decode cX11_like 40 = .ok (.aload_n 0, 1) := by decide +kernel
theorem dX11_like_41 : decode cX11_like 41 = .ok (.getfield 19, 3) := by decide +kernel
theorem dX11_like_44 : decode cX11_like 44 = .ok (.getfield 157, 3) := by decide +kernel
theorem dX11_like_47 : decode cX11_like 47 = .ok (.iload 5, 2) := by decide +kernel
theorem dX11_like_49 : decode cX11_like 49 = .ok (.aaload, 1) := by decide +kernel
theorem dX11_like_50 : decode cX11_like 50 = .ok (.getfield 172, 3) := by decide +kernel
theorem dX11_like_53 : decode cX11_like 53 = .ok (.invokevirtual 301, 3) := by decide +kernel
theorem dX11_like_56 : decode cX11_like 56 = .ok (.istore 6, 2) := by decide +kernel
theorem dX11_like_58 : decode cX11_like 58 = .ok (.iload 4, 2) := by decide +kernel
theorem dX11_like_60 : decode cX11_like 60 = .ok (.iconst (-1), 1) := by decide +kernel
theorem dX11_like_61 : decode cX11_like 61 = .ok (.if_icmp .eq 9, 3) := by decide +kernel
theorem dX11_like_64 : decode cX11_like 64 = .ok (.iload 6, 2) := by decide +kernel
theorem dX11_like_66 : decode cX11_like 66 = .ok (.iload_n 3, 1) := by decide +kernel
theorem dX11_like_67 : decode cX11_like 67 = .ok (.if_icmp .ge 10, 3) := by decide +kernel
theorem dX11_like_70 : decode cX11_like 70 = .ok (.iload 6, 2) := by decide +kernel
theorem dX11_like_72 : decode cX11_like 72 = .ok (.istore_n 3, 1) := by decide +kernel
theorem dX11_like_73 : decode cX11_like 73 = .ok (.iload 5, 2) := by decide +kernel
theorem dX11_like_75 : decode cX11_like 75 = .ok (.istore 4, 2) := by decide +kernel
theorem dX11_like_77 : decode cX11_like 77 = .ok (.iinc 5 1, 3) := by decide +kernel
theorem dX11_like_80 : decode cX11_like 80 = .ok (.goto (-60), 3) := by decide +kernel
theorem dX11_like_83 : decode cX11_like 83 = .ok (.iload 4, 2) := by decide +kernel
theorem dX11_like_85 : decode cX11_like 85 = .ok (.ireturn, 1) := by decide +kernel
theorem r_X11_like_77 (E : kr_E) (k_20 : Int32 → Int32 → Int32 → kr_M → Option (Int32 × kr_M)) (l3 : Int32) (l4 : Int32) (l5 : Int32) (hk_20 : ∀ (x3 : Int32) (x4 : Int32) (x5 : Int32) (M : kr_M), kR kr_vi E Y_X11_like 3 20 [(0, kr_r E 0), (3, .int x3), (4, .int x4), (5, .int x5)] [] M (k_20 x3 x4 x5 M)) (M : kr_M) : kR kr_vi E Y_X11_like 3 77 [(0, kr_r E 0), (3, .int l3), (4, .int l4), (5, .int l5)] [] M (f_X11_like_77 k_20 l3 l4 l5 M) := by
  rw [f_X11_like_77]
  refine kr_iinc (j := 3) (v := (l5 + (1 : Int32))) (lv' := [(5, .int (l5 + (1 : Int32))), (0, kr_r E 0), (3, .int l3), (4, .int l4)]) dX11_like_77 rfl rfl (by decide) rfl ?_
  refine kr_goto (tgt := 20) dX11_like_80 (by decide) ?_
  refine kr_sub [1, 2, 3, 0] rfl ?_
  exact hk_20 l3 l4 (l5 + (1 : Int32)) M
theorem r_X11_like_70 (E : kr_E) (k_20 : Int32 → Int32 → Int32 → kr_M → Option (Int32 × kr_M)) (l5 : Int32) (l6 : Int32) (hk_20 : ∀ (x3 : Int32) (x4 : Int32) (x5 : Int32) (M : kr_M), kR kr_vi E Y_X11_like 3 20 [(0, kr_r E 0), (3, .int x3), (4, .int x4), (5, .int x5)] [] M (k_20 x3 x4 x5 M)) (M : kr_M) : kR kr_vi E Y_X11_like 3 70 [(0, kr_r E 0), (5, .int l5), (6, .int l6)] [] M (f_X11_like_70 k_20 l5 l6 M) := by
  rw [f_X11_like_70]
  refine kr_iload dX11_like_70 2 rfl ?_
  refine kr_istore_n (lv' := [(3, .int l6), (0, kr_r E 0), (5, .int l5), (6, .int l6)]) dX11_like_72 rfl (by decide) rfl ?_
  refine kr_iload dX11_like_73 2 rfl ?_
  refine kr_istore (lv' := [(4, .int l5), (3, .int l6), (0, kr_r E 0), (5, .int l5), (6, .int l6)]) dX11_like_75 (by decide) rfl ?_
  refine kr_sub [2, 1, 0, 3] rfl ?_
  exact r_X11_like_77 E _ l6 l5 l5 hk_20 M
theorem r_X11_like_20 (E : kr_E)    : ∀ (n : Nat) (l3 : Int32) (l4 : Int32) (l5 : Int32) (M : kr_M), kR kr_vi E Y_X11_like 3 20 [(0, kr_r E 0), (3, .int l3), (4, .int l4), (5, .int l5)] [] M (f_X11_like_20 n l3 l4 l5 M) := by
  intro n
  induction n with
  | zero => intro l3 l4 l5 M; exact kr_none
  | succ n ih =>
    intro l3 l4 l5 M
    rw [f_X11_like_20]
    refine kr_iload dX11_like_20 3 rfl ?_
    refine kr_aload_n dX11_like_22 rfl 0 rfl ?_
    refine kr_getG (o := 0) (ci := 11) (j := 1) dX11_like_23 kr_at_0 fl_RX11_19 rfl (fun g1 h_g1 => ?_)
    refine kr_getI (ci := 2) (j := 6) dX11_like_26 h_g1 fl_RX11_331 rfl (fun v2 => ?_)
    refine kr_icmp_ge (tgt := 83) dX11_like_29 (by decide) ?_ ?_
    · refine kr_iload dX11_like_83 2 rfl ?_
      exact kr_iret dX11_like_85 rfl
    · refine kr_aload_n dX11_like_32 rfl 0 rfl ?_
      refine kr_getA (o := 330) (ci := 11) (j := 12) dX11_like_33 kr_at_0 fl_RX11_86 rfl ?_
      refine kr_aload_n dX11_like_36 rfl 0 rfl ?_
      refine kr_getA (o := 313) (ci := 11) (j := 8) dX11_like_37 kr_at_0 fl_RX11_56 rfl ?_
      refine kr_aload_n dX11_like_40 rfl 0 rfl ?_
      refine kr_getG (o := 0) (ci := 11) (j := 1) dX11_like_41 kr_at_0 fl_RX11_19 rfl (fun g3 h_g3 => ?_)
      refine kr_getA (o := 5) (ci := 2) (j := 14) dX11_like_44 h_g3 fl_RX11_157 rfl ?_
      refine kr_iload dX11_like_47 3 rfl ?_
      refine kr_aaldR dX11_like_49 h_g3 (fun h4 => ?_)
      refine kr_getA (o := 3) (ci := 5) (j := 5) dX11_like_50 h4 fl_RX11_172 rfl ?_
      refine kr_Vi (As := [kr_r E 313, kr_r E ((kr_rp g3 l5) + 3)]) (st := []) zv_X0_fewestErrors dX11_like_53 ml_RX11_301 kr_at_330 (r_X0_fewestErrors E 313 kr_at_313 ((kr_rp g3 l5) + 3) (kr_shR3 _ h4) M) rfl rfl (Nat.le_of_ble_eq_true rfl) rfl (by decide) (Nat.le_of_ble_eq_true rfl) (fun r6 M5 => ?_)
      refine kr_istore (lv' := [(6, .int r6), (0, kr_r E 0), (3, .int l3), (4, .int l4), (5, .int l5)]) dX11_like_56 (by decide) rfl ?_
      refine kr_iload dX11_like_58 3 rfl ?_
      refine kr_iconst (v := -1) dX11_like_60 (by decide) ?_
      refine kr_icmp_eq (tgt := 70) dX11_like_61 (by decide) ?_ ?_
      · refine kr_sub [1, 4, 0] rfl ?_
        exact r_X11_like_70 E _ l5 r6 ih M5
      · refine kr_iload dX11_like_64 0 rfl ?_
        refine kr_iload_n dX11_like_66 rfl 2 rfl ?_
        refine kr_icmp_ge (tgt := 77) dX11_like_67 (by decide) ?_ ?_
        · refine kr_sub [1, 2, 3, 4] rfl ?_
          exact r_X11_like_77 E _ l3 l4 l5 ih M5
        · refine kr_sub [1, 4, 0] rfl ?_
          exact r_X11_like_70 E _ l5 r6 ih M5
theorem r_X11_like (E : kr_E) (p1 : Int32) (M : kr_M) : kR kr_vi E Y_X11_like 3 0 [(0, kr_r E 0), (1, .int p1)] [] M (f_X11_like p1 M) := by
  rw [f_X11_like]
  refine kr_aload_n dX11_like_0 rfl 0 rfl ?_
  refine kr_iload_n dX11_like_1 rfl 1 rfl ?_
  refine kr_Vi (As := [.int p1]) (st := []) zv_X11_opensSlot dX11_like_2 ml_RX11_407 kr_at_0 (r_X11_opensSlot E p1 M) rfl rfl (Nat.le_of_ble_eq_true rfl) rfl (by decide) (Nat.le_of_ble_eq_true rfl) (fun r2 M1 => ?_)
  refine kr_istore_n (lv' := [(2, .int r2), (0, kr_r E 0), (1, .int p1)]) dX11_like_5 rfl (by decide) rfl ?_
  refine kr_iload_n dX11_like_6 rfl 0 rfl ?_
  refine kr_if_eq (tgt := 12) dX11_like_7 (by decide) ?_ ?_
  · refine kr_iconst (v := -1) dX11_like_12 (by decide) ?_
    refine kr_istore_n (lv' := [(3, .int (-1 : Int32)), (2, .int r2), (0, kr_r E 0), (1, .int p1)]) dX11_like_13 rfl (by decide) rfl ?_
    refine kr_iconst (v := -1) dX11_like_14 (by decide) ?_
    refine kr_istore (lv' := [(4, .int (-1 : Int32)), (3, .int (-1 : Int32)), (2, .int r2), (0, kr_r E 0), (1, .int p1)]) dX11_like_15 (by decide) rfl ?_
    refine kr_iconst (v := 0) dX11_like_17 (by decide) ?_
    refine kr_istore (lv' := [(5, .int (0 : Int32)), (4, .int (-1 : Int32)), (3, .int (-1 : Int32)), (2, .int r2), (0, kr_r E 0), (1, .int p1)]) dX11_like_18 (by decide) rfl ?_
    refine kr_sub [4, 2, 1, 0] rfl ?_
    exact r_X11_like_20 E _ (-1 : Int32) (-1 : Int32) (0 : Int32) M1
  · refine kr_iload_n dX11_like_10 rfl 0 rfl ?_
    exact kr_iret dX11_like_11 rfl
theorem dX11_found_0 : decode cX11_found 0 = .ok (.aload_n 0, 1) := by decide +kernel
theorem dX11_found_1 : decode cX11_found 1 = .ok (.iload_n 1, 1) := by decide +kernel
theorem dX11_found_2 : decode cX11_found 2 = .ok (.invokevirtual 407, 3) := by decide +kernel
theorem dX11_found_5 : decode cX11_found 5 = .ok (.istore_n 2, 1) := by decide +kernel
theorem dX11_found_6 : decode cX11_found 6 = .ok (.iload_n 2, 1) := by decide +kernel
theorem dX11_found_7 : decode cX11_found 7 = .ok (.ifCond .eq 5, 3) := by decide +kernel
theorem dX11_found_10 : decode cX11_found 10 = .ok (.iload_n 2, 1) := by decide +kernel
theorem dX11_found_11 : decode cX11_found 11 = .ok (.ireturn, 1) := by decide +kernel
theorem dX11_found_12 : decode cX11_found 12 = .ok (.iconst 0, 1) := by decide +kernel
theorem dX11_found_13 : decode cX11_found 13 = .ok (.istore_n 3, 1) := by decide +kernel
theorem dX11_found_14 : decode cX11_found 14 = .ok (.iconst 0, 1) := by decide +kernel
theorem dX11_found_15 : decode cX11_found 15 = .ok (.istore 4, 2) := by decide +kernel
theorem dX11_found_17 : decode cX11_found 17 = .ok (.iload 4, 2) := by decide +kernel
theorem dX11_found_19 : decode cX11_found 19 = .ok (.aload_n 0, 1) := by decide +kernel
theorem dX11_found_20 : decode cX11_found 20 = .ok (.getfield 19, 3) := by decide +kernel
theorem dX11_found_23 : decode cX11_found 23 = .ok (.getfield 331, 3) := by decide +kernel
theorem dX11_found_26 : decode cX11_found 26 = .ok (.if_icmp .ge 40, 3) := by decide +kernel
theorem dX11_found_29 : decode cX11_found 29 = .ok (.aload_n 0, 1) := by decide +kernel
theorem dX11_found_30 : decode cX11_found 30 = .ok (.getfield 19, 3) := by decide +kernel
theorem dX11_found_33 : decode cX11_found 33 = .ok (.getfield 157, 3) := by decide +kernel
theorem dX11_found_36 : decode cX11_found 36 = .ok (.iload 4, 2) := by decide +kernel
theorem dX11_found_38 : decode cX11_found 38 = .ok (.aaload, 1) := by decide +kernel
theorem dX11_found_39 : decode cX11_found 39 = .ok (.getfield 172, 3) := by decide +kernel
theorem dX11_found_42 : decode cX11_found 42 = .ok (.aload_n 0, 1) := by decide +kernel
theorem dX11_found_43 : decode cX11_found 43 = .ok (.getfield 56, 3) := by decide +kernel
theorem dX11_found_46 : decode cX11_found 46 = .ok (.invokevirtual 297, 3) := by decide +kernel
theorem dX11_found_49 : decode cX11_found 49 = .ok (.iconst (-1), 1) := by decide +kernel
theorem dX11_found_50 : decode cX11_found 50 = .ok (.if_icmp .eq 10, 3) := by decide +kernel
theorem dX11_found_53 : decode cX11_found 53 = .ok (.iload_n 3, 1) := by decide +kernel
theorem dX11_found_54 : decode cX11_found 54 = .ok (.iconst 1, 1) := by decide +kernel
theorem dX11_found_55 : decode cX11_found 55 = .ok (.iload 4, 2) := by decide +kernel
theorem dX11_found_57 : decode cX11_found 57 = .ok (.ishl, 1) := by decide +kernel
theorem dX11_found_58 : decode cX11_found 58 = .ok (.ior, 1) := by decide +kernel
theorem dX11_found_59 : decode cX11_found 59 = .ok (.istore_n 3, 1) := by decide +kernel
theorem dX11_found_60 : decode cX11_found 60 = .ok (.iinc 4 1, 3) := by decide +kernel
theorem dX11_found_63 : decode cX11_found 63 = .ok (.goto (-46), 3) := by decide +kernel
theorem dX11_found_66 : decode cX11_found 66 = .ok (.iload_n 3, 1) := by decide +kernel
theorem dX11_found_67 : decode cX11_found 67 = .ok (.ireturn, 1) := by decide +kernel
theorem r_X11_found_60 (E : kr_E) (k_17 : Int32 → Int32 → kr_M → Option (Int32 × kr_M)) (l3 : Int32) (l4 : Int32) (hk_17 : ∀ (x3 : Int32) (x4 : Int32) (M : kr_M), kR kr_vi E Y_X11_found 4 17 [(0, kr_r E 0), (3, .int x3), (4, .int x4)] [] M (k_17 x3 x4 M)) (M : kr_M) : kR kr_vi E Y_X11_found 4 60 [(0, kr_r E 0), (3, .int l3), (4, .int l4)] [] M (f_X11_found_60 k_17 l3 l4 M) := by
  rw [f_X11_found_60]
  refine kr_iinc (j := 2) (v := (l4 + (1 : Int32))) (lv' := [(4, .int (l4 + (1 : Int32))), (0, kr_r E 0), (3, .int l3)]) dX11_found_60 rfl rfl (by decide) rfl ?_
  refine kr_goto (tgt := 17) dX11_found_63 (by decide) ?_
  refine kr_sub [1, 2, 0] rfl ?_
  exact hk_17 l3 (l4 + (1 : Int32)) M
theorem r_X11_found_17 (E : kr_E)    : ∀ (n : Nat) (l3 : Int32) (l4 : Int32) (M : kr_M), kR kr_vi E Y_X11_found 4 17 [(0, kr_r E 0), (3, .int l3), (4, .int l4)] [] M (f_X11_found_17 n l3 l4 M) := by
  intro n
  induction n with
  | zero => intro l3 l4 M; exact kr_none
  | succ n ih =>
    intro l3 l4 M
    rw [f_X11_found_17]
    refine kr_iload dX11_found_17 2 rfl ?_
    refine kr_aload_n dX11_found_19 rfl 0 rfl ?_
    refine kr_getG (o := 0) (ci := 11) (j := 1) dX11_found_20 kr_at_0 fl_RX11_19 rfl (fun g1 h_g1 => ?_)
    refine kr_getI (ci := 2) (j := 6) dX11_found_23 h_g1 fl_RX11_331 rfl (fun v2 => ?_)
    refine kr_icmp_ge (tgt := 66) dX11_found_26 (by decide) ?_ ?_
    · refine kr_iload_n dX11_found_66 rfl 1 rfl ?_
      exact kr_iret dX11_found_67 rfl
    · refine kr_aload_n dX11_found_29 rfl 0 rfl ?_
      refine kr_getG (o := 0) (ci := 11) (j := 1) dX11_found_30 kr_at_0 fl_RX11_19 rfl (fun g3 h_g3 => ?_)
      refine kr_getA (o := 5) (ci := 2) (j := 14) dX11_found_33 h_g3 fl_RX11_157 rfl ?_
      refine kr_iload dX11_found_36 2 rfl ?_
      refine kr_aaldR dX11_found_38 h_g3 (fun h4 => ?_)
      refine kr_getA (o := 3) (ci := 5) (j := 5) dX11_found_39 h4 fl_RX11_172 rfl ?_
      refine kr_aload_n dX11_found_42 rfl 0 rfl ?_
      refine kr_getA (o := 313) (ci := 11) (j := 8) dX11_found_43 kr_at_0 fl_RX11_56 rfl ?_
      refine kr_Vi (As := [kr_r E 313]) (st := []) zv_X7_placeOf dX11_found_46 ml_RX11_297 (kr_shR3 _ h4) (r_X7_placeOf E ((kr_rp g3 l4) + 3) (kr_shR3 _ h4) 313 kr_at_313 M) rfl rfl (Nat.le_of_ble_eq_true rfl) rfl (by decide) (Nat.le_of_ble_eq_true rfl) (fun r6 M5 => ?_)
      refine kr_iconst (v := -1) dX11_found_49 (by decide) ?_
      refine kr_icmp_eq (tgt := 60) dX11_found_50 (by decide) ?_ ?_
      · refine kr_sub [0, 1, 2] rfl ?_
        exact r_X11_found_60 E _ l3 l4 ih M5
      · refine kr_iload_n dX11_found_53 rfl 1 rfl ?_
        refine kr_iconst (v := 1) dX11_found_54 (by decide) ?_
        refine kr_iload dX11_found_55 2 rfl ?_
        refine kr_ishl dX11_found_57 ?_
        refine kr_ior dX11_found_58 ?_
        refine kr_nmi (fun v7 => ?_)
        refine kr_istore_n (lv' := [(3, .int v7), (0, kr_r E 0), (4, .int l4)]) dX11_found_59 rfl (by decide) rfl ?_
        refine kr_sub [1, 0, 2] rfl ?_
        exact r_X11_found_60 E _ v7 l4 ih M5
theorem r_X11_found (E : kr_E) (p1 : Int32) (M : kr_M) : kR kr_vi E Y_X11_found 4 0 [(0, kr_r E 0), (1, .int p1)] [] M (f_X11_found p1 M) := by
  rw [f_X11_found]
  refine kr_aload_n dX11_found_0 rfl 0 rfl ?_
  refine kr_iload_n dX11_found_1 rfl 1 rfl ?_
  refine kr_Vi (As := [.int p1]) (st := []) zv_X11_opensSlot dX11_found_2 ml_RX11_407 kr_at_0 (r_X11_opensSlot E p1 M) rfl rfl (Nat.le_of_ble_eq_true rfl) rfl (by decide) (Nat.le_of_ble_eq_true rfl) (fun r2 M1 => ?_)
  refine kr_istore_n (lv' := [(2, .int r2), (0, kr_r E 0), (1, .int p1)]) dX11_found_5 rfl (by decide) rfl ?_
  refine kr_iload_n dX11_found_6 rfl 0 rfl ?_
  refine kr_if_eq (tgt := 12) dX11_found_7 (by decide) ?_ ?_
  · refine kr_iconst (v := 0) dX11_found_12 (by decide) ?_
    refine kr_istore_n (lv' := [(3, .int (0 : Int32)), (2, .int r2), (0, kr_r E 0), (1, .int p1)]) dX11_found_13 rfl (by decide) rfl ?_
    refine kr_iconst (v := 0) dX11_found_14 (by decide) ?_
    refine kr_istore (lv' := [(4, .int (0 : Int32)), (3, .int (0 : Int32)), (2, .int r2), (0, kr_r E 0), (1, .int p1)]) dX11_found_15 (by decide) rfl ?_
    refine kr_sub [3, 1, 0] rfl ?_
    exact r_X11_found_17 E _ (0 : Int32) (0 : Int32) M1
  · refine kr_iload_n dX11_found_10 rfl 0 rfl ?_
    exact kr_iret dX11_found_11 rfl
theorem dX11_mend_0 : decode cX11_mend 0 = .ok (.aload_n 0, 1) := by decide +kernel
theorem dX11_mend_1 : decode cX11_mend 1 = .ok (.iload_n 1, 1) := by decide +kernel
theorem dX11_mend_2 : decode cX11_mend 2 = .ok (.invokevirtual 407, 3) := by decide +kernel
theorem dX11_mend_5 : decode cX11_mend 5 = .ok (.istore_n 2, 1) := by decide +kernel
theorem dX11_mend_6 : decode cX11_mend 6 = .ok (.iload_n 2, 1) := by decide +kernel
theorem dX11_mend_7 : decode cX11_mend 7 = .ok (.ifCond .eq 5, 3) := by decide +kernel
theorem dX11_mend_10 : decode cX11_mend 10 = .ok (.iload_n 2, 1) := by decide +kernel
theorem dX11_mend_11 : decode cX11_mend 11 = .ok (.ireturn, 1) := by decide +kernel
theorem dX11_mend_12 : decode cX11_mend 12 = .ok (.aload_n 0, 1) := by decide +kernel
theorem dX11_mend_13 : decode cX11_mend 13 = .ok (.getfield 72, 3) := by decide +kernel
theorem dX11_mend_16 : decode cX11_mend 16 = .ok (.aload_n 0, 1) := by decide +kernel
theorem dX11_mend_17 : decode cX11_mend 17 = .ok (.getfield 19, 3) := by decide +kernel
theorem dX11_mend_20 : decode cX11_mend 20 = .ok (.aload_n 0, 1) := by decide +kernel
theorem dX11_mend_21 : decode cX11_mend 21 = .ok (.getfield 56, 3) := by decide +kernel
theorem dX11_mend_24 : decode cX11_mend 24 = .ok (.invokevirtual 410, 3) := by decide +kernel
theorem dX11_mend_27 : decode cX11_mend 27 = .ok (.aload_n 0, 1) := by decide +kernel
theorem dX11_mend_28 : decode cX11_mend 28 = .ok (.getfield 72, 3) := by decide +kernel
theorem dX11_mend_31 : decode cX11_mend 31 = .ok (.getfield 413, 3) := by decide +kernel
theorem dX11_mend_34 : decode cX11_mend 34 = .ok (.iconst 0, 1) := by decide +kernel
theorem dX11_mend_35 : decode cX11_mend 35 = .ok (.iaload, 1) := by decide +kernel
theorem dX11_mend_36 : decode cX11_mend 36 = .ok (.ireturn, 1) := by decide +kernel
theorem r_X11_mend (E : kr_E) (p1 : Int32) (M : kr_M) : kR kr_vi E Y_X11_mend 5 0 [(0, kr_r E 0), (1, .int p1)] [] M (f_X11_mend p1 M) := by
  rw [f_X11_mend]
  refine kr_aload_n dX11_mend_0 rfl 0 rfl ?_
  refine kr_iload_n dX11_mend_1 rfl 1 rfl ?_
  refine kr_Vi (As := [.int p1]) (st := []) zv_X11_opensSlot dX11_mend_2 ml_RX11_407 kr_at_0 (r_X11_opensSlot E p1 M) rfl rfl (Nat.le_of_ble_eq_true rfl) rfl (by decide) (Nat.le_of_ble_eq_true rfl) (fun r2 M1 => ?_)
  refine kr_istore_n (lv' := [(2, .int r2), (0, kr_r E 0), (1, .int p1)]) dX11_mend_5 rfl (by decide) rfl ?_
  refine kr_iload_n dX11_mend_6 rfl 0 rfl ?_
  refine kr_if_eq (tgt := 12) dX11_mend_7 (by decide) ?_ ?_
  · refine kr_aload_n dX11_mend_12 rfl 1 rfl ?_
    refine kr_getA (o := 324) (ci := 11) (j := 10) dX11_mend_13 kr_at_0 fl_RX11_72 rfl ?_
    refine kr_aload_n dX11_mend_16 rfl 1 rfl ?_
    refine kr_getG (o := 0) (ci := 11) (j := 1) dX11_mend_17 kr_at_0 fl_RX11_19 rfl (fun g3 h_g3 => ?_)
    refine kr_aload_n dX11_mend_20 rfl 1 rfl ?_
    refine kr_getA (o := 313) (ci := 11) (j := 8) dX11_mend_21 kr_at_0 fl_RX11_56 rfl ?_
    refine kr_Vv (As := [kr_r E g3, kr_r E 313]) (st := []) zv_X3_study dX11_mend_24 ml_RX11_410 kr_at_324 (r_X3_study E g3 h_g3 313 kr_at_313 M1) rfl rfl (Nat.le_of_ble_eq_true rfl) rfl (by decide) (Nat.le_of_ble_eq_true rfl) (fun M4 => ?_)
    refine kr_aload_n dX11_mend_27 rfl 1 rfl ?_
    refine kr_getA (o := 324) (ci := 11) (j := 10) dX11_mend_28 kr_at_0 fl_RX11_72 rfl ?_
    refine kr_getA (o := 1) (ci := 3) (j := 0) dX11_mend_31 kr_at_324 fl_RX11_413 rfl ?_
    refine kr_iconst (v := 0) dX11_mend_34 (by decide) ?_
    refine kr_iald dX11_mend_35 kr_at_325 (fun v6 => ?_)
    exact kr_iret dX11_mend_36 rfl
  · refine kr_iload_n dX11_mend_10 rfl 0 rfl ?_
    exact kr_iret dX11_mend_11 rfl
theorem dX11_mended_0 : decode cX11_mended 0 = .ok (.aload_n 0, 1) := by decide +kernel
theorem dX11_mended_1 : decode cX11_mended 1 = .ok (.iload_n 1, 1) := by decide +kernel
theorem dX11_mended_2 : decode cX11_mended 2 = .ok (.invokevirtual 407, 3) := by decide +kernel
theorem dX11_mended_5 : decode cX11_mended 5 = .ok (.istore_n 3, 1) := by decide +kernel
theorem dX11_mended_6 : decode cX11_mended 6 = .ok (.iload_n 3, 1) := by decide +kernel
theorem dX11_mended_7 : decode cX11_mended 7 = .ok (.ifCond .eq 5, 3) := by decide +kernel
theorem dX11_mended_10 : decode cX11_mended 10 = .ok (.iload_n 3, 1) := by decide +kernel
theorem dX11_mended_11 : decode cX11_mended 11 = .ok (.ireturn, 1) := by decide +kernel
theorem dX11_mended_12 : decode cX11_mended 12 = .ok (.aload_n 0, 1) := by decide +kernel
theorem dX11_mended_13 : decode cX11_mended 13 = .ok (.getfield 72, 3) := by decide +kernel
theorem dX11_mended_16 : decode cX11_mended 16 = .ok (.aload_n 0, 1) := by decide +kernel
theorem dX11_mended_17 : decode cX11_mended 17 = .ok (.getfield 19, 3) := by decide +kernel
theorem dX11_mended_20 : decode cX11_mended 20 = .ok (.aload_n 0, 1) := by decide +kernel
theorem dX11_mended_21 : decode cX11_mended 21 = .ok (.getfield 56, 3) := by decide +kernel
theorem dX11_mended_24 : decode cX11_mended 24 = .ok (.invokevirtual 410, 3) := by decide +kernel
theorem dX11_mended_27 : decode cX11_mended 27 = .ok (.aload_n 0, 1) := by decide +kernel
theorem dX11_mended_28 : decode cX11_mended 28 = .ok (.getfield 72, 3) := by decide +kernel
theorem dX11_mended_31 : decode cX11_mended 31 = .ok (.aload_n 0, 1) := by decide +kernel
theorem dX11_mended_32 : decode cX11_mended 32 = .ok (.getfield 56, 3) := by decide +kernel
theorem dX11_mended_35 : decode cX11_mended 35 = .ok (.getfield 175, 3) := by decide +kernel
theorem dX11_mended_38 : decode cX11_mended 38 = .ok (.iload_n 2, 1) := by decide +kernel
theorem dX11_mended_39 : decode cX11_mended 39 = .ok (.invokevirtual 416, 3) := by decide +kernel
theorem dX11_mended_42 : decode cX11_mended 42 = .ok (.ireturn, 1) := by decide +kernel
theorem r_X11_mended (E : kr_E) (p1 : Int32) (p2 : Int32) (M : kr_M) : kR kr_vi E Y_X11_mended 5 0 [(0, kr_r E 0), (1, .int p1), (2, .int p2)] [] M (f_X11_mended p1 p2 M) := by
  rw [f_X11_mended]
  refine kr_aload_n dX11_mended_0 rfl 0 rfl ?_
  refine kr_iload_n dX11_mended_1 rfl 1 rfl ?_
  refine kr_Vi (As := [.int p1]) (st := []) zv_X11_opensSlot dX11_mended_2 ml_RX11_407 kr_at_0 (r_X11_opensSlot E p1 M) rfl rfl (Nat.le_of_ble_eq_true rfl) rfl (by decide) (Nat.le_of_ble_eq_true rfl) (fun r2 M1 => ?_)
  refine kr_istore_n (lv' := [(3, .int r2), (0, kr_r E 0), (1, .int p1), (2, .int p2)]) dX11_mended_5 rfl (by decide) rfl ?_
  refine kr_iload_n dX11_mended_6 rfl 0 rfl ?_
  refine kr_if_eq (tgt := 12) dX11_mended_7 (by decide) ?_ ?_
  · refine kr_aload_n dX11_mended_12 rfl 1 rfl ?_
    refine kr_getA (o := 324) (ci := 11) (j := 10) dX11_mended_13 kr_at_0 fl_RX11_72 rfl ?_
    refine kr_aload_n dX11_mended_16 rfl 1 rfl ?_
    refine kr_getG (o := 0) (ci := 11) (j := 1) dX11_mended_17 kr_at_0 fl_RX11_19 rfl (fun g3 h_g3 => ?_)
    refine kr_aload_n dX11_mended_20 rfl 1 rfl ?_
    refine kr_getA (o := 313) (ci := 11) (j := 8) dX11_mended_21 kr_at_0 fl_RX11_56 rfl ?_
    refine kr_Vv (As := [kr_r E g3, kr_r E 313]) (st := []) zv_X3_study dX11_mended_24 ml_RX11_410 kr_at_324 (r_X3_study E g3 h_g3 313 kr_at_313 M1) rfl rfl (Nat.le_of_ble_eq_true rfl) rfl (by decide) (Nat.le_of_ble_eq_true rfl) (fun M4 => ?_)
    refine kr_aload_n dX11_mended_27 rfl 1 rfl ?_
    refine kr_getA (o := 324) (ci := 11) (j := 10) dX11_mended_28 kr_at_0 fl_RX11_72 rfl ?_
    refine kr_aload_n dX11_mended_31 rfl 1 rfl ?_
    refine kr_getA (o := 313) (ci := 11) (j := 8) dX11_mended_32 kr_at_0 fl_RX11_56 rfl ?_
    refine kr_getI (ci := 7) (j := 1) dX11_mended_35 kr_at_313 fl_RX11_175 rfl (fun v6 => ?_)
    refine kr_iload_n dX11_mended_38 rfl 3 rfl ?_
    refine kr_Vi (As := [.int v6, .int p2]) (st := []) zv_X3_kindOfFirst dX11_mended_39 ml_RX11_416 kr_at_324 (r_X3_kindOfFirst E v6 p2 M4) rfl rfl (Nat.le_of_ble_eq_true rfl) rfl (by decide) (Nat.le_of_ble_eq_true rfl) (fun r8 M7 => ?_)
    exact kr_iret dX11_mended_42 rfl
  · refine kr_iload_n dX11_mended_10 rfl 0 rfl ?_
    exact kr_iret dX11_mended_11 rfl
theorem dX11_slotsWithRow_0 : decode cX11_slotsWithRow 0 = .ok (.iconst 0, 1) := by decide +kernel
theorem dX11_slotsWithRow_1 : decode cX11_slotsWithRow 1 = .ok (.istore_n 1, 1) := by decide +kernel
theorem dX11_slotsWithRow_2 : decode cX11_slotsWithRow 2 = .ok (.iconst 0, 1) := by decide +kernel
theorem dX11_slotsWithRow_3 : decode cX11_slotsWithRow 3 = .ok (.istore_n 2, 1) := by decide +kernel
theorem dX11_slotsWithRow_4 : decode cX11_slotsWithRow 4 = .ok (.iload_n 2, 1) := by decide +kernel
theorem dX11_slotsWithRow_5 : decode cX11_slotsWithRow 5 = .ok (.iconst 4, 1) := by decide +kernel
theorem dX11_slotsWithRow_6 : decode cX11_slotsWithRow 6 = .ok (.if_icmp .ge 21, 3) := by decide +kernel
theorem dX11_slotsWithRow_9 : decode cX11_slotsWithRow 9 = .ok (.aload_n 0, 1) := by decide +kernel
theorem dX11_slotsWithRow_10 : decode cX11_slotsWithRow 10 = .ok (.getfield 42, 3) := by decide +kernel
theorem dX11_slotsWithRow_13 : decode cX11_slotsWithRow 13 = .ok (.iload_n 2, 1) := by decide +kernel
theorem dX11_slotsWithRow_14 : decode cX11_slotsWithRow 14 = .ok (.iaload, 1) := by decide +kernel
theorem dX11_slotsWithRow_15 : decode cX11_slotsWithRow 15 = .ok (.ifCond .lt 6, 3) := by decide +kernel
theorem dX11_slotsWithRow_18 : decode cX11_slotsWithRow 18 = .ok (.iinc 1 1, 3) := by decide +kernel
theorem dX11_slotsWithRow_21 : decode cX11_slotsWithRow 21 = .ok (.iinc 2 1, 3) := by decide +kernel
theorem dX11_slotsWithRow_24 : decode cX11_slotsWithRow 24 = .ok (.goto (-20), 3) := by decide +kernel
theorem dX11_slotsWithRow_27 : decode cX11_slotsWithRow 27 = .ok (.iload_n 1, 1) := by decide +kernel
theorem dX11_slotsWithRow_28 : decode cX11_slotsWithRow 28 = .ok (.ireturn, 1) := by decide +kernel
theorem r_X11_slotsWithRow_21 (E : kr_E) (k_4 : Int32 → Int32 → kr_M → Option (Int32 × kr_M)) (l1 : Int32) (l2 : Int32) (hk_4 : ∀ (x1 : Int32) (x2 : Int32) (M : kr_M), kR kr_vi E Y_X11_slotsWithRow 1 4 [(0, kr_r E 0), (1, .int x1), (2, .int x2)] [] M (k_4 x1 x2 M)) (M : kr_M) : kR kr_vi E Y_X11_slotsWithRow 1 21 [(0, kr_r E 0), (1, .int l1), (2, .int l2)] [] M (f_X11_slotsWithRow_21 k_4 l1 l2 M) := by
  rw [f_X11_slotsWithRow_21]
  refine kr_iinc (j := 2) (v := (l2 + (1 : Int32))) (lv' := [(2, .int (l2 + (1 : Int32))), (0, kr_r E 0), (1, .int l1)]) dX11_slotsWithRow_21 rfl rfl (by decide) rfl ?_
  refine kr_goto (tgt := 4) dX11_slotsWithRow_24 (by decide) ?_
  refine kr_sub [1, 2, 0] rfl ?_
  exact hk_4 l1 (l2 + (1 : Int32)) M
theorem r_X11_slotsWithRow_4 (E : kr_E)    : ∀ (n : Nat) (l1 : Int32) (l2 : Int32) (M : kr_M), kR kr_vi E Y_X11_slotsWithRow 1 4 [(0, kr_r E 0), (1, .int l1), (2, .int l2)] [] M (f_X11_slotsWithRow_4 n l1 l2 M) := by
  intro n
  induction n with
  | zero => intro l1 l2 M; exact kr_none
  | succ n ih =>
    intro l1 l2 M
    rw [f_X11_slotsWithRow_4]
    refine kr_iload_n dX11_slotsWithRow_4 rfl 2 rfl ?_
    refine kr_iconst (v := 4) dX11_slotsWithRow_5 (by decide) ?_
    refine kr_icmp_ge (tgt := 27) dX11_slotsWithRow_6 (by decide) ?_ ?_
    · refine kr_iload_n dX11_slotsWithRow_27 rfl 1 rfl ?_
      exact kr_iret dX11_slotsWithRow_28 rfl
    · refine kr_aload_n dX11_slotsWithRow_9 rfl 0 rfl ?_
      refine kr_getA (o := 312) (ci := 11) (j := 7) dX11_slotsWithRow_10 kr_at_0 fl_RX11_42 rfl ?_
      refine kr_iload_n dX11_slotsWithRow_13 rfl 2 rfl ?_
      refine kr_iald dX11_slotsWithRow_14 kr_at_312 (fun v1 => ?_)
      refine kr_if_lt (tgt := 21) dX11_slotsWithRow_15 (by decide) ?_ ?_
      · refine kr_sub [0, 1, 2] rfl ?_
        exact r_X11_slotsWithRow_21 E _ l1 l2 ih M
      · refine kr_iinc (j := 1) (v := (l1 + (1 : Int32))) (lv' := [(1, .int (l1 + (1 : Int32))), (0, kr_r E 0), (2, .int l2)]) dX11_slotsWithRow_18 rfl rfl (by decide) rfl ?_
        refine kr_sub [1, 0, 2] rfl ?_
        exact r_X11_slotsWithRow_21 E _ (l1 + (1 : Int32)) l2 ih M
theorem r_X11_slotsWithRow (E : kr_E)  (M : kr_M) : kR kr_vi E Y_X11_slotsWithRow 1 0 [(0, kr_r E 0)] [] M (f_X11_slotsWithRow M) := by
  rw [f_X11_slotsWithRow]
  refine kr_iconst (v := 0) dX11_slotsWithRow_0 (by decide) ?_
  refine kr_istore_n (lv' := [(1, .int (0 : Int32)), (0, kr_r E 0)]) dX11_slotsWithRow_1 rfl (by decide) rfl ?_
  refine kr_iconst (v := 0) dX11_slotsWithRow_2 (by decide) ?_
  refine kr_istore_n (lv' := [(2, .int (0 : Int32)), (1, .int (0 : Int32)), (0, kr_r E 0)]) dX11_slotsWithRow_3 rfl (by decide) rfl ?_
  refine kr_sub [2, 1, 0] rfl ?_
  exact r_X11_slotsWithRow_4 E _ (0 : Int32) (0 : Int32) M
theorem dX11_count_0 : decode cX11_count 0 = .ok (.iload_n 1, 1) := by decide +kernel
theorem dX11_count_1 : decode cX11_count 1 = .ok (.tableswitch 72 7 11 #[35, 43, 51, 59, 67], 35) := by decide +kernel
theorem dX11_count_36 : decode cX11_count 36 = .ok (.aload_n 0, 1) := by decide +kernel
theorem dX11_count_37 : decode cX11_count 37 = .ok (.getfield 19, 3) := by decide +kernel
theorem dX11_count_40 : decode cX11_count 40 = .ok (.getfield 381, 3) := by decide +kernel
theorem dX11_count_43 : decode cX11_count 43 = .ok (.ireturn, 1) := by decide +kernel
theorem dX11_count_44 : decode cX11_count 44 = .ok (.aload_n 0, 1) := by decide +kernel
theorem dX11_count_45 : decode cX11_count 45 = .ok (.getfield 19, 3) := by decide +kernel
theorem dX11_count_48 : decode cX11_count 48 = .ok (.getfield 384, 3) := by decide +kernel
theorem dX11_count_51 : decode cX11_count 51 = .ok (.ireturn, 1) := by decide +kernel
theorem dX11_count_52 : decode cX11_count 52 = .ok (.aload_n 0, 1) := by decide +kernel
theorem dX11_count_53 : decode cX11_count 53 = .ok (.getfield 19, 3) := by decide +kernel
theorem dX11_count_56 : decode cX11_count 56 = .ok (.getfield 124, 3) := by decide +kernel
theorem dX11_count_59 : decode cX11_count 59 = .ok (.ireturn, 1) := by decide +kernel
theorem dX11_count_60 : decode cX11_count 60 = .ok (.aload_n 0, 1) := by decide +kernel
theorem dX11_count_61 : decode cX11_count 61 = .ok (.getfield 10, 3) := by decide +kernel
theorem dX11_count_64 : decode cX11_count 64 = .ok (.getfield 111, 3) := by decide +kernel
theorem dX11_count_67 : decode cX11_count 67 = .ok (.ireturn, 1) := by decide +kernel
theorem dX11_count_68 : decode cX11_count 68 = .ok (.aload_n 0, 1) := by decide +kernel
theorem dX11_count_69 : decode cX11_count 69 = .ok (.invokevirtual 425, 3) := by decide +kernel
theorem dX11_count_72 : decode cX11_count 72 = .ok (.ireturn, 1) := by decide +kernel
theorem dX11_count_73 : decode cX11_count 73 = .ok (.aload_n 0, 1) := by decide +kernel
theorem dX11_count_74 : decode cX11_count 74 = .ok (.getfield 19, 3) := by decide +kernel
theorem dX11_count_77 : decode cX11_count 77 = .ok (.iload_n 1, 1) := by decide +kernel
theorem dX11_count_78 : decode cX11_count 78 = .ok (.invokevirtual 428, 3) := by decide +kernel
theorem dX11_count_81 : decode cX11_count 81 = .ok (.ireturn, 1) := by decide +kernel
theorem r_X11_count (E : kr_E) (p1 : Int32) (M : kr_M) : kR kr_vi E Y_X11_count 2 0 [(0, kr_r E 0), (1, .int p1)] [] M (f_X11_count p1 M) := by
  rw [f_X11_count]
  refine kr_iload_n dX11_count_0 rfl 1 rfl ?_
  refine kr_case (7 : Int32) (fun c1 => ?_) (fun c1 => ?_)
  · refine kr_tin (v := 7) (off := 35) (tgt := 36) c1 dX11_count_1 (by decide) (by decide) (by decide) (by decide) ?_
    refine kr_aload_n dX11_count_36 rfl 0 rfl ?_
    refine kr_getG (o := 0) (ci := 11) (j := 1) dX11_count_37 kr_at_0 fl_RX11_19 rfl (fun g2 h_g2 => ?_)
    refine kr_getI (ci := 2) (j := 8) dX11_count_40 h_g2 fl_RX11_381 rfl (fun v3 => ?_)
    exact kr_iret dX11_count_43 rfl
  refine kr_case (8 : Int32) (fun c4 => ?_) (fun c4 => ?_)
  · refine kr_tin (v := 8) (off := 43) (tgt := 44) c4 dX11_count_1 (by decide) (by decide) (by decide) (by decide) ?_
    refine kr_aload_n dX11_count_44 rfl 0 rfl ?_
    refine kr_getG (o := 0) (ci := 11) (j := 1) dX11_count_45 kr_at_0 fl_RX11_19 rfl (fun g5 h_g5 => ?_)
    refine kr_getI (ci := 2) (j := 9) dX11_count_48 h_g5 fl_RX11_384 rfl (fun v6 => ?_)
    exact kr_iret dX11_count_51 rfl
  refine kr_case (9 : Int32) (fun c7 => ?_) (fun c7 => ?_)
  · refine kr_tin (v := 9) (off := 51) (tgt := 52) c7 dX11_count_1 (by decide) (by decide) (by decide) (by decide) ?_
    refine kr_aload_n dX11_count_52 rfl 0 rfl ?_
    refine kr_getG (o := 0) (ci := 11) (j := 1) dX11_count_53 kr_at_0 fl_RX11_19 rfl (fun g8 h_g8 => ?_)
    refine kr_getI (ci := 2) (j := 0) dX11_count_56 h_g8 fl_RX11_124 rfl (fun v9 => ?_)
    exact kr_iret dX11_count_59 rfl
  refine kr_case (10 : Int32) (fun c10 => ?_) (fun c10 => ?_)
  · refine kr_tin (v := 10) (off := 59) (tgt := 60) c10 dX11_count_1 (by decide) (by decide) (by decide) (by decide) ?_
    refine kr_aload_n dX11_count_60 rfl 0 rfl ?_
    refine kr_getA (o := 1) (ci := 11) (j := 0) dX11_count_61 kr_at_0 fl_RX11_10 rfl ?_
    refine kr_getI (ci := 6) (j := 1) dX11_count_64 kr_at_1 fl_RX11_111 rfl (fun v11 => ?_)
    exact kr_iret dX11_count_67 rfl
  refine kr_case (11 : Int32) (fun c12 => ?_) (fun c12 => ?_)
  · refine kr_tin (v := 11) (off := 67) (tgt := 68) c12 dX11_count_1 (by decide) (by decide) (by decide) (by decide) ?_
    refine kr_aload_n dX11_count_68 rfl 0 rfl ?_
    refine kr_Vi (As := []) (st := []) zv_X11_slotsWithRow dX11_count_69 ml_RX11_425 kr_at_0 (r_X11_slotsWithRow E  M) rfl rfl (Nat.le_of_ble_eq_true rfl) rfl (by decide) (Nat.le_of_ble_eq_true rfl) (fun r14 M13 => ?_)
    exact kr_iret dX11_count_72 rfl
  refine kr_tout (tgt := 73) dX11_count_1 (by have zc1 := lv_neT c1 (show (7 : Int32).toInt = 7 by decide); have zc4 := lv_neT c4 (show (8 : Int32).toInt = 8 by decide); have zc7 := lv_neT c7 (show (9 : Int32).toInt = 9 by decide); have zc10 := lv_neT c10 (show (10 : Int32).toInt = 10 by decide); have zc12 := lv_neT c12 (show (11 : Int32).toInt = 11 by decide); omega) (by decide) ?_
  refine kr_aload_n dX11_count_73 rfl 0 rfl ?_
  refine kr_getG (o := 0) (ci := 11) (j := 1) dX11_count_74 kr_at_0 fl_RX11_19 rfl (fun g15 h_g15 => ?_)
  refine kr_iload_n dX11_count_77 rfl 1 rfl ?_
  refine kr_Vi (As := [.int p1]) (st := []) zv_X2_countTold dX11_count_78 ml_RX11_428 h_g15 (r_X2_countTold E g15 h_g15 p1 M) rfl rfl (Nat.le_of_ble_eq_true rfl) rfl (by decide) (Nat.le_of_ble_eq_true rfl) (fun r17 M16 => ?_)
  exact kr_iret dX11_count_81 rfl
theorem dX11_image_0 : decode cX11_image 0 = .ok (.iload_n 1, 1) := by decide +kernel
theorem dX11_image_1 : decode cX11_image 1 = .ok (.ifCond .lt 8, 3) := by decide +kernel
theorem dX11_image_4 : decode cX11_image 4 = .ok (.iload_n 1, 1) := by decide +kernel
theorem dX11_image_5 : decode cX11_image 5 = .ok (.iconst 3, 1) := by decide +kernel
theorem dX11_image_6 : decode cX11_image 6 = .ok (.if_icmp .lt 6, 3) := by decide +kernel
theorem dX11_image_9 : decode cX11_image 9 = .ok (.bipush (-2), 2) := by decide +kernel
theorem dX11_image_11 : decode cX11_image 11 = .ok (.ireturn, 1) := by decide +kernel
theorem dX11_image_12 : decode cX11_image 12 = .ok (.aload_n 0, 1) := by decide +kernel
theorem dX11_image_13 : decode cX11_image 13 = .ok (.getfield 26, 3) := by decide +kernel
theorem dX11_image_16 : decode cX11_image 16 = .ok (.iload_n 1, 1) := by decide +kernel
theorem dX11_image_17 : decode cX11_image 17 = .ok (.aaload, 1) := by decide +kernel
theorem dX11_image_18 : decode cX11_image 18 = .ok (.aload_n 0, 1) := by decide +kernel
theorem dX11_image_19 : decode cX11_image 19 = .ok (.getfield 19, 3) := by decide +kernel
theorem dX11_image_22 : decode cX11_image 22 = .ok (.invokevirtual 431, 3) := by decide +kernel
theorem dX11_image_25 : decode cX11_image 25 = .ok (.aload_n 0, 1) := by decide +kernel
theorem dX11_image_26 : decode cX11_image 26 = .ok (.getfield 30, 3) := by decide +kernel
theorem dX11_image_29 : decode cX11_image 29 = .ok (.iload_n 1, 1) := by decide +kernel
theorem dX11_image_30 : decode cX11_image 30 = .ok (.iconst 1, 1) := by decide +kernel
theorem dX11_image_31 : decode cX11_image 31 = .ok (.bastore, 1) := by decide +kernel
theorem dX11_image_32 : decode cX11_image 32 = .ok (.iconst 0, 1) := by decide +kernel
theorem dX11_image_33 : decode cX11_image 33 = .ok (.ireturn, 1) := by decide +kernel
theorem r_X11_image (E : kr_E) (p1 : Int32) (M : kr_M) : kR kr_vi E Y_X11_image 6 0 [(0, kr_r E 0), (1, .int p1)] [] M (f_X11_image p1 M) := by
  rw [f_X11_image]
  refine kr_iload_n dX11_image_0 rfl 1 rfl ?_
  refine kr_if_lt (tgt := 9) dX11_image_1 (by decide) ?_ ?_
  · refine kr_bipush (v := -2) dX11_image_9 (by decide) ?_
    exact kr_iret dX11_image_11 rfl
  · refine kr_iload_n dX11_image_4 rfl 1 rfl ?_
    refine kr_iconst (v := 3) dX11_image_5 (by decide) ?_
    refine kr_icmp_lt (tgt := 12) dX11_image_6 (by decide) ?_ ?_
    · refine kr_aload_n dX11_image_12 rfl 0 rfl ?_
      refine kr_getA (o := 125) (ci := 11) (j := 3) dX11_image_13 kr_at_0 fl_RX11_26 rfl ?_
      refine kr_iload_n dX11_image_16 rfl 1 rfl ?_
      refine kr_aaldI dX11_image_17 (fun h1 => ?_)
      refine kr_aload_n dX11_image_18 rfl 0 rfl ?_
      refine kr_getG (o := 0) (ci := 11) (j := 1) dX11_image_19 kr_at_0 fl_RX11_19 rfl (fun g2 h_g2 => ?_)
      refine kr_Vv (As := [kr_r E g2]) (st := []) zv_X2_take dX11_image_22 ml_RX11_431 h1 (r_X2_take E (kr_im p1) h1 g2 h_g2 M) rfl rfl (Nat.le_of_ble_eq_true rfl) rfl (by decide) (Nat.le_of_ble_eq_true rfl) (fun M3 => ?_)
      refine kr_aload_n dX11_image_25 rfl 0 rfl ?_
      refine kr_getA (o := 309) (ci := 11) (j := 4) dX11_image_26 kr_at_0 fl_RX11_30 rfl ?_
      refine kr_iload_n dX11_image_29 rfl 1 rfl ?_
      refine kr_iconst (v := 1) dX11_image_30 (by decide) ?_
      refine kr_zast dX11_image_31 kr_at_309 (fun M5 => ?_)
      refine kr_iconst (v := 0) dX11_image_32 (by decide) ?_
      exact kr_iret dX11_image_33 rfl
    · refine kr_bipush (v := -2) dX11_image_9 (by decide) ?_
      exact kr_iret dX11_image_11 rfl
theorem dX11_back_0 : decode cX11_back 0 = .ok (.iload_n 1, 1) := by decide +kernel
theorem dX11_back_1 : decode cX11_back 1 = .ok (.ifCond .lt 8, 3) := by decide +kernel
theorem dX11_back_4 : decode cX11_back 4 = .ok (.iload_n 1, 1) := by decide +kernel
theorem dX11_back_5 : decode cX11_back 5 = .ok (.iconst 3, 1) := by decide +kernel
theorem dX11_back_6 : decode cX11_back 6 = .ok (.if_icmp .lt 6, 3) := by decide +kernel
theorem dX11_back_9 : decode cX11_back 9 = .ok (.bipush (-2), 2) := by decide +kernel
theorem dX11_back_11 : decode cX11_back 11 = .ok (.ireturn, 1) := by decide +kernel
theorem dX11_back_12 : decode cX11_back 12 = .ok (.aload_n 0, 1) := by decide +kernel
theorem dX11_back_13 : decode cX11_back 13 = .ok (.getfield 30, 3) := by decide +kernel
theorem dX11_back_16 : decode cX11_back 16 = .ok (.iload_n 1, 1) := by decide +kernel
theorem dX11_back_17 : decode cX11_back 17 = .ok (.baload, 1) := by decide +kernel
theorem dX11_back_18 : decode cX11_back 18 = .ok (.ifCond .ne 6, 3) := by decide +kernel
theorem dX11_back_21 : decode cX11_back 21 = .ok (.bipush (-6), 2) := by decide +kernel
theorem dX11_back_23 : decode cX11_back 23 = .ok (.ireturn, 1) := by decide +kernel
theorem dX11_back_24 : decode cX11_back 24 = .ok (.aload_n 0, 1) := by decide +kernel
theorem dX11_back_25 : decode cX11_back 25 = .ok (.getfield 19, 3) := by decide +kernel
theorem dX11_back_28 : decode cX11_back 28 = .ok (.aload_n 0, 1) := by decide +kernel
theorem dX11_back_29 : decode cX11_back 29 = .ok (.getfield 26, 3) := by decide +kernel
theorem dX11_back_32 : decode cX11_back 32 = .ok (.iload_n 1, 1) := by decide +kernel
theorem dX11_back_33 : decode cX11_back 33 = .ok (.aaload, 1) := by decide +kernel
theorem dX11_back_34 : decode cX11_back 34 = .ok (.invokevirtual 431, 3) := by decide +kernel
theorem dX11_back_37 : decode cX11_back 37 = .ok (.iconst 0, 1) := by decide +kernel
theorem dX11_back_38 : decode cX11_back 38 = .ok (.ireturn, 1) := by decide +kernel
theorem r_X11_back (E : kr_E) (p1 : Int32) (M : kr_M) : kR kr_vi E Y_X11_back 6 0 [(0, kr_r E 0), (1, .int p1)] [] M (f_X11_back p1 M) := by
  rw [f_X11_back]
  refine kr_iload_n dX11_back_0 rfl 1 rfl ?_
  refine kr_if_lt (tgt := 9) dX11_back_1 (by decide) ?_ ?_
  · refine kr_bipush (v := -2) dX11_back_9 (by decide) ?_
    exact kr_iret dX11_back_11 rfl
  · refine kr_iload_n dX11_back_4 rfl 1 rfl ?_
    refine kr_iconst (v := 3) dX11_back_5 (by decide) ?_
    refine kr_icmp_lt (tgt := 12) dX11_back_6 (by decide) ?_ ?_
    · refine kr_aload_n dX11_back_12 rfl 0 rfl ?_
      refine kr_getA (o := 309) (ci := 11) (j := 4) dX11_back_13 kr_at_0 fl_RX11_30 rfl ?_
      refine kr_iload_n dX11_back_16 rfl 1 rfl ?_
      refine kr_zald dX11_back_17 kr_at_309 (fun v1 => ?_)
      refine kr_if_ne (tgt := 24) dX11_back_18 (by decide) ?_ ?_
      · refine kr_aload_n dX11_back_24 rfl 0 rfl ?_
        refine kr_getG (o := 0) (ci := 11) (j := 1) dX11_back_25 kr_at_0 fl_RX11_19 rfl (fun g2 h_g2 => ?_)
        refine kr_aload_n dX11_back_28 rfl 0 rfl ?_
        refine kr_getA (o := 125) (ci := 11) (j := 3) dX11_back_29 kr_at_0 fl_RX11_26 rfl ?_
        refine kr_iload_n dX11_back_32 rfl 1 rfl ?_
        refine kr_aaldI dX11_back_33 (fun h3 => ?_)
        refine kr_Vv (As := [kr_r E (kr_im p1)]) (st := []) zv_X2_take dX11_back_34 ml_RX11_431 h_g2 (r_X2_take E g2 h_g2 (kr_im p1) h3 M) rfl rfl (Nat.le_of_ble_eq_true rfl) rfl (by decide) (Nat.le_of_ble_eq_true rfl) (fun M4 => ?_)
        refine kr_iconst (v := 0) dX11_back_37 (by decide) ?_
        exact kr_iret dX11_back_38 rfl
      · refine kr_bipush (v := -6) dX11_back_21 (by decide) ?_
        exact kr_iret dX11_back_23 rfl
    · refine kr_bipush (v := -2) dX11_back_9 (by decide) ?_
      exact kr_iret dX11_back_11 rfl
theorem dX11_row_0 : decode cX11_row 0 = .ok (.iload_n 1, 1) := by decide +kernel
theorem dX11_row_1 : decode cX11_row 1 = .ok (.invokestatic 419, 3) := by decide +kernel
theorem dX11_row_4 : decode cX11_row 4 = .ok (.ifCond .eq 18, 3) := by decide +kernel
theorem dX11_row_7 : decode cX11_row 7 = .ok (.iload_n 2, 1) := by decide +kernel
theorem dX11_row_8 : decode cX11_row 8 = .ok (.ifCond .lt 14, 3) := by decide +kernel
theorem dX11_row_11 : decode cX11_row 11 = .ok (.iload_n 2, 1) := by decide +kernel
theorem dX11_row_12 : decode cX11_row 12 = .ok (.iconst 4, 1) := by decide +kernel
theorem dX11_row_13 : decode cX11_row 13 = .ok (.if_icmp .ge 9, 3) := by decide +kernel
theorem dX11_row_16 : decode cX11_row 16 = .ok (.iload_n 3, 1) := by decide +kernel
theorem dX11_row_17 : decode cX11_row 17 = .ok (.bipush 60, 2) := by decide +kernel
theorem dX11_row_19 : decode cX11_row 19 = .ok (.if_icmp .le 6, 3) := by decide +kernel
theorem dX11_row_22 : decode cX11_row 22 = .ok (.bipush (-2), 2) := by decide +kernel
theorem dX11_row_24 : decode cX11_row 24 = .ok (.ireturn, 1) := by decide +kernel
theorem dX11_row_25 : decode cX11_row 25 = .ok (.iload_n 3, 1) := by decide +kernel
theorem dX11_row_26 : decode cX11_row 26 = .ok (.ifCond .ge 6, 3) := by decide +kernel
theorem dX11_row_29 : decode cX11_row 29 = .ok (.bipush (-3), 2) := by decide +kernel
theorem dX11_row_31 : decode cX11_row 31 = .ok (.ireturn, 1) := by decide +kernel
theorem dX11_row_32 : decode cX11_row 32 = .ok (.aload_n 0, 1) := by decide +kernel
theorem dX11_row_33 : decode cX11_row 33 = .ok (.getfield 38, 3) := by decide +kernel
theorem dX11_row_36 : decode cX11_row 36 = .ok (.iload_n 1, 1) := by decide +kernel
theorem dX11_row_37 : decode cX11_row 37 = .ok (.iload_n 2, 1) := by decide +kernel
theorem dX11_row_38 : decode cX11_row 38 = .ok (.iastore, 1) := by decide +kernel
theorem dX11_row_39 : decode cX11_row 39 = .ok (.aload_n 0, 1) := by decide +kernel
theorem dX11_row_40 : decode cX11_row 40 = .ok (.getfield 42, 3) := by decide +kernel
theorem dX11_row_43 : decode cX11_row 43 = .ok (.iload_n 1, 1) := by decide +kernel
theorem dX11_row_44 : decode cX11_row 44 = .ok (.iload_n 3, 1) := by decide +kernel
theorem dX11_row_45 : decode cX11_row 45 = .ok (.iastore, 1) := by decide +kernel
theorem dX11_row_46 : decode cX11_row 46 = .ok (.iconst 0, 1) := by decide +kernel
theorem dX11_row_47 : decode cX11_row 47 = .ok (.istore 4, 2) := by decide +kernel
theorem dX11_row_49 : decode cX11_row 49 = .ok (.iload 4, 2) := by decide +kernel
theorem dX11_row_51 : decode cX11_row 51 = .ok (.iload_n 3, 1) := by decide +kernel
theorem dX11_row_52 : decode cX11_row 52 = .ok (.if_icmp .ge 22, 3) := by decide +kernel
theorem dX11_row_55 : decode cX11_row 55 = .ok (.aload_n 0, 1) := by decide +kernel
theorem dX11_row_56 : decode cX11_row 56 = .ok (.getfield 34, 3) := by decide +kernel
theorem dX11_row_59 : decode cX11_row 59 = .ok (.iload_n 1, 1) := by decide +kernel
theorem dX11_row_60 : decode cX11_row 60 = .ok (.bipush 60, 2) := by decide +kernel
theorem dX11_row_62 : decode cX11_row 62 = .ok (.imul, 1) := by decide +kernel
theorem dX11_row_63 : decode cX11_row 63 = .ok (.iload 4, 2) := by decide +kernel
theorem dX11_row_65 : decode cX11_row 65 = .ok (.iadd, 1) := by decide +kernel
theorem dX11_row_66 : decode cX11_row 66 = .ok (.lconst 0, 1) := by decide +kernel
theorem dX11_row_67 : decode cX11_row 67 = .ok (.lastore, 1) := by decide +kernel
theorem dX11_row_68 : decode cX11_row 68 = .ok (.iinc 4 1, 3) := by decide +kernel
theorem dX11_row_71 : decode cX11_row 71 = .ok (.goto (-22), 3) := by decide +kernel
theorem dX11_row_74 : decode cX11_row 74 = .ok (.iconst 0, 1) := by decide +kernel
theorem dX11_row_75 : decode cX11_row 75 = .ok (.ireturn, 1) := by decide +kernel
theorem r_X11_row_49 (E : kr_E)  (l1 : Int32) (l3 : Int32)  : ∀ (n : Nat) (l4 : Int32) (M : kr_M), kR kr_vi E Y_X11_row 2 49 [(0, kr_r E 0), (1, .int l1), (3, .int l3), (4, .int l4)] [] M (f_X11_row_49 l1 l3 n l4 M) := by
  intro n
  induction n with
  | zero => intro l4 M; exact kr_none
  | succ n ih =>
    intro l4 M
    rw [f_X11_row_49]
    refine kr_iload dX11_row_49 3 rfl ?_
    refine kr_iload_n dX11_row_51 rfl 2 rfl ?_
    refine kr_icmp_ge (tgt := 74) dX11_row_52 (by decide) ?_ ?_
    · refine kr_iconst (v := 0) dX11_row_74 (by decide) ?_
      exact kr_iret dX11_row_75 rfl
    · refine kr_aload_n dX11_row_55 rfl 0 rfl ?_
      refine kr_getA (o := 310) (ci := 11) (j := 5) dX11_row_56 kr_at_0 fl_RX11_34 rfl ?_
      refine kr_iload_n dX11_row_59 rfl 1 rfl ?_
      refine kr_bipush (v := 60) dX11_row_60 (by decide) ?_
      refine kr_imul dX11_row_62 ?_
      refine kr_iload dX11_row_63 3 rfl ?_
      refine kr_iadd dX11_row_65 ?_
      refine kr_lconst (v := 0) dX11_row_66 (by decide) ?_
      refine kr_last dX11_row_67 kr_at_310 (fun M1 => ?_)
      refine kr_iinc (j := 3) (v := (l4 + (1 : Int32))) (lv' := [(4, .int (l4 + (1 : Int32))), (0, kr_r E 0), (1, .int l1), (3, .int l3)]) dX11_row_68 rfl rfl (by decide) rfl ?_
      refine kr_goto (tgt := 49) dX11_row_71 (by decide) ?_
      refine kr_sub [1, 2, 3, 0] rfl ?_
      exact ih (l4 + (1 : Int32)) M1
theorem r_X11_row (E : kr_E) (p1 : Int32) (p2 : Int32) (p3 : Int32) (M : kr_M) : kR kr_vi E Y_X11_row 2 0 [(0, kr_r E 0), (1, .int p1), (2, .int p2), (3, .int p3)] [] M (f_X11_row p1 p2 p3 M) := by
  rw [f_X11_row]
  refine kr_iload_n dX11_row_0 rfl 1 rfl ?_
  refine kr_Si (As := [.int p1]) (st := []) zs_X11_isSlot dX11_row_1 ml_RX11_419 (r_X11_isSlot E p1 M) rfl rfl (Nat.le_of_ble_eq_true rfl) rfl (by decide) (Nat.le_of_ble_eq_true rfl) (fun r2 M1 => ?_)
  refine kr_if_eq (tgt := 22) dX11_row_4 (by decide) ?_ ?_
  · refine kr_bipush (v := -2) dX11_row_22 (by decide) ?_
    exact kr_iret dX11_row_24 rfl
  · refine kr_iload_n dX11_row_7 rfl 2 rfl ?_
    refine kr_if_lt (tgt := 22) dX11_row_8 (by decide) ?_ ?_
    · refine kr_bipush (v := -2) dX11_row_22 (by decide) ?_
      exact kr_iret dX11_row_24 rfl
    · refine kr_iload_n dX11_row_11 rfl 2 rfl ?_
      refine kr_iconst (v := 4) dX11_row_12 (by decide) ?_
      refine kr_icmp_ge (tgt := 22) dX11_row_13 (by decide) ?_ ?_
      · refine kr_bipush (v := -2) dX11_row_22 (by decide) ?_
        exact kr_iret dX11_row_24 rfl
      · refine kr_iload_n dX11_row_16 rfl 3 rfl ?_
        refine kr_bipush (v := 60) dX11_row_17 (by decide) ?_
        refine kr_icmp_le (tgt := 25) dX11_row_19 (by decide) ?_ ?_
        · refine kr_iload_n dX11_row_25 rfl 3 rfl ?_
          refine kr_if_ge (tgt := 32) dX11_row_26 (by decide) ?_ ?_
          · refine kr_aload_n dX11_row_32 rfl 0 rfl ?_
            refine kr_getA (o := 311) (ci := 11) (j := 6) dX11_row_33 kr_at_0 fl_RX11_38 rfl ?_
            refine kr_iload_n dX11_row_36 rfl 1 rfl ?_
            refine kr_iload_n dX11_row_37 rfl 2 rfl ?_
            refine kr_iast dX11_row_38 kr_at_311 (fun M3 => ?_)
            refine kr_aload_n dX11_row_39 rfl 0 rfl ?_
            refine kr_getA (o := 312) (ci := 11) (j := 7) dX11_row_40 kr_at_0 fl_RX11_42 rfl ?_
            refine kr_iload_n dX11_row_43 rfl 1 rfl ?_
            refine kr_iload_n dX11_row_44 rfl 3 rfl ?_
            refine kr_iast dX11_row_45 kr_at_312 (fun M4 => ?_)
            refine kr_iconst (v := 0) dX11_row_46 (by decide) ?_
            refine kr_istore (lv' := [(4, .int (0 : Int32)), (0, kr_r E 0), (1, .int p1), (2, .int p2), (3, .int p3)]) dX11_row_47 (by decide) rfl ?_
            refine kr_sub [1, 2, 4, 0] rfl ?_
            exact r_X11_row_49 E p1 p3 _ (0 : Int32) M4
          · refine kr_bipush (v := -3) dX11_row_29 (by decide) ?_
            exact kr_iret dX11_row_31 rfl
        · refine kr_bipush (v := -2) dX11_row_22 (by decide) ?_
          exact kr_iret dX11_row_24 rfl
theorem dX11_cutTo_0 : decode cX11_cutTo 0 = .ok (.iload_n 0, 1) := by decide +kernel
theorem dX11_cutTo_1 : decode cX11_cutTo 1 = .ok (.tableswitch 41 0 2 #[27, 32, 37], 27) := by decide +kernel
theorem dX11_cutTo_28 : decode cX11_cutTo 28 = .ok (.lload_n 1, 1) := by decide +kernel
theorem dX11_cutTo_29 : decode cX11_cutTo 29 = .ok (.l2i, 1) := by decide +kernel
theorem dX11_cutTo_30 : decode cX11_cutTo 30 = .ok (.i2b, 1) := by decide +kernel
theorem dX11_cutTo_31 : decode cX11_cutTo 31 = .ok (.i2l, 1) := by decide +kernel
theorem dX11_cutTo_32 : decode cX11_cutTo 32 = .ok (.lreturn, 1) := by decide +kernel
theorem dX11_cutTo_33 : decode cX11_cutTo 33 = .ok (.lload_n 1, 1) := by decide +kernel
theorem dX11_cutTo_34 : decode cX11_cutTo 34 = .ok (.l2i, 1) := by decide +kernel
theorem dX11_cutTo_35 : decode cX11_cutTo 35 = .ok (.i2s, 1) := by decide +kernel
theorem dX11_cutTo_36 : decode cX11_cutTo 36 = .ok (.i2l, 1) := by decide +kernel
theorem dX11_cutTo_37 : decode cX11_cutTo 37 = .ok (.lreturn, 1) := by decide +kernel
theorem dX11_cutTo_38 : decode cX11_cutTo 38 = .ok (.lload_n 1, 1) := by decide +kernel
theorem dX11_cutTo_39 : decode cX11_cutTo 39 = .ok (.l2i, 1) := by decide +kernel
theorem dX11_cutTo_40 : decode cX11_cutTo 40 = .ok (.i2l, 1) := by decide +kernel
theorem dX11_cutTo_41 : decode cX11_cutTo 41 = .ok (.lreturn, 1) := by decide +kernel
theorem dX11_cutTo_42 : decode cX11_cutTo 42 = .ok (.lload_n 1, 1) := by decide +kernel
theorem dX11_cutTo_43 : decode cX11_cutTo 43 = .ok (.lreturn, 1) := by decide +kernel
theorem r_X11_cutTo (E : kr_E) (p0 : Int32) (p1 : Int64) (M : kr_M) : kR kr_vl E Y_X11_cutTo 1 0 [(0, .int p0), (1, .long p1)] [] M (f_X11_cutTo p0 p1 M) := by
  rw [f_X11_cutTo]
  refine kr_iload_n dX11_cutTo_0 rfl 0 rfl ?_
  refine kr_case (0 : Int32) (fun c1 => ?_) (fun c1 => ?_)
  · refine kr_tin (v := 0) (off := 27) (tgt := 28) c1 dX11_cutTo_1 (by decide) (by decide) (by decide) (by decide) ?_
    refine kr_lload_n dX11_cutTo_28 rfl 1 rfl ?_
    refine kr_l2i dX11_cutTo_29 ?_
    refine kr_i2b dX11_cutTo_30 ?_
    refine kr_i2l dX11_cutTo_31 ?_
    exact kr_lret dX11_cutTo_32 rfl
  refine kr_case (1 : Int32) (fun c2 => ?_) (fun c2 => ?_)
  · refine kr_tin (v := 1) (off := 32) (tgt := 33) c2 dX11_cutTo_1 (by decide) (by decide) (by decide) (by decide) ?_
    refine kr_lload_n dX11_cutTo_33 rfl 1 rfl ?_
    refine kr_l2i dX11_cutTo_34 ?_
    refine kr_i2s dX11_cutTo_35 ?_
    refine kr_i2l dX11_cutTo_36 ?_
    exact kr_lret dX11_cutTo_37 rfl
  refine kr_case (2 : Int32) (fun c3 => ?_) (fun c3 => ?_)
  · refine kr_tin (v := 2) (off := 37) (tgt := 38) c3 dX11_cutTo_1 (by decide) (by decide) (by decide) (by decide) ?_
    refine kr_lload_n dX11_cutTo_38 rfl 1 rfl ?_
    refine kr_l2i dX11_cutTo_39 ?_
    refine kr_i2l dX11_cutTo_40 ?_
    exact kr_lret dX11_cutTo_41 rfl
  refine kr_tout (tgt := 42) dX11_cutTo_1 (by have zc1 := lv_neT c1 (show (0 : Int32).toInt = 0 by decide); have zc2 := lv_neT c2 (show (1 : Int32).toInt = 1 by decide); have zc3 := lv_neT c3 (show (2 : Int32).toInt = 2 by decide); omega) (by decide) ?_
  refine kr_lload_n dX11_cutTo_42 rfl 1 rfl ?_
  exact kr_lret dX11_cutTo_43 rfl
theorem dX11_write_0 : decode cX11_write 0 = .ok (.iload_n 1, 1) := by decide +kernel
theorem dX11_write_1 : decode cX11_write 1 = .ok (.invokestatic 419, 3) := by decide +kernel
theorem dX11_write_4 : decode cX11_write 4 = .ok (.ifCond .ne 6, 3) := by decide +kernel
theorem dX11_write_7 : decode cX11_write 7 = .ok (.bipush (-2), 2) := by decide +kernel
theorem dX11_write_9 : decode cX11_write 9 = .ok (.ireturn, 1) := by decide +kernel
theorem dX11_write_10 : decode cX11_write 10 = .ok (.aload_n 0, 1) := by decide +kernel
theorem dX11_write_11 : decode cX11_write 11 = .ok (.getfield 42, 3) := by decide +kernel
theorem dX11_write_14 : decode cX11_write 14 = .ok (.iload_n 1, 1) := by decide +kernel
theorem dX11_write_15 : decode cX11_write 15 = .ok (.iaload, 1) := by decide +kernel
theorem dX11_write_16 : decode cX11_write 16 = .ok (.ifCond .ge 6, 3) := by decide +kernel
theorem dX11_write_19 : decode cX11_write 19 = .ok (.bipush (-6), 2) := by decide +kernel
theorem dX11_write_21 : decode cX11_write 21 = .ok (.ireturn, 1) := by decide +kernel
theorem dX11_write_22 : decode cX11_write 22 = .ok (.iload_n 2, 1) := by decide +kernel
theorem dX11_write_23 : decode cX11_write 23 = .ok (.ifCond .lt 13, 3) := by decide +kernel
theorem dX11_write_26 : decode cX11_write 26 = .ok (.iload_n 2, 1) := by decide +kernel
theorem dX11_write_27 : decode cX11_write 27 = .ok (.aload_n 0, 1) := by decide +kernel
theorem dX11_write_28 : decode cX11_write 28 = .ok (.getfield 42, 3) := by decide +kernel
theorem dX11_write_31 : decode cX11_write 31 = .ok (.iload_n 1, 1) := by decide +kernel
theorem dX11_write_32 : decode cX11_write 32 = .ok (.iaload, 1) := by decide +kernel
theorem dX11_write_33 : decode cX11_write 33 = .ok (.if_icmp .lt 6, 3) := by decide +kernel
theorem dX11_write_36 : decode cX11_write 36 = .ok (.bipush (-7), 2) := by decide +kernel
theorem dX11_write_38 : decode cX11_write 38 = .ok (.ireturn, 1) := by decide +kernel
theorem dX11_write_39 : decode cX11_write 39 = .ok (.aload_n 0, 1) := by decide +kernel
theorem dX11_write_40 : decode cX11_write 40 = .ok (.getfield 34, 3) := by decide +kernel
theorem dX11_write_43 : decode cX11_write 43 = .ok (.iload_n 1, 1) := by decide +kernel
theorem dX11_write_44 : decode cX11_write 44 = .ok (.bipush 60, 2) := by decide +kernel
theorem dX11_write_46 : decode cX11_write 46 = .ok (.imul, 1) := by decide +kernel
theorem dX11_write_47 : decode cX11_write 47 = .ok (.iload_n 2, 1) := by decide +kernel
theorem dX11_write_48 : decode cX11_write 48 = .ok (.iadd, 1) := by decide +kernel
theorem dX11_write_49 : decode cX11_write 49 = .ok (.aload_n 0, 1) := by decide +kernel
theorem dX11_write_50 : decode cX11_write 50 = .ok (.getfield 38, 3) := by decide +kernel
theorem dX11_write_53 : decode cX11_write 53 = .ok (.iload_n 1, 1) := by decide +kernel
theorem dX11_write_54 : decode cX11_write 54 = .ok (.iaload, 1) := by decide +kernel
theorem dX11_write_55 : decode cX11_write 55 = .ok (.lload_n 3, 1) := by decide +kernel
theorem dX11_write_56 : decode cX11_write 56 = .ok (.invokestatic 434, 3) := by decide +kernel
theorem dX11_write_59 : decode cX11_write 59 = .ok (.lastore, 1) := by decide +kernel
theorem dX11_write_60 : decode cX11_write 60 = .ok (.iconst 0, 1) := by decide +kernel
theorem dX11_write_61 : decode cX11_write 61 = .ok (.ireturn, 1) := by decide +kernel
theorem r_X11_write (E : kr_E) (p1 : Int32) (p2 : Int32) (p3 : Int64) (M : kr_M) : kR kr_vi E Y_X11_write 2 0 [(0, kr_r E 0), (1, .int p1), (2, .int p2), (3, .long p3)] [] M (f_X11_write p1 p2 p3 M) := by
  rw [f_X11_write]
  refine kr_iload_n dX11_write_0 rfl 1 rfl ?_
  refine kr_Si (As := [.int p1]) (st := []) zs_X11_isSlot dX11_write_1 ml_RX11_419 (r_X11_isSlot E p1 M) rfl rfl (Nat.le_of_ble_eq_true rfl) rfl (by decide) (Nat.le_of_ble_eq_true rfl) (fun r2 M1 => ?_)
  refine kr_if_ne (tgt := 10) dX11_write_4 (by decide) ?_ ?_
  · refine kr_aload_n dX11_write_10 rfl 0 rfl ?_
    refine kr_getA (o := 312) (ci := 11) (j := 7) dX11_write_11 kr_at_0 fl_RX11_42 rfl ?_
    refine kr_iload_n dX11_write_14 rfl 1 rfl ?_
    refine kr_iald dX11_write_15 kr_at_312 (fun v3 => ?_)
    refine kr_if_ge (tgt := 22) dX11_write_16 (by decide) ?_ ?_
    · refine kr_iload_n dX11_write_22 rfl 2 rfl ?_
      refine kr_if_lt (tgt := 36) dX11_write_23 (by decide) ?_ ?_
      · refine kr_bipush (v := -7) dX11_write_36 (by decide) ?_
        exact kr_iret dX11_write_38 rfl
      · refine kr_iload_n dX11_write_26 rfl 2 rfl ?_
        refine kr_aload_n dX11_write_27 rfl 0 rfl ?_
        refine kr_getA (o := 312) (ci := 11) (j := 7) dX11_write_28 kr_at_0 fl_RX11_42 rfl ?_
        refine kr_iload_n dX11_write_31 rfl 1 rfl ?_
        refine kr_iald dX11_write_32 kr_at_312 (fun v4 => ?_)
        refine kr_icmp_lt (tgt := 39) dX11_write_33 (by decide) ?_ ?_
        · refine kr_aload_n dX11_write_39 rfl 0 rfl ?_
          refine kr_getA (o := 310) (ci := 11) (j := 5) dX11_write_40 kr_at_0 fl_RX11_34 rfl ?_
          refine kr_iload_n dX11_write_43 rfl 1 rfl ?_
          refine kr_bipush (v := 60) dX11_write_44 (by decide) ?_
          refine kr_imul dX11_write_46 ?_
          refine kr_iload_n dX11_write_47 rfl 2 rfl ?_
          refine kr_iadd dX11_write_48 ?_
          refine kr_aload_n dX11_write_49 rfl 0 rfl ?_
          refine kr_getA (o := 311) (ci := 11) (j := 6) dX11_write_50 kr_at_0 fl_RX11_38 rfl ?_
          refine kr_iload_n dX11_write_53 rfl 1 rfl ?_
          refine kr_iald dX11_write_54 kr_at_311 (fun v5 => ?_)
          refine kr_lload_n dX11_write_55 rfl 3 rfl ?_
          refine kr_Sl (As := [.int v5, .long p3]) (st := [.int ((p1 * (60 : Int32)) + p2), kr_r E 310]) zs_X11_cutTo dX11_write_56 ml_RX11_434 (r_X11_cutTo E v5 p3 M1) rfl rfl (Nat.le_of_ble_eq_true rfl) rfl (by decide) (Nat.le_of_ble_eq_true rfl) (fun r7 M6 => ?_)
          refine kr_last dX11_write_59 kr_at_310 (fun M8 => ?_)
          refine kr_iconst (v := 0) dX11_write_60 (by decide) ?_
          exact kr_iret dX11_write_61 rfl
        · refine kr_bipush (v := -7) dX11_write_36 (by decide) ?_
          exact kr_iret dX11_write_38 rfl
    · refine kr_bipush (v := -6) dX11_write_19 (by decide) ?_
      exact kr_iret dX11_write_21 rfl
  · refine kr_bipush (v := -2) dX11_write_7 (by decide) ?_
    exact kr_iret dX11_write_9 rfl
theorem dX11_standsIn_0 : decode cX11_standsIn 0 = .ok (.iload_n 2, 1) := by decide +kernel
theorem dX11_standsIn_1 : decode cX11_standsIn 1 = .ok (.ifCond .lt 33, 3) := by decide +kernel
theorem dX11_standsIn_4 : decode cX11_standsIn 4 = .ok (.iload_n 3, 1) := by decide +kernel
theorem dX11_standsIn_5 : decode cX11_standsIn 5 = .ok (.ifCond .lt 29, 3) := by decide +kernel
theorem dX11_standsIn_8 : decode cX11_standsIn 8 = .ok (.iload_n 2, 1) := by decide +kernel
theorem dX11_standsIn_9 : decode cX11_standsIn 9 = .ok (.aload_n 0, 1) := by decide +kernel
theorem dX11_standsIn_10 : decode cX11_standsIn 10 = .ok (.getfield 42, 3) := by decide +kernel
theorem dX11_standsIn_13 : decode cX11_standsIn 13 = .ok (.iload_n 1, 1) := by decide +kernel
theorem dX11_standsIn_14 : decode cX11_standsIn 14 = .ok (.iaload, 1) := by decide +kernel
theorem dX11_standsIn_15 : decode cX11_standsIn 15 = .ok (.if_icmp .gt 19, 3) := by decide +kernel
theorem dX11_standsIn_18 : decode cX11_standsIn 18 = .ok (.iload_n 3, 1) := by decide +kernel
theorem dX11_standsIn_19 : decode cX11_standsIn 19 = .ok (.aload_n 0, 1) := by decide +kernel
theorem dX11_standsIn_20 : decode cX11_standsIn 20 = .ok (.getfield 42, 3) := by decide +kernel
theorem dX11_standsIn_23 : decode cX11_standsIn 23 = .ok (.iload_n 1, 1) := by decide +kernel
theorem dX11_standsIn_24 : decode cX11_standsIn 24 = .ok (.iaload, 1) := by decide +kernel
theorem dX11_standsIn_25 : decode cX11_standsIn 25 = .ok (.iload_n 2, 1) := by decide +kernel
theorem dX11_standsIn_26 : decode cX11_standsIn 26 = .ok (.isub, 1) := by decide +kernel
theorem dX11_standsIn_27 : decode cX11_standsIn 27 = .ok (.if_icmp .gt 7, 3) := by decide +kernel
theorem dX11_standsIn_30 : decode cX11_standsIn 30 = .ok (.iconst 1, 1) := by decide +kernel
theorem dX11_standsIn_31 : decode cX11_standsIn 31 = .ok (.goto 4, 3) := by decide +kernel
theorem dX11_standsIn_34 : decode cX11_standsIn 34 = .ok (.iconst 0, 1) := by decide +kernel
theorem dX11_standsIn_35 : decode cX11_standsIn 35 = .ok (.ireturn, 1) := by decide +kernel
theorem r_X11_standsIn (E : kr_E) (p1 : Int32) (p2 : Int32) (p3 : Int32) (M : kr_M) : kR kr_vi E Y_X11_standsIn 1 0 [(0, kr_r E 0), (1, .int p1), (2, .int p2), (3, .int p3)] [] M (f_X11_standsIn p1 p2 p3 M) := by
  rw [f_X11_standsIn]
  refine kr_iload_n dX11_standsIn_0 rfl 2 rfl ?_
  refine kr_if_lt (tgt := 34) dX11_standsIn_1 (by decide) ?_ ?_
  · refine kr_iconst (v := 0) dX11_standsIn_34 (by decide) ?_
    exact kr_zret1 dX11_standsIn_35 rfl rfl
  · refine kr_iload_n dX11_standsIn_4 rfl 3 rfl ?_
    refine kr_if_lt (tgt := 34) dX11_standsIn_5 (by decide) ?_ ?_
    · refine kr_iconst (v := 0) dX11_standsIn_34 (by decide) ?_
      exact kr_zret1 dX11_standsIn_35 rfl rfl
    · refine kr_iload_n dX11_standsIn_8 rfl 2 rfl ?_
      refine kr_aload_n dX11_standsIn_9 rfl 0 rfl ?_
      refine kr_getA (o := 312) (ci := 11) (j := 7) dX11_standsIn_10 kr_at_0 fl_RX11_42 rfl ?_
      refine kr_iload_n dX11_standsIn_13 rfl 1 rfl ?_
      refine kr_iald dX11_standsIn_14 kr_at_312 (fun v1 => ?_)
      refine kr_icmp_gt (tgt := 34) dX11_standsIn_15 (by decide) ?_ ?_
      · refine kr_iconst (v := 0) dX11_standsIn_34 (by decide) ?_
        exact kr_zret1 dX11_standsIn_35 rfl rfl
      · refine kr_iload_n dX11_standsIn_18 rfl 3 rfl ?_
        refine kr_aload_n dX11_standsIn_19 rfl 0 rfl ?_
        refine kr_getA (o := 312) (ci := 11) (j := 7) dX11_standsIn_20 kr_at_0 fl_RX11_42 rfl ?_
        refine kr_iload_n dX11_standsIn_23 rfl 1 rfl ?_
        refine kr_iald dX11_standsIn_24 kr_at_312 (fun v2 => ?_)
        refine kr_iload_n dX11_standsIn_25 rfl 2 rfl ?_
        refine kr_isub dX11_standsIn_26 ?_
        refine kr_icmp_gt (tgt := 34) dX11_standsIn_27 (by decide) ?_ ?_
        · refine kr_iconst (v := 0) dX11_standsIn_34 (by decide) ?_
          exact kr_zret1 dX11_standsIn_35 rfl rfl
        · refine kr_iconst (v := 1) dX11_standsIn_30 (by decide) ?_
          refine kr_goto (tgt := 35) dX11_standsIn_31 (by decide) ?_
          exact kr_zret1 dX11_standsIn_35 rfl rfl
