theorem dX6_personLine_0 : decode cX6_personLine 0 = .ok (.aload_n 1, 1) := by decide +kernel
theorem dX6_personLine_1 : decode cX6_personLine 1 = .ok (.getfield 172, 3) := by decide +kernel
theorem dX6_personLine_4 : decode cX6_personLine 4 = .ok (.bipush 6, 2) := by decide +kernel
theorem dX6_personLine_6 : decode cX6_personLine 6 = .ok (.if_icmp .lt 9, 3) := by decide +kernel
theorem dX6_personLine_9 : decode cX6_personLine 9 = .ok (.aload_n 0, 1) := by decide +kernel
theorem dX6_personLine_10 : decode cX6_personLine 10 = .ok (.iconst 3, 1) := by decide +kernel
theorem dX6_personLine_11 : decode cX6_personLine 11 = .ok (.invokevirtual 58, 3) := by decide +kernel
theorem dX6_personLine_14 : decode cX6_personLine 14 = .ok (.return_, 1) := by decide +kernel
theorem dX6_personLine_15 : decode cX6_personLine 15 = .ok (.aload_n 0, 1) := by decide +kernel
theorem dX6_personLine_16 : decode cX6_personLine 16 = .ok (.invokevirtual 33, 3) := by decide +kernel
theorem dX6_personLine_19 : decode cX6_personLine 19 = .ok (.aload_n 1, 1) := by decide +kernel
theorem dX6_personLine_20 : decode cX6_personLine 20 = .ok (.getfield 175, 3) := by decide +kernel
theorem dX6_personLine_23 : decode cX6_personLine 23 = .ok (.aload_n 1, 1) := by decide +kernel
theorem dX6_personLine_24 : decode cX6_personLine 24 = .ok (.getfield 172, 3) := by decide +kernel
theorem dX6_personLine_27 : decode cX6_personLine 27 = .ok (.aload_n 0, 1) := by decide +kernel
theorem dX6_personLine_28 : decode cX6_personLine 28 = .ok (.ldc 178, 2) := by decide +kernel
theorem dX6_personLine_30 : decode cX6_personLine 30 = .ok (.iconst 1, 1) := by decide +kernel
theorem dX6_personLine_31 : decode cX6_personLine 31 = .ok (.sipush 999, 3) := by decide +kernel
theorem dX6_personLine_34 : decode cX6_personLine 34 = .ok (.invokevirtual 87, 3) := by decide +kernel
theorem dX6_personLine_37 : decode cX6_personLine 37 = .ok (.iastore, 1) := by decide +kernel
theorem dX6_personLine_38 : decode cX6_personLine 38 = .ok (.aload_n 1, 1) := by decide +kernel
theorem dX6_personLine_39 : decode cX6_personLine 39 = .ok (.getfield 180, 3) := by decide +kernel
theorem dX6_personLine_42 : decode cX6_personLine 42 = .ok (.aload_n 1, 1) := by decide +kernel
theorem dX6_personLine_43 : decode cX6_personLine 43 = .ok (.getfield 172, 3) := by decide +kernel
theorem dX6_personLine_46 : decode cX6_personLine 46 = .ok (.aload_n 0, 1) := by decide +kernel
theorem dX6_personLine_47 : decode cX6_personLine 47 = .ok (.ldc 183, 2) := by decide +kernel
theorem dX6_personLine_49 : decode cX6_personLine 49 = .ok (.iconst 1, 1) := by decide +kernel
theorem dX6_personLine_50 : decode cX6_personLine 50 = .ok (.bipush 9, 2) := by decide +kernel
theorem dX6_personLine_52 : decode cX6_personLine 52 = .ok (.invokevirtual 87, 3) := by decide +kernel
theorem dX6_personLine_55 : decode cX6_personLine 55 = .ok (.iastore, 1) := by decide +kernel
theorem dX6_personLine_56 : decode cX6_personLine 56 = .ok (.aload_n 1, 1) := by decide +kernel
theorem dX6_personLine_57 : decode cX6_personLine 57 = .ok (.getfield 185, 3) := by decide +kernel
theorem dX6_personLine_60 : decode cX6_personLine 60 = .ok (.aload_n 1, 1) := by decide +kernel
theorem dX6_personLine_61 : decode cX6_personLine 61 = .ok (.getfield 172, 3) := by decide +kernel
theorem dX6_personLine_64 : decode cX6_personLine 64 = .ok (.aload_n 0, 1) := by decide +kernel
theorem dX6_personLine_65 : decode cX6_personLine 65 = .ok (.ldc 188, 2) := by decide +kernel
theorem dX6_personLine_67 : decode cX6_personLine 67 = .ok (.iconst 0, 1) := by decide +kernel
theorem dX6_personLine_68 : decode cX6_personLine 68 = .ok (.aload_n 1, 1) := by decide +kernel
theorem dX6_personLine_69 : decode cX6_personLine 69 = .ok (.getfield 91, 3) := by decide +kernel
theorem dX6_personLine_72 : decode cX6_personLine 72 = .ok (.iconst 1, 1) := by decide +kernel
theorem dX6_personLine_73 : decode cX6_personLine 73 = .ok (.isub, 1) := by decide +kernel
theorem dX6_personLine_74 : decode cX6_personLine 74 = .ok (.invokevirtual 87, 3) := by decide +kernel
theorem dX6_personLine_77 : decode cX6_personLine 77 = .ok (.iastore, 1) := by decide +kernel
theorem dX6_personLine_78 : decode cX6_personLine 78 = .ok (.aload_n 1, 1) := by decide +kernel
theorem dX6_personLine_79 : decode cX6_personLine 79 = .ok (.dup, 1) := by decide +kernel
theorem dX6_personLine_80 : decode cX6_personLine 80 = .ok (.getfield 172, 3) := by decide +kernel
theorem dX6_personLine_83 : decode cX6_personLine 83 = .ok (.iconst 1, 1) := by decide +kernel
theorem dX6_personLine_84 : decode cX6_personLine 84 = .ok (.iadd, 1) := by decide +kernel
theorem dX6_personLine_85 : decode cX6_personLine 85 = .ok (.putfield 172, 3) := by decide +kernel
theorem dX6_personLine_88 : decode cX6_personLine 88 = .ok (.return_, 1) := by decide +kernel
theorem r_X6_personLine (E : kr_E) (p1 : Nat) (h_p1 : kr_sh p1 = (2, 0)) (M : kr_M) : kR kr_vv E Y_X6_personLine 8 0 [(0, kr_r E 1), (1, kr_r E p1)] [] M (f_X6_personLine p1 M) := by
  rw [f_X6_personLine]
  refine kr_aload_n dX6_personLine_0 rfl 1 rfl ?_
  refine kr_getI (ci := 2) (j := 7) dX6_personLine_1 h_p1 fl_RX6_172 rfl (fun v1 => ?_)
  refine kr_bipush (v := 6) dX6_personLine_4 (by decide) ?_
  refine kr_icmp_lt (tgt := 15) dX6_personLine_6 (by decide) ?_ ?_
  · refine kr_aload_n dX6_personLine_15 rfl 0 rfl ?_
    refine kr_Vv (As := []) (st := []) zv_X6_next dX6_personLine_16 ml_RX6_33 kr_at_1 (r_X6_next E  M) rfl rfl (Nat.le_of_ble_eq_true rfl) rfl (by decide) (Nat.le_of_ble_eq_true rfl) (fun M2 => ?_)
    refine kr_aload_n dX6_personLine_19 rfl 1 rfl ?_
    refine kr_getA (o := 6) (ci := 2) (j := 15) dX6_personLine_20 h_p1 fl_RX6_175 rfl ?_
    refine kr_aload_n dX6_personLine_23 rfl 1 rfl ?_
    refine kr_getI (ci := 2) (j := 7) dX6_personLine_24 h_p1 fl_RX6_172 rfl (fun v4 => ?_)
    refine kr_aload_n dX6_personLine_27 rfl 0 rfl ?_
    refine kr_ldcS (i := 14) dX6_personLine_28 rfl rfl ?_
    refine kr_iconst (v := 1) dX6_personLine_30 (by decide) ?_
    refine kr_sipush (v := 999) dX6_personLine_31 (by decide) ?_
    refine kr_Vi (As := [.ref (E.2.2.2.2.1 14), .int (1 : Int32), .int (999 : Int32)]) (st := [.int v4, kr_r E (p1 + 6)]) zv_X6_named dX6_personLine_34 ml_RX6_87 kr_at_1 (r_X6_named E 14 (by decide) (1 : Int32) (999 : Int32) M2) rfl rfl (Nat.le_of_ble_eq_true rfl) rfl (by decide) (Nat.le_of_ble_eq_true rfl) (fun r6 M5 => ?_)
    refine kr_iast dX6_personLine_37 (kr_shG6 _ h_p1) (fun M7 => ?_)
    refine kr_aload_n dX6_personLine_38 rfl 1 rfl ?_
    refine kr_getA (o := 7) (ci := 2) (j := 16) dX6_personLine_39 h_p1 fl_RX6_180 rfl ?_
    refine kr_aload_n dX6_personLine_42 rfl 1 rfl ?_
    refine kr_getI (ci := 2) (j := 7) dX6_personLine_43 h_p1 fl_RX6_172 rfl (fun v8 => ?_)
    refine kr_aload_n dX6_personLine_46 rfl 0 rfl ?_
    refine kr_ldcS (i := 15) dX6_personLine_47 rfl rfl ?_
    refine kr_iconst (v := 1) dX6_personLine_49 (by decide) ?_
    refine kr_bipush (v := 9) dX6_personLine_50 (by decide) ?_
    refine kr_Vi (As := [.ref (E.2.2.2.2.1 15), .int (1 : Int32), .int (9 : Int32)]) (st := [.int v8, kr_r E (p1 + 7)]) zv_X6_named dX6_personLine_52 ml_RX6_87 kr_at_1 (r_X6_named E 15 (by decide) (1 : Int32) (9 : Int32) M7) rfl rfl (Nat.le_of_ble_eq_true rfl) rfl (by decide) (Nat.le_of_ble_eq_true rfl) (fun r10 M9 => ?_)
    refine kr_iast dX6_personLine_55 (kr_shG7 _ h_p1) (fun M11 => ?_)
    refine kr_aload_n dX6_personLine_56 rfl 1 rfl ?_
    refine kr_getA (o := 8) (ci := 2) (j := 17) dX6_personLine_57 h_p1 fl_RX6_185 rfl ?_
    refine kr_aload_n dX6_personLine_60 rfl 1 rfl ?_
    refine kr_getI (ci := 2) (j := 7) dX6_personLine_61 h_p1 fl_RX6_172 rfl (fun v12 => ?_)
    refine kr_aload_n dX6_personLine_64 rfl 0 rfl ?_
    refine kr_ldcS (i := 16) dX6_personLine_65 rfl rfl ?_
    refine kr_iconst (v := 0) dX6_personLine_67 (by decide) ?_
    refine kr_aload_n dX6_personLine_68 rfl 1 rfl ?_
    refine kr_getI (ci := 2) (j := 1) dX6_personLine_69 h_p1 fl_RX6_91 rfl (fun v13 => ?_)
    refine kr_iconst (v := 1) dX6_personLine_72 (by decide) ?_
    refine kr_isub dX6_personLine_73 ?_
    refine kr_Vi (As := [.ref (E.2.2.2.2.1 16), .int (0 : Int32), .int (v13 - (1 : Int32))]) (st := [.int v12, kr_r E (p1 + 8)]) zv_X6_named dX6_personLine_74 ml_RX6_87 kr_at_1 (r_X6_named E 16 (by decide) (0 : Int32) (v13 - (1 : Int32)) M11) rfl rfl (Nat.le_of_ble_eq_true rfl) rfl (by decide) (Nat.le_of_ble_eq_true rfl) (fun r15 M14 => ?_)
    refine kr_iast dX6_personLine_77 (kr_shG8 _ h_p1) (fun M16 => ?_)
    refine kr_aload_n dX6_personLine_78 rfl 1 rfl ?_
    refine kr_dup dX6_personLine_79 rfl ?_
    refine kr_getI (ci := 2) (j := 7) dX6_personLine_80 h_p1 fl_RX6_172 rfl (fun v17 => ?_)
    refine kr_iconst (v := 1) dX6_personLine_83 (by decide) ?_
    refine kr_iadd dX6_personLine_84 ?_
    refine kr_putI (ci := 2) (j := 7) dX6_personLine_85 h_p1 fl_RX6_172 rfl rfl (fun M18 => ?_)
    exact kr_vret dX6_personLine_88 rfl
  · refine kr_aload_n dX6_personLine_9 rfl 0 rfl ?_
    refine kr_iconst (v := 3) dX6_personLine_10 (by decide) ?_
    refine kr_Vv (As := [.int (3 : Int32)]) (st := []) zv_X6_blame dX6_personLine_11 ml_RX6_58 kr_at_1 (r_X6_blame E (3 : Int32) M) rfl rfl (Nat.le_of_ble_eq_true rfl) rfl (by decide) (Nat.le_of_ble_eq_true rfl) (fun M19 => ?_)
    exact kr_vret dX6_personLine_14 rfl
theorem dX6_knots_0 : decode cX6_knots 0 = .ok (.aload_n 1, 1) := by decide +kernel
theorem dX6_knots_1 : decode cX6_knots 1 = .ok (.iconst 0, 1) := by decide +kernel
theorem dX6_knots_2 : decode cX6_knots 2 = .ok (.putfield 190, 3) := by decide +kernel
theorem dX6_knots_5 : decode cX6_knots 5 = .ok (.aload_n 1, 1) := by decide +kernel
theorem dX6_knots_6 : decode cX6_knots 6 = .ok (.aload_n 0, 1) := by decide +kernel
theorem dX6_knots_7 : decode cX6_knots 7 = .ok (.iconst 0, 1) := by decide +kernel
theorem dX6_knots_8 : decode cX6_knots 8 = .ok (.iload_n 3, 1) := by decide +kernel
theorem dX6_knots_9 : decode cX6_knots 9 = .ok (.iconst 1, 1) := by decide +kernel
theorem dX6_knots_10 : decode cX6_knots 10 = .ok (.isub, 1) := by decide +kernel
theorem dX6_knots_11 : decode cX6_knots 11 = .ok (.invokevirtual 140, 3) := by decide +kernel
theorem dX6_knots_14 : decode cX6_knots 14 = .ok (.invokevirtual 193, 3) := by decide +kernel
theorem dX6_knots_17 : decode cX6_knots 17 = .ok (.iconst 1, 1) := by decide +kernel
theorem dX6_knots_18 : decode cX6_knots 18 = .ok (.istore 4, 2) := by decide +kernel
theorem dX6_knots_20 : decode cX6_knots 20 = .ok (.iload 4, 2) := by decide +kernel
theorem dX6_knots_22 : decode cX6_knots 22 = .ok (.iload_n 2, 1) := by decide +kernel
theorem dX6_knots_23 : decode cX6_knots 23 = .ok (.if_icmp .gt 55, 3) := by decide +kernel
theorem dX6_knots_26 : decode cX6_knots 26 = .ok (.aload_n 0, 1) := by decide +kernel
theorem dX6_knots_27 : decode cX6_knots 27 = .ok (.getfield 27, 3) := by decide +kernel
theorem dX6_knots_30 : decode cX6_knots 30 = .ok (.ifCond .ne 48, 3) := by decide +kernel
theorem dX6_knots_33 : decode cX6_knots 33 = .ok (.aload_n 0, 1) := by decide +kernel
theorem dX6_knots_34 : decode cX6_knots 34 = .ok (.getfield 36, 3) := by decide +kernel
theorem dX6_knots_37 : decode cX6_knots 37 = .ok (.iconst 2, 1) := by decide +kernel
theorem dX6_knots_38 : decode cX6_knots 38 = .ok (.if_icmp .ne 40, 3) := by decide +kernel
theorem dX6_knots_41 : decode cX6_knots 41 = .ok (.iload 4, 2) := by decide +kernel
theorem dX6_knots_43 : decode cX6_knots 43 = .ok (.iload_n 2, 1) := by decide +kernel
theorem dX6_knots_44 : decode cX6_knots 44 = .ok (.if_icmp .ne 16, 3) := by decide +kernel
theorem dX6_knots_47 : decode cX6_knots 47 = .ok (.aload_n 0, 1) := by decide +kernel
theorem dX6_knots_48 : decode cX6_knots 48 = .ok (.getfield 155, 3) := by decide +kernel
theorem dX6_knots_51 : decode cX6_knots 51 = .ok (.iload_n 3, 1) := by decide +kernel
theorem dX6_knots_52 : decode cX6_knots 52 = .ok (.if_icmp .ge 8, 3) := by decide +kernel
theorem dX6_knots_55 : decode cX6_knots 55 = .ok (.aload_n 0, 1) := by decide +kernel
theorem dX6_knots_56 : decode cX6_knots 56 = .ok (.iconst 3, 1) := by decide +kernel
theorem dX6_knots_57 : decode cX6_knots 57 = .ok (.invokevirtual 58, 3) := by decide +kernel
theorem dX6_knots_60 : decode cX6_knots 60 = .ok (.aload_n 1, 1) := by decide +kernel
theorem dX6_knots_61 : decode cX6_knots 61 = .ok (.aload_n 0, 1) := by decide +kernel
theorem dX6_knots_62 : decode cX6_knots 62 = .ok (.iconst 0, 1) := by decide +kernel
theorem dX6_knots_63 : decode cX6_knots 63 = .ok (.iload_n 3, 1) := by decide +kernel
theorem dX6_knots_64 : decode cX6_knots 64 = .ok (.iconst 1, 1) := by decide +kernel
theorem dX6_knots_65 : decode cX6_knots 65 = .ok (.isub, 1) := by decide +kernel
theorem dX6_knots_66 : decode cX6_knots 66 = .ok (.invokevirtual 140, 3) := by decide +kernel
theorem dX6_knots_69 : decode cX6_knots 69 = .ok (.invokevirtual 193, 3) := by decide +kernel
theorem dX6_knots_72 : decode cX6_knots 72 = .ok (.iinc 4 1, 3) := by decide +kernel
theorem dX6_knots_75 : decode cX6_knots 75 = .ok (.goto (-55), 3) := by decide +kernel
theorem dX6_knots_78 : decode cX6_knots 78 = .ok (.return_, 1) := by decide +kernel
theorem r_X6_knots_60 (E : kr_E) (k_20 : Int32 → kr_M → Option kr_M) (l1 : Nat) (h_l1 : kr_sh l1 = (7, 0)) (l2 : Int32) (l3 : Int32) (l4 : Int32) (hk_20 : ∀ (x4 : Int32) (M : kr_M), kR kr_vv E Y_X6_knots 4 20 [(0, kr_r E 1), (1, kr_r E l1), (2, .int l2), (3, .int l3), (4, .int x4)] [] M (k_20 x4 M)) (M : kr_M) : kR kr_vv E Y_X6_knots 4 60 [(0, kr_r E 1), (1, kr_r E l1), (2, .int l2), (3, .int l3), (4, .int l4)] [] M (f_X6_knots_60 k_20 l1 l3 l4 M) := by
  rw [f_X6_knots_60]
  refine kr_aload_n dX6_knots_60 rfl 1 rfl ?_
  refine kr_aload_n dX6_knots_61 rfl 0 rfl ?_
  refine kr_iconst (v := 0) dX6_knots_62 (by decide) ?_
  refine kr_iload_n dX6_knots_63 rfl 3 rfl ?_
  refine kr_iconst (v := 1) dX6_knots_64 (by decide) ?_
  refine kr_isub dX6_knots_65 ?_
  refine kr_Vi (As := [.int (0 : Int32), .int (l3 - (1 : Int32))]) (st := [kr_r E l1]) zv_X6_number dX6_knots_66 ml_RX6_140 kr_at_1 (r_X6_number E (0 : Int32) (l3 - (1 : Int32)) M) rfl rfl (Nat.le_of_ble_eq_true rfl) rfl (by decide) (Nat.le_of_ble_eq_true rfl) (fun r2 M1 => ?_)
  refine kr_Vv (As := [.int r2]) (st := []) zv_X7_put dX6_knots_69 ml_RX6_193 h_l1 (r_X7_put E l1 h_l1 r2 M1) rfl rfl (Nat.le_of_ble_eq_true rfl) rfl (by decide) (Nat.le_of_ble_eq_true rfl) (fun M3 => ?_)
  refine kr_iinc (j := 4) (v := (l4 + (1 : Int32))) (lv' := [(4, .int (l4 + (1 : Int32))), (0, kr_r E 1), (1, kr_r E l1), (2, .int l2), (3, .int l3)]) dX6_knots_72 rfl rfl (by decide) rfl ?_
  refine kr_goto (tgt := 20) dX6_knots_75 (by decide) ?_
  refine kr_sub [1, 2, 3, 4, 0] rfl ?_
  exact hk_20 (l4 + (1 : Int32)) M3
theorem r_X6_knots_20 (E : kr_E)  (l1 : Nat) (h_l1 : kr_sh l1 = (7, 0)) (l2 : Int32) (l3 : Int32)  : ∀ (n : Nat) (l4 : Int32) (M : kr_M), kR kr_vv E Y_X6_knots 4 20 [(0, kr_r E 1), (1, kr_r E l1), (2, .int l2), (3, .int l3), (4, .int l4)] [] M (f_X6_knots_20 l1 l2 l3 n l4 M) := by
  intro n
  induction n with
  | zero => intro l4 M; exact kr_none
  | succ n ih =>
    intro l4 M
    rw [f_X6_knots_20]
    refine kr_iload dX6_knots_20 4 rfl ?_
    refine kr_iload_n dX6_knots_22 rfl 2 rfl ?_
    refine kr_icmp_gt (tgt := 78) dX6_knots_23 (by decide) ?_ ?_
    · exact kr_vret dX6_knots_78 rfl
    · refine kr_aload_n dX6_knots_26 rfl 0 rfl ?_
      refine kr_getI (ci := 6) (j := 2) dX6_knots_27 kr_at_1 fl_RX6_27 rfl (fun v1 => ?_)
      refine kr_if_ne (tgt := 78) dX6_knots_30 (by decide) ?_ ?_
      · exact kr_vret dX6_knots_78 rfl
      · refine kr_aload_n dX6_knots_33 rfl 0 rfl ?_
        refine kr_getI (ci := 6) (j := 4) dX6_knots_34 kr_at_1 fl_RX6_36 rfl (fun v2 => ?_)
        refine kr_iconst (v := 2) dX6_knots_37 (by decide) ?_
        refine kr_icmp_ne (tgt := 78) dX6_knots_38 (by decide) ?_ ?_
        · exact kr_vret dX6_knots_78 rfl
        · refine kr_iload dX6_knots_41 4 rfl ?_
          refine kr_iload_n dX6_knots_43 rfl 2 rfl ?_
          refine kr_icmp_ne (tgt := 60) dX6_knots_44 (by decide) ?_ ?_
          · refine kr_sub [0, 1, 2, 3, 4] rfl ?_
            exact r_X6_knots_60 E _ l1 h_l1 l2 l3 l4 ih M
          · refine kr_aload_n dX6_knots_47 rfl 0 rfl ?_
            refine kr_getI (ci := 6) (j := 7) dX6_knots_48 kr_at_1 fl_RX6_155 rfl (fun v3 => ?_)
            refine kr_iload_n dX6_knots_51 rfl 3 rfl ?_
            refine kr_icmp_ge (tgt := 60) dX6_knots_52 (by decide) ?_ ?_
            · refine kr_sub [0, 1, 2, 3, 4] rfl ?_
              exact r_X6_knots_60 E _ l1 h_l1 l2 l3 l4 ih M
            · refine kr_aload_n dX6_knots_55 rfl 0 rfl ?_
              refine kr_iconst (v := 3) dX6_knots_56 (by decide) ?_
              refine kr_Vv (As := [.int (3 : Int32)]) (st := []) zv_X6_blame dX6_knots_57 ml_RX6_58 kr_at_1 (r_X6_blame E (3 : Int32) M) rfl rfl (Nat.le_of_ble_eq_true rfl) rfl (by decide) (Nat.le_of_ble_eq_true rfl) (fun M4 => ?_)
              refine kr_sub [0, 1, 2, 3, 4] rfl ?_
              exact r_X6_knots_60 E _ l1 h_l1 l2 l3 l4 ih M4
theorem r_X6_knots (E : kr_E) (p1 : Nat) (h_p1 : kr_sh p1 = (7, 0)) (p2 : Int32) (p3 : Int32) (M : kr_M) : kR kr_vv E Y_X6_knots 4 0 [(0, kr_r E 1), (1, kr_r E p1), (2, .int p2), (3, .int p3)] [] M (f_X6_knots p1 p2 p3 M) := by
  rw [f_X6_knots]
  refine kr_aload_n dX6_knots_0 rfl 1 rfl ?_
  refine kr_iconst (v := 0) dX6_knots_1 (by decide) ?_
  refine kr_putI (ci := 7) (j := 1) dX6_knots_2 h_p1 fl_RX6_190 rfl rfl (fun M1 => ?_)
  refine kr_aload_n dX6_knots_5 rfl 1 rfl ?_
  refine kr_aload_n dX6_knots_6 rfl 0 rfl ?_
  refine kr_iconst (v := 0) dX6_knots_7 (by decide) ?_
  refine kr_iload_n dX6_knots_8 rfl 3 rfl ?_
  refine kr_iconst (v := 1) dX6_knots_9 (by decide) ?_
  refine kr_isub dX6_knots_10 ?_
  refine kr_Vi (As := [.int (0 : Int32), .int (p3 - (1 : Int32))]) (st := [kr_r E p1]) zv_X6_number dX6_knots_11 ml_RX6_140 kr_at_1 (r_X6_number E (0 : Int32) (p3 - (1 : Int32)) M1) rfl rfl (Nat.le_of_ble_eq_true rfl) rfl (by decide) (Nat.le_of_ble_eq_true rfl) (fun r3 M2 => ?_)
  refine kr_Vv (As := [.int r3]) (st := []) zv_X7_put dX6_knots_14 ml_RX6_193 h_p1 (r_X7_put E p1 h_p1 r3 M2) rfl rfl (Nat.le_of_ble_eq_true rfl) rfl (by decide) (Nat.le_of_ble_eq_true rfl) (fun M4 => ?_)
  refine kr_iconst (v := 1) dX6_knots_17 (by decide) ?_
  refine kr_istore (lv' := [(4, .int (1 : Int32)), (0, kr_r E 1), (1, kr_r E p1), (2, .int p2), (3, .int p3)]) dX6_knots_18 (by decide) rfl ?_
  refine kr_sub [1, 2, 3, 4, 0] rfl ?_
  exact r_X6_knots_20 E p1 h_p1 p2 p3 _ (1 : Int32) M4
theorem dX6_ropeLine_0 : decode cX6_ropeLine 0 = .ok (.aload_n 1, 1) := by decide +kernel
theorem dX6_ropeLine_1 : decode cX6_ropeLine 1 = .ok (.getfield 133, 3) := by decide +kernel
theorem dX6_ropeLine_4 : decode cX6_ropeLine 4 = .ok (.bipush 6, 2) := by decide +kernel
theorem dX6_ropeLine_6 : decode cX6_ropeLine 6 = .ok (.if_icmp .lt 9, 3) := by decide +kernel
theorem dX6_ropeLine_9 : decode cX6_ropeLine 9 = .ok (.aload_n 0, 1) := by decide +kernel
theorem dX6_ropeLine_10 : decode cX6_ropeLine 10 = .ok (.iconst 3, 1) := by decide +kernel
theorem dX6_ropeLine_11 : decode cX6_ropeLine 11 = .ok (.invokevirtual 58, 3) := by decide +kernel
theorem dX6_ropeLine_14 : decode cX6_ropeLine 14 = .ok (.return_, 1) := by decide +kernel
theorem dX6_ropeLine_15 : decode cX6_ropeLine 15 = .ok (.aload_n 0, 1) := by decide +kernel
theorem dX6_ropeLine_16 : decode cX6_ropeLine 16 = .ok (.invokevirtual 33, 3) := by decide +kernel
theorem dX6_ropeLine_19 : decode cX6_ropeLine 19 = .ok (.aload_n 1, 1) := by decide +kernel
theorem dX6_ropeLine_20 : decode cX6_ropeLine 20 = .ok (.getfield 136, 3) := by decide +kernel
theorem dX6_ropeLine_23 : decode cX6_ropeLine 23 = .ok (.aload_n 1, 1) := by decide +kernel
theorem dX6_ropeLine_24 : decode cX6_ropeLine 24 = .ok (.getfield 133, 3) := by decide +kernel
theorem dX6_ropeLine_27 : decode cX6_ropeLine 27 = .ok (.aaload, 1) := by decide +kernel
theorem dX6_ropeLine_28 : decode cX6_ropeLine 28 = .ok (.astore_n 2, 1) := by decide +kernel
theorem dX6_ropeLine_29 : decode cX6_ropeLine 29 = .ok (.aload_n 2, 1) := by decide +kernel
theorem dX6_ropeLine_30 : decode cX6_ropeLine 30 = .ok (.aload_n 0, 1) := by decide +kernel
theorem dX6_ropeLine_31 : decode cX6_ropeLine 31 = .ok (.iconst 0, 1) := by decide +kernel
theorem dX6_ropeLine_32 : decode cX6_ropeLine 32 = .ok (.aload_n 1, 1) := by decide +kernel
theorem dX6_ropeLine_33 : decode cX6_ropeLine 33 = .ok (.getfield 91, 3) := by decide +kernel
theorem dX6_ropeLine_36 : decode cX6_ropeLine 36 = .ok (.iconst 1, 1) := by decide +kernel
theorem dX6_ropeLine_37 : decode cX6_ropeLine 37 = .ok (.isub, 1) := by decide +kernel
theorem dX6_ropeLine_38 : decode cX6_ropeLine 38 = .ok (.invokevirtual 140, 3) := by decide +kernel
theorem dX6_ropeLine_41 : decode cX6_ropeLine 41 = .ok (.putfield 144, 3) := by decide +kernel
theorem dX6_ropeLine_44 : decode cX6_ropeLine 44 = .ok (.aload_n 0, 1) := by decide +kernel
theorem dX6_ropeLine_45 : decode cX6_ropeLine 45 = .ok (.ldc 149, 2) := by decide +kernel
theorem dX6_ropeLine_47 : decode cX6_ropeLine 47 = .ok (.invokevirtual 151, 3) := by decide +kernel
theorem dX6_ropeLine_50 : decode cX6_ropeLine 50 = .ok (.aload_n 0, 1) := by decide +kernel
theorem dX6_ropeLine_51 : decode cX6_ropeLine 51 = .ok (.getfield 36, 3) := by decide +kernel
theorem dX6_ropeLine_54 : decode cX6_ropeLine 54 = .ok (.iconst 2, 1) := by decide +kernel
theorem dX6_ropeLine_55 : decode cX6_ropeLine 55 = .ok (.if_icmp .ne 19, 3) := by decide +kernel
theorem dX6_ropeLine_58 : decode cX6_ropeLine 58 = .ok (.aload_n 0, 1) := by decide +kernel
theorem dX6_ropeLine_59 : decode cX6_ropeLine 59 = .ok (.getfield 155, 3) := by decide +kernel
theorem dX6_ropeLine_62 : decode cX6_ropeLine 62 = .ok (.aload_n 2, 1) := by decide +kernel
theorem dX6_ropeLine_63 : decode cX6_ropeLine 63 = .ok (.getfield 144, 3) := by decide +kernel
theorem dX6_ropeLine_66 : decode cX6_ropeLine 66 = .ok (.if_icmp .ne 8, 3) := by decide +kernel
theorem dX6_ropeLine_69 : decode cX6_ropeLine 69 = .ok (.aload_n 0, 1) := by decide +kernel
theorem dX6_ropeLine_70 : decode cX6_ropeLine 70 = .ok (.iconst 2, 1) := by decide +kernel
theorem dX6_ropeLine_71 : decode cX6_ropeLine 71 = .ok (.invokevirtual 58, 3) := by decide +kernel
theorem dX6_ropeLine_74 : decode cX6_ropeLine 74 = .ok (.aload_n 2, 1) := by decide +kernel
theorem dX6_ropeLine_75 : decode cX6_ropeLine 75 = .ok (.aload_n 0, 1) := by decide +kernel
theorem dX6_ropeLine_76 : decode cX6_ropeLine 76 = .ok (.iconst 0, 1) := by decide +kernel
theorem dX6_ropeLine_77 : decode cX6_ropeLine 77 = .ok (.aload_n 1, 1) := by decide +kernel
theorem dX6_ropeLine_78 : decode cX6_ropeLine 78 = .ok (.getfield 91, 3) := by decide +kernel
theorem dX6_ropeLine_81 : decode cX6_ropeLine 81 = .ok (.iconst 1, 1) := by decide +kernel
theorem dX6_ropeLine_82 : decode cX6_ropeLine 82 = .ok (.isub, 1) := by decide +kernel
theorem dX6_ropeLine_83 : decode cX6_ropeLine 83 = .ok (.invokevirtual 140, 3) := by decide +kernel
theorem dX6_ropeLine_86 : decode cX6_ropeLine 86 = .ok (.putfield 158, 3) := by decide +kernel
theorem dX6_ropeLine_89 : decode cX6_ropeLine 89 = .ok (.aload_n 2, 1) := by decide +kernel
theorem dX6_ropeLine_90 : decode cX6_ropeLine 90 = .ok (.aload_n 0, 1) := by decide +kernel
theorem dX6_ropeLine_91 : decode cX6_ropeLine 91 = .ok (.ldc 161, 2) := by decide +kernel
theorem dX6_ropeLine_93 : decode cX6_ropeLine 93 = .ok (.iconst 1, 1) := by decide +kernel
theorem dX6_ropeLine_94 : decode cX6_ropeLine 94 = .ok (.sipush 999, 3) := by decide +kernel
theorem dX6_ropeLine_97 : decode cX6_ropeLine 97 = .ok (.invokevirtual 87, 3) := by decide +kernel
theorem dX6_ropeLine_100 : decode cX6_ropeLine 100 = .ok (.putfield 163, 3) := by decide +kernel
theorem dX6_ropeLine_103 : decode cX6_ropeLine 103 = .ok (.aload_n 0, 1) := by decide +kernel
theorem dX6_ropeLine_104 : decode cX6_ropeLine 104 = .ok (.ldc 166, 2) := by decide +kernel
theorem dX6_ropeLine_106 : decode cX6_ropeLine 106 = .ok (.invokevirtual 151, 3) := by decide +kernel
theorem dX6_ropeLine_109 : decode cX6_ropeLine 109 = .ok (.aload_n 0, 1) := by decide +kernel
theorem dX6_ropeLine_110 : decode cX6_ropeLine 110 = .ok (.aload_n 2, 1) := by decide +kernel
theorem dX6_ropeLine_111 : decode cX6_ropeLine 111 = .ok (.getfield 168, 3) := by decide +kernel
theorem dX6_ropeLine_114 : decode cX6_ropeLine 114 = .ok (.bipush 12, 2) := by decide +kernel
theorem dX6_ropeLine_116 : decode cX6_ropeLine 116 = .ok (.aload_n 1, 1) := by decide +kernel
theorem dX6_ropeLine_117 : decode cX6_ropeLine 117 = .ok (.getfield 101, 3) := by decide +kernel
theorem dX6_ropeLine_120 : decode cX6_ropeLine 120 = .ok (.invokevirtual 120, 3) := by decide +kernel
theorem dX6_ropeLine_123 : decode cX6_ropeLine 123 = .ok (.aload_n 1, 1) := by decide +kernel
theorem dX6_ropeLine_124 : decode cX6_ropeLine 124 = .ok (.dup, 1) := by decide +kernel
theorem dX6_ropeLine_125 : decode cX6_ropeLine 125 = .ok (.getfield 133, 3) := by decide +kernel
theorem dX6_ropeLine_128 : decode cX6_ropeLine 128 = .ok (.iconst 1, 1) := by decide +kernel
theorem dX6_ropeLine_129 : decode cX6_ropeLine 129 = .ok (.iadd, 1) := by decide +kernel
theorem dX6_ropeLine_130 : decode cX6_ropeLine 130 = .ok (.putfield 133, 3) := by decide +kernel
theorem dX6_ropeLine_133 : decode cX6_ropeLine 133 = .ok (.return_, 1) := by decide +kernel
theorem r_X6_ropeLine_74 (E : kr_E)  (l1 : Nat) (h_l1 : kr_sh l1 = (2, 0)) (l2 : Nat) (h_l2 : kr_sh l2 = (5, 0))  (M : kr_M) : kR kr_vv E Y_X6_ropeLine 8 74 [(0, kr_r E 1), (1, kr_r E l1), (2, kr_r E l2)] [] M (f_X6_ropeLine_74 l1 l2 M) := by
  rw [f_X6_ropeLine_74]
  refine kr_aload_n dX6_ropeLine_74 rfl 2 rfl ?_
  refine kr_aload_n dX6_ropeLine_75 rfl 0 rfl ?_
  refine kr_iconst (v := 0) dX6_ropeLine_76 (by decide) ?_
  refine kr_aload_n dX6_ropeLine_77 rfl 1 rfl ?_
  refine kr_getI (ci := 2) (j := 1) dX6_ropeLine_78 h_l1 fl_RX6_91 rfl (fun v1 => ?_)
  refine kr_iconst (v := 1) dX6_ropeLine_81 (by decide) ?_
  refine kr_isub dX6_ropeLine_82 ?_
  refine kr_Vi (As := [.int (0 : Int32), .int (v1 - (1 : Int32))]) (st := [kr_r E l2]) zv_X6_number dX6_ropeLine_83 ml_RX6_140 kr_at_1 (r_X6_number E (0 : Int32) (v1 - (1 : Int32)) M) rfl rfl (Nat.le_of_ble_eq_true rfl) rfl (by decide) (Nat.le_of_ble_eq_true rfl) (fun r3 M2 => ?_)
  refine kr_putI (ci := 5) (j := 1) dX6_ropeLine_86 h_l2 fl_RX6_158 rfl rfl (fun M4 => ?_)
  refine kr_aload_n dX6_ropeLine_89 rfl 2 rfl ?_
  refine kr_aload_n dX6_ropeLine_90 rfl 0 rfl ?_
  refine kr_ldcS (i := 11) dX6_ropeLine_91 rfl rfl ?_
  refine kr_iconst (v := 1) dX6_ropeLine_93 (by decide) ?_
  refine kr_sipush (v := 999) dX6_ropeLine_94 (by decide) ?_
  refine kr_Vi (As := [.ref (E.2.2.2.2.1 11), .int (1 : Int32), .int (999 : Int32)]) (st := [kr_r E l2]) zv_X6_named dX6_ropeLine_97 ml_RX6_87 kr_at_1 (r_X6_named E 11 (by decide) (1 : Int32) (999 : Int32) M4) rfl rfl (Nat.le_of_ble_eq_true rfl) rfl (by decide) (Nat.le_of_ble_eq_true rfl) (fun r6 M5 => ?_)
  refine kr_putI (ci := 5) (j := 2) dX6_ropeLine_100 h_l2 fl_RX6_163 rfl rfl (fun M7 => ?_)
  refine kr_aload_n dX6_ropeLine_103 rfl 0 rfl ?_
  refine kr_ldcS (i := 12) dX6_ropeLine_104 rfl rfl ?_
  refine kr_Vv (As := [.ref (E.2.2.2.2.1 12)]) (st := []) zv_X6_name dX6_ropeLine_106 ml_RX6_151 kr_at_1 (r_X6_name E 12 (by decide) M7) rfl rfl (Nat.le_of_ble_eq_true rfl) rfl (by decide) (Nat.le_of_ble_eq_true rfl) (fun M8 => ?_)
  refine kr_aload_n dX6_ropeLine_109 rfl 0 rfl ?_
  refine kr_aload_n dX6_ropeLine_110 rfl 2 rfl ?_
  refine kr_getA (o := 1) (ci := 5) (j := 4) dX6_ropeLine_111 h_l2 fl_RX6_168 rfl ?_
  refine kr_bipush (v := 12) dX6_ropeLine_114 (by decide) ?_
  refine kr_aload_n dX6_ropeLine_116 rfl 1 rfl ?_
  refine kr_getI (ci := 2) (j := 4) dX6_ropeLine_117 h_l1 fl_RX6_101 rfl (fun v10 => ?_)
  refine kr_Vv (As := [kr_r E (l2 + 1), .int (12 : Int32), .int v10]) (st := []) zv_X6_knots dX6_ropeLine_120 ml_RX6_120 kr_at_1 (r_X6_knots E (l2 + 1) (kr_shR1 _ h_l2) (12 : Int32) v10 M8) rfl rfl (Nat.le_of_ble_eq_true rfl) rfl (by decide) (Nat.le_of_ble_eq_true rfl) (fun M11 => ?_)
  refine kr_aload_n dX6_ropeLine_123 rfl 1 rfl ?_
  refine kr_dup dX6_ropeLine_124 rfl ?_
  refine kr_getI (ci := 2) (j := 6) dX6_ropeLine_125 h_l1 fl_RX6_133 rfl (fun v13 => ?_)
  refine kr_iconst (v := 1) dX6_ropeLine_128 (by decide) ?_
  refine kr_iadd dX6_ropeLine_129 ?_
  refine kr_putI (ci := 2) (j := 6) dX6_ropeLine_130 h_l1 fl_RX6_133 rfl rfl (fun M14 => ?_)
  exact kr_vret dX6_ropeLine_133 rfl
theorem r_X6_ropeLine (E : kr_E) (p1 : Nat) (h_p1 : kr_sh p1 = (2, 0)) (M : kr_M) : kR kr_vv E Y_X6_ropeLine 8 0 [(0, kr_r E 1), (1, kr_r E p1)] [] M (f_X6_ropeLine p1 M) := by
  rw [f_X6_ropeLine]
  refine kr_aload_n dX6_ropeLine_0 rfl 1 rfl ?_
  refine kr_getI (ci := 2) (j := 6) dX6_ropeLine_1 h_p1 fl_RX6_133 rfl (fun v1 => ?_)
  refine kr_bipush (v := 6) dX6_ropeLine_4 (by decide) ?_
  refine kr_icmp_lt (tgt := 15) dX6_ropeLine_6 (by decide) ?_ ?_
  · refine kr_aload_n dX6_ropeLine_15 rfl 0 rfl ?_
    refine kr_Vv (As := []) (st := []) zv_X6_next dX6_ropeLine_16 ml_RX6_33 kr_at_1 (r_X6_next E  M) rfl rfl (Nat.le_of_ble_eq_true rfl) rfl (by decide) (Nat.le_of_ble_eq_true rfl) (fun M2 => ?_)
    refine kr_aload_n dX6_ropeLine_19 rfl 1 rfl ?_
    refine kr_getA (o := 5) (ci := 2) (j := 14) dX6_ropeLine_20 h_p1 fl_RX6_136 rfl ?_
    refine kr_aload_n dX6_ropeLine_23 rfl 1 rfl ?_
    refine kr_getI (ci := 2) (j := 6) dX6_ropeLine_24 h_p1 fl_RX6_133 rfl (fun v4 => ?_)
    refine kr_aaldR dX6_ropeLine_27 h_p1 (fun h5 => ?_)
    refine kr_astore_n (lv' := [(2, kr_r E (kr_rp p1 v4)), (0, kr_r E 1), (1, kr_r E p1)]) dX6_ropeLine_28 rfl (by decide) rfl ?_
    refine kr_aload_n dX6_ropeLine_29 rfl 0 rfl ?_
    refine kr_aload_n dX6_ropeLine_30 rfl 1 rfl ?_
    refine kr_iconst (v := 0) dX6_ropeLine_31 (by decide) ?_
    refine kr_aload_n dX6_ropeLine_32 rfl 2 rfl ?_
    refine kr_getI (ci := 2) (j := 1) dX6_ropeLine_33 h_p1 fl_RX6_91 rfl (fun v6 => ?_)
    refine kr_iconst (v := 1) dX6_ropeLine_36 (by decide) ?_
    refine kr_isub dX6_ropeLine_37 ?_
    refine kr_Vi (As := [.int (0 : Int32), .int (v6 - (1 : Int32))]) (st := [kr_r E (kr_rp p1 v4)]) zv_X6_number dX6_ropeLine_38 ml_RX6_140 kr_at_1 (r_X6_number E (0 : Int32) (v6 - (1 : Int32)) M2) rfl rfl (Nat.le_of_ble_eq_true rfl) rfl (by decide) (Nat.le_of_ble_eq_true rfl) (fun r8 M7 => ?_)
    refine kr_putI (ci := 5) (j := 0) dX6_ropeLine_41 h5 fl_RX6_144 rfl rfl (fun M9 => ?_)
    refine kr_aload_n dX6_ropeLine_44 rfl 1 rfl ?_
    refine kr_ldcS (i := 10) dX6_ropeLine_45 rfl rfl ?_
    refine kr_Vv (As := [.ref (E.2.2.2.2.1 10)]) (st := []) zv_X6_name dX6_ropeLine_47 ml_RX6_151 kr_at_1 (r_X6_name E 10 (by decide) M9) rfl rfl (Nat.le_of_ble_eq_true rfl) rfl (by decide) (Nat.le_of_ble_eq_true rfl) (fun M10 => ?_)
    refine kr_aload_n dX6_ropeLine_50 rfl 1 rfl ?_
    refine kr_getI (ci := 6) (j := 4) dX6_ropeLine_51 kr_at_1 fl_RX6_36 rfl (fun v12 => ?_)
    refine kr_iconst (v := 2) dX6_ropeLine_54 (by decide) ?_
    refine kr_icmp_ne (tgt := 74) dX6_ropeLine_55 (by decide) ?_ ?_
    · refine kr_sub [1, 2, 0] rfl ?_
      exact r_X6_ropeLine_74 E p1 h_p1 (kr_rp p1 v4) h5 M10
    · refine kr_aload_n dX6_ropeLine_58 rfl 1 rfl ?_
      refine kr_getI (ci := 6) (j := 7) dX6_ropeLine_59 kr_at_1 fl_RX6_155 rfl (fun v13 => ?_)
      refine kr_aload_n dX6_ropeLine_62 rfl 0 rfl ?_
      refine kr_getI (ci := 5) (j := 0) dX6_ropeLine_63 h5 fl_RX6_144 rfl (fun v14 => ?_)
      refine kr_icmp_ne (tgt := 74) dX6_ropeLine_66 (by decide) ?_ ?_
      · refine kr_sub [1, 2, 0] rfl ?_
        exact r_X6_ropeLine_74 E p1 h_p1 (kr_rp p1 v4) h5 M10
      · refine kr_aload_n dX6_ropeLine_69 rfl 1 rfl ?_
        refine kr_iconst (v := 2) dX6_ropeLine_70 (by decide) ?_
        refine kr_Vv (As := [.int (2 : Int32)]) (st := []) zv_X6_blame dX6_ropeLine_71 ml_RX6_58 kr_at_1 (r_X6_blame E (2 : Int32) M10) rfl rfl (Nat.le_of_ble_eq_true rfl) rfl (by decide) (Nat.le_of_ble_eq_true rfl) (fun M15 => ?_)
        refine kr_sub [1, 2, 0] rfl ?_
        exact r_X6_ropeLine_74 E p1 h_p1 (kr_rp p1 v4) h5 M15
  · refine kr_aload_n dX6_ropeLine_9 rfl 0 rfl ?_
    refine kr_iconst (v := 3) dX6_ropeLine_10 (by decide) ?_
    refine kr_Vv (As := [.int (3 : Int32)]) (st := []) zv_X6_blame dX6_ropeLine_11 ml_RX6_58 kr_at_1 (r_X6_blame E (3 : Int32) M) rfl rfl (Nat.le_of_ble_eq_true rfl) rfl (by decide) (Nat.le_of_ble_eq_true rfl) (fun M17 => ?_)
    exact kr_vret dX6_ropeLine_14 rfl
theorem dX6_wordLine_0 : decode cX6_wordLine 0 = .ok (.aload_n 1, 1) := by decide +kernel
theorem dX6_wordLine_1 : decode cX6_wordLine 1 = .ok (.getfield 113, 3) := by decide +kernel
theorem dX6_wordLine_4 : decode cX6_wordLine 4 = .ok (.bipush 10, 2) := by decide +kernel
theorem dX6_wordLine_6 : decode cX6_wordLine 6 = .ok (.if_icmp .lt 9, 3) := by decide +kernel
theorem dX6_wordLine_9 : decode cX6_wordLine 9 = .ok (.aload_n 0, 1) := by decide +kernel
theorem dX6_wordLine_10 : decode cX6_wordLine 10 = .ok (.iconst 3, 1) := by decide +kernel
theorem dX6_wordLine_11 : decode cX6_wordLine 11 = .ok (.invokevirtual 58, 3) := by decide +kernel
theorem dX6_wordLine_14 : decode cX6_wordLine 14 = .ok (.return_, 1) := by decide +kernel
theorem dX6_wordLine_15 : decode cX6_wordLine 15 = .ok (.aload_n 0, 1) := by decide +kernel
theorem dX6_wordLine_16 : decode cX6_wordLine 16 = .ok (.invokevirtual 33, 3) := by decide +kernel
theorem dX6_wordLine_19 : decode cX6_wordLine 19 = .ok (.aload_n 1, 1) := by decide +kernel
theorem dX6_wordLine_20 : decode cX6_wordLine 20 = .ok (.getfield 116, 3) := by decide +kernel
theorem dX6_wordLine_23 : decode cX6_wordLine 23 = .ok (.aload_n 1, 1) := by decide +kernel
theorem dX6_wordLine_24 : decode cX6_wordLine 24 = .ok (.getfield 113, 3) := by decide +kernel
theorem dX6_wordLine_27 : decode cX6_wordLine 27 = .ok (.aaload, 1) := by decide +kernel
theorem dX6_wordLine_28 : decode cX6_wordLine 28 = .ok (.astore_n 2, 1) := by decide +kernel
theorem dX6_wordLine_29 : decode cX6_wordLine 29 = .ok (.aload_n 0, 1) := by decide +kernel
theorem dX6_wordLine_30 : decode cX6_wordLine 30 = .ok (.aload_n 2, 1) := by decide +kernel
theorem dX6_wordLine_31 : decode cX6_wordLine 31 = .ok (.iconst 4, 1) := by decide +kernel
theorem dX6_wordLine_32 : decode cX6_wordLine 32 = .ok (.aload_n 1, 1) := by decide +kernel
theorem dX6_wordLine_33 : decode cX6_wordLine 33 = .ok (.getfield 101, 3) := by decide +kernel
theorem dX6_wordLine_36 : decode cX6_wordLine 36 = .ok (.invokevirtual 120, 3) := by decide +kernel
theorem dX6_wordLine_39 : decode cX6_wordLine 39 = .ok (.aload_n 0, 1) := by decide +kernel
theorem dX6_wordLine_40 : decode cX6_wordLine 40 = .ok (.ldc 124, 2) := by decide +kernel
theorem dX6_wordLine_42 : decode cX6_wordLine 42 = .ok (.invokevirtual 54, 3) := by decide +kernel
theorem dX6_wordLine_45 : decode cX6_wordLine 45 = .ok (.ifCond .eq 16, 3) := by decide +kernel
theorem dX6_wordLine_48 : decode cX6_wordLine 48 = .ok (.aload_n 1, 1) := by decide +kernel
theorem dX6_wordLine_49 : decode cX6_wordLine 49 = .ok (.aload_n 2, 1) := by decide +kernel
theorem dX6_wordLine_50 : decode cX6_wordLine 50 = .ok (.invokevirtual 126, 3) := by decide +kernel
theorem dX6_wordLine_53 : decode cX6_wordLine 53 = .ok (.ifCond .eq 8, 3) := by decide +kernel
theorem dX6_wordLine_56 : decode cX6_wordLine 56 = .ok (.aload_n 0, 1) := by decide +kernel
theorem dX6_wordLine_57 : decode cX6_wordLine 57 = .ok (.iconst 2, 1) := by decide +kernel
theorem dX6_wordLine_58 : decode cX6_wordLine 58 = .ok (.invokevirtual 58, 3) := by decide +kernel
theorem dX6_wordLine_61 : decode cX6_wordLine 61 = .ok (.aload_n 1, 1) := by decide +kernel
theorem dX6_wordLine_62 : decode cX6_wordLine 62 = .ok (.getfield 130, 3) := by decide +kernel
theorem dX6_wordLine_65 : decode cX6_wordLine 65 = .ok (.aload_n 1, 1) := by decide +kernel
theorem dX6_wordLine_66 : decode cX6_wordLine 66 = .ok (.getfield 113, 3) := by decide +kernel
theorem dX6_wordLine_69 : decode cX6_wordLine 69 = .ok (.aload_n 0, 1) := by decide +kernel
theorem dX6_wordLine_70 : decode cX6_wordLine 70 = .ok (.ldc 124, 2) := by decide +kernel
theorem dX6_wordLine_72 : decode cX6_wordLine 72 = .ok (.iconst 0, 1) := by decide +kernel
theorem dX6_wordLine_73 : decode cX6_wordLine 73 = .ok (.bipush 99, 2) := by decide +kernel
theorem dX6_wordLine_75 : decode cX6_wordLine 75 = .ok (.invokevirtual 87, 3) := by decide +kernel
theorem dX6_wordLine_78 : decode cX6_wordLine 78 = .ok (.iastore, 1) := by decide +kernel
theorem dX6_wordLine_79 : decode cX6_wordLine 79 = .ok (.aload_n 1, 1) := by decide +kernel
theorem dX6_wordLine_80 : decode cX6_wordLine 80 = .ok (.dup, 1) := by decide +kernel
theorem dX6_wordLine_81 : decode cX6_wordLine 81 = .ok (.getfield 113, 3) := by decide +kernel
theorem dX6_wordLine_84 : decode cX6_wordLine 84 = .ok (.iconst 1, 1) := by decide +kernel
theorem dX6_wordLine_85 : decode cX6_wordLine 85 = .ok (.iadd, 1) := by decide +kernel
theorem dX6_wordLine_86 : decode cX6_wordLine 86 = .ok (.putfield 113, 3) := by decide +kernel
theorem dX6_wordLine_89 : decode cX6_wordLine 89 = .ok (.return_, 1) := by decide +kernel
theorem r_X6_wordLine_61 (E : kr_E)  (l1 : Nat) (h_l1 : kr_sh l1 = (2, 0))  (M : kr_M) : kR kr_vv E Y_X6_wordLine 8 61 [(0, kr_r E 1), (1, kr_r E l1)] [] M (f_X6_wordLine_61 l1 M) := by
  rw [f_X6_wordLine_61]
  refine kr_aload_n dX6_wordLine_61 rfl 1 rfl ?_
  refine kr_getA (o := 4) (ci := 2) (j := 13) dX6_wordLine_62 h_l1 fl_RX6_130 rfl ?_
  refine kr_aload_n dX6_wordLine_65 rfl 1 rfl ?_
  refine kr_getI (ci := 2) (j := 5) dX6_wordLine_66 h_l1 fl_RX6_113 rfl (fun v1 => ?_)
  refine kr_aload_n dX6_wordLine_69 rfl 0 rfl ?_
  refine kr_ldcS (i := 8) dX6_wordLine_70 rfl rfl ?_
  refine kr_iconst (v := 0) dX6_wordLine_72 (by decide) ?_
  refine kr_bipush (v := 99) dX6_wordLine_73 (by decide) ?_
  refine kr_Vi (As := [.ref (E.2.2.2.2.1 8), .int (0 : Int32), .int (99 : Int32)]) (st := [.int v1, kr_r E (l1 + 4)]) zv_X6_named dX6_wordLine_75 ml_RX6_87 kr_at_1 (r_X6_named E 8 (by decide) (0 : Int32) (99 : Int32) M) rfl rfl (Nat.le_of_ble_eq_true rfl) rfl (by decide) (Nat.le_of_ble_eq_true rfl) (fun r3 M2 => ?_)
  refine kr_iast dX6_wordLine_78 (kr_shG4 _ h_l1) (fun M4 => ?_)
  refine kr_aload_n dX6_wordLine_79 rfl 1 rfl ?_
  refine kr_dup dX6_wordLine_80 rfl ?_
  refine kr_getI (ci := 2) (j := 5) dX6_wordLine_81 h_l1 fl_RX6_113 rfl (fun v5 => ?_)
  refine kr_iconst (v := 1) dX6_wordLine_84 (by decide) ?_
  refine kr_iadd dX6_wordLine_85 ?_
  refine kr_putI (ci := 2) (j := 5) dX6_wordLine_86 h_l1 fl_RX6_113 rfl rfl (fun M6 => ?_)
  exact kr_vret dX6_wordLine_89 rfl
theorem r_X6_wordLine (E : kr_E) (p1 : Nat) (h_p1 : kr_sh p1 = (2, 0)) (M : kr_M) : kR kr_vv E Y_X6_wordLine 8 0 [(0, kr_r E 1), (1, kr_r E p1)] [] M (f_X6_wordLine p1 M) := by
  rw [f_X6_wordLine]
  refine kr_aload_n dX6_wordLine_0 rfl 1 rfl ?_
  refine kr_getI (ci := 2) (j := 5) dX6_wordLine_1 h_p1 fl_RX6_113 rfl (fun v1 => ?_)
  refine kr_bipush (v := 10) dX6_wordLine_4 (by decide) ?_
  refine kr_icmp_lt (tgt := 15) dX6_wordLine_6 (by decide) ?_ ?_
  · refine kr_aload_n dX6_wordLine_15 rfl 0 rfl ?_
    refine kr_Vv (As := []) (st := []) zv_X6_next dX6_wordLine_16 ml_RX6_33 kr_at_1 (r_X6_next E  M) rfl rfl (Nat.le_of_ble_eq_true rfl) rfl (by decide) (Nat.le_of_ble_eq_true rfl) (fun M2 => ?_)
    refine kr_aload_n dX6_wordLine_19 rfl 1 rfl ?_
    refine kr_getA (o := 3) (ci := 2) (j := 12) dX6_wordLine_20 h_p1 fl_RX6_116 rfl ?_
    refine kr_aload_n dX6_wordLine_23 rfl 1 rfl ?_
    refine kr_getI (ci := 2) (j := 5) dX6_wordLine_24 h_p1 fl_RX6_113 rfl (fun v4 => ?_)
    refine kr_aaldT dX6_wordLine_27 h_p1 (fun h5 => ?_)
    refine kr_astore_n (lv' := [(2, kr_r E (kr_tx p1 v4)), (0, kr_r E 1), (1, kr_r E p1)]) dX6_wordLine_28 rfl (by decide) rfl ?_
    refine kr_aload_n dX6_wordLine_29 rfl 1 rfl ?_
    refine kr_aload_n dX6_wordLine_30 rfl 0 rfl ?_
    refine kr_iconst (v := 4) dX6_wordLine_31 (by decide) ?_
    refine kr_aload_n dX6_wordLine_32 rfl 2 rfl ?_
    refine kr_getI (ci := 2) (j := 4) dX6_wordLine_33 h_p1 fl_RX6_101 rfl (fun v6 => ?_)
    refine kr_Vv (As := [kr_r E (kr_tx p1 v4), .int (4 : Int32), .int v6]) (st := []) zv_X6_knots dX6_wordLine_36 ml_RX6_120 kr_at_1 (r_X6_knots E (kr_tx p1 v4) h5 (4 : Int32) v6 M2) rfl rfl (Nat.le_of_ble_eq_true rfl) rfl (by decide) (Nat.le_of_ble_eq_true rfl) (fun M7 => ?_)
    refine kr_aload_n dX6_wordLine_39 rfl 1 rfl ?_
    refine kr_ldcS (i := 8) dX6_wordLine_40 rfl rfl ?_
    refine kr_Vi (As := [.ref (E.2.2.2.2.1 8)]) (st := []) zv_X6_isWord dX6_wordLine_42 ml_RX6_54 kr_at_1 (r_X6_isWord E 8 (by decide) M7) rfl rfl (Nat.le_of_ble_eq_true rfl) rfl (by decide) (Nat.le_of_ble_eq_true rfl) (fun r10 M9 => ?_)
    refine kr_if_eq (tgt := 61) dX6_wordLine_45 (by decide) ?_ ?_
    · refine kr_sub [1, 2] rfl ?_
      exact r_X6_wordLine_61 E p1 h_p1 M9
    · refine kr_aload_n dX6_wordLine_48 rfl 2 rfl ?_
      refine kr_aload_n dX6_wordLine_49 rfl 0 rfl ?_
      refine kr_Vi (As := [kr_r E (kr_tx p1 v4)]) (st := []) zv_X2_isSpelledAhead dX6_wordLine_50 ml_RX6_126 h_p1 (r_X2_isSpelledAhead E p1 h_p1 (kr_tx p1 v4) h5 M9) rfl rfl (Nat.le_of_ble_eq_true rfl) rfl (by decide) (Nat.le_of_ble_eq_true rfl) (fun r12 M11 => ?_)
      refine kr_if_eq (tgt := 61) dX6_wordLine_53 (by decide) ?_ ?_
      · refine kr_sub [1, 2] rfl ?_
        exact r_X6_wordLine_61 E p1 h_p1 M11
      · refine kr_aload_n dX6_wordLine_56 rfl 1 rfl ?_
        refine kr_iconst (v := 2) dX6_wordLine_57 (by decide) ?_
        refine kr_Vv (As := [.int (2 : Int32)]) (st := []) zv_X6_blame dX6_wordLine_58 ml_RX6_58 kr_at_1 (r_X6_blame E (2 : Int32) M11) rfl rfl (Nat.le_of_ble_eq_true rfl) rfl (by decide) (Nat.le_of_ble_eq_true rfl) (fun M13 => ?_)
        refine kr_sub [1, 2] rfl ?_
        exact r_X6_wordLine_61 E p1 h_p1 M13
  · refine kr_aload_n dX6_wordLine_9 rfl 0 rfl ?_
    refine kr_iconst (v := 3) dX6_wordLine_10 (by decide) ?_
    refine kr_Vv (As := [.int (3 : Int32)]) (st := []) zv_X6_blame dX6_wordLine_11 ml_RX6_58 kr_at_1 (r_X6_blame E (3 : Int32) M) rfl rfl (Nat.le_of_ble_eq_true rfl) rfl (by decide) (Nat.le_of_ble_eq_true rfl) (fun M15 => ?_)
    exact kr_vret dX6_wordLine_14 rfl
theorem dX6_line_0 : decode cX6_line 0 = .ok (.aload_n 0, 1) := by decide +kernel
theorem dX6_line_1 : decode cX6_line 1 = .ok (.ldc 52, 2) := by decide +kernel
theorem dX6_line_3 : decode cX6_line 3 = .ok (.invokevirtual 54, 3) := by decide +kernel
theorem dX6_line_6 : decode cX6_line 6 = .ok (.aload_n 1, 1) := by decide +kernel
theorem dX6_line_7 : decode cX6_line 7 = .ok (.getfield 46, 3) := by decide +kernel
theorem dX6_line_10 : decode cX6_line 10 = .ok (.ifCond .ne 7, 3) := by decide +kernel
theorem dX6_line_13 : decode cX6_line 13 = .ok (.iconst 1, 1) := by decide +kernel
theorem dX6_line_14 : decode cX6_line 14 = .ok (.goto 4, 3) := by decide +kernel
theorem dX6_line_17 : decode cX6_line 17 = .ok (.iconst 0, 1) := by decide +kernel
theorem dX6_line_18 : decode cX6_line 18 = .ok (.if_icmp .eq 11, 3) := by decide +kernel
theorem dX6_line_21 : decode cX6_line 21 = .ok (.aload_n 0, 1) := by decide +kernel
theorem dX6_line_22 : decode cX6_line 22 = .ok (.iconst 1, 1) := by decide +kernel
theorem dX6_line_23 : decode cX6_line 23 = .ok (.invokevirtual 58, 3) := by decide +kernel
theorem dX6_line_26 : decode cX6_line 26 = .ok (.goto 93, 3) := by decide +kernel
theorem dX6_line_29 : decode cX6_line 29 = .ok (.aload_n 0, 1) := by decide +kernel
theorem dX6_line_30 : decode cX6_line 30 = .ok (.ldc 52, 2) := by decide +kernel
theorem dX6_line_32 : decode cX6_line 32 = .ok (.invokevirtual 54, 3) := by decide +kernel
theorem dX6_line_35 : decode cX6_line 35 = .ok (.ifCond .eq 11, 3) := by decide +kernel
theorem dX6_line_38 : decode cX6_line 38 = .ok (.aload_n 0, 1) := by decide +kernel
theorem dX6_line_39 : decode cX6_line 39 = .ok (.aload_n 1, 1) := by decide +kernel
theorem dX6_line_40 : decode cX6_line 40 = .ok (.invokevirtual 62, 3) := by decide +kernel
theorem dX6_line_43 : decode cX6_line 43 = .ok (.goto 76, 3) := by decide +kernel
theorem dX6_line_46 : decode cX6_line 46 = .ok (.aload_n 0, 1) := by decide +kernel
theorem dX6_line_47 : decode cX6_line 47 = .ok (.ldc 65, 2) := by decide +kernel
theorem dX6_line_49 : decode cX6_line 49 = .ok (.invokevirtual 54, 3) := by decide +kernel
theorem dX6_line_52 : decode cX6_line 52 = .ok (.ifCond .eq 11, 3) := by decide +kernel
theorem dX6_line_55 : decode cX6_line 55 = .ok (.aload_n 0, 1) := by decide +kernel
theorem dX6_line_56 : decode cX6_line 56 = .ok (.aload_n 1, 1) := by decide +kernel
theorem dX6_line_57 : decode cX6_line 57 = .ok (.invokevirtual 67, 3) := by decide +kernel
theorem dX6_line_60 : decode cX6_line 60 = .ok (.goto 59, 3) := by decide +kernel
theorem dX6_line_63 : decode cX6_line 63 = .ok (.aload_n 0, 1) := by decide +kernel
theorem dX6_line_64 : decode cX6_line 64 = .ok (.ldc 70, 2) := by decide +kernel
theorem dX6_line_66 : decode cX6_line 66 = .ok (.invokevirtual 54, 3) := by decide +kernel
theorem dX6_line_69 : decode cX6_line 69 = .ok (.ifCond .eq 11, 3) := by decide +kernel
theorem dX6_line_72 : decode cX6_line 72 = .ok (.aload_n 0, 1) := by decide +kernel
theorem dX6_line_73 : decode cX6_line 73 = .ok (.aload_n 1, 1) := by decide +kernel
theorem dX6_line_74 : decode cX6_line 74 = .ok (.invokevirtual 72, 3) := by decide +kernel
theorem dX6_line_77 : decode cX6_line 77 = .ok (.goto 42, 3) := by decide +kernel
theorem dX6_line_80 : decode cX6_line 80 = .ok (.aload_n 0, 1) := by decide +kernel
theorem dX6_line_81 : decode cX6_line 81 = .ok (.ldc 75, 2) := by decide +kernel
theorem dX6_line_83 : decode cX6_line 83 = .ok (.invokevirtual 54, 3) := by decide +kernel
theorem dX6_line_86 : decode cX6_line 86 = .ok (.ifCond .eq 11, 3) := by decide +kernel
theorem dX6_line_89 : decode cX6_line 89 = .ok (.aload_n 0, 1) := by decide +kernel
theorem dX6_line_90 : decode cX6_line 90 = .ok (.aload_n 1, 1) := by decide +kernel
theorem dX6_line_91 : decode cX6_line 91 = .ok (.invokevirtual 77, 3) := by decide +kernel
theorem dX6_line_94 : decode cX6_line 94 = .ok (.goto 25, 3) := by decide +kernel
theorem dX6_line_97 : decode cX6_line 97 = .ok (.aload_n 0, 1) := by decide +kernel
theorem dX6_line_98 : decode cX6_line 98 = .ok (.ldc 80, 2) := by decide +kernel
theorem dX6_line_100 : decode cX6_line 100 = .ok (.invokevirtual 54, 3) := by decide +kernel
theorem dX6_line_103 : decode cX6_line 103 = .ok (.ifCond .eq 11, 3) := by decide +kernel
theorem dX6_line_106 : decode cX6_line 106 = .ok (.aload_n 0, 1) := by decide +kernel
theorem dX6_line_107 : decode cX6_line 107 = .ok (.aload_n 1, 1) := by decide +kernel
theorem dX6_line_108 : decode cX6_line 108 = .ok (.invokevirtual 82, 3) := by decide +kernel
theorem dX6_line_111 : decode cX6_line 111 = .ok (.goto 8, 3) := by decide +kernel
theorem dX6_line_114 : decode cX6_line 114 = .ok (.aload_n 0, 1) := by decide +kernel
theorem dX6_line_115 : decode cX6_line 115 = .ok (.iconst 1, 1) := by decide +kernel
theorem dX6_line_116 : decode cX6_line 116 = .ok (.invokevirtual 58, 3) := by decide +kernel
theorem dX6_line_119 : decode cX6_line 119 = .ok (.return_, 1) := by decide +kernel
theorem r_X6_line_18 (E : kr_E)  (l1 : Nat) (h_l1 : kr_sh l1 = (2, 0)) (s0 : Int32) (s1 : Int32)  (M : kr_M) : kR kr_vv E Y_X6_line 9 18 [(0, kr_r E 1), (1, kr_r E l1)] [.int s0, .int s1] M (f_X6_line_18 l1 s0 s1 M) := by
  rw [f_X6_line_18]
  refine kr_icmp_eq (tgt := 29) dX6_line_18 (by decide) ?_ ?_
  · refine kr_aload_n dX6_line_29 rfl 0 rfl ?_
    refine kr_ldcS (i := 0) dX6_line_30 rfl rfl ?_
    refine kr_Vi (As := [.ref (E.2.2.2.2.1 0)]) (st := []) zv_X6_isWord dX6_line_32 ml_RX6_54 kr_at_1 (r_X6_isWord E 0 (by decide) M) rfl rfl (Nat.le_of_ble_eq_true rfl) rfl (by decide) (Nat.le_of_ble_eq_true rfl) (fun r2 M1 => ?_)
    refine kr_if_eq (tgt := 46) dX6_line_35 (by decide) ?_ ?_
    · refine kr_aload_n dX6_line_46 rfl 0 rfl ?_
      refine kr_ldcS (i := 4) dX6_line_47 rfl rfl ?_
      refine kr_Vi (As := [.ref (E.2.2.2.2.1 4)]) (st := []) zv_X6_isWord dX6_line_49 ml_RX6_54 kr_at_1 (r_X6_isWord E 4 (by decide) M1) rfl rfl (Nat.le_of_ble_eq_true rfl) rfl (by decide) (Nat.le_of_ble_eq_true rfl) (fun r4 M3 => ?_)
      refine kr_if_eq (tgt := 63) dX6_line_52 (by decide) ?_ ?_
      · refine kr_aload_n dX6_line_63 rfl 0 rfl ?_
        refine kr_ldcS (i := 7) dX6_line_64 rfl rfl ?_
        refine kr_Vi (As := [.ref (E.2.2.2.2.1 7)]) (st := []) zv_X6_isWord dX6_line_66 ml_RX6_54 kr_at_1 (r_X6_isWord E 7 (by decide) M3) rfl rfl (Nat.le_of_ble_eq_true rfl) rfl (by decide) (Nat.le_of_ble_eq_true rfl) (fun r6 M5 => ?_)
        refine kr_if_eq (tgt := 80) dX6_line_69 (by decide) ?_ ?_
        · refine kr_aload_n dX6_line_80 rfl 0 rfl ?_
          refine kr_ldcS (i := 9) dX6_line_81 rfl rfl ?_
          refine kr_Vi (As := [.ref (E.2.2.2.2.1 9)]) (st := []) zv_X6_isWord dX6_line_83 ml_RX6_54 kr_at_1 (r_X6_isWord E 9 (by decide) M5) rfl rfl (Nat.le_of_ble_eq_true rfl) rfl (by decide) (Nat.le_of_ble_eq_true rfl) (fun r8 M7 => ?_)
          refine kr_if_eq (tgt := 97) dX6_line_86 (by decide) ?_ ?_
          · refine kr_aload_n dX6_line_97 rfl 0 rfl ?_
            refine kr_ldcS (i := 13) dX6_line_98 rfl rfl ?_
            refine kr_Vi (As := [.ref (E.2.2.2.2.1 13)]) (st := []) zv_X6_isWord dX6_line_100 ml_RX6_54 kr_at_1 (r_X6_isWord E 13 (by decide) M7) rfl rfl (Nat.le_of_ble_eq_true rfl) rfl (by decide) (Nat.le_of_ble_eq_true rfl) (fun r10 M9 => ?_)
            refine kr_if_eq (tgt := 114) dX6_line_103 (by decide) ?_ ?_
            · refine kr_aload_n dX6_line_114 rfl 0 rfl ?_
              refine kr_iconst (v := 1) dX6_line_115 (by decide) ?_
              refine kr_Vv (As := [.int (1 : Int32)]) (st := []) zv_X6_blame dX6_line_116 ml_RX6_58 kr_at_1 (r_X6_blame E (1 : Int32) M9) rfl rfl (Nat.le_of_ble_eq_true rfl) rfl (by decide) (Nat.le_of_ble_eq_true rfl) (fun M11 => ?_)
              exact kr_vret dX6_line_119 rfl
            · refine kr_aload_n dX6_line_106 rfl 0 rfl ?_
              refine kr_aload_n dX6_line_107 rfl 1 rfl ?_
              refine kr_Vv (As := [kr_r E l1]) (st := []) zv_X6_personLine dX6_line_108 ml_RX6_82 kr_at_1 (r_X6_personLine E l1 h_l1 M9) rfl rfl (Nat.le_of_ble_eq_true rfl) rfl (by decide) (Nat.le_of_ble_eq_true rfl) (fun M13 => ?_)
              refine kr_goto (tgt := 119) dX6_line_111 (by decide) ?_
              exact kr_vret dX6_line_119 rfl
          · refine kr_aload_n dX6_line_89 rfl 0 rfl ?_
            refine kr_aload_n dX6_line_90 rfl 1 rfl ?_
            refine kr_Vv (As := [kr_r E l1]) (st := []) zv_X6_ropeLine dX6_line_91 ml_RX6_77 kr_at_1 (r_X6_ropeLine E l1 h_l1 M7) rfl rfl (Nat.le_of_ble_eq_true rfl) rfl (by decide) (Nat.le_of_ble_eq_true rfl) (fun M15 => ?_)
            refine kr_goto (tgt := 119) dX6_line_94 (by decide) ?_
            exact kr_vret dX6_line_119 rfl
        · refine kr_aload_n dX6_line_72 rfl 0 rfl ?_
          refine kr_aload_n dX6_line_73 rfl 1 rfl ?_
          refine kr_Vv (As := [kr_r E l1]) (st := []) zv_X6_wordLine dX6_line_74 ml_RX6_72 kr_at_1 (r_X6_wordLine E l1 h_l1 M5) rfl rfl (Nat.le_of_ble_eq_true rfl) rfl (by decide) (Nat.le_of_ble_eq_true rfl) (fun M17 => ?_)
          refine kr_goto (tgt := 119) dX6_line_77 (by decide) ?_
          exact kr_vret dX6_line_119 rfl
      · refine kr_aload_n dX6_line_55 rfl 0 rfl ?_
        refine kr_aload_n dX6_line_56 rfl 1 rfl ?_
        refine kr_Vv (As := [kr_r E l1]) (st := []) zv_X6_knotLine dX6_line_57 ml_RX6_67 kr_at_1 (r_X6_knotLine E l1 h_l1 M3) rfl rfl (Nat.le_of_ble_eq_true rfl) rfl (by decide) (Nat.le_of_ble_eq_true rfl) (fun M19 => ?_)
        refine kr_goto (tgt := 119) dX6_line_60 (by decide) ?_
        exact kr_vret dX6_line_119 rfl
    · refine kr_aload_n dX6_line_38 rfl 0 rfl ?_
      refine kr_aload_n dX6_line_39 rfl 1 rfl ?_
      refine kr_Vv (As := [kr_r E l1]) (st := []) zv_X6_gorgeLine dX6_line_40 ml_RX6_62 kr_at_1 (r_X6_gorgeLine E l1 h_l1 M1) rfl rfl (Nat.le_of_ble_eq_true rfl) rfl (by decide) (Nat.le_of_ble_eq_true rfl) (fun M21 => ?_)
      refine kr_goto (tgt := 119) dX6_line_43 (by decide) ?_
      exact kr_vret dX6_line_119 rfl
  · refine kr_aload_n dX6_line_21 rfl 0 rfl ?_
    refine kr_iconst (v := 1) dX6_line_22 (by decide) ?_
    refine kr_Vv (As := [.int (1 : Int32)]) (st := []) zv_X6_blame dX6_line_23 ml_RX6_58 kr_at_1 (r_X6_blame E (1 : Int32) M) rfl rfl (Nat.le_of_ble_eq_true rfl) rfl (by decide) (Nat.le_of_ble_eq_true rfl) (fun M23 => ?_)
    refine kr_goto (tgt := 119) dX6_line_26 (by decide) ?_
    exact kr_vret dX6_line_119 rfl
theorem r_X6_line (E : kr_E) (p1 : Nat) (h_p1 : kr_sh p1 = (2, 0)) (M : kr_M) : kR kr_vv E Y_X6_line 9 0 [(0, kr_r E 1), (1, kr_r E p1)] [] M (f_X6_line p1 M) := by
  rw [f_X6_line]
  refine kr_aload_n dX6_line_0 rfl 0 rfl ?_
  refine kr_ldcS (i := 0) dX6_line_1 rfl rfl ?_
  refine kr_Vi (As := [.ref (E.2.2.2.2.1 0)]) (st := []) zv_X6_isWord dX6_line_3 ml_RX6_54 kr_at_1 (r_X6_isWord E 0 (by decide) M) rfl rfl (Nat.le_of_ble_eq_true rfl) rfl (by decide) (Nat.le_of_ble_eq_true rfl) (fun r2 M1 => ?_)
  refine kr_aload_n dX6_line_6 rfl 1 rfl ?_
  refine kr_getI (ci := 2) (j := 0) dX6_line_7 h_p1 fl_RX6_46 rfl (fun v3 => ?_)
  refine kr_if_ne (tgt := 17) dX6_line_10 (by decide) ?_ ?_
  · refine kr_iconst (v := 0) dX6_line_17 (by decide) ?_
    refine kr_sub [0, 1] rfl ?_
    exact r_X6_line_18 E p1 h_p1 (0 : Int32) r2 M1
  · refine kr_iconst (v := 1) dX6_line_13 (by decide) ?_
    refine kr_goto (tgt := 18) dX6_line_14 (by decide) ?_
    refine kr_sub [0, 1] rfl ?_
    exact r_X6_line_18 E p1 h_p1 (1 : Int32) r2 M1
theorem dX6_sign_0 : decode cX6_sign 0 = .ok (.aload_n 0, 1) := by decide +kernel
theorem dX6_sign_1 : decode cX6_sign 1 = .ok (.getfield 36, 3) := by decide +kernel
theorem dX6_sign_4 : decode cX6_sign 4 = .ok (.iconst 3, 1) := by decide +kernel
theorem dX6_sign_5 : decode cX6_sign 5 = .ok (.if_icmp .eq 8, 3) := by decide +kernel
theorem dX6_sign_8 : decode cX6_sign 8 = .ok (.aload_n 0, 1) := by decide +kernel
theorem dX6_sign_9 : decode cX6_sign 9 = .ok (.iconst 1, 1) := by decide +kernel
theorem dX6_sign_10 : decode cX6_sign 10 = .ok (.invokevirtual 58, 3) := by decide +kernel
theorem dX6_sign_13 : decode cX6_sign 13 = .ok (.aload_n 0, 1) := by decide +kernel
theorem dX6_sign_14 : decode cX6_sign 14 = .ok (.invokevirtual 33, 3) := by decide +kernel
theorem dX6_sign_17 : decode cX6_sign 17 = .ok (.return_, 1) := by decide +kernel
theorem r_X6_sign_13 (E : kr_E)    (M : kr_M) : kR kr_vv E Y_X6_sign 3 13 [(0, kr_r E 1)] [] M (f_X6_sign_13 M) := by
  rw [f_X6_sign_13]
  refine kr_aload_n dX6_sign_13 rfl 0 rfl ?_
  refine kr_Vv (As := []) (st := []) zv_X6_next dX6_sign_14 ml_RX6_33 kr_at_1 (r_X6_next E  M) rfl rfl (Nat.le_of_ble_eq_true rfl) rfl (by decide) (Nat.le_of_ble_eq_true rfl) (fun M1 => ?_)
  exact kr_vret dX6_sign_17 rfl
theorem r_X6_sign (E : kr_E)  (M : kr_M) : kR kr_vv E Y_X6_sign 3 0 [(0, kr_r E 1)] [] M (f_X6_sign M) := by
  rw [f_X6_sign]
  refine kr_aload_n dX6_sign_0 rfl 0 rfl ?_
  refine kr_getI (ci := 6) (j := 4) dX6_sign_1 kr_at_1 fl_RX6_36 rfl (fun v1 => ?_)
  refine kr_iconst (v := 3) dX6_sign_4 (by decide) ?_
  refine kr_icmp_eq (tgt := 13) dX6_sign_5 (by decide) ?_ ?_
  · refine kr_sub [0] rfl ?_
    exact r_X6_sign_13 E M
  · refine kr_aload_n dX6_sign_8 rfl 0 rfl ?_
    refine kr_iconst (v := 1) dX6_sign_9 (by decide) ?_
    refine kr_Vv (As := [.int (1 : Int32)]) (st := []) zv_X6_blame dX6_sign_10 ml_RX6_58 kr_at_1 (r_X6_blame E (1 : Int32) M) rfl rfl (Nat.le_of_ble_eq_true rfl) rfl (by decide) (Nat.le_of_ble_eq_true rfl) (fun M2 => ?_)
    refine kr_sub [0] rfl ?_
    exact r_X6_sign_13 E M2
theorem dX6_parse_0 : decode cX6_parse 0 = .ok (.aload_n 1, 1) := by decide +kernel
theorem dX6_parse_1 : decode cX6_parse 1 = .ok (.invokevirtual 22, 3) := by decide +kernel
theorem dX6_parse_4 : decode cX6_parse 4 = .ok (.aload_n 0, 1) := by decide +kernel
theorem dX6_parse_5 : decode cX6_parse 5 = .ok (.iconst 0, 1) := by decide +kernel
theorem dX6_parse_6 : decode cX6_parse 6 = .ok (.putfield 27, 3) := by decide +kernel
theorem dX6_parse_9 : decode cX6_parse 9 = .ok (.aload_n 0, 1) := by decide +kernel
theorem dX6_parse_10 : decode cX6_parse 10 = .ok (.iconst (-1), 1) := by decide +kernel
theorem dX6_parse_11 : decode cX6_parse 11 = .ok (.putfield 15, 3) := by decide +kernel
theorem dX6_parse_14 : decode cX6_parse 14 = .ok (.aload_n 0, 1) := by decide +kernel
theorem dX6_parse_15 : decode cX6_parse 15 = .ok (.iconst 0, 1) := by decide +kernel
theorem dX6_parse_16 : decode cX6_parse 16 = .ok (.putfield 30, 3) := by decide +kernel
theorem dX6_parse_19 : decode cX6_parse 19 = .ok (.aload_n 0, 1) := by decide +kernel
theorem dX6_parse_20 : decode cX6_parse 20 = .ok (.invokevirtual 33, 3) := by decide +kernel
theorem dX6_parse_23 : decode cX6_parse 23 = .ok (.iconst 0, 1) := by decide +kernel
theorem dX6_parse_24 : decode cX6_parse 24 = .ok (.istore_n 2, 1) := by decide +kernel
theorem dX6_parse_25 : decode cX6_parse 25 = .ok (.iload_n 2, 1) := by decide +kernel
theorem dX6_parse_26 : decode cX6_parse 26 = .ok (.bipush 30, 2) := by decide +kernel
theorem dX6_parse_28 : decode cX6_parse 28 = .ok (.if_icmp .ge 42, 3) := by decide +kernel
theorem dX6_parse_31 : decode cX6_parse 31 = .ok (.aload_n 0, 1) := by decide +kernel
theorem dX6_parse_32 : decode cX6_parse 32 = .ok (.getfield 27, 3) := by decide +kernel
theorem dX6_parse_35 : decode cX6_parse 35 = .ok (.ifCond .ne 35, 3) := by decide +kernel
theorem dX6_parse_38 : decode cX6_parse 38 = .ok (.aload_n 0, 1) := by decide +kernel
theorem dX6_parse_39 : decode cX6_parse 39 = .ok (.getfield 36, 3) := by decide +kernel
theorem dX6_parse_42 : decode cX6_parse 42 = .ok (.ifCond .eq 28, 3) := by decide +kernel
theorem dX6_parse_45 : decode cX6_parse 45 = .ok (.aload_n 0, 1) := by decide +kernel
theorem dX6_parse_46 : decode cX6_parse 46 = .ok (.aload_n 1, 1) := by decide +kernel
theorem dX6_parse_47 : decode cX6_parse 47 = .ok (.invokevirtual 39, 3) := by decide +kernel
theorem dX6_parse_50 : decode cX6_parse 50 = .ok (.aload_n 0, 1) := by decide +kernel
theorem dX6_parse_51 : decode cX6_parse 51 = .ok (.invokevirtual 43, 3) := by decide +kernel
theorem dX6_parse_54 : decode cX6_parse 54 = .ok (.aload_n 1, 1) := by decide +kernel
theorem dX6_parse_55 : decode cX6_parse 55 = .ok (.dup, 1) := by decide +kernel
theorem dX6_parse_56 : decode cX6_parse 56 = .ok (.getfield 46, 3) := by decide +kernel
theorem dX6_parse_59 : decode cX6_parse 59 = .ok (.iconst 1, 1) := by decide +kernel
theorem dX6_parse_60 : decode cX6_parse 60 = .ok (.iadd, 1) := by decide +kernel
theorem dX6_parse_61 : decode cX6_parse 61 = .ok (.putfield 46, 3) := by decide +kernel
theorem dX6_parse_64 : decode cX6_parse 64 = .ok (.iinc 2 1, 3) := by decide +kernel
theorem dX6_parse_67 : decode cX6_parse 67 = .ok (.goto (-42), 3) := by decide +kernel
theorem dX6_parse_70 : decode cX6_parse 70 = .ok (.aload_n 1, 1) := by decide +kernel
theorem dX6_parse_71 : decode cX6_parse 71 = .ok (.invokevirtual 49, 3) := by decide +kernel
theorem dX6_parse_74 : decode cX6_parse 74 = .ok (.return_, 1) := by decide +kernel
theorem r_X6_parse_70 (E : kr_E)  (l1 : Nat) (h_l1 : kr_sh l1 = (2, 0))  (M : kr_M) : kR kr_vv E Y_X6_parse 10 70 [(1, kr_r E l1)] [] M (f_X6_parse_70 l1 M) := by
  rw [f_X6_parse_70]
  refine kr_aload_n dX6_parse_70 rfl 0 rfl ?_
  refine kr_Vv (As := []) (st := []) zv_X2_beAsTold dX6_parse_71 ml_RX6_49 h_l1 (r_X2_beAsTold E l1 h_l1 M) rfl rfl (Nat.le_of_ble_eq_true rfl) rfl (by decide) (Nat.le_of_ble_eq_true rfl) (fun M1 => ?_)
  exact kr_vret dX6_parse_74 rfl
theorem r_X6_parse_25 (E : kr_E)  (l1 : Nat) (h_l1 : kr_sh l1 = (2, 0))  : ∀ (n : Nat) (l2 : Int32) (M : kr_M), kR kr_vv E Y_X6_parse 10 25 [(0, kr_r E 1), (1, kr_r E l1), (2, .int l2)] [] M (f_X6_parse_25 l1 n l2 M) := by
  intro n
  induction n with
  | zero => intro l2 M; exact kr_none
  | succ n ih =>
    intro l2 M
    rw [f_X6_parse_25]
    refine kr_iload_n dX6_parse_25 rfl 2 rfl ?_
    refine kr_bipush (v := 30) dX6_parse_26 (by decide) ?_
    refine kr_icmp_ge (tgt := 70) dX6_parse_28 (by decide) ?_ ?_
    · refine kr_sub [1] rfl ?_
      exact r_X6_parse_70 E l1 h_l1 M
    · refine kr_aload_n dX6_parse_31 rfl 0 rfl ?_
      refine kr_getI (ci := 6) (j := 2) dX6_parse_32 kr_at_1 fl_RX6_27 rfl (fun v1 => ?_)
      refine kr_if_ne (tgt := 70) dX6_parse_35 (by decide) ?_ ?_
      · refine kr_sub [1] rfl ?_
        exact r_X6_parse_70 E l1 h_l1 M
      · refine kr_aload_n dX6_parse_38 rfl 0 rfl ?_
        refine kr_getI (ci := 6) (j := 4) dX6_parse_39 kr_at_1 fl_RX6_36 rfl (fun v2 => ?_)
        refine kr_if_eq (tgt := 70) dX6_parse_42 (by decide) ?_ ?_
        · refine kr_sub [1] rfl ?_
          exact r_X6_parse_70 E l1 h_l1 M
        · refine kr_aload_n dX6_parse_45 rfl 0 rfl ?_
          refine kr_aload_n dX6_parse_46 rfl 1 rfl ?_
          refine kr_Vv (As := [kr_r E l1]) (st := []) zv_X6_line dX6_parse_47 ml_RX6_39 kr_at_1 (r_X6_line E l1 h_l1 M) rfl rfl (Nat.le_of_ble_eq_true rfl) rfl (by decide) (Nat.le_of_ble_eq_true rfl) (fun M3 => ?_)
          refine kr_aload_n dX6_parse_50 rfl 0 rfl ?_
          refine kr_Vv (As := []) (st := []) zv_X6_sign dX6_parse_51 ml_RX6_43 kr_at_1 (r_X6_sign E  M3) rfl rfl (Nat.le_of_ble_eq_true rfl) rfl (by decide) (Nat.le_of_ble_eq_true rfl) (fun M5 => ?_)
          refine kr_aload_n dX6_parse_54 rfl 1 rfl ?_
          refine kr_dup dX6_parse_55 rfl ?_
          refine kr_getI (ci := 2) (j := 0) dX6_parse_56 h_l1 fl_RX6_46 rfl (fun v7 => ?_)
          refine kr_iconst (v := 1) dX6_parse_59 (by decide) ?_
          refine kr_iadd dX6_parse_60 ?_
          refine kr_putI (ci := 2) (j := 0) dX6_parse_61 h_l1 fl_RX6_46 rfl rfl (fun M8 => ?_)
          refine kr_iinc (j := 2) (v := (l2 + (1 : Int32))) (lv' := [(2, .int (l2 + (1 : Int32))), (0, kr_r E 1), (1, kr_r E l1)]) dX6_parse_64 rfl rfl (by decide) rfl ?_
          refine kr_goto (tgt := 25) dX6_parse_67 (by decide) ?_
          refine kr_sub [1, 2, 0] rfl ?_
          exact ih (l2 + (1 : Int32)) M8
theorem r_X6_parse (E : kr_E) (p1 : Nat) (h_p1 : kr_sh p1 = (2, 0)) (M : kr_M) : kR kr_vv E Y_X6_parse 10 0 [(0, kr_r E 1), (1, kr_r E p1)] [] M (f_X6_parse p1 M) := by
  rw [f_X6_parse]
  refine kr_aload_n dX6_parse_0 rfl 1 rfl ?_
  refine kr_Vv (As := []) (st := []) zv_X2_forget dX6_parse_1 ml_RX6_22 h_p1 (r_X2_forget E p1 h_p1 M) rfl rfl (Nat.le_of_ble_eq_true rfl) rfl (by decide) (Nat.le_of_ble_eq_true rfl) (fun M1 => ?_)
  refine kr_aload_n dX6_parse_4 rfl 0 rfl ?_
  refine kr_iconst (v := 0) dX6_parse_5 (by decide) ?_
  refine kr_putI (ci := 6) (j := 2) dX6_parse_6 kr_at_1 fl_RX6_27 rfl rfl (fun M3 => ?_)
  refine kr_aload_n dX6_parse_9 rfl 0 rfl ?_
  refine kr_iconst (v := -1) dX6_parse_10 (by decide) ?_
  refine kr_putI (ci := 6) (j := 3) dX6_parse_11 kr_at_1 fl_RX6_15 rfl rfl (fun M4 => ?_)
  refine kr_aload_n dX6_parse_14 rfl 0 rfl ?_
  refine kr_iconst (v := 0) dX6_parse_15 (by decide) ?_
  refine kr_putI (ci := 6) (j := 6) dX6_parse_16 kr_at_1 fl_RX6_30 rfl rfl (fun M5 => ?_)
  refine kr_aload_n dX6_parse_19 rfl 0 rfl ?_
  refine kr_Vv (As := []) (st := []) zv_X6_next dX6_parse_20 ml_RX6_33 kr_at_1 (r_X6_next E  M5) rfl rfl (Nat.le_of_ble_eq_true rfl) rfl (by decide) (Nat.le_of_ble_eq_true rfl) (fun M6 => ?_)
  refine kr_iconst (v := 0) dX6_parse_23 (by decide) ?_
  refine kr_istore_n (lv' := [(2, .int (0 : Int32)), (0, kr_r E 1), (1, kr_r E p1)]) dX6_parse_24 rfl (by decide) rfl ?_
  refine kr_sub [1, 2, 0] rfl ?_
  exact r_X6_parse_25 E p1 h_p1 _ (0 : Int32) M6
theorem dX7_kindAt_0 : decode cX7_kindAt 0 = .ok (.iload_n 1, 1) := by decide +kernel
theorem dX7_kindAt_1 : decode cX7_kindAt 1 = .ok (.ifCond .lt 20, 3) := by decide +kernel
theorem dX7_kindAt_4 : decode cX7_kindAt 4 = .ok (.iload_n 1, 1) := by decide +kernel
theorem dX7_kindAt_5 : decode cX7_kindAt 5 = .ok (.aload_n 0, 1) := by decide +kernel
theorem dX7_kindAt_6 : decode cX7_kindAt 6 = .ok (.getfield 21, 3) := by decide +kernel
theorem dX7_kindAt_9 : decode cX7_kindAt 9 = .ok (.if_icmp .ge 12, 3) := by decide +kernel
theorem dX7_kindAt_12 : decode cX7_kindAt 12 = .ok (.aload_n 0, 1) := by decide +kernel
theorem dX7_kindAt_13 : decode cX7_kindAt 13 = .ok (.getfield 15, 3) := by decide +kernel
theorem dX7_kindAt_16 : decode cX7_kindAt 16 = .ok (.iload_n 1, 1) := by decide +kernel
theorem dX7_kindAt_17 : decode cX7_kindAt 17 = .ok (.iaload, 1) := by decide +kernel
theorem dX7_kindAt_18 : decode cX7_kindAt 18 = .ok (.goto 4, 3) := by decide +kernel
theorem dX7_kindAt_21 : decode cX7_kindAt 21 = .ok (.iconst (-1), 1) := by decide +kernel
theorem dX7_kindAt_22 : decode cX7_kindAt 22 = .ok (.ireturn, 1) := by decide +kernel
theorem r_X7_kindAt (E : kr_E) (g0 : Nat) (h_g0 : kr_sh g0 = (7, 0)) (p1 : Int32) (M : kr_M) : kR kr_vi E Y_X7_kindAt 1 0 [(0, kr_r E g0), (1, .int p1)] [] M (f_X7_kindAt g0 p1 M) := by
  rw [f_X7_kindAt]
  refine kr_iload_n dX7_kindAt_0 rfl 1 rfl ?_
  refine kr_if_lt (tgt := 21) dX7_kindAt_1 (by decide) ?_ ?_
  · refine kr_iconst (v := -1) dX7_kindAt_21 (by decide) ?_
    exact kr_iret dX7_kindAt_22 rfl
  · refine kr_iload_n dX7_kindAt_4 rfl 1 rfl ?_
    refine kr_aload_n dX7_kindAt_5 rfl 0 rfl ?_
    refine kr_getI (ci := 7) (j := 1) dX7_kindAt_6 h_g0 fl_RX7_21 rfl (fun v1 => ?_)
    refine kr_icmp_ge (tgt := 21) dX7_kindAt_9 (by decide) ?_ ?_
    · refine kr_iconst (v := -1) dX7_kindAt_21 (by decide) ?_
      exact kr_iret dX7_kindAt_22 rfl
    · refine kr_aload_n dX7_kindAt_12 rfl 0 rfl ?_
      refine kr_getA (o := 1) (ci := 7) (j := 0) dX7_kindAt_13 h_g0 fl_RX7_15 rfl ?_
      refine kr_iload_n dX7_kindAt_16 rfl 1 rfl ?_
      refine kr_iald dX7_kindAt_17 (kr_shT1 _ h_g0) (fun v2 => ?_)
      refine kr_goto (tgt := 22) dX7_kindAt_18 (by decide) ?_
      exact kr_iret dX7_kindAt_22 rfl
theorem dX7_slipByDraws_0 : decode cX7_slipByDraws 0 = .ok (.iload_n 1, 1) := by decide +kernel
theorem dX7_slipByDraws_1 : decode cX7_slipByDraws 1 = .ok (.i2l, 1) := by decide +kernel
theorem dX7_slipByDraws_2 : decode cX7_slipByDraws 2 = .ok (.lstore 4, 2) := by decide +kernel
theorem dX7_slipByDraws_4 : decode cX7_slipByDraws 4 = .ok (.iconst 0, 1) := by decide +kernel
theorem dX7_slipByDraws_5 : decode cX7_slipByDraws 5 = .ok (.istore 6, 2) := by decide +kernel
theorem dX7_slipByDraws_7 : decode cX7_slipByDraws 7 = .ok (.iconst 0, 1) := by decide +kernel
theorem dX7_slipByDraws_8 : decode cX7_slipByDraws 8 = .ok (.istore 7, 2) := by decide +kernel
theorem dX7_slipByDraws_10 : decode cX7_slipByDraws 10 = .ok (.iload 7, 2) := by decide +kernel
theorem dX7_slipByDraws_12 : decode cX7_slipByDraws 12 = .ok (.aload_n 0, 1) := by decide +kernel
theorem dX7_slipByDraws_13 : decode cX7_slipByDraws 13 = .ok (.getfield 21, 3) := by decide +kernel
theorem dX7_slipByDraws_16 : decode cX7_slipByDraws 16 = .ok (.if_icmp .ge 93, 3) := by decide +kernel
theorem dX7_slipByDraws_19 : decode cX7_slipByDraws 19 = .ok (.ldc2_w 47, 3) := by decide +kernel
theorem dX7_slipByDraws_22 : decode cX7_slipByDraws 22 = .ok (.lload 4, 2) := by decide +kernel
theorem dX7_slipByDraws_24 : decode cX7_slipByDraws 24 = .ok (.lmul, 1) := by decide +kernel
theorem dX7_slipByDraws_25 : decode cX7_slipByDraws 25 = .ok (.ldc2_w 49, 3) := by decide +kernel
theorem dX7_slipByDraws_28 : decode cX7_slipByDraws 28 = .ok (.ladd, 1) := by decide +kernel
theorem dX7_slipByDraws_29 : decode cX7_slipByDraws 29 = .ok (.ldc2_w 51, 3) := by decide +kernel
theorem dX7_slipByDraws_32 : decode cX7_slipByDraws 32 = .ok (.lrem, 1) := by decide +kernel
theorem dX7_slipByDraws_33 : decode cX7_slipByDraws 33 = .ok (.lstore 4, 2) := by decide +kernel
theorem dX7_slipByDraws_35 : decode cX7_slipByDraws 35 = .ok (.lload 4, 2) := by decide +kernel
theorem dX7_slipByDraws_37 : decode cX7_slipByDraws 37 = .ok (.ldc2_w 53, 3) := by decide +kernel
theorem dX7_slipByDraws_40 : decode cX7_slipByDraws 40 = .ok (.ldiv, 1) := by decide +kernel
theorem dX7_slipByDraws_41 : decode cX7_slipByDraws 41 = .ok (.ldc2_w 55, 3) := by decide +kernel
theorem dX7_slipByDraws_44 : decode cX7_slipByDraws 44 = .ok (.lrem, 1) := by decide +kernel
theorem dX7_slipByDraws_45 : decode cX7_slipByDraws 45 = .ok (.iload_n 2, 1) := by decide +kernel
theorem dX7_slipByDraws_46 : decode cX7_slipByDraws 46 = .ok (.i2l, 1) := by decide +kernel
theorem dX7_slipByDraws_47 : decode cX7_slipByDraws 47 = .ok (.lcmp, 1) := by decide +kernel
theorem dX7_slipByDraws_48 : decode cX7_slipByDraws 48 = .ok (.ifCond .ge 55, 3) := by decide +kernel
theorem dX7_slipByDraws_51 : decode cX7_slipByDraws 51 = .ok (.aload_n 0, 1) := by decide +kernel
theorem dX7_slipByDraws_52 : decode cX7_slipByDraws 52 = .ok (.getfield 15, 3) := by decide +kernel
theorem dX7_slipByDraws_55 : decode cX7_slipByDraws 55 = .ok (.iload 7, 2) := by decide +kernel
theorem dX7_slipByDraws_57 : decode cX7_slipByDraws 57 = .ok (.iaload, 1) := by decide +kernel
theorem dX7_slipByDraws_58 : decode cX7_slipByDraws 58 = .ok (.iconst 1, 1) := by decide +kernel
theorem dX7_slipByDraws_59 : decode cX7_slipByDraws 59 = .ok (.iadd, 1) := by decide +kernel
theorem dX7_slipByDraws_60 : decode cX7_slipByDraws 60 = .ok (.iload_n 3, 1) := by decide +kernel
theorem dX7_slipByDraws_61 : decode cX7_slipByDraws 61 = .ok (.if_icmp .ge 15, 3) := by decide +kernel
theorem dX7_slipByDraws_64 : decode cX7_slipByDraws 64 = .ok (.aload_n 0, 1) := by decide +kernel
theorem dX7_slipByDraws_65 : decode cX7_slipByDraws 65 = .ok (.getfield 15, 3) := by decide +kernel
theorem dX7_slipByDraws_68 : decode cX7_slipByDraws 68 = .ok (.iload 7, 2) := by decide +kernel
theorem dX7_slipByDraws_70 : decode cX7_slipByDraws 70 = .ok (.iaload, 1) := by decide +kernel
theorem dX7_slipByDraws_71 : decode cX7_slipByDraws 71 = .ok (.iconst 1, 1) := by decide +kernel
theorem dX7_slipByDraws_72 : decode cX7_slipByDraws 72 = .ok (.iadd, 1) := by decide +kernel
theorem dX7_slipByDraws_73 : decode cX7_slipByDraws 73 = .ok (.goto 4, 3) := by decide +kernel
theorem dX7_slipByDraws_76 : decode cX7_slipByDraws 76 = .ok (.iconst 0, 1) := by decide +kernel
theorem dX7_slipByDraws_77 : decode cX7_slipByDraws 77 = .ok (.istore 8, 2) := by decide +kernel
theorem dX7_slipByDraws_79 : decode cX7_slipByDraws 79 = .ok (.iload 8, 2) := by decide +kernel
theorem dX7_slipByDraws_81 : decode cX7_slipByDraws 81 = .ok (.aload_n 0, 1) := by decide +kernel
theorem dX7_slipByDraws_82 : decode cX7_slipByDraws 82 = .ok (.getfield 15, 3) := by decide +kernel
theorem dX7_slipByDraws_85 : decode cX7_slipByDraws 85 = .ok (.iload 7, 2) := by decide +kernel
theorem dX7_slipByDraws_87 : decode cX7_slipByDraws 87 = .ok (.iaload, 1) := by decide +kernel
theorem dX7_slipByDraws_88 : decode cX7_slipByDraws 88 = .ok (.if_icmp .eq 6, 3) := by decide +kernel
theorem dX7_slipByDraws_91 : decode cX7_slipByDraws 91 = .ok (.iinc 6 1, 3) := by decide +kernel
theorem dX7_slipByDraws_94 : decode cX7_slipByDraws 94 = .ok (.aload_n 0, 1) := by decide +kernel
theorem dX7_slipByDraws_95 : decode cX7_slipByDraws 95 = .ok (.getfield 15, 3) := by decide +kernel
theorem dX7_slipByDraws_98 : decode cX7_slipByDraws 98 = .ok (.iload 7, 2) := by decide +kernel
theorem dX7_slipByDraws_100 : decode cX7_slipByDraws 100 = .ok (.iload 8, 2) := by decide +kernel
theorem dX7_slipByDraws_102 : decode cX7_slipByDraws 102 = .ok (.iastore, 1) := by decide +kernel
theorem dX7_slipByDraws_103 : decode cX7_slipByDraws 103 = .ok (.iinc 7 1, 3) := by decide +kernel
theorem dX7_slipByDraws_106 : decode cX7_slipByDraws 106 = .ok (.goto (-96), 3) := by decide +kernel
theorem dX7_slipByDraws_109 : decode cX7_slipByDraws 109 = .ok (.iload 6, 2) := by decide +kernel
theorem dX7_slipByDraws_111 : decode cX7_slipByDraws 111 = .ok (.ireturn, 1) := by decide +kernel
theorem r_X7_slipByDraws_103 (E : kr_E) (k_10 : Int64 → Int32 → Int32 → kr_M → Option (Int32 × kr_M)) (l0 : Nat) (h_l0 : kr_sh l0 = (7, 0)) (l2 : Int32) (l3 : Int32) (l4 : Int64) (l6 : Int32) (l7 : Int32) (hk_10 : ∀ (x4 : Int64) (x6 : Int32) (x7 : Int32) (M : kr_M), kR kr_vi E Y_X7_slipByDraws 1 10 [(0, kr_r E l0), (2, .int l2), (3, .int l3), (4, .long x4), (6, .int x6), (7, .int x7)] [] M (k_10 x4 x6 x7 M)) (M : kr_M) : kR kr_vi E Y_X7_slipByDraws 1 103 [(0, kr_r E l0), (2, .int l2), (3, .int l3), (4, .long l4), (6, .int l6), (7, .int l7)] [] M (f_X7_slipByDraws_103 k_10 l4 l6 l7 M) := by
  rw [f_X7_slipByDraws_103]
  refine kr_iinc (j := 5) (v := (l7 + (1 : Int32))) (lv' := [(7, .int (l7 + (1 : Int32))), (0, kr_r E l0), (2, .int l2), (3, .int l3), (4, .long l4), (6, .int l6)]) dX7_slipByDraws_103 rfl rfl (by decide) rfl ?_
  refine kr_goto (tgt := 10) dX7_slipByDraws_106 (by decide) ?_
  refine kr_sub [1, 2, 3, 4, 5, 0] rfl ?_
  exact hk_10 l4 l6 (l7 + (1 : Int32)) M
theorem r_X7_slipByDraws_94 (E : kr_E) (k_10 : Int64 → Int32 → Int32 → kr_M → Option (Int32 × kr_M)) (l0 : Nat) (h_l0 : kr_sh l0 = (7, 0)) (l2 : Int32) (l3 : Int32) (l4 : Int64) (l6 : Int32) (l7 : Int32) (l8 : Int32) (hk_10 : ∀ (x4 : Int64) (x6 : Int32) (x7 : Int32) (M : kr_M), kR kr_vi E Y_X7_slipByDraws 1 10 [(0, kr_r E l0), (2, .int l2), (3, .int l3), (4, .long x4), (6, .int x6), (7, .int x7)] [] M (k_10 x4 x6 x7 M)) (M : kr_M) : kR kr_vi E Y_X7_slipByDraws 1 94 [(0, kr_r E l0), (2, .int l2), (3, .int l3), (4, .long l4), (6, .int l6), (7, .int l7), (8, .int l8)] [] M (f_X7_slipByDraws_94 k_10 l0 l4 l6 l7 l8 M) := by
  rw [f_X7_slipByDraws_94]
  refine kr_aload_n dX7_slipByDraws_94 rfl 0 rfl ?_
  refine kr_getA (o := 1) (ci := 7) (j := 0) dX7_slipByDraws_95 h_l0 fl_RX7_15 rfl ?_
  refine kr_iload dX7_slipByDraws_98 5 rfl ?_
  refine kr_iload dX7_slipByDraws_100 6 rfl ?_
  refine kr_iast dX7_slipByDraws_102 (kr_shT1 _ h_l0) (fun M1 => ?_)
  refine kr_sub [0, 1, 2, 3, 4, 5] rfl ?_
  exact r_X7_slipByDraws_103 E _ l0 h_l0 l2 l3 l4 l6 l7 hk_10 M1
theorem r_X7_slipByDraws_77 (E : kr_E) (k_10 : Int64 → Int32 → Int32 → kr_M → Option (Int32 × kr_M)) (l0 : Nat) (h_l0 : kr_sh l0 = (7, 0)) (l2 : Int32) (l3 : Int32) (l4 : Int64) (l6 : Int32) (l7 : Int32) (s0 : Int32) (hk_10 : ∀ (x4 : Int64) (x6 : Int32) (x7 : Int32) (M : kr_M), kR kr_vi E Y_X7_slipByDraws 1 10 [(0, kr_r E l0), (2, .int l2), (3, .int l3), (4, .long x4), (6, .int x6), (7, .int x7)] [] M (k_10 x4 x6 x7 M)) (M : kr_M) : kR kr_vi E Y_X7_slipByDraws 1 77 [(0, kr_r E l0), (2, .int l2), (3, .int l3), (4, .long l4), (6, .int l6), (7, .int l7)] [.int s0] M (f_X7_slipByDraws_77 k_10 l0 l4 l6 l7 s0 M) := by
  rw [f_X7_slipByDraws_77]
  refine kr_istore (lv' := [(8, .int s0), (0, kr_r E l0), (2, .int l2), (3, .int l3), (4, .long l4), (6, .int l6), (7, .int l7)]) dX7_slipByDraws_77 (by decide) rfl ?_
  refine kr_iload dX7_slipByDraws_79 0 rfl ?_
  refine kr_aload_n dX7_slipByDraws_81 rfl 1 rfl ?_
  refine kr_getA (o := 1) (ci := 7) (j := 0) dX7_slipByDraws_82 h_l0 fl_RX7_15 rfl ?_
  refine kr_iload dX7_slipByDraws_85 6 rfl ?_
  refine kr_iald dX7_slipByDraws_87 (kr_shT1 _ h_l0) (fun v1 => ?_)
  refine kr_icmp_eq (tgt := 94) dX7_slipByDraws_88 (by decide) ?_ ?_
  · refine kr_sub [1, 2, 3, 4, 5, 6, 0] rfl ?_
    exact r_X7_slipByDraws_94 E _ l0 h_l0 l2 l3 l4 l6 l7 s0 hk_10 M
  · refine kr_iinc (j := 5) (v := (l6 + (1 : Int32))) (lv' := [(6, .int (l6 + (1 : Int32))), (8, .int s0), (0, kr_r E l0), (2, .int l2), (3, .int l3), (4, .long l4), (7, .int l7)]) dX7_slipByDraws_91 rfl rfl (by decide) rfl ?_
    refine kr_sub [2, 3, 4, 5, 0, 6, 1] rfl ?_
    exact r_X7_slipByDraws_94 E _ l0 h_l0 l2 l3 l4 (l6 + (1 : Int32)) l7 s0 hk_10 M
theorem r_X7_slipByDraws_10 (E : kr_E)  (l0 : Nat) (h_l0 : kr_sh l0 = (7, 0)) (l2 : Int32) (l3 : Int32)  : ∀ (n : Nat) (l4 : Int64) (l6 : Int32) (l7 : Int32) (M : kr_M), kR kr_vi E Y_X7_slipByDraws 1 10 [(0, kr_r E l0), (2, .int l2), (3, .int l3), (4, .long l4), (6, .int l6), (7, .int l7)] [] M (f_X7_slipByDraws_10 l0 l2 l3 n l4 l6 l7 M) := by
  intro n
  induction n with
  | zero => intro l4 l6 l7 M; exact kr_none
  | succ n ih =>
    intro l4 l6 l7 M
    rw [f_X7_slipByDraws_10]
    refine kr_iload dX7_slipByDraws_10 5 rfl ?_
    refine kr_aload_n dX7_slipByDraws_12 rfl 0 rfl ?_
    refine kr_getI (ci := 7) (j := 1) dX7_slipByDraws_13 h_l0 fl_RX7_21 rfl (fun v1 => ?_)
    refine kr_icmp_ge (tgt := 109) dX7_slipByDraws_16 (by decide) ?_ ?_
    · refine kr_iload dX7_slipByDraws_109 4 rfl ?_
      exact kr_iret dX7_slipByDraws_111 rfl
    · refine kr_ldc2 dX7_slipByDraws_19 kl_RX7_47 ?_
      refine kr_lload dX7_slipByDraws_22 3 rfl ?_
      refine kr_lmul dX7_slipByDraws_24 ?_
      refine kr_ldc2 dX7_slipByDraws_25 kl_RX7_49 ?_
      refine kr_ladd dX7_slipByDraws_28 ?_
      refine kr_ldc2 dX7_slipByDraws_29 kl_RX7_51 ?_
      refine kr_lrem dX7_slipByDraws_32 (fun n2 => ?_)
      refine kr_nml (fun v3 => ?_)
      refine kr_lstore (lv' := [(4, .long v3), (0, kr_r E l0), (2, .int l2), (3, .int l3), (6, .int l6), (7, .int l7)]) dX7_slipByDraws_33 (by decide) rfl ?_
      refine kr_lload dX7_slipByDraws_35 0 rfl ?_
      refine kr_ldc2 dX7_slipByDraws_37 kl_RX7_53 ?_
      refine kr_ldiv dX7_slipByDraws_40 (fun n4 => ?_)
      refine kr_ldc2 dX7_slipByDraws_41 kl_RX7_55 ?_
      refine kr_lrem dX7_slipByDraws_44 (fun n5 => ?_)
      refine kr_iload_n dX7_slipByDraws_45 rfl 2 rfl ?_
      refine kr_i2l dX7_slipByDraws_46 ?_
      refine kr_lcmp dX7_slipByDraws_47 ?_
      refine kr_if_ge (tgt := 103) dX7_slipByDraws_48 (by decide) ?_ ?_
      · refine kr_sub [1, 2, 3, 0, 4, 5] rfl ?_
        exact r_X7_slipByDraws_103 E _ l0 h_l0 l2 l3 v3 l6 l7 ih M
      · refine kr_aload_n dX7_slipByDraws_51 rfl 1 rfl ?_
        refine kr_getA (o := 1) (ci := 7) (j := 0) dX7_slipByDraws_52 h_l0 fl_RX7_15 rfl ?_
        refine kr_iload dX7_slipByDraws_55 5 rfl ?_
        refine kr_iald dX7_slipByDraws_57 (kr_shT1 _ h_l0) (fun v6 => ?_)
        refine kr_iconst (v := 1) dX7_slipByDraws_58 (by decide) ?_
        refine kr_iadd dX7_slipByDraws_59 ?_
        refine kr_iload_n dX7_slipByDraws_60 rfl 3 rfl ?_
        refine kr_icmp_ge (tgt := 76) dX7_slipByDraws_61 (by decide) ?_ ?_
        · refine kr_iconst (v := 0) dX7_slipByDraws_76 (by decide) ?_
          refine kr_sub [1, 2, 3, 0, 4, 5] rfl ?_
          exact r_X7_slipByDraws_77 E _ l0 h_l0 l2 l3 v3 l6 l7 (0 : Int32) ih M
        · refine kr_aload_n dX7_slipByDraws_64 rfl 1 rfl ?_
          refine kr_getA (o := 1) (ci := 7) (j := 0) dX7_slipByDraws_65 h_l0 fl_RX7_15 rfl ?_
          refine kr_iload dX7_slipByDraws_68 5 rfl ?_
          refine kr_iald dX7_slipByDraws_70 (kr_shT1 _ h_l0) (fun v7 => ?_)
          refine kr_iconst (v := 1) dX7_slipByDraws_71 (by decide) ?_
          refine kr_iadd dX7_slipByDraws_72 ?_
          refine kr_goto (tgt := 77) dX7_slipByDraws_73 (by decide) ?_
          refine kr_sub [1, 2, 3, 0, 4, 5] rfl ?_
          exact r_X7_slipByDraws_77 E _ l0 h_l0 l2 l3 v3 l6 l7 (v7 + (1 : Int32)) ih M
theorem r_X7_slipByDraws (E : kr_E) (g0 : Nat) (h_g0 : kr_sh g0 = (7, 0)) (p1 : Int32) (p2 : Int32) (p3 : Int32) (M : kr_M) : kR kr_vi E Y_X7_slipByDraws 1 0 [(0, kr_r E g0), (1, .int p1), (2, .int p2), (3, .int p3)] [] M (f_X7_slipByDraws g0 p1 p2 p3 M) := by
  rw [f_X7_slipByDraws]
  refine kr_iload_n dX7_slipByDraws_0 rfl 1 rfl ?_
  refine kr_i2l dX7_slipByDraws_1 ?_
  refine kr_nml (fun v1 => ?_)
  refine kr_lstore (lv' := [(4, .long v1), (0, kr_r E g0), (1, .int p1), (2, .int p2), (3, .int p3)]) dX7_slipByDraws_2 (by decide) rfl ?_
  refine kr_iconst (v := 0) dX7_slipByDraws_4 (by decide) ?_
  refine kr_istore (lv' := [(6, .int (0 : Int32)), (4, .long v1), (0, kr_r E g0), (1, .int p1), (2, .int p2), (3, .int p3)]) dX7_slipByDraws_5 (by decide) rfl ?_
  refine kr_iconst (v := 0) dX7_slipByDraws_7 (by decide) ?_
  refine kr_istore (lv' := [(7, .int (0 : Int32)), (6, .int (0 : Int32)), (4, .long v1), (0, kr_r E g0), (1, .int p1), (2, .int p2), (3, .int p3)]) dX7_slipByDraws_8 (by decide) rfl ?_
  refine kr_sub [3, 5, 6, 2, 1, 0] rfl ?_
  exact r_X7_slipByDraws_10 E g0 h_g0 p2 p3 _ v1 (0 : Int32) (0 : Int32) M
theorem dX8_worstBehind_0 : decode cX8_worstBehind 0 = .ok (.aload_n 0, 1) := by decide +kernel
theorem dX8_worstBehind_1 : decode cX8_worstBehind 1 = .ok (.getfield 18, 3) := by decide +kernel
theorem dX8_worstBehind_4 : decode cX8_worstBehind 4 = .ok (.iconst 0, 1) := by decide +kernel
theorem dX8_worstBehind_5 : decode cX8_worstBehind 5 = .ok (.invokestatic 35, 3) := by decide +kernel
theorem dX8_worstBehind_8 : decode cX8_worstBehind 8 = .ok (.iconst 0, 1) := by decide +kernel
theorem dX8_worstBehind_9 : decode cX8_worstBehind 9 = .ok (.istore 4, 2) := by decide +kernel
theorem dX8_worstBehind_11 : decode cX8_worstBehind 11 = .ok (.iload 4, 2) := by decide +kernel
theorem dX8_worstBehind_13 : decode cX8_worstBehind 13 = .ok (.aload_n 1, 1) := by decide +kernel
theorem dX8_worstBehind_14 : decode cX8_worstBehind 14 = .ok (.getfield 41, 3) := by decide +kernel
theorem dX8_worstBehind_17 : decode cX8_worstBehind 17 = .ok (.if_icmp .ge 59, 3) := by decide +kernel
theorem dX8_worstBehind_20 : decode cX8_worstBehind 20 = .ok (.iload_n 2, 1) := by decide +kernel
theorem dX8_worstBehind_21 : decode cX8_worstBehind 21 = .ok (.iload 4, 2) := by decide +kernel
theorem dX8_worstBehind_23 : decode cX8_worstBehind 23 = .ok (.ishr, 1) := by decide +kernel
theorem dX8_worstBehind_24 : decode cX8_worstBehind 24 = .ok (.iconst 1, 1) := by decide +kernel
theorem dX8_worstBehind_25 : decode cX8_worstBehind 25 = .ok (.iand, 1) := by decide +kernel
theorem dX8_worstBehind_26 : decode cX8_worstBehind 26 = .ok (.ifCond .eq 44, 3) := by decide +kernel
theorem dX8_worstBehind_29 : decode cX8_worstBehind 29 = .ok (.aload_n 1, 1) := by decide +kernel
theorem dX8_worstBehind_30 : decode cX8_worstBehind 30 = .ok (.getfield 47, 3) := by decide +kernel
theorem dX8_worstBehind_33 : decode cX8_worstBehind 33 = .ok (.iload 4, 2) := by decide +kernel
theorem dX8_worstBehind_35 : decode cX8_worstBehind 35 = .ok (.aaload, 1) := by decide +kernel
theorem dX8_worstBehind_36 : decode cX8_worstBehind 36 = .ok (.getfield 51, 3) := by decide +kernel
theorem dX8_worstBehind_39 : decode cX8_worstBehind 39 = .ok (.iload_n 3, 1) := by decide +kernel
theorem dX8_worstBehind_40 : decode cX8_worstBehind 40 = .ok (.invokevirtual 57, 3) := by decide +kernel
theorem dX8_worstBehind_43 : decode cX8_worstBehind 43 = .ok (.istore 5, 2) := by decide +kernel
theorem dX8_worstBehind_45 : decode cX8_worstBehind 45 = .ok (.aload_n 0, 1) := by decide +kernel
theorem dX8_worstBehind_46 : decode cX8_worstBehind 46 = .ok (.getfield 18, 3) := by decide +kernel
theorem dX8_worstBehind_49 : decode cX8_worstBehind 49 = .ok (.iload 5, 2) := by decide +kernel
theorem dX8_worstBehind_51 : decode cX8_worstBehind 51 = .ok (.iconst (-1), 1) := by decide +kernel
theorem dX8_worstBehind_52 : decode cX8_worstBehind 52 = .ok (.if_icmp .ne 8, 3) := by decide +kernel
theorem dX8_worstBehind_55 : decode cX8_worstBehind 55 = .ok (.bipush 6, 2) := by decide +kernel
theorem dX8_worstBehind_57 : decode cX8_worstBehind 57 = .ok (.goto 5, 3) := by decide +kernel
theorem dX8_worstBehind_60 : decode cX8_worstBehind 60 = .ok (.iload 5, 2) := by decide +kernel
theorem dX8_worstBehind_62 : decode cX8_worstBehind 62 = .ok (.dup2, 1) := by decide +kernel
theorem dX8_worstBehind_63 : decode cX8_worstBehind 63 = .ok (.iaload, 1) := by decide +kernel
theorem dX8_worstBehind_64 : decode cX8_worstBehind 64 = .ok (.iconst 1, 1) := by decide +kernel
theorem dX8_worstBehind_65 : decode cX8_worstBehind 65 = .ok (.iload 4, 2) := by decide +kernel
theorem dX8_worstBehind_67 : decode cX8_worstBehind 67 = .ok (.ishl, 1) := by decide +kernel
theorem dX8_worstBehind_68 : decode cX8_worstBehind 68 = .ok (.ior, 1) := by decide +kernel
theorem dX8_worstBehind_69 : decode cX8_worstBehind 69 = .ok (.iastore, 1) := by decide +kernel
theorem dX8_worstBehind_70 : decode cX8_worstBehind 70 = .ok (.iinc 4 1, 3) := by decide +kernel
theorem dX8_worstBehind_73 : decode cX8_worstBehind 73 = .ok (.goto (-62), 3) := by decide +kernel
theorem dX8_worstBehind_76 : decode cX8_worstBehind 76 = .ok (.iconst 0, 1) := by decide +kernel
theorem dX8_worstBehind_77 : decode cX8_worstBehind 77 = .ok (.istore 4, 2) := by decide +kernel
theorem dX8_worstBehind_79 : decode cX8_worstBehind 79 = .ok (.iconst 0, 1) := by decide +kernel
theorem dX8_worstBehind_80 : decode cX8_worstBehind 80 = .ok (.istore 5, 2) := by decide +kernel
theorem dX8_worstBehind_82 : decode cX8_worstBehind 82 = .ok (.iload 5, 2) := by decide +kernel
theorem dX8_worstBehind_84 : decode cX8_worstBehind 84 = .ok (.bipush 6, 2) := by decide +kernel
theorem dX8_worstBehind_86 : decode cX8_worstBehind 86 = .ok (.if_icmp .gt 66, 3) := by decide +kernel
theorem dX8_worstBehind_89 : decode cX8_worstBehind 89 = .ok (.aload_n 0, 1) := by decide +kernel
theorem dX8_worstBehind_90 : decode cX8_worstBehind 90 = .ok (.getfield 18, 3) := by decide +kernel
theorem dX8_worstBehind_93 : decode cX8_worstBehind 93 = .ok (.iload 5, 2) := by decide +kernel
theorem dX8_worstBehind_95 : decode cX8_worstBehind 95 = .ok (.iaload, 1) := by decide +kernel
theorem dX8_worstBehind_96 : decode cX8_worstBehind 96 = .ok (.istore 6, 2) := by decide +kernel
theorem dX8_worstBehind_98 : decode cX8_worstBehind 98 = .ok (.iload 6, 2) := by decide +kernel
theorem dX8_worstBehind_100 : decode cX8_worstBehind 100 = .ok (.iload_n 2, 1) := by decide +kernel
theorem dX8_worstBehind_101 : decode cX8_worstBehind 101 = .ok (.if_icmp .eq 19, 3) := by decide +kernel
theorem dX8_worstBehind_104 : decode cX8_worstBehind 104 = .ok (.iload 6, 2) := by decide +kernel
theorem dX8_worstBehind_106 : decode cX8_worstBehind 106 = .ok (.ifCond .eq 16, 3) := by decide +kernel
theorem dX8_worstBehind_109 : decode cX8_worstBehind 109 = .ok (.aload_n 0, 1) := by decide +kernel
theorem dX8_worstBehind_110 : decode cX8_worstBehind 110 = .ok (.getfield 9, 3) := by decide +kernel
theorem dX8_worstBehind_113 : decode cX8_worstBehind 113 = .ok (.iload 6, 2) := by decide +kernel
theorem dX8_worstBehind_115 : decode cX8_worstBehind 115 = .ok (.iaload, 1) := by decide +kernel
theorem dX8_worstBehind_116 : decode cX8_worstBehind 116 = .ok (.iconst (-1), 1) := by decide +kernel
theorem dX8_worstBehind_117 : decode cX8_worstBehind 117 = .ok (.if_icmp .ne 5, 3) := by decide +kernel
theorem dX8_worstBehind_120 : decode cX8_worstBehind 120 = .ok (.iconst (-1), 1) := by decide +kernel
theorem dX8_worstBehind_121 : decode cX8_worstBehind 121 = .ok (.ireturn, 1) := by decide +kernel
theorem dX8_worstBehind_122 : decode cX8_worstBehind 122 = .ok (.iload 6, 2) := by decide +kernel
theorem dX8_worstBehind_124 : decode cX8_worstBehind 124 = .ok (.ifCond .ne 8, 3) := by decide +kernel
theorem dX8_worstBehind_127 : decode cX8_worstBehind 127 = .ok (.iload 4, 2) := by decide +kernel
theorem dX8_worstBehind_129 : decode cX8_worstBehind 129 = .ok (.goto 15, 3) := by decide +kernel
theorem dX8_worstBehind_132 : decode cX8_worstBehind 132 = .ok (.iload 4, 2) := by decide +kernel
theorem dX8_worstBehind_134 : decode cX8_worstBehind 134 = .ok (.aload_n 0, 1) := by decide +kernel
theorem dX8_worstBehind_135 : decode cX8_worstBehind 135 = .ok (.getfield 9, 3) := by decide +kernel
theorem dX8_worstBehind_138 : decode cX8_worstBehind 138 = .ok (.iload 6, 2) := by decide +kernel
theorem dX8_worstBehind_140 : decode cX8_worstBehind 140 = .ok (.iaload, 1) := by decide +kernel
theorem dX8_worstBehind_141 : decode cX8_worstBehind 141 = .ok (.invokestatic 62, 3) := by decide +kernel
theorem dX8_worstBehind_144 : decode cX8_worstBehind 144 = .ok (.istore 4, 2) := by decide +kernel
theorem dX8_worstBehind_146 : decode cX8_worstBehind 146 = .ok (.iinc 5 1, 3) := by decide +kernel
theorem dX8_worstBehind_149 : decode cX8_worstBehind 149 = .ok (.goto (-67), 3) := by decide +kernel
theorem dX8_worstBehind_152 : decode cX8_worstBehind 152 = .ok (.iload 4, 2) := by decide +kernel
theorem dX8_worstBehind_154 : decode cX8_worstBehind 154 = .ok (.ireturn, 1) := by decide +kernel
theorem r_X8_worstBehind_144 (E : kr_E) (k_82 : Int32 → Int32 → kr_M → Option (Int32 × kr_M)) (l2 : Int32) (l5 : Int32) (s0 : Int32) (hk_82 : ∀ (x4 : Int32) (x5 : Int32) (M : kr_M), kR kr_vi E Y_X8_worstBehind 2 82 [(0, kr_r E 334), (2, .int l2), (4, .int x4), (5, .int x5)] [] M (k_82 x4 x5 M)) (M : kr_M) : kR kr_vi E Y_X8_worstBehind 2 144 [(0, kr_r E 334), (2, .int l2), (5, .int l5)] [.int s0] M (f_X8_worstBehind_144 k_82 l5 s0 M) := by
  rw [f_X8_worstBehind_144]
  refine kr_istore (lv' := [(4, .int s0), (0, kr_r E 334), (2, .int l2), (5, .int l5)]) dX8_worstBehind_144 (by decide) rfl ?_
  refine kr_iinc (j := 3) (v := (l5 + (1 : Int32))) (lv' := [(5, .int (l5 + (1 : Int32))), (4, .int s0), (0, kr_r E 334), (2, .int l2)]) dX8_worstBehind_146 rfl rfl (by decide) rfl ?_
  refine kr_goto (tgt := 82) dX8_worstBehind_149 (by decide) ?_
  refine kr_sub [2, 3, 1, 0] rfl ?_
  exact hk_82 s0 (l5 + (1 : Int32)) M
theorem r_X8_worstBehind_122 (E : kr_E) (k_82 : Int32 → Int32 → kr_M → Option (Int32 × kr_M)) (l2 : Int32) (l4 : Int32) (l5 : Int32) (l6 : Int32) (hk_82 : ∀ (x4 : Int32) (x5 : Int32) (M : kr_M), kR kr_vi E Y_X8_worstBehind 2 82 [(0, kr_r E 334), (2, .int l2), (4, .int x4), (5, .int x5)] [] M (k_82 x4 x5 M)) (M : kr_M) : kR kr_vi E Y_X8_worstBehind 2 122 [(0, kr_r E 334), (2, .int l2), (4, .int l4), (5, .int l5), (6, .int l6)] [] M (f_X8_worstBehind_122 k_82 l4 l5 l6 M) := by
  rw [f_X8_worstBehind_122]
  refine kr_iload dX8_worstBehind_122 4 rfl ?_
  refine kr_if_ne (tgt := 132) dX8_worstBehind_124 (by decide) ?_ ?_
  · refine kr_iload dX8_worstBehind_132 2 rfl ?_
    refine kr_aload_n dX8_worstBehind_134 rfl 0 rfl ?_
    refine kr_getA (o := 1) (ci := 8) (j := 0) dX8_worstBehind_135 kr_at_334 fl_RX8_9 rfl ?_
    refine kr_iload dX8_worstBehind_138 4 rfl ?_
    refine kr_iald dX8_worstBehind_140 kr_at_335 (fun v1 => ?_)
    refine kr_mmax dX8_worstBehind_141 ml_RX8_62 (by decide) (Nat.le_of_ble_eq_true rfl) ?_
    refine kr_sub [0, 1, 3] rfl ?_
    exact r_X8_worstBehind_144 E _ l2 l5 (kr_max l4 v1) hk_82 M
  · refine kr_iload dX8_worstBehind_127 2 rfl ?_
    refine kr_goto (tgt := 144) dX8_worstBehind_129 (by decide) ?_
    refine kr_sub [0, 1, 3] rfl ?_
    exact r_X8_worstBehind_144 E _ l2 l5 l4 hk_82 M
theorem r_X8_worstBehind_82 (E : kr_E)  (l2 : Int32)  : ∀ (n : Nat) (l4 : Int32) (l5 : Int32) (M : kr_M), kR kr_vi E Y_X8_worstBehind 2 82 [(0, kr_r E 334), (2, .int l2), (4, .int l4), (5, .int l5)] [] M (f_X8_worstBehind_82 l2 n l4 l5 M) := by
  intro n
  induction n with
  | zero => intro l4 l5 M; exact kr_none
  | succ n ih =>
    intro l4 l5 M
    rw [f_X8_worstBehind_82]
    refine kr_iload dX8_worstBehind_82 3 rfl ?_
    refine kr_bipush (v := 6) dX8_worstBehind_84 (by decide) ?_
    refine kr_icmp_gt (tgt := 152) dX8_worstBehind_86 (by decide) ?_ ?_
    · refine kr_iload dX8_worstBehind_152 2 rfl ?_
      exact kr_iret dX8_worstBehind_154 rfl
    · refine kr_aload_n dX8_worstBehind_89 rfl 0 rfl ?_
      refine kr_getA (o := 3) (ci := 8) (j := 2) dX8_worstBehind_90 kr_at_334 fl_RX8_18 rfl ?_
      refine kr_iload dX8_worstBehind_93 3 rfl ?_
      refine kr_iald dX8_worstBehind_95 kr_at_337 (fun v1 => ?_)
      refine kr_istore (lv' := [(6, .int v1), (0, kr_r E 334), (2, .int l2), (4, .int l4), (5, .int l5)]) dX8_worstBehind_96 (by decide) rfl ?_
      refine kr_iload dX8_worstBehind_98 0 rfl ?_
      refine kr_iload_n dX8_worstBehind_100 rfl 2 rfl ?_
      refine kr_icmp_eq (tgt := 120) dX8_worstBehind_101 (by decide) ?_ ?_
      · refine kr_iconst (v := -1) dX8_worstBehind_120 (by decide) ?_
        exact kr_iret dX8_worstBehind_121 rfl
      · refine kr_iload dX8_worstBehind_104 0 rfl ?_
        refine kr_if_eq (tgt := 122) dX8_worstBehind_106 (by decide) ?_ ?_
        · refine kr_sub [1, 2, 3, 4, 0] rfl ?_
          exact r_X8_worstBehind_122 E _ l2 l4 l5 v1 ih M
        · refine kr_aload_n dX8_worstBehind_109 rfl 1 rfl ?_
          refine kr_getA (o := 1) (ci := 8) (j := 0) dX8_worstBehind_110 kr_at_334 fl_RX8_9 rfl ?_
          refine kr_iload dX8_worstBehind_113 0 rfl ?_
          refine kr_iald dX8_worstBehind_115 kr_at_335 (fun v2 => ?_)
          refine kr_iconst (v := -1) dX8_worstBehind_116 (by decide) ?_
          refine kr_icmp_ne (tgt := 122) dX8_worstBehind_117 (by decide) ?_ ?_
          · refine kr_sub [1, 2, 3, 4, 0] rfl ?_
            exact r_X8_worstBehind_122 E _ l2 l4 l5 v1 ih M
          · refine kr_iconst (v := -1) dX8_worstBehind_120 (by decide) ?_
            exact kr_iret dX8_worstBehind_121 rfl
theorem r_X8_worstBehind_76 (E : kr_E)  (l2 : Int32)  (M : kr_M) : kR kr_vi E Y_X8_worstBehind 2 76 [(0, kr_r E 334), (2, .int l2)] [] M (f_X8_worstBehind_76 l2 M) := by
  rw [f_X8_worstBehind_76]
  refine kr_iconst (v := 0) dX8_worstBehind_76 (by decide) ?_
  refine kr_istore (lv' := [(4, .int (0 : Int32)), (0, kr_r E 334), (2, .int l2)]) dX8_worstBehind_77 (by decide) rfl ?_
  refine kr_iconst (v := 0) dX8_worstBehind_79 (by decide) ?_
  refine kr_istore (lv' := [(5, .int (0 : Int32)), (4, .int (0 : Int32)), (0, kr_r E 334), (2, .int l2)]) dX8_worstBehind_80 (by decide) rfl ?_
  refine kr_sub [2, 3, 1, 0] rfl ?_
  exact r_X8_worstBehind_82 E l2 _ (0 : Int32) (0 : Int32) M
theorem r_X8_worstBehind_70 (E : kr_E) (k_11 : Int32 → kr_M → Option (Int32 × kr_M)) (l1 : Nat) (h_l1 : kr_sh l1 = (2, 0)) (l2 : Int32) (l3 : Int32) (l4 : Int32) (hk_11 : ∀ (x4 : Int32) (M : kr_M), kR kr_vi E Y_X8_worstBehind 2 11 [(0, kr_r E 334), (1, kr_r E l1), (2, .int l2), (3, .int l3), (4, .int x4)] [] M (k_11 x4 M)) (M : kr_M) : kR kr_vi E Y_X8_worstBehind 2 70 [(0, kr_r E 334), (1, kr_r E l1), (2, .int l2), (3, .int l3), (4, .int l4)] [] M (f_X8_worstBehind_70 k_11 l4 M) := by
  rw [f_X8_worstBehind_70]
  refine kr_iinc (j := 4) (v := (l4 + (1 : Int32))) (lv' := [(4, .int (l4 + (1 : Int32))), (0, kr_r E 334), (1, kr_r E l1), (2, .int l2), (3, .int l3)]) dX8_worstBehind_70 rfl rfl (by decide) rfl ?_
  refine kr_goto (tgt := 11) dX8_worstBehind_73 (by decide) ?_
  refine kr_sub [1, 2, 3, 4, 0] rfl ?_
  exact hk_11 (l4 + (1 : Int32)) M
theorem r_X8_worstBehind_62 (E : kr_E) (k_11 : Int32 → kr_M → Option (Int32 × kr_M)) (l1 : Nat) (h_l1 : kr_sh l1 = (2, 0)) (l2 : Int32) (l3 : Int32) (l4 : Int32) (s0 : Int32) (hk_11 : ∀ (x4 : Int32) (M : kr_M), kR kr_vi E Y_X8_worstBehind 2 11 [(0, kr_r E 334), (1, kr_r E l1), (2, .int l2), (3, .int l3), (4, .int x4)] [] M (k_11 x4 M)) (M : kr_M) : kR kr_vi E Y_X8_worstBehind 2 62 [(0, kr_r E 334), (1, kr_r E l1), (2, .int l2), (3, .int l3), (4, .int l4)] [.int s0, kr_r E 337] M (f_X8_worstBehind_62 k_11 l4 s0 M) := by
  rw [f_X8_worstBehind_62]
  refine kr_dup2 dX8_worstBehind_62 rfl rfl ?_
  refine kr_iald dX8_worstBehind_63 kr_at_337 (fun v1 => ?_)
  refine kr_iconst (v := 1) dX8_worstBehind_64 (by decide) ?_
  refine kr_iload dX8_worstBehind_65 4 rfl ?_
  refine kr_ishl dX8_worstBehind_67 ?_
  refine kr_ior dX8_worstBehind_68 ?_
  refine kr_iast dX8_worstBehind_69 kr_at_337 (fun M2 => ?_)
  refine kr_sub [0, 1, 2, 3, 4] rfl ?_
  exact r_X8_worstBehind_70 E _ l1 h_l1 l2 l3 l4 hk_11 M2
theorem r_X8_worstBehind_11 (E : kr_E)  (l1 : Nat) (h_l1 : kr_sh l1 = (2, 0)) (l2 : Int32) (l3 : Int32)  : ∀ (n : Nat) (l4 : Int32) (M : kr_M), kR kr_vi E Y_X8_worstBehind 2 11 [(0, kr_r E 334), (1, kr_r E l1), (2, .int l2), (3, .int l3), (4, .int l4)] [] M (f_X8_worstBehind_11 l1 l2 l3 n l4 M) := by
  intro n
  induction n with
  | zero => intro l4 M; exact kr_none
  | succ n ih =>
    intro l4 M
    rw [f_X8_worstBehind_11]
    refine kr_iload dX8_worstBehind_11 4 rfl ?_
    refine kr_aload_n dX8_worstBehind_13 rfl 1 rfl ?_
    refine kr_getI (ci := 2) (j := 6) dX8_worstBehind_14 h_l1 fl_RX8_41 rfl (fun v1 => ?_)
    refine kr_icmp_ge (tgt := 76) dX8_worstBehind_17 (by decide) ?_ ?_
    · refine kr_sub [0, 2] rfl ?_
      exact r_X8_worstBehind_76 E l2 M
    · refine kr_iload_n dX8_worstBehind_20 rfl 2 rfl ?_
      refine kr_iload dX8_worstBehind_21 4 rfl ?_
      refine kr_ishr dX8_worstBehind_23 ?_
      refine kr_iconst (v := 1) dX8_worstBehind_24 (by decide) ?_
      refine kr_iand dX8_worstBehind_25 ?_
      refine kr_if_eq (tgt := 70) dX8_worstBehind_26 (by decide) ?_ ?_
      · refine kr_sub [0, 1, 2, 3, 4] rfl ?_
        exact r_X8_worstBehind_70 E _ l1 h_l1 l2 l3 l4 ih M
      · refine kr_aload_n dX8_worstBehind_29 rfl 1 rfl ?_
        refine kr_getA (o := 5) (ci := 2) (j := 14) dX8_worstBehind_30 h_l1 fl_RX8_47 rfl ?_
        refine kr_iload dX8_worstBehind_33 4 rfl ?_
        refine kr_aaldR dX8_worstBehind_35 h_l1 (fun h2 => ?_)
        refine kr_getA (o := 3) (ci := 5) (j := 5) dX8_worstBehind_36 h2 fl_RX8_51 rfl ?_
        refine kr_iload_n dX8_worstBehind_39 rfl 3 rfl ?_
        refine kr_Vi (As := [.int l3]) (st := []) zv_X7_kindAt dX8_worstBehind_40 ml_RX8_57 (kr_shR3 _ h2) (r_X7_kindAt E ((kr_rp l1 l4) + 3) (kr_shR3 _ h2) l3 M) rfl rfl (Nat.le_of_ble_eq_true rfl) rfl (by decide) (Nat.le_of_ble_eq_true rfl) (fun r4 M3 => ?_)
        refine kr_istore (lv' := [(5, .int r4), (0, kr_r E 334), (1, kr_r E l1), (2, .int l2), (3, .int l3), (4, .int l4)]) dX8_worstBehind_43 (by decide) rfl ?_
        refine kr_aload_n dX8_worstBehind_45 rfl 1 rfl ?_
        refine kr_getA (o := 3) (ci := 8) (j := 2) dX8_worstBehind_46 kr_at_334 fl_RX8_18 rfl ?_
        refine kr_iload dX8_worstBehind_49 0 rfl ?_
        refine kr_iconst (v := -1) dX8_worstBehind_51 (by decide) ?_
        refine kr_icmp_ne (tgt := 60) dX8_worstBehind_52 (by decide) ?_ ?_
        · refine kr_iload dX8_worstBehind_60 0 rfl ?_
          refine kr_sub [1, 2, 3, 4, 5] rfl ?_
          exact r_X8_worstBehind_62 E _ l1 h_l1 l2 l3 l4 r4 ih M3
        · refine kr_bipush (v := 6) dX8_worstBehind_55 (by decide) ?_
          refine kr_goto (tgt := 62) dX8_worstBehind_57 (by decide) ?_
          refine kr_sub [1, 2, 3, 4, 5] rfl ?_
          exact r_X8_worstBehind_62 E _ l1 h_l1 l2 l3 l4 (6 : Int32) ih M3
theorem r_X8_worstBehind (E : kr_E) (p1 : Nat) (h_p1 : kr_sh p1 = (2, 0)) (p2 : Int32) (p3 : Int32) (M : kr_M) : kR kr_vi E Y_X8_worstBehind 2 0 [(0, kr_r E 334), (1, kr_r E p1), (2, .int p2), (3, .int p3)] [] M (f_X8_worstBehind p1 p2 p3 M) := by
  rw [f_X8_worstBehind]
  refine kr_aload_n dX8_worstBehind_0 rfl 0 rfl ?_
  refine kr_getA (o := 3) (ci := 8) (j := 2) dX8_worstBehind_1 kr_at_334 fl_RX8_18 rfl ?_
  refine kr_iconst (v := 0) dX8_worstBehind_4 (by decide) ?_
  refine kr_Sv (As := [kr_r E 337, .int (0 : Int32)]) (st := []) zs_J7_fill_53178 dX8_worstBehind_5 ml_RX8_35 (r_J7_fill_53178 E 337 (kr_at_337) (0 : Int32) M) rfl rfl (Nat.le_of_ble_eq_true rfl) rfl (by decide) (Nat.le_of_ble_eq_true rfl) (fun M1 => ?_)
  refine kr_iconst (v := 0) dX8_worstBehind_8 (by decide) ?_
  refine kr_istore (lv' := [(4, .int (0 : Int32)), (0, kr_r E 334), (1, kr_r E p1), (2, .int p2), (3, .int p3)]) dX8_worstBehind_9 (by decide) rfl ?_
  refine kr_sub [1, 2, 3, 4, 0] rfl ?_
  exact r_X8_worstBehind_11 E p1 h_p1 p2 p3 _ (0 : Int32) M1
theorem dX8_studySet_0 : decode cX8_studySet 0 = .ok (.aload_n 0, 1) := by decide +kernel
theorem dX8_studySet_1 : decode cX8_studySet 1 = .ok (.getfield 15, 3) := by decide +kernel
theorem dX8_studySet_4 : decode cX8_studySet 4 = .ok (.iload_n 2, 1) := by decide +kernel
theorem dX8_studySet_5 : decode cX8_studySet 5 = .ok (.iconst (-1), 1) := by decide +kernel
theorem dX8_studySet_6 : decode cX8_studySet 6 = .ok (.iastore, 1) := by decide +kernel
theorem dX8_studySet_7 : decode cX8_studySet 7 = .ok (.aload_n 0, 1) := by decide +kernel
theorem dX8_studySet_8 : decode cX8_studySet 8 = .ok (.getfield 9, 3) := by decide +kernel
theorem dX8_studySet_11 : decode cX8_studySet 11 = .ok (.iload_n 2, 1) := by decide +kernel
theorem dX8_studySet_12 : decode cX8_studySet 12 = .ok (.iload_n 2, 1) := by decide +kernel
theorem dX8_studySet_13 : decode cX8_studySet 13 = .ok (.invokestatic 25, 3) := by decide +kernel
theorem dX8_studySet_16 : decode cX8_studySet 16 = .ok (.iconst 1, 1) := by decide +kernel
theorem dX8_studySet_17 : decode cX8_studySet 17 = .ok (.if_icmp .ne 7, 3) := by decide +kernel
theorem dX8_studySet_20 : decode cX8_studySet 20 = .ok (.iconst 0, 1) := by decide +kernel
theorem dX8_studySet_21 : decode cX8_studySet 21 = .ok (.goto 4, 3) := by decide +kernel
theorem dX8_studySet_24 : decode cX8_studySet 24 = .ok (.iconst (-1), 1) := by decide +kernel
theorem dX8_studySet_25 : decode cX8_studySet 25 = .ok (.iastore, 1) := by decide +kernel
theorem dX8_studySet_26 : decode cX8_studySet 26 = .ok (.iconst 0, 1) := by decide +kernel
theorem dX8_studySet_27 : decode cX8_studySet 27 = .ok (.istore_n 3, 1) := by decide +kernel
theorem dX8_studySet_28 : decode cX8_studySet 28 = .ok (.iload_n 3, 1) := by decide +kernel
theorem dX8_studySet_29 : decode cX8_studySet 29 = .ok (.bipush 24, 2) := by decide +kernel
theorem dX8_studySet_31 : decode cX8_studySet 31 = .ok (.if_icmp .ge 73, 3) := by decide +kernel
theorem dX8_studySet_34 : decode cX8_studySet 34 = .ok (.aload_n 0, 1) := by decide +kernel
theorem dX8_studySet_35 : decode cX8_studySet 35 = .ok (.getfield 9, 3) := by decide +kernel
theorem dX8_studySet_38 : decode cX8_studySet 38 = .ok (.iload_n 2, 1) := by decide +kernel
theorem dX8_studySet_39 : decode cX8_studySet 39 = .ok (.iaload, 1) := by decide +kernel
theorem dX8_studySet_40 : decode cX8_studySet 40 = .ok (.ifCond .eq 64, 3) := by decide +kernel
theorem dX8_studySet_43 : decode cX8_studySet 43 = .ok (.aload_n 0, 1) := by decide +kernel
theorem dX8_studySet_44 : decode cX8_studySet 44 = .ok (.aload_n 1, 1) := by decide +kernel
theorem dX8_studySet_45 : decode cX8_studySet 45 = .ok (.iload_n 2, 1) := by decide +kernel
theorem dX8_studySet_46 : decode cX8_studySet 46 = .ok (.iload_n 3, 1) := by decide +kernel
theorem dX8_studySet_47 : decode cX8_studySet 47 = .ok (.invokevirtual 31, 3) := by decide +kernel
theorem dX8_studySet_50 : decode cX8_studySet 50 = .ok (.istore 4, 2) := by decide +kernel
theorem dX8_studySet_52 : decode cX8_studySet 52 = .ok (.iload 4, 2) := by decide +kernel
theorem dX8_studySet_54 : decode cX8_studySet 54 = .ok (.iconst (-1), 1) := by decide +kernel
theorem dX8_studySet_55 : decode cX8_studySet 55 = .ok (.if_icmp .eq 43, 3) := by decide +kernel
theorem dX8_studySet_58 : decode cX8_studySet 58 = .ok (.aload_n 0, 1) := by decide +kernel
theorem dX8_studySet_59 : decode cX8_studySet 59 = .ok (.getfield 9, 3) := by decide +kernel
theorem dX8_studySet_62 : decode cX8_studySet 62 = .ok (.iload_n 2, 1) := by decide +kernel
theorem dX8_studySet_63 : decode cX8_studySet 63 = .ok (.iaload, 1) := by decide +kernel
theorem dX8_studySet_64 : decode cX8_studySet 64 = .ok (.iconst (-1), 1) := by decide +kernel
theorem dX8_studySet_65 : decode cX8_studySet 65 = .ok (.if_icmp .eq 16, 3) := by decide +kernel
theorem dX8_studySet_68 : decode cX8_studySet 68 = .ok (.iload 4, 2) := by decide +kernel
theorem dX8_studySet_70 : decode cX8_studySet 70 = .ok (.iconst 1, 1) := by decide +kernel
theorem dX8_studySet_71 : decode cX8_studySet 71 = .ok (.iadd, 1) := by decide +kernel
theorem dX8_studySet_72 : decode cX8_studySet 72 = .ok (.aload_n 0, 1) := by decide +kernel
theorem dX8_studySet_73 : decode cX8_studySet 73 = .ok (.getfield 9, 3) := by decide +kernel
theorem dX8_studySet_76 : decode cX8_studySet 76 = .ok (.iload_n 2, 1) := by decide +kernel
theorem dX8_studySet_77 : decode cX8_studySet 77 = .ok (.iaload, 1) := by decide +kernel
theorem dX8_studySet_78 : decode cX8_studySet 78 = .ok (.if_icmp .ge 20, 3) := by decide +kernel
theorem dX8_studySet_81 : decode cX8_studySet 81 = .ok (.aload_n 0, 1) := by decide +kernel
theorem dX8_studySet_82 : decode cX8_studySet 82 = .ok (.getfield 9, 3) := by decide +kernel
theorem dX8_studySet_85 : decode cX8_studySet 85 = .ok (.iload_n 2, 1) := by decide +kernel
theorem dX8_studySet_86 : decode cX8_studySet 86 = .ok (.iload 4, 2) := by decide +kernel
theorem dX8_studySet_88 : decode cX8_studySet 88 = .ok (.iconst 1, 1) := by decide +kernel
theorem dX8_studySet_89 : decode cX8_studySet 89 = .ok (.iadd, 1) := by decide +kernel
theorem dX8_studySet_90 : decode cX8_studySet 90 = .ok (.iastore, 1) := by decide +kernel
theorem dX8_studySet_91 : decode cX8_studySet 91 = .ok (.aload_n 0, 1) := by decide +kernel
theorem dX8_studySet_92 : decode cX8_studySet 92 = .ok (.getfield 15, 3) := by decide +kernel
theorem dX8_studySet_95 : decode cX8_studySet 95 = .ok (.iload_n 2, 1) := by decide +kernel
theorem dX8_studySet_96 : decode cX8_studySet 96 = .ok (.iload_n 3, 1) := by decide +kernel
theorem dX8_studySet_97 : decode cX8_studySet 97 = .ok (.iastore, 1) := by decide +kernel
theorem dX8_studySet_98 : decode cX8_studySet 98 = .ok (.iinc 3 1, 3) := by decide +kernel
theorem dX8_studySet_101 : decode cX8_studySet 101 = .ok (.goto (-73), 3) := by decide +kernel
theorem dX8_studySet_104 : decode cX8_studySet 104 = .ok (.return_, 1) := by decide +kernel
theorem r_X8_studySet_98 (E : kr_E) (k_28 : Int32 → kr_M → Option kr_M) (l1 : Nat) (h_l1 : kr_sh l1 = (2, 0)) (l2 : Int32) (l3 : Int32) (hk_28 : ∀ (x3 : Int32) (M : kr_M), kR kr_vv E Y_X8_studySet 3 28 [(0, kr_r E 334), (1, kr_r E l1), (2, .int l2), (3, .int x3)] [] M (k_28 x3 M)) (M : kr_M) : kR kr_vv E Y_X8_studySet 3 98 [(0, kr_r E 334), (1, kr_r E l1), (2, .int l2), (3, .int l3)] [] M (f_X8_studySet_98 k_28 l3 M) := by
  rw [f_X8_studySet_98]
  refine kr_iinc (j := 3) (v := (l3 + (1 : Int32))) (lv' := [(3, .int (l3 + (1 : Int32))), (0, kr_r E 334), (1, kr_r E l1), (2, .int l2)]) dX8_studySet_98 rfl rfl (by decide) rfl ?_
  refine kr_goto (tgt := 28) dX8_studySet_101 (by decide) ?_
  refine kr_sub [1, 2, 3, 0] rfl ?_
  exact hk_28 (l3 + (1 : Int32)) M
theorem r_X8_studySet_81 (E : kr_E) (k_28 : Int32 → kr_M → Option kr_M) (l1 : Nat) (h_l1 : kr_sh l1 = (2, 0)) (l2 : Int32) (l3 : Int32) (l4 : Int32) (hk_28 : ∀ (x3 : Int32) (M : kr_M), kR kr_vv E Y_X8_studySet 3 28 [(0, kr_r E 334), (1, kr_r E l1), (2, .int l2), (3, .int x3)] [] M (k_28 x3 M)) (M : kr_M) : kR kr_vv E Y_X8_studySet 3 81 [(0, kr_r E 334), (1, kr_r E l1), (2, .int l2), (3, .int l3), (4, .int l4)] [] M (f_X8_studySet_81 k_28 l2 l3 l4 M) := by
  rw [f_X8_studySet_81]
  refine kr_aload_n dX8_studySet_81 rfl 0 rfl ?_
  refine kr_getA (o := 1) (ci := 8) (j := 0) dX8_studySet_82 kr_at_334 fl_RX8_9 rfl ?_
  refine kr_iload_n dX8_studySet_85 rfl 2 rfl ?_
  refine kr_iload dX8_studySet_86 4 rfl ?_
  refine kr_iconst (v := 1) dX8_studySet_88 (by decide) ?_
  refine kr_iadd dX8_studySet_89 ?_
  refine kr_iast dX8_studySet_90 kr_at_335 (fun M1 => ?_)
  refine kr_aload_n dX8_studySet_91 rfl 0 rfl ?_
  refine kr_getA (o := 2) (ci := 8) (j := 1) dX8_studySet_92 kr_at_334 fl_RX8_15 rfl ?_
  refine kr_iload_n dX8_studySet_95 rfl 2 rfl ?_
  refine kr_iload_n dX8_studySet_96 rfl 3 rfl ?_
  refine kr_iast dX8_studySet_97 kr_at_336 (fun M2 => ?_)
  refine kr_sub [0, 1, 2, 3] rfl ?_
  exact r_X8_studySet_98 E _ l1 h_l1 l2 l3 hk_28 M2
theorem r_X8_studySet_28 (E : kr_E)  (l1 : Nat) (h_l1 : kr_sh l1 = (2, 0)) (l2 : Int32)  : ∀ (n : Nat) (l3 : Int32) (M : kr_M), kR kr_vv E Y_X8_studySet 3 28 [(0, kr_r E 334), (1, kr_r E l1), (2, .int l2), (3, .int l3)] [] M (f_X8_studySet_28 l1 l2 n l3 M) := by
  intro n
  induction n with
  | zero => intro l3 M; exact kr_none
  | succ n ih =>
    intro l3 M
    rw [f_X8_studySet_28]
    refine kr_iload_n dX8_studySet_28 rfl 3 rfl ?_
    refine kr_bipush (v := 24) dX8_studySet_29 (by decide) ?_
    refine kr_icmp_ge (tgt := 104) dX8_studySet_31 (by decide) ?_ ?_
    · exact kr_vret dX8_studySet_104 rfl
    · refine kr_aload_n dX8_studySet_34 rfl 0 rfl ?_
      refine kr_getA (o := 1) (ci := 8) (j := 0) dX8_studySet_35 kr_at_334 fl_RX8_9 rfl ?_
      refine kr_iload_n dX8_studySet_38 rfl 2 rfl ?_
      refine kr_iald dX8_studySet_39 kr_at_335 (fun v1 => ?_)
      refine kr_if_eq (tgt := 104) dX8_studySet_40 (by decide) ?_ ?_
      · exact kr_vret dX8_studySet_104 rfl
      · refine kr_aload_n dX8_studySet_43 rfl 0 rfl ?_
        refine kr_aload_n dX8_studySet_44 rfl 1 rfl ?_
        refine kr_iload_n dX8_studySet_45 rfl 2 rfl ?_
        refine kr_iload_n dX8_studySet_46 rfl 3 rfl ?_
        refine kr_Vi (As := [kr_r E l1, .int l2, .int l3]) (st := []) zv_X8_worstBehind dX8_studySet_47 ml_RX8_31 kr_at_334 (r_X8_worstBehind E l1 h_l1 l2 l3 M) rfl rfl (Nat.le_of_ble_eq_true rfl) rfl (by decide) (Nat.le_of_ble_eq_true rfl) (fun r3 M2 => ?_)
        refine kr_istore (lv' := [(4, .int r3), (0, kr_r E 334), (1, kr_r E l1), (2, .int l2), (3, .int l3)]) dX8_studySet_50 (by decide) rfl ?_
        refine kr_iload dX8_studySet_52 0 rfl ?_
        refine kr_iconst (v := -1) dX8_studySet_54 (by decide) ?_
        refine kr_icmp_eq (tgt := 98) dX8_studySet_55 (by decide) ?_ ?_
        · refine kr_sub [1, 2, 3, 4] rfl ?_
          exact r_X8_studySet_98 E _ l1 h_l1 l2 l3 ih M2
        · refine kr_aload_n dX8_studySet_58 rfl 1 rfl ?_
          refine kr_getA (o := 1) (ci := 8) (j := 0) dX8_studySet_59 kr_at_334 fl_RX8_9 rfl ?_
          refine kr_iload_n dX8_studySet_62 rfl 3 rfl ?_
          refine kr_iald dX8_studySet_63 kr_at_335 (fun v4 => ?_)
          refine kr_iconst (v := -1) dX8_studySet_64 (by decide) ?_
          refine kr_icmp_eq (tgt := 81) dX8_studySet_65 (by decide) ?_ ?_
          · refine kr_sub [1, 2, 3, 4, 0] rfl ?_
            exact r_X8_studySet_81 E _ l1 h_l1 l2 l3 r3 ih M2
          · refine kr_iload dX8_studySet_68 0 rfl ?_
            refine kr_iconst (v := 1) dX8_studySet_70 (by decide) ?_
            refine kr_iadd dX8_studySet_71 ?_
            refine kr_aload_n dX8_studySet_72 rfl 1 rfl ?_
            refine kr_getA (o := 1) (ci := 8) (j := 0) dX8_studySet_73 kr_at_334 fl_RX8_9 rfl ?_
            refine kr_iload_n dX8_studySet_76 rfl 3 rfl ?_
            refine kr_iald dX8_studySet_77 kr_at_335 (fun v5 => ?_)
            refine kr_icmp_ge (tgt := 98) dX8_studySet_78 (by decide) ?_ ?_
            · refine kr_sub [1, 2, 3, 4] rfl ?_
              exact r_X8_studySet_98 E _ l1 h_l1 l2 l3 ih M2
            · refine kr_sub [1, 2, 3, 4, 0] rfl ?_
              exact r_X8_studySet_81 E _ l1 h_l1 l2 l3 r3 ih M2
theorem r_X8_studySet_25 (E : kr_E)  (l1 : Nat) (h_l1 : kr_sh l1 = (2, 0)) (l2 : Int32) (s0 : Int32) (s1 : Int32)  (M : kr_M) : kR kr_vv E Y_X8_studySet 3 25 [(0, kr_r E 334), (1, kr_r E l1), (2, .int l2)] [.int s0, .int s1, kr_r E 335] M (f_X8_studySet_25 l1 l2 s0 s1 M) := by
  rw [f_X8_studySet_25]
  refine kr_iast dX8_studySet_25 kr_at_335 (fun M1 => ?_)
  refine kr_iconst (v := 0) dX8_studySet_26 (by decide) ?_
  refine kr_istore_n (lv' := [(3, .int (0 : Int32)), (0, kr_r E 334), (1, kr_r E l1), (2, .int l2)]) dX8_studySet_27 rfl (by decide) rfl ?_
  refine kr_sub [1, 2, 3, 0] rfl ?_
  exact r_X8_studySet_28 E l1 h_l1 l2 _ (0 : Int32) M1
theorem r_X8_studySet (E : kr_E) (p1 : Nat) (h_p1 : kr_sh p1 = (2, 0)) (p2 : Int32) (M : kr_M) : kR kr_vv E Y_X8_studySet 3 0 [(0, kr_r E 334), (1, kr_r E p1), (2, .int p2)] [] M (f_X8_studySet p1 p2 M) := by
  rw [f_X8_studySet]
  refine kr_aload_n dX8_studySet_0 rfl 0 rfl ?_
  refine kr_getA (o := 2) (ci := 8) (j := 1) dX8_studySet_1 kr_at_334 fl_RX8_15 rfl ?_
  refine kr_iload_n dX8_studySet_4 rfl 2 rfl ?_
  refine kr_iconst (v := -1) dX8_studySet_5 (by decide) ?_
  refine kr_iast dX8_studySet_6 kr_at_336 (fun M1 => ?_)
  refine kr_aload_n dX8_studySet_7 rfl 0 rfl ?_
  refine kr_getA (o := 1) (ci := 8) (j := 0) dX8_studySet_8 kr_at_334 fl_RX8_9 rfl ?_
  refine kr_iload_n dX8_studySet_11 rfl 2 rfl ?_
  refine kr_iload_n dX8_studySet_12 rfl 2 rfl ?_
  refine kr_Si (As := [.int p2]) (st := [.int p2, kr_r E 335]) zs_J6_bitCount_0f7a4 dX8_studySet_13 ml_RX8_25 (r_J6_bitCount_0f7a4 E p2 M1) rfl rfl (Nat.le_of_ble_eq_true rfl) rfl (by decide) (Nat.le_of_ble_eq_true rfl) (fun r3 M2 => ?_)
  refine kr_iconst (v := 1) dX8_studySet_16 (by decide) ?_
  refine kr_icmp_ne (tgt := 24) dX8_studySet_17 (by decide) ?_ ?_
  · refine kr_iconst (v := -1) dX8_studySet_24 (by decide) ?_
    refine kr_sub [0, 1, 2] rfl ?_
    exact r_X8_studySet_25 E p1 h_p1 p2 (-1 : Int32) p2 M2
  · refine kr_iconst (v := 0) dX8_studySet_20 (by decide) ?_
    refine kr_goto (tgt := 25) dX8_studySet_21 (by decide) ?_
    refine kr_sub [0, 1, 2] rfl ?_
    exact r_X8_studySet_25 E p1 h_p1 p2 (0 : Int32) p2 M2
theorem dX8_study_0 : decode cX8_study 0 = .ok (.iconst 1, 1) := by decide +kernel
theorem dX8_study_1 : decode cX8_study 1 = .ok (.istore_n 3, 1) := by decide +kernel
theorem dX8_study_2 : decode cX8_study 2 = .ok (.iload_n 3, 1) := by decide +kernel
theorem dX8_study_3 : decode cX8_study 3 = .ok (.iload_n 2, 1) := by decide +kernel
theorem dX8_study_4 : decode cX8_study 4 = .ok (.if_icmp .gt 23, 3) := by decide +kernel
theorem dX8_study_7 : decode cX8_study 7 = .ok (.iload_n 3, 1) := by decide +kernel
theorem dX8_study_8 : decode cX8_study 8 = .ok (.iload_n 2, 1) := by decide +kernel
theorem dX8_study_9 : decode cX8_study 9 = .ok (.iconst (-1), 1) := by decide +kernel
theorem dX8_study_10 : decode cX8_study 10 = .ok (.ixor, 1) := by decide +kernel
theorem dX8_study_11 : decode cX8_study 11 = .ok (.iand, 1) := by decide +kernel
theorem dX8_study_12 : decode cX8_study 12 = .ok (.ifCond .ne 9, 3) := by decide +kernel
theorem dX8_study_15 : decode cX8_study 15 = .ok (.aload_n 0, 1) := by decide +kernel
theorem dX8_study_16 : decode cX8_study 16 = .ok (.aload_n 1, 1) := by decide +kernel
theorem dX8_study_17 : decode cX8_study 17 = .ok (.iload_n 3, 1) := by decide +kernel
theorem dX8_study_18 : decode cX8_study 18 = .ok (.invokevirtual 21, 3) := by decide +kernel
theorem dX8_study_21 : decode cX8_study 21 = .ok (.iinc 3 1, 3) := by decide +kernel
theorem dX8_study_24 : decode cX8_study 24 = .ok (.goto (-22), 3) := by decide +kernel
theorem dX8_study_27 : decode cX8_study 27 = .ok (.return_, 1) := by decide +kernel
theorem r_X8_study_21 (E : kr_E) (k_2 : Int32 → kr_M → Option kr_M) (l1 : Nat) (h_l1 : kr_sh l1 = (2, 0)) (l2 : Int32) (l3 : Int32) (hk_2 : ∀ (x3 : Int32) (M : kr_M), kR kr_vv E Y_X8_study 4 2 [(0, kr_r E 334), (1, kr_r E l1), (2, .int l2), (3, .int x3)] [] M (k_2 x3 M)) (M : kr_M) : kR kr_vv E Y_X8_study 4 21 [(0, kr_r E 334), (1, kr_r E l1), (2, .int l2), (3, .int l3)] [] M (f_X8_study_21 k_2 l3 M) := by
  rw [f_X8_study_21]
  refine kr_iinc (j := 3) (v := (l3 + (1 : Int32))) (lv' := [(3, .int (l3 + (1 : Int32))), (0, kr_r E 334), (1, kr_r E l1), (2, .int l2)]) dX8_study_21 rfl rfl (by decide) rfl ?_
  refine kr_goto (tgt := 2) dX8_study_24 (by decide) ?_
  refine kr_sub [1, 2, 3, 0] rfl ?_
  exact hk_2 (l3 + (1 : Int32)) M
theorem r_X8_study_2 (E : kr_E)  (l1 : Nat) (h_l1 : kr_sh l1 = (2, 0)) (l2 : Int32)  : ∀ (n : Nat) (l3 : Int32) (M : kr_M), kR kr_vv E Y_X8_study 4 2 [(0, kr_r E 334), (1, kr_r E l1), (2, .int l2), (3, .int l3)] [] M (f_X8_study_2 l1 l2 n l3 M) := by
  intro n
  induction n with
  | zero => intro l3 M; exact kr_none
  | succ n ih =>
    intro l3 M
    rw [f_X8_study_2]
    refine kr_iload_n dX8_study_2 rfl 3 rfl ?_
    refine kr_iload_n dX8_study_3 rfl 2 rfl ?_
    refine kr_icmp_gt (tgt := 27) dX8_study_4 (by decide) ?_ ?_
    · exact kr_vret dX8_study_27 rfl
    · refine kr_iload_n dX8_study_7 rfl 3 rfl ?_
      refine kr_iload_n dX8_study_8 rfl 2 rfl ?_
      refine kr_iconst (v := -1) dX8_study_9 (by decide) ?_
      refine kr_ixor dX8_study_10 ?_
      refine kr_iand dX8_study_11 ?_
      refine kr_if_ne (tgt := 21) dX8_study_12 (by decide) ?_ ?_
      · refine kr_sub [0, 1, 2, 3] rfl ?_
        exact r_X8_study_21 E _ l1 h_l1 l2 l3 ih M
      · refine kr_aload_n dX8_study_15 rfl 0 rfl ?_
        refine kr_aload_n dX8_study_16 rfl 1 rfl ?_
        refine kr_iload_n dX8_study_17 rfl 3 rfl ?_
        refine kr_Vv (As := [kr_r E l1, .int l3]) (st := []) zv_X8_studySet dX8_study_18 ml_RX8_21 kr_at_334 (r_X8_studySet E l1 h_l1 l3 M) rfl rfl (Nat.le_of_ble_eq_true rfl) rfl (by decide) (Nat.le_of_ble_eq_true rfl) (fun M1 => ?_)
        refine kr_sub [0, 1, 2, 3] rfl ?_
        exact r_X8_study_21 E _ l1 h_l1 l2 l3 ih M1
theorem r_X8_study (E : kr_E) (p1 : Nat) (h_p1 : kr_sh p1 = (2, 0)) (p2 : Int32) (M : kr_M) : kR kr_vv E Y_X8_study 4 0 [(0, kr_r E 334), (1, kr_r E p1), (2, .int p2)] [] M (f_X8_study p1 p2 M) := by
  rw [f_X8_study]
  refine kr_iconst (v := 1) dX8_study_0 (by decide) ?_
  refine kr_istore_n (lv' := [(3, .int (1 : Int32)), (0, kr_r E 334), (1, kr_r E p1), (2, .int p2)]) dX8_study_1 rfl (by decide) rfl ?_
  refine kr_sub [1, 2, 3, 0] rfl ?_
  exact r_X8_study_2 E p1 h_p1 p2 _ (1 : Int32) M
theorem dX9_shorten_0 : decode cX9_shorten 0 = .ok (.iload_n 1, 1) := by decide +kernel
theorem dX9_shorten_1 : decode cX9_shorten 1 = .ok (.bipush 6, 2) := by decide +kernel
theorem dX9_shorten_3 : decode cX9_shorten 3 = .ok (.imul, 1) := by decide +kernel
theorem dX9_shorten_4 : decode cX9_shorten 4 = .ok (.iload_n 2, 1) := by decide +kernel
theorem dX9_shorten_5 : decode cX9_shorten 5 = .ok (.iadd, 1) := by decide +kernel
theorem dX9_shorten_6 : decode cX9_shorten 6 = .ok (.istore 4, 2) := by decide +kernel
theorem dX9_shorten_8 : decode cX9_shorten 8 = .ok (.aload_n 0, 1) := by decide +kernel
theorem dX9_shorten_9 : decode cX9_shorten 9 = .ok (.getfield 15, 3) := by decide +kernel
theorem dX9_shorten_12 : decode cX9_shorten 12 = .ok (.iload 4, 2) := by decide +kernel
theorem dX9_shorten_14 : decode cX9_shorten 14 = .ok (.aload_n 0, 1) := by decide +kernel
theorem dX9_shorten_15 : decode cX9_shorten 15 = .ok (.getfield 15, 3) := by decide +kernel
theorem dX9_shorten_18 : decode cX9_shorten 18 = .ok (.iload 4, 2) := by decide +kernel
theorem dX9_shorten_20 : decode cX9_shorten 20 = .ok (.iaload, 1) := by decide +kernel
theorem dX9_shorten_21 : decode cX9_shorten 21 = .ok (.iload_n 3, 1) := by decide +kernel
theorem dX9_shorten_22 : decode cX9_shorten 22 = .ok (.invokestatic 73, 3) := by decide +kernel
theorem dX9_shorten_25 : decode cX9_shorten 25 = .ok (.iastore, 1) := by decide +kernel
theorem dX9_shorten_26 : decode cX9_shorten 26 = .ok (.return_, 1) := by decide +kernel
theorem r_X9_shorten (E : kr_E) (p1 : Int32) (p2 : Int32) (p3 : Int32) (M : kr_M) : kR kr_vv E Y_X9_shorten 3 0 [(0, kr_r E 338), (1, .int p1), (2, .int p2), (3, .int p3)] [] M (f_X9_shorten p1 p2 p3 M) := by
  rw [f_X9_shorten]
  refine kr_iload_n dX9_shorten_0 rfl 1 rfl ?_
  refine kr_bipush (v := 6) dX9_shorten_1 (by decide) ?_
  refine kr_imul dX9_shorten_3 ?_
  refine kr_iload_n dX9_shorten_4 rfl 2 rfl ?_
  refine kr_iadd dX9_shorten_5 ?_
  refine kr_nmi (fun v1 => ?_)
  refine kr_istore (lv' := [(4, .int v1), (0, kr_r E 338), (1, .int p1), (2, .int p2), (3, .int p3)]) dX9_shorten_6 (by decide) rfl ?_
  refine kr_aload_n dX9_shorten_8 rfl 1 rfl ?_
  refine kr_getA (o := 2) (ci := 9) (j := 1) dX9_shorten_9 kr_at_338 fl_RX9_15 rfl ?_
  refine kr_iload dX9_shorten_12 0 rfl ?_
  refine kr_aload_n dX9_shorten_14 rfl 1 rfl ?_
  refine kr_getA (o := 2) (ci := 9) (j := 1) dX9_shorten_15 kr_at_338 fl_RX9_15 rfl ?_
  refine kr_iload dX9_shorten_18 0 rfl ?_
  refine kr_iald dX9_shorten_20 kr_at_340 (fun v2 => ?_)
  refine kr_iload_n dX9_shorten_21 rfl 4 rfl ?_
  refine kr_Ni (As := [.int v2, .int p3]) (st := [.int v1, kr_r E 340]) zs_X11_lesser dX9_shorten_22 rfl (by decide) (r_X11_lesser E v2 p3 M) rfl rfl (Nat.le_of_ble_eq_true rfl) rfl (by decide) (Nat.le_of_ble_eq_true rfl) (fun r4 M3 => ?_)
  refine kr_iast dX9_shorten_25 kr_at_340 (fun M5 => ?_)
  exact kr_vret dX9_shorten_26 rfl
theorem dX9_timeFrom_0 : decode cX9_timeFrom 0 = .ok (.aload_n 0, 1) := by decide +kernel
theorem dX9_timeFrom_1 : decode cX9_timeFrom 1 = .ok (.getfield 15, 3) := by decide +kernel
theorem dX9_timeFrom_4 : decode cX9_timeFrom 4 = .ok (.iload_n 1, 1) := by decide +kernel
theorem dX9_timeFrom_5 : decode cX9_timeFrom 5 = .ok (.bipush 6, 2) := by decide +kernel
theorem dX9_timeFrom_7 : decode cX9_timeFrom 7 = .ok (.imul, 1) := by decide +kernel
theorem dX9_timeFrom_8 : decode cX9_timeFrom 8 = .ok (.iload_n 2, 1) := by decide +kernel
theorem dX9_timeFrom_9 : decode cX9_timeFrom 9 = .ok (.iadd, 1) := by decide +kernel
theorem dX9_timeFrom_10 : decode cX9_timeFrom 10 = .ok (.iaload, 1) := by decide +kernel
theorem dX9_timeFrom_11 : decode cX9_timeFrom 11 = .ok (.ireturn, 1) := by decide +kernel
theorem r_X9_timeFrom (E : kr_E) (p1 : Int32) (p2 : Int32) (M : kr_M) : kR kr_vi E Y_X9_timeFrom 1 0 [(0, kr_r E 338), (1, .int p1), (2, .int p2)] [] M (f_X9_timeFrom p1 p2 M) := by
  rw [f_X9_timeFrom]
  refine kr_aload_n dX9_timeFrom_0 rfl 0 rfl ?_
  refine kr_getA (o := 2) (ci := 9) (j := 1) dX9_timeFrom_1 kr_at_338 fl_RX9_15 rfl ?_
  refine kr_iload_n dX9_timeFrom_4 rfl 1 rfl ?_
  refine kr_bipush (v := 6) dX9_timeFrom_5 (by decide) ?_
  refine kr_imul dX9_timeFrom_7 ?_
  refine kr_iload_n dX9_timeFrom_8 rfl 2 rfl ?_
  refine kr_iadd dX9_timeFrom_9 ?_
  refine kr_iald dX9_timeFrom_10 kr_at_340 (fun v1 => ?_)
  exact kr_iret dX9_timeFrom_11 rfl
theorem dX9_together_0 : decode cX9_together 0 = .ok (.iload_n 0, 1) := by decide +kernel
theorem dX9_together_1 : decode cX9_together 1 = .ok (.iconst (-1), 1) := by decide +kernel
theorem dX9_together_2 : decode cX9_together 2 = .ok (.if_icmp .eq 8, 3) := by decide +kernel
theorem dX9_together_5 : decode cX9_together 5 = .ok (.iload_n 1, 1) := by decide +kernel
theorem dX9_together_6 : decode cX9_together 6 = .ok (.iconst (-1), 1) := by decide +kernel
theorem dX9_together_7 : decode cX9_together 7 = .ok (.if_icmp .ne 7, 3) := by decide +kernel
theorem dX9_together_10 : decode cX9_together 10 = .ok (.iconst (-1), 1) := by decide +kernel
theorem dX9_together_11 : decode cX9_together 11 = .ok (.goto 6, 3) := by decide +kernel
theorem dX9_together_14 : decode cX9_together 14 = .ok (.iload_n 0, 1) := by decide +kernel
theorem dX9_together_15 : decode cX9_together 15 = .ok (.iload_n 1, 1) := by decide +kernel
theorem dX9_together_16 : decode cX9_together 16 = .ok (.iadd, 1) := by decide +kernel
theorem dX9_together_17 : decode cX9_together 17 = .ok (.ireturn, 1) := by decide +kernel
theorem r_X9_together_10 (E : kr_E)    (M : kr_M) : kR kr_vi E Y_X9_together 1 10 [] [] M (f_X9_together_10 M) := by
  rw [f_X9_together_10]
  refine kr_iconst (v := -1) dX9_together_10 (by decide) ?_
  refine kr_goto (tgt := 17) dX9_together_11 (by decide) ?_
  exact kr_iret dX9_together_17 rfl
theorem r_X9_together (E : kr_E) (p0 : Int32) (p1 : Int32) (M : kr_M) : kR kr_vi E Y_X9_together 1 0 [(0, .int p0), (1, .int p1)] [] M (f_X9_together p0 p1 M) := by
  rw [f_X9_together]
  refine kr_iload_n dX9_together_0 rfl 0 rfl ?_
  refine kr_iconst (v := -1) dX9_together_1 (by decide) ?_
  refine kr_icmp_eq (tgt := 10) dX9_together_2 (by decide) ?_ ?_
  · refine kr_sub [] rfl ?_
    exact r_X9_together_10 E M
  · refine kr_iload_n dX9_together_5 rfl 1 rfl ?_
    refine kr_iconst (v := -1) dX9_together_6 (by decide) ?_
    refine kr_icmp_ne (tgt := 14) dX9_together_7 (by decide) ?_ ?_
    · refine kr_iload_n dX9_together_14 rfl 0 rfl ?_
      refine kr_iload_n dX9_together_15 rfl 1 rfl ?_
      refine kr_iadd dX9_together_16 ?_
      exact kr_iret dX9_together_17 rfl
    · refine kr_sub [] rfl ?_
      exact r_X9_together_10 E M
theorem dX9_goOver_0 : decode cX9_goOver 0 = .ok (.iconst 0, 1) := by decide +kernel
theorem dX9_goOver_1 : decode cX9_goOver 1 = .ok (.istore_n 3, 1) := by decide +kernel
theorem dX9_goOver_2 : decode cX9_goOver 2 = .ok (.iload_n 3, 1) := by decide +kernel
theorem dX9_goOver_3 : decode cX9_goOver 3 = .ok (.iload_n 1, 1) := by decide +kernel
theorem dX9_goOver_4 : decode cX9_goOver 4 = .ok (.if_icmp .ge 47, 3) := by decide +kernel
theorem dX9_goOver_7 : decode cX9_goOver 7 = .ok (.iconst 0, 1) := by decide +kernel
theorem dX9_goOver_8 : decode cX9_goOver 8 = .ok (.istore 4, 2) := by decide +kernel
theorem dX9_goOver_10 : decode cX9_goOver 10 = .ok (.iload 4, 2) := by decide +kernel
theorem dX9_goOver_12 : decode cX9_goOver 12 = .ok (.iload_n 1, 1) := by decide +kernel
theorem dX9_goOver_13 : decode cX9_goOver 13 = .ok (.if_icmp .ge 32, 3) := by decide +kernel
theorem dX9_goOver_16 : decode cX9_goOver 16 = .ok (.aload_n 0, 1) := by decide +kernel
theorem dX9_goOver_17 : decode cX9_goOver 17 = .ok (.iload_n 3, 1) := by decide +kernel
theorem dX9_goOver_18 : decode cX9_goOver 18 = .ok (.iload 4, 2) := by decide +kernel
theorem dX9_goOver_20 : decode cX9_goOver 20 = .ok (.aload_n 0, 1) := by decide +kernel
theorem dX9_goOver_21 : decode cX9_goOver 21 = .ok (.iload_n 3, 1) := by decide +kernel
theorem dX9_goOver_22 : decode cX9_goOver 22 = .ok (.iload_n 2, 1) := by decide +kernel
theorem dX9_goOver_23 : decode cX9_goOver 23 = .ok (.invokevirtual 66, 3) := by decide +kernel
theorem dX9_goOver_26 : decode cX9_goOver 26 = .ok (.aload_n 0, 1) := by decide +kernel
theorem dX9_goOver_27 : decode cX9_goOver 27 = .ok (.iload_n 2, 1) := by decide +kernel
theorem dX9_goOver_28 : decode cX9_goOver 28 = .ok (.iload 4, 2) := by decide +kernel
theorem dX9_goOver_30 : decode cX9_goOver 30 = .ok (.invokevirtual 66, 3) := by decide +kernel
theorem dX9_goOver_33 : decode cX9_goOver 33 = .ok (.invokestatic 70, 3) := by decide +kernel
theorem dX9_goOver_36 : decode cX9_goOver 36 = .ok (.invokevirtual 55, 3) := by decide +kernel
theorem dX9_goOver_39 : decode cX9_goOver 39 = .ok (.iinc 4 1, 3) := by decide +kernel
theorem dX9_goOver_42 : decode cX9_goOver 42 = .ok (.goto (-32), 3) := by decide +kernel
theorem dX9_goOver_45 : decode cX9_goOver 45 = .ok (.iinc 3 1, 3) := by decide +kernel
theorem dX9_goOver_48 : decode cX9_goOver 48 = .ok (.goto (-46), 3) := by decide +kernel
theorem dX9_goOver_51 : decode cX9_goOver 51 = .ok (.return_, 1) := by decide +kernel
theorem r_X9_goOver_45 (E : kr_E) (k_2 : Int32 → kr_M → Option kr_M) (l1 : Int32) (l2 : Int32) (l3 : Int32) (hk_2 : ∀ (x3 : Int32) (M : kr_M), kR kr_vv E Y_X9_goOver 4 2 [(0, kr_r E 338), (1, .int l1), (2, .int l2), (3, .int x3)] [] M (k_2 x3 M)) (M : kr_M) : kR kr_vv E Y_X9_goOver 4 45 [(0, kr_r E 338), (1, .int l1), (2, .int l2), (3, .int l3)] [] M (f_X9_goOver_45 k_2 l3 M) := by
  rw [f_X9_goOver_45]
  refine kr_iinc (j := 3) (v := (l3 + (1 : Int32))) (lv' := [(3, .int (l3 + (1 : Int32))), (0, kr_r E 338), (1, .int l1), (2, .int l2)]) dX9_goOver_45 rfl rfl (by decide) rfl ?_
  refine kr_goto (tgt := 2) dX9_goOver_48 (by decide) ?_
  refine kr_sub [1, 2, 3, 0] rfl ?_
  exact hk_2 (l3 + (1 : Int32)) M
theorem r_X9_goOver_10 (E : kr_E) (k_2 : Int32 → kr_M → Option kr_M) (l1 : Int32) (l2 : Int32) (l3 : Int32) (hk_2 : ∀ (x3 : Int32) (M : kr_M), kR kr_vv E Y_X9_goOver 4 2 [(0, kr_r E 338), (1, .int l1), (2, .int l2), (3, .int x3)] [] M (k_2 x3 M)) : ∀ (n : Nat) (l4 : Int32) (M : kr_M), kR kr_vv E Y_X9_goOver 4 10 [(0, kr_r E 338), (1, .int l1), (2, .int l2), (3, .int l3), (4, .int l4)] [] M (f_X9_goOver_10 k_2 l1 l2 l3 n l4 M) := by
  intro n
  induction n with
  | zero => intro l4 M; exact kr_none
  | succ n ih =>
    intro l4 M
    rw [f_X9_goOver_10]
    refine kr_iload dX9_goOver_10 4 rfl ?_
    refine kr_iload_n dX9_goOver_12 rfl 1 rfl ?_
    refine kr_icmp_ge (tgt := 45) dX9_goOver_13 (by decide) ?_ ?_
    · refine kr_sub [0, 1, 2, 3] rfl ?_
      exact r_X9_goOver_45 E _ l1 l2 l3 hk_2 M
    · refine kr_aload_n dX9_goOver_16 rfl 0 rfl ?_
      refine kr_iload_n dX9_goOver_17 rfl 3 rfl ?_
      refine kr_iload dX9_goOver_18 4 rfl ?_
      refine kr_aload_n dX9_goOver_20 rfl 0 rfl ?_
      refine kr_iload_n dX9_goOver_21 rfl 3 rfl ?_
      refine kr_iload_n dX9_goOver_22 rfl 2 rfl ?_
      refine kr_Vi (As := [.int l3, .int l2]) (st := [.int l4, .int l3, kr_r E 338]) zv_X9_timeFrom dX9_goOver_23 ml_RX9_66 kr_at_338 (r_X9_timeFrom E l3 l2 M) rfl rfl (Nat.le_of_ble_eq_true rfl) rfl (by decide) (Nat.le_of_ble_eq_true rfl) (fun r2 M1 => ?_)
      refine kr_aload_n dX9_goOver_26 rfl 0 rfl ?_
      refine kr_iload_n dX9_goOver_27 rfl 2 rfl ?_
      refine kr_iload dX9_goOver_28 4 rfl ?_
      refine kr_Vi (As := [.int l2, .int l4]) (st := [.int r2, .int l4, .int l3, kr_r E 338]) zv_X9_timeFrom dX9_goOver_30 ml_RX9_66 kr_at_338 (r_X9_timeFrom E l2 l4 M1) rfl rfl (Nat.le_of_ble_eq_true rfl) rfl (by decide) (Nat.le_of_ble_eq_true rfl) (fun r4 M3 => ?_)
      refine kr_Si (As := [.int r2, .int r4]) (st := [.int l4, .int l3, kr_r E 338]) zs_X9_together dX9_goOver_33 ml_RX9_70 (r_X9_together E r2 r4 M3) rfl rfl (Nat.le_of_ble_eq_true rfl) rfl (by decide) (Nat.le_of_ble_eq_true rfl) (fun r6 M5 => ?_)
      refine kr_Vv (As := [.int l3, .int l4, .int r6]) (st := []) zv_X9_shorten dX9_goOver_36 ml_RX9_55 kr_at_338 (r_X9_shorten E l3 l4 r6 M5) rfl rfl (Nat.le_of_ble_eq_true rfl) rfl (by decide) (Nat.le_of_ble_eq_true rfl) (fun M7 => ?_)
      refine kr_iinc (j := 4) (v := (l4 + (1 : Int32))) (lv' := [(4, .int (l4 + (1 : Int32))), (0, kr_r E 338), (1, .int l1), (2, .int l2), (3, .int l3)]) dX9_goOver_39 rfl rfl (by decide) rfl ?_
      refine kr_goto (tgt := 10) dX9_goOver_42 (by decide) ?_
      refine kr_sub [1, 2, 3, 4, 0] rfl ?_
      exact ih (l4 + (1 : Int32)) M7
theorem r_X9_goOver_2 (E : kr_E)  (l1 : Int32) (l2 : Int32)  : ∀ (n : Nat) (l3 : Int32) (M : kr_M), kR kr_vv E Y_X9_goOver 4 2 [(0, kr_r E 338), (1, .int l1), (2, .int l2), (3, .int l3)] [] M (f_X9_goOver_2 l1 l2 n l3 M) := by
  intro n
  induction n with
  | zero => intro l3 M; exact kr_none
  | succ n ih =>
    intro l3 M
    rw [f_X9_goOver_2]
    refine kr_iload_n dX9_goOver_2 rfl 3 rfl ?_
    refine kr_iload_n dX9_goOver_3 rfl 1 rfl ?_
    refine kr_icmp_ge (tgt := 51) dX9_goOver_4 (by decide) ?_ ?_
    · exact kr_vret dX9_goOver_51 rfl
    · refine kr_iconst (v := 0) dX9_goOver_7 (by decide) ?_
      refine kr_istore (lv' := [(4, .int (0 : Int32)), (0, kr_r E 338), (1, .int l1), (2, .int l2), (3, .int l3)]) dX9_goOver_8 (by decide) rfl ?_
      refine kr_sub [1, 2, 3, 4, 0] rfl ?_
      exact r_X9_goOver_10 E _ l1 l2 l3 ih _ (0 : Int32) M
theorem r_X9_goOver (E : kr_E) (p1 : Int32) (p2 : Int32) (M : kr_M) : kR kr_vv E Y_X9_goOver 4 0 [(0, kr_r E 338), (1, .int p1), (2, .int p2)] [] M (f_X9_goOver p1 p2 M) := by
  rw [f_X9_goOver]
  refine kr_iconst (v := 0) dX9_goOver_0 (by decide) ?_
  refine kr_istore_n (lv' := [(3, .int (0 : Int32)), (0, kr_r E 338), (1, .int p1), (2, .int p2)]) dX9_goOver_1 rfl (by decide) rfl ?_
  refine kr_sub [1, 2, 3, 0] rfl ?_
  exact r_X9_goOver_2 E p1 p2 _ (0 : Int32) M
theorem dX9_study_0 : decode cX9_study 0 = .ok (.aload_n 0, 1) := by decide +kernel
theorem dX9_study_1 : decode cX9_study 1 = .ok (.getfield 15, 3) := by decide +kernel
theorem dX9_study_4 : decode cX9_study 4 = .ok (.iconst (-1), 1) := by decide +kernel
theorem dX9_study_5 : decode cX9_study 5 = .ok (.invokestatic 18, 3) := by decide +kernel
theorem dX9_study_8 : decode cX9_study 8 = .ok (.iconst 0, 1) := by decide +kernel
theorem dX9_study_9 : decode cX9_study 9 = .ok (.istore 4, 2) := by decide +kernel
theorem dX9_study_11 : decode cX9_study 11 = .ok (.iload 4, 2) := by decide +kernel
theorem dX9_study_13 : decode cX9_study 13 = .ok (.bipush 6, 2) := by decide +kernel
theorem dX9_study_15 : decode cX9_study 15 = .ok (.if_icmp .ge 23, 3) := by decide +kernel
theorem dX9_study_18 : decode cX9_study 18 = .ok (.aload_n 0, 1) := by decide +kernel
theorem dX9_study_19 : decode cX9_study 19 = .ok (.getfield 15, 3) := by decide +kernel
theorem dX9_study_22 : decode cX9_study 22 = .ok (.iload 4, 2) := by decide +kernel
theorem dX9_study_24 : decode cX9_study 24 = .ok (.bipush 6, 2) := by decide +kernel
theorem dX9_study_26 : decode cX9_study 26 = .ok (.imul, 1) := by decide +kernel
theorem dX9_study_27 : decode cX9_study 27 = .ok (.iload 4, 2) := by decide +kernel
theorem dX9_study_29 : decode cX9_study 29 = .ok (.iadd, 1) := by decide +kernel
theorem dX9_study_30 : decode cX9_study 30 = .ok (.iconst 0, 1) := by decide +kernel
theorem dX9_study_31 : decode cX9_study 31 = .ok (.iastore, 1) := by decide +kernel
theorem dX9_study_32 : decode cX9_study 32 = .ok (.iinc 4 1, 3) := by decide +kernel
theorem dX9_study_35 : decode cX9_study 35 = .ok (.goto (-24), 3) := by decide +kernel
theorem dX9_study_38 : decode cX9_study 38 = .ok (.iconst 0, 1) := by decide +kernel
theorem dX9_study_39 : decode cX9_study 39 = .ok (.istore 4, 2) := by decide +kernel
theorem dX9_study_41 : decode cX9_study 41 = .ok (.iload 4, 2) := by decide +kernel
theorem dX9_study_43 : decode cX9_study 43 = .ok (.aload_n 1, 1) := by decide +kernel
theorem dX9_study_44 : decode cX9_study 44 = .ok (.getfield 24, 3) := by decide +kernel
theorem dX9_study_47 : decode cX9_study 47 = .ok (.if_icmp .ge 133, 3) := by decide +kernel
theorem dX9_study_50 : decode cX9_study 50 = .ok (.iload 4, 2) := by decide +kernel
theorem dX9_study_52 : decode cX9_study 52 = .ok (.iload_n 3, 1) := by decide +kernel
theorem dX9_study_53 : decode cX9_study 53 = .ok (.if_icmp .eq 22, 3) := by decide +kernel
theorem dX9_study_56 : decode cX9_study 56 = .ok (.aload_n 1, 1) := by decide +kernel
theorem dX9_study_57 : decode cX9_study 57 = .ok (.getfield 30, 3) := by decide +kernel
theorem dX9_study_60 : decode cX9_study 60 = .ok (.iload_n 2, 1) := by decide +kernel
theorem dX9_study_61 : decode cX9_study 61 = .ok (.iaload, 1) := by decide +kernel
theorem dX9_study_62 : decode cX9_study 62 = .ok (.aload_n 1, 1) := by decide +kernel
theorem dX9_study_63 : decode cX9_study 63 = .ok (.iload 4, 2) := by decide +kernel
theorem dX9_study_65 : decode cX9_study 65 = .ok (.invokevirtual 33, 3) := by decide +kernel
theorem dX9_study_68 : decode cX9_study 68 = .ok (.if_icmp .gt 7, 3) := by decide +kernel
theorem dX9_study_71 : decode cX9_study 71 = .ok (.iconst 1, 1) := by decide +kernel
theorem dX9_study_72 : decode cX9_study 72 = .ok (.goto 4, 3) := by decide +kernel
theorem dX9_study_75 : decode cX9_study 75 = .ok (.iconst 0, 1) := by decide +kernel
theorem dX9_study_76 : decode cX9_study 76 = .ok (.istore 5, 2) := by decide +kernel
theorem dX9_study_78 : decode cX9_study 78 = .ok (.aload_n 0, 1) := by decide +kernel
theorem dX9_study_79 : decode cX9_study 79 = .ok (.getfield 9, 3) := by decide +kernel
theorem dX9_study_82 : decode cX9_study 82 = .ok (.iload 4, 2) := by decide +kernel
theorem dX9_study_84 : decode cX9_study 84 = .ok (.iload 5, 2) := by decide +kernel
theorem dX9_study_86 : decode cX9_study 86 = .ok (.ifCond .eq 19, 3) := by decide +kernel
theorem dX9_study_89 : decode cX9_study 89 = .ok (.aload_n 1, 1) := by decide +kernel
theorem dX9_study_90 : decode cX9_study 90 = .ok (.iload 4, 2) := by decide +kernel
theorem dX9_study_92 : decode cX9_study 92 = .ok (.invokevirtual 37, 3) := by decide +kernel
theorem dX9_study_95 : decode cX9_study 95 = .ok (.aload_n 1, 1) := by decide +kernel
theorem dX9_study_96 : decode cX9_study 96 = .ok (.getfield 40, 3) := by decide +kernel
theorem dX9_study_99 : decode cX9_study 99 = .ok (.iload_n 2, 1) := by decide +kernel
theorem dX9_study_100 : decode cX9_study 100 = .ok (.iaload, 1) := by decide +kernel
theorem dX9_study_101 : decode cX9_study 101 = .ok (.imul, 1) := by decide +kernel
theorem dX9_study_102 : decode cX9_study 102 = .ok (.goto 4, 3) := by decide +kernel
theorem dX9_study_105 : decode cX9_study 105 = .ok (.iconst (-1), 1) := by decide +kernel
theorem dX9_study_106 : decode cX9_study 106 = .ok (.iastore, 1) := by decide +kernel
theorem dX9_study_107 : decode cX9_study 107 = .ok (.iload 5, 2) := by decide +kernel
theorem dX9_study_109 : decode cX9_study 109 = .ok (.ifCond .eq 65, 3) := by decide +kernel
theorem dX9_study_112 : decode cX9_study 112 = .ok (.aload_n 0, 1) := by decide +kernel
theorem dX9_study_113 : decode cX9_study 113 = .ok (.aload_n 1, 1) := by decide +kernel
theorem dX9_study_114 : decode cX9_study 114 = .ok (.getfield 43, 3) := by decide +kernel
theorem dX9_study_117 : decode cX9_study 117 = .ok (.iload 4, 2) := by decide +kernel
theorem dX9_study_119 : decode cX9_study 119 = .ok (.aaload, 1) := by decide +kernel
theorem dX9_study_120 : decode cX9_study 120 = .ok (.getfield 47, 3) := by decide +kernel
theorem dX9_study_123 : decode cX9_study 123 = .ok (.aload_n 1, 1) := by decide +kernel
theorem dX9_study_124 : decode cX9_study 124 = .ok (.getfield 43, 3) := by decide +kernel
theorem dX9_study_127 : decode cX9_study 127 = .ok (.iload 4, 2) := by decide +kernel
theorem dX9_study_129 : decode cX9_study 129 = .ok (.aaload, 1) := by decide +kernel
theorem dX9_study_130 : decode cX9_study 130 = .ok (.getfield 52, 3) := by decide +kernel
theorem dX9_study_133 : decode cX9_study 133 = .ok (.aload_n 0, 1) := by decide +kernel
theorem dX9_study_134 : decode cX9_study 134 = .ok (.getfield 9, 3) := by decide +kernel
theorem dX9_study_137 : decode cX9_study 137 = .ok (.iload 4, 2) := by decide +kernel
theorem dX9_study_139 : decode cX9_study 139 = .ok (.iaload, 1) := by decide +kernel
theorem dX9_study_140 : decode cX9_study 140 = .ok (.invokevirtual 55, 3) := by decide +kernel
theorem dX9_study_143 : decode cX9_study 143 = .ok (.aload_n 0, 1) := by decide +kernel
theorem dX9_study_144 : decode cX9_study 144 = .ok (.aload_n 1, 1) := by decide +kernel
theorem dX9_study_145 : decode cX9_study 145 = .ok (.getfield 43, 3) := by decide +kernel
theorem dX9_study_148 : decode cX9_study 148 = .ok (.iload 4, 2) := by decide +kernel
theorem dX9_study_150 : decode cX9_study 150 = .ok (.aaload, 1) := by decide +kernel
theorem dX9_study_151 : decode cX9_study 151 = .ok (.getfield 52, 3) := by decide +kernel
theorem dX9_study_154 : decode cX9_study 154 = .ok (.aload_n 1, 1) := by decide +kernel
theorem dX9_study_155 : decode cX9_study 155 = .ok (.getfield 43, 3) := by decide +kernel
theorem dX9_study_158 : decode cX9_study 158 = .ok (.iload 4, 2) := by decide +kernel
theorem dX9_study_160 : decode cX9_study 160 = .ok (.aaload, 1) := by decide +kernel
theorem dX9_study_161 : decode cX9_study 161 = .ok (.getfield 47, 3) := by decide +kernel
theorem dX9_study_164 : decode cX9_study 164 = .ok (.aload_n 0, 1) := by decide +kernel
theorem dX9_study_165 : decode cX9_study 165 = .ok (.getfield 9, 3) := by decide +kernel
theorem dX9_study_168 : decode cX9_study 168 = .ok (.iload 4, 2) := by decide +kernel
theorem dX9_study_170 : decode cX9_study 170 = .ok (.iaload, 1) := by decide +kernel
theorem dX9_study_171 : decode cX9_study 171 = .ok (.invokevirtual 55, 3) := by decide +kernel
theorem dX9_study_174 : decode cX9_study 174 = .ok (.iinc 4 1, 3) := by decide +kernel
theorem dX9_study_177 : decode cX9_study 177 = .ok (.goto (-136), 3) := by decide +kernel
theorem dX9_study_180 : decode cX9_study 180 = .ok (.iconst 0, 1) := by decide +kernel
theorem dX9_study_181 : decode cX9_study 181 = .ok (.istore 4, 2) := by decide +kernel
theorem dX9_study_183 : decode cX9_study 183 = .ok (.iload 4, 2) := by decide +kernel
theorem dX9_study_185 : decode cX9_study 185 = .ok (.aload_n 1, 1) := by decide +kernel
theorem dX9_study_186 : decode cX9_study 186 = .ok (.getfield 59, 3) := by decide +kernel
theorem dX9_study_189 : decode cX9_study 189 = .ok (.if_icmp .ge 19, 3) := by decide +kernel
theorem dX9_study_192 : decode cX9_study 192 = .ok (.aload_n 0, 1) := by decide +kernel
theorem dX9_study_193 : decode cX9_study 193 = .ok (.aload_n 1, 1) := by decide +kernel
theorem dX9_study_194 : decode cX9_study 194 = .ok (.getfield 59, 3) := by decide +kernel
theorem dX9_study_197 : decode cX9_study 197 = .ok (.iload 4, 2) := by decide +kernel
theorem dX9_study_199 : decode cX9_study 199 = .ok (.invokevirtual 62, 3) := by decide +kernel
theorem dX9_study_202 : decode cX9_study 202 = .ok (.iinc 4 1, 3) := by decide +kernel
theorem dX9_study_205 : decode cX9_study 205 = .ok (.goto (-22), 3) := by decide +kernel
theorem dX9_study_208 : decode cX9_study 208 = .ok (.return_, 1) := by decide +kernel
theorem r_X9_study_183 (E : kr_E)  (l1 : Nat) (h_l1 : kr_sh l1 = (2, 0))  : ∀ (n : Nat) (l4 : Int32) (M : kr_M), kR kr_vv E Y_X9_study 5 183 [(0, kr_r E 338), (1, kr_r E l1), (4, .int l4)] [] M (f_X9_study_183 l1 n l4 M) := by
  intro n
  induction n with
  | zero => intro l4 M; exact kr_none
  | succ n ih =>
    intro l4 M
    rw [f_X9_study_183]
    refine kr_iload dX9_study_183 2 rfl ?_
    refine kr_aload_n dX9_study_185 rfl 1 rfl ?_
    refine kr_getI (ci := 2) (j := 1) dX9_study_186 h_l1 fl_RX9_59 rfl (fun v1 => ?_)
    refine kr_icmp_ge (tgt := 208) dX9_study_189 (by decide) ?_ ?_
    · exact kr_vret dX9_study_208 rfl
    · refine kr_aload_n dX9_study_192 rfl 0 rfl ?_
      refine kr_aload_n dX9_study_193 rfl 1 rfl ?_
      refine kr_getI (ci := 2) (j := 1) dX9_study_194 h_l1 fl_RX9_59 rfl (fun v2 => ?_)
      refine kr_iload dX9_study_197 2 rfl ?_
      refine kr_Vv (As := [.int v2, .int l4]) (st := []) zv_X9_goOver dX9_study_199 ml_RX9_62 kr_at_338 (r_X9_goOver E v2 l4 M) rfl rfl (Nat.le_of_ble_eq_true rfl) rfl (by decide) (Nat.le_of_ble_eq_true rfl) (fun M3 => ?_)
      refine kr_iinc (j := 2) (v := (l4 + (1 : Int32))) (lv' := [(4, .int (l4 + (1 : Int32))), (0, kr_r E 338), (1, kr_r E l1)]) dX9_study_202 rfl rfl (by decide) rfl ?_
      refine kr_goto (tgt := 183) dX9_study_205 (by decide) ?_
      refine kr_sub [1, 2, 0] rfl ?_
      exact ih (l4 + (1 : Int32)) M3
theorem r_X9_study_180 (E : kr_E)  (l1 : Nat) (h_l1 : kr_sh l1 = (2, 0))  (M : kr_M) : kR kr_vv E Y_X9_study 5 180 [(0, kr_r E 338), (1, kr_r E l1)] [] M (f_X9_study_180 l1 M) := by
  rw [f_X9_study_180]
  refine kr_iconst (v := 0) dX9_study_180 (by decide) ?_
  refine kr_istore (lv' := [(4, .int (0 : Int32)), (0, kr_r E 338), (1, kr_r E l1)]) dX9_study_181 (by decide) rfl ?_
  refine kr_sub [1, 2, 0] rfl ?_
  exact r_X9_study_183 E l1 h_l1 _ (0 : Int32) M
theorem r_X9_study_174 (E : kr_E) (k_41 : Int32 → kr_M → Option kr_M) (l1 : Nat) (h_l1 : kr_sh l1 = (2, 0)) (l2 : Int32) (l3 : Int32) (l4 : Int32) (hk_41 : ∀ (x4 : Int32) (M : kr_M), kR kr_vv E Y_X9_study 5 41 [(0, kr_r E 338), (1, kr_r E l1), (2, .int l2), (3, .int l3), (4, .int x4)] [] M (k_41 x4 M)) (M : kr_M) : kR kr_vv E Y_X9_study 5 174 [(0, kr_r E 338), (1, kr_r E l1), (2, .int l2), (3, .int l3), (4, .int l4)] [] M (f_X9_study_174 k_41 l4 M) := by
  rw [f_X9_study_174]
  refine kr_iinc (j := 4) (v := (l4 + (1 : Int32))) (lv' := [(4, .int (l4 + (1 : Int32))), (0, kr_r E 338), (1, kr_r E l1), (2, .int l2), (3, .int l3)]) dX9_study_174 rfl rfl (by decide) rfl ?_
  refine kr_goto (tgt := 41) dX9_study_177 (by decide) ?_
  refine kr_sub [1, 2, 3, 4, 0] rfl ?_
  exact hk_41 (l4 + (1 : Int32)) M
theorem r_X9_study_106 (E : kr_E) (k_41 : Int32 → kr_M → Option kr_M) (l1 : Nat) (h_l1 : kr_sh l1 = (2, 0)) (l2 : Int32) (l3 : Int32) (l4 : Int32) (l5 : Int32) (s0 : Int32) (s1 : Int32) (hk_41 : ∀ (x4 : Int32) (M : kr_M), kR kr_vv E Y_X9_study 5 41 [(0, kr_r E 338), (1, kr_r E l1), (2, .int l2), (3, .int l3), (4, .int x4)] [] M (k_41 x4 M)) (M : kr_M) : kR kr_vv E Y_X9_study 5 106 [(0, kr_r E 338), (1, kr_r E l1), (2, .int l2), (3, .int l3), (4, .int l4), (5, .int l5)] [.int s0, .int s1, kr_r E 339] M (f_X9_study_106 k_41 l1 l4 l5 s0 s1 M) := by
  rw [f_X9_study_106]
  refine kr_iast dX9_study_106 kr_at_339 (fun M1 => ?_)
  refine kr_iload dX9_study_107 5 rfl ?_
  refine kr_if_eq (tgt := 174) dX9_study_109 (by decide) ?_ ?_
  · refine kr_sub [0, 1, 2, 3, 4] rfl ?_
    exact r_X9_study_174 E _ l1 h_l1 l2 l3 l4 hk_41 M1
  · refine kr_aload_n dX9_study_112 rfl 0 rfl ?_
    refine kr_aload_n dX9_study_113 rfl 1 rfl ?_
    refine kr_getA (o := 5) (ci := 2) (j := 14) dX9_study_114 h_l1 fl_RX9_43 rfl ?_
    refine kr_iload dX9_study_117 4 rfl ?_
    refine kr_aaldR dX9_study_119 h_l1 (fun h2 => ?_)
    refine kr_getI (ci := 5) (j := 0) dX9_study_120 h2 fl_RX9_47 rfl (fun v3 => ?_)
    refine kr_aload_n dX9_study_123 rfl 1 rfl ?_
    refine kr_getA (o := 5) (ci := 2) (j := 14) dX9_study_124 h_l1 fl_RX9_43 rfl ?_
    refine kr_iload dX9_study_127 4 rfl ?_
    refine kr_aaldR dX9_study_129 h_l1 (fun h4 => ?_)
    refine kr_getI (ci := 5) (j := 1) dX9_study_130 h4 fl_RX9_52 rfl (fun v5 => ?_)
    refine kr_aload_n dX9_study_133 rfl 0 rfl ?_
    refine kr_getA (o := 1) (ci := 9) (j := 0) dX9_study_134 kr_at_338 fl_RX9_9 rfl ?_
    refine kr_iload dX9_study_137 4 rfl ?_
    refine kr_iald dX9_study_139 kr_at_339 (fun v6 => ?_)
    refine kr_Vv (As := [.int v3, .int v5, .int v6]) (st := []) zv_X9_shorten dX9_study_140 ml_RX9_55 kr_at_338 (r_X9_shorten E v3 v5 v6 M1) rfl rfl (Nat.le_of_ble_eq_true rfl) rfl (by decide) (Nat.le_of_ble_eq_true rfl) (fun M7 => ?_)
    refine kr_aload_n dX9_study_143 rfl 0 rfl ?_
    refine kr_aload_n dX9_study_144 rfl 1 rfl ?_
    refine kr_getA (o := 5) (ci := 2) (j := 14) dX9_study_145 h_l1 fl_RX9_43 rfl ?_
    refine kr_iload dX9_study_148 4 rfl ?_
    refine kr_aaldR dX9_study_150 h_l1 (fun h9 => ?_)
    refine kr_getI (ci := 5) (j := 1) dX9_study_151 h9 fl_RX9_52 rfl (fun v10 => ?_)
    refine kr_aload_n dX9_study_154 rfl 1 rfl ?_
    refine kr_getA (o := 5) (ci := 2) (j := 14) dX9_study_155 h_l1 fl_RX9_43 rfl ?_
    refine kr_iload dX9_study_158 4 rfl ?_
    refine kr_aaldR dX9_study_160 h_l1 (fun h11 => ?_)
    refine kr_getI (ci := 5) (j := 0) dX9_study_161 h11 fl_RX9_47 rfl (fun v12 => ?_)
    refine kr_aload_n dX9_study_164 rfl 0 rfl ?_
    refine kr_getA (o := 1) (ci := 9) (j := 0) dX9_study_165 kr_at_338 fl_RX9_9 rfl ?_
    refine kr_iload dX9_study_168 4 rfl ?_
    refine kr_iald dX9_study_170 kr_at_339 (fun v13 => ?_)
    refine kr_Vv (As := [.int v10, .int v12, .int v13]) (st := []) zv_X9_shorten dX9_study_171 ml_RX9_55 kr_at_338 (r_X9_shorten E v10 v12 v13 M7) rfl rfl (Nat.le_of_ble_eq_true rfl) rfl (by decide) (Nat.le_of_ble_eq_true rfl) (fun M14 => ?_)
    refine kr_sub [0, 1, 2, 3, 4] rfl ?_
    exact r_X9_study_174 E _ l1 h_l1 l2 l3 l4 hk_41 M14
theorem r_X9_study_76 (E : kr_E) (k_41 : Int32 → kr_M → Option kr_M) (l1 : Nat) (h_l1 : kr_sh l1 = (2, 0)) (l2 : Int32) (l3 : Int32) (l4 : Int32) (s0 : Int32) (hk_41 : ∀ (x4 : Int32) (M : kr_M), kR kr_vv E Y_X9_study 5 41 [(0, kr_r E 338), (1, kr_r E l1), (2, .int l2), (3, .int l3), (4, .int x4)] [] M (k_41 x4 M)) (M : kr_M) : kR kr_vv E Y_X9_study 5 76 [(0, kr_r E 338), (1, kr_r E l1), (2, .int l2), (3, .int l3), (4, .int l4)] [.int s0] M (f_X9_study_76 k_41 l1 l2 l4 s0 M) := by
  rw [f_X9_study_76]
  refine kr_istore (lv' := [(5, .int s0), (0, kr_r E 338), (1, kr_r E l1), (2, .int l2), (3, .int l3), (4, .int l4)]) dX9_study_76 (by decide) rfl ?_
  refine kr_aload_n dX9_study_78 rfl 1 rfl ?_
  refine kr_getA (o := 1) (ci := 9) (j := 0) dX9_study_79 kr_at_338 fl_RX9_9 rfl ?_
  refine kr_iload dX9_study_82 5 rfl ?_
  refine kr_iload dX9_study_84 0 rfl ?_
  refine kr_if_eq (tgt := 105) dX9_study_86 (by decide) ?_ ?_
  · refine kr_iconst (v := -1) dX9_study_105 (by decide) ?_
    refine kr_sub [1, 2, 3, 4, 5, 0] rfl ?_
    exact r_X9_study_106 E _ l1 h_l1 l2 l3 l4 s0 (-1 : Int32) l4 hk_41 M
  · refine kr_aload_n dX9_study_89 rfl 2 rfl ?_
    refine kr_iload dX9_study_90 5 rfl ?_
    refine kr_Vi (As := [.int l4]) (st := [.int l4, kr_r E 339]) zv_X2_inchesOf dX9_study_92 ml_RX9_37 h_l1 (r_X2_inchesOf E l1 h_l1 l4 M) rfl rfl (Nat.le_of_ble_eq_true rfl) rfl (by decide) (Nat.le_of_ble_eq_true rfl) (fun r2 M1 => ?_)
    refine kr_aload_n dX9_study_95 rfl 2 rfl ?_
    refine kr_getA (o := 7) (ci := 2) (j := 16) dX9_study_96 h_l1 fl_RX9_40 rfl ?_
    refine kr_iload_n dX9_study_99 rfl 3 rfl ?_
    refine kr_iald dX9_study_100 (kr_shG7 _ h_l1) (fun v3 => ?_)
    refine kr_imul dX9_study_101 ?_
    refine kr_goto (tgt := 106) dX9_study_102 (by decide) ?_
    refine kr_sub [1, 2, 3, 4, 5, 0] rfl ?_
    exact r_X9_study_106 E _ l1 h_l1 l2 l3 l4 s0 (r2 * v3) l4 hk_41 M1
theorem r_X9_study_75 (E : kr_E) (k_41 : Int32 → kr_M → Option kr_M) (l1 : Nat) (h_l1 : kr_sh l1 = (2, 0)) (l2 : Int32) (l3 : Int32) (l4 : Int32) (hk_41 : ∀ (x4 : Int32) (M : kr_M), kR kr_vv E Y_X9_study 5 41 [(0, kr_r E 338), (1, kr_r E l1), (2, .int l2), (3, .int l3), (4, .int x4)] [] M (k_41 x4 M)) (M : kr_M) : kR kr_vv E Y_X9_study 5 75 [(0, kr_r E 338), (1, kr_r E l1), (2, .int l2), (3, .int l3), (4, .int l4)] [] M (f_X9_study_75 k_41 l1 l2 l4 M) := by
  rw [f_X9_study_75]
  refine kr_iconst (v := 0) dX9_study_75 (by decide) ?_
  refine kr_sub [0, 1, 2, 3, 4] rfl ?_
  exact r_X9_study_76 E _ l1 h_l1 l2 l3 l4 (0 : Int32) hk_41 M
theorem r_X9_study_41 (E : kr_E)  (l1 : Nat) (h_l1 : kr_sh l1 = (2, 0)) (l2 : Int32) (l3 : Int32)  : ∀ (n : Nat) (l4 : Int32) (M : kr_M), kR kr_vv E Y_X9_study 5 41 [(0, kr_r E 338), (1, kr_r E l1), (2, .int l2), (3, .int l3), (4, .int l4)] [] M (f_X9_study_41 l1 l2 l3 n l4 M) := by
  intro n
  induction n with
  | zero => intro l4 M; exact kr_none
  | succ n ih =>
    intro l4 M
    rw [f_X9_study_41]
    refine kr_iload dX9_study_41 4 rfl ?_
    refine kr_aload_n dX9_study_43 rfl 1 rfl ?_
    refine kr_getI (ci := 2) (j := 6) dX9_study_44 h_l1 fl_RX9_24 rfl (fun v1 => ?_)
    refine kr_icmp_ge (tgt := 180) dX9_study_47 (by decide) ?_ ?_
    · refine kr_sub [0, 1] rfl ?_
      exact r_X9_study_180 E l1 h_l1 M
    · refine kr_iload dX9_study_50 4 rfl ?_
      refine kr_iload_n dX9_study_52 rfl 3 rfl ?_
      refine kr_icmp_eq (tgt := 75) dX9_study_53 (by decide) ?_ ?_
      · refine kr_sub [0, 1, 2, 3, 4] rfl ?_
        exact r_X9_study_75 E _ l1 h_l1 l2 l3 l4 ih M
      · refine kr_aload_n dX9_study_56 rfl 1 rfl ?_
        refine kr_getA (o := 6) (ci := 2) (j := 15) dX9_study_57 h_l1 fl_RX9_30 rfl ?_
        refine kr_iload_n dX9_study_60 rfl 2 rfl ?_
        refine kr_iald dX9_study_61 (kr_shG6 _ h_l1) (fun v2 => ?_)
        refine kr_aload_n dX9_study_62 rfl 1 rfl ?_
        refine kr_iload dX9_study_63 4 rfl ?_
        refine kr_Vi (As := [.int l4]) (st := [.int v2]) zv_X2_strengthOf dX9_study_65 ml_RX9_33 h_l1 (r_X2_strengthOf E l1 h_l1 l4 M) rfl rfl (Nat.le_of_ble_eq_true rfl) rfl (by decide) (Nat.le_of_ble_eq_true rfl) (fun r4 M3 => ?_)
        refine kr_icmp_gt (tgt := 75) dX9_study_68 (by decide) ?_ ?_
        · refine kr_sub [0, 1, 2, 3, 4] rfl ?_
          exact r_X9_study_75 E _ l1 h_l1 l2 l3 l4 ih M3
        · refine kr_iconst (v := 1) dX9_study_71 (by decide) ?_
          refine kr_goto (tgt := 76) dX9_study_72 (by decide) ?_
          refine kr_sub [0, 1, 2, 3, 4] rfl ?_
          exact r_X9_study_76 E _ l1 h_l1 l2 l3 l4 (1 : Int32) ih M3
theorem r_X9_study_38 (E : kr_E)  (l1 : Nat) (h_l1 : kr_sh l1 = (2, 0)) (l2 : Int32) (l3 : Int32)  (M : kr_M) : kR kr_vv E Y_X9_study 5 38 [(0, kr_r E 338), (1, kr_r E l1), (2, .int l2), (3, .int l3)] [] M (f_X9_study_38 l1 l2 l3 M) := by
  rw [f_X9_study_38]
  refine kr_iconst (v := 0) dX9_study_38 (by decide) ?_
  refine kr_istore (lv' := [(4, .int (0 : Int32)), (0, kr_r E 338), (1, kr_r E l1), (2, .int l2), (3, .int l3)]) dX9_study_39 (by decide) rfl ?_
  refine kr_sub [1, 2, 3, 4, 0] rfl ?_
  exact r_X9_study_41 E l1 h_l1 l2 l3 _ (0 : Int32) M
theorem r_X9_study_11 (E : kr_E)  (l1 : Nat) (h_l1 : kr_sh l1 = (2, 0)) (l2 : Int32) (l3 : Int32)  : ∀ (n : Nat) (l4 : Int32) (M : kr_M), kR kr_vv E Y_X9_study 5 11 [(0, kr_r E 338), (1, kr_r E l1), (2, .int l2), (3, .int l3), (4, .int l4)] [] M (f_X9_study_11 l1 l2 l3 n l4 M) := by
  intro n
  induction n with
  | zero => intro l4 M; exact kr_none
  | succ n ih =>
    intro l4 M
    rw [f_X9_study_11]
    refine kr_iload dX9_study_11 4 rfl ?_
    refine kr_bipush (v := 6) dX9_study_13 (by decide) ?_
    refine kr_icmp_ge (tgt := 38) dX9_study_15 (by decide) ?_ ?_
    · refine kr_sub [0, 1, 2, 3] rfl ?_
      exact r_X9_study_38 E l1 h_l1 l2 l3 M
    · refine kr_aload_n dX9_study_18 rfl 0 rfl ?_
      refine kr_getA (o := 2) (ci := 9) (j := 1) dX9_study_19 kr_at_338 fl_RX9_15 rfl ?_
      refine kr_iload dX9_study_22 4 rfl ?_
      refine kr_bipush (v := 6) dX9_study_24 (by decide) ?_
      refine kr_imul dX9_study_26 ?_
      refine kr_iload dX9_study_27 4 rfl ?_
      refine kr_iadd dX9_study_29 ?_
      refine kr_iconst (v := 0) dX9_study_30 (by decide) ?_
      refine kr_iast dX9_study_31 kr_at_340 (fun M1 => ?_)
      refine kr_iinc (j := 4) (v := (l4 + (1 : Int32))) (lv' := [(4, .int (l4 + (1 : Int32))), (0, kr_r E 338), (1, kr_r E l1), (2, .int l2), (3, .int l3)]) dX9_study_32 rfl rfl (by decide) rfl ?_
      refine kr_goto (tgt := 11) dX9_study_35 (by decide) ?_
      refine kr_sub [1, 2, 3, 4, 0] rfl ?_
      exact ih (l4 + (1 : Int32)) M1
theorem r_X9_study (E : kr_E) (p1 : Nat) (h_p1 : kr_sh p1 = (2, 0)) (p2 : Int32) (p3 : Int32) (M : kr_M) : kR kr_vv E Y_X9_study 5 0 [(0, kr_r E 338), (1, kr_r E p1), (2, .int p2), (3, .int p3)] [] M (f_X9_study p1 p2 p3 M) := by
  rw [f_X9_study]
  refine kr_aload_n dX9_study_0 rfl 0 rfl ?_
  refine kr_getA (o := 2) (ci := 9) (j := 1) dX9_study_1 kr_at_338 fl_RX9_15 rfl ?_
  refine kr_iconst (v := -1) dX9_study_4 (by decide) ?_
  refine kr_Sv (As := [kr_r E 340, .int (-1 : Int32)]) (st := []) zs_J7_fill_53178 dX9_study_5 ml_RX9_18 (r_J7_fill_53178 E 340 (kr_at_340) (-1 : Int32) M) rfl rfl (Nat.le_of_ble_eq_true rfl) rfl (by decide) (Nat.le_of_ble_eq_true rfl) (fun M1 => ?_)
  refine kr_iconst (v := 0) dX9_study_8 (by decide) ?_
  refine kr_istore (lv' := [(4, .int (0 : Int32)), (0, kr_r E 338), (1, kr_r E p1), (2, .int p2), (3, .int p3)]) dX9_study_9 (by decide) rfl ?_
  refine kr_sub [1, 2, 3, 4, 0] rfl ?_
  exact r_X9_study_11 E p1 h_p1 p2 p3 _ (0 : Int32) M1
