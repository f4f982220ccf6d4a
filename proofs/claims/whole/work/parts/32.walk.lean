theorem dX2_act_0 : decode cX2_act 0 = .ok (.aload_n 0, 1) := by decide +kernel
theorem dX2_act_1 : decode cX2_act 1 = .ok (.invokevirtual 121, 3) := by decide +kernel
theorem dX2_act_4 : decode cX2_act 4 = .ok (.ifCond .eq 4, 3) := by decide +kernel
theorem dX2_act_7 : decode cX2_act 7 = .ok (.return_, 1) := by decide +kernel
theorem dX2_act_8 : decode cX2_act 8 = .ok (.iconst 4, 1) := by decide +kernel
theorem dX2_act_9 : decode cX2_act 9 = .ok (.aload_n 0, 1) := by decide +kernel
theorem dX2_act_10 : decode cX2_act 10 = .ok (.getfield 80, 3) := by decide +kernel
theorem dX2_act_13 : decode cX2_act 13 = .ok (.imul, 1) := by decide +kernel
theorem dX2_act_14 : decode cX2_act 14 = .ok (.istore 5, 2) := by decide +kernel
theorem dX2_act_16 : decode cX2_act 16 = .ok (.aload_n 0, 1) := by decide +kernel
theorem dX2_act_17 : decode cX2_act 17 = .ok (.getfield 45, 3) := by decide +kernel
theorem dX2_act_20 : decode cX2_act 20 = .ok (.iload 5, 2) := by decide +kernel
theorem dX2_act_22 : decode cX2_act 22 = .ok (.iload_n 1, 1) := by decide +kernel
theorem dX2_act_23 : decode cX2_act 23 = .ok (.iastore, 1) := by decide +kernel
theorem dX2_act_24 : decode cX2_act 24 = .ok (.aload_n 0, 1) := by decide +kernel
theorem dX2_act_25 : decode cX2_act 25 = .ok (.getfield 45, 3) := by decide +kernel
theorem dX2_act_28 : decode cX2_act 28 = .ok (.iload 5, 2) := by decide +kernel
theorem dX2_act_30 : decode cX2_act 30 = .ok (.iconst 1, 1) := by decide +kernel
theorem dX2_act_31 : decode cX2_act 31 = .ok (.iadd, 1) := by decide +kernel
theorem dX2_act_32 : decode cX2_act 32 = .ok (.iload_n 2, 1) := by decide +kernel
theorem dX2_act_33 : decode cX2_act 33 = .ok (.iastore, 1) := by decide +kernel
theorem dX2_act_34 : decode cX2_act 34 = .ok (.aload_n 0, 1) := by decide +kernel
theorem dX2_act_35 : decode cX2_act 35 = .ok (.getfield 45, 3) := by decide +kernel
theorem dX2_act_38 : decode cX2_act 38 = .ok (.iload 5, 2) := by decide +kernel
theorem dX2_act_40 : decode cX2_act 40 = .ok (.iconst 2, 1) := by decide +kernel
theorem dX2_act_41 : decode cX2_act 41 = .ok (.iadd, 1) := by decide +kernel
theorem dX2_act_42 : decode cX2_act 42 = .ok (.iload_n 3, 1) := by decide +kernel
theorem dX2_act_43 : decode cX2_act 43 = .ok (.iastore, 1) := by decide +kernel
theorem dX2_act_44 : decode cX2_act 44 = .ok (.aload_n 0, 1) := by decide +kernel
theorem dX2_act_45 : decode cX2_act 45 = .ok (.getfield 45, 3) := by decide +kernel
theorem dX2_act_48 : decode cX2_act 48 = .ok (.iload 5, 2) := by decide +kernel
theorem dX2_act_50 : decode cX2_act 50 = .ok (.iconst 3, 1) := by decide +kernel
theorem dX2_act_51 : decode cX2_act 51 = .ok (.iadd, 1) := by decide +kernel
theorem dX2_act_52 : decode cX2_act 52 = .ok (.iload 4, 2) := by decide +kernel
theorem dX2_act_54 : decode cX2_act 54 = .ok (.iastore, 1) := by decide +kernel
theorem dX2_act_55 : decode cX2_act 55 = .ok (.aload_n 0, 1) := by decide +kernel
theorem dX2_act_56 : decode cX2_act 56 = .ok (.dup, 1) := by decide +kernel
theorem dX2_act_57 : decode cX2_act 57 = .ok (.getfield 80, 3) := by decide +kernel
theorem dX2_act_60 : decode cX2_act 60 = .ok (.iconst 1, 1) := by decide +kernel
theorem dX2_act_61 : decode cX2_act 61 = .ok (.iadd, 1) := by decide +kernel
theorem dX2_act_62 : decode cX2_act 62 = .ok (.putfield 80, 3) := by decide +kernel
theorem dX2_act_65 : decode cX2_act 65 = .ok (.aload_n 0, 1) := by decide +kernel
theorem dX2_act_66 : decode cX2_act 66 = .ok (.iload 5, 2) := by decide +kernel
theorem dX2_act_68 : decode cX2_act 68 = .ok (.invokevirtual 125, 3) := by decide +kernel
theorem dX2_act_71 : decode cX2_act 71 = .ok (.return_, 1) := by decide +kernel
theorem r_X2_act (E : kr_E) (g0 : Nat) (h_g0 : kr_sh g0 = (2, 0)) (p1 : Int32) (p2 : Int32) (p3 : Int32) (p4 : Int32) (M : kr_M) : kR kr_vv E Y_X2_act 4 0 [(0, kr_r E g0), (1, .int p1), (2, .int p2), (3, .int p3), (4, .int p4)] [] M (f_X2_act g0 p1 p2 p3 p4 M) := by
  rw [f_X2_act]
  refine kr_aload_n dX2_act_0 rfl 0 rfl ?_
  refine kr_Vi (As := []) (st := []) zv_X2_isTired dX2_act_1 ml_RX2_121 h_g0 (r_X2_isTired E g0 h_g0 M) rfl rfl (Nat.le_of_ble_eq_true rfl) rfl (by decide) (Nat.le_of_ble_eq_true rfl) (fun r2 M1 => ?_)
  refine kr_if_eq (tgt := 8) dX2_act_4 (by decide) ?_ ?_
  · refine kr_iconst (v := 4) dX2_act_8 (by decide) ?_
    refine kr_aload_n dX2_act_9 rfl 0 rfl ?_
    refine kr_getI (ci := 2) (j := 9) dX2_act_10 h_g0 fl_RX2_80 rfl (fun v3 => ?_)
    refine kr_imul dX2_act_13 ?_
    refine kr_nmi (fun v4 => ?_)
    refine kr_istore (lv' := [(5, .int v4), (0, kr_r E g0), (1, .int p1), (2, .int p2), (3, .int p3), (4, .int p4)]) dX2_act_14 (by decide) rfl ?_
    refine kr_aload_n dX2_act_16 rfl 1 rfl ?_
    refine kr_getA (o := 10) (ci := 2) (j := 19) dX2_act_17 h_g0 fl_RX2_45 rfl ?_
    refine kr_iload dX2_act_20 0 rfl ?_
    refine kr_iload_n dX2_act_22 rfl 2 rfl ?_
    refine kr_iast dX2_act_23 (kr_shG10 _ h_g0) (fun M5 => ?_)
    refine kr_aload_n dX2_act_24 rfl 1 rfl ?_
    refine kr_getA (o := 10) (ci := 2) (j := 19) dX2_act_25 h_g0 fl_RX2_45 rfl ?_
    refine kr_iload dX2_act_28 0 rfl ?_
    refine kr_iconst (v := 1) dX2_act_30 (by decide) ?_
    refine kr_iadd dX2_act_31 ?_
    refine kr_iload_n dX2_act_32 rfl 3 rfl ?_
    refine kr_iast dX2_act_33 (kr_shG10 _ h_g0) (fun M6 => ?_)
    refine kr_aload_n dX2_act_34 rfl 1 rfl ?_
    refine kr_getA (o := 10) (ci := 2) (j := 19) dX2_act_35 h_g0 fl_RX2_45 rfl ?_
    refine kr_iload dX2_act_38 0 rfl ?_
    refine kr_iconst (v := 2) dX2_act_40 (by decide) ?_
    refine kr_iadd dX2_act_41 ?_
    refine kr_iload_n dX2_act_42 rfl 4 rfl ?_
    refine kr_iast dX2_act_43 (kr_shG10 _ h_g0) (fun M7 => ?_)
    refine kr_aload_n dX2_act_44 rfl 1 rfl ?_
    refine kr_getA (o := 10) (ci := 2) (j := 19) dX2_act_45 h_g0 fl_RX2_45 rfl ?_
    refine kr_iload dX2_act_48 0 rfl ?_
    refine kr_iconst (v := 3) dX2_act_50 (by decide) ?_
    refine kr_iadd dX2_act_51 ?_
    refine kr_iload dX2_act_52 5 rfl ?_
    refine kr_iast dX2_act_54 (kr_shG10 _ h_g0) (fun M8 => ?_)
    refine kr_aload_n dX2_act_55 rfl 1 rfl ?_
    refine kr_dup dX2_act_56 rfl ?_
    refine kr_getI (ci := 2) (j := 9) dX2_act_57 h_g0 fl_RX2_80 rfl (fun v9 => ?_)
    refine kr_iconst (v := 1) dX2_act_60 (by decide) ?_
    refine kr_iadd dX2_act_61 ?_
    refine kr_putI (ci := 2) (j := 9) dX2_act_62 h_g0 fl_RX2_80 rfl rfl (fun M10 => ?_)
    refine kr_aload_n dX2_act_65 rfl 1 rfl ?_
    refine kr_iload dX2_act_66 0 rfl ?_
    refine kr_Vv (As := [.int v4]) (st := []) zv_X2_carryOut dX2_act_68 ml_RX2_125 h_g0 (r_X2_carryOut E g0 h_g0 v4 M10) rfl rfl (Nat.le_of_ble_eq_true rfl) rfl (by decide) (Nat.le_of_ble_eq_true rfl) (fun M11 => ?_)
    exact kr_vret dX2_act_71 rfl
  · exact kr_vret dX2_act_7 rfl
theorem dX5_beAsTold_0 : decode cX5_beAsTold 0 = .ok (.aload_n 0, 1) := by decide +kernel
theorem dX5_beAsTold_1 : decode cX5_beAsTold 1 = .ok (.iconst 0, 1) := by decide +kernel
theorem dX5_beAsTold_2 : decode cX5_beAsTold 2 = .ok (.putfield 33, 3) := by decide +kernel
theorem dX5_beAsTold_5 : decode cX5_beAsTold 5 = .ok (.aload_n 0, 1) := by decide +kernel
theorem dX5_beAsTold_6 : decode cX5_beAsTold 6 = .ok (.getfield 20, 3) := by decide +kernel
theorem dX5_beAsTold_9 : decode cX5_beAsTold 9 = .ok (.aload_n 0, 1) := by decide +kernel
theorem dX5_beAsTold_10 : decode cX5_beAsTold 10 = .ok (.getfield 14, 3) := by decide +kernel
theorem dX5_beAsTold_13 : decode cX5_beAsTold 13 = .ok (.invokevirtual 36, 3) := by decide +kernel
theorem dX5_beAsTold_16 : decode cX5_beAsTold 16 = .ok (.return_, 1) := by decide +kernel
theorem r_X5_beAsTold (E : kr_E) (g0 : Nat) (h_g0 : kr_sh g0 = (5, 0)) (M : kr_M) : kR kr_vv E Y_X5_beAsTold 4 0 [(0, kr_r E g0)] [] M (f_X5_beAsTold g0 M) := by
  rw [f_X5_beAsTold]
  refine kr_aload_n dX5_beAsTold_0 rfl 0 rfl ?_
  refine kr_iconst (v := 0) dX5_beAsTold_1 (by decide) ?_
  refine kr_putI (ci := 5) (j := 3) dX5_beAsTold_2 h_g0 fl_RX5_33 rfl rfl (fun M1 => ?_)
  refine kr_aload_n dX5_beAsTold_5 rfl 0 rfl ?_
  refine kr_getA (o := 3) (ci := 5) (j := 5) dX5_beAsTold_6 h_g0 fl_RX5_20 rfl ?_
  refine kr_aload_n dX5_beAsTold_9 rfl 0 rfl ?_
  refine kr_getA (o := 1) (ci := 5) (j := 4) dX5_beAsTold_10 h_g0 fl_RX5_14 rfl ?_
  refine kr_Vv (As := [kr_r E (g0 + 1)]) (st := []) zv_X7_take dX5_beAsTold_13 ml_RX5_36 (kr_shR3 _ h_g0) (r_X7_take E (g0 + 3) (kr_shR3 _ h_g0) (g0 + 1) (kr_shR1 _ h_g0) M1) rfl rfl (Nat.le_of_ble_eq_true rfl) rfl (by decide) (Nat.le_of_ble_eq_true rfl) (fun M2 => ?_)
  exact kr_vret dX5_beAsTold_16 rfl
theorem dX2_beAsTold_0 : decode cX2_beAsTold 0 = .ok (.aload_n 0, 1) := by decide +kernel
theorem dX2_beAsTold_1 : decode cX2_beAsTold 1 = .ok (.iconst 0, 1) := by decide +kernel
theorem dX2_beAsTold_2 : decode cX2_beAsTold 2 = .ok (.putfield 80, 3) := by decide +kernel
theorem dX2_beAsTold_5 : decode cX2_beAsTold 5 = .ok (.aload_n 0, 1) := by decide +kernel
theorem dX2_beAsTold_6 : decode cX2_beAsTold 6 = .ok (.iconst 0, 1) := by decide +kernel
theorem dX2_beAsTold_7 : decode cX2_beAsTold 7 = .ok (.putfield 77, 3) := by decide +kernel
theorem dX2_beAsTold_10 : decode cX2_beAsTold 10 = .ok (.iconst 0, 1) := by decide +kernel
theorem dX2_beAsTold_11 : decode cX2_beAsTold 11 = .ok (.istore_n 1, 1) := by decide +kernel
theorem dX2_beAsTold_12 : decode cX2_beAsTold 12 = .ok (.iload_n 1, 1) := by decide +kernel
theorem dX2_beAsTold_13 : decode cX2_beAsTold 13 = .ok (.aload_n 0, 1) := by decide +kernel
theorem dX2_beAsTold_14 : decode cX2_beAsTold 14 = .ok (.getfield 71, 3) := by decide +kernel
theorem dX2_beAsTold_17 : decode cX2_beAsTold 17 = .ok (.if_icmp .ge 18, 3) := by decide +kernel
theorem dX2_beAsTold_20 : decode cX2_beAsTold 20 = .ok (.aload_n 0, 1) := by decide +kernel
theorem dX2_beAsTold_21 : decode cX2_beAsTold 21 = .ok (.getfield 29, 3) := by decide +kernel
theorem dX2_beAsTold_24 : decode cX2_beAsTold 24 = .ok (.iload_n 1, 1) := by decide +kernel
theorem dX2_beAsTold_25 : decode cX2_beAsTold 25 = .ok (.aaload, 1) := by decide +kernel
theorem dX2_beAsTold_26 : decode cX2_beAsTold 26 = .ok (.invokevirtual 138, 3) := by decide +kernel
theorem dX2_beAsTold_29 : decode cX2_beAsTold 29 = .ok (.iinc 1 1, 3) := by decide +kernel
theorem dX2_beAsTold_32 : decode cX2_beAsTold 32 = .ok (.goto (-20), 3) := by decide +kernel
theorem dX2_beAsTold_35 : decode cX2_beAsTold 35 = .ok (.aload_n 0, 1) := by decide +kernel
theorem dX2_beAsTold_36 : decode cX2_beAsTold 36 = .ok (.getfield 39, 3) := by decide +kernel
theorem dX2_beAsTold_39 : decode cX2_beAsTold 39 = .ok (.iconst 0, 1) := by decide +kernel
theorem dX2_beAsTold_40 : decode cX2_beAsTold 40 = .ok (.aload_n 0, 1) := by decide +kernel
theorem dX2_beAsTold_41 : decode cX2_beAsTold 41 = .ok (.getfield 42, 3) := by decide +kernel
theorem dX2_beAsTold_44 : decode cX2_beAsTold 44 = .ok (.iconst 0, 1) := by decide +kernel
theorem dX2_beAsTold_45 : decode cX2_beAsTold 45 = .ok (.bipush 6, 2) := by decide +kernel
theorem dX2_beAsTold_47 : decode cX2_beAsTold 47 = .ok (.invokestatic 83, 3) := by decide +kernel
theorem dX2_beAsTold_50 : decode cX2_beAsTold 50 = .ok (.return_, 1) := by decide +kernel
theorem r_X2_beAsTold_35 (E : kr_E)  (l0 : Nat) (h_l0 : kr_sh l0 = (2, 0))  (M : kr_M) : kR kr_vv E Y_X2_beAsTold 5 35 [(0, kr_r E l0)] [] M (f_X2_beAsTold_35 l0 M) := by
  rw [f_X2_beAsTold_35]
  refine kr_aload_n dX2_beAsTold_35 rfl 0 rfl ?_
  refine kr_getA (o := 8) (ci := 2) (j := 17) dX2_beAsTold_36 h_l0 fl_RX2_39 rfl ?_
  refine kr_iconst (v := 0) dX2_beAsTold_39 (by decide) ?_
  refine kr_aload_n dX2_beAsTold_40 rfl 0 rfl ?_
  refine kr_getA (o := 9) (ci := 2) (j := 18) dX2_beAsTold_41 h_l0 fl_RX2_42 rfl ?_
  refine kr_iconst (v := 0) dX2_beAsTold_44 (by decide) ?_
  refine kr_bipush (v := 6) dX2_beAsTold_45 (by decide) ?_
  refine kr_copyI dX2_beAsTold_47 ml_RX2_83 (kr_shG8 _ h_l0) (kr_shG9 _ h_l0) (by decide) (Nat.le_of_ble_eq_true rfl) (fun M1 => ?_)
  exact kr_vret dX2_beAsTold_50 rfl
theorem r_X2_beAsTold_12 (E : kr_E)  (l0 : Nat) (h_l0 : kr_sh l0 = (2, 0))  : ∀ (n : Nat) (l1 : Int32) (M : kr_M), kR kr_vv E Y_X2_beAsTold 5 12 [(0, kr_r E l0), (1, .int l1)] [] M (f_X2_beAsTold_12 l0 n l1 M) := by
  intro n
  induction n with
  | zero => intro l1 M; exact kr_none
  | succ n ih =>
    intro l1 M
    rw [f_X2_beAsTold_12]
    refine kr_iload_n dX2_beAsTold_12 rfl 1 rfl ?_
    refine kr_aload_n dX2_beAsTold_13 rfl 0 rfl ?_
    refine kr_getI (ci := 2) (j := 6) dX2_beAsTold_14 h_l0 fl_RX2_71 rfl (fun v1 => ?_)
    refine kr_icmp_ge (tgt := 35) dX2_beAsTold_17 (by decide) ?_ ?_
    · refine kr_sub [0] rfl ?_
      exact r_X2_beAsTold_35 E l0 h_l0 M
    · refine kr_aload_n dX2_beAsTold_20 rfl 0 rfl ?_
      refine kr_getA (o := 5) (ci := 2) (j := 14) dX2_beAsTold_21 h_l0 fl_RX2_29 rfl ?_
      refine kr_iload_n dX2_beAsTold_24 rfl 1 rfl ?_
      refine kr_aaldR dX2_beAsTold_25 h_l0 (fun h2 => ?_)
      refine kr_Vv (As := []) (st := []) zv_X5_beAsTold dX2_beAsTold_26 ml_RX2_138 h2 (r_X5_beAsTold E (kr_rp l0 l1) h2 M) rfl rfl (Nat.le_of_ble_eq_true rfl) rfl (by decide) (Nat.le_of_ble_eq_true rfl) (fun M3 => ?_)
      refine kr_iinc (j := 1) (v := (l1 + (1 : Int32))) (lv' := [(1, .int (l1 + (1 : Int32))), (0, kr_r E l0)]) dX2_beAsTold_29 rfl rfl (by decide) rfl ?_
      refine kr_goto (tgt := 12) dX2_beAsTold_32 (by decide) ?_
      refine kr_sub [1, 0] rfl ?_
      exact ih (l1 + (1 : Int32)) M3
theorem r_X2_beAsTold (E : kr_E) (g0 : Nat) (h_g0 : kr_sh g0 = (2, 0)) (M : kr_M) : kR kr_vv E Y_X2_beAsTold 5 0 [(0, kr_r E g0)] [] M (f_X2_beAsTold g0 M) := by
  rw [f_X2_beAsTold]
  refine kr_aload_n dX2_beAsTold_0 rfl 0 rfl ?_
  refine kr_iconst (v := 0) dX2_beAsTold_1 (by decide) ?_
  refine kr_putI (ci := 2) (j := 9) dX2_beAsTold_2 h_g0 fl_RX2_80 rfl rfl (fun M1 => ?_)
  refine kr_aload_n dX2_beAsTold_5 rfl 0 rfl ?_
  refine kr_iconst (v := 0) dX2_beAsTold_6 (by decide) ?_
  refine kr_putI (ci := 2) (j := 8) dX2_beAsTold_7 h_g0 fl_RX2_77 rfl rfl (fun M2 => ?_)
  refine kr_iconst (v := 0) dX2_beAsTold_10 (by decide) ?_
  refine kr_istore_n (lv' := [(1, .int (0 : Int32)), (0, kr_r E g0)]) dX2_beAsTold_11 rfl (by decide) rfl ?_
  refine kr_sub [1, 0] rfl ?_
  exact r_X2_beAsTold_12 E g0 h_g0 _ (0 : Int32) M2
theorem dX2_takeBackTo_0 : decode cX2_takeBackTo 0 = .ok (.aload_n 0, 1) := by decide +kernel
theorem dX2_takeBackTo_1 : decode cX2_takeBackTo 1 = .ok (.invokevirtual 135, 3) := by decide +kernel
theorem dX2_takeBackTo_4 : decode cX2_takeBackTo 4 = .ok (.aload_n 0, 1) := by decide +kernel
theorem dX2_takeBackTo_5 : decode cX2_takeBackTo 5 = .ok (.iload_n 1, 1) := by decide +kernel
theorem dX2_takeBackTo_6 : decode cX2_takeBackTo 6 = .ok (.putfield 80, 3) := by decide +kernel
theorem dX2_takeBackTo_9 : decode cX2_takeBackTo 9 = .ok (.iconst 0, 1) := by decide +kernel
theorem dX2_takeBackTo_10 : decode cX2_takeBackTo 10 = .ok (.istore_n 2, 1) := by decide +kernel
theorem dX2_takeBackTo_11 : decode cX2_takeBackTo 11 = .ok (.iload_n 2, 1) := by decide +kernel
theorem dX2_takeBackTo_12 : decode cX2_takeBackTo 12 = .ok (.iload_n 1, 1) := by decide +kernel
theorem dX2_takeBackTo_13 : decode cX2_takeBackTo 13 = .ok (.if_icmp .ge 16, 3) := by decide +kernel
theorem dX2_takeBackTo_16 : decode cX2_takeBackTo 16 = .ok (.aload_n 0, 1) := by decide +kernel
theorem dX2_takeBackTo_17 : decode cX2_takeBackTo 17 = .ok (.iconst 4, 1) := by decide +kernel
theorem dX2_takeBackTo_18 : decode cX2_takeBackTo 18 = .ok (.iload_n 2, 1) := by decide +kernel
theorem dX2_takeBackTo_19 : decode cX2_takeBackTo 19 = .ok (.imul, 1) := by decide +kernel
theorem dX2_takeBackTo_20 : decode cX2_takeBackTo 20 = .ok (.invokevirtual 125, 3) := by decide +kernel
theorem dX2_takeBackTo_23 : decode cX2_takeBackTo 23 = .ok (.iinc 2 1, 3) := by decide +kernel
theorem dX2_takeBackTo_26 : decode cX2_takeBackTo 26 = .ok (.goto (-15), 3) := by decide +kernel
theorem dX2_takeBackTo_29 : decode cX2_takeBackTo 29 = .ok (.return_, 1) := by decide +kernel
theorem r_X2_takeBackTo_11 (E : kr_E)  (l0 : Nat) (h_l0 : kr_sh l0 = (2, 0)) (l1 : Int32)  : ∀ (n : Nat) (l2 : Int32) (M : kr_M), kR kr_vv E Y_X2_takeBackTo 6 11 [(0, kr_r E l0), (1, .int l1), (2, .int l2)] [] M (f_X2_takeBackTo_11 l0 l1 n l2 M) := by
  intro n
  induction n with
  | zero => intro l2 M; exact kr_none
  | succ n ih =>
    intro l2 M
    rw [f_X2_takeBackTo_11]
    refine kr_iload_n dX2_takeBackTo_11 rfl 2 rfl ?_
    refine kr_iload_n dX2_takeBackTo_12 rfl 1 rfl ?_
    refine kr_icmp_ge (tgt := 29) dX2_takeBackTo_13 (by decide) ?_ ?_
    · exact kr_vret dX2_takeBackTo_29 rfl
    · refine kr_aload_n dX2_takeBackTo_16 rfl 0 rfl ?_
      refine kr_iconst (v := 4) dX2_takeBackTo_17 (by decide) ?_
      refine kr_iload_n dX2_takeBackTo_18 rfl 2 rfl ?_
      refine kr_imul dX2_takeBackTo_19 ?_
      refine kr_Vv (As := [.int ((4 : Int32) * l2)]) (st := []) zv_X2_carryOut dX2_takeBackTo_20 ml_RX2_125 h_l0 (r_X2_carryOut E l0 h_l0 ((4 : Int32) * l2) M) rfl rfl (Nat.le_of_ble_eq_true rfl) rfl (by decide) (Nat.le_of_ble_eq_true rfl) (fun M1 => ?_)
      refine kr_iinc (j := 2) (v := (l2 + (1 : Int32))) (lv' := [(2, .int (l2 + (1 : Int32))), (0, kr_r E l0), (1, .int l1)]) dX2_takeBackTo_23 rfl rfl (by decide) rfl ?_
      refine kr_goto (tgt := 11) dX2_takeBackTo_26 (by decide) ?_
      refine kr_sub [1, 2, 0] rfl ?_
      exact ih (l2 + (1 : Int32)) M1
theorem r_X2_takeBackTo (E : kr_E) (g0 : Nat) (h_g0 : kr_sh g0 = (2, 0)) (p1 : Int32) (M : kr_M) : kR kr_vv E Y_X2_takeBackTo 6 0 [(0, kr_r E g0), (1, .int p1)] [] M (f_X2_takeBackTo g0 p1 M) := by
  rw [f_X2_takeBackTo]
  refine kr_aload_n dX2_takeBackTo_0 rfl 0 rfl ?_
  refine kr_Vv (As := []) (st := []) zv_X2_beAsTold dX2_takeBackTo_1 ml_RX2_135 h_g0 (r_X2_beAsTold E g0 h_g0 M) rfl rfl (Nat.le_of_ble_eq_true rfl) rfl (by decide) (Nat.le_of_ble_eq_true rfl) (fun M1 => ?_)
  refine kr_aload_n dX2_takeBackTo_4 rfl 0 rfl ?_
  refine kr_iload_n dX2_takeBackTo_5 rfl 1 rfl ?_
  refine kr_putI (ci := 2) (j := 9) dX2_takeBackTo_6 h_g0 fl_RX2_80 rfl rfl (fun M3 => ?_)
  refine kr_iconst (v := 0) dX2_takeBackTo_9 (by decide) ?_
  refine kr_istore_n (lv' := [(2, .int (0 : Int32)), (0, kr_r E g0), (1, .int p1)]) dX2_takeBackTo_10 rfl (by decide) rfl ?_
  refine kr_sub [1, 2, 0] rfl ?_
  exact r_X2_takeBackTo_11 E g0 h_g0 p1 _ (0 : Int32) M3
theorem dX3_kindOf_0 : decode cX3_kindOf 0 = .ok (.iload_n 3, 1) := by decide +kernel
theorem dX3_kindOf_1 : decode cX3_kindOf 1 = .ok (.aload_n 1, 1) := by decide +kernel
theorem dX3_kindOf_2 : decode cX3_kindOf 2 = .ok (.getfield 18, 3) := by decide +kernel
theorem dX3_kindOf_5 : decode cX3_kindOf 5 = .ok (.if_icmp .ge 12, 3) := by decide +kernel
theorem dX3_kindOf_8 : decode cX3_kindOf 8 = .ok (.aload_n 1, 1) := by decide +kernel
theorem dX3_kindOf_9 : decode cX3_kindOf 9 = .ok (.getfield 37, 3) := by decide +kernel
theorem dX3_kindOf_12 : decode cX3_kindOf 12 = .ok (.iload_n 3, 1) := by decide +kernel
theorem dX3_kindOf_13 : decode cX3_kindOf 13 = .ok (.iaload, 1) := by decide +kernel
theorem dX3_kindOf_14 : decode cX3_kindOf 14 = .ok (.goto 19, 3) := by decide +kernel
theorem dX3_kindOf_17 : decode cX3_kindOf 17 = .ok (.aload_n 0, 1) := by decide +kernel
theorem dX3_kindOf_18 : decode cX3_kindOf 18 = .ok (.getfield 15, 3) := by decide +kernel
theorem dX3_kindOf_21 : decode cX3_kindOf 21 = .ok (.iload_n 2, 1) := by decide +kernel
theorem dX3_kindOf_22 : decode cX3_kindOf 22 = .ok (.bipush 24, 2) := by decide +kernel
theorem dX3_kindOf_24 : decode cX3_kindOf 24 = .ok (.imul, 1) := by decide +kernel
theorem dX3_kindOf_25 : decode cX3_kindOf 25 = .ok (.iload_n 3, 1) := by decide +kernel
theorem dX3_kindOf_26 : decode cX3_kindOf 26 = .ok (.iadd, 1) := by decide +kernel
theorem dX3_kindOf_27 : decode cX3_kindOf 27 = .ok (.aload_n 1, 1) := by decide +kernel
theorem dX3_kindOf_28 : decode cX3_kindOf 28 = .ok (.getfield 18, 3) := by decide +kernel
theorem dX3_kindOf_31 : decode cX3_kindOf 31 = .ok (.isub, 1) := by decide +kernel
theorem dX3_kindOf_32 : decode cX3_kindOf 32 = .ok (.iaload, 1) := by decide +kernel
theorem dX3_kindOf_33 : decode cX3_kindOf 33 = .ok (.ireturn, 1) := by decide +kernel
theorem r_X3_kindOf (E : kr_E) (p1 : Nat) (h_p1 : kr_sh p1 = (7, 0)) (p2 : Int32) (p3 : Int32) (M : kr_M) : kR kr_vi E Y_X3_kindOf 1 0 [(0, kr_r E 324), (1, kr_r E p1), (2, .int p2), (3, .int p3)] [] M (f_X3_kindOf p1 p2 p3 M) := by
  rw [f_X3_kindOf]
  refine kr_iload_n dX3_kindOf_0 rfl 3 rfl ?_
  refine kr_aload_n dX3_kindOf_1 rfl 1 rfl ?_
  refine kr_getI (ci := 7) (j := 1) dX3_kindOf_2 h_p1 fl_RX3_18 rfl (fun v1 => ?_)
  refine kr_icmp_ge (tgt := 17) dX3_kindOf_5 (by decide) ?_ ?_
  · refine kr_aload_n dX3_kindOf_17 rfl 0 rfl ?_
    refine kr_getA (o := 2) (ci := 3) (j := 1) dX3_kindOf_18 kr_at_324 fl_RX3_15 rfl ?_
    refine kr_iload_n dX3_kindOf_21 rfl 2 rfl ?_
    refine kr_bipush (v := 24) dX3_kindOf_22 (by decide) ?_
    refine kr_imul dX3_kindOf_24 ?_
    refine kr_iload_n dX3_kindOf_25 rfl 3 rfl ?_
    refine kr_iadd dX3_kindOf_26 ?_
    refine kr_aload_n dX3_kindOf_27 rfl 1 rfl ?_
    refine kr_getI (ci := 7) (j := 1) dX3_kindOf_28 h_p1 fl_RX3_18 rfl (fun v2 => ?_)
    refine kr_isub dX3_kindOf_31 ?_
    refine kr_iald dX3_kindOf_32 kr_at_326 (fun v3 => ?_)
    exact kr_iret dX3_kindOf_33 rfl
  · refine kr_aload_n dX3_kindOf_8 rfl 1 rfl ?_
    refine kr_getA (o := 1) (ci := 7) (j := 0) dX3_kindOf_9 h_p1 fl_RX3_37 rfl ?_
    refine kr_iload_n dX3_kindOf_12 rfl 3 rfl ?_
    refine kr_iald dX3_kindOf_13 (kr_shT1 _ h_p1) (fun v4 => ?_)
    refine kr_goto (tgt := 33) dX3_kindOf_14 (by decide) ?_
    exact kr_iret dX3_kindOf_33 rfl
theorem dX3_isLess_0 : decode cX3_isLess 0 = .ok (.iconst 0, 1) := by decide +kernel
theorem dX3_isLess_1 : decode cX3_isLess 1 = .ok (.istore 4, 2) := by decide +kernel
theorem dX3_isLess_3 : decode cX3_isLess 3 = .ok (.iload 4, 2) := by decide +kernel
theorem dX3_isLess_5 : decode cX3_isLess 5 = .ok (.iload_n 1, 1) := by decide +kernel
theorem dX3_isLess_6 : decode cX3_isLess 6 = .ok (.iload_n 2, 1) := by decide +kernel
theorem dX3_isLess_7 : decode cX3_isLess 7 = .ok (.isub, 1) := by decide +kernel
theorem dX3_isLess_8 : decode cX3_isLess 8 = .ok (.if_icmp .ge 58, 3) := by decide +kernel
theorem dX3_isLess_11 : decode cX3_isLess 11 = .ok (.aload_n 0, 1) := by decide +kernel
theorem dX3_isLess_12 : decode cX3_isLess 12 = .ok (.aload_n 3, 1) := by decide +kernel
theorem dX3_isLess_13 : decode cX3_isLess 13 = .ok (.iload_n 2, 1) := by decide +kernel
theorem dX3_isLess_14 : decode cX3_isLess 14 = .ok (.aload_n 3, 1) := by decide +kernel
theorem dX3_isLess_15 : decode cX3_isLess 15 = .ok (.getfield 18, 3) := by decide +kernel
theorem dX3_isLess_18 : decode cX3_isLess 18 = .ok (.iadd, 1) := by decide +kernel
theorem dX3_isLess_19 : decode cX3_isLess 19 = .ok (.iload 4, 2) := by decide +kernel
theorem dX3_isLess_21 : decode cX3_isLess 21 = .ok (.invokevirtual 44, 3) := by decide +kernel
theorem dX3_isLess_24 : decode cX3_isLess 24 = .ok (.istore 5, 2) := by decide +kernel
theorem dX3_isLess_26 : decode cX3_isLess 26 = .ok (.aload_n 0, 1) := by decide +kernel
theorem dX3_isLess_27 : decode cX3_isLess 27 = .ok (.getfield 15, 3) := by decide +kernel
theorem dX3_isLess_30 : decode cX3_isLess 30 = .ok (.iload_n 2, 1) := by decide +kernel
theorem dX3_isLess_31 : decode cX3_isLess 31 = .ok (.bipush 24, 2) := by decide +kernel
theorem dX3_isLess_33 : decode cX3_isLess 33 = .ok (.imul, 1) := by decide +kernel
theorem dX3_isLess_34 : decode cX3_isLess 34 = .ok (.iload 4, 2) := by decide +kernel
theorem dX3_isLess_36 : decode cX3_isLess 36 = .ok (.iadd, 1) := by decide +kernel
theorem dX3_isLess_37 : decode cX3_isLess 37 = .ok (.iaload, 1) := by decide +kernel
theorem dX3_isLess_38 : decode cX3_isLess 38 = .ok (.istore 6, 2) := by decide +kernel
theorem dX3_isLess_40 : decode cX3_isLess 40 = .ok (.iload 5, 2) := by decide +kernel
theorem dX3_isLess_42 : decode cX3_isLess 42 = .ok (.iload 6, 2) := by decide +kernel
theorem dX3_isLess_44 : decode cX3_isLess 44 = .ok (.if_icmp .eq 16, 3) := by decide +kernel
theorem dX3_isLess_47 : decode cX3_isLess 47 = .ok (.iload 5, 2) := by decide +kernel
theorem dX3_isLess_49 : decode cX3_isLess 49 = .ok (.iload 6, 2) := by decide +kernel
theorem dX3_isLess_51 : decode cX3_isLess 51 = .ok (.if_icmp .ge 7, 3) := by decide +kernel
theorem dX3_isLess_54 : decode cX3_isLess 54 = .ok (.iconst 1, 1) := by decide +kernel
theorem dX3_isLess_55 : decode cX3_isLess 55 = .ok (.goto 4, 3) := by decide +kernel
theorem dX3_isLess_58 : decode cX3_isLess 58 = .ok (.iconst 0, 1) := by decide +kernel
theorem dX3_isLess_59 : decode cX3_isLess 59 = .ok (.ireturn, 1) := by decide +kernel
theorem dX3_isLess_60 : decode cX3_isLess 60 = .ok (.iinc 4 1, 3) := by decide +kernel
theorem dX3_isLess_63 : decode cX3_isLess 63 = .ok (.goto (-60), 3) := by decide +kernel
theorem dX3_isLess_66 : decode cX3_isLess 66 = .ok (.iconst 0, 1) := by decide +kernel
theorem dX3_isLess_67 : decode cX3_isLess 67 = .ok (.ireturn, 1) := by decide +kernel
theorem r_X3_isLess_47 (E : kr_E)  (l5 : Int32) (l6 : Int32)  (M : kr_M) : kR kr_vi E Y_X3_isLess 2 47 [(5, .int l5), (6, .int l6)] [] M (f_X3_isLess_47 l5 l6 M) := by
  rw [f_X3_isLess_47]
  refine kr_iload dX3_isLess_47 0 rfl ?_
  refine kr_iload dX3_isLess_49 1 rfl ?_
  refine kr_icmp_ge (tgt := 58) dX3_isLess_51 (by decide) ?_ ?_
  · refine kr_iconst (v := 0) dX3_isLess_58 (by decide) ?_
    exact kr_zret1 dX3_isLess_59 rfl rfl
  · refine kr_iconst (v := 1) dX3_isLess_54 (by decide) ?_
    refine kr_goto (tgt := 59) dX3_isLess_55 (by decide) ?_
    exact kr_zret1 dX3_isLess_59 rfl rfl
theorem r_X3_isLess_3 (E : kr_E)  (l1 : Int32) (l2 : Int32) (l3 : Nat) (h_l3 : kr_sh l3 = (7, 0))  : ∀ (n : Nat) (l4 : Int32) (M : kr_M), kR kr_vi E Y_X3_isLess 2 3 [(0, kr_r E 324), (1, .int l1), (2, .int l2), (3, kr_r E l3), (4, .int l4)] [] M (f_X3_isLess_3 l1 l2 l3 n l4 M) := by
  intro n
  induction n with
  | zero => intro l4 M; exact kr_none
  | succ n ih =>
    intro l4 M
    rw [f_X3_isLess_3]
    refine kr_iload dX3_isLess_3 4 rfl ?_
    refine kr_iload_n dX3_isLess_5 rfl 1 rfl ?_
    refine kr_iload_n dX3_isLess_6 rfl 2 rfl ?_
    refine kr_isub dX3_isLess_7 ?_
    refine kr_icmp_ge (tgt := 66) dX3_isLess_8 (by decide) ?_ ?_
    · refine kr_iconst (v := 0) dX3_isLess_66 (by decide) ?_
      exact kr_zret1 dX3_isLess_67 rfl rfl
    · refine kr_aload_n dX3_isLess_11 rfl 0 rfl ?_
      refine kr_aload_n dX3_isLess_12 rfl 3 rfl ?_
      refine kr_iload_n dX3_isLess_13 rfl 2 rfl ?_
      refine kr_aload_n dX3_isLess_14 rfl 3 rfl ?_
      refine kr_getI (ci := 7) (j := 1) dX3_isLess_15 h_l3 fl_RX3_18 rfl (fun v1 => ?_)
      refine kr_iadd dX3_isLess_18 ?_
      refine kr_iload dX3_isLess_19 4 rfl ?_
      refine kr_Vi (As := [kr_r E l3, .int (l2 + v1), .int l4]) (st := []) zv_X3_kindOf dX3_isLess_21 ml_RX3_44 kr_at_324 (r_X3_kindOf E l3 h_l3 (l2 + v1) l4 M) rfl rfl (Nat.le_of_ble_eq_true rfl) rfl (by decide) (Nat.le_of_ble_eq_true rfl) (fun r3 M2 => ?_)
      refine kr_istore (lv' := [(5, .int r3), (0, kr_r E 324), (1, .int l1), (2, .int l2), (3, kr_r E l3), (4, .int l4)]) dX3_isLess_24 (by decide) rfl ?_
      refine kr_aload_n dX3_isLess_26 rfl 1 rfl ?_
      refine kr_getA (o := 2) (ci := 3) (j := 1) dX3_isLess_27 kr_at_324 fl_RX3_15 rfl ?_
      refine kr_iload_n dX3_isLess_30 rfl 3 rfl ?_
      refine kr_bipush (v := 24) dX3_isLess_31 (by decide) ?_
      refine kr_imul dX3_isLess_33 ?_
      refine kr_iload dX3_isLess_34 5 rfl ?_
      refine kr_iadd dX3_isLess_36 ?_
      refine kr_iald dX3_isLess_37 kr_at_326 (fun v4 => ?_)
      refine kr_istore (lv' := [(6, .int v4), (5, .int r3), (0, kr_r E 324), (1, .int l1), (2, .int l2), (3, kr_r E l3), (4, .int l4)]) dX3_isLess_38 (by decide) rfl ?_
      refine kr_iload dX3_isLess_40 1 rfl ?_
      refine kr_iload dX3_isLess_42 0 rfl ?_
      refine kr_icmp_eq (tgt := 60) dX3_isLess_44 (by decide) ?_ ?_
      · refine kr_iinc (j := 6) (v := (l4 + (1 : Int32))) (lv' := [(4, .int (l4 + (1 : Int32))), (6, .int v4), (5, .int r3), (0, kr_r E 324), (1, .int l1), (2, .int l2), (3, kr_r E l3)]) dX3_isLess_60 rfl rfl (by decide) rfl ?_
        refine kr_goto (tgt := 3) dX3_isLess_63 (by decide) ?_
        refine kr_sub [3, 4, 5, 6, 0] rfl ?_
        exact ih (l4 + (1 : Int32)) M2
      · refine kr_sub [1, 0] rfl ?_
        exact r_X3_isLess_47 E r3 v4 M2
theorem r_X3_isLess (E : kr_E) (p1 : Int32) (p2 : Int32) (p3 : Nat) (h_p3 : kr_sh p3 = (7, 0)) (M : kr_M) : kR kr_vi E Y_X3_isLess 2 0 [(0, kr_r E 324), (1, .int p1), (2, .int p2), (3, kr_r E p3)] [] M (f_X3_isLess p1 p2 p3 M) := by
  rw [f_X3_isLess]
  refine kr_iconst (v := 0) dX3_isLess_0 (by decide) ?_
  refine kr_istore (lv' := [(4, .int (0 : Int32)), (0, kr_r E 324), (1, .int p1), (2, .int p2), (3, kr_r E p3)]) dX3_isLess_1 (by decide) rfl ?_
  refine kr_sub [1, 2, 3, 4, 0] rfl ?_
  exact r_X3_isLess_3 E p1 p2 p3 h_p3 _ (0 : Int32) M
theorem dX3_consider_0 : decode cX3_consider 0 = .ok (.iload_n 2, 1) := by decide +kernel
theorem dX3_consider_1 : decode cX3_consider 1 = .ok (.aload_n 3, 1) := by decide +kernel
theorem dX3_consider_2 : decode cX3_consider 2 = .ok (.getfield 18, 3) := by decide +kernel
theorem dX3_consider_5 : decode cX3_consider 5 = .ok (.iadd, 1) := by decide +kernel
theorem dX3_consider_6 : decode cX3_consider 6 = .ok (.istore 4, 2) := by decide +kernel
theorem dX3_consider_8 : decode cX3_consider 8 = .ok (.iload 4, 2) := by decide +kernel
theorem dX3_consider_10 : decode cX3_consider 10 = .ok (.aload_n 1, 1) := by decide +kernel
theorem dX3_consider_11 : decode cX3_consider 11 = .ok (.getfield 18, 3) := by decide +kernel
theorem dX3_consider_14 : decode cX3_consider 14 = .ok (.if_icmp .gt 14, 3) := by decide +kernel
theorem dX3_consider_17 : decode cX3_consider 17 = .ok (.aload_n 0, 1) := by decide +kernel
theorem dX3_consider_18 : decode cX3_consider 18 = .ok (.getfield 9, 3) := by decide +kernel
theorem dX3_consider_21 : decode cX3_consider 21 = .ok (.iload 4, 2) := by decide +kernel
theorem dX3_consider_23 : decode cX3_consider 23 = .ok (.iaload, 1) := by decide +kernel
theorem dX3_consider_24 : decode cX3_consider 24 = .ok (.iconst (-1), 1) := by decide +kernel
theorem dX3_consider_25 : decode cX3_consider 25 = .ok (.if_icmp .ne 4, 3) := by decide +kernel
theorem dX3_consider_28 : decode cX3_consider 28 = .ok (.return_, 1) := by decide +kernel
theorem dX3_consider_29 : decode cX3_consider 29 = .ok (.aload_n 0, 1) := by decide +kernel
theorem dX3_consider_30 : decode cX3_consider 30 = .ok (.getfield 9, 3) := by decide +kernel
theorem dX3_consider_33 : decode cX3_consider 33 = .ok (.iload 4, 2) := by decide +kernel
theorem dX3_consider_35 : decode cX3_consider 35 = .ok (.iaload, 1) := by decide +kernel
theorem dX3_consider_36 : decode cX3_consider 36 = .ok (.istore 5, 2) := by decide +kernel
theorem dX3_consider_38 : decode cX3_consider 38 = .ok (.iconst 0, 1) := by decide +kernel
theorem dX3_consider_39 : decode cX3_consider 39 = .ok (.istore 6, 2) := by decide +kernel
theorem dX3_consider_41 : decode cX3_consider 41 = .ok (.iload 6, 2) := by decide +kernel
theorem dX3_consider_43 : decode cX3_consider 43 = .ok (.aload_n 3, 1) := by decide +kernel
theorem dX3_consider_44 : decode cX3_consider 44 = .ok (.getfield 18, 3) := by decide +kernel
theorem dX3_consider_47 : decode cX3_consider 47 = .ok (.if_icmp .ge 31, 3) := by decide +kernel
theorem dX3_consider_50 : decode cX3_consider 50 = .ok (.aload_n 1, 1) := by decide +kernel
theorem dX3_consider_51 : decode cX3_consider 51 = .ok (.getfield 37, 3) := by decide +kernel
theorem dX3_consider_54 : decode cX3_consider 54 = .ok (.iload_n 2, 1) := by decide +kernel
theorem dX3_consider_55 : decode cX3_consider 55 = .ok (.iload 6, 2) := by decide +kernel
theorem dX3_consider_57 : decode cX3_consider 57 = .ok (.iadd, 1) := by decide +kernel
theorem dX3_consider_58 : decode cX3_consider 58 = .ok (.iaload, 1) := by decide +kernel
theorem dX3_consider_59 : decode cX3_consider 59 = .ok (.aload_n 3, 1) := by decide +kernel
theorem dX3_consider_60 : decode cX3_consider 60 = .ok (.getfield 37, 3) := by decide +kernel
theorem dX3_consider_63 : decode cX3_consider 63 = .ok (.iload 6, 2) := by decide +kernel
theorem dX3_consider_65 : decode cX3_consider 65 = .ok (.iaload, 1) := by decide +kernel
theorem dX3_consider_66 : decode cX3_consider 66 = .ok (.if_icmp .eq 6, 3) := by decide +kernel
theorem dX3_consider_69 : decode cX3_consider 69 = .ok (.iinc 5 1, 3) := by decide +kernel
theorem dX3_consider_72 : decode cX3_consider 72 = .ok (.iinc 6 1, 3) := by decide +kernel
theorem dX3_consider_75 : decode cX3_consider 75 = .ok (.goto (-34), 3) := by decide +kernel
theorem dX3_consider_78 : decode cX3_consider 78 = .ok (.aload_n 0, 1) := by decide +kernel
theorem dX3_consider_79 : decode cX3_consider 79 = .ok (.getfield 9, 3) := by decide +kernel
theorem dX3_consider_82 : decode cX3_consider 82 = .ok (.iload_n 2, 1) := by decide +kernel
theorem dX3_consider_83 : decode cX3_consider 83 = .ok (.iaload, 1) := by decide +kernel
theorem dX3_consider_84 : decode cX3_consider 84 = .ok (.iconst (-1), 1) := by decide +kernel
theorem dX3_consider_85 : decode cX3_consider 85 = .ok (.if_icmp .eq 14, 3) := by decide +kernel
theorem dX3_consider_88 : decode cX3_consider 88 = .ok (.iload 5, 2) := by decide +kernel
theorem dX3_consider_90 : decode cX3_consider 90 = .ok (.aload_n 0, 1) := by decide +kernel
theorem dX3_consider_91 : decode cX3_consider 91 = .ok (.getfield 9, 3) := by decide +kernel
theorem dX3_consider_94 : decode cX3_consider 94 = .ok (.iload_n 2, 1) := by decide +kernel
theorem dX3_consider_95 : decode cX3_consider 95 = .ok (.iaload, 1) := by decide +kernel
theorem dX3_consider_96 : decode cX3_consider 96 = .ok (.if_icmp .ge 7, 3) := by decide +kernel
theorem dX3_consider_99 : decode cX3_consider 99 = .ok (.iconst 1, 1) := by decide +kernel
theorem dX3_consider_100 : decode cX3_consider 100 = .ok (.goto 4, 3) := by decide +kernel
theorem dX3_consider_103 : decode cX3_consider 103 = .ok (.iconst 0, 1) := by decide +kernel
theorem dX3_consider_104 : decode cX3_consider 104 = .ok (.istore 6, 2) := by decide +kernel
theorem dX3_consider_106 : decode cX3_consider 106 = .ok (.iload 6, 2) := by decide +kernel
theorem dX3_consider_108 : decode cX3_consider 108 = .ok (.ifCond .ne 27, 3) := by decide +kernel
theorem dX3_consider_111 : decode cX3_consider 111 = .ok (.iload 5, 2) := by decide +kernel
theorem dX3_consider_113 : decode cX3_consider 113 = .ok (.aload_n 0, 1) := by decide +kernel
theorem dX3_consider_114 : decode cX3_consider 114 = .ok (.getfield 9, 3) := by decide +kernel
theorem dX3_consider_117 : decode cX3_consider 117 = .ok (.iload_n 2, 1) := by decide +kernel
theorem dX3_consider_118 : decode cX3_consider 118 = .ok (.iaload, 1) := by decide +kernel
theorem dX3_consider_119 : decode cX3_consider 119 = .ok (.if_icmp .ne 65, 3) := by decide +kernel
theorem dX3_consider_122 : decode cX3_consider 122 = .ok (.aload_n 0, 1) := by decide +kernel
theorem dX3_consider_123 : decode cX3_consider 123 = .ok (.aload_n 1, 1) := by decide +kernel
theorem dX3_consider_124 : decode cX3_consider 124 = .ok (.getfield 18, 3) := by decide +kernel
theorem dX3_consider_127 : decode cX3_consider 127 = .ok (.iload_n 2, 1) := by decide +kernel
theorem dX3_consider_128 : decode cX3_consider 128 = .ok (.aload_n 3, 1) := by decide +kernel
theorem dX3_consider_129 : decode cX3_consider 129 = .ok (.invokevirtual 40, 3) := by decide +kernel
theorem dX3_consider_132 : decode cX3_consider 132 = .ok (.ifCond .eq 52, 3) := by decide +kernel
theorem dX3_consider_135 : decode cX3_consider 135 = .ok (.aload_n 0, 1) := by decide +kernel
theorem dX3_consider_136 : decode cX3_consider 136 = .ok (.getfield 9, 3) := by decide +kernel
theorem dX3_consider_139 : decode cX3_consider 139 = .ok (.iload_n 2, 1) := by decide +kernel
theorem dX3_consider_140 : decode cX3_consider 140 = .ok (.iload 5, 2) := by decide +kernel
theorem dX3_consider_142 : decode cX3_consider 142 = .ok (.iastore, 1) := by decide +kernel
theorem dX3_consider_143 : decode cX3_consider 143 = .ok (.iconst 0, 1) := by decide +kernel
theorem dX3_consider_144 : decode cX3_consider 144 = .ok (.istore 7, 2) := by decide +kernel
theorem dX3_consider_146 : decode cX3_consider 146 = .ok (.iload 7, 2) := by decide +kernel
theorem dX3_consider_148 : decode cX3_consider 148 = .ok (.aload_n 1, 1) := by decide +kernel
theorem dX3_consider_149 : decode cX3_consider 149 = .ok (.getfield 18, 3) := by decide +kernel
theorem dX3_consider_152 : decode cX3_consider 152 = .ok (.iload_n 2, 1) := by decide +kernel
theorem dX3_consider_153 : decode cX3_consider 153 = .ok (.isub, 1) := by decide +kernel
theorem dX3_consider_154 : decode cX3_consider 154 = .ok (.if_icmp .ge 30, 3) := by decide +kernel
theorem dX3_consider_157 : decode cX3_consider 157 = .ok (.aload_n 0, 1) := by decide +kernel
theorem dX3_consider_158 : decode cX3_consider 158 = .ok (.getfield 15, 3) := by decide +kernel
theorem dX3_consider_161 : decode cX3_consider 161 = .ok (.iload_n 2, 1) := by decide +kernel
theorem dX3_consider_162 : decode cX3_consider 162 = .ok (.bipush 24, 2) := by decide +kernel
theorem dX3_consider_164 : decode cX3_consider 164 = .ok (.imul, 1) := by decide +kernel
theorem dX3_consider_165 : decode cX3_consider 165 = .ok (.iload 7, 2) := by decide +kernel
theorem dX3_consider_167 : decode cX3_consider 167 = .ok (.iadd, 1) := by decide +kernel
theorem dX3_consider_168 : decode cX3_consider 168 = .ok (.aload_n 0, 1) := by decide +kernel
theorem dX3_consider_169 : decode cX3_consider 169 = .ok (.aload_n 3, 1) := by decide +kernel
theorem dX3_consider_170 : decode cX3_consider 170 = .ok (.iload 4, 2) := by decide +kernel
theorem dX3_consider_172 : decode cX3_consider 172 = .ok (.iload 7, 2) := by decide +kernel
theorem dX3_consider_174 : decode cX3_consider 174 = .ok (.invokevirtual 44, 3) := by decide +kernel
theorem dX3_consider_177 : decode cX3_consider 177 = .ok (.iastore, 1) := by decide +kernel
theorem dX3_consider_178 : decode cX3_consider 178 = .ok (.iinc 7 1, 3) := by decide +kernel
theorem dX3_consider_181 : decode cX3_consider 181 = .ok (.goto (-35), 3) := by decide +kernel
theorem dX3_consider_184 : decode cX3_consider 184 = .ok (.return_, 1) := by decide +kernel
theorem r_X3_consider_146 (E : kr_E)  (l1 : Nat) (h_l1 : kr_sh l1 = (7, 0)) (l2 : Int32) (l3 : Nat) (h_l3 : kr_sh l3 = (7, 0)) (l4 : Int32)  : ∀ (n : Nat) (l7 : Int32) (M : kr_M), kR kr_vv E Y_X3_consider 3 146 [(0, kr_r E 324), (1, kr_r E l1), (2, .int l2), (3, kr_r E l3), (4, .int l4), (7, .int l7)] [] M (f_X3_consider_146 l1 l2 l3 l4 n l7 M) := by
  intro n
  induction n with
  | zero => intro l7 M; exact kr_none
  | succ n ih =>
    intro l7 M
    rw [f_X3_consider_146]
    refine kr_iload dX3_consider_146 5 rfl ?_
    refine kr_aload_n dX3_consider_148 rfl 1 rfl ?_
    refine kr_getI (ci := 7) (j := 1) dX3_consider_149 h_l1 fl_RX3_18 rfl (fun v1 => ?_)
    refine kr_iload_n dX3_consider_152 rfl 2 rfl ?_
    refine kr_isub dX3_consider_153 ?_
    refine kr_icmp_ge (tgt := 184) dX3_consider_154 (by decide) ?_ ?_
    · exact kr_vret dX3_consider_184 rfl
    · refine kr_aload_n dX3_consider_157 rfl 0 rfl ?_
      refine kr_getA (o := 2) (ci := 3) (j := 1) dX3_consider_158 kr_at_324 fl_RX3_15 rfl ?_
      refine kr_iload_n dX3_consider_161 rfl 2 rfl ?_
      refine kr_bipush (v := 24) dX3_consider_162 (by decide) ?_
      refine kr_imul dX3_consider_164 ?_
      refine kr_iload dX3_consider_165 5 rfl ?_
      refine kr_iadd dX3_consider_167 ?_
      refine kr_aload_n dX3_consider_168 rfl 0 rfl ?_
      refine kr_aload_n dX3_consider_169 rfl 3 rfl ?_
      refine kr_iload dX3_consider_170 4 rfl ?_
      refine kr_iload dX3_consider_172 5 rfl ?_
      refine kr_Vi (As := [kr_r E l3, .int l4, .int l7]) (st := [.int ((l2 * (24 : Int32)) + l7), kr_r E 326]) zv_X3_kindOf dX3_consider_174 ml_RX3_44 kr_at_324 (r_X3_kindOf E l3 h_l3 l4 l7 M) rfl rfl (Nat.le_of_ble_eq_true rfl) rfl (by decide) (Nat.le_of_ble_eq_true rfl) (fun r3 M2 => ?_)
      refine kr_iast dX3_consider_177 kr_at_326 (fun M4 => ?_)
      refine kr_iinc (j := 5) (v := (l7 + (1 : Int32))) (lv' := [(7, .int (l7 + (1 : Int32))), (0, kr_r E 324), (1, kr_r E l1), (2, .int l2), (3, kr_r E l3), (4, .int l4)]) dX3_consider_178 rfl rfl (by decide) rfl ?_
      refine kr_goto (tgt := 146) dX3_consider_181 (by decide) ?_
      refine kr_sub [1, 2, 3, 4, 5, 0] rfl ?_
      exact ih (l7 + (1 : Int32)) M4
theorem r_X3_consider_135 (E : kr_E)  (l1 : Nat) (h_l1 : kr_sh l1 = (7, 0)) (l2 : Int32) (l3 : Nat) (h_l3 : kr_sh l3 = (7, 0)) (l4 : Int32) (l5 : Int32)  (M : kr_M) : kR kr_vv E Y_X3_consider 3 135 [(0, kr_r E 324), (1, kr_r E l1), (2, .int l2), (3, kr_r E l3), (4, .int l4), (5, .int l5)] [] M (f_X3_consider_135 l1 l2 l3 l4 l5 M) := by
  rw [f_X3_consider_135]
  refine kr_aload_n dX3_consider_135 rfl 0 rfl ?_
  refine kr_getA (o := 1) (ci := 3) (j := 0) dX3_consider_136 kr_at_324 fl_RX3_9 rfl ?_
  refine kr_iload_n dX3_consider_139 rfl 2 rfl ?_
  refine kr_iload dX3_consider_140 5 rfl ?_
  refine kr_iast dX3_consider_142 kr_at_325 (fun M1 => ?_)
  refine kr_iconst (v := 0) dX3_consider_143 (by decide) ?_
  refine kr_istore (lv' := [(7, .int (0 : Int32)), (0, kr_r E 324), (1, kr_r E l1), (2, .int l2), (3, kr_r E l3), (4, .int l4), (5, .int l5)]) dX3_consider_144 (by decide) rfl ?_
  refine kr_sub [1, 2, 3, 4, 5, 0] rfl ?_
  exact r_X3_consider_146 E l1 h_l1 l2 l3 h_l3 l4 _ (0 : Int32) M1
theorem r_X3_consider_104 (E : kr_E)  (l1 : Nat) (h_l1 : kr_sh l1 = (7, 0)) (l2 : Int32) (l3 : Nat) (h_l3 : kr_sh l3 = (7, 0)) (l4 : Int32) (l5 : Int32) (s0 : Int32)  (M : kr_M) : kR kr_vv E Y_X3_consider 3 104 [(0, kr_r E 324), (1, kr_r E l1), (2, .int l2), (3, kr_r E l3), (4, .int l4), (5, .int l5)] [.int s0] M (f_X3_consider_104 l1 l2 l3 l4 l5 s0 M) := by
  rw [f_X3_consider_104]
  refine kr_istore (lv' := [(6, .int s0), (0, kr_r E 324), (1, kr_r E l1), (2, .int l2), (3, kr_r E l3), (4, .int l4), (5, .int l5)]) dX3_consider_104 (by decide) rfl ?_
  refine kr_iload dX3_consider_106 0 rfl ?_
  refine kr_if_ne (tgt := 135) dX3_consider_108 (by decide) ?_ ?_
  · refine kr_sub [1, 2, 3, 4, 5, 6] rfl ?_
    exact r_X3_consider_135 E l1 h_l1 l2 l3 h_l3 l4 l5 M
  · refine kr_iload dX3_consider_111 6 rfl ?_
    refine kr_aload_n dX3_consider_113 rfl 1 rfl ?_
    refine kr_getA (o := 1) (ci := 3) (j := 0) dX3_consider_114 kr_at_324 fl_RX3_9 rfl ?_
    refine kr_iload_n dX3_consider_117 rfl 3 rfl ?_
    refine kr_iald dX3_consider_118 kr_at_325 (fun v1 => ?_)
    refine kr_icmp_ne (tgt := 184) dX3_consider_119 (by decide) ?_ ?_
    · exact kr_vret dX3_consider_184 rfl
    · refine kr_aload_n dX3_consider_122 rfl 1 rfl ?_
      refine kr_aload_n dX3_consider_123 rfl 2 rfl ?_
      refine kr_getI (ci := 7) (j := 1) dX3_consider_124 h_l1 fl_RX3_18 rfl (fun v2 => ?_)
      refine kr_iload_n dX3_consider_127 rfl 3 rfl ?_
      refine kr_aload_n dX3_consider_128 rfl 4 rfl ?_
      refine kr_Vi (As := [.int v2, .int l2, kr_r E l3]) (st := []) zv_X3_isLess dX3_consider_129 ml_RX3_40 kr_at_324 (r_X3_isLess E v2 l2 l3 h_l3 M) rfl rfl (Nat.le_of_ble_eq_true rfl) rfl (by decide) (Nat.le_of_ble_eq_true rfl) (fun r4 M3 => ?_)
      refine kr_if_eq (tgt := 184) dX3_consider_132 (by decide) ?_ ?_
      · exact kr_vret dX3_consider_184 rfl
      · refine kr_sub [1, 2, 3, 4, 5, 6] rfl ?_
        exact r_X3_consider_135 E l1 h_l1 l2 l3 h_l3 l4 l5 M3
theorem r_X3_consider_99 (E : kr_E)  (l1 : Nat) (h_l1 : kr_sh l1 = (7, 0)) (l2 : Int32) (l3 : Nat) (h_l3 : kr_sh l3 = (7, 0)) (l4 : Int32) (l5 : Int32)  (M : kr_M) : kR kr_vv E Y_X3_consider 3 99 [(0, kr_r E 324), (1, kr_r E l1), (2, .int l2), (3, kr_r E l3), (4, .int l4), (5, .int l5)] [] M (f_X3_consider_99 l1 l2 l3 l4 l5 M) := by
  rw [f_X3_consider_99]
  refine kr_iconst (v := 1) dX3_consider_99 (by decide) ?_
  refine kr_goto (tgt := 104) dX3_consider_100 (by decide) ?_
  refine kr_sub [0, 1, 2, 3, 4, 5] rfl ?_
  exact r_X3_consider_104 E l1 h_l1 l2 l3 h_l3 l4 l5 (1 : Int32) M
theorem r_X3_consider_78 (E : kr_E)  (l1 : Nat) (h_l1 : kr_sh l1 = (7, 0)) (l2 : Int32) (l3 : Nat) (h_l3 : kr_sh l3 = (7, 0)) (l4 : Int32) (l5 : Int32)  (M : kr_M) : kR kr_vv E Y_X3_consider 3 78 [(0, kr_r E 324), (1, kr_r E l1), (2, .int l2), (3, kr_r E l3), (4, .int l4), (5, .int l5)] [] M (f_X3_consider_78 l1 l2 l3 l4 l5 M) := by
  rw [f_X3_consider_78]
  refine kr_aload_n dX3_consider_78 rfl 0 rfl ?_
  refine kr_getA (o := 1) (ci := 3) (j := 0) dX3_consider_79 kr_at_324 fl_RX3_9 rfl ?_
  refine kr_iload_n dX3_consider_82 rfl 2 rfl ?_
  refine kr_iald dX3_consider_83 kr_at_325 (fun v1 => ?_)
  refine kr_iconst (v := -1) dX3_consider_84 (by decide) ?_
  refine kr_icmp_eq (tgt := 99) dX3_consider_85 (by decide) ?_ ?_
  · refine kr_sub [0, 1, 2, 3, 4, 5] rfl ?_
    exact r_X3_consider_99 E l1 h_l1 l2 l3 h_l3 l4 l5 M
  · refine kr_iload dX3_consider_88 5 rfl ?_
    refine kr_aload_n dX3_consider_90 rfl 0 rfl ?_
    refine kr_getA (o := 1) (ci := 3) (j := 0) dX3_consider_91 kr_at_324 fl_RX3_9 rfl ?_
    refine kr_iload_n dX3_consider_94 rfl 2 rfl ?_
    refine kr_iald dX3_consider_95 kr_at_325 (fun v2 => ?_)
    refine kr_icmp_ge (tgt := 103) dX3_consider_96 (by decide) ?_ ?_
    · refine kr_iconst (v := 0) dX3_consider_103 (by decide) ?_
      refine kr_sub [0, 1, 2, 3, 4, 5] rfl ?_
      exact r_X3_consider_104 E l1 h_l1 l2 l3 h_l3 l4 l5 (0 : Int32) M
    · refine kr_sub [0, 1, 2, 3, 4, 5] rfl ?_
      exact r_X3_consider_99 E l1 h_l1 l2 l3 h_l3 l4 l5 M
theorem r_X3_consider_72 (E : kr_E) (k_41 : Int32 → Int32 → kr_M → Option kr_M) (l1 : Nat) (h_l1 : kr_sh l1 = (7, 0)) (l2 : Int32) (l3 : Nat) (h_l3 : kr_sh l3 = (7, 0)) (l4 : Int32) (l5 : Int32) (l6 : Int32) (hk_41 : ∀ (x5 : Int32) (x6 : Int32) (M : kr_M), kR kr_vv E Y_X3_consider 3 41 [(0, kr_r E 324), (1, kr_r E l1), (2, .int l2), (3, kr_r E l3), (4, .int l4), (5, .int x5), (6, .int x6)] [] M (k_41 x5 x6 M)) (M : kr_M) : kR kr_vv E Y_X3_consider 3 72 [(0, kr_r E 324), (1, kr_r E l1), (2, .int l2), (3, kr_r E l3), (4, .int l4), (5, .int l5), (6, .int l6)] [] M (f_X3_consider_72 k_41 l5 l6 M) := by
  rw [f_X3_consider_72]
  refine kr_iinc (j := 6) (v := (l6 + (1 : Int32))) (lv' := [(6, .int (l6 + (1 : Int32))), (0, kr_r E 324), (1, kr_r E l1), (2, .int l2), (3, kr_r E l3), (4, .int l4), (5, .int l5)]) dX3_consider_72 rfl rfl (by decide) rfl ?_
  refine kr_goto (tgt := 41) dX3_consider_75 (by decide) ?_
  refine kr_sub [1, 2, 3, 4, 5, 6, 0] rfl ?_
  exact hk_41 l5 (l6 + (1 : Int32)) M
theorem r_X3_consider_41 (E : kr_E)  (l1 : Nat) (h_l1 : kr_sh l1 = (7, 0)) (l2 : Int32) (l3 : Nat) (h_l3 : kr_sh l3 = (7, 0)) (l4 : Int32)  : ∀ (n : Nat) (l5 : Int32) (l6 : Int32) (M : kr_M), kR kr_vv E Y_X3_consider 3 41 [(0, kr_r E 324), (1, kr_r E l1), (2, .int l2), (3, kr_r E l3), (4, .int l4), (5, .int l5), (6, .int l6)] [] M (f_X3_consider_41 l1 l2 l3 l4 n l5 l6 M) := by
  intro n
  induction n with
  | zero => intro l5 l6 M; exact kr_none
  | succ n ih =>
    intro l5 l6 M
    rw [f_X3_consider_41]
    refine kr_iload dX3_consider_41 6 rfl ?_
    refine kr_aload_n dX3_consider_43 rfl 3 rfl ?_
    refine kr_getI (ci := 7) (j := 1) dX3_consider_44 h_l3 fl_RX3_18 rfl (fun v1 => ?_)
    refine kr_icmp_ge (tgt := 78) dX3_consider_47 (by decide) ?_ ?_
    · refine kr_sub [0, 1, 2, 3, 4, 5] rfl ?_
      exact r_X3_consider_78 E l1 h_l1 l2 l3 h_l3 l4 l5 M
    · refine kr_aload_n dX3_consider_50 rfl 1 rfl ?_
      refine kr_getA (o := 1) (ci := 7) (j := 0) dX3_consider_51 h_l1 fl_RX3_37 rfl ?_
      refine kr_iload_n dX3_consider_54 rfl 2 rfl ?_
      refine kr_iload dX3_consider_55 6 rfl ?_
      refine kr_iadd dX3_consider_57 ?_
      refine kr_iald dX3_consider_58 (kr_shT1 _ h_l1) (fun v2 => ?_)
      refine kr_aload_n dX3_consider_59 rfl 3 rfl ?_
      refine kr_getA (o := 1) (ci := 7) (j := 0) dX3_consider_60 h_l3 fl_RX3_37 rfl ?_
      refine kr_iload dX3_consider_63 6 rfl ?_
      refine kr_iald dX3_consider_65 (kr_shT1 _ h_l3) (fun v3 => ?_)
      refine kr_icmp_eq (tgt := 72) dX3_consider_66 (by decide) ?_ ?_
      · refine kr_sub [0, 1, 2, 3, 4, 5, 6] rfl ?_
        exact r_X3_consider_72 E _ l1 h_l1 l2 l3 h_l3 l4 l5 l6 ih M
      · refine kr_iinc (j := 5) (v := (l5 + (1 : Int32))) (lv' := [(5, .int (l5 + (1 : Int32))), (0, kr_r E 324), (1, kr_r E l1), (2, .int l2), (3, kr_r E l3), (4, .int l4), (6, .int l6)]) dX3_consider_69 rfl rfl (by decide) rfl ?_
        refine kr_sub [1, 2, 3, 4, 5, 0, 6] rfl ?_
        exact r_X3_consider_72 E _ l1 h_l1 l2 l3 h_l3 l4 (l5 + (1 : Int32)) l6 ih M
theorem r_X3_consider (E : kr_E) (p1 : Nat) (h_p1 : kr_sh p1 = (7, 0)) (p2 : Int32) (p3 : Nat) (h_p3 : kr_sh p3 = (7, 0)) (M : kr_M) : kR kr_vv E Y_X3_consider 3 0 [(0, kr_r E 324), (1, kr_r E p1), (2, .int p2), (3, kr_r E p3)] [] M (f_X3_consider p1 p2 p3 M) := by
  rw [f_X3_consider]
  refine kr_iload_n dX3_consider_0 rfl 2 rfl ?_
  refine kr_aload_n dX3_consider_1 rfl 3 rfl ?_
  refine kr_getI (ci := 7) (j := 1) dX3_consider_2 h_p3 fl_RX3_18 rfl (fun v1 => ?_)
  refine kr_iadd dX3_consider_5 ?_
  refine kr_nmi (fun v2 => ?_)
  refine kr_istore (lv' := [(4, .int v2), (0, kr_r E 324), (1, kr_r E p1), (2, .int p2), (3, kr_r E p3)]) dX3_consider_6 (by decide) rfl ?_
  refine kr_iload dX3_consider_8 0 rfl ?_
  refine kr_aload_n dX3_consider_10 rfl 2 rfl ?_
  refine kr_getI (ci := 7) (j := 1) dX3_consider_11 h_p1 fl_RX3_18 rfl (fun v3 => ?_)
  refine kr_icmp_gt (tgt := 28) dX3_consider_14 (by decide) ?_ ?_
  · exact kr_vret dX3_consider_28 rfl
  · refine kr_aload_n dX3_consider_17 rfl 1 rfl ?_
    refine kr_getA (o := 1) (ci := 3) (j := 0) dX3_consider_18 kr_at_324 fl_RX3_9 rfl ?_
    refine kr_iload dX3_consider_21 0 rfl ?_
    refine kr_iald dX3_consider_23 kr_at_325 (fun v4 => ?_)
    refine kr_iconst (v := -1) dX3_consider_24 (by decide) ?_
    refine kr_icmp_ne (tgt := 29) dX3_consider_25 (by decide) ?_ ?_
    · refine kr_aload_n dX3_consider_29 rfl 1 rfl ?_
      refine kr_getA (o := 1) (ci := 3) (j := 0) dX3_consider_30 kr_at_324 fl_RX3_9 rfl ?_
      refine kr_iload dX3_consider_33 0 rfl ?_
      refine kr_iald dX3_consider_35 kr_at_325 (fun v5 => ?_)
      refine kr_istore (lv' := [(5, .int v5), (4, .int v2), (0, kr_r E 324), (1, kr_r E p1), (2, .int p2), (3, kr_r E p3)]) dX3_consider_36 (by decide) rfl ?_
      refine kr_iconst (v := 0) dX3_consider_38 (by decide) ?_
      refine kr_istore (lv' := [(6, .int (0 : Int32)), (5, .int v5), (4, .int v2), (0, kr_r E 324), (1, kr_r E p1), (2, .int p2), (3, kr_r E p3)]) dX3_consider_39 (by decide) rfl ?_
      refine kr_sub [3, 4, 5, 6, 2, 1, 0] rfl ?_
      exact r_X3_consider_41 E p1 h_p1 p2 p3 h_p3 v2 _ v5 (0 : Int32) M
    · exact kr_vret dX3_consider_28 rfl
theorem dX3_study_0 : decode cX3_study 0 = .ok (.aload_n 0, 1) := by decide +kernel
theorem dX3_study_1 : decode cX3_study 1 = .ok (.getfield 9, 3) := by decide +kernel
theorem dX3_study_4 : decode cX3_study 4 = .ok (.aload_n 2, 1) := by decide +kernel
theorem dX3_study_5 : decode cX3_study 5 = .ok (.getfield 18, 3) := by decide +kernel
theorem dX3_study_8 : decode cX3_study 8 = .ok (.iconst 0, 1) := by decide +kernel
theorem dX3_study_9 : decode cX3_study 9 = .ok (.iastore, 1) := by decide +kernel
theorem dX3_study_10 : decode cX3_study 10 = .ok (.aload_n 2, 1) := by decide +kernel
theorem dX3_study_11 : decode cX3_study 11 = .ok (.getfield 18, 3) := by decide +kernel
theorem dX3_study_14 : decode cX3_study 14 = .ok (.iconst 1, 1) := by decide +kernel
theorem dX3_study_15 : decode cX3_study 15 = .ok (.isub, 1) := by decide +kernel
theorem dX3_study_16 : decode cX3_study 16 = .ok (.istore_n 3, 1) := by decide +kernel
theorem dX3_study_17 : decode cX3_study 17 = .ok (.iload_n 3, 1) := by decide +kernel
theorem dX3_study_18 : decode cX3_study 18 = .ok (.ifCond .lt 47, 3) := by decide +kernel
theorem dX3_study_21 : decode cX3_study 21 = .ok (.aload_n 0, 1) := by decide +kernel
theorem dX3_study_22 : decode cX3_study 22 = .ok (.getfield 9, 3) := by decide +kernel
theorem dX3_study_25 : decode cX3_study 25 = .ok (.iload_n 3, 1) := by decide +kernel
theorem dX3_study_26 : decode cX3_study 26 = .ok (.iconst (-1), 1) := by decide +kernel
theorem dX3_study_27 : decode cX3_study 27 = .ok (.iastore, 1) := by decide +kernel
theorem dX3_study_28 : decode cX3_study 28 = .ok (.iconst 0, 1) := by decide +kernel
theorem dX3_study_29 : decode cX3_study 29 = .ok (.istore 4, 2) := by decide +kernel
theorem dX3_study_31 : decode cX3_study 31 = .ok (.iload 4, 2) := by decide +kernel
theorem dX3_study_33 : decode cX3_study 33 = .ok (.aload_n 1, 1) := by decide +kernel
theorem dX3_study_34 : decode cX3_study 34 = .ok (.getfield 24, 3) := by decide +kernel
theorem dX3_study_37 : decode cX3_study 37 = .ok (.if_icmp .ge 22, 3) := by decide +kernel
theorem dX3_study_40 : decode cX3_study 40 = .ok (.aload_n 0, 1) := by decide +kernel
theorem dX3_study_41 : decode cX3_study 41 = .ok (.aload_n 2, 1) := by decide +kernel
theorem dX3_study_42 : decode cX3_study 42 = .ok (.iload_n 3, 1) := by decide +kernel
theorem dX3_study_43 : decode cX3_study 43 = .ok (.aload_n 1, 1) := by decide +kernel
theorem dX3_study_44 : decode cX3_study 44 = .ok (.getfield 29, 3) := by decide +kernel
theorem dX3_study_47 : decode cX3_study 47 = .ok (.iload 4, 2) := by decide +kernel
theorem dX3_study_49 : decode cX3_study 49 = .ok (.aaload, 1) := by decide +kernel
theorem dX3_study_50 : decode cX3_study 50 = .ok (.invokevirtual 33, 3) := by decide +kernel
theorem dX3_study_53 : decode cX3_study 53 = .ok (.iinc 4 1, 3) := by decide +kernel
theorem dX3_study_56 : decode cX3_study 56 = .ok (.goto (-25), 3) := by decide +kernel
theorem dX3_study_59 : decode cX3_study 59 = .ok (.iinc 3 (-1), 3) := by decide +kernel
theorem dX3_study_62 : decode cX3_study 62 = .ok (.goto (-45), 3) := by decide +kernel
theorem dX3_study_65 : decode cX3_study 65 = .ok (.return_, 1) := by decide +kernel
theorem r_X3_study_59 (E : kr_E) (k_17 : Int32 → kr_M → Option kr_M) (l1 : Nat) (h_l1 : kr_sh l1 = (2, 0)) (l2 : Nat) (h_l2 : kr_sh l2 = (7, 0)) (l3 : Int32) (hk_17 : ∀ (x3 : Int32) (M : kr_M), kR kr_vv E Y_X3_study 4 17 [(0, kr_r E 324), (1, kr_r E l1), (2, kr_r E l2), (3, .int x3)] [] M (k_17 x3 M)) (M : kr_M) : kR kr_vv E Y_X3_study 4 59 [(0, kr_r E 324), (1, kr_r E l1), (2, kr_r E l2), (3, .int l3)] [] M (f_X3_study_59 k_17 l3 M) := by
  rw [f_X3_study_59]
  refine kr_iinc (j := 3) (v := (l3 + (-1 : Int32))) (lv' := [(3, .int (l3 + (-1 : Int32))), (0, kr_r E 324), (1, kr_r E l1), (2, kr_r E l2)]) dX3_study_59 rfl rfl (by decide) rfl ?_
  refine kr_goto (tgt := 17) dX3_study_62 (by decide) ?_
  refine kr_sub [1, 2, 3, 0] rfl ?_
  exact hk_17 (l3 + (-1 : Int32)) M
theorem r_X3_study_31 (E : kr_E) (k_17 : Int32 → kr_M → Option kr_M) (l1 : Nat) (h_l1 : kr_sh l1 = (2, 0)) (l2 : Nat) (h_l2 : kr_sh l2 = (7, 0)) (l3 : Int32) (hk_17 : ∀ (x3 : Int32) (M : kr_M), kR kr_vv E Y_X3_study 4 17 [(0, kr_r E 324), (1, kr_r E l1), (2, kr_r E l2), (3, .int x3)] [] M (k_17 x3 M)) : ∀ (n : Nat) (l4 : Int32) (M : kr_M), kR kr_vv E Y_X3_study 4 31 [(0, kr_r E 324), (1, kr_r E l1), (2, kr_r E l2), (3, .int l3), (4, .int l4)] [] M (f_X3_study_31 k_17 l1 l2 l3 n l4 M) := by
  intro n
  induction n with
  | zero => intro l4 M; exact kr_none
  | succ n ih =>
    intro l4 M
    rw [f_X3_study_31]
    refine kr_iload dX3_study_31 4 rfl ?_
    refine kr_aload_n dX3_study_33 rfl 1 rfl ?_
    refine kr_getI (ci := 2) (j := 5) dX3_study_34 h_l1 fl_RX3_24 rfl (fun v1 => ?_)
    refine kr_icmp_ge (tgt := 59) dX3_study_37 (by decide) ?_ ?_
    · refine kr_sub [0, 1, 2, 3] rfl ?_
      exact r_X3_study_59 E _ l1 h_l1 l2 h_l2 l3 hk_17 M
    · refine kr_aload_n dX3_study_40 rfl 0 rfl ?_
      refine kr_aload_n dX3_study_41 rfl 2 rfl ?_
      refine kr_iload_n dX3_study_42 rfl 3 rfl ?_
      refine kr_aload_n dX3_study_43 rfl 1 rfl ?_
      refine kr_getA (o := 3) (ci := 2) (j := 12) dX3_study_44 h_l1 fl_RX3_29 rfl ?_
      refine kr_iload dX3_study_47 4 rfl ?_
      refine kr_aaldT dX3_study_49 h_l1 (fun h2 => ?_)
      refine kr_Vv (As := [kr_r E l2, .int l3, kr_r E (kr_tx l1 l4)]) (st := []) zv_X3_consider dX3_study_50 ml_RX3_33 kr_at_324 (r_X3_consider E l2 h_l2 l3 (kr_tx l1 l4) h2 M) rfl rfl (Nat.le_of_ble_eq_true rfl) rfl (by decide) (Nat.le_of_ble_eq_true rfl) (fun M3 => ?_)
      refine kr_iinc (j := 4) (v := (l4 + (1 : Int32))) (lv' := [(4, .int (l4 + (1 : Int32))), (0, kr_r E 324), (1, kr_r E l1), (2, kr_r E l2), (3, .int l3)]) dX3_study_53 rfl rfl (by decide) rfl ?_
      refine kr_goto (tgt := 31) dX3_study_56 (by decide) ?_
      refine kr_sub [1, 2, 3, 4, 0] rfl ?_
      exact ih (l4 + (1 : Int32)) M3
theorem r_X3_study_17 (E : kr_E)  (l1 : Nat) (h_l1 : kr_sh l1 = (2, 0)) (l2 : Nat) (h_l2 : kr_sh l2 = (7, 0))  : ∀ (n : Nat) (l3 : Int32) (M : kr_M), kR kr_vv E Y_X3_study 4 17 [(0, kr_r E 324), (1, kr_r E l1), (2, kr_r E l2), (3, .int l3)] [] M (f_X3_study_17 l1 l2 n l3 M) := by
  intro n
  induction n with
  | zero => intro l3 M; exact kr_none
  | succ n ih =>
    intro l3 M
    rw [f_X3_study_17]
    refine kr_iload_n dX3_study_17 rfl 3 rfl ?_
    refine kr_if_lt (tgt := 65) dX3_study_18 (by decide) ?_ ?_
    · exact kr_vret dX3_study_65 rfl
    · refine kr_aload_n dX3_study_21 rfl 0 rfl ?_
      refine kr_getA (o := 1) (ci := 3) (j := 0) dX3_study_22 kr_at_324 fl_RX3_9 rfl ?_
      refine kr_iload_n dX3_study_25 rfl 3 rfl ?_
      refine kr_iconst (v := -1) dX3_study_26 (by decide) ?_
      refine kr_iast dX3_study_27 kr_at_325 (fun M1 => ?_)
      refine kr_iconst (v := 0) dX3_study_28 (by decide) ?_
      refine kr_istore (lv' := [(4, .int (0 : Int32)), (0, kr_r E 324), (1, kr_r E l1), (2, kr_r E l2), (3, .int l3)]) dX3_study_29 (by decide) rfl ?_
      refine kr_sub [1, 2, 3, 4, 0] rfl ?_
      exact r_X3_study_31 E _ l1 h_l1 l2 h_l2 l3 ih _ (0 : Int32) M1
theorem r_X3_study (E : kr_E) (p1 : Nat) (h_p1 : kr_sh p1 = (2, 0)) (p2 : Nat) (h_p2 : kr_sh p2 = (7, 0)) (M : kr_M) : kR kr_vv E Y_X3_study 4 0 [(0, kr_r E 324), (1, kr_r E p1), (2, kr_r E p2)] [] M (f_X3_study p1 p2 M) := by
  rw [f_X3_study]
  refine kr_aload_n dX3_study_0 rfl 0 rfl ?_
  refine kr_getA (o := 1) (ci := 3) (j := 0) dX3_study_1 kr_at_324 fl_RX3_9 rfl ?_
  refine kr_aload_n dX3_study_4 rfl 2 rfl ?_
  refine kr_getI (ci := 7) (j := 1) dX3_study_5 h_p2 fl_RX3_18 rfl (fun v1 => ?_)
  refine kr_iconst (v := 0) dX3_study_8 (by decide) ?_
  refine kr_iast dX3_study_9 kr_at_325 (fun M2 => ?_)
  refine kr_aload_n dX3_study_10 rfl 2 rfl ?_
  refine kr_getI (ci := 7) (j := 1) dX3_study_11 h_p2 fl_RX3_18 rfl (fun v3 => ?_)
  refine kr_iconst (v := 1) dX3_study_14 (by decide) ?_
  refine kr_isub dX3_study_15 ?_
  refine kr_nmi (fun v4 => ?_)
  refine kr_istore_n (lv' := [(3, .int v4), (0, kr_r E 324), (1, kr_r E p1), (2, kr_r E p2)]) dX3_study_16 rfl (by decide) rfl ?_
  refine kr_sub [1, 2, 3, 0] rfl ?_
  exact r_X3_study_17 E p1 h_p1 p2 h_p2 _ v4 M2
theorem dX3_kindOfFirst_0 : decode cX3_kindOfFirst 0 = .ok (.iload_n 2, 1) := by decide +kernel
theorem dX3_kindOfFirst_1 : decode cX3_kindOfFirst 1 = .ok (.ifCond .lt 27, 3) := by decide +kernel
theorem dX3_kindOfFirst_4 : decode cX3_kindOfFirst 4 = .ok (.iload_n 2, 1) := by decide +kernel
theorem dX3_kindOfFirst_5 : decode cX3_kindOfFirst 5 = .ok (.iload_n 1, 1) := by decide +kernel
theorem dX3_kindOfFirst_6 : decode cX3_kindOfFirst 6 = .ok (.if_icmp .ge 22, 3) := by decide +kernel
theorem dX3_kindOfFirst_9 : decode cX3_kindOfFirst 9 = .ok (.aload_n 0, 1) := by decide +kernel
theorem dX3_kindOfFirst_10 : decode cX3_kindOfFirst 10 = .ok (.getfield 9, 3) := by decide +kernel
theorem dX3_kindOfFirst_13 : decode cX3_kindOfFirst 13 = .ok (.iconst 0, 1) := by decide +kernel
theorem dX3_kindOfFirst_14 : decode cX3_kindOfFirst 14 = .ok (.iaload, 1) := by decide +kernel
theorem dX3_kindOfFirst_15 : decode cX3_kindOfFirst 15 = .ok (.iconst (-1), 1) := by decide +kernel
theorem dX3_kindOfFirst_16 : decode cX3_kindOfFirst 16 = .ok (.if_icmp .eq 12, 3) := by decide +kernel
theorem dX3_kindOfFirst_19 : decode cX3_kindOfFirst 19 = .ok (.aload_n 0, 1) := by decide +kernel
theorem dX3_kindOfFirst_20 : decode cX3_kindOfFirst 20 = .ok (.getfield 15, 3) := by decide +kernel
theorem dX3_kindOfFirst_23 : decode cX3_kindOfFirst 23 = .ok (.iload_n 2, 1) := by decide +kernel
theorem dX3_kindOfFirst_24 : decode cX3_kindOfFirst 24 = .ok (.iaload, 1) := by decide +kernel
theorem dX3_kindOfFirst_25 : decode cX3_kindOfFirst 25 = .ok (.goto 4, 3) := by decide +kernel
theorem dX3_kindOfFirst_28 : decode cX3_kindOfFirst 28 = .ok (.iconst (-1), 1) := by decide +kernel
theorem dX3_kindOfFirst_29 : decode cX3_kindOfFirst 29 = .ok (.ireturn, 1) := by decide +kernel
theorem r_X3_kindOfFirst (E : kr_E) (p1 : Int32) (p2 : Int32) (M : kr_M) : kR kr_vi E Y_X3_kindOfFirst 1 0 [(0, kr_r E 324), (1, .int p1), (2, .int p2)] [] M (f_X3_kindOfFirst p1 p2 M) := by
  rw [f_X3_kindOfFirst]
  refine kr_iload_n dX3_kindOfFirst_0 rfl 2 rfl ?_
  refine kr_if_lt (tgt := 28) dX3_kindOfFirst_1 (by decide) ?_ ?_
  · refine kr_iconst (v := -1) dX3_kindOfFirst_28 (by decide) ?_
    exact kr_iret dX3_kindOfFirst_29 rfl
  · refine kr_iload_n dX3_kindOfFirst_4 rfl 2 rfl ?_
    refine kr_iload_n dX3_kindOfFirst_5 rfl 1 rfl ?_
    refine kr_icmp_ge (tgt := 28) dX3_kindOfFirst_6 (by decide) ?_ ?_
    · refine kr_iconst (v := -1) dX3_kindOfFirst_28 (by decide) ?_
      exact kr_iret dX3_kindOfFirst_29 rfl
    · refine kr_aload_n dX3_kindOfFirst_9 rfl 0 rfl ?_
      refine kr_getA (o := 1) (ci := 3) (j := 0) dX3_kindOfFirst_10 kr_at_324 fl_RX3_9 rfl ?_
      refine kr_iconst (v := 0) dX3_kindOfFirst_13 (by decide) ?_
      refine kr_iald dX3_kindOfFirst_14 kr_at_325 (fun v1 => ?_)
      refine kr_iconst (v := -1) dX3_kindOfFirst_15 (by decide) ?_
      refine kr_icmp_eq (tgt := 28) dX3_kindOfFirst_16 (by decide) ?_ ?_
      · refine kr_iconst (v := -1) dX3_kindOfFirst_28 (by decide) ?_
        exact kr_iret dX3_kindOfFirst_29 rfl
      · refine kr_aload_n dX3_kindOfFirst_19 rfl 0 rfl ?_
        refine kr_getA (o := 2) (ci := 3) (j := 1) dX3_kindOfFirst_20 kr_at_324 fl_RX3_15 rfl ?_
        refine kr_iload_n dX3_kindOfFirst_23 rfl 2 rfl ?_
        refine kr_iald dX3_kindOfFirst_24 kr_at_326 (fun v2 => ?_)
        refine kr_goto (tgt := 29) dX3_kindOfFirst_25 (by decide) ?_
        exact kr_iret dX3_kindOfFirst_29 rfl
theorem dX7_turn_0 : decode cX7_turn 0 = .ok (.iconst 0, 1) := by decide +kernel
theorem dX7_turn_1 : decode cX7_turn 1 = .ok (.istore_n 1, 1) := by decide +kernel
theorem dX7_turn_2 : decode cX7_turn 2 = .ok (.aload_n 0, 1) := by decide +kernel
theorem dX7_turn_3 : decode cX7_turn 3 = .ok (.getfield 21, 3) := by decide +kernel
theorem dX7_turn_6 : decode cX7_turn 6 = .ok (.iconst 1, 1) := by decide +kernel
theorem dX7_turn_7 : decode cX7_turn 7 = .ok (.isub, 1) := by decide +kernel
theorem dX7_turn_8 : decode cX7_turn 8 = .ok (.istore_n 2, 1) := by decide +kernel
theorem dX7_turn_9 : decode cX7_turn 9 = .ok (.iload_n 1, 1) := by decide +kernel
theorem dX7_turn_10 : decode cX7_turn 10 = .ok (.iload_n 2, 1) := by decide +kernel
theorem dX7_turn_11 : decode cX7_turn 11 = .ok (.if_icmp .ge 38, 3) := by decide +kernel
theorem dX7_turn_14 : decode cX7_turn 14 = .ok (.aload_n 0, 1) := by decide +kernel
theorem dX7_turn_15 : decode cX7_turn 15 = .ok (.getfield 15, 3) := by decide +kernel
theorem dX7_turn_18 : decode cX7_turn 18 = .ok (.iload_n 1, 1) := by decide +kernel
theorem dX7_turn_19 : decode cX7_turn 19 = .ok (.iaload, 1) := by decide +kernel
theorem dX7_turn_20 : decode cX7_turn 20 = .ok (.istore_n 3, 1) := by decide +kernel
theorem dX7_turn_21 : decode cX7_turn 21 = .ok (.aload_n 0, 1) := by decide +kernel
theorem dX7_turn_22 : decode cX7_turn 22 = .ok (.getfield 15, 3) := by decide +kernel
theorem dX7_turn_25 : decode cX7_turn 25 = .ok (.iload_n 1, 1) := by decide +kernel
theorem dX7_turn_26 : decode cX7_turn 26 = .ok (.aload_n 0, 1) := by decide +kernel
theorem dX7_turn_27 : decode cX7_turn 27 = .ok (.getfield 15, 3) := by decide +kernel
theorem dX7_turn_30 : decode cX7_turn 30 = .ok (.iload_n 2, 1) := by decide +kernel
theorem dX7_turn_31 : decode cX7_turn 31 = .ok (.iaload, 1) := by decide +kernel
theorem dX7_turn_32 : decode cX7_turn 32 = .ok (.iastore, 1) := by decide +kernel
theorem dX7_turn_33 : decode cX7_turn 33 = .ok (.aload_n 0, 1) := by decide +kernel
theorem dX7_turn_34 : decode cX7_turn 34 = .ok (.getfield 15, 3) := by decide +kernel
theorem dX7_turn_37 : decode cX7_turn 37 = .ok (.iload_n 2, 1) := by decide +kernel
theorem dX7_turn_38 : decode cX7_turn 38 = .ok (.iload_n 3, 1) := by decide +kernel
theorem dX7_turn_39 : decode cX7_turn 39 = .ok (.iastore, 1) := by decide +kernel
theorem dX7_turn_40 : decode cX7_turn 40 = .ok (.iinc 1 1, 3) := by decide +kernel
theorem dX7_turn_43 : decode cX7_turn 43 = .ok (.iinc 2 (-1), 3) := by decide +kernel
theorem dX7_turn_46 : decode cX7_turn 46 = .ok (.goto (-37), 3) := by decide +kernel
theorem dX7_turn_49 : decode cX7_turn 49 = .ok (.return_, 1) := by decide +kernel
theorem r_X7_turn_9 (E : kr_E)  (l0 : Nat) (h_l0 : kr_sh l0 = (7, 0))  : ∀ (n : Nat) (l1 : Int32) (l2 : Int32) (M : kr_M), kR kr_vv E Y_X7_turn 1 9 [(0, kr_r E l0), (1, .int l1), (2, .int l2)] [] M (f_X7_turn_9 l0 n l1 l2 M) := by
  intro n
  induction n with
  | zero => intro l1 l2 M; exact kr_none
  | succ n ih =>
    intro l1 l2 M
    rw [f_X7_turn_9]
    refine kr_iload_n dX7_turn_9 rfl 1 rfl ?_
    refine kr_iload_n dX7_turn_10 rfl 2 rfl ?_
    refine kr_icmp_ge (tgt := 49) dX7_turn_11 (by decide) ?_ ?_
    · exact kr_vret dX7_turn_49 rfl
    · refine kr_aload_n dX7_turn_14 rfl 0 rfl ?_
      refine kr_getA (o := 1) (ci := 7) (j := 0) dX7_turn_15 h_l0 fl_RX7_15 rfl ?_
      refine kr_iload_n dX7_turn_18 rfl 1 rfl ?_
      refine kr_iald dX7_turn_19 (kr_shT1 _ h_l0) (fun v1 => ?_)
      refine kr_istore_n (lv' := [(3, .int v1), (0, kr_r E l0), (1, .int l1), (2, .int l2)]) dX7_turn_20 rfl (by decide) rfl ?_
      refine kr_aload_n dX7_turn_21 rfl 1 rfl ?_
      refine kr_getA (o := 1) (ci := 7) (j := 0) dX7_turn_22 h_l0 fl_RX7_15 rfl ?_
      refine kr_iload_n dX7_turn_25 rfl 2 rfl ?_
      refine kr_aload_n dX7_turn_26 rfl 1 rfl ?_
      refine kr_getA (o := 1) (ci := 7) (j := 0) dX7_turn_27 h_l0 fl_RX7_15 rfl ?_
      refine kr_iload_n dX7_turn_30 rfl 3 rfl ?_
      refine kr_iald dX7_turn_31 (kr_shT1 _ h_l0) (fun v2 => ?_)
      refine kr_iast dX7_turn_32 (kr_shT1 _ h_l0) (fun M3 => ?_)
      refine kr_aload_n dX7_turn_33 rfl 1 rfl ?_
      refine kr_getA (o := 1) (ci := 7) (j := 0) dX7_turn_34 h_l0 fl_RX7_15 rfl ?_
      refine kr_iload_n dX7_turn_37 rfl 3 rfl ?_
      refine kr_iload_n dX7_turn_38 rfl 0 rfl ?_
      refine kr_iast dX7_turn_39 (kr_shT1 _ h_l0) (fun M4 => ?_)
      refine kr_iinc (j := 2) (v := (l1 + (1 : Int32))) (lv' := [(1, .int (l1 + (1 : Int32))), (3, .int v1), (0, kr_r E l0), (2, .int l2)]) dX7_turn_40 rfl rfl (by decide) rfl ?_
      refine kr_iinc (j := 3) (v := (l2 + (-1 : Int32))) (lv' := [(2, .int (l2 + (-1 : Int32))), (1, .int (l1 + (1 : Int32))), (3, .int v1), (0, kr_r E l0)]) dX7_turn_43 rfl rfl (by decide) rfl ?_
      refine kr_goto (tgt := 9) dX7_turn_46 (by decide) ?_
      refine kr_sub [3, 1, 0] rfl ?_
      exact ih (l1 + (1 : Int32)) (l2 + (-1 : Int32)) M4
theorem r_X7_turn (E : kr_E) (g0 : Nat) (h_g0 : kr_sh g0 = (7, 0)) (M : kr_M) : kR kr_vv E Y_X7_turn 1 0 [(0, kr_r E g0)] [] M (f_X7_turn g0 M) := by
  rw [f_X7_turn]
  refine kr_iconst (v := 0) dX7_turn_0 (by decide) ?_
  refine kr_istore_n (lv' := [(1, .int (0 : Int32)), (0, kr_r E g0)]) dX7_turn_1 rfl (by decide) rfl ?_
  refine kr_aload_n dX7_turn_2 rfl 1 rfl ?_
  refine kr_getI (ci := 7) (j := 1) dX7_turn_3 h_g0 fl_RX7_21 rfl (fun v1 => ?_)
  refine kr_iconst (v := 1) dX7_turn_6 (by decide) ?_
  refine kr_isub dX7_turn_7 ?_
  refine kr_nmi (fun v2 => ?_)
  refine kr_istore_n (lv' := [(2, .int v2), (1, .int (0 : Int32)), (0, kr_r E g0)]) dX7_turn_8 rfl (by decide) rfl ?_
  refine kr_sub [2, 1, 0] rfl ?_
  exact r_X7_turn_9 E g0 h_g0 _ (0 : Int32) v2 M
theorem dX4_open_0 : decode cX4_open 0 = .ok (.aload_n 0, 1) := by decide +kernel
theorem dX4_open_1 : decode cX4_open 1 = .ok (.aload_n 1, 1) := by decide +kernel
theorem dX4_open_2 : decode cX4_open 2 = .ok (.putfield 40, 3) := by decide +kernel
theorem dX4_open_5 : decode cX4_open 5 = .ok (.aload_n 0, 1) := by decide +kernel
theorem dX4_open_6 : decode cX4_open 6 = .ok (.getfield 14, 3) := by decide +kernel
theorem dX4_open_9 : decode cX4_open 9 = .ok (.aload_n 2, 1) := by decide +kernel
theorem dX4_open_10 : decode cX4_open 10 = .ok (.invokevirtual 44, 3) := by decide +kernel
theorem dX4_open_13 : decode cX4_open 13 = .ok (.iload_n 3, 1) := by decide +kernel
theorem dX4_open_14 : decode cX4_open 14 = .ok (.ifCond .eq 10, 3) := by decide +kernel
theorem dX4_open_17 : decode cX4_open 17 = .ok (.aload_n 0, 1) := by decide +kernel
theorem dX4_open_18 : decode cX4_open 18 = .ok (.getfield 14, 3) := by decide +kernel
theorem dX4_open_21 : decode cX4_open 21 = .ok (.invokevirtual 48, 3) := by decide +kernel
theorem dX4_open_24 : decode cX4_open 24 = .ok (.return_, 1) := by decide +kernel
theorem r_X4_open (E : kr_E) (p1 : Nat) (h_p1 : kr_sh p1 = (2, 0)) (p2 : Nat) (h_p2 : kr_sh p2 = (7, 0)) (p3 : Int32) (M : kr_M) : kR kr_vv E Y_X4_open 4 0 [(0, kr_r E 315), (1, kr_r E p1), (2, kr_r E p2), (3, .int p3)] [] M (f_X4_open p1 p2 p3 M) := by
  rw [f_X4_open]
  refine kr_aload_n dX4_open_0 rfl 0 rfl ?_
  refine kr_aload_n dX4_open_1 rfl 1 rfl ?_
  refine kr_putG (o := 2) (ci := 4) (j := 0) dX4_open_2 kr_at_315 fl_RX4_40 rfl rfl rfl (by decide) (fun _ => kr_fsg2) (fun M1 => ?_)
  refine kr_aload_n dX4_open_5 rfl 0 rfl ?_
  refine kr_getA (o := 1) (ci := 4) (j := 1) dX4_open_6 kr_at_315 fl_RX4_14 rfl ?_
  refine kr_aload_n dX4_open_9 rfl 2 rfl ?_
  refine kr_Vv (As := [kr_r E p2]) (st := []) zv_X7_take dX4_open_10 ml_RX4_44 kr_at_316 (r_X7_take E 316 kr_at_316 p2 h_p2 M1) rfl rfl (Nat.le_of_ble_eq_true rfl) rfl (by decide) (Nat.le_of_ble_eq_true rfl) (fun M2 => ?_)
  refine kr_iload_n dX4_open_13 rfl 3 rfl ?_
  refine kr_if_eq (tgt := 24) dX4_open_14 (by decide) ?_ ?_
  · exact kr_vret dX4_open_24 rfl
  · refine kr_aload_n dX4_open_17 rfl 0 rfl ?_
    refine kr_getA (o := 1) (ci := 4) (j := 1) dX4_open_18 kr_at_315 fl_RX4_14 rfl ?_
    refine kr_Vv (As := []) (st := []) zv_X7_turn dX4_open_21 ml_RX4_48 kr_at_316 (r_X7_turn E 316 kr_at_316 M2) rfl rfl (Nat.le_of_ble_eq_true rfl) rfl (by decide) (Nat.le_of_ble_eq_true rfl) (fun M4 => ?_)
    exact kr_vret dX4_open_24 rfl
theorem dX4_leadsOn_0 : decode cX4_leadsOn 0 = .ok (.aload_n 0, 1) := by decide +kernel
theorem dX4_leadsOn_1 : decode cX4_leadsOn 1 = .ok (.getfield 40, 3) := by decide +kernel
theorem dX4_leadsOn_4 : decode cX4_leadsOn 4 = .ok (.getfield 63, 3) := by decide +kernel
theorem dX4_leadsOn_7 : decode cX4_leadsOn 7 = .ok (.iload_n 1, 1) := by decide +kernel
theorem dX4_leadsOn_8 : decode cX4_leadsOn 8 = .ok (.aaload, 1) := by decide +kernel
theorem dX4_leadsOn_9 : decode cX4_leadsOn 9 = .ok (.astore_n 3, 1) := by decide +kernel
theorem dX4_leadsOn_10 : decode cX4_leadsOn 10 = .ok (.aload_n 0, 1) := by decide +kernel
theorem dX4_leadsOn_11 : decode cX4_leadsOn 11 = .ok (.getfield 14, 3) := by decide +kernel
theorem dX4_leadsOn_14 : decode cX4_leadsOn 14 = .ok (.aload_n 3, 1) := by decide +kernel
theorem dX4_leadsOn_15 : decode cX4_leadsOn 15 = .ok (.iload_n 2, 1) := by decide +kernel
theorem dX4_leadsOn_16 : decode cX4_leadsOn 16 = .ok (.invokevirtual 83, 3) := by decide +kernel
theorem dX4_leadsOn_19 : decode cX4_leadsOn 19 = .ok (.ifCond .eq 21, 3) := by decide +kernel
theorem dX4_leadsOn_22 : decode cX4_leadsOn 22 = .ok (.aload_n 0, 1) := by decide +kernel
theorem dX4_leadsOn_23 : decode cX4_leadsOn 23 = .ok (.getfield 20, 3) := by decide +kernel
theorem dX4_leadsOn_26 : decode cX4_leadsOn 26 = .ok (.iload_n 2, 1) := by decide +kernel
theorem dX4_leadsOn_27 : decode cX4_leadsOn 27 = .ok (.aload_n 3, 1) := by decide +kernel
theorem dX4_leadsOn_28 : decode cX4_leadsOn 28 = .ok (.getfield 51, 3) := by decide +kernel
theorem dX4_leadsOn_31 : decode cX4_leadsOn 31 = .ok (.iadd, 1) := by decide +kernel
theorem dX4_leadsOn_32 : decode cX4_leadsOn 32 = .ok (.iaload, 1) := by decide +kernel
theorem dX4_leadsOn_33 : decode cX4_leadsOn 33 = .ok (.ifCond .le 7, 3) := by decide +kernel
theorem dX4_leadsOn_36 : decode cX4_leadsOn 36 = .ok (.iconst 1, 1) := by decide +kernel
theorem dX4_leadsOn_37 : decode cX4_leadsOn 37 = .ok (.goto 4, 3) := by decide +kernel
theorem dX4_leadsOn_40 : decode cX4_leadsOn 40 = .ok (.iconst 0, 1) := by decide +kernel
theorem dX4_leadsOn_41 : decode cX4_leadsOn 41 = .ok (.ireturn, 1) := by decide +kernel
theorem r_X4_leadsOn (E : kr_E) (p1 : Int32) (p2 : Int32) (M : kr_M) : kR kr_vi E Y_X4_leadsOn 3 0 [(0, kr_r E 315), (1, .int p1), (2, .int p2)] [] M (f_X4_leadsOn p1 p2 M) := by
  rw [f_X4_leadsOn]
  refine kr_aload_n dX4_leadsOn_0 rfl 0 rfl ?_
  refine kr_getG (o := 2) (ci := 4) (j := 0) dX4_leadsOn_1 kr_at_315 fl_RX4_40 rfl (fun g1 h_g1 => ?_)
  refine kr_getA (o := 3) (ci := 2) (j := 12) dX4_leadsOn_4 h_g1 fl_RX4_63 rfl ?_
  refine kr_iload_n dX4_leadsOn_7 rfl 1 rfl ?_
  refine kr_aaldT dX4_leadsOn_8 h_g1 (fun h2 => ?_)
  refine kr_astore_n (lv' := [(3, kr_r E (kr_tx g1 p1)), (0, kr_r E 315), (1, .int p1), (2, .int p2)]) dX4_leadsOn_9 rfl (by decide) rfl ?_
  refine kr_aload_n dX4_leadsOn_10 rfl 1 rfl ?_
  refine kr_getA (o := 1) (ci := 4) (j := 1) dX4_leadsOn_11 kr_at_315 fl_RX4_14 rfl ?_
  refine kr_aload_n dX4_leadsOn_14 rfl 0 rfl ?_
  refine kr_iload_n dX4_leadsOn_15 rfl 3 rfl ?_
  refine kr_Vi (As := [kr_r E (kr_tx g1 p1), .int p2]) (st := []) zv_X7_holds dX4_leadsOn_16 ml_RX4_83 kr_at_316 (r_X7_holds E 316 kr_at_316 (kr_tx g1 p1) h2 p2 M) rfl rfl (Nat.le_of_ble_eq_true rfl) rfl (by decide) (Nat.le_of_ble_eq_true rfl) (fun r4 M3 => ?_)
  refine kr_if_eq (tgt := 40) dX4_leadsOn_19 (by decide) ?_ ?_
  · refine kr_iconst (v := 0) dX4_leadsOn_40 (by decide) ?_
    exact kr_zret1 dX4_leadsOn_41 rfl rfl
  · refine kr_aload_n dX4_leadsOn_22 rfl 1 rfl ?_
    refine kr_getA (o := 3) (ci := 4) (j := 2) dX4_leadsOn_23 kr_at_315 fl_RX4_20 rfl ?_
    refine kr_iload_n dX4_leadsOn_26 rfl 3 rfl ?_
    refine kr_aload_n dX4_leadsOn_27 rfl 0 rfl ?_
    refine kr_getI (ci := 7) (j := 1) dX4_leadsOn_28 h2 fl_RX4_51 rfl (fun v5 => ?_)
    refine kr_iadd dX4_leadsOn_31 ?_
    refine kr_iald dX4_leadsOn_32 kr_at_318 (fun v6 => ?_)
    refine kr_if_le (tgt := 40) dX4_leadsOn_33 (by decide) ?_ ?_
    · refine kr_iconst (v := 0) dX4_leadsOn_40 (by decide) ?_
      exact kr_zret1 dX4_leadsOn_41 rfl rfl
    · refine kr_iconst (v := 1) dX4_leadsOn_36 (by decide) ?_
      refine kr_goto (tgt := 41) dX4_leadsOn_37 (by decide) ?_
      exact kr_zret1 dX4_leadsOn_41 rfl rfl
theorem dX4_studyFrom_0 : decode cX4_studyFrom 0 = .ok (.aload_n 0, 1) := by decide +kernel
theorem dX4_studyFrom_1 : decode cX4_studyFrom 1 = .ok (.getfield 20, 3) := by decide +kernel
theorem dX4_studyFrom_4 : decode cX4_studyFrom 4 = .ok (.iload_n 1, 1) := by decide +kernel
theorem dX4_studyFrom_5 : decode cX4_studyFrom 5 = .ok (.iconst 0, 1) := by decide +kernel
theorem dX4_studyFrom_6 : decode cX4_studyFrom 6 = .ok (.iastore, 1) := by decide +kernel
theorem dX4_studyFrom_7 : decode cX4_studyFrom 7 = .ok (.aload_n 0, 1) := by decide +kernel
theorem dX4_studyFrom_8 : decode cX4_studyFrom 8 = .ok (.getfield 24, 3) := by decide +kernel
theorem dX4_studyFrom_11 : decode cX4_studyFrom 11 = .ok (.iload_n 1, 1) := by decide +kernel
theorem dX4_studyFrom_12 : decode cX4_studyFrom 12 = .ok (.iconst (-1), 1) := by decide +kernel
theorem dX4_studyFrom_13 : decode cX4_studyFrom 13 = .ok (.iastore, 1) := by decide +kernel
theorem dX4_studyFrom_14 : decode cX4_studyFrom 14 = .ok (.aload_n 0, 1) := by decide +kernel
theorem dX4_studyFrom_15 : decode cX4_studyFrom 15 = .ok (.getfield 27, 3) := by decide +kernel
theorem dX4_studyFrom_18 : decode cX4_studyFrom 18 = .ok (.iload_n 1, 1) := by decide +kernel
theorem dX4_studyFrom_19 : decode cX4_studyFrom 19 = .ok (.iconst (-1), 1) := by decide +kernel
theorem dX4_studyFrom_20 : decode cX4_studyFrom 20 = .ok (.iastore, 1) := by decide +kernel
theorem dX4_studyFrom_21 : decode cX4_studyFrom 21 = .ok (.iconst 0, 1) := by decide +kernel
theorem dX4_studyFrom_22 : decode cX4_studyFrom 22 = .ok (.istore_n 2, 1) := by decide +kernel
theorem dX4_studyFrom_23 : decode cX4_studyFrom 23 = .ok (.iload_n 2, 1) := by decide +kernel
theorem dX4_studyFrom_24 : decode cX4_studyFrom 24 = .ok (.aload_n 0, 1) := by decide +kernel
theorem dX4_studyFrom_25 : decode cX4_studyFrom 25 = .ok (.getfield 40, 3) := by decide +kernel
theorem dX4_studyFrom_28 : decode cX4_studyFrom 28 = .ok (.getfield 58, 3) := by decide +kernel
theorem dX4_studyFrom_31 : decode cX4_studyFrom 31 = .ok (.if_icmp .ge 110, 3) := by decide +kernel
theorem dX4_studyFrom_34 : decode cX4_studyFrom 34 = .ok (.iload_n 1, 1) := by decide +kernel
theorem dX4_studyFrom_35 : decode cX4_studyFrom 35 = .ok (.aload_n 0, 1) := by decide +kernel
theorem dX4_studyFrom_36 : decode cX4_studyFrom 36 = .ok (.getfield 40, 3) := by decide +kernel
theorem dX4_studyFrom_39 : decode cX4_studyFrom 39 = .ok (.getfield 63, 3) := by decide +kernel
theorem dX4_studyFrom_42 : decode cX4_studyFrom 42 = .ok (.iload_n 2, 1) := by decide +kernel
theorem dX4_studyFrom_43 : decode cX4_studyFrom 43 = .ok (.aaload, 1) := by decide +kernel
theorem dX4_studyFrom_44 : decode cX4_studyFrom 44 = .ok (.getfield 51, 3) := by decide +kernel
theorem dX4_studyFrom_47 : decode cX4_studyFrom 47 = .ok (.iadd, 1) := by decide +kernel
theorem dX4_studyFrom_48 : decode cX4_studyFrom 48 = .ok (.istore_n 3, 1) := by decide +kernel
theorem dX4_studyFrom_49 : decode cX4_studyFrom 49 = .ok (.aload_n 0, 1) := by decide +kernel
theorem dX4_studyFrom_50 : decode cX4_studyFrom 50 = .ok (.iload_n 2, 1) := by decide +kernel
theorem dX4_studyFrom_51 : decode cX4_studyFrom 51 = .ok (.iload_n 1, 1) := by decide +kernel
theorem dX4_studyFrom_52 : decode cX4_studyFrom 52 = .ok (.invokevirtual 67, 3) := by decide +kernel
theorem dX4_studyFrom_55 : decode cX4_studyFrom 55 = .ok (.ifCond .eq 80, 3) := by decide +kernel
theorem dX4_studyFrom_58 : decode cX4_studyFrom 58 = .ok (.aload_n 0, 1) := by decide +kernel
theorem dX4_studyFrom_59 : decode cX4_studyFrom 59 = .ok (.getfield 20, 3) := by decide +kernel
theorem dX4_studyFrom_62 : decode cX4_studyFrom 62 = .ok (.iload_n 1, 1) := by decide +kernel
theorem dX4_studyFrom_63 : decode cX4_studyFrom 63 = .ok (.dup2, 1) := by decide +kernel
theorem dX4_studyFrom_64 : decode cX4_studyFrom 64 = .ok (.iaload, 1) := by decide +kernel
theorem dX4_studyFrom_65 : decode cX4_studyFrom 65 = .ok (.aload_n 0, 1) := by decide +kernel
theorem dX4_studyFrom_66 : decode cX4_studyFrom 66 = .ok (.getfield 20, 3) := by decide +kernel
theorem dX4_studyFrom_69 : decode cX4_studyFrom 69 = .ok (.iload_n 3, 1) := by decide +kernel
theorem dX4_studyFrom_70 : decode cX4_studyFrom 70 = .ok (.iaload, 1) := by decide +kernel
theorem dX4_studyFrom_71 : decode cX4_studyFrom 71 = .ok (.iadd, 1) := by decide +kernel
theorem dX4_studyFrom_72 : decode cX4_studyFrom 72 = .ok (.iastore, 1) := by decide +kernel
theorem dX4_studyFrom_73 : decode cX4_studyFrom 73 = .ok (.aload_n 0, 1) := by decide +kernel
theorem dX4_studyFrom_74 : decode cX4_studyFrom 74 = .ok (.getfield 24, 3) := by decide +kernel
theorem dX4_studyFrom_77 : decode cX4_studyFrom 77 = .ok (.iload_n 1, 1) := by decide +kernel
theorem dX4_studyFrom_78 : decode cX4_studyFrom 78 = .ok (.aload_n 0, 1) := by decide +kernel
theorem dX4_studyFrom_79 : decode cX4_studyFrom 79 = .ok (.getfield 24, 3) := by decide +kernel
theorem dX4_studyFrom_82 : decode cX4_studyFrom 82 = .ok (.iload_n 1, 1) := by decide +kernel
theorem dX4_studyFrom_83 : decode cX4_studyFrom 83 = .ok (.iaload, 1) := by decide +kernel
theorem dX4_studyFrom_84 : decode cX4_studyFrom 84 = .ok (.aload_n 0, 1) := by decide +kernel
theorem dX4_studyFrom_85 : decode cX4_studyFrom 85 = .ok (.getfield 24, 3) := by decide +kernel
theorem dX4_studyFrom_88 : decode cX4_studyFrom 88 = .ok (.iload_n 3, 1) := by decide +kernel
theorem dX4_studyFrom_89 : decode cX4_studyFrom 89 = .ok (.iaload, 1) := by decide +kernel
theorem dX4_studyFrom_90 : decode cX4_studyFrom 90 = .ok (.aload_n 0, 1) := by decide +kernel
theorem dX4_studyFrom_91 : decode cX4_studyFrom 91 = .ok (.getfield 40, 3) := by decide +kernel
theorem dX4_studyFrom_94 : decode cX4_studyFrom 94 = .ok (.getfield 71, 3) := by decide +kernel
theorem dX4_studyFrom_97 : decode cX4_studyFrom 97 = .ok (.iload_n 2, 1) := by decide +kernel
theorem dX4_studyFrom_98 : decode cX4_studyFrom 98 = .ok (.iaload, 1) := by decide +kernel
theorem dX4_studyFrom_99 : decode cX4_studyFrom 99 = .ok (.iadd, 1) := by decide +kernel
theorem dX4_studyFrom_100 : decode cX4_studyFrom 100 = .ok (.invokestatic 74, 3) := by decide +kernel
theorem dX4_studyFrom_103 : decode cX4_studyFrom 103 = .ok (.iastore, 1) := by decide +kernel
theorem dX4_studyFrom_104 : decode cX4_studyFrom 104 = .ok (.aload_n 0, 1) := by decide +kernel
theorem dX4_studyFrom_105 : decode cX4_studyFrom 105 = .ok (.getfield 27, 3) := by decide +kernel
theorem dX4_studyFrom_108 : decode cX4_studyFrom 108 = .ok (.iload_n 1, 1) := by decide +kernel
theorem dX4_studyFrom_109 : decode cX4_studyFrom 109 = .ok (.aload_n 0, 1) := by decide +kernel
theorem dX4_studyFrom_110 : decode cX4_studyFrom 110 = .ok (.getfield 27, 3) := by decide +kernel
theorem dX4_studyFrom_113 : decode cX4_studyFrom 113 = .ok (.iload_n 1, 1) := by decide +kernel
theorem dX4_studyFrom_114 : decode cX4_studyFrom 114 = .ok (.iaload, 1) := by decide +kernel
theorem dX4_studyFrom_115 : decode cX4_studyFrom 115 = .ok (.aload_n 0, 1) := by decide +kernel
theorem dX4_studyFrom_116 : decode cX4_studyFrom 116 = .ok (.getfield 27, 3) := by decide +kernel
theorem dX4_studyFrom_119 : decode cX4_studyFrom 119 = .ok (.iload_n 3, 1) := by decide +kernel
theorem dX4_studyFrom_120 : decode cX4_studyFrom 120 = .ok (.iaload, 1) := by decide +kernel
theorem dX4_studyFrom_121 : decode cX4_studyFrom 121 = .ok (.aload_n 0, 1) := by decide +kernel
theorem dX4_studyFrom_122 : decode cX4_studyFrom 122 = .ok (.getfield 40, 3) := by decide +kernel
theorem dX4_studyFrom_125 : decode cX4_studyFrom 125 = .ok (.getfield 71, 3) := by decide +kernel
theorem dX4_studyFrom_128 : decode cX4_studyFrom 128 = .ok (.iload_n 2, 1) := by decide +kernel
theorem dX4_studyFrom_129 : decode cX4_studyFrom 129 = .ok (.iaload, 1) := by decide +kernel
theorem dX4_studyFrom_130 : decode cX4_studyFrom 130 = .ok (.iadd, 1) := by decide +kernel
theorem dX4_studyFrom_131 : decode cX4_studyFrom 131 = .ok (.invokestatic 78, 3) := by decide +kernel
theorem dX4_studyFrom_134 : decode cX4_studyFrom 134 = .ok (.iastore, 1) := by decide +kernel
theorem dX4_studyFrom_135 : decode cX4_studyFrom 135 = .ok (.iinc 2 1, 3) := by decide +kernel
theorem dX4_studyFrom_138 : decode cX4_studyFrom 138 = .ok (.goto (-115), 3) := by decide +kernel
theorem dX4_studyFrom_141 : decode cX4_studyFrom 141 = .ok (.return_, 1) := by decide +kernel
theorem r_X4_studyFrom_135 (E : kr_E) (k_23 : Int32 → kr_M → Option kr_M) (l1 : Int32) (l2 : Int32) (hk_23 : ∀ (x2 : Int32) (M : kr_M), kR kr_vv E Y_X4_studyFrom 4 23 [(0, kr_r E 315), (1, .int l1), (2, .int x2)] [] M (k_23 x2 M)) (M : kr_M) : kR kr_vv E Y_X4_studyFrom 4 135 [(0, kr_r E 315), (1, .int l1), (2, .int l2)] [] M (f_X4_studyFrom_135 k_23 l2 M) := by
  rw [f_X4_studyFrom_135]
  refine kr_iinc (j := 2) (v := (l2 + (1 : Int32))) (lv' := [(2, .int (l2 + (1 : Int32))), (0, kr_r E 315), (1, .int l1)]) dX4_studyFrom_135 rfl rfl (by decide) rfl ?_
  refine kr_goto (tgt := 23) dX4_studyFrom_138 (by decide) ?_
  refine kr_sub [1, 2, 0] rfl ?_
  exact hk_23 (l2 + (1 : Int32)) M
theorem r_X4_studyFrom_23 (E : kr_E)  (l1 : Int32)  : ∀ (n : Nat) (l2 : Int32) (M : kr_M), kR kr_vv E Y_X4_studyFrom 4 23 [(0, kr_r E 315), (1, .int l1), (2, .int l2)] [] M (f_X4_studyFrom_23 l1 n l2 M) := by
  intro n
  induction n with
  | zero => intro l2 M; exact kr_none
  | succ n ih =>
    intro l2 M
    rw [f_X4_studyFrom_23]
    refine kr_iload_n dX4_studyFrom_23 rfl 2 rfl ?_
    refine kr_aload_n dX4_studyFrom_24 rfl 0 rfl ?_
    refine kr_getG (o := 2) (ci := 4) (j := 0) dX4_studyFrom_25 kr_at_315 fl_RX4_40 rfl (fun g1 h_g1 => ?_)
    refine kr_getI (ci := 2) (j := 5) dX4_studyFrom_28 h_g1 fl_RX4_58 rfl (fun v2 => ?_)
    refine kr_icmp_ge (tgt := 141) dX4_studyFrom_31 (by decide) ?_ ?_
    · exact kr_vret dX4_studyFrom_141 rfl
    · refine kr_iload_n dX4_studyFrom_34 rfl 1 rfl ?_
      refine kr_aload_n dX4_studyFrom_35 rfl 0 rfl ?_
      refine kr_getG (o := 2) (ci := 4) (j := 0) dX4_studyFrom_36 kr_at_315 fl_RX4_40 rfl (fun g3 h_g3 => ?_)
      refine kr_getA (o := 3) (ci := 2) (j := 12) dX4_studyFrom_39 h_g3 fl_RX4_63 rfl ?_
      refine kr_iload_n dX4_studyFrom_42 rfl 2 rfl ?_
      refine kr_aaldT dX4_studyFrom_43 h_g3 (fun h4 => ?_)
      refine kr_getI (ci := 7) (j := 1) dX4_studyFrom_44 h4 fl_RX4_51 rfl (fun v5 => ?_)
      refine kr_iadd dX4_studyFrom_47 ?_
      refine kr_nmi (fun v6 => ?_)
      refine kr_istore_n (lv' := [(3, .int v6), (0, kr_r E 315), (1, .int l1), (2, .int l2)]) dX4_studyFrom_48 rfl (by decide) rfl ?_
      refine kr_aload_n dX4_studyFrom_49 rfl 1 rfl ?_
      refine kr_iload_n dX4_studyFrom_50 rfl 3 rfl ?_
      refine kr_iload_n dX4_studyFrom_51 rfl 2 rfl ?_
      refine kr_Vi (As := [.int l2, .int l1]) (st := []) zv_X4_leadsOn dX4_studyFrom_52 ml_RX4_67 kr_at_315 (r_X4_leadsOn E l2 l1 M) rfl rfl (Nat.le_of_ble_eq_true rfl) rfl (by decide) (Nat.le_of_ble_eq_true rfl) (fun r8 M7 => ?_)
      refine kr_if_eq (tgt := 135) dX4_studyFrom_55 (by decide) ?_ ?_
      · refine kr_sub [1, 2, 3] rfl ?_
        exact r_X4_studyFrom_135 E _ l1 l2 ih M7
      · refine kr_aload_n dX4_studyFrom_58 rfl 1 rfl ?_
        refine kr_getA (o := 3) (ci := 4) (j := 2) dX4_studyFrom_59 kr_at_315 fl_RX4_20 rfl ?_
        refine kr_iload_n dX4_studyFrom_62 rfl 2 rfl ?_
        refine kr_dup2 dX4_studyFrom_63 rfl rfl ?_
        refine kr_iald dX4_studyFrom_64 kr_at_318 (fun v9 => ?_)
        refine kr_aload_n dX4_studyFrom_65 rfl 1 rfl ?_
        refine kr_getA (o := 3) (ci := 4) (j := 2) dX4_studyFrom_66 kr_at_315 fl_RX4_20 rfl ?_
        refine kr_iload_n dX4_studyFrom_69 rfl 0 rfl ?_
        refine kr_iald dX4_studyFrom_70 kr_at_318 (fun v10 => ?_)
        refine kr_iadd dX4_studyFrom_71 ?_
        refine kr_iast dX4_studyFrom_72 kr_at_318 (fun M11 => ?_)
        refine kr_aload_n dX4_studyFrom_73 rfl 1 rfl ?_
        refine kr_getA (o := 4) (ci := 4) (j := 3) dX4_studyFrom_74 kr_at_315 fl_RX4_24 rfl ?_
        refine kr_iload_n dX4_studyFrom_77 rfl 2 rfl ?_
        refine kr_aload_n dX4_studyFrom_78 rfl 1 rfl ?_
        refine kr_getA (o := 4) (ci := 4) (j := 3) dX4_studyFrom_79 kr_at_315 fl_RX4_24 rfl ?_
        refine kr_iload_n dX4_studyFrom_82 rfl 2 rfl ?_
        refine kr_iald dX4_studyFrom_83 kr_at_319 (fun v12 => ?_)
        refine kr_aload_n dX4_studyFrom_84 rfl 1 rfl ?_
        refine kr_getA (o := 4) (ci := 4) (j := 3) dX4_studyFrom_85 kr_at_315 fl_RX4_24 rfl ?_
        refine kr_iload_n dX4_studyFrom_88 rfl 0 rfl ?_
        refine kr_iald dX4_studyFrom_89 kr_at_319 (fun v13 => ?_)
        refine kr_aload_n dX4_studyFrom_90 rfl 1 rfl ?_
        refine kr_getG (o := 2) (ci := 4) (j := 0) dX4_studyFrom_91 kr_at_315 fl_RX4_40 rfl (fun g14 h_g14 => ?_)
        refine kr_getA (o := 4) (ci := 2) (j := 13) dX4_studyFrom_94 h_g14 fl_RX4_71 rfl ?_
        refine kr_iload_n dX4_studyFrom_97 rfl 3 rfl ?_
        refine kr_iald dX4_studyFrom_98 (kr_shG4 _ h_g14) (fun v15 => ?_)
        refine kr_iadd dX4_studyFrom_99 ?_
        refine kr_Ni (As := [.int v12, .int (v13 + v15)]) (st := [.int l1, kr_r E 319]) zs_X11_lesser dX4_studyFrom_100 rfl (by decide) (r_X11_lesser E v12 (v13 + v15) M11) rfl rfl (Nat.le_of_ble_eq_true rfl) rfl (by decide) (Nat.le_of_ble_eq_true rfl) (fun r17 M16 => ?_)
        refine kr_iast dX4_studyFrom_103 kr_at_319 (fun M18 => ?_)
        refine kr_aload_n dX4_studyFrom_104 rfl 1 rfl ?_
        refine kr_getA (o := 5) (ci := 4) (j := 4) dX4_studyFrom_105 kr_at_315 fl_RX4_27 rfl ?_
        refine kr_iload_n dX4_studyFrom_108 rfl 2 rfl ?_
        refine kr_aload_n dX4_studyFrom_109 rfl 1 rfl ?_
        refine kr_getA (o := 5) (ci := 4) (j := 4) dX4_studyFrom_110 kr_at_315 fl_RX4_27 rfl ?_
        refine kr_iload_n dX4_studyFrom_113 rfl 2 rfl ?_
        refine kr_iald dX4_studyFrom_114 kr_at_320 (fun v19 => ?_)
        refine kr_aload_n dX4_studyFrom_115 rfl 1 rfl ?_
        refine kr_getA (o := 5) (ci := 4) (j := 4) dX4_studyFrom_116 kr_at_315 fl_RX4_27 rfl ?_
        refine kr_iload_n dX4_studyFrom_119 rfl 0 rfl ?_
        refine kr_iald dX4_studyFrom_120 kr_at_320 (fun v20 => ?_)
        refine kr_aload_n dX4_studyFrom_121 rfl 1 rfl ?_
        refine kr_getG (o := 2) (ci := 4) (j := 0) dX4_studyFrom_122 kr_at_315 fl_RX4_40 rfl (fun g21 h_g21 => ?_)
        refine kr_getA (o := 4) (ci := 2) (j := 13) dX4_studyFrom_125 h_g21 fl_RX4_71 rfl ?_
        refine kr_iload_n dX4_studyFrom_128 rfl 3 rfl ?_
        refine kr_iald dX4_studyFrom_129 (kr_shG4 _ h_g21) (fun v22 => ?_)
        refine kr_iadd dX4_studyFrom_130 ?_
        refine kr_mmax dX4_studyFrom_131 ml_RX4_78 (by decide) (Nat.le_of_ble_eq_true rfl) ?_
        refine kr_iast dX4_studyFrom_134 kr_at_320 (fun M23 => ?_)
        refine kr_sub [1, 2, 3] rfl ?_
        exact r_X4_studyFrom_135 E _ l1 l2 ih M23
theorem r_X4_studyFrom (E : kr_E) (p1 : Int32) (M : kr_M) : kR kr_vv E Y_X4_studyFrom 4 0 [(0, kr_r E 315), (1, .int p1)] [] M (f_X4_studyFrom p1 M) := by
  rw [f_X4_studyFrom]
  refine kr_aload_n dX4_studyFrom_0 rfl 0 rfl ?_
  refine kr_getA (o := 3) (ci := 4) (j := 2) dX4_studyFrom_1 kr_at_315 fl_RX4_20 rfl ?_
  refine kr_iload_n dX4_studyFrom_4 rfl 1 rfl ?_
  refine kr_iconst (v := 0) dX4_studyFrom_5 (by decide) ?_
  refine kr_iast dX4_studyFrom_6 kr_at_318 (fun M1 => ?_)
  refine kr_aload_n dX4_studyFrom_7 rfl 0 rfl ?_
  refine kr_getA (o := 4) (ci := 4) (j := 3) dX4_studyFrom_8 kr_at_315 fl_RX4_24 rfl ?_
  refine kr_iload_n dX4_studyFrom_11 rfl 1 rfl ?_
  refine kr_iconst (v := -1) dX4_studyFrom_12 (by decide) ?_
  refine kr_iast dX4_studyFrom_13 kr_at_319 (fun M2 => ?_)
  refine kr_aload_n dX4_studyFrom_14 rfl 0 rfl ?_
  refine kr_getA (o := 5) (ci := 4) (j := 4) dX4_studyFrom_15 kr_at_315 fl_RX4_27 rfl ?_
  refine kr_iload_n dX4_studyFrom_18 rfl 1 rfl ?_
  refine kr_iconst (v := -1) dX4_studyFrom_19 (by decide) ?_
  refine kr_iast dX4_studyFrom_20 kr_at_320 (fun M3 => ?_)
  refine kr_iconst (v := 0) dX4_studyFrom_21 (by decide) ?_
  refine kr_istore_n (lv' := [(2, .int (0 : Int32)), (0, kr_r E 315), (1, .int p1)]) dX4_studyFrom_22 rfl (by decide) rfl ?_
  refine kr_sub [1, 2, 0] rfl ?_
  exact r_X4_studyFrom_23 E p1 _ (0 : Int32) M3
theorem dX4_study_0 : decode cX4_study 0 = .ok (.aload_n 0, 1) := by decide +kernel
theorem dX4_study_1 : decode cX4_study 1 = .ok (.getfield 20, 3) := by decide +kernel
theorem dX4_study_4 : decode cX4_study 4 = .ok (.aload_n 0, 1) := by decide +kernel
theorem dX4_study_5 : decode cX4_study 5 = .ok (.getfield 14, 3) := by decide +kernel
theorem dX4_study_8 : decode cX4_study 8 = .ok (.getfield 51, 3) := by decide +kernel
theorem dX4_study_11 : decode cX4_study 11 = .ok (.iconst 1, 1) := by decide +kernel
theorem dX4_study_12 : decode cX4_study 12 = .ok (.iastore, 1) := by decide +kernel
theorem dX4_study_13 : decode cX4_study 13 = .ok (.aload_n 0, 1) := by decide +kernel
theorem dX4_study_14 : decode cX4_study 14 = .ok (.getfield 24, 3) := by decide +kernel
theorem dX4_study_17 : decode cX4_study 17 = .ok (.aload_n 0, 1) := by decide +kernel
theorem dX4_study_18 : decode cX4_study 18 = .ok (.getfield 14, 3) := by decide +kernel
theorem dX4_study_21 : decode cX4_study 21 = .ok (.getfield 51, 3) := by decide +kernel
theorem dX4_study_24 : decode cX4_study 24 = .ok (.iconst 0, 1) := by decide +kernel
theorem dX4_study_25 : decode cX4_study 25 = .ok (.iastore, 1) := by decide +kernel
theorem dX4_study_26 : decode cX4_study 26 = .ok (.aload_n 0, 1) := by decide +kernel
theorem dX4_study_27 : decode cX4_study 27 = .ok (.getfield 27, 3) := by decide +kernel
theorem dX4_study_30 : decode cX4_study 30 = .ok (.aload_n 0, 1) := by decide +kernel
theorem dX4_study_31 : decode cX4_study 31 = .ok (.getfield 14, 3) := by decide +kernel
theorem dX4_study_34 : decode cX4_study 34 = .ok (.getfield 51, 3) := by decide +kernel
theorem dX4_study_37 : decode cX4_study 37 = .ok (.iconst 0, 1) := by decide +kernel
theorem dX4_study_38 : decode cX4_study 38 = .ok (.iastore, 1) := by decide +kernel
theorem dX4_study_39 : decode cX4_study 39 = .ok (.aload_n 0, 1) := by decide +kernel
theorem dX4_study_40 : decode cX4_study 40 = .ok (.getfield 14, 3) := by decide +kernel
theorem dX4_study_43 : decode cX4_study 43 = .ok (.getfield 51, 3) := by decide +kernel
theorem dX4_study_46 : decode cX4_study 46 = .ok (.iconst 1, 1) := by decide +kernel
theorem dX4_study_47 : decode cX4_study 47 = .ok (.isub, 1) := by decide +kernel
theorem dX4_study_48 : decode cX4_study 48 = .ok (.istore_n 1, 1) := by decide +kernel
theorem dX4_study_49 : decode cX4_study 49 = .ok (.iload_n 1, 1) := by decide +kernel
theorem dX4_study_50 : decode cX4_study 50 = .ok (.ifCond .lt 14, 3) := by decide +kernel
theorem dX4_study_53 : decode cX4_study 53 = .ok (.aload_n 0, 1) := by decide +kernel
theorem dX4_study_54 : decode cX4_study 54 = .ok (.iload_n 1, 1) := by decide +kernel
theorem dX4_study_55 : decode cX4_study 55 = .ok (.invokevirtual 55, 3) := by decide +kernel
theorem dX4_study_58 : decode cX4_study 58 = .ok (.iinc 1 (-1), 3) := by decide +kernel
theorem dX4_study_61 : decode cX4_study 61 = .ok (.goto (-12), 3) := by decide +kernel
theorem dX4_study_64 : decode cX4_study 64 = .ok (.return_, 1) := by decide +kernel
theorem r_X4_study_49 (E : kr_E)    : ∀ (n : Nat) (l1 : Int32) (M : kr_M), kR kr_vv E Y_X4_study 5 49 [(0, kr_r E 315), (1, .int l1)] [] M (f_X4_study_49 n l1 M) := by
  intro n
  induction n with
  | zero => intro l1 M; exact kr_none
  | succ n ih =>
    intro l1 M
    rw [f_X4_study_49]
    refine kr_iload_n dX4_study_49 rfl 1 rfl ?_
    refine kr_if_lt (tgt := 64) dX4_study_50 (by decide) ?_ ?_
    · exact kr_vret dX4_study_64 rfl
    · refine kr_aload_n dX4_study_53 rfl 0 rfl ?_
      refine kr_iload_n dX4_study_54 rfl 1 rfl ?_
      refine kr_Vv (As := [.int l1]) (st := []) zv_X4_studyFrom dX4_study_55 ml_RX4_55 kr_at_315 (r_X4_studyFrom E l1 M) rfl rfl (Nat.le_of_ble_eq_true rfl) rfl (by decide) (Nat.le_of_ble_eq_true rfl) (fun M1 => ?_)
      refine kr_iinc (j := 1) (v := (l1 + (-1 : Int32))) (lv' := [(1, .int (l1 + (-1 : Int32))), (0, kr_r E 315)]) dX4_study_58 rfl rfl (by decide) rfl ?_
      refine kr_goto (tgt := 49) dX4_study_61 (by decide) ?_
      refine kr_sub [1, 0] rfl ?_
      exact ih (l1 + (-1 : Int32)) M1
theorem r_X4_study (E : kr_E)  (M : kr_M) : kR kr_vv E Y_X4_study 5 0 [(0, kr_r E 315)] [] M (f_X4_study M) := by
  rw [f_X4_study]
  refine kr_aload_n dX4_study_0 rfl 0 rfl ?_
  refine kr_getA (o := 3) (ci := 4) (j := 2) dX4_study_1 kr_at_315 fl_RX4_20 rfl ?_
  refine kr_aload_n dX4_study_4 rfl 0 rfl ?_
  refine kr_getA (o := 1) (ci := 4) (j := 1) dX4_study_5 kr_at_315 fl_RX4_14 rfl ?_
  refine kr_getI (ci := 7) (j := 1) dX4_study_8 kr_at_316 fl_RX4_51 rfl (fun v1 => ?_)
  refine kr_iconst (v := 1) dX4_study_11 (by decide) ?_
  refine kr_iast dX4_study_12 kr_at_318 (fun M2 => ?_)
  refine kr_aload_n dX4_study_13 rfl 0 rfl ?_
  refine kr_getA (o := 4) (ci := 4) (j := 3) dX4_study_14 kr_at_315 fl_RX4_24 rfl ?_
  refine kr_aload_n dX4_study_17 rfl 0 rfl ?_
  refine kr_getA (o := 1) (ci := 4) (j := 1) dX4_study_18 kr_at_315 fl_RX4_14 rfl ?_
  refine kr_getI (ci := 7) (j := 1) dX4_study_21 kr_at_316 fl_RX4_51 rfl (fun v3 => ?_)
  refine kr_iconst (v := 0) dX4_study_24 (by decide) ?_
  refine kr_iast dX4_study_25 kr_at_319 (fun M4 => ?_)
  refine kr_aload_n dX4_study_26 rfl 0 rfl ?_
  refine kr_getA (o := 5) (ci := 4) (j := 4) dX4_study_27 kr_at_315 fl_RX4_27 rfl ?_
  refine kr_aload_n dX4_study_30 rfl 0 rfl ?_
  refine kr_getA (o := 1) (ci := 4) (j := 1) dX4_study_31 kr_at_315 fl_RX4_14 rfl ?_
  refine kr_getI (ci := 7) (j := 1) dX4_study_34 kr_at_316 fl_RX4_51 rfl (fun v5 => ?_)
  refine kr_iconst (v := 0) dX4_study_37 (by decide) ?_
  refine kr_iast dX4_study_38 kr_at_320 (fun M6 => ?_)
  refine kr_aload_n dX4_study_39 rfl 0 rfl ?_
  refine kr_getA (o := 1) (ci := 4) (j := 1) dX4_study_40 kr_at_315 fl_RX4_14 rfl ?_
  refine kr_getI (ci := 7) (j := 1) dX4_study_43 kr_at_316 fl_RX4_51 rfl (fun v7 => ?_)
  refine kr_iconst (v := 1) dX4_study_46 (by decide) ?_
  refine kr_isub dX4_study_47 ?_
  refine kr_nmi (fun v8 => ?_)
  refine kr_istore_n (lv' := [(1, .int v8), (0, kr_r E 315)]) dX4_study_48 rfl (by decide) rfl ?_
  refine kr_sub [1, 0] rfl ?_
  exact r_X4_study_49 E _ v8 M6
theorem dX4_firstWordFrom_0 : decode cX4_firstWordFrom 0 = .ok (.iconst 0, 1) := by decide +kernel
theorem dX4_firstWordFrom_1 : decode cX4_firstWordFrom 1 = .ok (.istore_n 2, 1) := by decide +kernel
theorem dX4_firstWordFrom_2 : decode cX4_firstWordFrom 2 = .ok (.iload_n 2, 1) := by decide +kernel
theorem dX4_firstWordFrom_3 : decode cX4_firstWordFrom 3 = .ok (.aload_n 0, 1) := by decide +kernel
theorem dX4_firstWordFrom_4 : decode cX4_firstWordFrom 4 = .ok (.getfield 40, 3) := by decide +kernel
theorem dX4_firstWordFrom_7 : decode cX4_firstWordFrom 7 = .ok (.getfield 58, 3) := by decide +kernel
theorem dX4_firstWordFrom_10 : decode cX4_firstWordFrom 10 = .ok (.if_icmp .ge 20, 3) := by decide +kernel
theorem dX4_firstWordFrom_13 : decode cX4_firstWordFrom 13 = .ok (.aload_n 0, 1) := by decide +kernel
theorem dX4_firstWordFrom_14 : decode cX4_firstWordFrom 14 = .ok (.iload_n 2, 1) := by decide +kernel
theorem dX4_firstWordFrom_15 : decode cX4_firstWordFrom 15 = .ok (.iload_n 1, 1) := by decide +kernel
theorem dX4_firstWordFrom_16 : decode cX4_firstWordFrom 16 = .ok (.invokevirtual 67, 3) := by decide +kernel
theorem dX4_firstWordFrom_19 : decode cX4_firstWordFrom 19 = .ok (.ifCond .eq 5, 3) := by decide +kernel
theorem dX4_firstWordFrom_22 : decode cX4_firstWordFrom 22 = .ok (.iload_n 2, 1) := by decide +kernel
theorem dX4_firstWordFrom_23 : decode cX4_firstWordFrom 23 = .ok (.ireturn, 1) := by decide +kernel
theorem dX4_firstWordFrom_24 : decode cX4_firstWordFrom 24 = .ok (.iinc 2 1, 3) := by decide +kernel
theorem dX4_firstWordFrom_27 : decode cX4_firstWordFrom 27 = .ok (.goto (-25), 3) := by decide +kernel
theorem dX4_firstWordFrom_30 : decode cX4_firstWordFrom 30 = .ok (.iconst (-1), 1) := by decide +kernel
theorem dX4_firstWordFrom_31 : decode cX4_firstWordFrom 31 = .ok (.ireturn, 1) := by decide +kernel
theorem r_X4_firstWordFrom_2 (E : kr_E)  (l1 : Int32)  : ∀ (n : Nat) (l2 : Int32) (M : kr_M), kR kr_vi E Y_X4_firstWordFrom 4 2 [(0, kr_r E 315), (1, .int l1), (2, .int l2)] [] M (f_X4_firstWordFrom_2 l1 n l2 M) := by
  intro n
  induction n with
  | zero => intro l2 M; exact kr_none
  | succ n ih =>
    intro l2 M
    rw [f_X4_firstWordFrom_2]
    refine kr_iload_n dX4_firstWordFrom_2 rfl 2 rfl ?_
    refine kr_aload_n dX4_firstWordFrom_3 rfl 0 rfl ?_
    refine kr_getG (o := 2) (ci := 4) (j := 0) dX4_firstWordFrom_4 kr_at_315 fl_RX4_40 rfl (fun g1 h_g1 => ?_)
    refine kr_getI (ci := 2) (j := 5) dX4_firstWordFrom_7 h_g1 fl_RX4_58 rfl (fun v2 => ?_)
    refine kr_icmp_ge (tgt := 30) dX4_firstWordFrom_10 (by decide) ?_ ?_
    · refine kr_iconst (v := -1) dX4_firstWordFrom_30 (by decide) ?_
      exact kr_iret dX4_firstWordFrom_31 rfl
    · refine kr_aload_n dX4_firstWordFrom_13 rfl 0 rfl ?_
      refine kr_iload_n dX4_firstWordFrom_14 rfl 2 rfl ?_
      refine kr_iload_n dX4_firstWordFrom_15 rfl 1 rfl ?_
      refine kr_Vi (As := [.int l2, .int l1]) (st := []) zv_X4_leadsOn dX4_firstWordFrom_16 ml_RX4_67 kr_at_315 (r_X4_leadsOn E l2 l1 M) rfl rfl (Nat.le_of_ble_eq_true rfl) rfl (by decide) (Nat.le_of_ble_eq_true rfl) (fun r4 M3 => ?_)
      refine kr_if_eq (tgt := 24) dX4_firstWordFrom_19 (by decide) ?_ ?_
      · refine kr_iinc (j := 2) (v := (l2 + (1 : Int32))) (lv' := [(2, .int (l2 + (1 : Int32))), (0, kr_r E 315), (1, .int l1)]) dX4_firstWordFrom_24 rfl rfl (by decide) rfl ?_
        refine kr_goto (tgt := 2) dX4_firstWordFrom_27 (by decide) ?_
        refine kr_sub [1, 2, 0] rfl ?_
        exact ih (l2 + (1 : Int32)) M3
      · refine kr_iload_n dX4_firstWordFrom_22 rfl 2 rfl ?_
        exact kr_iret dX4_firstWordFrom_23 rfl
theorem r_X4_firstWordFrom (E : kr_E) (p1 : Int32) (M : kr_M) : kR kr_vi E Y_X4_firstWordFrom 4 0 [(0, kr_r E 315), (1, .int p1)] [] M (f_X4_firstWordFrom p1 M) := by
  rw [f_X4_firstWordFrom]
  refine kr_iconst (v := 0) dX4_firstWordFrom_0 (by decide) ?_
  refine kr_istore_n (lv' := [(2, .int (0 : Int32)), (0, kr_r E 315), (1, .int p1)]) dX4_firstWordFrom_1 rfl (by decide) rfl ?_
  refine kr_sub [1, 2, 0] rfl ?_
  exact r_X4_firstWordFrom_2 E p1 _ (0 : Int32) M
theorem dX4_wordOfFirst_0 : decode cX4_wordOfFirst 0 = .ok (.iconst 0, 1) := by decide +kernel
theorem dX4_wordOfFirst_1 : decode cX4_wordOfFirst 1 = .ok (.istore_n 2, 1) := by decide +kernel
theorem dX4_wordOfFirst_2 : decode cX4_wordOfFirst 2 = .ok (.iconst 0, 1) := by decide +kernel
theorem dX4_wordOfFirst_3 : decode cX4_wordOfFirst 3 = .ok (.istore_n 3, 1) := by decide +kernel
theorem dX4_wordOfFirst_4 : decode cX4_wordOfFirst 4 = .ok (.iload_n 3, 1) := by decide +kernel
theorem dX4_wordOfFirst_5 : decode cX4_wordOfFirst 5 = .ok (.aload_n 0, 1) := by decide +kernel
theorem dX4_wordOfFirst_6 : decode cX4_wordOfFirst 6 = .ok (.getfield 14, 3) := by decide +kernel
theorem dX4_wordOfFirst_9 : decode cX4_wordOfFirst 9 = .ok (.getfield 51, 3) := by decide +kernel
theorem dX4_wordOfFirst_12 : decode cX4_wordOfFirst 12 = .ok (.if_icmp .ge 57, 3) := by decide +kernel
theorem dX4_wordOfFirst_15 : decode cX4_wordOfFirst 15 = .ok (.iload_n 2, 1) := by decide +kernel
theorem dX4_wordOfFirst_16 : decode cX4_wordOfFirst 16 = .ok (.aload_n 0, 1) := by decide +kernel
theorem dX4_wordOfFirst_17 : decode cX4_wordOfFirst 17 = .ok (.getfield 14, 3) := by decide +kernel
theorem dX4_wordOfFirst_20 : decode cX4_wordOfFirst 20 = .ok (.getfield 51, 3) := by decide +kernel
theorem dX4_wordOfFirst_23 : decode cX4_wordOfFirst 23 = .ok (.if_icmp .ge 46, 3) := by decide +kernel
theorem dX4_wordOfFirst_26 : decode cX4_wordOfFirst 26 = .ok (.aload_n 0, 1) := by decide +kernel
theorem dX4_wordOfFirst_27 : decode cX4_wordOfFirst 27 = .ok (.iload_n 2, 1) := by decide +kernel
theorem dX4_wordOfFirst_28 : decode cX4_wordOfFirst 28 = .ok (.invokevirtual 87, 3) := by decide +kernel
theorem dX4_wordOfFirst_31 : decode cX4_wordOfFirst 31 = .ok (.istore 4, 2) := by decide +kernel
theorem dX4_wordOfFirst_33 : decode cX4_wordOfFirst 33 = .ok (.iload 4, 2) := by decide +kernel
theorem dX4_wordOfFirst_35 : decode cX4_wordOfFirst 35 = .ok (.iconst (-1), 1) := by decide +kernel
theorem dX4_wordOfFirst_36 : decode cX4_wordOfFirst 36 = .ok (.if_icmp .eq 8, 3) := by decide +kernel
theorem dX4_wordOfFirst_39 : decode cX4_wordOfFirst 39 = .ok (.iload_n 3, 1) := by decide +kernel
theorem dX4_wordOfFirst_40 : decode cX4_wordOfFirst 40 = .ok (.iload_n 1, 1) := by decide +kernel
theorem dX4_wordOfFirst_41 : decode cX4_wordOfFirst 41 = .ok (.if_icmp .ne 6, 3) := by decide +kernel
theorem dX4_wordOfFirst_44 : decode cX4_wordOfFirst 44 = .ok (.iload 4, 2) := by decide +kernel
theorem dX4_wordOfFirst_46 : decode cX4_wordOfFirst 46 = .ok (.ireturn, 1) := by decide +kernel
theorem dX4_wordOfFirst_47 : decode cX4_wordOfFirst 47 = .ok (.iload_n 2, 1) := by decide +kernel
theorem dX4_wordOfFirst_48 : decode cX4_wordOfFirst 48 = .ok (.aload_n 0, 1) := by decide +kernel
theorem dX4_wordOfFirst_49 : decode cX4_wordOfFirst 49 = .ok (.getfield 40, 3) := by decide +kernel
theorem dX4_wordOfFirst_52 : decode cX4_wordOfFirst 52 = .ok (.getfield 63, 3) := by decide +kernel
theorem dX4_wordOfFirst_55 : decode cX4_wordOfFirst 55 = .ok (.iload 4, 2) := by decide +kernel
theorem dX4_wordOfFirst_57 : decode cX4_wordOfFirst 57 = .ok (.aaload, 1) := by decide +kernel
theorem dX4_wordOfFirst_58 : decode cX4_wordOfFirst 58 = .ok (.getfield 51, 3) := by decide +kernel
theorem dX4_wordOfFirst_61 : decode cX4_wordOfFirst 61 = .ok (.iadd, 1) := by decide +kernel
theorem dX4_wordOfFirst_62 : decode cX4_wordOfFirst 62 = .ok (.istore_n 2, 1) := by decide +kernel
theorem dX4_wordOfFirst_63 : decode cX4_wordOfFirst 63 = .ok (.iinc 3 1, 3) := by decide +kernel
theorem dX4_wordOfFirst_66 : decode cX4_wordOfFirst 66 = .ok (.goto (-62), 3) := by decide +kernel
theorem dX4_wordOfFirst_69 : decode cX4_wordOfFirst 69 = .ok (.iconst (-1), 1) := by decide +kernel
theorem dX4_wordOfFirst_70 : decode cX4_wordOfFirst 70 = .ok (.ireturn, 1) := by decide +kernel
theorem r_X4_wordOfFirst_4 (E : kr_E)  (l1 : Int32)  : ∀ (n : Nat) (l2 : Int32) (l3 : Int32) (M : kr_M), kR kr_vi E Y_X4_wordOfFirst 5 4 [(0, kr_r E 315), (1, .int l1), (2, .int l2), (3, .int l3)] [] M (f_X4_wordOfFirst_4 l1 n l2 l3 M) := by
  intro n
  induction n with
  | zero => intro l2 l3 M; exact kr_none
  | succ n ih =>
    intro l2 l3 M
    rw [f_X4_wordOfFirst_4]
    refine kr_iload_n dX4_wordOfFirst_4 rfl 3 rfl ?_
    refine kr_aload_n dX4_wordOfFirst_5 rfl 0 rfl ?_
    refine kr_getA (o := 1) (ci := 4) (j := 1) dX4_wordOfFirst_6 kr_at_315 fl_RX4_14 rfl ?_
    refine kr_getI (ci := 7) (j := 1) dX4_wordOfFirst_9 kr_at_316 fl_RX4_51 rfl (fun v1 => ?_)
    refine kr_icmp_ge (tgt := 69) dX4_wordOfFirst_12 (by decide) ?_ ?_
    · refine kr_iconst (v := -1) dX4_wordOfFirst_69 (by decide) ?_
      exact kr_iret dX4_wordOfFirst_70 rfl
    · refine kr_iload_n dX4_wordOfFirst_15 rfl 2 rfl ?_
      refine kr_aload_n dX4_wordOfFirst_16 rfl 0 rfl ?_
      refine kr_getA (o := 1) (ci := 4) (j := 1) dX4_wordOfFirst_17 kr_at_315 fl_RX4_14 rfl ?_
      refine kr_getI (ci := 7) (j := 1) dX4_wordOfFirst_20 kr_at_316 fl_RX4_51 rfl (fun v2 => ?_)
      refine kr_icmp_ge (tgt := 69) dX4_wordOfFirst_23 (by decide) ?_ ?_
      · refine kr_iconst (v := -1) dX4_wordOfFirst_69 (by decide) ?_
        exact kr_iret dX4_wordOfFirst_70 rfl
      · refine kr_aload_n dX4_wordOfFirst_26 rfl 0 rfl ?_
        refine kr_iload_n dX4_wordOfFirst_27 rfl 2 rfl ?_
        refine kr_Vi (As := [.int l2]) (st := []) zv_X4_firstWordFrom dX4_wordOfFirst_28 ml_RX4_87 kr_at_315 (r_X4_firstWordFrom E l2 M) rfl rfl (Nat.le_of_ble_eq_true rfl) rfl (by decide) (Nat.le_of_ble_eq_true rfl) (fun r4 M3 => ?_)
        refine kr_istore (lv' := [(4, .int r4), (0, kr_r E 315), (1, .int l1), (2, .int l2), (3, .int l3)]) dX4_wordOfFirst_31 (by decide) rfl ?_
        refine kr_iload dX4_wordOfFirst_33 0 rfl ?_
        refine kr_iconst (v := -1) dX4_wordOfFirst_35 (by decide) ?_
        refine kr_icmp_eq (tgt := 44) dX4_wordOfFirst_36 (by decide) ?_ ?_
        · refine kr_iload dX4_wordOfFirst_44 0 rfl ?_
          exact kr_iret dX4_wordOfFirst_46 rfl
        · refine kr_iload_n dX4_wordOfFirst_39 rfl 4 rfl ?_
          refine kr_iload_n dX4_wordOfFirst_40 rfl 2 rfl ?_
          refine kr_icmp_ne (tgt := 47) dX4_wordOfFirst_41 (by decide) ?_ ?_
          · refine kr_iload_n dX4_wordOfFirst_47 rfl 3 rfl ?_
            refine kr_aload_n dX4_wordOfFirst_48 rfl 1 rfl ?_
            refine kr_getG (o := 2) (ci := 4) (j := 0) dX4_wordOfFirst_49 kr_at_315 fl_RX4_40 rfl (fun g5 h_g5 => ?_)
            refine kr_getA (o := 3) (ci := 2) (j := 12) dX4_wordOfFirst_52 h_g5 fl_RX4_63 rfl ?_
            refine kr_iload dX4_wordOfFirst_55 0 rfl ?_
            refine kr_aaldT dX4_wordOfFirst_57 h_g5 (fun h6 => ?_)
            refine kr_getI (ci := 7) (j := 1) dX4_wordOfFirst_58 h6 fl_RX4_51 rfl (fun v7 => ?_)
            refine kr_iadd dX4_wordOfFirst_61 ?_
            refine kr_nmi (fun v8 => ?_)
            refine kr_istore_n (lv' := [(2, .int v8), (4, .int r4), (0, kr_r E 315), (1, .int l1), (3, .int l3)]) dX4_wordOfFirst_62 rfl (by decide) rfl ?_
            refine kr_iinc (j := 4) (v := (l3 + (1 : Int32))) (lv' := [(3, .int (l3 + (1 : Int32))), (2, .int v8), (4, .int r4), (0, kr_r E 315), (1, .int l1)]) dX4_wordOfFirst_63 rfl rfl (by decide) rfl ?_
            refine kr_goto (tgt := 4) dX4_wordOfFirst_66 (by decide) ?_
            refine kr_sub [3, 4, 1, 0] rfl ?_
            exact ih v8 (l3 + (1 : Int32)) M3
          · refine kr_iload dX4_wordOfFirst_44 0 rfl ?_
            exact kr_iret dX4_wordOfFirst_46 rfl
theorem r_X4_wordOfFirst (E : kr_E) (p1 : Int32) (M : kr_M) : kR kr_vi E Y_X4_wordOfFirst 5 0 [(0, kr_r E 315), (1, .int p1)] [] M (f_X4_wordOfFirst p1 M) := by
  rw [f_X4_wordOfFirst]
  refine kr_iconst (v := 0) dX4_wordOfFirst_0 (by decide) ?_
  refine kr_istore_n (lv' := [(2, .int (0 : Int32)), (0, kr_r E 315), (1, .int p1)]) dX4_wordOfFirst_1 rfl (by decide) rfl ?_
  refine kr_iconst (v := 0) dX4_wordOfFirst_2 (by decide) ?_
  refine kr_istore_n (lv' := [(3, .int (0 : Int32)), (2, .int (0 : Int32)), (0, kr_r E 315), (1, .int p1)]) dX4_wordOfFirst_3 rfl (by decide) rfl ?_
  refine kr_sub [2, 3, 1, 0] rfl ?_
  exact r_X4_wordOfFirst_4 E p1 _ (0 : Int32) (0 : Int32) M
theorem dX4_addSums_0 : decode cX4_addSums 0 = .ok (.iload_n 3, 1) := by decide +kernel
theorem dX4_addSums_1 : decode cX4_addSums 1 = .ok (.bipush 64, 2) := by decide +kernel
theorem dX4_addSums_3 : decode cX4_addSums 3 = .ok (.idiv, 1) := by decide +kernel
theorem dX4_addSums_4 : decode cX4_addSums 4 = .ok (.istore 5, 2) := by decide +kernel
theorem dX4_addSums_6 : decode cX4_addSums 6 = .ok (.iload_n 3, 1) := by decide +kernel
theorem dX4_addSums_7 : decode cX4_addSums 7 = .ok (.bipush 64, 2) := by decide +kernel
theorem dX4_addSums_9 : decode cX4_addSums 9 = .ok (.irem, 1) := by decide +kernel
theorem dX4_addSums_10 : decode cX4_addSums 10 = .ok (.istore 6, 2) := by decide +kernel
theorem dX4_addSums_12 : decode cX4_addSums 12 = .ok (.iload 5, 2) := by decide +kernel
theorem dX4_addSums_14 : decode cX4_addSums 14 = .ok (.istore 7, 2) := by decide +kernel
theorem dX4_addSums_16 : decode cX4_addSums 16 = .ok (.iload 7, 2) := by decide +kernel
theorem dX4_addSums_18 : decode cX4_addSums 18 = .ok (.iload 4, 2) := by decide +kernel
theorem dX4_addSums_20 : decode cX4_addSums 20 = .ok (.if_icmp .ge 82, 3) := by decide +kernel
theorem dX4_addSums_23 : decode cX4_addSums 23 = .ok (.iload_n 1, 1) := by decide +kernel
theorem dX4_addSums_24 : decode cX4_addSums 24 = .ok (.bipush 38, 2) := by decide +kernel
theorem dX4_addSums_26 : decode cX4_addSums 26 = .ok (.imul, 1) := by decide +kernel
theorem dX4_addSums_27 : decode cX4_addSums 27 = .ok (.iload 7, 2) := by decide +kernel
theorem dX4_addSums_29 : decode cX4_addSums 29 = .ok (.iadd, 1) := by decide +kernel
theorem dX4_addSums_30 : decode cX4_addSums 30 = .ok (.iload 5, 2) := by decide +kernel
theorem dX4_addSums_32 : decode cX4_addSums 32 = .ok (.isub, 1) := by decide +kernel
theorem dX4_addSums_33 : decode cX4_addSums 33 = .ok (.istore 8, 2) := by decide +kernel
theorem dX4_addSums_35 : decode cX4_addSums 35 = .ok (.aload_n 0, 1) := by decide +kernel
theorem dX4_addSums_36 : decode cX4_addSums 36 = .ok (.getfield 36, 3) := by decide +kernel
theorem dX4_addSums_39 : decode cX4_addSums 39 = .ok (.iload 8, 2) := by decide +kernel
theorem dX4_addSums_41 : decode cX4_addSums 41 = .ok (.laload, 1) := by decide +kernel
theorem dX4_addSums_42 : decode cX4_addSums 42 = .ok (.iload 6, 2) := by decide +kernel
theorem dX4_addSums_44 : decode cX4_addSums 44 = .ok (.lshl, 1) := by decide +kernel
theorem dX4_addSums_45 : decode cX4_addSums 45 = .ok (.lstore 9, 2) := by decide +kernel
theorem dX4_addSums_47 : decode cX4_addSums 47 = .ok (.iload 6, 2) := by decide +kernel
theorem dX4_addSums_49 : decode cX4_addSums 49 = .ok (.ifCond .le 30, 3) := by decide +kernel
theorem dX4_addSums_52 : decode cX4_addSums 52 = .ok (.iload 7, 2) := by decide +kernel
theorem dX4_addSums_54 : decode cX4_addSums 54 = .ok (.iload 5, 2) := by decide +kernel
theorem dX4_addSums_56 : decode cX4_addSums 56 = .ok (.if_icmp .le 23, 3) := by decide +kernel
theorem dX4_addSums_59 : decode cX4_addSums 59 = .ok (.lload 9, 2) := by decide +kernel
theorem dX4_addSums_61 : decode cX4_addSums 61 = .ok (.aload_n 0, 1) := by decide +kernel
theorem dX4_addSums_62 : decode cX4_addSums 62 = .ok (.getfield 36, 3) := by decide +kernel
theorem dX4_addSums_65 : decode cX4_addSums 65 = .ok (.iload 8, 2) := by decide +kernel
theorem dX4_addSums_67 : decode cX4_addSums 67 = .ok (.iconst 1, 1) := by decide +kernel
theorem dX4_addSums_68 : decode cX4_addSums 68 = .ok (.isub, 1) := by decide +kernel
theorem dX4_addSums_69 : decode cX4_addSums 69 = .ok (.laload, 1) := by decide +kernel
theorem dX4_addSums_70 : decode cX4_addSums 70 = .ok (.bipush 64, 2) := by decide +kernel
theorem dX4_addSums_72 : decode cX4_addSums 72 = .ok (.iload 6, 2) := by decide +kernel
theorem dX4_addSums_74 : decode cX4_addSums 74 = .ok (.isub, 1) := by decide +kernel
theorem dX4_addSums_75 : decode cX4_addSums 75 = .ok (.lushr, 1) := by decide +kernel
theorem dX4_addSums_76 : decode cX4_addSums 76 = .ok (.lor, 1) := by decide +kernel
theorem dX4_addSums_77 : decode cX4_addSums 77 = .ok (.lstore 9, 2) := by decide +kernel
theorem dX4_addSums_79 : decode cX4_addSums 79 = .ok (.aload_n 0, 1) := by decide +kernel
theorem dX4_addSums_80 : decode cX4_addSums 80 = .ok (.getfield 36, 3) := by decide +kernel
theorem dX4_addSums_83 : decode cX4_addSums 83 = .ok (.iload_n 2, 1) := by decide +kernel
theorem dX4_addSums_84 : decode cX4_addSums 84 = .ok (.bipush 38, 2) := by decide +kernel
theorem dX4_addSums_86 : decode cX4_addSums 86 = .ok (.imul, 1) := by decide +kernel
theorem dX4_addSums_87 : decode cX4_addSums 87 = .ok (.iload 7, 2) := by decide +kernel
theorem dX4_addSums_89 : decode cX4_addSums 89 = .ok (.iadd, 1) := by decide +kernel
theorem dX4_addSums_90 : decode cX4_addSums 90 = .ok (.dup2, 1) := by decide +kernel
theorem dX4_addSums_91 : decode cX4_addSums 91 = .ok (.laload, 1) := by decide +kernel
theorem dX4_addSums_92 : decode cX4_addSums 92 = .ok (.lload 9, 2) := by decide +kernel
theorem dX4_addSums_94 : decode cX4_addSums 94 = .ok (.lor, 1) := by decide +kernel
theorem dX4_addSums_95 : decode cX4_addSums 95 = .ok (.lastore, 1) := by decide +kernel
theorem dX4_addSums_96 : decode cX4_addSums 96 = .ok (.iinc 7 1, 3) := by decide +kernel
theorem dX4_addSums_99 : decode cX4_addSums 99 = .ok (.goto (-83), 3) := by decide +kernel
theorem dX4_addSums_102 : decode cX4_addSums 102 = .ok (.return_, 1) := by decide +kernel
theorem r_X4_addSums_79 (E : kr_E) (k_16 : Int32 → kr_M → Option kr_M) (l1 : Int32) (l2 : Int32) (l4 : Int32) (l5 : Int32) (l6 : Int32) (l7 : Int32) (l9 : Int64) (hk_16 : ∀ (x7 : Int32) (M : kr_M), kR kr_vv E Y_X4_addSums 1 16 [(0, kr_r E 315), (1, .int l1), (2, .int l2), (4, .int l4), (5, .int l5), (6, .int l6), (7, .int x7)] [] M (k_16 x7 M)) (M : kr_M) : kR kr_vv E Y_X4_addSums 1 79 [(0, kr_r E 315), (1, .int l1), (2, .int l2), (4, .int l4), (5, .int l5), (6, .int l6), (7, .int l7), (9, .long l9)] [] M (f_X4_addSums_79 k_16 l2 l7 l9 M) := by
  rw [f_X4_addSums_79]
  refine kr_aload_n dX4_addSums_79 rfl 0 rfl ?_
  refine kr_getA (o := 8) (ci := 4) (j := 7) dX4_addSums_80 kr_at_315 fl_RX4_36 rfl ?_
  refine kr_iload_n dX4_addSums_83 rfl 2 rfl ?_
  refine kr_bipush (v := 38) dX4_addSums_84 (by decide) ?_
  refine kr_imul dX4_addSums_86 ?_
  refine kr_iload dX4_addSums_87 6 rfl ?_
  refine kr_iadd dX4_addSums_89 ?_
  refine kr_dup2 dX4_addSums_90 rfl rfl ?_
  refine kr_lald dX4_addSums_91 kr_at_323 (fun v1 => ?_)
  refine kr_lload dX4_addSums_92 7 rfl ?_
  refine kr_lor dX4_addSums_94 ?_
  refine kr_last dX4_addSums_95 kr_at_323 (fun M2 => ?_)
  refine kr_iinc (j := 6) (v := (l7 + (1 : Int32))) (lv' := [(7, .int (l7 + (1 : Int32))), (0, kr_r E 315), (1, .int l1), (2, .int l2), (4, .int l4), (5, .int l5), (6, .int l6), (9, .long l9)]) dX4_addSums_96 rfl rfl (by decide) rfl ?_
  refine kr_goto (tgt := 16) dX4_addSums_99 (by decide) ?_
  refine kr_sub [1, 2, 3, 4, 5, 6, 0] rfl ?_
  exact hk_16 (l7 + (1 : Int32)) M2
theorem r_X4_addSums_16 (E : kr_E)  (l1 : Int32) (l2 : Int32) (l4 : Int32) (l5 : Int32) (l6 : Int32)  : ∀ (n : Nat) (l7 : Int32) (M : kr_M), kR kr_vv E Y_X4_addSums 1 16 [(0, kr_r E 315), (1, .int l1), (2, .int l2), (4, .int l4), (5, .int l5), (6, .int l6), (7, .int l7)] [] M (f_X4_addSums_16 l1 l2 l4 l5 l6 n l7 M) := by
  intro n
  induction n with
  | zero => intro l7 M; exact kr_none
  | succ n ih =>
    intro l7 M
    rw [f_X4_addSums_16]
    refine kr_iload dX4_addSums_16 6 rfl ?_
    refine kr_iload dX4_addSums_18 3 rfl ?_
    refine kr_icmp_ge (tgt := 102) dX4_addSums_20 (by decide) ?_ ?_
    · exact kr_vret dX4_addSums_102 rfl
    · refine kr_iload_n dX4_addSums_23 rfl 1 rfl ?_
      refine kr_bipush (v := 38) dX4_addSums_24 (by decide) ?_
      refine kr_imul dX4_addSums_26 ?_
      refine kr_iload dX4_addSums_27 6 rfl ?_
      refine kr_iadd dX4_addSums_29 ?_
      refine kr_iload dX4_addSums_30 4 rfl ?_
      refine kr_isub dX4_addSums_32 ?_
      refine kr_nmi (fun v1 => ?_)
      refine kr_istore (lv' := [(8, .int v1), (0, kr_r E 315), (1, .int l1), (2, .int l2), (4, .int l4), (5, .int l5), (6, .int l6), (7, .int l7)]) dX4_addSums_33 (by decide) rfl ?_
      refine kr_aload_n dX4_addSums_35 rfl 1 rfl ?_
      refine kr_getA (o := 8) (ci := 4) (j := 7) dX4_addSums_36 kr_at_315 fl_RX4_36 rfl ?_
      refine kr_iload dX4_addSums_39 0 rfl ?_
      refine kr_lald dX4_addSums_41 kr_at_323 (fun v2 => ?_)
      refine kr_iload dX4_addSums_42 6 rfl ?_
      refine kr_lshl dX4_addSums_44 ?_
      refine kr_nml (fun v3 => ?_)
      refine kr_lstore (lv' := [(9, .long v3), (8, .int v1), (0, kr_r E 315), (1, .int l1), (2, .int l2), (4, .int l4), (5, .int l5), (6, .int l6), (7, .int l7)]) dX4_addSums_45 (by decide) rfl ?_
      refine kr_iload dX4_addSums_47 7 rfl ?_
      refine kr_if_le (tgt := 79) dX4_addSums_49 (by decide) ?_ ?_
      · refine kr_sub [2, 3, 4, 5, 6, 7, 8, 0] rfl ?_
        exact r_X4_addSums_79 E _ l1 l2 l4 l5 l6 l7 v3 ih M
      · refine kr_iload dX4_addSums_52 8 rfl ?_
        refine kr_iload dX4_addSums_54 6 rfl ?_
        refine kr_icmp_le (tgt := 79) dX4_addSums_56 (by decide) ?_ ?_
        · refine kr_sub [2, 3, 4, 5, 6, 7, 8, 0] rfl ?_
          exact r_X4_addSums_79 E _ l1 l2 l4 l5 l6 l7 v3 ih M
        · refine kr_lload dX4_addSums_59 0 rfl ?_
          refine kr_aload_n dX4_addSums_61 rfl 2 rfl ?_
          refine kr_getA (o := 8) (ci := 4) (j := 7) dX4_addSums_62 kr_at_315 fl_RX4_36 rfl ?_
          refine kr_iload dX4_addSums_65 1 rfl ?_
          refine kr_iconst (v := 1) dX4_addSums_67 (by decide) ?_
          refine kr_isub dX4_addSums_68 ?_
          refine kr_lald dX4_addSums_69 kr_at_323 (fun v4 => ?_)
          refine kr_bipush (v := 64) dX4_addSums_70 (by decide) ?_
          refine kr_iload dX4_addSums_72 7 rfl ?_
          refine kr_isub dX4_addSums_74 ?_
          refine kr_lushr dX4_addSums_75 ?_
          refine kr_lor dX4_addSums_76 ?_
          refine kr_nml (fun v5 => ?_)
          refine kr_lstore (lv' := [(9, .long v5), (8, .int v1), (0, kr_r E 315), (1, .int l1), (2, .int l2), (4, .int l4), (5, .int l5), (6, .int l6), (7, .int l7)]) dX4_addSums_77 (by decide) rfl ?_
          refine kr_sub [2, 3, 4, 5, 6, 7, 8, 0] rfl ?_
          exact r_X4_addSums_79 E _ l1 l2 l4 l5 l6 l7 v5 ih M
theorem r_X4_addSums (E : kr_E) (p1 : Int32) (p2 : Int32) (p3 : Int32) (p4 : Int32) (M : kr_M) : kR kr_vv E Y_X4_addSums 1 0 [(0, kr_r E 315), (1, .int p1), (2, .int p2), (3, .int p3), (4, .int p4)] [] M (f_X4_addSums p1 p2 p3 p4 M) := by
  rw [f_X4_addSums]
  refine kr_iload_n dX4_addSums_0 rfl 3 rfl ?_
  refine kr_bipush (v := 64) dX4_addSums_1 (by decide) ?_
  refine kr_idiv dX4_addSums_3 (fun n1 => ?_)
  refine kr_nmi (fun v2 => ?_)
  refine kr_istore (lv' := [(5, .int v2), (0, kr_r E 315), (1, .int p1), (2, .int p2), (3, .int p3), (4, .int p4)]) dX4_addSums_4 (by decide) rfl ?_
  refine kr_iload_n dX4_addSums_6 rfl 4 rfl ?_
  refine kr_bipush (v := 64) dX4_addSums_7 (by decide) ?_
  refine kr_irem dX4_addSums_9 (fun n3 => ?_)
  refine kr_nmi (fun v4 => ?_)
  refine kr_istore (lv' := [(6, .int v4), (5, .int v2), (0, kr_r E 315), (1, .int p1), (2, .int p2), (3, .int p3), (4, .int p4)]) dX4_addSums_10 (by decide) rfl ?_
  refine kr_iload dX4_addSums_12 1 rfl ?_
  refine kr_istore (lv' := [(7, .int v2), (6, .int v4), (5, .int v2), (0, kr_r E 315), (1, .int p1), (2, .int p2), (3, .int p3), (4, .int p4)]) dX4_addSums_14 (by decide) rfl ?_
  refine kr_sub [3, 4, 5, 7, 2, 1, 0] rfl ?_
  exact r_X4_addSums_16 E p1 p2 p4 v2 v4 _ v2 M
theorem dX4_canMean_0 : decode cX4_canMean 0 = .ok (.iload_n 1, 1) := by decide +kernel
theorem dX4_canMean_1 : decode cX4_canMean 1 = .ok (.bipush 64, 2) := by decide +kernel
theorem dX4_canMean_3 : decode cX4_canMean 3 = .ok (.idiv, 1) := by decide +kernel
theorem dX4_canMean_4 : decode cX4_canMean 4 = .ok (.iconst 1, 1) := by decide +kernel
theorem dX4_canMean_5 : decode cX4_canMean 5 = .ok (.iadd, 1) := by decide +kernel
theorem dX4_canMean_6 : decode cX4_canMean 6 = .ok (.istore_n 2, 1) := by decide +kernel
theorem dX4_canMean_7 : decode cX4_canMean 7 = .ok (.iconst 0, 1) := by decide +kernel
theorem dX4_canMean_8 : decode cX4_canMean 8 = .ok (.istore_n 3, 1) := by decide +kernel
theorem dX4_canMean_9 : decode cX4_canMean 9 = .ok (.iload_n 3, 1) := by decide +kernel
theorem dX4_canMean_10 : decode cX4_canMean 10 = .ok (.aload_n 0, 1) := by decide +kernel
theorem dX4_canMean_11 : decode cX4_canMean 11 = .ok (.getfield 14, 3) := by decide +kernel
theorem dX4_canMean_14 : decode cX4_canMean 14 = .ok (.getfield 51, 3) := by decide +kernel
theorem dX4_canMean_17 : decode cX4_canMean 17 = .ok (.if_icmp .gt 37, 3) := by decide +kernel
theorem dX4_canMean_20 : decode cX4_canMean 20 = .ok (.iconst 0, 1) := by decide +kernel
theorem dX4_canMean_21 : decode cX4_canMean 21 = .ok (.istore 4, 2) := by decide +kernel
theorem dX4_canMean_23 : decode cX4_canMean 23 = .ok (.iload 4, 2) := by decide +kernel
theorem dX4_canMean_25 : decode cX4_canMean 25 = .ok (.iload_n 2, 1) := by decide +kernel
theorem dX4_canMean_26 : decode cX4_canMean 26 = .ok (.if_icmp .ge 22, 3) := by decide +kernel
theorem dX4_canMean_29 : decode cX4_canMean 29 = .ok (.aload_n 0, 1) := by decide +kernel
theorem dX4_canMean_30 : decode cX4_canMean 30 = .ok (.getfield 36, 3) := by decide +kernel
theorem dX4_canMean_33 : decode cX4_canMean 33 = .ok (.iload_n 3, 1) := by decide +kernel
theorem dX4_canMean_34 : decode cX4_canMean 34 = .ok (.bipush 38, 2) := by decide +kernel
theorem dX4_canMean_36 : decode cX4_canMean 36 = .ok (.imul, 1) := by decide +kernel
theorem dX4_canMean_37 : decode cX4_canMean 37 = .ok (.iload 4, 2) := by decide +kernel
theorem dX4_canMean_39 : decode cX4_canMean 39 = .ok (.iadd, 1) := by decide +kernel
theorem dX4_canMean_40 : decode cX4_canMean 40 = .ok (.lconst 0, 1) := by decide +kernel
theorem dX4_canMean_41 : decode cX4_canMean 41 = .ok (.lastore, 1) := by decide +kernel
theorem dX4_canMean_42 : decode cX4_canMean 42 = .ok (.iinc 4 1, 3) := by decide +kernel
theorem dX4_canMean_45 : decode cX4_canMean 45 = .ok (.goto (-22), 3) := by decide +kernel
theorem dX4_canMean_48 : decode cX4_canMean 48 = .ok (.iinc 3 1, 3) := by decide +kernel
theorem dX4_canMean_51 : decode cX4_canMean 51 = .ok (.goto (-42), 3) := by decide +kernel
theorem dX4_canMean_54 : decode cX4_canMean 54 = .ok (.aload_n 0, 1) := by decide +kernel
theorem dX4_canMean_55 : decode cX4_canMean 55 = .ok (.getfield 36, 3) := by decide +kernel
theorem dX4_canMean_58 : decode cX4_canMean 58 = .ok (.iconst 0, 1) := by decide +kernel
theorem dX4_canMean_59 : decode cX4_canMean 59 = .ok (.lconst 1, 1) := by decide +kernel
theorem dX4_canMean_60 : decode cX4_canMean 60 = .ok (.lastore, 1) := by decide +kernel
theorem dX4_canMean_61 : decode cX4_canMean 61 = .ok (.iconst 0, 1) := by decide +kernel
theorem dX4_canMean_62 : decode cX4_canMean 62 = .ok (.istore_n 3, 1) := by decide +kernel
theorem dX4_canMean_63 : decode cX4_canMean 63 = .ok (.iload_n 3, 1) := by decide +kernel
theorem dX4_canMean_64 : decode cX4_canMean 64 = .ok (.aload_n 0, 1) := by decide +kernel
theorem dX4_canMean_65 : decode cX4_canMean 65 = .ok (.getfield 14, 3) := by decide +kernel
theorem dX4_canMean_68 : decode cX4_canMean 68 = .ok (.getfield 51, 3) := by decide +kernel
theorem dX4_canMean_71 : decode cX4_canMean 71 = .ok (.if_icmp .ge 82, 3) := by decide +kernel
theorem dX4_canMean_74 : decode cX4_canMean 74 = .ok (.iconst 0, 1) := by decide +kernel
theorem dX4_canMean_75 : decode cX4_canMean 75 = .ok (.istore 4, 2) := by decide +kernel
theorem dX4_canMean_77 : decode cX4_canMean 77 = .ok (.iload 4, 2) := by decide +kernel
theorem dX4_canMean_79 : decode cX4_canMean 79 = .ok (.aload_n 0, 1) := by decide +kernel
theorem dX4_canMean_80 : decode cX4_canMean 80 = .ok (.getfield 40, 3) := by decide +kernel
theorem dX4_canMean_83 : decode cX4_canMean 83 = .ok (.getfield 58, 3) := by decide +kernel
theorem dX4_canMean_86 : decode cX4_canMean 86 = .ok (.if_icmp .ge 61, 3) := by decide +kernel
theorem dX4_canMean_89 : decode cX4_canMean 89 = .ok (.aload_n 0, 1) := by decide +kernel
theorem dX4_canMean_90 : decode cX4_canMean 90 = .ok (.getfield 14, 3) := by decide +kernel
theorem dX4_canMean_93 : decode cX4_canMean 93 = .ok (.aload_n 0, 1) := by decide +kernel
theorem dX4_canMean_94 : decode cX4_canMean 94 = .ok (.getfield 40, 3) := by decide +kernel
theorem dX4_canMean_97 : decode cX4_canMean 97 = .ok (.getfield 63, 3) := by decide +kernel
theorem dX4_canMean_100 : decode cX4_canMean 100 = .ok (.iload 4, 2) := by decide +kernel
theorem dX4_canMean_102 : decode cX4_canMean 102 = .ok (.aaload, 1) := by decide +kernel
theorem dX4_canMean_103 : decode cX4_canMean 103 = .ok (.iload_n 3, 1) := by decide +kernel
theorem dX4_canMean_104 : decode cX4_canMean 104 = .ok (.invokevirtual 83, 3) := by decide +kernel
theorem dX4_canMean_107 : decode cX4_canMean 107 = .ok (.ifCond .eq 34, 3) := by decide +kernel
theorem dX4_canMean_110 : decode cX4_canMean 110 = .ok (.aload_n 0, 1) := by decide +kernel
theorem dX4_canMean_111 : decode cX4_canMean 111 = .ok (.iload_n 3, 1) := by decide +kernel
theorem dX4_canMean_112 : decode cX4_canMean 112 = .ok (.iload_n 3, 1) := by decide +kernel
theorem dX4_canMean_113 : decode cX4_canMean 113 = .ok (.aload_n 0, 1) := by decide +kernel
theorem dX4_canMean_114 : decode cX4_canMean 114 = .ok (.getfield 40, 3) := by decide +kernel
theorem dX4_canMean_117 : decode cX4_canMean 117 = .ok (.getfield 63, 3) := by decide +kernel
theorem dX4_canMean_120 : decode cX4_canMean 120 = .ok (.iload 4, 2) := by decide +kernel
theorem dX4_canMean_122 : decode cX4_canMean 122 = .ok (.aaload, 1) := by decide +kernel
theorem dX4_canMean_123 : decode cX4_canMean 123 = .ok (.getfield 51, 3) := by decide +kernel
theorem dX4_canMean_126 : decode cX4_canMean 126 = .ok (.iadd, 1) := by decide +kernel
theorem dX4_canMean_127 : decode cX4_canMean 127 = .ok (.aload_n 0, 1) := by decide +kernel
theorem dX4_canMean_128 : decode cX4_canMean 128 = .ok (.getfield 40, 3) := by decide +kernel
theorem dX4_canMean_131 : decode cX4_canMean 131 = .ok (.getfield 71, 3) := by decide +kernel
theorem dX4_canMean_134 : decode cX4_canMean 134 = .ok (.iload 4, 2) := by decide +kernel
theorem dX4_canMean_136 : decode cX4_canMean 136 = .ok (.iaload, 1) := by decide +kernel
theorem dX4_canMean_137 : decode cX4_canMean 137 = .ok (.iload_n 2, 1) := by decide +kernel
theorem dX4_canMean_138 : decode cX4_canMean 138 = .ok (.invokevirtual 91, 3) := by decide +kernel
theorem dX4_canMean_141 : decode cX4_canMean 141 = .ok (.iinc 4 1, 3) := by decide +kernel
theorem dX4_canMean_144 : decode cX4_canMean 144 = .ok (.goto (-67), 3) := by decide +kernel
theorem dX4_canMean_147 : decode cX4_canMean 147 = .ok (.iinc 3 1, 3) := by decide +kernel
theorem dX4_canMean_150 : decode cX4_canMean 150 = .ok (.goto (-87), 3) := by decide +kernel
theorem dX4_canMean_153 : decode cX4_canMean 153 = .ok (.aload_n 0, 1) := by decide +kernel
theorem dX4_canMean_154 : decode cX4_canMean 154 = .ok (.getfield 36, 3) := by decide +kernel
theorem dX4_canMean_157 : decode cX4_canMean 157 = .ok (.aload_n 0, 1) := by decide +kernel
theorem dX4_canMean_158 : decode cX4_canMean 158 = .ok (.getfield 14, 3) := by decide +kernel
theorem dX4_canMean_161 : decode cX4_canMean 161 = .ok (.getfield 51, 3) := by decide +kernel
theorem dX4_canMean_164 : decode cX4_canMean 164 = .ok (.bipush 38, 2) := by decide +kernel
theorem dX4_canMean_166 : decode cX4_canMean 166 = .ok (.imul, 1) := by decide +kernel
theorem dX4_canMean_167 : decode cX4_canMean 167 = .ok (.iload_n 1, 1) := by decide +kernel
theorem dX4_canMean_168 : decode cX4_canMean 168 = .ok (.bipush 64, 2) := by decide +kernel
theorem dX4_canMean_170 : decode cX4_canMean 170 = .ok (.idiv, 1) := by decide +kernel
theorem dX4_canMean_171 : decode cX4_canMean 171 = .ok (.iadd, 1) := by decide +kernel
theorem dX4_canMean_172 : decode cX4_canMean 172 = .ok (.laload, 1) := by decide +kernel
theorem dX4_canMean_173 : decode cX4_canMean 173 = .ok (.iload_n 1, 1) := by decide +kernel
theorem dX4_canMean_174 : decode cX4_canMean 174 = .ok (.bipush 64, 2) := by decide +kernel
theorem dX4_canMean_176 : decode cX4_canMean 176 = .ok (.irem, 1) := by decide +kernel
theorem dX4_canMean_177 : decode cX4_canMean 177 = .ok (.lushr, 1) := by decide +kernel
theorem dX4_canMean_178 : decode cX4_canMean 178 = .ok (.lconst 1, 1) := by decide +kernel
theorem dX4_canMean_179 : decode cX4_canMean 179 = .ok (.land, 1) := by decide +kernel
theorem dX4_canMean_180 : decode cX4_canMean 180 = .ok (.lconst 0, 1) := by decide +kernel
theorem dX4_canMean_181 : decode cX4_canMean 181 = .ok (.lcmp, 1) := by decide +kernel
theorem dX4_canMean_182 : decode cX4_canMean 182 = .ok (.ifCond .eq 7, 3) := by decide +kernel
theorem dX4_canMean_185 : decode cX4_canMean 185 = .ok (.iconst 1, 1) := by decide +kernel
theorem dX4_canMean_186 : decode cX4_canMean 186 = .ok (.goto 4, 3) := by decide +kernel
theorem dX4_canMean_189 : decode cX4_canMean 189 = .ok (.iconst 0, 1) := by decide +kernel
theorem dX4_canMean_190 : decode cX4_canMean 190 = .ok (.ireturn, 1) := by decide +kernel
theorem r_X4_canMean_153 (E : kr_E)  (l1 : Int32)  (M : kr_M) : kR kr_vi E Y_X4_canMean 3 153 [(0, kr_r E 315), (1, .int l1)] [] M (f_X4_canMean_153 l1 M) := by
  rw [f_X4_canMean_153]
  refine kr_aload_n dX4_canMean_153 rfl 0 rfl ?_
  refine kr_getA (o := 8) (ci := 4) (j := 7) dX4_canMean_154 kr_at_315 fl_RX4_36 rfl ?_
  refine kr_aload_n dX4_canMean_157 rfl 0 rfl ?_
  refine kr_getA (o := 1) (ci := 4) (j := 1) dX4_canMean_158 kr_at_315 fl_RX4_14 rfl ?_
  refine kr_getI (ci := 7) (j := 1) dX4_canMean_161 kr_at_316 fl_RX4_51 rfl (fun v1 => ?_)
  refine kr_bipush (v := 38) dX4_canMean_164 (by decide) ?_
  refine kr_imul dX4_canMean_166 ?_
  refine kr_iload_n dX4_canMean_167 rfl 1 rfl ?_
  refine kr_bipush (v := 64) dX4_canMean_168 (by decide) ?_
  refine kr_idiv dX4_canMean_170 (fun n2 => ?_)
  refine kr_iadd dX4_canMean_171 ?_
  refine kr_lald dX4_canMean_172 kr_at_323 (fun v3 => ?_)
  refine kr_iload_n dX4_canMean_173 rfl 1 rfl ?_
  refine kr_bipush (v := 64) dX4_canMean_174 (by decide) ?_
  refine kr_irem dX4_canMean_176 (fun n4 => ?_)
  refine kr_lushr dX4_canMean_177 ?_
  refine kr_lconst (v := 1) dX4_canMean_178 (by decide) ?_
  refine kr_land dX4_canMean_179 ?_
  refine kr_lconst (v := 0) dX4_canMean_180 (by decide) ?_
  refine kr_lcmp dX4_canMean_181 ?_
  refine kr_if_eq (tgt := 189) dX4_canMean_182 (by decide) ?_ ?_
  · refine kr_iconst (v := 0) dX4_canMean_189 (by decide) ?_
    exact kr_zret1 dX4_canMean_190 rfl rfl
  · refine kr_iconst (v := 1) dX4_canMean_185 (by decide) ?_
    refine kr_goto (tgt := 190) dX4_canMean_186 (by decide) ?_
    exact kr_zret1 dX4_canMean_190 rfl rfl
theorem r_X4_canMean_147 (E : kr_E) (k_63 : Int32 → kr_M → Option (Int32 × kr_M)) (l1 : Int32) (l2 : Int32) (l3 : Int32) (hk_63 : ∀ (x3 : Int32) (M : kr_M), kR kr_vi E Y_X4_canMean 3 63 [(0, kr_r E 315), (1, .int l1), (2, .int l2), (3, .int x3)] [] M (k_63 x3 M)) (M : kr_M) : kR kr_vi E Y_X4_canMean 3 147 [(0, kr_r E 315), (1, .int l1), (2, .int l2), (3, .int l3)] [] M (f_X4_canMean_147 k_63 l3 M) := by
  rw [f_X4_canMean_147]
  refine kr_iinc (j := 3) (v := (l3 + (1 : Int32))) (lv' := [(3, .int (l3 + (1 : Int32))), (0, kr_r E 315), (1, .int l1), (2, .int l2)]) dX4_canMean_147 rfl rfl (by decide) rfl ?_
  refine kr_goto (tgt := 63) dX4_canMean_150 (by decide) ?_
  refine kr_sub [1, 2, 3, 0] rfl ?_
  exact hk_63 (l3 + (1 : Int32)) M
theorem r_X4_canMean_141 (E : kr_E) (k_77 : Int32 → kr_M → Option (Int32 × kr_M)) (l1 : Int32) (l2 : Int32) (l3 : Int32) (l4 : Int32) (hk_77 : ∀ (x4 : Int32) (M : kr_M), kR kr_vi E Y_X4_canMean 3 77 [(0, kr_r E 315), (1, .int l1), (2, .int l2), (3, .int l3), (4, .int x4)] [] M (k_77 x4 M)) (M : kr_M) : kR kr_vi E Y_X4_canMean 3 141 [(0, kr_r E 315), (1, .int l1), (2, .int l2), (3, .int l3), (4, .int l4)] [] M (f_X4_canMean_141 k_77 l4 M) := by
  rw [f_X4_canMean_141]
  refine kr_iinc (j := 4) (v := (l4 + (1 : Int32))) (lv' := [(4, .int (l4 + (1 : Int32))), (0, kr_r E 315), (1, .int l1), (2, .int l2), (3, .int l3)]) dX4_canMean_141 rfl rfl (by decide) rfl ?_
  refine kr_goto (tgt := 77) dX4_canMean_144 (by decide) ?_
  refine kr_sub [1, 2, 3, 4, 0] rfl ?_
  exact hk_77 (l4 + (1 : Int32)) M
theorem r_X4_canMean_77 (E : kr_E) (k_63 : Int32 → kr_M → Option (Int32 × kr_M)) (l1 : Int32) (l2 : Int32) (l3 : Int32) (hk_63 : ∀ (x3 : Int32) (M : kr_M), kR kr_vi E Y_X4_canMean 3 63 [(0, kr_r E 315), (1, .int l1), (2, .int l2), (3, .int x3)] [] M (k_63 x3 M)) : ∀ (n : Nat) (l4 : Int32) (M : kr_M), kR kr_vi E Y_X4_canMean 3 77 [(0, kr_r E 315), (1, .int l1), (2, .int l2), (3, .int l3), (4, .int l4)] [] M (f_X4_canMean_77 k_63 l2 l3 n l4 M) := by
  intro n
  induction n with
  | zero => intro l4 M; exact kr_none
  | succ n ih =>
    intro l4 M
    rw [f_X4_canMean_77]
    refine kr_iload dX4_canMean_77 4 rfl ?_
    refine kr_aload_n dX4_canMean_79 rfl 0 rfl ?_
    refine kr_getG (o := 2) (ci := 4) (j := 0) dX4_canMean_80 kr_at_315 fl_RX4_40 rfl (fun g1 h_g1 => ?_)
    refine kr_getI (ci := 2) (j := 5) dX4_canMean_83 h_g1 fl_RX4_58 rfl (fun v2 => ?_)
    refine kr_icmp_ge (tgt := 147) dX4_canMean_86 (by decide) ?_ ?_
    · refine kr_sub [0, 1, 2, 3] rfl ?_
      exact r_X4_canMean_147 E _ l1 l2 l3 hk_63 M
    · refine kr_aload_n dX4_canMean_89 rfl 0 rfl ?_
      refine kr_getA (o := 1) (ci := 4) (j := 1) dX4_canMean_90 kr_at_315 fl_RX4_14 rfl ?_
      refine kr_aload_n dX4_canMean_93 rfl 0 rfl ?_
      refine kr_getG (o := 2) (ci := 4) (j := 0) dX4_canMean_94 kr_at_315 fl_RX4_40 rfl (fun g3 h_g3 => ?_)
      refine kr_getA (o := 3) (ci := 2) (j := 12) dX4_canMean_97 h_g3 fl_RX4_63 rfl ?_
      refine kr_iload dX4_canMean_100 4 rfl ?_
      refine kr_aaldT dX4_canMean_102 h_g3 (fun h4 => ?_)
      refine kr_iload_n dX4_canMean_103 rfl 3 rfl ?_
      refine kr_Vi (As := [kr_r E (kr_tx g3 l4), .int l3]) (st := []) zv_X7_holds dX4_canMean_104 ml_RX4_83 kr_at_316 (r_X7_holds E 316 kr_at_316 (kr_tx g3 l4) h4 l3 M) rfl rfl (Nat.le_of_ble_eq_true rfl) rfl (by decide) (Nat.le_of_ble_eq_true rfl) (fun r6 M5 => ?_)
      refine kr_if_eq (tgt := 141) dX4_canMean_107 (by decide) ?_ ?_
      · refine kr_sub [0, 1, 2, 3, 4] rfl ?_
        exact r_X4_canMean_141 E _ l1 l2 l3 l4 ih M5
      · refine kr_aload_n dX4_canMean_110 rfl 0 rfl ?_
        refine kr_iload_n dX4_canMean_111 rfl 3 rfl ?_
        refine kr_iload_n dX4_canMean_112 rfl 3 rfl ?_
        refine kr_aload_n dX4_canMean_113 rfl 0 rfl ?_
        refine kr_getG (o := 2) (ci := 4) (j := 0) dX4_canMean_114 kr_at_315 fl_RX4_40 rfl (fun g7 h_g7 => ?_)
        refine kr_getA (o := 3) (ci := 2) (j := 12) dX4_canMean_117 h_g7 fl_RX4_63 rfl ?_
        refine kr_iload dX4_canMean_120 4 rfl ?_
        refine kr_aaldT dX4_canMean_122 h_g7 (fun h8 => ?_)
        refine kr_getI (ci := 7) (j := 1) dX4_canMean_123 h8 fl_RX4_51 rfl (fun v9 => ?_)
        refine kr_iadd dX4_canMean_126 ?_
        refine kr_aload_n dX4_canMean_127 rfl 0 rfl ?_
        refine kr_getG (o := 2) (ci := 4) (j := 0) dX4_canMean_128 kr_at_315 fl_RX4_40 rfl (fun g10 h_g10 => ?_)
        refine kr_getA (o := 4) (ci := 2) (j := 13) dX4_canMean_131 h_g10 fl_RX4_71 rfl ?_
        refine kr_iload dX4_canMean_134 4 rfl ?_
        refine kr_iald dX4_canMean_136 (kr_shG4 _ h_g10) (fun v11 => ?_)
        refine kr_iload_n dX4_canMean_137 rfl 2 rfl ?_
        refine kr_Vv (As := [.int l3, .int (l3 + v9), .int v11, .int l2]) (st := []) zv_X4_addSums dX4_canMean_138 ml_RX4_91 kr_at_315 (r_X4_addSums E l3 (l3 + v9) v11 l2 M5) rfl rfl (Nat.le_of_ble_eq_true rfl) rfl (by decide) (Nat.le_of_ble_eq_true rfl) (fun M12 => ?_)
        refine kr_sub [0, 1, 2, 3, 4] rfl ?_
        exact r_X4_canMean_141 E _ l1 l2 l3 l4 ih M12
theorem r_X4_canMean_63 (E : kr_E)  (l1 : Int32) (l2 : Int32)  : ∀ (n : Nat) (l3 : Int32) (M : kr_M), kR kr_vi E Y_X4_canMean 3 63 [(0, kr_r E 315), (1, .int l1), (2, .int l2), (3, .int l3)] [] M (f_X4_canMean_63 l1 l2 n l3 M) := by
  intro n
  induction n with
  | zero => intro l3 M; exact kr_none
  | succ n ih =>
    intro l3 M
    rw [f_X4_canMean_63]
    refine kr_iload_n dX4_canMean_63 rfl 3 rfl ?_
    refine kr_aload_n dX4_canMean_64 rfl 0 rfl ?_
    refine kr_getA (o := 1) (ci := 4) (j := 1) dX4_canMean_65 kr_at_315 fl_RX4_14 rfl ?_
    refine kr_getI (ci := 7) (j := 1) dX4_canMean_68 kr_at_316 fl_RX4_51 rfl (fun v1 => ?_)
    refine kr_icmp_ge (tgt := 153) dX4_canMean_71 (by decide) ?_ ?_
    · refine kr_sub [0, 1] rfl ?_
      exact r_X4_canMean_153 E l1 M
    · refine kr_iconst (v := 0) dX4_canMean_74 (by decide) ?_
      refine kr_istore (lv' := [(4, .int (0 : Int32)), (0, kr_r E 315), (1, .int l1), (2, .int l2), (3, .int l3)]) dX4_canMean_75 (by decide) rfl ?_
      refine kr_sub [1, 2, 3, 4, 0] rfl ?_
      exact r_X4_canMean_77 E _ l1 l2 l3 ih _ (0 : Int32) M
theorem r_X4_canMean_54 (E : kr_E)  (l1 : Int32) (l2 : Int32)  (M : kr_M) : kR kr_vi E Y_X4_canMean 3 54 [(0, kr_r E 315), (1, .int l1), (2, .int l2)] [] M (f_X4_canMean_54 l1 l2 M) := by
  rw [f_X4_canMean_54]
  refine kr_aload_n dX4_canMean_54 rfl 0 rfl ?_
  refine kr_getA (o := 8) (ci := 4) (j := 7) dX4_canMean_55 kr_at_315 fl_RX4_36 rfl ?_
  refine kr_iconst (v := 0) dX4_canMean_58 (by decide) ?_
  refine kr_lconst (v := 1) dX4_canMean_59 (by decide) ?_
  refine kr_last dX4_canMean_60 kr_at_323 (fun M1 => ?_)
  refine kr_iconst (v := 0) dX4_canMean_61 (by decide) ?_
  refine kr_istore_n (lv' := [(3, .int (0 : Int32)), (0, kr_r E 315), (1, .int l1), (2, .int l2)]) dX4_canMean_62 rfl (by decide) rfl ?_
  refine kr_sub [1, 2, 3, 0] rfl ?_
  exact r_X4_canMean_63 E l1 l2 _ (0 : Int32) M1
theorem r_X4_canMean_48 (E : kr_E) (k_9 : Int32 → kr_M → Option (Int32 × kr_M)) (l1 : Int32) (l2 : Int32) (l3 : Int32) (hk_9 : ∀ (x3 : Int32) (M : kr_M), kR kr_vi E Y_X4_canMean 3 9 [(0, kr_r E 315), (1, .int l1), (2, .int l2), (3, .int x3)] [] M (k_9 x3 M)) (M : kr_M) : kR kr_vi E Y_X4_canMean 3 48 [(0, kr_r E 315), (1, .int l1), (2, .int l2), (3, .int l3)] [] M (f_X4_canMean_48 k_9 l3 M) := by
  rw [f_X4_canMean_48]
  refine kr_iinc (j := 3) (v := (l3 + (1 : Int32))) (lv' := [(3, .int (l3 + (1 : Int32))), (0, kr_r E 315), (1, .int l1), (2, .int l2)]) dX4_canMean_48 rfl rfl (by decide) rfl ?_
  refine kr_goto (tgt := 9) dX4_canMean_51 (by decide) ?_
  refine kr_sub [1, 2, 3, 0] rfl ?_
  exact hk_9 (l3 + (1 : Int32)) M
theorem r_X4_canMean_23 (E : kr_E) (k_9 : Int32 → kr_M → Option (Int32 × kr_M)) (l1 : Int32) (l2 : Int32) (l3 : Int32) (hk_9 : ∀ (x3 : Int32) (M : kr_M), kR kr_vi E Y_X4_canMean 3 9 [(0, kr_r E 315), (1, .int l1), (2, .int l2), (3, .int x3)] [] M (k_9 x3 M)) : ∀ (n : Nat) (l4 : Int32) (M : kr_M), kR kr_vi E Y_X4_canMean 3 23 [(0, kr_r E 315), (1, .int l1), (2, .int l2), (3, .int l3), (4, .int l4)] [] M (f_X4_canMean_23 k_9 l2 l3 n l4 M) := by
  intro n
  induction n with
  | zero => intro l4 M; exact kr_none
  | succ n ih =>
    intro l4 M
    rw [f_X4_canMean_23]
    refine kr_iload dX4_canMean_23 4 rfl ?_
    refine kr_iload_n dX4_canMean_25 rfl 2 rfl ?_
    refine kr_icmp_ge (tgt := 48) dX4_canMean_26 (by decide) ?_ ?_
    · refine kr_sub [0, 1, 2, 3] rfl ?_
      exact r_X4_canMean_48 E _ l1 l2 l3 hk_9 M
    · refine kr_aload_n dX4_canMean_29 rfl 0 rfl ?_
      refine kr_getA (o := 8) (ci := 4) (j := 7) dX4_canMean_30 kr_at_315 fl_RX4_36 rfl ?_
      refine kr_iload_n dX4_canMean_33 rfl 3 rfl ?_
      refine kr_bipush (v := 38) dX4_canMean_34 (by decide) ?_
      refine kr_imul dX4_canMean_36 ?_
      refine kr_iload dX4_canMean_37 4 rfl ?_
      refine kr_iadd dX4_canMean_39 ?_
      refine kr_lconst (v := 0) dX4_canMean_40 (by decide) ?_
      refine kr_last dX4_canMean_41 kr_at_323 (fun M1 => ?_)
      refine kr_iinc (j := 4) (v := (l4 + (1 : Int32))) (lv' := [(4, .int (l4 + (1 : Int32))), (0, kr_r E 315), (1, .int l1), (2, .int l2), (3, .int l3)]) dX4_canMean_42 rfl rfl (by decide) rfl ?_
      refine kr_goto (tgt := 23) dX4_canMean_45 (by decide) ?_
      refine kr_sub [1, 2, 3, 4, 0] rfl ?_
      exact ih (l4 + (1 : Int32)) M1
theorem r_X4_canMean_9 (E : kr_E)  (l1 : Int32) (l2 : Int32)  : ∀ (n : Nat) (l3 : Int32) (M : kr_M), kR kr_vi E Y_X4_canMean 3 9 [(0, kr_r E 315), (1, .int l1), (2, .int l2), (3, .int l3)] [] M (f_X4_canMean_9 l1 l2 n l3 M) := by
  intro n
  induction n with
  | zero => intro l3 M; exact kr_none
  | succ n ih =>
    intro l3 M
    rw [f_X4_canMean_9]
    refine kr_iload_n dX4_canMean_9 rfl 3 rfl ?_
    refine kr_aload_n dX4_canMean_10 rfl 0 rfl ?_
    refine kr_getA (o := 1) (ci := 4) (j := 1) dX4_canMean_11 kr_at_315 fl_RX4_14 rfl ?_
    refine kr_getI (ci := 7) (j := 1) dX4_canMean_14 kr_at_316 fl_RX4_51 rfl (fun v1 => ?_)
    refine kr_icmp_gt (tgt := 54) dX4_canMean_17 (by decide) ?_ ?_
    · refine kr_sub [0, 1, 2] rfl ?_
      exact r_X4_canMean_54 E l1 l2 M
    · refine kr_iconst (v := 0) dX4_canMean_20 (by decide) ?_
      refine kr_istore (lv' := [(4, .int (0 : Int32)), (0, kr_r E 315), (1, .int l1), (2, .int l2), (3, .int l3)]) dX4_canMean_21 (by decide) rfl ?_
      refine kr_sub [1, 2, 3, 4, 0] rfl ?_
      exact r_X4_canMean_23 E _ l1 l2 l3 ih _ (0 : Int32) M
theorem r_X4_canMean (E : kr_E) (p1 : Int32) (M : kr_M) : kR kr_vi E Y_X4_canMean 3 0 [(0, kr_r E 315), (1, .int p1)] [] M (f_X4_canMean p1 M) := by
  rw [f_X4_canMean]
  refine kr_iload_n dX4_canMean_0 rfl 1 rfl ?_
  refine kr_bipush (v := 64) dX4_canMean_1 (by decide) ?_
  refine kr_idiv dX4_canMean_3 (fun n1 => ?_)
  refine kr_iconst (v := 1) dX4_canMean_4 (by decide) ?_
  refine kr_iadd dX4_canMean_5 ?_
  refine kr_nmi (fun v2 => ?_)
  refine kr_istore_n (lv' := [(2, .int v2), (0, kr_r E 315), (1, .int p1)]) dX4_canMean_6 rfl (by decide) rfl ?_
  refine kr_iconst (v := 0) dX4_canMean_7 (by decide) ?_
  refine kr_istore_n (lv' := [(3, .int (0 : Int32)), (2, .int v2), (0, kr_r E 315), (1, .int p1)]) dX4_canMean_8 rfl (by decide) rfl ?_
  refine kr_sub [2, 3, 1, 0] rfl ?_
  exact r_X4_canMean_9 E p1 v2 _ (0 : Int32) M
