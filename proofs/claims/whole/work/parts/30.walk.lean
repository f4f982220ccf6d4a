theorem dX7_holdsBut_0 : decode cX7_holdsBut 0 = .ok (.iload_n 2, 1) := by decide +kernel
theorem dX7_holdsBut_1 : decode cX7_holdsBut 1 = .ok (.ifCond .lt 16, 3) := by decide +kernel
theorem dX7_holdsBut_4 : decode cX7_holdsBut 4 = .ok (.iload_n 2, 1) := by decide +kernel
theorem dX7_holdsBut_5 : decode cX7_holdsBut 5 = .ok (.aload_n 1, 1) := by decide +kernel
theorem dX7_holdsBut_6 : decode cX7_holdsBut 6 = .ok (.getfield 21, 3) := by decide +kernel
theorem dX7_holdsBut_9 : decode cX7_holdsBut 9 = .ok (.iadd, 1) := by decide +kernel
theorem dX7_holdsBut_10 : decode cX7_holdsBut 10 = .ok (.aload_n 0, 1) := by decide +kernel
theorem dX7_holdsBut_11 : decode cX7_holdsBut 11 = .ok (.getfield 21, 3) := by decide +kernel
theorem dX7_holdsBut_14 : decode cX7_holdsBut 14 = .ok (.if_icmp .le 5, 3) := by decide +kernel
theorem dX7_holdsBut_17 : decode cX7_holdsBut 17 = .ok (.iconst 0, 1) := by decide +kernel
theorem dX7_holdsBut_18 : decode cX7_holdsBut 18 = .ok (.ireturn, 1) := by decide +kernel
theorem dX7_holdsBut_19 : decode cX7_holdsBut 19 = .ok (.iconst 0, 1) := by decide +kernel
theorem dX7_holdsBut_20 : decode cX7_holdsBut 20 = .ok (.istore 4, 2) := by decide +kernel
theorem dX7_holdsBut_22 : decode cX7_holdsBut 22 = .ok (.iload 4, 2) := by decide +kernel
theorem dX7_holdsBut_24 : decode cX7_holdsBut 24 = .ok (.aload_n 1, 1) := by decide +kernel
theorem dX7_holdsBut_25 : decode cX7_holdsBut 25 = .ok (.getfield 21, 3) := by decide +kernel
theorem dX7_holdsBut_28 : decode cX7_holdsBut 28 = .ok (.if_icmp .ge 38, 3) := by decide +kernel
theorem dX7_holdsBut_31 : decode cX7_holdsBut 31 = .ok (.iload_n 2, 1) := by decide +kernel
theorem dX7_holdsBut_32 : decode cX7_holdsBut 32 = .ok (.iload 4, 2) := by decide +kernel
theorem dX7_holdsBut_34 : decode cX7_holdsBut 34 = .ok (.iadd, 1) := by decide +kernel
theorem dX7_holdsBut_35 : decode cX7_holdsBut 35 = .ok (.iload_n 3, 1) := by decide +kernel
theorem dX7_holdsBut_36 : decode cX7_holdsBut 36 = .ok (.if_icmp .eq 24, 3) := by decide +kernel
theorem dX7_holdsBut_39 : decode cX7_holdsBut 39 = .ok (.aload_n 0, 1) := by decide +kernel
theorem dX7_holdsBut_40 : decode cX7_holdsBut 40 = .ok (.getfield 15, 3) := by decide +kernel
theorem dX7_holdsBut_43 : decode cX7_holdsBut 43 = .ok (.iload_n 2, 1) := by decide +kernel
theorem dX7_holdsBut_44 : decode cX7_holdsBut 44 = .ok (.iload 4, 2) := by decide +kernel
theorem dX7_holdsBut_46 : decode cX7_holdsBut 46 = .ok (.iadd, 1) := by decide +kernel
theorem dX7_holdsBut_47 : decode cX7_holdsBut 47 = .ok (.iaload, 1) := by decide +kernel
theorem dX7_holdsBut_48 : decode cX7_holdsBut 48 = .ok (.aload_n 1, 1) := by decide +kernel
theorem dX7_holdsBut_49 : decode cX7_holdsBut 49 = .ok (.getfield 15, 3) := by decide +kernel
theorem dX7_holdsBut_52 : decode cX7_holdsBut 52 = .ok (.iload 4, 2) := by decide +kernel
theorem dX7_holdsBut_54 : decode cX7_holdsBut 54 = .ok (.iaload, 1) := by decide +kernel
theorem dX7_holdsBut_55 : decode cX7_holdsBut 55 = .ok (.if_icmp .eq 5, 3) := by decide +kernel
theorem dX7_holdsBut_58 : decode cX7_holdsBut 58 = .ok (.iconst 0, 1) := by decide +kernel
theorem dX7_holdsBut_59 : decode cX7_holdsBut 59 = .ok (.ireturn, 1) := by decide +kernel
theorem dX7_holdsBut_60 : decode cX7_holdsBut 60 = .ok (.iinc 4 1, 3) := by decide +kernel
theorem dX7_holdsBut_63 : decode cX7_holdsBut 63 = .ok (.goto (-41), 3) := by decide +kernel
theorem dX7_holdsBut_66 : decode cX7_holdsBut 66 = .ok (.iconst 1, 1) := by decide +kernel
theorem dX7_holdsBut_67 : decode cX7_holdsBut 67 = .ok (.ireturn, 1) := by decide +kernel
theorem r_X7_holdsBut_60 (E : kr_E) (k_22 : Int32 → kr_M → Option (Int32 × kr_M)) (l0 : Nat) (h_l0 : kr_sh l0 = (7, 0)) (l1 : Nat) (h_l1 : kr_sh l1 = (7, 0)) (l2 : Int32) (l3 : Int32) (l4 : Int32) (hk_22 : ∀ (x4 : Int32) (M : kr_M), kR kr_vi E Y_X7_holdsBut 1 22 [(0, kr_r E l0), (1, kr_r E l1), (2, .int l2), (3, .int l3), (4, .int x4)] [] M (k_22 x4 M)) (M : kr_M) : kR kr_vi E Y_X7_holdsBut 1 60 [(0, kr_r E l0), (1, kr_r E l1), (2, .int l2), (3, .int l3), (4, .int l4)] [] M (f_X7_holdsBut_60 k_22 l4 M) := by
  rw [f_X7_holdsBut_60]
  refine kr_iinc (j := 4) (v := (l4 + (1 : Int32))) (lv' := [(4, .int (l4 + (1 : Int32))), (0, kr_r E l0), (1, kr_r E l1), (2, .int l2), (3, .int l3)]) dX7_holdsBut_60 rfl rfl (by decide) rfl ?_
  refine kr_goto (tgt := 22) dX7_holdsBut_63 (by decide) ?_
  refine kr_sub [1, 2, 3, 4, 0] rfl ?_
  exact hk_22 (l4 + (1 : Int32)) M
theorem r_X7_holdsBut_22 (E : kr_E)  (l0 : Nat) (h_l0 : kr_sh l0 = (7, 0)) (l1 : Nat) (h_l1 : kr_sh l1 = (7, 0)) (l2 : Int32) (l3 : Int32)  : ∀ (n : Nat) (l4 : Int32) (M : kr_M), kR kr_vi E Y_X7_holdsBut 1 22 [(0, kr_r E l0), (1, kr_r E l1), (2, .int l2), (3, .int l3), (4, .int l4)] [] M (f_X7_holdsBut_22 l0 l1 l2 l3 n l4 M) := by
  intro n
  induction n with
  | zero => intro l4 M; exact kr_none
  | succ n ih =>
    intro l4 M
    rw [f_X7_holdsBut_22]
    refine kr_iload dX7_holdsBut_22 4 rfl ?_
    refine kr_aload_n dX7_holdsBut_24 rfl 1 rfl ?_
    refine kr_getI (ci := 7) (j := 1) dX7_holdsBut_25 h_l1 fl_RX7_21 rfl (fun v1 => ?_)
    refine kr_icmp_ge (tgt := 66) dX7_holdsBut_28 (by decide) ?_ ?_
    · refine kr_iconst (v := 1) dX7_holdsBut_66 (by decide) ?_
      exact kr_zret1 dX7_holdsBut_67 rfl rfl
    · refine kr_iload_n dX7_holdsBut_31 rfl 2 rfl ?_
      refine kr_iload dX7_holdsBut_32 4 rfl ?_
      refine kr_iadd dX7_holdsBut_34 ?_
      refine kr_iload_n dX7_holdsBut_35 rfl 3 rfl ?_
      refine kr_icmp_eq (tgt := 60) dX7_holdsBut_36 (by decide) ?_ ?_
      · refine kr_sub [0, 1, 2, 3, 4] rfl ?_
        exact r_X7_holdsBut_60 E _ l0 h_l0 l1 h_l1 l2 l3 l4 ih M
      · refine kr_aload_n dX7_holdsBut_39 rfl 0 rfl ?_
        refine kr_getA (o := 1) (ci := 7) (j := 0) dX7_holdsBut_40 h_l0 fl_RX7_15 rfl ?_
        refine kr_iload_n dX7_holdsBut_43 rfl 2 rfl ?_
        refine kr_iload dX7_holdsBut_44 4 rfl ?_
        refine kr_iadd dX7_holdsBut_46 ?_
        refine kr_iald dX7_holdsBut_47 (kr_shT1 _ h_l0) (fun v2 => ?_)
        refine kr_aload_n dX7_holdsBut_48 rfl 1 rfl ?_
        refine kr_getA (o := 1) (ci := 7) (j := 0) dX7_holdsBut_49 h_l1 fl_RX7_15 rfl ?_
        refine kr_iload dX7_holdsBut_52 4 rfl ?_
        refine kr_iald dX7_holdsBut_54 (kr_shT1 _ h_l1) (fun v3 => ?_)
        refine kr_icmp_eq (tgt := 60) dX7_holdsBut_55 (by decide) ?_ ?_
        · refine kr_sub [0, 1, 2, 3, 4] rfl ?_
          exact r_X7_holdsBut_60 E _ l0 h_l0 l1 h_l1 l2 l3 l4 ih M
        · refine kr_iconst (v := 0) dX7_holdsBut_58 (by decide) ?_
          exact kr_zret1 dX7_holdsBut_59 rfl rfl
theorem r_X7_holdsBut (E : kr_E) (g0 : Nat) (h_g0 : kr_sh g0 = (7, 0)) (p1 : Nat) (h_p1 : kr_sh p1 = (7, 0)) (p2 : Int32) (p3 : Int32) (M : kr_M) : kR kr_vi E Y_X7_holdsBut 1 0 [(0, kr_r E g0), (1, kr_r E p1), (2, .int p2), (3, .int p3)] [] M (f_X7_holdsBut g0 p1 p2 p3 M) := by
  rw [f_X7_holdsBut]
  refine kr_iload_n dX7_holdsBut_0 rfl 2 rfl ?_
  refine kr_if_lt (tgt := 17) dX7_holdsBut_1 (by decide) ?_ ?_
  · refine kr_iconst (v := 0) dX7_holdsBut_17 (by decide) ?_
    exact kr_zret1 dX7_holdsBut_18 rfl rfl
  · refine kr_iload_n dX7_holdsBut_4 rfl 2 rfl ?_
    refine kr_aload_n dX7_holdsBut_5 rfl 1 rfl ?_
    refine kr_getI (ci := 7) (j := 1) dX7_holdsBut_6 h_p1 fl_RX7_21 rfl (fun v1 => ?_)
    refine kr_iadd dX7_holdsBut_9 ?_
    refine kr_aload_n dX7_holdsBut_10 rfl 0 rfl ?_
    refine kr_getI (ci := 7) (j := 1) dX7_holdsBut_11 h_g0 fl_RX7_21 rfl (fun v2 => ?_)
    refine kr_icmp_le (tgt := 19) dX7_holdsBut_14 (by decide) ?_ ?_
    · refine kr_iconst (v := 0) dX7_holdsBut_19 (by decide) ?_
      refine kr_istore (lv' := [(4, .int (0 : Int32)), (0, kr_r E g0), (1, kr_r E p1), (2, .int p2), (3, .int p3)]) dX7_holdsBut_20 (by decide) rfl ?_
      refine kr_sub [1, 2, 3, 4, 0] rfl ?_
      exact r_X7_holdsBut_22 E g0 h_g0 p1 h_p1 p2 p3 _ (0 : Int32) M
    · refine kr_iconst (v := 0) dX7_holdsBut_17 (by decide) ?_
      exact kr_zret1 dX7_holdsBut_18 rfl rfl
theorem dX7_holds_0 : decode cX7_holds 0 = .ok (.aload_n 0, 1) := by decide +kernel
theorem dX7_holds_1 : decode cX7_holds 1 = .ok (.aload_n 1, 1) := by decide +kernel
theorem dX7_holds_2 : decode cX7_holds 2 = .ok (.iload_n 2, 1) := by decide +kernel
theorem dX7_holds_3 : decode cX7_holds 3 = .ok (.iconst (-1), 1) := by decide +kernel
theorem dX7_holds_4 : decode cX7_holds 4 = .ok (.invokevirtual 33, 3) := by decide +kernel
theorem dX7_holds_7 : decode cX7_holds 7 = .ok (.ireturn, 1) := by decide +kernel
theorem r_X7_holds (E : kr_E) (g0 : Nat) (h_g0 : kr_sh g0 = (7, 0)) (p1 : Nat) (h_p1 : kr_sh p1 = (7, 0)) (p2 : Int32) (M : kr_M) : kR kr_vi E Y_X7_holds 2 0 [(0, kr_r E g0), (1, kr_r E p1), (2, .int p2)] [] M (f_X7_holds g0 p1 p2 M) := by
  rw [f_X7_holds]
  refine kr_aload_n dX7_holds_0 rfl 0 rfl ?_
  refine kr_aload_n dX7_holds_1 rfl 1 rfl ?_
  refine kr_iload_n dX7_holds_2 rfl 2 rfl ?_
  refine kr_iconst (v := -1) dX7_holds_3 (by decide) ?_
  refine kr_Vi (As := [kr_r E p1, .int p2, .int (-1 : Int32)]) (st := []) zv_X7_holdsBut dX7_holds_4 ml_RX7_33 h_g0 (r_X7_holdsBut E g0 h_g0 p1 h_p1 p2 (-1 : Int32) M) rfl rfl (Nat.le_of_ble_eq_true rfl) rfl (by decide) (Nat.le_of_ble_eq_true rfl) (fun r2 M1 => ?_)
  exact kr_zret dX7_holds_7 rfl
theorem dX7_placeOf_0 : decode cX7_placeOf 0 = .ok (.iconst 0, 1) := by decide +kernel
theorem dX7_placeOf_1 : decode cX7_placeOf 1 = .ok (.istore_n 2, 1) := by decide +kernel
theorem dX7_placeOf_2 : decode cX7_placeOf 2 = .ok (.iload_n 2, 1) := by decide +kernel
theorem dX7_placeOf_3 : decode cX7_placeOf 3 = .ok (.aload_n 1, 1) := by decide +kernel
theorem dX7_placeOf_4 : decode cX7_placeOf 4 = .ok (.getfield 21, 3) := by decide +kernel
theorem dX7_placeOf_7 : decode cX7_placeOf 7 = .ok (.iadd, 1) := by decide +kernel
theorem dX7_placeOf_8 : decode cX7_placeOf 8 = .ok (.aload_n 0, 1) := by decide +kernel
theorem dX7_placeOf_9 : decode cX7_placeOf 9 = .ok (.getfield 21, 3) := by decide +kernel
theorem dX7_placeOf_12 : decode cX7_placeOf 12 = .ok (.if_icmp .gt 20, 3) := by decide +kernel
theorem dX7_placeOf_15 : decode cX7_placeOf 15 = .ok (.aload_n 0, 1) := by decide +kernel
theorem dX7_placeOf_16 : decode cX7_placeOf 16 = .ok (.aload_n 1, 1) := by decide +kernel
theorem dX7_placeOf_17 : decode cX7_placeOf 17 = .ok (.iload_n 2, 1) := by decide +kernel
theorem dX7_placeOf_18 : decode cX7_placeOf 18 = .ok (.invokevirtual 37, 3) := by decide +kernel
theorem dX7_placeOf_21 : decode cX7_placeOf 21 = .ok (.ifCond .eq 5, 3) := by decide +kernel
theorem dX7_placeOf_24 : decode cX7_placeOf 24 = .ok (.iload_n 2, 1) := by decide +kernel
theorem dX7_placeOf_25 : decode cX7_placeOf 25 = .ok (.ireturn, 1) := by decide +kernel
theorem dX7_placeOf_26 : decode cX7_placeOf 26 = .ok (.iinc 2 1, 3) := by decide +kernel
theorem dX7_placeOf_29 : decode cX7_placeOf 29 = .ok (.goto (-27), 3) := by decide +kernel
theorem dX7_placeOf_32 : decode cX7_placeOf 32 = .ok (.iconst (-1), 1) := by decide +kernel
theorem dX7_placeOf_33 : decode cX7_placeOf 33 = .ok (.ireturn, 1) := by decide +kernel
theorem r_X7_placeOf_2 (E : kr_E)  (l0 : Nat) (h_l0 : kr_sh l0 = (7, 0)) (l1 : Nat) (h_l1 : kr_sh l1 = (7, 0))  : ∀ (n : Nat) (l2 : Int32) (M : kr_M), kR kr_vi E Y_X7_placeOf 3 2 [(0, kr_r E l0), (1, kr_r E l1), (2, .int l2)] [] M (f_X7_placeOf_2 l0 l1 n l2 M) := by
  intro n
  induction n with
  | zero => intro l2 M; exact kr_none
  | succ n ih =>
    intro l2 M
    rw [f_X7_placeOf_2]
    refine kr_iload_n dX7_placeOf_2 rfl 2 rfl ?_
    refine kr_aload_n dX7_placeOf_3 rfl 1 rfl ?_
    refine kr_getI (ci := 7) (j := 1) dX7_placeOf_4 h_l1 fl_RX7_21 rfl (fun v1 => ?_)
    refine kr_iadd dX7_placeOf_7 ?_
    refine kr_aload_n dX7_placeOf_8 rfl 0 rfl ?_
    refine kr_getI (ci := 7) (j := 1) dX7_placeOf_9 h_l0 fl_RX7_21 rfl (fun v2 => ?_)
    refine kr_icmp_gt (tgt := 32) dX7_placeOf_12 (by decide) ?_ ?_
    · refine kr_iconst (v := -1) dX7_placeOf_32 (by decide) ?_
      exact kr_iret dX7_placeOf_33 rfl
    · refine kr_aload_n dX7_placeOf_15 rfl 0 rfl ?_
      refine kr_aload_n dX7_placeOf_16 rfl 1 rfl ?_
      refine kr_iload_n dX7_placeOf_17 rfl 2 rfl ?_
      refine kr_Vi (As := [kr_r E l1, .int l2]) (st := []) zv_X7_holds dX7_placeOf_18 ml_RX7_37 h_l0 (r_X7_holds E l0 h_l0 l1 h_l1 l2 M) rfl rfl (Nat.le_of_ble_eq_true rfl) rfl (by decide) (Nat.le_of_ble_eq_true rfl) (fun r4 M3 => ?_)
      refine kr_if_eq (tgt := 26) dX7_placeOf_21 (by decide) ?_ ?_
      · refine kr_iinc (j := 2) (v := (l2 + (1 : Int32))) (lv' := [(2, .int (l2 + (1 : Int32))), (0, kr_r E l0), (1, kr_r E l1)]) dX7_placeOf_26 rfl rfl (by decide) rfl ?_
        refine kr_goto (tgt := 2) dX7_placeOf_29 (by decide) ?_
        refine kr_sub [1, 2, 0] rfl ?_
        exact ih (l2 + (1 : Int32)) M3
      · refine kr_iload_n dX7_placeOf_24 rfl 2 rfl ?_
        exact kr_iret dX7_placeOf_25 rfl
theorem r_X7_placeOf (E : kr_E) (g0 : Nat) (h_g0 : kr_sh g0 = (7, 0)) (p1 : Nat) (h_p1 : kr_sh p1 = (7, 0)) (M : kr_M) : kR kr_vi E Y_X7_placeOf 3 0 [(0, kr_r E g0), (1, kr_r E p1)] [] M (f_X7_placeOf g0 p1 M) := by
  rw [f_X7_placeOf]
  refine kr_iconst (v := 0) dX7_placeOf_0 (by decide) ?_
  refine kr_istore_n (lv' := [(2, .int (0 : Int32)), (0, kr_r E g0), (1, kr_r E p1)]) dX7_placeOf_1 rfl (by decide) rfl ?_
  refine kr_sub [1, 2, 0] rfl ?_
  exact r_X7_placeOf_2 E g0 h_g0 p1 h_p1 _ (0 : Int32) M
theorem dX0_isInAnother_0 : decode cX0_isInAnother 0 = .ok (.aload_n 1, 1) := by decide +kernel
theorem dX0_isInAnother_1 : decode cX0_isInAnother 1 = .ok (.getfield 34, 3) := by decide +kernel
theorem dX0_isInAnother_4 : decode cX0_isInAnother 4 = .ok (.iload_n 2, 1) := by decide +kernel
theorem dX0_isInAnother_5 : decode cX0_isInAnother 5 = .ok (.aaload, 1) := by decide +kernel
theorem dX0_isInAnother_6 : decode cX0_isInAnother 6 = .ok (.getfield 38, 3) := by decide +kernel
theorem dX0_isInAnother_9 : decode cX0_isInAnother 9 = .ok (.astore_n 3, 1) := by decide +kernel
theorem dX0_isInAnother_10 : decode cX0_isInAnother 10 = .ok (.iconst 0, 1) := by decide +kernel
theorem dX0_isInAnother_11 : decode cX0_isInAnother 11 = .ok (.istore 4, 2) := by decide +kernel
theorem dX0_isInAnother_13 : decode cX0_isInAnother 13 = .ok (.iload 4, 2) := by decide +kernel
theorem dX0_isInAnother_15 : decode cX0_isInAnother 15 = .ok (.aload_n 1, 1) := by decide +kernel
theorem dX0_isInAnother_16 : decode cX0_isInAnother 16 = .ok (.getfield 25, 3) := by decide +kernel
theorem dX0_isInAnother_19 : decode cX0_isInAnother 19 = .ok (.if_icmp .ge 69, 3) := by decide +kernel
theorem dX0_isInAnother_22 : decode cX0_isInAnother 22 = .ok (.aload_n 1, 1) := by decide +kernel
theorem dX0_isInAnother_23 : decode cX0_isInAnother 23 = .ok (.getfield 34, 3) := by decide +kernel
theorem dX0_isInAnother_26 : decode cX0_isInAnother 26 = .ok (.iload 4, 2) := by decide +kernel
theorem dX0_isInAnother_28 : decode cX0_isInAnother 28 = .ok (.aaload, 1) := by decide +kernel
theorem dX0_isInAnother_29 : decode cX0_isInAnother 29 = .ok (.getfield 38, 3) := by decide +kernel
theorem dX0_isInAnother_32 : decode cX0_isInAnother 32 = .ok (.astore 5, 2) := by decide +kernel
theorem dX0_isInAnother_34 : decode cX0_isInAnother 34 = .ok (.aload 5, 2) := by decide +kernel
theorem dX0_isInAnother_36 : decode cX0_isInAnother 36 = .ok (.getfield 54, 3) := by decide +kernel
theorem dX0_isInAnother_39 : decode cX0_isInAnother 39 = .ok (.aload_n 3, 1) := by decide +kernel
theorem dX0_isInAnother_40 : decode cX0_isInAnother 40 = .ok (.getfield 54, 3) := by decide +kernel
theorem dX0_isInAnother_43 : decode cX0_isInAnother 43 = .ok (.if_icmp .gt 9, 3) := by decide +kernel
theorem dX0_isInAnother_46 : decode cX0_isInAnother 46 = .ok (.iload 4, 2) := by decide +kernel
theorem dX0_isInAnother_48 : decode cX0_isInAnother 48 = .ok (.iload_n 2, 1) := by decide +kernel
theorem dX0_isInAnother_49 : decode cX0_isInAnother 49 = .ok (.if_icmp .ge 7, 3) := by decide +kernel
theorem dX0_isInAnother_52 : decode cX0_isInAnother 52 = .ok (.iconst 1, 1) := by decide +kernel
theorem dX0_isInAnother_53 : decode cX0_isInAnother 53 = .ok (.goto 4, 3) := by decide +kernel
theorem dX0_isInAnother_56 : decode cX0_isInAnother 56 = .ok (.iconst 0, 1) := by decide +kernel
theorem dX0_isInAnother_57 : decode cX0_isInAnother 57 = .ok (.istore 6, 2) := by decide +kernel
theorem dX0_isInAnother_59 : decode cX0_isInAnother 59 = .ok (.iload 4, 2) := by decide +kernel
theorem dX0_isInAnother_61 : decode cX0_isInAnother 61 = .ok (.iload_n 2, 1) := by decide +kernel
theorem dX0_isInAnother_62 : decode cX0_isInAnother 62 = .ok (.if_icmp .eq 20, 3) := by decide +kernel
theorem dX0_isInAnother_65 : decode cX0_isInAnother 65 = .ok (.iload 6, 2) := by decide +kernel
theorem dX0_isInAnother_67 : decode cX0_isInAnother 67 = .ok (.ifCond .eq 15, 3) := by decide +kernel
theorem dX0_isInAnother_70 : decode cX0_isInAnother 70 = .ok (.aload 5, 2) := by decide +kernel
theorem dX0_isInAnother_72 : decode cX0_isInAnother 72 = .ok (.aload_n 3, 1) := by decide +kernel
theorem dX0_isInAnother_73 : decode cX0_isInAnother 73 = .ok (.invokevirtual 57, 3) := by decide +kernel
theorem dX0_isInAnother_76 : decode cX0_isInAnother 76 = .ok (.iconst (-1), 1) := by decide +kernel
theorem dX0_isInAnother_77 : decode cX0_isInAnother 77 = .ok (.if_icmp .eq 5, 3) := by decide +kernel
theorem dX0_isInAnother_80 : decode cX0_isInAnother 80 = .ok (.iconst 1, 1) := by decide +kernel
theorem dX0_isInAnother_81 : decode cX0_isInAnother 81 = .ok (.ireturn, 1) := by decide +kernel
theorem dX0_isInAnother_82 : decode cX0_isInAnother 82 = .ok (.iinc 4 1, 3) := by decide +kernel
theorem dX0_isInAnother_85 : decode cX0_isInAnother 85 = .ok (.goto (-72), 3) := by decide +kernel
theorem dX0_isInAnother_88 : decode cX0_isInAnother 88 = .ok (.iconst 0, 1) := by decide +kernel
theorem dX0_isInAnother_89 : decode cX0_isInAnother 89 = .ok (.ireturn, 1) := by decide +kernel
theorem r_X0_isInAnother_82 (E : kr_E) (k_13 : Int32 → kr_M → Option (Int32 × kr_M)) (l1 : Nat) (h_l1 : kr_sh l1 = (2, 0)) (l2 : Int32) (l3 : Nat) (h_l3 : kr_sh l3 = (7, 0)) (l4 : Int32) (hk_13 : ∀ (x4 : Int32) (M : kr_M), kR kr_vi E Y_X0_isInAnother 4 13 [(1, kr_r E l1), (2, .int l2), (3, kr_r E l3), (4, .int x4)] [] M (k_13 x4 M)) (M : kr_M) : kR kr_vi E Y_X0_isInAnother 4 82 [(1, kr_r E l1), (2, .int l2), (3, kr_r E l3), (4, .int l4)] [] M (f_X0_isInAnother_82 k_13 l4 M) := by
  rw [f_X0_isInAnother_82]
  refine kr_iinc (j := 3) (v := (l4 + (1 : Int32))) (lv' := [(4, .int (l4 + (1 : Int32))), (1, kr_r E l1), (2, .int l2), (3, kr_r E l3)]) dX0_isInAnother_82 rfl rfl (by decide) rfl ?_
  refine kr_goto (tgt := 13) dX0_isInAnother_85 (by decide) ?_
  refine kr_sub [1, 2, 3, 0] rfl ?_
  exact hk_13 (l4 + (1 : Int32)) M
theorem r_X0_isInAnother_57 (E : kr_E) (k_13 : Int32 → kr_M → Option (Int32 × kr_M)) (l1 : Nat) (h_l1 : kr_sh l1 = (2, 0)) (l2 : Int32) (l3 : Nat) (h_l3 : kr_sh l3 = (7, 0)) (l4 : Int32) (l5 : Nat) (h_l5 : kr_sh l5 = (7, 0)) (s0 : Int32) (hk_13 : ∀ (x4 : Int32) (M : kr_M), kR kr_vi E Y_X0_isInAnother 4 13 [(1, kr_r E l1), (2, .int l2), (3, kr_r E l3), (4, .int x4)] [] M (k_13 x4 M)) (M : kr_M) : kR kr_vi E Y_X0_isInAnother 4 57 [(1, kr_r E l1), (2, .int l2), (3, kr_r E l3), (4, .int l4), (5, kr_r E l5)] [.int s0] M (f_X0_isInAnother_57 k_13 l2 l3 l4 l5 s0 M) := by
  rw [f_X0_isInAnother_57]
  refine kr_istore (lv' := [(6, .int s0), (1, kr_r E l1), (2, .int l2), (3, kr_r E l3), (4, .int l4), (5, kr_r E l5)]) dX0_isInAnother_57 (by decide) rfl ?_
  refine kr_iload dX0_isInAnother_59 4 rfl ?_
  refine kr_iload_n dX0_isInAnother_61 rfl 2 rfl ?_
  refine kr_icmp_eq (tgt := 82) dX0_isInAnother_62 (by decide) ?_ ?_
  · refine kr_sub [1, 2, 3, 4] rfl ?_
    exact r_X0_isInAnother_82 E _ l1 h_l1 l2 l3 h_l3 l4 hk_13 M
  · refine kr_iload dX0_isInAnother_65 0 rfl ?_
    refine kr_if_eq (tgt := 82) dX0_isInAnother_67 (by decide) ?_ ?_
    · refine kr_sub [1, 2, 3, 4] rfl ?_
      exact r_X0_isInAnother_82 E _ l1 h_l1 l2 l3 h_l3 l4 hk_13 M
    · refine kr_aload dX0_isInAnother_70 5 rfl ?_
      refine kr_aload_n dX0_isInAnother_72 rfl 3 rfl ?_
      refine kr_Vi (As := [kr_r E l3]) (st := []) zv_X7_placeOf dX0_isInAnother_73 ml_RX0_57 h_l5 (r_X7_placeOf E l5 h_l5 l3 h_l3 M) rfl rfl (Nat.le_of_ble_eq_true rfl) rfl (by decide) (Nat.le_of_ble_eq_true rfl) (fun r2 M1 => ?_)
      refine kr_iconst (v := -1) dX0_isInAnother_76 (by decide) ?_
      refine kr_icmp_eq (tgt := 82) dX0_isInAnother_77 (by decide) ?_ ?_
      · refine kr_sub [1, 2, 3, 4] rfl ?_
        exact r_X0_isInAnother_82 E _ l1 h_l1 l2 l3 h_l3 l4 hk_13 M1
      · refine kr_iconst (v := 1) dX0_isInAnother_80 (by decide) ?_
        exact kr_zret1 dX0_isInAnother_81 rfl rfl
theorem r_X0_isInAnother_52 (E : kr_E) (k_13 : Int32 → kr_M → Option (Int32 × kr_M)) (l1 : Nat) (h_l1 : kr_sh l1 = (2, 0)) (l2 : Int32) (l3 : Nat) (h_l3 : kr_sh l3 = (7, 0)) (l4 : Int32) (l5 : Nat) (h_l5 : kr_sh l5 = (7, 0)) (hk_13 : ∀ (x4 : Int32) (M : kr_M), kR kr_vi E Y_X0_isInAnother 4 13 [(1, kr_r E l1), (2, .int l2), (3, kr_r E l3), (4, .int x4)] [] M (k_13 x4 M)) (M : kr_M) : kR kr_vi E Y_X0_isInAnother 4 52 [(1, kr_r E l1), (2, .int l2), (3, kr_r E l3), (4, .int l4), (5, kr_r E l5)] [] M (f_X0_isInAnother_52 k_13 l2 l3 l4 l5 M) := by
  rw [f_X0_isInAnother_52]
  refine kr_iconst (v := 1) dX0_isInAnother_52 (by decide) ?_
  refine kr_goto (tgt := 57) dX0_isInAnother_53 (by decide) ?_
  refine kr_sub [0, 1, 2, 3, 4] rfl ?_
  exact r_X0_isInAnother_57 E _ l1 h_l1 l2 l3 h_l3 l4 l5 h_l5 (1 : Int32) hk_13 M
theorem r_X0_isInAnother_13 (E : kr_E)  (l1 : Nat) (h_l1 : kr_sh l1 = (2, 0)) (l2 : Int32) (l3 : Nat) (h_l3 : kr_sh l3 = (7, 0))  : ∀ (n : Nat) (l4 : Int32) (M : kr_M), kR kr_vi E Y_X0_isInAnother 4 13 [(1, kr_r E l1), (2, .int l2), (3, kr_r E l3), (4, .int l4)] [] M (f_X0_isInAnother_13 l1 l2 l3 n l4 M) := by
  intro n
  induction n with
  | zero => intro l4 M; exact kr_none
  | succ n ih =>
    intro l4 M
    rw [f_X0_isInAnother_13]
    refine kr_iload dX0_isInAnother_13 3 rfl ?_
    refine kr_aload_n dX0_isInAnother_15 rfl 0 rfl ?_
    refine kr_getI (ci := 2) (j := 6) dX0_isInAnother_16 h_l1 fl_RX0_25 rfl (fun v1 => ?_)
    refine kr_icmp_ge (tgt := 88) dX0_isInAnother_19 (by decide) ?_ ?_
    · refine kr_iconst (v := 0) dX0_isInAnother_88 (by decide) ?_
      exact kr_zret1 dX0_isInAnother_89 rfl rfl
    · refine kr_aload_n dX0_isInAnother_22 rfl 0 rfl ?_
      refine kr_getA (o := 5) (ci := 2) (j := 14) dX0_isInAnother_23 h_l1 fl_RX0_34 rfl ?_
      refine kr_iload dX0_isInAnother_26 3 rfl ?_
      refine kr_aaldR dX0_isInAnother_28 h_l1 (fun h2 => ?_)
      refine kr_getA (o := 3) (ci := 5) (j := 5) dX0_isInAnother_29 h2 fl_RX0_38 rfl ?_
      refine kr_astore (lv' := [(5, kr_r E ((kr_rp l1 l4) + 3)), (1, kr_r E l1), (2, .int l2), (3, kr_r E l3), (4, .int l4)]) dX0_isInAnother_32 (by decide) rfl ?_
      refine kr_aload dX0_isInAnother_34 0 rfl ?_
      refine kr_getI (ci := 7) (j := 1) dX0_isInAnother_36 (kr_shR3 _ h2) fl_RX0_54 rfl (fun v3 => ?_)
      refine kr_aload_n dX0_isInAnother_39 rfl 3 rfl ?_
      refine kr_getI (ci := 7) (j := 1) dX0_isInAnother_40 h_l3 fl_RX0_54 rfl (fun v4 => ?_)
      refine kr_icmp_gt (tgt := 52) dX0_isInAnother_43 (by decide) ?_ ?_
      · refine kr_sub [1, 2, 3, 4, 0] rfl ?_
        exact r_X0_isInAnother_52 E _ l1 h_l1 l2 l3 h_l3 l4 ((kr_rp l1 l4) + 3) (kr_shR3 _ h2) ih M
      · refine kr_iload dX0_isInAnother_46 4 rfl ?_
        refine kr_iload_n dX0_isInAnother_48 rfl 2 rfl ?_
        refine kr_icmp_ge (tgt := 56) dX0_isInAnother_49 (by decide) ?_ ?_
        · refine kr_iconst (v := 0) dX0_isInAnother_56 (by decide) ?_
          refine kr_sub [1, 2, 3, 4, 0] rfl ?_
          exact r_X0_isInAnother_57 E _ l1 h_l1 l2 l3 h_l3 l4 ((kr_rp l1 l4) + 3) (kr_shR3 _ h2) (0 : Int32) ih M
        · refine kr_sub [1, 2, 3, 4, 0] rfl ?_
          exact r_X0_isInAnother_52 E _ l1 h_l1 l2 l3 h_l3 l4 ((kr_rp l1 l4) + 3) (kr_shR3 _ h2) ih M
theorem r_X0_isInAnother (E : kr_E) (p1 : Nat) (h_p1 : kr_sh p1 = (2, 0)) (p2 : Int32) (M : kr_M) : kR kr_vi E Y_X0_isInAnother 4 0 [(0, kr_r E 330), (1, kr_r E p1), (2, .int p2)] [] M (f_X0_isInAnother p1 p2 M) := by
  rw [f_X0_isInAnother]
  refine kr_aload_n dX0_isInAnother_0 rfl 1 rfl ?_
  refine kr_getA (o := 5) (ci := 2) (j := 14) dX0_isInAnother_1 h_p1 fl_RX0_34 rfl ?_
  refine kr_iload_n dX0_isInAnother_4 rfl 2 rfl ?_
  refine kr_aaldR dX0_isInAnother_5 h_p1 (fun h1 => ?_)
  refine kr_getA (o := 3) (ci := 5) (j := 5) dX0_isInAnother_6 h1 fl_RX0_38 rfl ?_
  refine kr_astore_n (lv' := [(3, kr_r E ((kr_rp p1 p2) + 3)), (0, kr_r E 330), (1, kr_r E p1), (2, .int p2)]) dX0_isInAnother_9 rfl (by decide) rfl ?_
  refine kr_iconst (v := 0) dX0_isInAnother_10 (by decide) ?_
  refine kr_istore (lv' := [(4, .int (0 : Int32)), (3, kr_r E ((kr_rp p1 p2) + 3)), (0, kr_r E 330), (1, kr_r E p1), (2, .int p2)]) dX0_isInAnother_11 (by decide) rfl ?_
  refine kr_sub [3, 4, 1, 0] rfl ?_
  exact r_X0_isInAnother_13 E p1 h_p1 p2 ((kr_rp p1 p2) + 3) (kr_shR3 _ h1) _ (0 : Int32) M
theorem dX0_knotsBy_0 : decode cX0_knotsBy 0 = .ok (.iload_n 3, 1) := by decide +kernel
theorem dX0_knotsBy_1 : decode cX0_knotsBy 1 = .ok (.iconst (-1), 1) := by decide +kernel
theorem dX0_knotsBy_2 : decode cX0_knotsBy 2 = .ok (.if_icmp .ne 7, 3) := by decide +kernel
theorem dX0_knotsBy_5 : decode cX0_knotsBy 5 = .ok (.iconst 0, 1) := by decide +kernel
theorem dX0_knotsBy_6 : decode cX0_knotsBy 6 = .ok (.goto 15, 3) := by decide +kernel
theorem dX0_knotsBy_9 : decode cX0_knotsBy 9 = .ok (.aload_n 0, 1) := by decide +kernel
theorem dX0_knotsBy_10 : decode cX0_knotsBy 10 = .ok (.getfield 9, 3) := by decide +kernel
theorem dX0_knotsBy_13 : decode cX0_knotsBy 13 = .ok (.iload_n 3, 1) := by decide +kernel
theorem dX0_knotsBy_14 : decode cX0_knotsBy 14 = .ok (.bipush 6, 2) := by decide +kernel
theorem dX0_knotsBy_16 : decode cX0_knotsBy 16 = .ok (.imul, 1) := by decide +kernel
theorem dX0_knotsBy_17 : decode cX0_knotsBy 17 = .ok (.iload 4, 2) := by decide +kernel
theorem dX0_knotsBy_19 : decode cX0_knotsBy 19 = .ok (.iadd, 1) := by decide +kernel
theorem dX0_knotsBy_20 : decode cX0_knotsBy 20 = .ok (.iaload, 1) := by decide +kernel
theorem dX0_knotsBy_21 : decode cX0_knotsBy 21 = .ok (.istore 5, 2) := by decide +kernel
theorem dX0_knotsBy_23 : decode cX0_knotsBy 23 = .ok (.iload_n 2, 1) := by decide +kernel
theorem dX0_knotsBy_24 : decode cX0_knotsBy 24 = .ok (.iconst 1, 1) := by decide +kernel
theorem dX0_knotsBy_25 : decode cX0_knotsBy 25 = .ok (.iload 4, 2) := by decide +kernel
theorem dX0_knotsBy_27 : decode cX0_knotsBy 27 = .ok (.ishl, 1) := by decide +kernel
theorem dX0_knotsBy_28 : decode cX0_knotsBy 28 = .ok (.iconst (-1), 1) := by decide +kernel
theorem dX0_knotsBy_29 : decode cX0_knotsBy 29 = .ok (.ixor, 1) := by decide +kernel
theorem dX0_knotsBy_30 : decode cX0_knotsBy 30 = .ok (.iand, 1) := by decide +kernel
theorem dX0_knotsBy_31 : decode cX0_knotsBy 31 = .ok (.istore 6, 2) := by decide +kernel
theorem dX0_knotsBy_33 : decode cX0_knotsBy 33 = .ok (.aload_n 1, 1) := by decide +kernel
theorem dX0_knotsBy_34 : decode cX0_knotsBy 34 = .ok (.getfield 34, 3) := by decide +kernel
theorem dX0_knotsBy_37 : decode cX0_knotsBy 37 = .ok (.iload 4, 2) := by decide +kernel
theorem dX0_knotsBy_39 : decode cX0_knotsBy 39 = .ok (.aaload, 1) := by decide +kernel
theorem dX0_knotsBy_40 : decode cX0_knotsBy 40 = .ok (.getfield 38, 3) := by decide +kernel
theorem dX0_knotsBy_43 : decode cX0_knotsBy 43 = .ok (.getfield 54, 3) := by decide +kernel
theorem dX0_knotsBy_46 : decode cX0_knotsBy 46 = .ok (.iload 5, 2) := by decide +kernel
theorem dX0_knotsBy_48 : decode cX0_knotsBy 48 = .ok (.isub, 1) := by decide +kernel
theorem dX0_knotsBy_49 : decode cX0_knotsBy 49 = .ok (.aload_n 0, 1) := by decide +kernel
theorem dX0_knotsBy_50 : decode cX0_knotsBy 50 = .ok (.getfield 15, 3) := by decide +kernel
theorem dX0_knotsBy_53 : decode cX0_knotsBy 53 = .ok (.iload 6, 2) := by decide +kernel
theorem dX0_knotsBy_55 : decode cX0_knotsBy 55 = .ok (.bipush 6, 2) := by decide +kernel
theorem dX0_knotsBy_57 : decode cX0_knotsBy 57 = .ok (.imul, 1) := by decide +kernel
theorem dX0_knotsBy_58 : decode cX0_knotsBy 58 = .ok (.iload 4, 2) := by decide +kernel
theorem dX0_knotsBy_60 : decode cX0_knotsBy 60 = .ok (.iadd, 1) := by decide +kernel
theorem dX0_knotsBy_61 : decode cX0_knotsBy 61 = .ok (.iaload, 1) := by decide +kernel
theorem dX0_knotsBy_62 : decode cX0_knotsBy 62 = .ok (.iadd, 1) := by decide +kernel
theorem dX0_knotsBy_63 : decode cX0_knotsBy 63 = .ok (.ireturn, 1) := by decide +kernel
theorem r_X0_knotsBy_21 (E : kr_E)  (l1 : Nat) (h_l1 : kr_sh l1 = (2, 0)) (l2 : Int32) (l4 : Int32) (s0 : Int32)  (M : kr_M) : kR kr_vi E Y_X0_knotsBy 1 21 [(0, kr_r E 330), (1, kr_r E l1), (2, .int l2), (4, .int l4)] [.int s0] M (f_X0_knotsBy_21 l1 l2 l4 s0 M) := by
  rw [f_X0_knotsBy_21]
  refine kr_istore (lv' := [(5, .int s0), (0, kr_r E 330), (1, kr_r E l1), (2, .int l2), (4, .int l4)]) dX0_knotsBy_21 (by decide) rfl ?_
  refine kr_iload_n dX0_knotsBy_23 rfl 3 rfl ?_
  refine kr_iconst (v := 1) dX0_knotsBy_24 (by decide) ?_
  refine kr_iload dX0_knotsBy_25 4 rfl ?_
  refine kr_ishl dX0_knotsBy_27 ?_
  refine kr_iconst (v := -1) dX0_knotsBy_28 (by decide) ?_
  refine kr_ixor dX0_knotsBy_29 ?_
  refine kr_iand dX0_knotsBy_30 ?_
  refine kr_nmi (fun v1 => ?_)
  refine kr_istore (lv' := [(6, .int v1), (5, .int s0), (0, kr_r E 330), (1, kr_r E l1), (2, .int l2), (4, .int l4)]) dX0_knotsBy_31 (by decide) rfl ?_
  refine kr_aload_n dX0_knotsBy_33 rfl 3 rfl ?_
  refine kr_getA (o := 5) (ci := 2) (j := 14) dX0_knotsBy_34 h_l1 fl_RX0_34 rfl ?_
  refine kr_iload dX0_knotsBy_37 5 rfl ?_
  refine kr_aaldR dX0_knotsBy_39 h_l1 (fun h2 => ?_)
  refine kr_getA (o := 3) (ci := 5) (j := 5) dX0_knotsBy_40 h2 fl_RX0_38 rfl ?_
  refine kr_getI (ci := 7) (j := 1) dX0_knotsBy_43 (kr_shR3 _ h2) fl_RX0_54 rfl (fun v3 => ?_)
  refine kr_iload dX0_knotsBy_46 1 rfl ?_
  refine kr_isub dX0_knotsBy_48 ?_
  refine kr_aload_n dX0_knotsBy_49 rfl 2 rfl ?_
  refine kr_getA (o := 2) (ci := 0) (j := 2) dX0_knotsBy_50 kr_at_330 fl_RX0_15 rfl ?_
  refine kr_iload dX0_knotsBy_53 0 rfl ?_
  refine kr_bipush (v := 6) dX0_knotsBy_55 (by decide) ?_
  refine kr_imul dX0_knotsBy_57 ?_
  refine kr_iload dX0_knotsBy_58 5 rfl ?_
  refine kr_iadd dX0_knotsBy_60 ?_
  refine kr_iald dX0_knotsBy_61 kr_at_332 (fun v4 => ?_)
  refine kr_iadd dX0_knotsBy_62 ?_
  exact kr_iret dX0_knotsBy_63 rfl
theorem r_X0_knotsBy (E : kr_E) (p1 : Nat) (h_p1 : kr_sh p1 = (2, 0)) (p2 : Int32) (p3 : Int32) (p4 : Int32) (M : kr_M) : kR kr_vi E Y_X0_knotsBy 1 0 [(0, kr_r E 330), (1, kr_r E p1), (2, .int p2), (3, .int p3), (4, .int p4)] [] M (f_X0_knotsBy p1 p2 p3 p4 M) := by
  rw [f_X0_knotsBy]
  refine kr_iload_n dX0_knotsBy_0 rfl 3 rfl ?_
  refine kr_iconst (v := -1) dX0_knotsBy_1 (by decide) ?_
  refine kr_icmp_ne (tgt := 9) dX0_knotsBy_2 (by decide) ?_ ?_
  · refine kr_aload_n dX0_knotsBy_9 rfl 0 rfl ?_
    refine kr_getA (o := 1) (ci := 0) (j := 1) dX0_knotsBy_10 kr_at_330 fl_RX0_9 rfl ?_
    refine kr_iload_n dX0_knotsBy_13 rfl 3 rfl ?_
    refine kr_bipush (v := 6) dX0_knotsBy_14 (by decide) ?_
    refine kr_imul dX0_knotsBy_16 ?_
    refine kr_iload dX0_knotsBy_17 4 rfl ?_
    refine kr_iadd dX0_knotsBy_19 ?_
    refine kr_iald dX0_knotsBy_20 kr_at_331 (fun v1 => ?_)
    refine kr_sub [0, 1, 2, 4] rfl ?_
    exact r_X0_knotsBy_21 E p1 h_p1 p2 p4 v1 M
  · refine kr_iconst (v := 0) dX0_knotsBy_5 (by decide) ?_
    refine kr_goto (tgt := 21) dX0_knotsBy_6 (by decide) ?_
    refine kr_sub [0, 1, 2, 4] rfl ?_
    exact r_X0_knotsBy_21 E p1 h_p1 p2 p4 (0 : Int32) M
theorem dX11_lesser_0 : decode cX11_lesser 0 = .ok (.iload_n 0, 1) := by decide +kernel
theorem dX11_lesser_1 : decode cX11_lesser 1 = .ok (.iconst (-1), 1) := by decide +kernel
theorem dX11_lesser_2 : decode cX11_lesser 2 = .ok (.if_icmp .ne 5, 3) := by decide +kernel
theorem dX11_lesser_5 : decode cX11_lesser 5 = .ok (.iload_n 1, 1) := by decide +kernel
theorem dX11_lesser_6 : decode cX11_lesser 6 = .ok (.ireturn, 1) := by decide +kernel
theorem dX11_lesser_7 : decode cX11_lesser 7 = .ok (.iload_n 1, 1) := by decide +kernel
theorem dX11_lesser_8 : decode cX11_lesser 8 = .ok (.iconst (-1), 1) := by decide +kernel
theorem dX11_lesser_9 : decode cX11_lesser 9 = .ok (.if_icmp .ne 7, 3) := by decide +kernel
theorem dX11_lesser_12 : decode cX11_lesser 12 = .ok (.iload_n 0, 1) := by decide +kernel
theorem dX11_lesser_13 : decode cX11_lesser 13 = .ok (.goto 8, 3) := by decide +kernel
theorem dX11_lesser_16 : decode cX11_lesser 16 = .ok (.iload_n 0, 1) := by decide +kernel
theorem dX11_lesser_17 : decode cX11_lesser 17 = .ok (.iload_n 1, 1) := by decide +kernel
theorem dX11_lesser_18 : decode cX11_lesser 18 = .ok (.invokestatic 447, 3) := by decide +kernel
theorem dX11_lesser_21 : decode cX11_lesser 21 = .ok (.ireturn, 1) := by decide +kernel
theorem r_X11_lesser (E : kr_E) (p0 : Int32) (p1 : Int32) (M : kr_M) : kR kr_vi E Y_X11_lesser 2 0 [(0, .int p0), (1, .int p1)] [] M (f_X11_lesser p0 p1 M) := by
  rw [f_X11_lesser]
  refine kr_iload_n dX11_lesser_0 rfl 0 rfl ?_
  refine kr_iconst (v := -1) dX11_lesser_1 (by decide) ?_
  refine kr_icmp_ne (tgt := 7) dX11_lesser_2 (by decide) ?_ ?_
  · refine kr_iload_n dX11_lesser_7 rfl 1 rfl ?_
    refine kr_iconst (v := -1) dX11_lesser_8 (by decide) ?_
    refine kr_icmp_ne (tgt := 16) dX11_lesser_9 (by decide) ?_ ?_
    · refine kr_iload_n dX11_lesser_16 rfl 0 rfl ?_
      refine kr_iload_n dX11_lesser_17 rfl 1 rfl ?_
      refine kr_mmin dX11_lesser_18 ml_RX11_447 (by decide) (Nat.le_of_ble_eq_true rfl) ?_
      exact kr_iret dX11_lesser_21 rfl
    · refine kr_iload_n dX11_lesser_12 rfl 0 rfl ?_
      refine kr_goto (tgt := 21) dX11_lesser_13 (by decide) ?_
      exact kr_iret dX11_lesser_21 rfl
  · refine kr_iload_n dX11_lesser_5 rfl 1 rfl ?_
    exact kr_iret dX11_lesser_6 rfl
theorem dX0_studySet_0 : decode cX0_studySet 0 = .ok (.iconst 0, 1) := by decide +kernel
theorem dX0_studySet_1 : decode cX0_studySet 1 = .ok (.istore_n 3, 1) := by decide +kernel
theorem dX0_studySet_2 : decode cX0_studySet 2 = .ok (.iload_n 3, 1) := by decide +kernel
theorem dX0_studySet_3 : decode cX0_studySet 3 = .ok (.aload_n 1, 1) := by decide +kernel
theorem dX0_studySet_4 : decode cX0_studySet 4 = .ok (.getfield 25, 3) := by decide +kernel
theorem dX0_studySet_7 : decode cX0_studySet 7 = .ok (.if_icmp .ge 76, 3) := by decide +kernel
theorem dX0_studySet_10 : decode cX0_studySet 10 = .ok (.iload_n 2, 1) := by decide +kernel
theorem dX0_studySet_11 : decode cX0_studySet 11 = .ok (.ifCond .ne 7, 3) := by decide +kernel
theorem dX0_studySet_14 : decode cX0_studySet 14 = .ok (.iconst 0, 1) := by decide +kernel
theorem dX0_studySet_15 : decode cX0_studySet 15 = .ok (.goto 4, 3) := by decide +kernel
theorem dX0_studySet_18 : decode cX0_studySet 18 = .ok (.iconst (-1), 1) := by decide +kernel
theorem dX0_studySet_19 : decode cX0_studySet 19 = .ok (.istore 4, 2) := by decide +kernel
theorem dX0_studySet_21 : decode cX0_studySet 21 = .ok (.iconst 0, 1) := by decide +kernel
theorem dX0_studySet_22 : decode cX0_studySet 22 = .ok (.istore 5, 2) := by decide +kernel
theorem dX0_studySet_24 : decode cX0_studySet 24 = .ok (.iload 5, 2) := by decide +kernel
theorem dX0_studySet_26 : decode cX0_studySet 26 = .ok (.aload_n 1, 1) := by decide +kernel
theorem dX0_studySet_27 : decode cX0_studySet 27 = .ok (.getfield 25, 3) := by decide +kernel
theorem dX0_studySet_30 : decode cX0_studySet 30 = .ok (.if_icmp .ge 34, 3) := by decide +kernel
theorem dX0_studySet_33 : decode cX0_studySet 33 = .ok (.iload_n 2, 1) := by decide +kernel
theorem dX0_studySet_34 : decode cX0_studySet 34 = .ok (.iload 5, 2) := by decide +kernel
theorem dX0_studySet_36 : decode cX0_studySet 36 = .ok (.ishr, 1) := by decide +kernel
theorem dX0_studySet_37 : decode cX0_studySet 37 = .ok (.iconst 1, 1) := by decide +kernel
theorem dX0_studySet_38 : decode cX0_studySet 38 = .ok (.iand, 1) := by decide +kernel
theorem dX0_studySet_39 : decode cX0_studySet 39 = .ok (.ifCond .eq 19, 3) := by decide +kernel
theorem dX0_studySet_42 : decode cX0_studySet 42 = .ok (.iload 4, 2) := by decide +kernel
theorem dX0_studySet_44 : decode cX0_studySet 44 = .ok (.aload_n 0, 1) := by decide +kernel
theorem dX0_studySet_45 : decode cX0_studySet 45 = .ok (.aload_n 1, 1) := by decide +kernel
theorem dX0_studySet_46 : decode cX0_studySet 46 = .ok (.iload_n 2, 1) := by decide +kernel
theorem dX0_studySet_47 : decode cX0_studySet 47 = .ok (.iload_n 3, 1) := by decide +kernel
theorem dX0_studySet_48 : decode cX0_studySet 48 = .ok (.iload 5, 2) := by decide +kernel
theorem dX0_studySet_50 : decode cX0_studySet 50 = .ok (.invokevirtual 61, 3) := by decide +kernel
theorem dX0_studySet_53 : decode cX0_studySet 53 = .ok (.invokestatic 65, 3) := by decide +kernel
theorem dX0_studySet_56 : decode cX0_studySet 56 = .ok (.istore 4, 2) := by decide +kernel
theorem dX0_studySet_58 : decode cX0_studySet 58 = .ok (.iinc 5 1, 3) := by decide +kernel
theorem dX0_studySet_61 : decode cX0_studySet 61 = .ok (.goto (-37), 3) := by decide +kernel
theorem dX0_studySet_64 : decode cX0_studySet 64 = .ok (.aload_n 0, 1) := by decide +kernel
theorem dX0_studySet_65 : decode cX0_studySet 65 = .ok (.getfield 15, 3) := by decide +kernel
theorem dX0_studySet_68 : decode cX0_studySet 68 = .ok (.iload_n 2, 1) := by decide +kernel
theorem dX0_studySet_69 : decode cX0_studySet 69 = .ok (.bipush 6, 2) := by decide +kernel
theorem dX0_studySet_71 : decode cX0_studySet 71 = .ok (.imul, 1) := by decide +kernel
theorem dX0_studySet_72 : decode cX0_studySet 72 = .ok (.iload_n 3, 1) := by decide +kernel
theorem dX0_studySet_73 : decode cX0_studySet 73 = .ok (.iadd, 1) := by decide +kernel
theorem dX0_studySet_74 : decode cX0_studySet 74 = .ok (.iload 4, 2) := by decide +kernel
theorem dX0_studySet_76 : decode cX0_studySet 76 = .ok (.iastore, 1) := by decide +kernel
theorem dX0_studySet_77 : decode cX0_studySet 77 = .ok (.iinc 3 1, 3) := by decide +kernel
theorem dX0_studySet_80 : decode cX0_studySet 80 = .ok (.goto (-78), 3) := by decide +kernel
theorem dX0_studySet_83 : decode cX0_studySet 83 = .ok (.return_, 1) := by decide +kernel
theorem r_X0_studySet_64 (E : kr_E) (k_2 : Int32 → kr_M → Option kr_M) (l1 : Nat) (h_l1 : kr_sh l1 = (2, 0)) (l2 : Int32) (l3 : Int32) (l4 : Int32) (hk_2 : ∀ (x3 : Int32) (M : kr_M), kR kr_vv E Y_X0_studySet 3 2 [(0, kr_r E 330), (1, kr_r E l1), (2, .int l2), (3, .int x3)] [] M (k_2 x3 M)) (M : kr_M) : kR kr_vv E Y_X0_studySet 3 64 [(0, kr_r E 330), (1, kr_r E l1), (2, .int l2), (3, .int l3), (4, .int l4)] [] M (f_X0_studySet_64 k_2 l2 l3 l4 M) := by
  rw [f_X0_studySet_64]
  refine kr_aload_n dX0_studySet_64 rfl 0 rfl ?_
  refine kr_getA (o := 2) (ci := 0) (j := 2) dX0_studySet_65 kr_at_330 fl_RX0_15 rfl ?_
  refine kr_iload_n dX0_studySet_68 rfl 2 rfl ?_
  refine kr_bipush (v := 6) dX0_studySet_69 (by decide) ?_
  refine kr_imul dX0_studySet_71 ?_
  refine kr_iload_n dX0_studySet_72 rfl 3 rfl ?_
  refine kr_iadd dX0_studySet_73 ?_
  refine kr_iload dX0_studySet_74 4 rfl ?_
  refine kr_iast dX0_studySet_76 kr_at_332 (fun M1 => ?_)
  refine kr_iinc (j := 3) (v := (l3 + (1 : Int32))) (lv' := [(3, .int (l3 + (1 : Int32))), (0, kr_r E 330), (1, kr_r E l1), (2, .int l2), (4, .int l4)]) dX0_studySet_77 rfl rfl (by decide) rfl ?_
  refine kr_goto (tgt := 2) dX0_studySet_80 (by decide) ?_
  refine kr_sub [1, 2, 3, 0] rfl ?_
  exact hk_2 (l3 + (1 : Int32)) M1
theorem r_X0_studySet_58 (E : kr_E) (k_24 : Int32 → Int32 → kr_M → Option kr_M) (l1 : Nat) (h_l1 : kr_sh l1 = (2, 0)) (l2 : Int32) (l3 : Int32) (l4 : Int32) (l5 : Int32) (hk_24 : ∀ (x4 : Int32) (x5 : Int32) (M : kr_M), kR kr_vv E Y_X0_studySet 3 24 [(0, kr_r E 330), (1, kr_r E l1), (2, .int l2), (3, .int l3), (4, .int x4), (5, .int x5)] [] M (k_24 x4 x5 M)) (M : kr_M) : kR kr_vv E Y_X0_studySet 3 58 [(0, kr_r E 330), (1, kr_r E l1), (2, .int l2), (3, .int l3), (4, .int l4), (5, .int l5)] [] M (f_X0_studySet_58 k_24 l4 l5 M) := by
  rw [f_X0_studySet_58]
  refine kr_iinc (j := 5) (v := (l5 + (1 : Int32))) (lv' := [(5, .int (l5 + (1 : Int32))), (0, kr_r E 330), (1, kr_r E l1), (2, .int l2), (3, .int l3), (4, .int l4)]) dX0_studySet_58 rfl rfl (by decide) rfl ?_
  refine kr_goto (tgt := 24) dX0_studySet_61 (by decide) ?_
  refine kr_sub [1, 2, 3, 4, 5, 0] rfl ?_
  exact hk_24 l4 (l5 + (1 : Int32)) M
theorem r_X0_studySet_24 (E : kr_E) (k_2 : Int32 → kr_M → Option kr_M) (l1 : Nat) (h_l1 : kr_sh l1 = (2, 0)) (l2 : Int32) (l3 : Int32) (hk_2 : ∀ (x3 : Int32) (M : kr_M), kR kr_vv E Y_X0_studySet 3 2 [(0, kr_r E 330), (1, kr_r E l1), (2, .int l2), (3, .int x3)] [] M (k_2 x3 M)) : ∀ (n : Nat) (l4 : Int32) (l5 : Int32) (M : kr_M), kR kr_vv E Y_X0_studySet 3 24 [(0, kr_r E 330), (1, kr_r E l1), (2, .int l2), (3, .int l3), (4, .int l4), (5, .int l5)] [] M (f_X0_studySet_24 k_2 l1 l2 l3 n l4 l5 M) := by
  intro n
  induction n with
  | zero => intro l4 l5 M; exact kr_none
  | succ n ih =>
    intro l4 l5 M
    rw [f_X0_studySet_24]
    refine kr_iload dX0_studySet_24 5 rfl ?_
    refine kr_aload_n dX0_studySet_26 rfl 1 rfl ?_
    refine kr_getI (ci := 2) (j := 6) dX0_studySet_27 h_l1 fl_RX0_25 rfl (fun v1 => ?_)
    refine kr_icmp_ge (tgt := 64) dX0_studySet_30 (by decide) ?_ ?_
    · refine kr_sub [0, 1, 2, 3, 4] rfl ?_
      exact r_X0_studySet_64 E _ l1 h_l1 l2 l3 l4 hk_2 M
    · refine kr_iload_n dX0_studySet_33 rfl 2 rfl ?_
      refine kr_iload dX0_studySet_34 5 rfl ?_
      refine kr_ishr dX0_studySet_36 ?_
      refine kr_iconst (v := 1) dX0_studySet_37 (by decide) ?_
      refine kr_iand dX0_studySet_38 ?_
      refine kr_if_eq (tgt := 58) dX0_studySet_39 (by decide) ?_ ?_
      · refine kr_sub [0, 1, 2, 3, 4, 5] rfl ?_
        exact r_X0_studySet_58 E _ l1 h_l1 l2 l3 l4 l5 ih M
      · refine kr_iload dX0_studySet_42 4 rfl ?_
        refine kr_aload_n dX0_studySet_44 rfl 0 rfl ?_
        refine kr_aload_n dX0_studySet_45 rfl 1 rfl ?_
        refine kr_iload_n dX0_studySet_46 rfl 2 rfl ?_
        refine kr_iload_n dX0_studySet_47 rfl 3 rfl ?_
        refine kr_iload dX0_studySet_48 5 rfl ?_
        refine kr_Vi (As := [kr_r E l1, .int l2, .int l3, .int l5]) (st := [.int l4]) zv_X0_knotsBy dX0_studySet_50 ml_RX0_61 kr_at_330 (r_X0_knotsBy E l1 h_l1 l2 l3 l5 M) rfl rfl (Nat.le_of_ble_eq_true rfl) rfl (by decide) (Nat.le_of_ble_eq_true rfl) (fun r3 M2 => ?_)
        refine kr_Ni (As := [.int l4, .int r3]) (st := []) zs_X11_lesser dX0_studySet_53 rfl (by decide) (r_X11_lesser E l4 r3 M2) rfl rfl (Nat.le_of_ble_eq_true rfl) rfl (by decide) (Nat.le_of_ble_eq_true rfl) (fun r5 M4 => ?_)
        refine kr_istore (lv' := [(4, .int r5), (0, kr_r E 330), (1, kr_r E l1), (2, .int l2), (3, .int l3), (5, .int l5)]) dX0_studySet_56 (by decide) rfl ?_
        refine kr_sub [1, 2, 3, 4, 0, 5] rfl ?_
        exact r_X0_studySet_58 E _ l1 h_l1 l2 l3 r5 l5 ih M4
theorem r_X0_studySet_19 (E : kr_E) (k_2 : Int32 → kr_M → Option kr_M) (l1 : Nat) (h_l1 : kr_sh l1 = (2, 0)) (l2 : Int32) (l3 : Int32) (s0 : Int32) (hk_2 : ∀ (x3 : Int32) (M : kr_M), kR kr_vv E Y_X0_studySet 3 2 [(0, kr_r E 330), (1, kr_r E l1), (2, .int l2), (3, .int x3)] [] M (k_2 x3 M)) (M : kr_M) : kR kr_vv E Y_X0_studySet 3 19 [(0, kr_r E 330), (1, kr_r E l1), (2, .int l2), (3, .int l3)] [.int s0] M (f_X0_studySet_19 k_2 l1 l2 l3 s0 M) := by
  rw [f_X0_studySet_19]
  refine kr_istore (lv' := [(4, .int s0), (0, kr_r E 330), (1, kr_r E l1), (2, .int l2), (3, .int l3)]) dX0_studySet_19 (by decide) rfl ?_
  refine kr_iconst (v := 0) dX0_studySet_21 (by decide) ?_
  refine kr_istore (lv' := [(5, .int (0 : Int32)), (4, .int s0), (0, kr_r E 330), (1, kr_r E l1), (2, .int l2), (3, .int l3)]) dX0_studySet_22 (by decide) rfl ?_
  refine kr_sub [2, 3, 4, 5, 1, 0] rfl ?_
  exact r_X0_studySet_24 E _ l1 h_l1 l2 l3 hk_2 _ s0 (0 : Int32) M
theorem r_X0_studySet_2 (E : kr_E)  (l1 : Nat) (h_l1 : kr_sh l1 = (2, 0)) (l2 : Int32)  : ∀ (n : Nat) (l3 : Int32) (M : kr_M), kR kr_vv E Y_X0_studySet 3 2 [(0, kr_r E 330), (1, kr_r E l1), (2, .int l2), (3, .int l3)] [] M (f_X0_studySet_2 l1 l2 n l3 M) := by
  intro n
  induction n with
  | zero => intro l3 M; exact kr_none
  | succ n ih =>
    intro l3 M
    rw [f_X0_studySet_2]
    refine kr_iload_n dX0_studySet_2 rfl 3 rfl ?_
    refine kr_aload_n dX0_studySet_3 rfl 1 rfl ?_
    refine kr_getI (ci := 2) (j := 6) dX0_studySet_4 h_l1 fl_RX0_25 rfl (fun v1 => ?_)
    refine kr_icmp_ge (tgt := 83) dX0_studySet_7 (by decide) ?_ ?_
    · exact kr_vret dX0_studySet_83 rfl
    · refine kr_iload_n dX0_studySet_10 rfl 2 rfl ?_
      refine kr_if_ne (tgt := 18) dX0_studySet_11 (by decide) ?_ ?_
      · refine kr_iconst (v := -1) dX0_studySet_18 (by decide) ?_
        refine kr_sub [0, 1, 2, 3] rfl ?_
        exact r_X0_studySet_19 E _ l1 h_l1 l2 l3 (-1 : Int32) ih M
      · refine kr_iconst (v := 0) dX0_studySet_14 (by decide) ?_
        refine kr_goto (tgt := 19) dX0_studySet_15 (by decide) ?_
        refine kr_sub [0, 1, 2, 3] rfl ?_
        exact r_X0_studySet_19 E _ l1 h_l1 l2 l3 (0 : Int32) ih M
theorem r_X0_studySet (E : kr_E) (p1 : Nat) (h_p1 : kr_sh p1 = (2, 0)) (p2 : Int32) (M : kr_M) : kR kr_vv E Y_X0_studySet 3 0 [(0, kr_r E 330), (1, kr_r E p1), (2, .int p2)] [] M (f_X0_studySet p1 p2 M) := by
  rw [f_X0_studySet]
  refine kr_iconst (v := 0) dX0_studySet_0 (by decide) ?_
  refine kr_istore_n (lv' := [(3, .int (0 : Int32)), (0, kr_r E 330), (1, kr_r E p1), (2, .int p2)]) dX0_studySet_1 rfl (by decide) rfl ?_
  refine kr_sub [1, 2, 3, 0] rfl ?_
  exact r_X0_studySet_2 E p1 h_p1 p2 _ (0 : Int32) M
theorem dX7_endsWithFirst_0 : decode cX7_endsWithFirst 0 = .ok (.iconst 0, 1) := by decide +kernel
theorem dX7_endsWithFirst_1 : decode cX7_endsWithFirst 1 = .ok (.istore_n 3, 1) := by decide +kernel
theorem dX7_endsWithFirst_2 : decode cX7_endsWithFirst 2 = .ok (.iload_n 3, 1) := by decide +kernel
theorem dX7_endsWithFirst_3 : decode cX7_endsWithFirst 3 = .ok (.iload_n 2, 1) := by decide +kernel
theorem dX7_endsWithFirst_4 : decode cX7_endsWithFirst 4 = .ok (.if_icmp .ge 33, 3) := by decide +kernel
theorem dX7_endsWithFirst_7 : decode cX7_endsWithFirst 7 = .ok (.aload_n 0, 1) := by decide +kernel
theorem dX7_endsWithFirst_8 : decode cX7_endsWithFirst 8 = .ok (.getfield 15, 3) := by decide +kernel
theorem dX7_endsWithFirst_11 : decode cX7_endsWithFirst 11 = .ok (.aload_n 0, 1) := by decide +kernel
theorem dX7_endsWithFirst_12 : decode cX7_endsWithFirst 12 = .ok (.getfield 21, 3) := by decide +kernel
theorem dX7_endsWithFirst_15 : decode cX7_endsWithFirst 15 = .ok (.iload_n 2, 1) := by decide +kernel
theorem dX7_endsWithFirst_16 : decode cX7_endsWithFirst 16 = .ok (.isub, 1) := by decide +kernel
theorem dX7_endsWithFirst_17 : decode cX7_endsWithFirst 17 = .ok (.iload_n 3, 1) := by decide +kernel
theorem dX7_endsWithFirst_18 : decode cX7_endsWithFirst 18 = .ok (.iadd, 1) := by decide +kernel
theorem dX7_endsWithFirst_19 : decode cX7_endsWithFirst 19 = .ok (.iaload, 1) := by decide +kernel
theorem dX7_endsWithFirst_20 : decode cX7_endsWithFirst 20 = .ok (.aload_n 1, 1) := by decide +kernel
theorem dX7_endsWithFirst_21 : decode cX7_endsWithFirst 21 = .ok (.getfield 15, 3) := by decide +kernel
theorem dX7_endsWithFirst_24 : decode cX7_endsWithFirst 24 = .ok (.iload_n 3, 1) := by decide +kernel
theorem dX7_endsWithFirst_25 : decode cX7_endsWithFirst 25 = .ok (.iaload, 1) := by decide +kernel
theorem dX7_endsWithFirst_26 : decode cX7_endsWithFirst 26 = .ok (.if_icmp .eq 5, 3) := by decide +kernel
theorem dX7_endsWithFirst_29 : decode cX7_endsWithFirst 29 = .ok (.iconst 0, 1) := by decide +kernel
theorem dX7_endsWithFirst_30 : decode cX7_endsWithFirst 30 = .ok (.ireturn, 1) := by decide +kernel
theorem dX7_endsWithFirst_31 : decode cX7_endsWithFirst 31 = .ok (.iinc 3 1, 3) := by decide +kernel
theorem dX7_endsWithFirst_34 : decode cX7_endsWithFirst 34 = .ok (.goto (-32), 3) := by decide +kernel
theorem dX7_endsWithFirst_37 : decode cX7_endsWithFirst 37 = .ok (.iconst 1, 1) := by decide +kernel
theorem dX7_endsWithFirst_38 : decode cX7_endsWithFirst 38 = .ok (.ireturn, 1) := by decide +kernel
theorem r_X7_endsWithFirst_2 (E : kr_E)  (l0 : Nat) (h_l0 : kr_sh l0 = (7, 0)) (l1 : Nat) (h_l1 : kr_sh l1 = (7, 0)) (l2 : Int32)  : ∀ (n : Nat) (l3 : Int32) (M : kr_M), kR kr_vi E Y_X7_endsWithFirst 1 2 [(0, kr_r E l0), (1, kr_r E l1), (2, .int l2), (3, .int l3)] [] M (f_X7_endsWithFirst_2 l0 l1 l2 n l3 M) := by
  intro n
  induction n with
  | zero => intro l3 M; exact kr_none
  | succ n ih =>
    intro l3 M
    rw [f_X7_endsWithFirst_2]
    refine kr_iload_n dX7_endsWithFirst_2 rfl 3 rfl ?_
    refine kr_iload_n dX7_endsWithFirst_3 rfl 2 rfl ?_
    refine kr_icmp_ge (tgt := 37) dX7_endsWithFirst_4 (by decide) ?_ ?_
    · refine kr_iconst (v := 1) dX7_endsWithFirst_37 (by decide) ?_
      exact kr_zret1 dX7_endsWithFirst_38 rfl rfl
    · refine kr_aload_n dX7_endsWithFirst_7 rfl 0 rfl ?_
      refine kr_getA (o := 1) (ci := 7) (j := 0) dX7_endsWithFirst_8 h_l0 fl_RX7_15 rfl ?_
      refine kr_aload_n dX7_endsWithFirst_11 rfl 0 rfl ?_
      refine kr_getI (ci := 7) (j := 1) dX7_endsWithFirst_12 h_l0 fl_RX7_21 rfl (fun v1 => ?_)
      refine kr_iload_n dX7_endsWithFirst_15 rfl 2 rfl ?_
      refine kr_isub dX7_endsWithFirst_16 ?_
      refine kr_iload_n dX7_endsWithFirst_17 rfl 3 rfl ?_
      refine kr_iadd dX7_endsWithFirst_18 ?_
      refine kr_iald dX7_endsWithFirst_19 (kr_shT1 _ h_l0) (fun v2 => ?_)
      refine kr_aload_n dX7_endsWithFirst_20 rfl 1 rfl ?_
      refine kr_getA (o := 1) (ci := 7) (j := 0) dX7_endsWithFirst_21 h_l1 fl_RX7_15 rfl ?_
      refine kr_iload_n dX7_endsWithFirst_24 rfl 3 rfl ?_
      refine kr_iald dX7_endsWithFirst_25 (kr_shT1 _ h_l1) (fun v3 => ?_)
      refine kr_icmp_eq (tgt := 31) dX7_endsWithFirst_26 (by decide) ?_ ?_
      · refine kr_iinc (j := 3) (v := (l3 + (1 : Int32))) (lv' := [(3, .int (l3 + (1 : Int32))), (0, kr_r E l0), (1, kr_r E l1), (2, .int l2)]) dX7_endsWithFirst_31 rfl rfl (by decide) rfl ?_
        refine kr_goto (tgt := 2) dX7_endsWithFirst_34 (by decide) ?_
        refine kr_sub [1, 2, 3, 0] rfl ?_
        exact ih (l3 + (1 : Int32)) M
      · refine kr_iconst (v := 0) dX7_endsWithFirst_29 (by decide) ?_
        exact kr_zret1 dX7_endsWithFirst_30 rfl rfl
theorem r_X7_endsWithFirst (E : kr_E) (g0 : Nat) (h_g0 : kr_sh g0 = (7, 0)) (p1 : Nat) (h_p1 : kr_sh p1 = (7, 0)) (p2 : Int32) (M : kr_M) : kR kr_vi E Y_X7_endsWithFirst 1 0 [(0, kr_r E g0), (1, kr_r E p1), (2, .int p2)] [] M (f_X7_endsWithFirst g0 p1 p2 M) := by
  rw [f_X7_endsWithFirst]
  refine kr_iconst (v := 0) dX7_endsWithFirst_0 (by decide) ?_
  refine kr_istore_n (lv' := [(3, .int (0 : Int32)), (0, kr_r E g0), (1, kr_r E p1), (2, .int p2)]) dX7_endsWithFirst_1 rfl (by decide) rfl ?_
  refine kr_sub [1, 2, 3, 0] rfl ?_
  exact r_X7_endsWithFirst_2 E g0 h_g0 p1 h_p1 p2 _ (0 : Int32) M
theorem dX7_overlapWith_0 : decode cX7_overlapWith 0 = .ok (.iload_n 2, 1) := by decide +kernel
theorem dX7_overlapWith_1 : decode cX7_overlapWith 1 = .ok (.aload_n 0, 1) := by decide +kernel
theorem dX7_overlapWith_2 : decode cX7_overlapWith 2 = .ok (.getfield 21, 3) := by decide +kernel
theorem dX7_overlapWith_5 : decode cX7_overlapWith 5 = .ok (.aload_n 1, 1) := by decide +kernel
theorem dX7_overlapWith_6 : decode cX7_overlapWith 6 = .ok (.getfield 21, 3) := by decide +kernel
theorem dX7_overlapWith_9 : decode cX7_overlapWith 9 = .ok (.invokestatic 41, 3) := by decide +kernel
theorem dX7_overlapWith_12 : decode cX7_overlapWith 12 = .ok (.invokestatic 41, 3) := by decide +kernel
theorem dX7_overlapWith_15 : decode cX7_overlapWith 15 = .ok (.istore_n 3, 1) := by decide +kernel
theorem dX7_overlapWith_16 : decode cX7_overlapWith 16 = .ok (.iload_n 3, 1) := by decide +kernel
theorem dX7_overlapWith_17 : decode cX7_overlapWith 17 = .ok (.ifCond .le 20, 3) := by decide +kernel
theorem dX7_overlapWith_20 : decode cX7_overlapWith 20 = .ok (.aload_n 0, 1) := by decide +kernel
theorem dX7_overlapWith_21 : decode cX7_overlapWith 21 = .ok (.aload_n 1, 1) := by decide +kernel
theorem dX7_overlapWith_22 : decode cX7_overlapWith 22 = .ok (.iload_n 3, 1) := by decide +kernel
theorem dX7_overlapWith_23 : decode cX7_overlapWith 23 = .ok (.invokevirtual 44, 3) := by decide +kernel
theorem dX7_overlapWith_26 : decode cX7_overlapWith 26 = .ok (.ifCond .eq 5, 3) := by decide +kernel
theorem dX7_overlapWith_29 : decode cX7_overlapWith 29 = .ok (.iload_n 3, 1) := by decide +kernel
theorem dX7_overlapWith_30 : decode cX7_overlapWith 30 = .ok (.ireturn, 1) := by decide +kernel
theorem dX7_overlapWith_31 : decode cX7_overlapWith 31 = .ok (.iinc 3 (-1), 3) := by decide +kernel
theorem dX7_overlapWith_34 : decode cX7_overlapWith 34 = .ok (.goto (-18), 3) := by decide +kernel
theorem dX7_overlapWith_37 : decode cX7_overlapWith 37 = .ok (.iconst 0, 1) := by decide +kernel
theorem dX7_overlapWith_38 : decode cX7_overlapWith 38 = .ok (.ireturn, 1) := by decide +kernel
theorem r_X7_overlapWith_16 (E : kr_E)  (l0 : Nat) (h_l0 : kr_sh l0 = (7, 0)) (l1 : Nat) (h_l1 : kr_sh l1 = (7, 0))  : ∀ (n : Nat) (l3 : Int32) (M : kr_M), kR kr_vi E Y_X7_overlapWith 2 16 [(0, kr_r E l0), (1, kr_r E l1), (3, .int l3)] [] M (f_X7_overlapWith_16 l0 l1 n l3 M) := by
  intro n
  induction n with
  | zero => intro l3 M; exact kr_none
  | succ n ih =>
    intro l3 M
    rw [f_X7_overlapWith_16]
    refine kr_iload_n dX7_overlapWith_16 rfl 2 rfl ?_
    refine kr_if_le (tgt := 37) dX7_overlapWith_17 (by decide) ?_ ?_
    · refine kr_iconst (v := 0) dX7_overlapWith_37 (by decide) ?_
      exact kr_iret dX7_overlapWith_38 rfl
    · refine kr_aload_n dX7_overlapWith_20 rfl 0 rfl ?_
      refine kr_aload_n dX7_overlapWith_21 rfl 1 rfl ?_
      refine kr_iload_n dX7_overlapWith_22 rfl 2 rfl ?_
      refine kr_Vi (As := [kr_r E l1, .int l3]) (st := []) zv_X7_endsWithFirst dX7_overlapWith_23 ml_RX7_44 h_l0 (r_X7_endsWithFirst E l0 h_l0 l1 h_l1 l3 M) rfl rfl (Nat.le_of_ble_eq_true rfl) rfl (by decide) (Nat.le_of_ble_eq_true rfl) (fun r2 M1 => ?_)
      refine kr_if_eq (tgt := 31) dX7_overlapWith_26 (by decide) ?_ ?_
      · refine kr_iinc (j := 2) (v := (l3 + (-1 : Int32))) (lv' := [(3, .int (l3 + (-1 : Int32))), (0, kr_r E l0), (1, kr_r E l1)]) dX7_overlapWith_31 rfl rfl (by decide) rfl ?_
        refine kr_goto (tgt := 16) dX7_overlapWith_34 (by decide) ?_
        refine kr_sub [1, 2, 0] rfl ?_
        exact ih (l3 + (-1 : Int32)) M1
      · refine kr_iload_n dX7_overlapWith_29 rfl 2 rfl ?_
        exact kr_iret dX7_overlapWith_30 rfl
theorem r_X7_overlapWith (E : kr_E) (g0 : Nat) (h_g0 : kr_sh g0 = (7, 0)) (p1 : Nat) (h_p1 : kr_sh p1 = (7, 0)) (p2 : Int32) (M : kr_M) : kR kr_vi E Y_X7_overlapWith 2 0 [(0, kr_r E g0), (1, kr_r E p1), (2, .int p2)] [] M (f_X7_overlapWith g0 p1 p2 M) := by
  rw [f_X7_overlapWith]
  refine kr_iload_n dX7_overlapWith_0 rfl 2 rfl ?_
  refine kr_aload_n dX7_overlapWith_1 rfl 0 rfl ?_
  refine kr_getI (ci := 7) (j := 1) dX7_overlapWith_2 h_g0 fl_RX7_21 rfl (fun v1 => ?_)
  refine kr_aload_n dX7_overlapWith_5 rfl 1 rfl ?_
  refine kr_getI (ci := 7) (j := 1) dX7_overlapWith_6 h_p1 fl_RX7_21 rfl (fun v2 => ?_)
  refine kr_mmin dX7_overlapWith_9 ml_RX7_41 (by decide) (Nat.le_of_ble_eq_true rfl) ?_
  refine kr_mmin dX7_overlapWith_12 ml_RX7_41 (by decide) (Nat.le_of_ble_eq_true rfl) ?_
  refine kr_nmi (fun v3 => ?_)
  refine kr_istore_n (lv' := [(3, .int v3), (0, kr_r E g0), (1, kr_r E p1), (2, .int p2)]) dX7_overlapWith_15 rfl (by decide) rfl ?_
  refine kr_sub [1, 2, 0] rfl ?_
  exact r_X7_overlapWith_16 E g0 h_g0 p1 h_p1 _ v3 M
theorem dX0_lay_0 : decode cX0_lay 0 = .ok (.aload_n 0, 1) := by decide +kernel
theorem dX0_lay_1 : decode cX0_lay 1 = .ok (.iconst 0, 1) := by decide +kernel
theorem dX0_lay_2 : decode cX0_lay 2 = .ok (.putfield 21, 3) := by decide +kernel
theorem dX0_lay_5 : decode cX0_lay 5 = .ok (.iconst 0, 1) := by decide +kernel
theorem dX0_lay_6 : decode cX0_lay 6 = .ok (.istore_n 2, 1) := by decide +kernel
theorem dX0_lay_7 : decode cX0_lay 7 = .ok (.iload_n 2, 1) := by decide +kernel
theorem dX0_lay_8 : decode cX0_lay 8 = .ok (.aload_n 1, 1) := by decide +kernel
theorem dX0_lay_9 : decode cX0_lay 9 = .ok (.getfield 25, 3) := by decide +kernel
theorem dX0_lay_12 : decode cX0_lay 12 = .ok (.if_icmp .ge 30, 3) := by decide +kernel
theorem dX0_lay_15 : decode cX0_lay 15 = .ok (.aload_n 0, 1) := by decide +kernel
theorem dX0_lay_16 : decode cX0_lay 16 = .ok (.aload_n 1, 1) := by decide +kernel
theorem dX0_lay_17 : decode cX0_lay 17 = .ok (.iload_n 2, 1) := by decide +kernel
theorem dX0_lay_18 : decode cX0_lay 18 = .ok (.invokevirtual 30, 3) := by decide +kernel
theorem dX0_lay_21 : decode cX0_lay 21 = .ok (.ifCond .ne 15, 3) := by decide +kernel
theorem dX0_lay_24 : decode cX0_lay 24 = .ok (.aload_n 0, 1) := by decide +kernel
theorem dX0_lay_25 : decode cX0_lay 25 = .ok (.dup, 1) := by decide +kernel
theorem dX0_lay_26 : decode cX0_lay 26 = .ok (.getfield 21, 3) := by decide +kernel
theorem dX0_lay_29 : decode cX0_lay 29 = .ok (.iconst 1, 1) := by decide +kernel
theorem dX0_lay_30 : decode cX0_lay 30 = .ok (.iload_n 2, 1) := by decide +kernel
theorem dX0_lay_31 : decode cX0_lay 31 = .ok (.ishl, 1) := by decide +kernel
theorem dX0_lay_32 : decode cX0_lay 32 = .ok (.ior, 1) := by decide +kernel
theorem dX0_lay_33 : decode cX0_lay 33 = .ok (.putfield 21, 3) := by decide +kernel
theorem dX0_lay_36 : decode cX0_lay 36 = .ok (.iinc 2 1, 3) := by decide +kernel
theorem dX0_lay_39 : decode cX0_lay 39 = .ok (.goto (-32), 3) := by decide +kernel
theorem dX0_lay_42 : decode cX0_lay 42 = .ok (.iconst 0, 1) := by decide +kernel
theorem dX0_lay_43 : decode cX0_lay 43 = .ok (.istore_n 2, 1) := by decide +kernel
theorem dX0_lay_44 : decode cX0_lay 44 = .ok (.iload_n 2, 1) := by decide +kernel
theorem dX0_lay_45 : decode cX0_lay 45 = .ok (.aload_n 1, 1) := by decide +kernel
theorem dX0_lay_46 : decode cX0_lay 46 = .ok (.getfield 25, 3) := by decide +kernel
theorem dX0_lay_49 : decode cX0_lay 49 = .ok (.if_icmp .ge 59, 3) := by decide +kernel
theorem dX0_lay_52 : decode cX0_lay 52 = .ok (.iconst 0, 1) := by decide +kernel
theorem dX0_lay_53 : decode cX0_lay 53 = .ok (.istore_n 3, 1) := by decide +kernel
theorem dX0_lay_54 : decode cX0_lay 54 = .ok (.iload_n 3, 1) := by decide +kernel
theorem dX0_lay_55 : decode cX0_lay 55 = .ok (.aload_n 1, 1) := by decide +kernel
theorem dX0_lay_56 : decode cX0_lay 56 = .ok (.getfield 25, 3) := by decide +kernel
theorem dX0_lay_59 : decode cX0_lay 59 = .ok (.if_icmp .ge 43, 3) := by decide +kernel
theorem dX0_lay_62 : decode cX0_lay 62 = .ok (.aload_n 0, 1) := by decide +kernel
theorem dX0_lay_63 : decode cX0_lay 63 = .ok (.getfield 9, 3) := by decide +kernel
theorem dX0_lay_66 : decode cX0_lay 66 = .ok (.iload_n 2, 1) := by decide +kernel
theorem dX0_lay_67 : decode cX0_lay 67 = .ok (.bipush 6, 2) := by decide +kernel
theorem dX0_lay_69 : decode cX0_lay 69 = .ok (.imul, 1) := by decide +kernel
theorem dX0_lay_70 : decode cX0_lay 70 = .ok (.iload_n 3, 1) := by decide +kernel
theorem dX0_lay_71 : decode cX0_lay 71 = .ok (.iadd, 1) := by decide +kernel
theorem dX0_lay_72 : decode cX0_lay 72 = .ok (.aload_n 1, 1) := by decide +kernel
theorem dX0_lay_73 : decode cX0_lay 73 = .ok (.getfield 34, 3) := by decide +kernel
theorem dX0_lay_76 : decode cX0_lay 76 = .ok (.iload_n 2, 1) := by decide +kernel
theorem dX0_lay_77 : decode cX0_lay 77 = .ok (.aaload, 1) := by decide +kernel
theorem dX0_lay_78 : decode cX0_lay 78 = .ok (.getfield 38, 3) := by decide +kernel
theorem dX0_lay_81 : decode cX0_lay 81 = .ok (.aload_n 1, 1) := by decide +kernel
theorem dX0_lay_82 : decode cX0_lay 82 = .ok (.getfield 34, 3) := by decide +kernel
theorem dX0_lay_85 : decode cX0_lay 85 = .ok (.iload_n 3, 1) := by decide +kernel
theorem dX0_lay_86 : decode cX0_lay 86 = .ok (.aaload, 1) := by decide +kernel
theorem dX0_lay_87 : decode cX0_lay 87 = .ok (.getfield 38, 3) := by decide +kernel
theorem dX0_lay_90 : decode cX0_lay 90 = .ok (.bipush 24, 2) := by decide +kernel
theorem dX0_lay_92 : decode cX0_lay 92 = .ok (.invokevirtual 44, 3) := by decide +kernel
theorem dX0_lay_95 : decode cX0_lay 95 = .ok (.iastore, 1) := by decide +kernel
theorem dX0_lay_96 : decode cX0_lay 96 = .ok (.iinc 3 1, 3) := by decide +kernel
theorem dX0_lay_99 : decode cX0_lay 99 = .ok (.goto (-45), 3) := by decide +kernel
theorem dX0_lay_102 : decode cX0_lay 102 = .ok (.iinc 2 1, 3) := by decide +kernel
theorem dX0_lay_105 : decode cX0_lay 105 = .ok (.goto (-61), 3) := by decide +kernel
theorem dX0_lay_108 : decode cX0_lay 108 = .ok (.iconst 0, 1) := by decide +kernel
theorem dX0_lay_109 : decode cX0_lay 109 = .ok (.istore_n 2, 1) := by decide +kernel
theorem dX0_lay_110 : decode cX0_lay 110 = .ok (.iload_n 2, 1) := by decide +kernel
theorem dX0_lay_111 : decode cX0_lay 111 = .ok (.aload_n 0, 1) := by decide +kernel
theorem dX0_lay_112 : decode cX0_lay 112 = .ok (.getfield 21, 3) := by decide +kernel
theorem dX0_lay_115 : decode cX0_lay 115 = .ok (.if_icmp .gt 26, 3) := by decide +kernel
theorem dX0_lay_118 : decode cX0_lay 118 = .ok (.iload_n 2, 1) := by decide +kernel
theorem dX0_lay_119 : decode cX0_lay 119 = .ok (.aload_n 0, 1) := by decide +kernel
theorem dX0_lay_120 : decode cX0_lay 120 = .ok (.getfield 21, 3) := by decide +kernel
theorem dX0_lay_123 : decode cX0_lay 123 = .ok (.iconst (-1), 1) := by decide +kernel
theorem dX0_lay_124 : decode cX0_lay 124 = .ok (.ixor, 1) := by decide +kernel
theorem dX0_lay_125 : decode cX0_lay 125 = .ok (.iand, 1) := by decide +kernel
theorem dX0_lay_126 : decode cX0_lay 126 = .ok (.ifCond .ne 9, 3) := by decide +kernel
theorem dX0_lay_129 : decode cX0_lay 129 = .ok (.aload_n 0, 1) := by decide +kernel
theorem dX0_lay_130 : decode cX0_lay 130 = .ok (.aload_n 1, 1) := by decide +kernel
theorem dX0_lay_131 : decode cX0_lay 131 = .ok (.iload_n 2, 1) := by decide +kernel
theorem dX0_lay_132 : decode cX0_lay 132 = .ok (.invokevirtual 50, 3) := by decide +kernel
theorem dX0_lay_135 : decode cX0_lay 135 = .ok (.iinc 2 1, 3) := by decide +kernel
theorem dX0_lay_138 : decode cX0_lay 138 = .ok (.goto (-28), 3) := by decide +kernel
theorem dX0_lay_141 : decode cX0_lay 141 = .ok (.return_, 1) := by decide +kernel
theorem r_X0_lay_135 (E : kr_E) (k_110 : Int32 → kr_M → Option kr_M) (l1 : Nat) (h_l1 : kr_sh l1 = (2, 0)) (l2 : Int32) (hk_110 : ∀ (x2 : Int32) (M : kr_M), kR kr_vv E Y_X0_lay 5 110 [(0, kr_r E 330), (1, kr_r E l1), (2, .int x2)] [] M (k_110 x2 M)) (M : kr_M) : kR kr_vv E Y_X0_lay 5 135 [(0, kr_r E 330), (1, kr_r E l1), (2, .int l2)] [] M (f_X0_lay_135 k_110 l2 M) := by
  rw [f_X0_lay_135]
  refine kr_iinc (j := 2) (v := (l2 + (1 : Int32))) (lv' := [(2, .int (l2 + (1 : Int32))), (0, kr_r E 330), (1, kr_r E l1)]) dX0_lay_135 rfl rfl (by decide) rfl ?_
  refine kr_goto (tgt := 110) dX0_lay_138 (by decide) ?_
  refine kr_sub [1, 2, 0] rfl ?_
  exact hk_110 (l2 + (1 : Int32)) M
theorem r_X0_lay_110 (E : kr_E)  (l1 : Nat) (h_l1 : kr_sh l1 = (2, 0))  : ∀ (n : Nat) (l2 : Int32) (M : kr_M), kR kr_vv E Y_X0_lay 5 110 [(0, kr_r E 330), (1, kr_r E l1), (2, .int l2)] [] M (f_X0_lay_110 l1 n l2 M) := by
  intro n
  induction n with
  | zero => intro l2 M; exact kr_none
  | succ n ih =>
    intro l2 M
    rw [f_X0_lay_110]
    refine kr_iload_n dX0_lay_110 rfl 2 rfl ?_
    refine kr_aload_n dX0_lay_111 rfl 0 rfl ?_
    refine kr_getI (ci := 0) (j := 0) dX0_lay_112 kr_at_330 fl_RX0_21 rfl (fun v1 => ?_)
    refine kr_icmp_gt (tgt := 141) dX0_lay_115 (by decide) ?_ ?_
    · exact kr_vret dX0_lay_141 rfl
    · refine kr_iload_n dX0_lay_118 rfl 2 rfl ?_
      refine kr_aload_n dX0_lay_119 rfl 0 rfl ?_
      refine kr_getI (ci := 0) (j := 0) dX0_lay_120 kr_at_330 fl_RX0_21 rfl (fun v2 => ?_)
      refine kr_iconst (v := -1) dX0_lay_123 (by decide) ?_
      refine kr_ixor dX0_lay_124 ?_
      refine kr_iand dX0_lay_125 ?_
      refine kr_if_ne (tgt := 135) dX0_lay_126 (by decide) ?_ ?_
      · refine kr_sub [0, 1, 2] rfl ?_
        exact r_X0_lay_135 E _ l1 h_l1 l2 ih M
      · refine kr_aload_n dX0_lay_129 rfl 0 rfl ?_
        refine kr_aload_n dX0_lay_130 rfl 1 rfl ?_
        refine kr_iload_n dX0_lay_131 rfl 2 rfl ?_
        refine kr_Vv (As := [kr_r E l1, .int l2]) (st := []) zv_X0_studySet dX0_lay_132 ml_RX0_50 kr_at_330 (r_X0_studySet E l1 h_l1 l2 M) rfl rfl (Nat.le_of_ble_eq_true rfl) rfl (by decide) (Nat.le_of_ble_eq_true rfl) (fun M3 => ?_)
        refine kr_sub [0, 1, 2] rfl ?_
        exact r_X0_lay_135 E _ l1 h_l1 l2 ih M3
theorem r_X0_lay_108 (E : kr_E)  (l1 : Nat) (h_l1 : kr_sh l1 = (2, 0))  (M : kr_M) : kR kr_vv E Y_X0_lay 5 108 [(0, kr_r E 330), (1, kr_r E l1)] [] M (f_X0_lay_108 l1 M) := by
  rw [f_X0_lay_108]
  refine kr_iconst (v := 0) dX0_lay_108 (by decide) ?_
  refine kr_istore_n (lv' := [(2, .int (0 : Int32)), (0, kr_r E 330), (1, kr_r E l1)]) dX0_lay_109 rfl (by decide) rfl ?_
  refine kr_sub [1, 2, 0] rfl ?_
  exact r_X0_lay_110 E l1 h_l1 _ (0 : Int32) M
theorem r_X0_lay_102 (E : kr_E) (k_44 : Int32 → kr_M → Option kr_M) (l1 : Nat) (h_l1 : kr_sh l1 = (2, 0)) (l2 : Int32) (hk_44 : ∀ (x2 : Int32) (M : kr_M), kR kr_vv E Y_X0_lay 5 44 [(0, kr_r E 330), (1, kr_r E l1), (2, .int x2)] [] M (k_44 x2 M)) (M : kr_M) : kR kr_vv E Y_X0_lay 5 102 [(0, kr_r E 330), (1, kr_r E l1), (2, .int l2)] [] M (f_X0_lay_102 k_44 l2 M) := by
  rw [f_X0_lay_102]
  refine kr_iinc (j := 2) (v := (l2 + (1 : Int32))) (lv' := [(2, .int (l2 + (1 : Int32))), (0, kr_r E 330), (1, kr_r E l1)]) dX0_lay_102 rfl rfl (by decide) rfl ?_
  refine kr_goto (tgt := 44) dX0_lay_105 (by decide) ?_
  refine kr_sub [1, 2, 0] rfl ?_
  exact hk_44 (l2 + (1 : Int32)) M
theorem r_X0_lay_54 (E : kr_E) (k_44 : Int32 → kr_M → Option kr_M) (l1 : Nat) (h_l1 : kr_sh l1 = (2, 0)) (l2 : Int32) (hk_44 : ∀ (x2 : Int32) (M : kr_M), kR kr_vv E Y_X0_lay 5 44 [(0, kr_r E 330), (1, kr_r E l1), (2, .int x2)] [] M (k_44 x2 M)) : ∀ (n : Nat) (l3 : Int32) (M : kr_M), kR kr_vv E Y_X0_lay 5 54 [(0, kr_r E 330), (1, kr_r E l1), (2, .int l2), (3, .int l3)] [] M (f_X0_lay_54 k_44 l1 l2 n l3 M) := by
  intro n
  induction n with
  | zero => intro l3 M; exact kr_none
  | succ n ih =>
    intro l3 M
    rw [f_X0_lay_54]
    refine kr_iload_n dX0_lay_54 rfl 3 rfl ?_
    refine kr_aload_n dX0_lay_55 rfl 1 rfl ?_
    refine kr_getI (ci := 2) (j := 6) dX0_lay_56 h_l1 fl_RX0_25 rfl (fun v1 => ?_)
    refine kr_icmp_ge (tgt := 102) dX0_lay_59 (by decide) ?_ ?_
    · refine kr_sub [0, 1, 2] rfl ?_
      exact r_X0_lay_102 E _ l1 h_l1 l2 hk_44 M
    · refine kr_aload_n dX0_lay_62 rfl 0 rfl ?_
      refine kr_getA (o := 1) (ci := 0) (j := 1) dX0_lay_63 kr_at_330 fl_RX0_9 rfl ?_
      refine kr_iload_n dX0_lay_66 rfl 2 rfl ?_
      refine kr_bipush (v := 6) dX0_lay_67 (by decide) ?_
      refine kr_imul dX0_lay_69 ?_
      refine kr_iload_n dX0_lay_70 rfl 3 rfl ?_
      refine kr_iadd dX0_lay_71 ?_
      refine kr_aload_n dX0_lay_72 rfl 1 rfl ?_
      refine kr_getA (o := 5) (ci := 2) (j := 14) dX0_lay_73 h_l1 fl_RX0_34 rfl ?_
      refine kr_iload_n dX0_lay_76 rfl 2 rfl ?_
      refine kr_aaldR dX0_lay_77 h_l1 (fun h2 => ?_)
      refine kr_getA (o := 3) (ci := 5) (j := 5) dX0_lay_78 h2 fl_RX0_38 rfl ?_
      refine kr_aload_n dX0_lay_81 rfl 1 rfl ?_
      refine kr_getA (o := 5) (ci := 2) (j := 14) dX0_lay_82 h_l1 fl_RX0_34 rfl ?_
      refine kr_iload_n dX0_lay_85 rfl 3 rfl ?_
      refine kr_aaldR dX0_lay_86 h_l1 (fun h3 => ?_)
      refine kr_getA (o := 3) (ci := 5) (j := 5) dX0_lay_87 h3 fl_RX0_38 rfl ?_
      refine kr_bipush (v := 24) dX0_lay_90 (by decide) ?_
      refine kr_Vi (As := [kr_r E ((kr_rp l1 l3) + 3), .int (24 : Int32)]) (st := [.int ((l2 * (6 : Int32)) + l3), kr_r E 331]) zv_X7_overlapWith dX0_lay_92 ml_RX0_44 (kr_shR3 _ h2) (r_X7_overlapWith E ((kr_rp l1 l2) + 3) (kr_shR3 _ h2) ((kr_rp l1 l3) + 3) (kr_shR3 _ h3) (24 : Int32) M) rfl rfl (Nat.le_of_ble_eq_true rfl) rfl (by decide) (Nat.le_of_ble_eq_true rfl) (fun r5 M4 => ?_)
      refine kr_iast dX0_lay_95 kr_at_331 (fun M6 => ?_)
      refine kr_iinc (j := 3) (v := (l3 + (1 : Int32))) (lv' := [(3, .int (l3 + (1 : Int32))), (0, kr_r E 330), (1, kr_r E l1), (2, .int l2)]) dX0_lay_96 rfl rfl (by decide) rfl ?_
      refine kr_goto (tgt := 54) dX0_lay_99 (by decide) ?_
      refine kr_sub [1, 2, 3, 0] rfl ?_
      exact ih (l3 + (1 : Int32)) M6
theorem r_X0_lay_44 (E : kr_E)  (l1 : Nat) (h_l1 : kr_sh l1 = (2, 0))  : ∀ (n : Nat) (l2 : Int32) (M : kr_M), kR kr_vv E Y_X0_lay 5 44 [(0, kr_r E 330), (1, kr_r E l1), (2, .int l2)] [] M (f_X0_lay_44 l1 n l2 M) := by
  intro n
  induction n with
  | zero => intro l2 M; exact kr_none
  | succ n ih =>
    intro l2 M
    rw [f_X0_lay_44]
    refine kr_iload_n dX0_lay_44 rfl 2 rfl ?_
    refine kr_aload_n dX0_lay_45 rfl 1 rfl ?_
    refine kr_getI (ci := 2) (j := 6) dX0_lay_46 h_l1 fl_RX0_25 rfl (fun v1 => ?_)
    refine kr_icmp_ge (tgt := 108) dX0_lay_49 (by decide) ?_ ?_
    · refine kr_sub [0, 1] rfl ?_
      exact r_X0_lay_108 E l1 h_l1 M
    · refine kr_iconst (v := 0) dX0_lay_52 (by decide) ?_
      refine kr_istore_n (lv' := [(3, .int (0 : Int32)), (0, kr_r E 330), (1, kr_r E l1), (2, .int l2)]) dX0_lay_53 rfl (by decide) rfl ?_
      refine kr_sub [1, 2, 3, 0] rfl ?_
      exact r_X0_lay_54 E _ l1 h_l1 l2 ih _ (0 : Int32) M
theorem r_X0_lay_42 (E : kr_E)  (l1 : Nat) (h_l1 : kr_sh l1 = (2, 0))  (M : kr_M) : kR kr_vv E Y_X0_lay 5 42 [(0, kr_r E 330), (1, kr_r E l1)] [] M (f_X0_lay_42 l1 M) := by
  rw [f_X0_lay_42]
  refine kr_iconst (v := 0) dX0_lay_42 (by decide) ?_
  refine kr_istore_n (lv' := [(2, .int (0 : Int32)), (0, kr_r E 330), (1, kr_r E l1)]) dX0_lay_43 rfl (by decide) rfl ?_
  refine kr_sub [1, 2, 0] rfl ?_
  exact r_X0_lay_44 E l1 h_l1 _ (0 : Int32) M
theorem r_X0_lay_36 (E : kr_E) (k_7 : Int32 → kr_M → Option kr_M) (l1 : Nat) (h_l1 : kr_sh l1 = (2, 0)) (l2 : Int32) (hk_7 : ∀ (x2 : Int32) (M : kr_M), kR kr_vv E Y_X0_lay 5 7 [(0, kr_r E 330), (1, kr_r E l1), (2, .int x2)] [] M (k_7 x2 M)) (M : kr_M) : kR kr_vv E Y_X0_lay 5 36 [(0, kr_r E 330), (1, kr_r E l1), (2, .int l2)] [] M (f_X0_lay_36 k_7 l2 M) := by
  rw [f_X0_lay_36]
  refine kr_iinc (j := 2) (v := (l2 + (1 : Int32))) (lv' := [(2, .int (l2 + (1 : Int32))), (0, kr_r E 330), (1, kr_r E l1)]) dX0_lay_36 rfl rfl (by decide) rfl ?_
  refine kr_goto (tgt := 7) dX0_lay_39 (by decide) ?_
  refine kr_sub [1, 2, 0] rfl ?_
  exact hk_7 (l2 + (1 : Int32)) M
theorem r_X0_lay_7 (E : kr_E)  (l1 : Nat) (h_l1 : kr_sh l1 = (2, 0))  : ∀ (n : Nat) (l2 : Int32) (M : kr_M), kR kr_vv E Y_X0_lay 5 7 [(0, kr_r E 330), (1, kr_r E l1), (2, .int l2)] [] M (f_X0_lay_7 l1 n l2 M) := by
  intro n
  induction n with
  | zero => intro l2 M; exact kr_none
  | succ n ih =>
    intro l2 M
    rw [f_X0_lay_7]
    refine kr_iload_n dX0_lay_7 rfl 2 rfl ?_
    refine kr_aload_n dX0_lay_8 rfl 1 rfl ?_
    refine kr_getI (ci := 2) (j := 6) dX0_lay_9 h_l1 fl_RX0_25 rfl (fun v1 => ?_)
    refine kr_icmp_ge (tgt := 42) dX0_lay_12 (by decide) ?_ ?_
    · refine kr_sub [0, 1] rfl ?_
      exact r_X0_lay_42 E l1 h_l1 M
    · refine kr_aload_n dX0_lay_15 rfl 0 rfl ?_
      refine kr_aload_n dX0_lay_16 rfl 1 rfl ?_
      refine kr_iload_n dX0_lay_17 rfl 2 rfl ?_
      refine kr_Vi (As := [kr_r E l1, .int l2]) (st := []) zv_X0_isInAnother dX0_lay_18 ml_RX0_30 kr_at_330 (r_X0_isInAnother E l1 h_l1 l2 M) rfl rfl (Nat.le_of_ble_eq_true rfl) rfl (by decide) (Nat.le_of_ble_eq_true rfl) (fun r3 M2 => ?_)
      refine kr_if_ne (tgt := 36) dX0_lay_21 (by decide) ?_ ?_
      · refine kr_sub [0, 1, 2] rfl ?_
        exact r_X0_lay_36 E _ l1 h_l1 l2 ih M2
      · refine kr_aload_n dX0_lay_24 rfl 0 rfl ?_
        refine kr_dup dX0_lay_25 rfl ?_
        refine kr_getI (ci := 0) (j := 0) dX0_lay_26 kr_at_330 fl_RX0_21 rfl (fun v4 => ?_)
        refine kr_iconst (v := 1) dX0_lay_29 (by decide) ?_
        refine kr_iload_n dX0_lay_30 rfl 2 rfl ?_
        refine kr_ishl dX0_lay_31 ?_
        refine kr_ior dX0_lay_32 ?_
        refine kr_putI (ci := 0) (j := 0) dX0_lay_33 kr_at_330 fl_RX0_21 rfl rfl (fun M5 => ?_)
        refine kr_sub [0, 1, 2] rfl ?_
        exact r_X0_lay_36 E _ l1 h_l1 l2 ih M5
theorem r_X0_lay (E : kr_E) (p1 : Nat) (h_p1 : kr_sh p1 = (2, 0)) (M : kr_M) : kR kr_vv E Y_X0_lay 5 0 [(0, kr_r E 330), (1, kr_r E p1)] [] M (f_X0_lay p1 M) := by
  rw [f_X0_lay]
  refine kr_aload_n dX0_lay_0 rfl 0 rfl ?_
  refine kr_iconst (v := 0) dX0_lay_1 (by decide) ?_
  refine kr_putI (ci := 0) (j := 0) dX0_lay_2 kr_at_330 fl_RX0_21 rfl rfl (fun M1 => ?_)
  refine kr_iconst (v := 0) dX0_lay_5 (by decide) ?_
  refine kr_istore_n (lv' := [(2, .int (0 : Int32)), (0, kr_r E 330), (1, kr_r E p1)]) dX0_lay_6 rfl (by decide) rfl ?_
  refine kr_sub [1, 2, 0] rfl ?_
  exact r_X0_lay_7 E p1 h_p1 _ (0 : Int32) M1
theorem dX0_firstNext_0 : decode cX0_firstNext 0 = .ok (.iconst (-1), 1) := by decide +kernel
theorem dX0_firstNext_1 : decode cX0_firstNext 1 = .ok (.istore 4, 2) := by decide +kernel
theorem dX0_firstNext_3 : decode cX0_firstNext 3 = .ok (.iconst 0, 1) := by decide +kernel
theorem dX0_firstNext_4 : decode cX0_firstNext 4 = .ok (.istore 5, 2) := by decide +kernel
theorem dX0_firstNext_6 : decode cX0_firstNext 6 = .ok (.iload 5, 2) := by decide +kernel
theorem dX0_firstNext_8 : decode cX0_firstNext 8 = .ok (.aload_n 1, 1) := by decide +kernel
theorem dX0_firstNext_9 : decode cX0_firstNext 9 = .ok (.getfield 25, 3) := by decide +kernel
theorem dX0_firstNext_12 : decode cX0_firstNext 12 = .ok (.if_icmp .ge 52, 3) := by decide +kernel
theorem dX0_firstNext_15 : decode cX0_firstNext 15 = .ok (.iload_n 2, 1) := by decide +kernel
theorem dX0_firstNext_16 : decode cX0_firstNext 16 = .ok (.iload 5, 2) := by decide +kernel
theorem dX0_firstNext_18 : decode cX0_firstNext 18 = .ok (.ishr, 1) := by decide +kernel
theorem dX0_firstNext_19 : decode cX0_firstNext 19 = .ok (.iconst 1, 1) := by decide +kernel
theorem dX0_firstNext_20 : decode cX0_firstNext 20 = .ok (.iand, 1) := by decide +kernel
theorem dX0_firstNext_21 : decode cX0_firstNext 21 = .ok (.ifCond .ne 6, 3) := by decide +kernel
theorem dX0_firstNext_24 : decode cX0_firstNext 24 = .ok (.goto 34, 3) := by decide +kernel
theorem dX0_firstNext_27 : decode cX0_firstNext 27 = .ok (.iload 4, 2) := by decide +kernel
theorem dX0_firstNext_29 : decode cX0_firstNext 29 = .ok (.iconst (-1), 1) := by decide +kernel
theorem dX0_firstNext_30 : decode cX0_firstNext 30 = .ok (.if_icmp .eq 24, 3) := by decide +kernel
theorem dX0_firstNext_33 : decode cX0_firstNext 33 = .ok (.aload_n 0, 1) := by decide +kernel
theorem dX0_firstNext_34 : decode cX0_firstNext 34 = .ok (.aload_n 1, 1) := by decide +kernel
theorem dX0_firstNext_35 : decode cX0_firstNext 35 = .ok (.iload_n 2, 1) := by decide +kernel
theorem dX0_firstNext_36 : decode cX0_firstNext 36 = .ok (.iload_n 3, 1) := by decide +kernel
theorem dX0_firstNext_37 : decode cX0_firstNext 37 = .ok (.iload 5, 2) := by decide +kernel
theorem dX0_firstNext_39 : decode cX0_firstNext 39 = .ok (.invokevirtual 61, 3) := by decide +kernel
theorem dX0_firstNext_42 : decode cX0_firstNext 42 = .ok (.aload_n 0, 1) := by decide +kernel
theorem dX0_firstNext_43 : decode cX0_firstNext 43 = .ok (.aload_n 1, 1) := by decide +kernel
theorem dX0_firstNext_44 : decode cX0_firstNext 44 = .ok (.iload_n 2, 1) := by decide +kernel
theorem dX0_firstNext_45 : decode cX0_firstNext 45 = .ok (.iload_n 3, 1) := by decide +kernel
theorem dX0_firstNext_46 : decode cX0_firstNext 46 = .ok (.iload 4, 2) := by decide +kernel
theorem dX0_firstNext_48 : decode cX0_firstNext 48 = .ok (.invokevirtual 61, 3) := by decide +kernel
theorem dX0_firstNext_51 : decode cX0_firstNext 51 = .ok (.if_icmp .ge 7, 3) := by decide +kernel
theorem dX0_firstNext_54 : decode cX0_firstNext 54 = .ok (.iload 5, 2) := by decide +kernel
theorem dX0_firstNext_56 : decode cX0_firstNext 56 = .ok (.istore 4, 2) := by decide +kernel
theorem dX0_firstNext_58 : decode cX0_firstNext 58 = .ok (.iinc 5 1, 3) := by decide +kernel
theorem dX0_firstNext_61 : decode cX0_firstNext 61 = .ok (.goto (-55), 3) := by decide +kernel
theorem dX0_firstNext_64 : decode cX0_firstNext 64 = .ok (.iload 4, 2) := by decide +kernel
theorem dX0_firstNext_66 : decode cX0_firstNext 66 = .ok (.ireturn, 1) := by decide +kernel
theorem r_X0_firstNext_58 (E : kr_E) (k_6 : Int32 → Int32 → kr_M → Option (Int32 × kr_M)) (l1 : Nat) (h_l1 : kr_sh l1 = (2, 0)) (l2 : Int32) (l3 : Int32) (l4 : Int32) (l5 : Int32) (hk_6 : ∀ (x4 : Int32) (x5 : Int32) (M : kr_M), kR kr_vi E Y_X0_firstNext 2 6 [(0, kr_r E 330), (1, kr_r E l1), (2, .int l2), (3, .int l3), (4, .int x4), (5, .int x5)] [] M (k_6 x4 x5 M)) (M : kr_M) : kR kr_vi E Y_X0_firstNext 2 58 [(0, kr_r E 330), (1, kr_r E l1), (2, .int l2), (3, .int l3), (4, .int l4), (5, .int l5)] [] M (f_X0_firstNext_58 k_6 l4 l5 M) := by
  rw [f_X0_firstNext_58]
  refine kr_iinc (j := 5) (v := (l5 + (1 : Int32))) (lv' := [(5, .int (l5 + (1 : Int32))), (0, kr_r E 330), (1, kr_r E l1), (2, .int l2), (3, .int l3), (4, .int l4)]) dX0_firstNext_58 rfl rfl (by decide) rfl ?_
  refine kr_goto (tgt := 6) dX0_firstNext_61 (by decide) ?_
  refine kr_sub [1, 2, 3, 4, 5, 0] rfl ?_
  exact hk_6 l4 (l5 + (1 : Int32)) M
theorem r_X0_firstNext_54 (E : kr_E) (k_6 : Int32 → Int32 → kr_M → Option (Int32 × kr_M)) (l1 : Nat) (h_l1 : kr_sh l1 = (2, 0)) (l2 : Int32) (l3 : Int32) (l5 : Int32) (hk_6 : ∀ (x4 : Int32) (x5 : Int32) (M : kr_M), kR kr_vi E Y_X0_firstNext 2 6 [(0, kr_r E 330), (1, kr_r E l1), (2, .int l2), (3, .int l3), (4, .int x4), (5, .int x5)] [] M (k_6 x4 x5 M)) (M : kr_M) : kR kr_vi E Y_X0_firstNext 2 54 [(0, kr_r E 330), (1, kr_r E l1), (2, .int l2), (3, .int l3), (5, .int l5)] [] M (f_X0_firstNext_54 k_6 l5 M) := by
  rw [f_X0_firstNext_54]
  refine kr_iload dX0_firstNext_54 4 rfl ?_
  refine kr_istore (lv' := [(4, .int l5), (0, kr_r E 330), (1, kr_r E l1), (2, .int l2), (3, .int l3), (5, .int l5)]) dX0_firstNext_56 (by decide) rfl ?_
  refine kr_sub [1, 2, 3, 4, 0, 5] rfl ?_
  exact r_X0_firstNext_58 E _ l1 h_l1 l2 l3 l5 l5 hk_6 M
theorem r_X0_firstNext_6 (E : kr_E)  (l1 : Nat) (h_l1 : kr_sh l1 = (2, 0)) (l2 : Int32) (l3 : Int32)  : ∀ (n : Nat) (l4 : Int32) (l5 : Int32) (M : kr_M), kR kr_vi E Y_X0_firstNext 2 6 [(0, kr_r E 330), (1, kr_r E l1), (2, .int l2), (3, .int l3), (4, .int l4), (5, .int l5)] [] M (f_X0_firstNext_6 l1 l2 l3 n l4 l5 M) := by
  intro n
  induction n with
  | zero => intro l4 l5 M; exact kr_none
  | succ n ih =>
    intro l4 l5 M
    rw [f_X0_firstNext_6]
    refine kr_iload dX0_firstNext_6 5 rfl ?_
    refine kr_aload_n dX0_firstNext_8 rfl 1 rfl ?_
    refine kr_getI (ci := 2) (j := 6) dX0_firstNext_9 h_l1 fl_RX0_25 rfl (fun v1 => ?_)
    refine kr_icmp_ge (tgt := 64) dX0_firstNext_12 (by decide) ?_ ?_
    · refine kr_iload dX0_firstNext_64 4 rfl ?_
      exact kr_iret dX0_firstNext_66 rfl
    · refine kr_iload_n dX0_firstNext_15 rfl 2 rfl ?_
      refine kr_iload dX0_firstNext_16 5 rfl ?_
      refine kr_ishr dX0_firstNext_18 ?_
      refine kr_iconst (v := 1) dX0_firstNext_19 (by decide) ?_
      refine kr_iand dX0_firstNext_20 ?_
      refine kr_if_ne (tgt := 27) dX0_firstNext_21 (by decide) ?_ ?_
      · refine kr_iload dX0_firstNext_27 4 rfl ?_
        refine kr_iconst (v := -1) dX0_firstNext_29 (by decide) ?_
        refine kr_icmp_eq (tgt := 54) dX0_firstNext_30 (by decide) ?_ ?_
        · refine kr_sub [0, 1, 2, 3, 5] rfl ?_
          exact r_X0_firstNext_54 E _ l1 h_l1 l2 l3 l5 ih M
        · refine kr_aload_n dX0_firstNext_33 rfl 0 rfl ?_
          refine kr_aload_n dX0_firstNext_34 rfl 1 rfl ?_
          refine kr_iload_n dX0_firstNext_35 rfl 2 rfl ?_
          refine kr_iload_n dX0_firstNext_36 rfl 3 rfl ?_
          refine kr_iload dX0_firstNext_37 5 rfl ?_
          refine kr_Vi (As := [kr_r E l1, .int l2, .int l3, .int l5]) (st := []) zv_X0_knotsBy dX0_firstNext_39 ml_RX0_61 kr_at_330 (r_X0_knotsBy E l1 h_l1 l2 l3 l5 M) rfl rfl (Nat.le_of_ble_eq_true rfl) rfl (by decide) (Nat.le_of_ble_eq_true rfl) (fun r3 M2 => ?_)
          refine kr_aload_n dX0_firstNext_42 rfl 0 rfl ?_
          refine kr_aload_n dX0_firstNext_43 rfl 1 rfl ?_
          refine kr_iload_n dX0_firstNext_44 rfl 2 rfl ?_
          refine kr_iload_n dX0_firstNext_45 rfl 3 rfl ?_
          refine kr_iload dX0_firstNext_46 4 rfl ?_
          refine kr_Vi (As := [kr_r E l1, .int l2, .int l3, .int l4]) (st := [.int r3]) zv_X0_knotsBy dX0_firstNext_48 ml_RX0_61 kr_at_330 (r_X0_knotsBy E l1 h_l1 l2 l3 l4 M2) rfl rfl (Nat.le_of_ble_eq_true rfl) rfl (by decide) (Nat.le_of_ble_eq_true rfl) (fun r5 M4 => ?_)
          refine kr_icmp_ge (tgt := 58) dX0_firstNext_51 (by decide) ?_ ?_
          · refine kr_sub [0, 1, 2, 3, 4, 5] rfl ?_
            exact r_X0_firstNext_58 E _ l1 h_l1 l2 l3 l4 l5 ih M4
          · refine kr_sub [0, 1, 2, 3, 5] rfl ?_
            exact r_X0_firstNext_54 E _ l1 h_l1 l2 l3 l5 ih M4
      · refine kr_goto (tgt := 58) dX0_firstNext_24 (by decide) ?_
        refine kr_sub [0, 1, 2, 3, 4, 5] rfl ?_
        exact r_X0_firstNext_58 E _ l1 h_l1 l2 l3 l4 l5 ih M
theorem r_X0_firstNext (E : kr_E) (p1 : Nat) (h_p1 : kr_sh p1 = (2, 0)) (p2 : Int32) (p3 : Int32) (M : kr_M) : kR kr_vi E Y_X0_firstNext 2 0 [(0, kr_r E 330), (1, kr_r E p1), (2, .int p2), (3, .int p3)] [] M (f_X0_firstNext p1 p2 p3 M) := by
  rw [f_X0_firstNext]
  refine kr_iconst (v := -1) dX0_firstNext_0 (by decide) ?_
  refine kr_istore (lv' := [(4, .int (-1 : Int32)), (0, kr_r E 330), (1, kr_r E p1), (2, .int p2), (3, .int p3)]) dX0_firstNext_1 (by decide) rfl ?_
  refine kr_iconst (v := 0) dX0_firstNext_3 (by decide) ?_
  refine kr_istore (lv' := [(5, .int (0 : Int32)), (4, .int (-1 : Int32)), (0, kr_r E 330), (1, kr_r E p1), (2, .int p2), (3, .int p3)]) dX0_firstNext_4 (by decide) rfl ?_
  refine kr_sub [2, 3, 4, 5, 1, 0] rfl ?_
  exact r_X0_firstNext_6 E p1 h_p1 p2 p3 _ (-1 : Int32) (0 : Int32) M
theorem dX0_fewestToCome_0 : decode cX0_fewestToCome 0 = .ok (.aload_n 0, 1) := by decide +kernel
theorem dX0_fewestToCome_1 : decode cX0_fewestToCome 1 = .ok (.aload_n 1, 1) := by decide +kernel
theorem dX0_fewestToCome_2 : decode cX0_fewestToCome 2 = .ok (.iload_n 2, 1) := by decide +kernel
theorem dX0_fewestToCome_3 : decode cX0_fewestToCome 3 = .ok (.iload_n 3, 1) := by decide +kernel
theorem dX0_fewestToCome_4 : decode cX0_fewestToCome 4 = .ok (.invokevirtual 69, 3) := by decide +kernel
theorem dX0_fewestToCome_7 : decode cX0_fewestToCome 7 = .ok (.istore 4, 2) := by decide +kernel
theorem dX0_fewestToCome_9 : decode cX0_fewestToCome 9 = .ok (.iload 4, 2) := by decide +kernel
theorem dX0_fewestToCome_11 : decode cX0_fewestToCome 11 = .ok (.iconst (-1), 1) := by decide +kernel
theorem dX0_fewestToCome_12 : decode cX0_fewestToCome 12 = .ok (.if_icmp .ne 7, 3) := by decide +kernel
theorem dX0_fewestToCome_15 : decode cX0_fewestToCome 15 = .ok (.iconst 0, 1) := by decide +kernel
theorem dX0_fewestToCome_16 : decode cX0_fewestToCome 16 = .ok (.goto 12, 3) := by decide +kernel
theorem dX0_fewestToCome_19 : decode cX0_fewestToCome 19 = .ok (.aload_n 0, 1) := by decide +kernel
theorem dX0_fewestToCome_20 : decode cX0_fewestToCome 20 = .ok (.aload_n 1, 1) := by decide +kernel
theorem dX0_fewestToCome_21 : decode cX0_fewestToCome 21 = .ok (.iload_n 2, 1) := by decide +kernel
theorem dX0_fewestToCome_22 : decode cX0_fewestToCome 22 = .ok (.iload_n 3, 1) := by decide +kernel
theorem dX0_fewestToCome_23 : decode cX0_fewestToCome 23 = .ok (.iload 4, 2) := by decide +kernel
theorem dX0_fewestToCome_25 : decode cX0_fewestToCome 25 = .ok (.invokevirtual 61, 3) := by decide +kernel
theorem dX0_fewestToCome_28 : decode cX0_fewestToCome 28 = .ok (.ireturn, 1) := by decide +kernel
theorem r_X0_fewestToCome (E : kr_E) (p1 : Nat) (h_p1 : kr_sh p1 = (2, 0)) (p2 : Int32) (p3 : Int32) (M : kr_M) : kR kr_vi E Y_X0_fewestToCome 3 0 [(0, kr_r E 330), (1, kr_r E p1), (2, .int p2), (3, .int p3)] [] M (f_X0_fewestToCome p1 p2 p3 M) := by
  rw [f_X0_fewestToCome]
  refine kr_aload_n dX0_fewestToCome_0 rfl 0 rfl ?_
  refine kr_aload_n dX0_fewestToCome_1 rfl 1 rfl ?_
  refine kr_iload_n dX0_fewestToCome_2 rfl 2 rfl ?_
  refine kr_iload_n dX0_fewestToCome_3 rfl 3 rfl ?_
  refine kr_Vi (As := [kr_r E p1, .int p2, .int p3]) (st := []) zv_X0_firstNext dX0_fewestToCome_4 ml_RX0_69 kr_at_330 (r_X0_firstNext E p1 h_p1 p2 p3 M) rfl rfl (Nat.le_of_ble_eq_true rfl) rfl (by decide) (Nat.le_of_ble_eq_true rfl) (fun r2 M1 => ?_)
  refine kr_istore (lv' := [(4, .int r2), (0, kr_r E 330), (1, kr_r E p1), (2, .int p2), (3, .int p3)]) dX0_fewestToCome_7 (by decide) rfl ?_
  refine kr_iload dX0_fewestToCome_9 0 rfl ?_
  refine kr_iconst (v := -1) dX0_fewestToCome_11 (by decide) ?_
  refine kr_icmp_ne (tgt := 19) dX0_fewestToCome_12 (by decide) ?_ ?_
  · refine kr_aload_n dX0_fewestToCome_19 rfl 1 rfl ?_
    refine kr_aload_n dX0_fewestToCome_20 rfl 2 rfl ?_
    refine kr_iload_n dX0_fewestToCome_21 rfl 3 rfl ?_
    refine kr_iload_n dX0_fewestToCome_22 rfl 4 rfl ?_
    refine kr_iload dX0_fewestToCome_23 0 rfl ?_
    refine kr_Vi (As := [kr_r E p1, .int p2, .int p3, .int r2]) (st := []) zv_X0_knotsBy dX0_fewestToCome_25 ml_RX0_61 kr_at_330 (r_X0_knotsBy E p1 h_p1 p2 p3 r2 M1) rfl rfl (Nat.le_of_ble_eq_true rfl) rfl (by decide) (Nat.le_of_ble_eq_true rfl) (fun r4 M3 => ?_)
    exact kr_iret dX0_fewestToCome_28 rfl
  · refine kr_iconst (v := 0) dX0_fewestToCome_15 (by decide) ?_
    refine kr_goto (tgt := 28) dX0_fewestToCome_16 (by decide) ?_
    exact kr_iret dX0_fewestToCome_28 rfl
theorem dX0_shortestLaid_0 : decode cX0_shortestLaid 0 = .ok (.aload_n 0, 1) := by decide +kernel
theorem dX0_shortestLaid_1 : decode cX0_shortestLaid 1 = .ok (.aload_n 1, 1) := by decide +kernel
theorem dX0_shortestLaid_2 : decode cX0_shortestLaid 2 = .ok (.aload_n 0, 1) := by decide +kernel
theorem dX0_shortestLaid_3 : decode cX0_shortestLaid 3 = .ok (.getfield 21, 3) := by decide +kernel
theorem dX0_shortestLaid_6 : decode cX0_shortestLaid 6 = .ok (.iconst (-1), 1) := by decide +kernel
theorem dX0_shortestLaid_7 : decode cX0_shortestLaid 7 = .ok (.invokevirtual 73, 3) := by decide +kernel
theorem dX0_shortestLaid_10 : decode cX0_shortestLaid 10 = .ok (.ireturn, 1) := by decide +kernel
theorem r_X0_shortestLaid (E : kr_E) (p1 : Nat) (h_p1 : kr_sh p1 = (2, 0)) (M : kr_M) : kR kr_vi E Y_X0_shortestLaid 4 0 [(0, kr_r E 330), (1, kr_r E p1)] [] M (f_X0_shortestLaid p1 M) := by
  rw [f_X0_shortestLaid]
  refine kr_aload_n dX0_shortestLaid_0 rfl 0 rfl ?_
  refine kr_aload_n dX0_shortestLaid_1 rfl 1 rfl ?_
  refine kr_aload_n dX0_shortestLaid_2 rfl 0 rfl ?_
  refine kr_getI (ci := 0) (j := 0) dX0_shortestLaid_3 kr_at_330 fl_RX0_21 rfl (fun v1 => ?_)
  refine kr_iconst (v := -1) dX0_shortestLaid_6 (by decide) ?_
  refine kr_Vi (As := [kr_r E p1, .int v1, .int (-1 : Int32)]) (st := []) zv_X0_fewestToCome dX0_shortestLaid_7 ml_RX0_73 kr_at_330 (r_X0_fewestToCome E p1 h_p1 v1 (-1 : Int32) M) rfl rfl (Nat.le_of_ble_eq_true rfl) rfl (by decide) (Nat.le_of_ble_eq_true rfl) (fun r3 M2 => ?_)
  exact kr_iret dX0_shortestLaid_10 rfl
theorem dX0_ropeOfFirst_0 : decode cX0_ropeOfFirst 0 = .ok (.aload_n 0, 1) := by decide +kernel
theorem dX0_ropeOfFirst_1 : decode cX0_ropeOfFirst 1 = .ok (.getfield 21, 3) := by decide +kernel
theorem dX0_ropeOfFirst_4 : decode cX0_ropeOfFirst 4 = .ok (.istore_n 3, 1) := by decide +kernel
theorem dX0_ropeOfFirst_5 : decode cX0_ropeOfFirst 5 = .ok (.iconst (-1), 1) := by decide +kernel
theorem dX0_ropeOfFirst_6 : decode cX0_ropeOfFirst 6 = .ok (.istore 4, 2) := by decide +kernel
theorem dX0_ropeOfFirst_8 : decode cX0_ropeOfFirst 8 = .ok (.iconst 0, 1) := by decide +kernel
theorem dX0_ropeOfFirst_9 : decode cX0_ropeOfFirst 9 = .ok (.istore 5, 2) := by decide +kernel
theorem dX0_ropeOfFirst_11 : decode cX0_ropeOfFirst 11 = .ok (.iload 5, 2) := by decide +kernel
theorem dX0_ropeOfFirst_13 : decode cX0_ropeOfFirst 13 = .ok (.bipush 6, 2) := by decide +kernel
theorem dX0_ropeOfFirst_15 : decode cX0_ropeOfFirst 15 = .ok (.if_icmp .ge 47, 3) := by decide +kernel
theorem dX0_ropeOfFirst_18 : decode cX0_ropeOfFirst 18 = .ok (.iload_n 3, 1) := by decide +kernel
theorem dX0_ropeOfFirst_19 : decode cX0_ropeOfFirst 19 = .ok (.ifCond .eq 43, 3) := by decide +kernel
theorem dX0_ropeOfFirst_22 : decode cX0_ropeOfFirst 22 = .ok (.aload_n 0, 1) := by decide +kernel
theorem dX0_ropeOfFirst_23 : decode cX0_ropeOfFirst 23 = .ok (.aload_n 1, 1) := by decide +kernel
theorem dX0_ropeOfFirst_24 : decode cX0_ropeOfFirst 24 = .ok (.iload_n 3, 1) := by decide +kernel
theorem dX0_ropeOfFirst_25 : decode cX0_ropeOfFirst 25 = .ok (.iload 4, 2) := by decide +kernel
theorem dX0_ropeOfFirst_27 : decode cX0_ropeOfFirst 27 = .ok (.invokevirtual 69, 3) := by decide +kernel
theorem dX0_ropeOfFirst_30 : decode cX0_ropeOfFirst 30 = .ok (.istore 4, 2) := by decide +kernel
theorem dX0_ropeOfFirst_32 : decode cX0_ropeOfFirst 32 = .ok (.iload 4, 2) := by decide +kernel
theorem dX0_ropeOfFirst_34 : decode cX0_ropeOfFirst 34 = .ok (.iconst (-1), 1) := by decide +kernel
theorem dX0_ropeOfFirst_35 : decode cX0_ropeOfFirst 35 = .ok (.if_icmp .eq 9, 3) := by decide +kernel
theorem dX0_ropeOfFirst_38 : decode cX0_ropeOfFirst 38 = .ok (.iload 5, 2) := by decide +kernel
theorem dX0_ropeOfFirst_40 : decode cX0_ropeOfFirst 40 = .ok (.iload_n 2, 1) := by decide +kernel
theorem dX0_ropeOfFirst_41 : decode cX0_ropeOfFirst 41 = .ok (.if_icmp .ne 6, 3) := by decide +kernel
theorem dX0_ropeOfFirst_44 : decode cX0_ropeOfFirst 44 = .ok (.iload 4, 2) := by decide +kernel
theorem dX0_ropeOfFirst_46 : decode cX0_ropeOfFirst 46 = .ok (.ireturn, 1) := by decide +kernel
theorem dX0_ropeOfFirst_47 : decode cX0_ropeOfFirst 47 = .ok (.iload_n 3, 1) := by decide +kernel
theorem dX0_ropeOfFirst_48 : decode cX0_ropeOfFirst 48 = .ok (.iconst 1, 1) := by decide +kernel
theorem dX0_ropeOfFirst_49 : decode cX0_ropeOfFirst 49 = .ok (.iload 4, 2) := by decide +kernel
theorem dX0_ropeOfFirst_51 : decode cX0_ropeOfFirst 51 = .ok (.ishl, 1) := by decide +kernel
theorem dX0_ropeOfFirst_52 : decode cX0_ropeOfFirst 52 = .ok (.iconst (-1), 1) := by decide +kernel
theorem dX0_ropeOfFirst_53 : decode cX0_ropeOfFirst 53 = .ok (.ixor, 1) := by decide +kernel
theorem dX0_ropeOfFirst_54 : decode cX0_ropeOfFirst 54 = .ok (.iand, 1) := by decide +kernel
theorem dX0_ropeOfFirst_55 : decode cX0_ropeOfFirst 55 = .ok (.istore_n 3, 1) := by decide +kernel
theorem dX0_ropeOfFirst_56 : decode cX0_ropeOfFirst 56 = .ok (.iinc 5 1, 3) := by decide +kernel
theorem dX0_ropeOfFirst_59 : decode cX0_ropeOfFirst 59 = .ok (.goto (-48), 3) := by decide +kernel
theorem dX0_ropeOfFirst_62 : decode cX0_ropeOfFirst 62 = .ok (.iconst (-1), 1) := by decide +kernel
theorem dX0_ropeOfFirst_63 : decode cX0_ropeOfFirst 63 = .ok (.ireturn, 1) := by decide +kernel
theorem r_X0_ropeOfFirst_11 (E : kr_E)  (l1 : Nat) (h_l1 : kr_sh l1 = (2, 0)) (l2 : Int32)  : ∀ (n : Nat) (l3 : Int32) (l4 : Int32) (l5 : Int32) (M : kr_M), kR kr_vi E Y_X0_ropeOfFirst 3 11 [(0, kr_r E 330), (1, kr_r E l1), (2, .int l2), (3, .int l3), (4, .int l4), (5, .int l5)] [] M (f_X0_ropeOfFirst_11 l1 l2 n l3 l4 l5 M) := by
  intro n
  induction n with
  | zero => intro l3 l4 l5 M; exact kr_none
  | succ n ih =>
    intro l3 l4 l5 M
    rw [f_X0_ropeOfFirst_11]
    refine kr_iload dX0_ropeOfFirst_11 5 rfl ?_
    refine kr_bipush (v := 6) dX0_ropeOfFirst_13 (by decide) ?_
    refine kr_icmp_ge (tgt := 62) dX0_ropeOfFirst_15 (by decide) ?_ ?_
    · refine kr_iconst (v := -1) dX0_ropeOfFirst_62 (by decide) ?_
      exact kr_iret dX0_ropeOfFirst_63 rfl
    · refine kr_iload_n dX0_ropeOfFirst_18 rfl 3 rfl ?_
      refine kr_if_eq (tgt := 62) dX0_ropeOfFirst_19 (by decide) ?_ ?_
      · refine kr_iconst (v := -1) dX0_ropeOfFirst_62 (by decide) ?_
        exact kr_iret dX0_ropeOfFirst_63 rfl
      · refine kr_aload_n dX0_ropeOfFirst_22 rfl 0 rfl ?_
        refine kr_aload_n dX0_ropeOfFirst_23 rfl 1 rfl ?_
        refine kr_iload_n dX0_ropeOfFirst_24 rfl 3 rfl ?_
        refine kr_iload dX0_ropeOfFirst_25 4 rfl ?_
        refine kr_Vi (As := [kr_r E l1, .int l3, .int l4]) (st := []) zv_X0_firstNext dX0_ropeOfFirst_27 ml_RX0_69 kr_at_330 (r_X0_firstNext E l1 h_l1 l3 l4 M) rfl rfl (Nat.le_of_ble_eq_true rfl) rfl (by decide) (Nat.le_of_ble_eq_true rfl) (fun r2 M1 => ?_)
        refine kr_istore (lv' := [(4, .int r2), (0, kr_r E 330), (1, kr_r E l1), (2, .int l2), (3, .int l3), (5, .int l5)]) dX0_ropeOfFirst_30 (by decide) rfl ?_
        refine kr_iload dX0_ropeOfFirst_32 0 rfl ?_
        refine kr_iconst (v := -1) dX0_ropeOfFirst_34 (by decide) ?_
        refine kr_icmp_eq (tgt := 44) dX0_ropeOfFirst_35 (by decide) ?_ ?_
        · refine kr_iload dX0_ropeOfFirst_44 0 rfl ?_
          exact kr_iret dX0_ropeOfFirst_46 rfl
        · refine kr_iload dX0_ropeOfFirst_38 5 rfl ?_
          refine kr_iload_n dX0_ropeOfFirst_40 rfl 3 rfl ?_
          refine kr_icmp_ne (tgt := 47) dX0_ropeOfFirst_41 (by decide) ?_ ?_
          · refine kr_iload_n dX0_ropeOfFirst_47 rfl 4 rfl ?_
            refine kr_iconst (v := 1) dX0_ropeOfFirst_48 (by decide) ?_
            refine kr_iload dX0_ropeOfFirst_49 0 rfl ?_
            refine kr_ishl dX0_ropeOfFirst_51 ?_
            refine kr_iconst (v := -1) dX0_ropeOfFirst_52 (by decide) ?_
            refine kr_ixor dX0_ropeOfFirst_53 ?_
            refine kr_iand dX0_ropeOfFirst_54 ?_
            refine kr_nmi (fun v3 => ?_)
            refine kr_istore_n (lv' := [(3, .int v3), (4, .int r2), (0, kr_r E 330), (1, kr_r E l1), (2, .int l2), (5, .int l5)]) dX0_ropeOfFirst_55 rfl (by decide) rfl ?_
            refine kr_iinc (j := 5) (v := (l5 + (1 : Int32))) (lv' := [(5, .int (l5 + (1 : Int32))), (3, .int v3), (4, .int r2), (0, kr_r E 330), (1, kr_r E l1), (2, .int l2)]) dX0_ropeOfFirst_56 rfl rfl (by decide) rfl ?_
            refine kr_goto (tgt := 11) dX0_ropeOfFirst_59 (by decide) ?_
            refine kr_sub [3, 4, 5, 1, 2, 0] rfl ?_
            exact ih v3 r2 (l5 + (1 : Int32)) M1
          · refine kr_iload dX0_ropeOfFirst_44 0 rfl ?_
            exact kr_iret dX0_ropeOfFirst_46 rfl
theorem r_X0_ropeOfFirst (E : kr_E) (p1 : Nat) (h_p1 : kr_sh p1 = (2, 0)) (p2 : Int32) (M : kr_M) : kR kr_vi E Y_X0_ropeOfFirst 3 0 [(0, kr_r E 330), (1, kr_r E p1), (2, .int p2)] [] M (f_X0_ropeOfFirst p1 p2 M) := by
  rw [f_X0_ropeOfFirst]
  refine kr_aload_n dX0_ropeOfFirst_0 rfl 0 rfl ?_
  refine kr_getI (ci := 0) (j := 0) dX0_ropeOfFirst_1 kr_at_330 fl_RX0_21 rfl (fun v1 => ?_)
  refine kr_istore_n (lv' := [(3, .int v1), (0, kr_r E 330), (1, kr_r E p1), (2, .int p2)]) dX0_ropeOfFirst_4 rfl (by decide) rfl ?_
  refine kr_iconst (v := -1) dX0_ropeOfFirst_5 (by decide) ?_
  refine kr_istore (lv' := [(4, .int (-1 : Int32)), (3, .int v1), (0, kr_r E 330), (1, kr_r E p1), (2, .int p2)]) dX0_ropeOfFirst_6 (by decide) rfl ?_
  refine kr_iconst (v := 0) dX0_ropeOfFirst_8 (by decide) ?_
  refine kr_istore (lv' := [(5, .int (0 : Int32)), (4, .int (-1 : Int32)), (3, .int v1), (0, kr_r E 330), (1, kr_r E p1), (2, .int p2)]) dX0_ropeOfFirst_9 (by decide) rfl ?_
  refine kr_sub [3, 4, 5, 2, 1, 0] rfl ?_
  exact r_X0_ropeOfFirst_11 E p1 h_p1 p2 _ v1 (-1 : Int32) (0 : Int32) M
theorem dX0_fewestErrors_0 : decode cX0_fewestErrors 0 = .ok (.iconst 0, 1) := by decide +kernel
theorem dX0_fewestErrors_1 : decode cX0_fewestErrors 1 = .ok (.istore_n 3, 1) := by decide +kernel
theorem dX0_fewestErrors_2 : decode cX0_fewestErrors 2 = .ok (.iload_n 3, 1) := by decide +kernel
theorem dX0_fewestErrors_3 : decode cX0_fewestErrors 3 = .ok (.aload_n 2, 1) := by decide +kernel
theorem dX0_fewestErrors_4 : decode cX0_fewestErrors 4 = .ok (.getfield 54, 3) := by decide +kernel
theorem dX0_fewestErrors_7 : decode cX0_fewestErrors 7 = .ok (.if_icmp .gt 16, 3) := by decide +kernel
theorem dX0_fewestErrors_10 : decode cX0_fewestErrors 10 = .ok (.aload_n 0, 1) := by decide +kernel
theorem dX0_fewestErrors_11 : decode cX0_fewestErrors 11 = .ok (.getfield 18, 3) := by decide +kernel
theorem dX0_fewestErrors_14 : decode cX0_fewestErrors 14 = .ok (.iload_n 3, 1) := by decide +kernel
theorem dX0_fewestErrors_15 : decode cX0_fewestErrors 15 = .ok (.iload_n 3, 1) := by decide +kernel
theorem dX0_fewestErrors_16 : decode cX0_fewestErrors 16 = .ok (.iastore, 1) := by decide +kernel
theorem dX0_fewestErrors_17 : decode cX0_fewestErrors 17 = .ok (.iinc 3 1, 3) := by decide +kernel
theorem dX0_fewestErrors_20 : decode cX0_fewestErrors 20 = .ok (.goto (-18), 3) := by decide +kernel
theorem dX0_fewestErrors_23 : decode cX0_fewestErrors 23 = .ok (.iconst 1, 1) := by decide +kernel
theorem dX0_fewestErrors_24 : decode cX0_fewestErrors 24 = .ok (.istore_n 3, 1) := by decide +kernel
theorem dX0_fewestErrors_25 : decode cX0_fewestErrors 25 = .ok (.iload_n 3, 1) := by decide +kernel
theorem dX0_fewestErrors_26 : decode cX0_fewestErrors 26 = .ok (.aload_n 1, 1) := by decide +kernel
theorem dX0_fewestErrors_27 : decode cX0_fewestErrors 27 = .ok (.getfield 54, 3) := by decide +kernel
theorem dX0_fewestErrors_30 : decode cX0_fewestErrors 30 = .ok (.if_icmp .gt 115, 3) := by decide +kernel
theorem dX0_fewestErrors_33 : decode cX0_fewestErrors 33 = .ok (.aload_n 0, 1) := by decide +kernel
theorem dX0_fewestErrors_34 : decode cX0_fewestErrors 34 = .ok (.getfield 18, 3) := by decide +kernel
theorem dX0_fewestErrors_37 : decode cX0_fewestErrors 37 = .ok (.iconst 0, 1) := by decide +kernel
theorem dX0_fewestErrors_38 : decode cX0_fewestErrors 38 = .ok (.iaload, 1) := by decide +kernel
theorem dX0_fewestErrors_39 : decode cX0_fewestErrors 39 = .ok (.istore 4, 2) := by decide +kernel
theorem dX0_fewestErrors_41 : decode cX0_fewestErrors 41 = .ok (.aload_n 0, 1) := by decide +kernel
theorem dX0_fewestErrors_42 : decode cX0_fewestErrors 42 = .ok (.getfield 18, 3) := by decide +kernel
theorem dX0_fewestErrors_45 : decode cX0_fewestErrors 45 = .ok (.iconst 0, 1) := by decide +kernel
theorem dX0_fewestErrors_46 : decode cX0_fewestErrors 46 = .ok (.iload_n 3, 1) := by decide +kernel
theorem dX0_fewestErrors_47 : decode cX0_fewestErrors 47 = .ok (.iastore, 1) := by decide +kernel
theorem dX0_fewestErrors_48 : decode cX0_fewestErrors 48 = .ok (.iconst 1, 1) := by decide +kernel
theorem dX0_fewestErrors_49 : decode cX0_fewestErrors 49 = .ok (.istore 5, 2) := by decide +kernel
theorem dX0_fewestErrors_51 : decode cX0_fewestErrors 51 = .ok (.iload 5, 2) := by decide +kernel
theorem dX0_fewestErrors_53 : decode cX0_fewestErrors 53 = .ok (.aload_n 2, 1) := by decide +kernel
theorem dX0_fewestErrors_54 : decode cX0_fewestErrors 54 = .ok (.getfield 54, 3) := by decide +kernel
theorem dX0_fewestErrors_57 : decode cX0_fewestErrors 57 = .ok (.if_icmp .gt 82, 3) := by decide +kernel
theorem dX0_fewestErrors_60 : decode cX0_fewestErrors 60 = .ok (.aload_n 1, 1) := by decide +kernel
theorem dX0_fewestErrors_61 : decode cX0_fewestErrors 61 = .ok (.getfield 76, 3) := by decide +kernel
theorem dX0_fewestErrors_64 : decode cX0_fewestErrors 64 = .ok (.iload_n 3, 1) := by decide +kernel
theorem dX0_fewestErrors_65 : decode cX0_fewestErrors 65 = .ok (.iconst 1, 1) := by decide +kernel
theorem dX0_fewestErrors_66 : decode cX0_fewestErrors 66 = .ok (.isub, 1) := by decide +kernel
theorem dX0_fewestErrors_67 : decode cX0_fewestErrors 67 = .ok (.iaload, 1) := by decide +kernel
theorem dX0_fewestErrors_68 : decode cX0_fewestErrors 68 = .ok (.aload_n 2, 1) := by decide +kernel
theorem dX0_fewestErrors_69 : decode cX0_fewestErrors 69 = .ok (.getfield 76, 3) := by decide +kernel
theorem dX0_fewestErrors_72 : decode cX0_fewestErrors 72 = .ok (.iload 5, 2) := by decide +kernel
theorem dX0_fewestErrors_74 : decode cX0_fewestErrors 74 = .ok (.iconst 1, 1) := by decide +kernel
theorem dX0_fewestErrors_75 : decode cX0_fewestErrors 75 = .ok (.isub, 1) := by decide +kernel
theorem dX0_fewestErrors_76 : decode cX0_fewestErrors 76 = .ok (.iaload, 1) := by decide +kernel
theorem dX0_fewestErrors_77 : decode cX0_fewestErrors 77 = .ok (.if_icmp .ne 8, 3) := by decide +kernel
theorem dX0_fewestErrors_80 : decode cX0_fewestErrors 80 = .ok (.iload 4, 2) := by decide +kernel
theorem dX0_fewestErrors_82 : decode cX0_fewestErrors 82 = .ok (.goto 7, 3) := by decide +kernel
theorem dX0_fewestErrors_85 : decode cX0_fewestErrors 85 = .ok (.iload 4, 2) := by decide +kernel
theorem dX0_fewestErrors_87 : decode cX0_fewestErrors 87 = .ok (.iconst 1, 1) := by decide +kernel
theorem dX0_fewestErrors_88 : decode cX0_fewestErrors 88 = .ok (.iadd, 1) := by decide +kernel
theorem dX0_fewestErrors_89 : decode cX0_fewestErrors 89 = .ok (.istore 6, 2) := by decide +kernel
theorem dX0_fewestErrors_91 : decode cX0_fewestErrors 91 = .ok (.aload_n 0, 1) := by decide +kernel
theorem dX0_fewestErrors_92 : decode cX0_fewestErrors 92 = .ok (.getfield 18, 3) := by decide +kernel
theorem dX0_fewestErrors_95 : decode cX0_fewestErrors 95 = .ok (.iload 5, 2) := by decide +kernel
theorem dX0_fewestErrors_97 : decode cX0_fewestErrors 97 = .ok (.iaload, 1) := by decide +kernel
theorem dX0_fewestErrors_98 : decode cX0_fewestErrors 98 = .ok (.istore 4, 2) := by decide +kernel
theorem dX0_fewestErrors_100 : decode cX0_fewestErrors 100 = .ok (.aload_n 0, 1) := by decide +kernel
theorem dX0_fewestErrors_101 : decode cX0_fewestErrors 101 = .ok (.getfield 18, 3) := by decide +kernel
theorem dX0_fewestErrors_104 : decode cX0_fewestErrors 104 = .ok (.iload 5, 2) := by decide +kernel
theorem dX0_fewestErrors_106 : decode cX0_fewestErrors 106 = .ok (.iload 6, 2) := by decide +kernel
theorem dX0_fewestErrors_108 : decode cX0_fewestErrors 108 = .ok (.aload_n 0, 1) := by decide +kernel
theorem dX0_fewestErrors_109 : decode cX0_fewestErrors 109 = .ok (.getfield 18, 3) := by decide +kernel
theorem dX0_fewestErrors_112 : decode cX0_fewestErrors 112 = .ok (.iload 5, 2) := by decide +kernel
theorem dX0_fewestErrors_114 : decode cX0_fewestErrors 114 = .ok (.iaload, 1) := by decide +kernel
theorem dX0_fewestErrors_115 : decode cX0_fewestErrors 115 = .ok (.aload_n 0, 1) := by decide +kernel
theorem dX0_fewestErrors_116 : decode cX0_fewestErrors 116 = .ok (.getfield 18, 3) := by decide +kernel
theorem dX0_fewestErrors_119 : decode cX0_fewestErrors 119 = .ok (.iload 5, 2) := by decide +kernel
theorem dX0_fewestErrors_121 : decode cX0_fewestErrors 121 = .ok (.iconst 1, 1) := by decide +kernel
theorem dX0_fewestErrors_122 : decode cX0_fewestErrors 122 = .ok (.isub, 1) := by decide +kernel
theorem dX0_fewestErrors_123 : decode cX0_fewestErrors 123 = .ok (.iaload, 1) := by decide +kernel
theorem dX0_fewestErrors_124 : decode cX0_fewestErrors 124 = .ok (.invokestatic 79, 3) := by decide +kernel
theorem dX0_fewestErrors_127 : decode cX0_fewestErrors 127 = .ok (.iconst 1, 1) := by decide +kernel
theorem dX0_fewestErrors_128 : decode cX0_fewestErrors 128 = .ok (.iadd, 1) := by decide +kernel
theorem dX0_fewestErrors_129 : decode cX0_fewestErrors 129 = .ok (.invokestatic 79, 3) := by decide +kernel
theorem dX0_fewestErrors_132 : decode cX0_fewestErrors 132 = .ok (.iastore, 1) := by decide +kernel
theorem dX0_fewestErrors_133 : decode cX0_fewestErrors 133 = .ok (.iinc 5 1, 3) := by decide +kernel
theorem dX0_fewestErrors_136 : decode cX0_fewestErrors 136 = .ok (.goto (-85), 3) := by decide +kernel
theorem dX0_fewestErrors_139 : decode cX0_fewestErrors 139 = .ok (.iinc 3 1, 3) := by decide +kernel
theorem dX0_fewestErrors_142 : decode cX0_fewestErrors 142 = .ok (.goto (-117), 3) := by decide +kernel
theorem dX0_fewestErrors_145 : decode cX0_fewestErrors 145 = .ok (.aload_n 0, 1) := by decide +kernel
theorem dX0_fewestErrors_146 : decode cX0_fewestErrors 146 = .ok (.getfield 18, 3) := by decide +kernel
theorem dX0_fewestErrors_149 : decode cX0_fewestErrors 149 = .ok (.aload_n 2, 1) := by decide +kernel
theorem dX0_fewestErrors_150 : decode cX0_fewestErrors 150 = .ok (.getfield 54, 3) := by decide +kernel
theorem dX0_fewestErrors_153 : decode cX0_fewestErrors 153 = .ok (.iaload, 1) := by decide +kernel
theorem dX0_fewestErrors_154 : decode cX0_fewestErrors 154 = .ok (.ireturn, 1) := by decide +kernel
theorem r_X0_fewestErrors_145 (E : kr_E)  (l2 : Nat) (h_l2 : kr_sh l2 = (7, 0))  (M : kr_M) : kR kr_vi E Y_X0_fewestErrors 2 145 [(0, kr_r E 330), (2, kr_r E l2)] [] M (f_X0_fewestErrors_145 l2 M) := by
  rw [f_X0_fewestErrors_145]
  refine kr_aload_n dX0_fewestErrors_145 rfl 0 rfl ?_
  refine kr_getA (o := 3) (ci := 0) (j := 3) dX0_fewestErrors_146 kr_at_330 fl_RX0_18 rfl ?_
  refine kr_aload_n dX0_fewestErrors_149 rfl 1 rfl ?_
  refine kr_getI (ci := 7) (j := 1) dX0_fewestErrors_150 h_l2 fl_RX0_54 rfl (fun v1 => ?_)
  refine kr_iald dX0_fewestErrors_153 kr_at_333 (fun v2 => ?_)
  exact kr_iret dX0_fewestErrors_154 rfl
theorem r_X0_fewestErrors_139 (E : kr_E) (k_25 : Int32 → kr_M → Option (Int32 × kr_M)) (l1 : Nat) (h_l1 : kr_sh l1 = (7, 0)) (l2 : Nat) (h_l2 : kr_sh l2 = (7, 0)) (l3 : Int32) (hk_25 : ∀ (x3 : Int32) (M : kr_M), kR kr_vi E Y_X0_fewestErrors 2 25 [(0, kr_r E 330), (1, kr_r E l1), (2, kr_r E l2), (3, .int x3)] [] M (k_25 x3 M)) (M : kr_M) : kR kr_vi E Y_X0_fewestErrors 2 139 [(0, kr_r E 330), (1, kr_r E l1), (2, kr_r E l2), (3, .int l3)] [] M (f_X0_fewestErrors_139 k_25 l3 M) := by
  rw [f_X0_fewestErrors_139]
  refine kr_iinc (j := 3) (v := (l3 + (1 : Int32))) (lv' := [(3, .int (l3 + (1 : Int32))), (0, kr_r E 330), (1, kr_r E l1), (2, kr_r E l2)]) dX0_fewestErrors_139 rfl rfl (by decide) rfl ?_
  refine kr_goto (tgt := 25) dX0_fewestErrors_142 (by decide) ?_
  refine kr_sub [1, 2, 3, 0] rfl ?_
  exact hk_25 (l3 + (1 : Int32)) M
theorem r_X0_fewestErrors_89 (E : kr_E) (k_51 : Int32 → Int32 → kr_M → Option (Int32 × kr_M)) (l1 : Nat) (h_l1 : kr_sh l1 = (7, 0)) (l2 : Nat) (h_l2 : kr_sh l2 = (7, 0)) (l3 : Int32) (l5 : Int32) (s0 : Int32) (hk_51 : ∀ (x4 : Int32) (x5 : Int32) (M : kr_M), kR kr_vi E Y_X0_fewestErrors 2 51 [(0, kr_r E 330), (1, kr_r E l1), (2, kr_r E l2), (3, .int l3), (4, .int x4), (5, .int x5)] [] M (k_51 x4 x5 M)) (M : kr_M) : kR kr_vi E Y_X0_fewestErrors 2 89 [(0, kr_r E 330), (1, kr_r E l1), (2, kr_r E l2), (3, .int l3), (5, .int l5)] [.int s0] M (f_X0_fewestErrors_89 k_51 l5 s0 M) := by
  rw [f_X0_fewestErrors_89]
  refine kr_istore (lv' := [(6, .int s0), (0, kr_r E 330), (1, kr_r E l1), (2, kr_r E l2), (3, .int l3), (5, .int l5)]) dX0_fewestErrors_89 (by decide) rfl ?_
  refine kr_aload_n dX0_fewestErrors_91 rfl 1 rfl ?_
  refine kr_getA (o := 3) (ci := 0) (j := 3) dX0_fewestErrors_92 kr_at_330 fl_RX0_18 rfl ?_
  refine kr_iload dX0_fewestErrors_95 5 rfl ?_
  refine kr_iald dX0_fewestErrors_97 kr_at_333 (fun v1 => ?_)
  refine kr_istore (lv' := [(4, .int v1), (6, .int s0), (0, kr_r E 330), (1, kr_r E l1), (2, kr_r E l2), (3, .int l3), (5, .int l5)]) dX0_fewestErrors_98 (by decide) rfl ?_
  refine kr_aload_n dX0_fewestErrors_100 rfl 2 rfl ?_
  refine kr_getA (o := 3) (ci := 0) (j := 3) dX0_fewestErrors_101 kr_at_330 fl_RX0_18 rfl ?_
  refine kr_iload dX0_fewestErrors_104 6 rfl ?_
  refine kr_iload dX0_fewestErrors_106 1 rfl ?_
  refine kr_aload_n dX0_fewestErrors_108 rfl 2 rfl ?_
  refine kr_getA (o := 3) (ci := 0) (j := 3) dX0_fewestErrors_109 kr_at_330 fl_RX0_18 rfl ?_
  refine kr_iload dX0_fewestErrors_112 6 rfl ?_
  refine kr_iald dX0_fewestErrors_114 kr_at_333 (fun v2 => ?_)
  refine kr_aload_n dX0_fewestErrors_115 rfl 2 rfl ?_
  refine kr_getA (o := 3) (ci := 0) (j := 3) dX0_fewestErrors_116 kr_at_330 fl_RX0_18 rfl ?_
  refine kr_iload dX0_fewestErrors_119 6 rfl ?_
  refine kr_iconst (v := 1) dX0_fewestErrors_121 (by decide) ?_
  refine kr_isub dX0_fewestErrors_122 ?_
  refine kr_iald dX0_fewestErrors_123 kr_at_333 (fun v3 => ?_)
  refine kr_mmin dX0_fewestErrors_124 ml_RX0_79 (by decide) (Nat.le_of_ble_eq_true rfl) ?_
  refine kr_iconst (v := 1) dX0_fewestErrors_127 (by decide) ?_
  refine kr_iadd dX0_fewestErrors_128 ?_
  refine kr_mmin dX0_fewestErrors_129 ml_RX0_79 (by decide) (Nat.le_of_ble_eq_true rfl) ?_
  refine kr_iast dX0_fewestErrors_132 kr_at_333 (fun M4 => ?_)
  refine kr_iinc (j := 6) (v := (l5 + (1 : Int32))) (lv' := [(5, .int (l5 + (1 : Int32))), (4, .int v1), (6, .int s0), (0, kr_r E 330), (1, kr_r E l1), (2, kr_r E l2), (3, .int l3)]) dX0_fewestErrors_133 rfl rfl (by decide) rfl ?_
  refine kr_goto (tgt := 51) dX0_fewestErrors_136 (by decide) ?_
  refine kr_sub [3, 4, 5, 6, 1, 0] rfl ?_
  exact hk_51 v1 (l5 + (1 : Int32)) M4
theorem r_X0_fewestErrors_51 (E : kr_E) (k_25 : Int32 → kr_M → Option (Int32 × kr_M)) (l1 : Nat) (h_l1 : kr_sh l1 = (7, 0)) (l2 : Nat) (h_l2 : kr_sh l2 = (7, 0)) (l3 : Int32) (hk_25 : ∀ (x3 : Int32) (M : kr_M), kR kr_vi E Y_X0_fewestErrors 2 25 [(0, kr_r E 330), (1, kr_r E l1), (2, kr_r E l2), (3, .int x3)] [] M (k_25 x3 M)) : ∀ (n : Nat) (l4 : Int32) (l5 : Int32) (M : kr_M), kR kr_vi E Y_X0_fewestErrors 2 51 [(0, kr_r E 330), (1, kr_r E l1), (2, kr_r E l2), (3, .int l3), (4, .int l4), (5, .int l5)] [] M (f_X0_fewestErrors_51 k_25 l1 l2 l3 n l4 l5 M) := by
  intro n
  induction n with
  | zero => intro l4 l5 M; exact kr_none
  | succ n ih =>
    intro l4 l5 M
    rw [f_X0_fewestErrors_51]
    refine kr_iload dX0_fewestErrors_51 5 rfl ?_
    refine kr_aload_n dX0_fewestErrors_53 rfl 2 rfl ?_
    refine kr_getI (ci := 7) (j := 1) dX0_fewestErrors_54 h_l2 fl_RX0_54 rfl (fun v1 => ?_)
    refine kr_icmp_gt (tgt := 139) dX0_fewestErrors_57 (by decide) ?_ ?_
    · refine kr_sub [0, 1, 2, 3] rfl ?_
      exact r_X0_fewestErrors_139 E _ l1 h_l1 l2 h_l2 l3 hk_25 M
    · refine kr_aload_n dX0_fewestErrors_60 rfl 1 rfl ?_
      refine kr_getA (o := 1) (ci := 7) (j := 0) dX0_fewestErrors_61 h_l1 fl_RX0_76 rfl ?_
      refine kr_iload_n dX0_fewestErrors_64 rfl 3 rfl ?_
      refine kr_iconst (v := 1) dX0_fewestErrors_65 (by decide) ?_
      refine kr_isub dX0_fewestErrors_66 ?_
      refine kr_iald dX0_fewestErrors_67 (kr_shT1 _ h_l1) (fun v2 => ?_)
      refine kr_aload_n dX0_fewestErrors_68 rfl 2 rfl ?_
      refine kr_getA (o := 1) (ci := 7) (j := 0) dX0_fewestErrors_69 h_l2 fl_RX0_76 rfl ?_
      refine kr_iload dX0_fewestErrors_72 5 rfl ?_
      refine kr_iconst (v := 1) dX0_fewestErrors_74 (by decide) ?_
      refine kr_isub dX0_fewestErrors_75 ?_
      refine kr_iald dX0_fewestErrors_76 (kr_shT1 _ h_l2) (fun v3 => ?_)
      refine kr_icmp_ne (tgt := 85) dX0_fewestErrors_77 (by decide) ?_ ?_
      · refine kr_iload dX0_fewestErrors_85 4 rfl ?_
        refine kr_iconst (v := 1) dX0_fewestErrors_87 (by decide) ?_
        refine kr_iadd dX0_fewestErrors_88 ?_
        refine kr_sub [0, 1, 2, 3, 5] rfl ?_
        exact r_X0_fewestErrors_89 E _ l1 h_l1 l2 h_l2 l3 l5 (l4 + (1 : Int32)) ih M
      · refine kr_iload dX0_fewestErrors_80 4 rfl ?_
        refine kr_goto (tgt := 89) dX0_fewestErrors_82 (by decide) ?_
        refine kr_sub [0, 1, 2, 3, 5] rfl ?_
        exact r_X0_fewestErrors_89 E _ l1 h_l1 l2 h_l2 l3 l5 l4 ih M
theorem r_X0_fewestErrors_25 (E : kr_E)  (l1 : Nat) (h_l1 : kr_sh l1 = (7, 0)) (l2 : Nat) (h_l2 : kr_sh l2 = (7, 0))  : ∀ (n : Nat) (l3 : Int32) (M : kr_M), kR kr_vi E Y_X0_fewestErrors 2 25 [(0, kr_r E 330), (1, kr_r E l1), (2, kr_r E l2), (3, .int l3)] [] M (f_X0_fewestErrors_25 l1 l2 n l3 M) := by
  intro n
  induction n with
  | zero => intro l3 M; exact kr_none
  | succ n ih =>
    intro l3 M
    rw [f_X0_fewestErrors_25]
    refine kr_iload_n dX0_fewestErrors_25 rfl 3 rfl ?_
    refine kr_aload_n dX0_fewestErrors_26 rfl 1 rfl ?_
    refine kr_getI (ci := 7) (j := 1) dX0_fewestErrors_27 h_l1 fl_RX0_54 rfl (fun v1 => ?_)
    refine kr_icmp_gt (tgt := 145) dX0_fewestErrors_30 (by decide) ?_ ?_
    · refine kr_sub [0, 2] rfl ?_
      exact r_X0_fewestErrors_145 E l2 h_l2 M
    · refine kr_aload_n dX0_fewestErrors_33 rfl 0 rfl ?_
      refine kr_getA (o := 3) (ci := 0) (j := 3) dX0_fewestErrors_34 kr_at_330 fl_RX0_18 rfl ?_
      refine kr_iconst (v := 0) dX0_fewestErrors_37 (by decide) ?_
      refine kr_iald dX0_fewestErrors_38 kr_at_333 (fun v2 => ?_)
      refine kr_istore (lv' := [(4, .int v2), (0, kr_r E 330), (1, kr_r E l1), (2, kr_r E l2), (3, .int l3)]) dX0_fewestErrors_39 (by decide) rfl ?_
      refine kr_aload_n dX0_fewestErrors_41 rfl 1 rfl ?_
      refine kr_getA (o := 3) (ci := 0) (j := 3) dX0_fewestErrors_42 kr_at_330 fl_RX0_18 rfl ?_
      refine kr_iconst (v := 0) dX0_fewestErrors_45 (by decide) ?_
      refine kr_iload_n dX0_fewestErrors_46 rfl 4 rfl ?_
      refine kr_iast dX0_fewestErrors_47 kr_at_333 (fun M3 => ?_)
      refine kr_iconst (v := 1) dX0_fewestErrors_48 (by decide) ?_
      refine kr_istore (lv' := [(5, .int (1 : Int32)), (4, .int v2), (0, kr_r E 330), (1, kr_r E l1), (2, kr_r E l2), (3, .int l3)]) dX0_fewestErrors_49 (by decide) rfl ?_
      refine kr_sub [2, 3, 4, 5, 1, 0] rfl ?_
      exact r_X0_fewestErrors_51 E _ l1 h_l1 l2 h_l2 l3 ih _ v2 (1 : Int32) M3
theorem r_X0_fewestErrors_23 (E : kr_E)  (l1 : Nat) (h_l1 : kr_sh l1 = (7, 0)) (l2 : Nat) (h_l2 : kr_sh l2 = (7, 0))  (M : kr_M) : kR kr_vi E Y_X0_fewestErrors 2 23 [(0, kr_r E 330), (1, kr_r E l1), (2, kr_r E l2)] [] M (f_X0_fewestErrors_23 l1 l2 M) := by
  rw [f_X0_fewestErrors_23]
  refine kr_iconst (v := 1) dX0_fewestErrors_23 (by decide) ?_
  refine kr_istore_n (lv' := [(3, .int (1 : Int32)), (0, kr_r E 330), (1, kr_r E l1), (2, kr_r E l2)]) dX0_fewestErrors_24 rfl (by decide) rfl ?_
  refine kr_sub [1, 2, 3, 0] rfl ?_
  exact r_X0_fewestErrors_25 E l1 h_l1 l2 h_l2 _ (1 : Int32) M
theorem r_X0_fewestErrors_2 (E : kr_E)  (l1 : Nat) (h_l1 : kr_sh l1 = (7, 0)) (l2 : Nat) (h_l2 : kr_sh l2 = (7, 0))  : ∀ (n : Nat) (l3 : Int32) (M : kr_M), kR kr_vi E Y_X0_fewestErrors 2 2 [(0, kr_r E 330), (1, kr_r E l1), (2, kr_r E l2), (3, .int l3)] [] M (f_X0_fewestErrors_2 l1 l2 n l3 M) := by
  intro n
  induction n with
  | zero => intro l3 M; exact kr_none
  | succ n ih =>
    intro l3 M
    rw [f_X0_fewestErrors_2]
    refine kr_iload_n dX0_fewestErrors_2 rfl 3 rfl ?_
    refine kr_aload_n dX0_fewestErrors_3 rfl 2 rfl ?_
    refine kr_getI (ci := 7) (j := 1) dX0_fewestErrors_4 h_l2 fl_RX0_54 rfl (fun v1 => ?_)
    refine kr_icmp_gt (tgt := 23) dX0_fewestErrors_7 (by decide) ?_ ?_
    · refine kr_sub [0, 1, 2] rfl ?_
      exact r_X0_fewestErrors_23 E l1 h_l1 l2 h_l2 M
    · refine kr_aload_n dX0_fewestErrors_10 rfl 0 rfl ?_
      refine kr_getA (o := 3) (ci := 0) (j := 3) dX0_fewestErrors_11 kr_at_330 fl_RX0_18 rfl ?_
      refine kr_iload_n dX0_fewestErrors_14 rfl 3 rfl ?_
      refine kr_iload_n dX0_fewestErrors_15 rfl 3 rfl ?_
      refine kr_iast dX0_fewestErrors_16 kr_at_333 (fun M2 => ?_)
      refine kr_iinc (j := 3) (v := (l3 + (1 : Int32))) (lv' := [(3, .int (l3 + (1 : Int32))), (0, kr_r E 330), (1, kr_r E l1), (2, kr_r E l2)]) dX0_fewestErrors_17 rfl rfl (by decide) rfl ?_
      refine kr_goto (tgt := 2) dX0_fewestErrors_20 (by decide) ?_
      refine kr_sub [1, 2, 3, 0] rfl ?_
      exact ih (l3 + (1 : Int32)) M2
theorem r_X0_fewestErrors (E : kr_E) (p1 : Nat) (h_p1 : kr_sh p1 = (7, 0)) (p2 : Nat) (h_p2 : kr_sh p2 = (7, 0)) (M : kr_M) : kR kr_vi E Y_X0_fewestErrors 2 0 [(0, kr_r E 330), (1, kr_r E p1), (2, kr_r E p2)] [] M (f_X0_fewestErrors p1 p2 M) := by
  rw [f_X0_fewestErrors]
  refine kr_iconst (v := 0) dX0_fewestErrors_0 (by decide) ?_
  refine kr_istore_n (lv' := [(3, .int (0 : Int32)), (0, kr_r E 330), (1, kr_r E p1), (2, kr_r E p2)]) dX0_fewestErrors_1 rfl (by decide) rfl ?_
  refine kr_sub [1, 2, 3, 0] rfl ?_
  exact r_X0_fewestErrors_2 E p1 h_p1 p2 h_p2 _ (0 : Int32) M
theorem dJ7_fill_53178_0 : decode cJ7_fill_53178 0 = .ok (.iconst 0, 1) := by decide +kernel
theorem dJ7_fill_53178_1 : decode cJ7_fill_53178 1 = .ok (.istore_n 2, 1) := by decide +kernel
theorem dJ7_fill_53178_2 : decode cJ7_fill_53178 2 = .ok (.aload_n 0, 1) := by decide +kernel
theorem dJ7_fill_53178_3 : decode cJ7_fill_53178 3 = .ok (.arraylength, 1) := by decide +kernel
theorem dJ7_fill_53178_4 : decode cJ7_fill_53178 4 = .ok (.istore_n 3, 1) := by decide +kernel
theorem dJ7_fill_53178_5 : decode cJ7_fill_53178 5 = .ok (.iload_n 2, 1) := by decide +kernel
theorem dJ7_fill_53178_6 : decode cJ7_fill_53178 6 = .ok (.iload_n 3, 1) := by decide +kernel
theorem dJ7_fill_53178_7 : decode cJ7_fill_53178 7 = .ok (.if_icmp .ge 13, 3) := by decide +kernel
theorem dJ7_fill_53178_10 : decode cJ7_fill_53178 10 = .ok (.aload_n 0, 1) := by decide +kernel
theorem dJ7_fill_53178_11 : decode cJ7_fill_53178 11 = .ok (.iload_n 2, 1) := by decide +kernel
theorem dJ7_fill_53178_12 : decode cJ7_fill_53178 12 = .ok (.iload_n 1, 1) := by decide +kernel
theorem dJ7_fill_53178_13 : decode cJ7_fill_53178 13 = .ok (.iastore, 1) := by decide +kernel
theorem dJ7_fill_53178_14 : decode cJ7_fill_53178 14 = .ok (.iinc 2 1, 3) := by decide +kernel
theorem dJ7_fill_53178_17 : decode cJ7_fill_53178 17 = .ok (.goto (-12), 3) := by decide +kernel
theorem dJ7_fill_53178_20 : decode cJ7_fill_53178 20 = .ok (.return_, 1) := by decide +kernel
theorem r_J7_fill_53178_5 (E : kr_E)  (l0 : Nat) (h_l0 : kr_sh l0 = (20, (kr_len l0))) (l1 : Int32) (l3 : Int32)  : ∀ (n : Nat) (l2 : Int32) (M : kr_M), kR kr_vv E Y_J7_fill_53178 1 5 [(0, kr_r E l0), (1, .int l1), (2, .int l2), (3, .int l3)] [] M (f_J7_fill_53178_5 l0 l1 l3 n l2 M) := by
  intro n
  induction n with
  | zero => intro l2 M; exact kr_none
  | succ n ih =>
    intro l2 M
    rw [f_J7_fill_53178_5]
    refine kr_iload_n dJ7_fill_53178_5 rfl 2 rfl ?_
    refine kr_iload_n dJ7_fill_53178_6 rfl 3 rfl ?_
    refine kr_icmp_ge (tgt := 20) dJ7_fill_53178_7 (by decide) ?_ ?_
    · exact kr_vret dJ7_fill_53178_20 rfl
    · refine kr_aload_n dJ7_fill_53178_10 rfl 0 rfl ?_
      refine kr_iload_n dJ7_fill_53178_11 rfl 2 rfl ?_
      refine kr_iload_n dJ7_fill_53178_12 rfl 1 rfl ?_
      refine kr_iast dJ7_fill_53178_13 h_l0 (fun M1 => ?_)
      refine kr_iinc (j := 2) (v := (l2 + (1 : Int32))) (lv' := [(2, .int (l2 + (1 : Int32))), (0, kr_r E l0), (1, .int l1), (3, .int l3)]) dJ7_fill_53178_14 rfl rfl (by decide) rfl ?_
      refine kr_goto (tgt := 5) dJ7_fill_53178_17 (by decide) ?_
      refine kr_sub [1, 2, 0, 3] rfl ?_
      exact ih (l2 + (1 : Int32)) M1
theorem r_J7_fill_53178 (E : kr_E) (p0 : Nat) (h_p0 : kr_sh p0 = (20, kr_len p0)) (p1 : Int32) (M : kr_M) : kR kr_vv E Y_J7_fill_53178 1 0 [(0, kr_r E p0), (1, .int p1)] [] M (f_J7_fill_53178 p0 p1 M) := by
  rw [f_J7_fill_53178]
  refine kr_iconst (v := 0) dJ7_fill_53178_0 (by decide) ?_
  refine kr_istore_n (lv' := [(2, .int (0 : Int32)), (0, kr_r E p0), (1, .int p1)]) dJ7_fill_53178_1 rfl (by decide) rfl ?_
  refine kr_aload_n dJ7_fill_53178_2 rfl 1 rfl ?_
  refine kr_alen dJ7_fill_53178_3 h_p0 ?_
  refine kr_nmi (fun v1 => ?_)
  refine kr_istore_n (lv' := [(3, .int v1), (2, .int (0 : Int32)), (0, kr_r E p0), (1, .int p1)]) dJ7_fill_53178_4 rfl (by decide) rfl ?_
  refine kr_sub [2, 3, 1, 0] rfl ?_
  exact r_J7_fill_53178_5 E p0 h_p0 p1 v1 _ (0 : Int32) M
theorem dX0_mostShared_0 : decode cX0_mostShared 0 = .ok (.aload_n 0, 1) := by decide +kernel
theorem dX0_mostShared_1 : decode cX0_mostShared 1 = .ok (.getfield 18, 3) := by decide +kernel
theorem dX0_mostShared_4 : decode cX0_mostShared 4 = .ok (.iconst 0, 1) := by decide +kernel
theorem dX0_mostShared_5 : decode cX0_mostShared 5 = .ok (.invokestatic 84, 3) := by decide +kernel
theorem dX0_mostShared_8 : decode cX0_mostShared 8 = .ok (.iconst 1, 1) := by decide +kernel
theorem dX0_mostShared_9 : decode cX0_mostShared 9 = .ok (.istore_n 3, 1) := by decide +kernel
theorem dX0_mostShared_10 : decode cX0_mostShared 10 = .ok (.iload_n 3, 1) := by decide +kernel
theorem dX0_mostShared_11 : decode cX0_mostShared 11 = .ok (.aload_n 1, 1) := by decide +kernel
theorem dX0_mostShared_12 : decode cX0_mostShared 12 = .ok (.getfield 54, 3) := by decide +kernel
theorem dX0_mostShared_15 : decode cX0_mostShared 15 = .ok (.if_icmp .gt 103, 3) := by decide +kernel
theorem dX0_mostShared_18 : decode cX0_mostShared 18 = .ok (.iconst 0, 1) := by decide +kernel
theorem dX0_mostShared_19 : decode cX0_mostShared 19 = .ok (.istore 4, 2) := by decide +kernel
theorem dX0_mostShared_21 : decode cX0_mostShared 21 = .ok (.iconst 1, 1) := by decide +kernel
theorem dX0_mostShared_22 : decode cX0_mostShared 22 = .ok (.istore 5, 2) := by decide +kernel
theorem dX0_mostShared_24 : decode cX0_mostShared 24 = .ok (.iload 5, 2) := by decide +kernel
theorem dX0_mostShared_26 : decode cX0_mostShared 26 = .ok (.aload_n 2, 1) := by decide +kernel
theorem dX0_mostShared_27 : decode cX0_mostShared 27 = .ok (.getfield 54, 3) := by decide +kernel
theorem dX0_mostShared_30 : decode cX0_mostShared 30 = .ok (.if_icmp .gt 82, 3) := by decide +kernel
theorem dX0_mostShared_33 : decode cX0_mostShared 33 = .ok (.aload_n 0, 1) := by decide +kernel
theorem dX0_mostShared_34 : decode cX0_mostShared 34 = .ok (.getfield 18, 3) := by decide +kernel
theorem dX0_mostShared_37 : decode cX0_mostShared 37 = .ok (.iload 5, 2) := by decide +kernel
theorem dX0_mostShared_39 : decode cX0_mostShared 39 = .ok (.iaload, 1) := by decide +kernel
theorem dX0_mostShared_40 : decode cX0_mostShared 40 = .ok (.istore 6, 2) := by decide +kernel
theorem dX0_mostShared_42 : decode cX0_mostShared 42 = .ok (.aload_n 1, 1) := by decide +kernel
theorem dX0_mostShared_43 : decode cX0_mostShared 43 = .ok (.getfield 76, 3) := by decide +kernel
theorem dX0_mostShared_46 : decode cX0_mostShared 46 = .ok (.iload_n 3, 1) := by decide +kernel
theorem dX0_mostShared_47 : decode cX0_mostShared 47 = .ok (.iconst 1, 1) := by decide +kernel
theorem dX0_mostShared_48 : decode cX0_mostShared 48 = .ok (.isub, 1) := by decide +kernel
theorem dX0_mostShared_49 : decode cX0_mostShared 49 = .ok (.iaload, 1) := by decide +kernel
theorem dX0_mostShared_50 : decode cX0_mostShared 50 = .ok (.aload_n 2, 1) := by decide +kernel
theorem dX0_mostShared_51 : decode cX0_mostShared 51 = .ok (.getfield 76, 3) := by decide +kernel
theorem dX0_mostShared_54 : decode cX0_mostShared 54 = .ok (.iload 5, 2) := by decide +kernel
theorem dX0_mostShared_56 : decode cX0_mostShared 56 = .ok (.iconst 1, 1) := by decide +kernel
theorem dX0_mostShared_57 : decode cX0_mostShared 57 = .ok (.isub, 1) := by decide +kernel
theorem dX0_mostShared_58 : decode cX0_mostShared 58 = .ok (.iaload, 1) := by decide +kernel
theorem dX0_mostShared_59 : decode cX0_mostShared 59 = .ok (.if_icmp .ne 7, 3) := by decide +kernel
theorem dX0_mostShared_62 : decode cX0_mostShared 62 = .ok (.iconst 1, 1) := by decide +kernel
theorem dX0_mostShared_63 : decode cX0_mostShared 63 = .ok (.goto 4, 3) := by decide +kernel
theorem dX0_mostShared_66 : decode cX0_mostShared 66 = .ok (.iconst 0, 1) := by decide +kernel
theorem dX0_mostShared_67 : decode cX0_mostShared 67 = .ok (.istore 7, 2) := by decide +kernel
theorem dX0_mostShared_69 : decode cX0_mostShared 69 = .ok (.aload_n 0, 1) := by decide +kernel
theorem dX0_mostShared_70 : decode cX0_mostShared 70 = .ok (.getfield 18, 3) := by decide +kernel
theorem dX0_mostShared_73 : decode cX0_mostShared 73 = .ok (.iload 5, 2) := by decide +kernel
theorem dX0_mostShared_75 : decode cX0_mostShared 75 = .ok (.iload 7, 2) := by decide +kernel
theorem dX0_mostShared_77 : decode cX0_mostShared 77 = .ok (.ifCond .eq 10, 3) := by decide +kernel
theorem dX0_mostShared_80 : decode cX0_mostShared 80 = .ok (.iload 4, 2) := by decide +kernel
theorem dX0_mostShared_82 : decode cX0_mostShared 82 = .ok (.iconst 1, 1) := by decide +kernel
theorem dX0_mostShared_83 : decode cX0_mostShared 83 = .ok (.iadd, 1) := by decide +kernel
theorem dX0_mostShared_84 : decode cX0_mostShared 84 = .ok (.goto 17, 3) := by decide +kernel
theorem dX0_mostShared_87 : decode cX0_mostShared 87 = .ok (.iload 6, 2) := by decide +kernel
theorem dX0_mostShared_89 : decode cX0_mostShared 89 = .ok (.aload_n 0, 1) := by decide +kernel
theorem dX0_mostShared_90 : decode cX0_mostShared 90 = .ok (.getfield 18, 3) := by decide +kernel
theorem dX0_mostShared_93 : decode cX0_mostShared 93 = .ok (.iload 5, 2) := by decide +kernel
theorem dX0_mostShared_95 : decode cX0_mostShared 95 = .ok (.iconst 1, 1) := by decide +kernel
theorem dX0_mostShared_96 : decode cX0_mostShared 96 = .ok (.isub, 1) := by decide +kernel
theorem dX0_mostShared_97 : decode cX0_mostShared 97 = .ok (.iaload, 1) := by decide +kernel
theorem dX0_mostShared_98 : decode cX0_mostShared 98 = .ok (.invokestatic 90, 3) := by decide +kernel
theorem dX0_mostShared_101 : decode cX0_mostShared 101 = .ok (.iastore, 1) := by decide +kernel
theorem dX0_mostShared_102 : decode cX0_mostShared 102 = .ok (.iload 6, 2) := by decide +kernel
theorem dX0_mostShared_104 : decode cX0_mostShared 104 = .ok (.istore 4, 2) := by decide +kernel
theorem dX0_mostShared_106 : decode cX0_mostShared 106 = .ok (.iinc 5 1, 3) := by decide +kernel
theorem dX0_mostShared_109 : decode cX0_mostShared 109 = .ok (.goto (-85), 3) := by decide +kernel
theorem dX0_mostShared_112 : decode cX0_mostShared 112 = .ok (.iinc 3 1, 3) := by decide +kernel
theorem dX0_mostShared_115 : decode cX0_mostShared 115 = .ok (.goto (-105), 3) := by decide +kernel
theorem dX0_mostShared_118 : decode cX0_mostShared 118 = .ok (.aload_n 0, 1) := by decide +kernel
theorem dX0_mostShared_119 : decode cX0_mostShared 119 = .ok (.getfield 18, 3) := by decide +kernel
theorem dX0_mostShared_122 : decode cX0_mostShared 122 = .ok (.aload_n 2, 1) := by decide +kernel
theorem dX0_mostShared_123 : decode cX0_mostShared 123 = .ok (.getfield 54, 3) := by decide +kernel
theorem dX0_mostShared_126 : decode cX0_mostShared 126 = .ok (.iaload, 1) := by decide +kernel
theorem dX0_mostShared_127 : decode cX0_mostShared 127 = .ok (.ireturn, 1) := by decide +kernel
theorem r_X0_mostShared_118 (E : kr_E)  (l2 : Nat) (h_l2 : kr_sh l2 = (7, 0))  (M : kr_M) : kR kr_vi E Y_X0_mostShared 2 118 [(0, kr_r E 330), (2, kr_r E l2)] [] M (f_X0_mostShared_118 l2 M) := by
  rw [f_X0_mostShared_118]
  refine kr_aload_n dX0_mostShared_118 rfl 0 rfl ?_
  refine kr_getA (o := 3) (ci := 0) (j := 3) dX0_mostShared_119 kr_at_330 fl_RX0_18 rfl ?_
  refine kr_aload_n dX0_mostShared_122 rfl 1 rfl ?_
  refine kr_getI (ci := 7) (j := 1) dX0_mostShared_123 h_l2 fl_RX0_54 rfl (fun v1 => ?_)
  refine kr_iald dX0_mostShared_126 kr_at_333 (fun v2 => ?_)
  exact kr_iret dX0_mostShared_127 rfl
theorem r_X0_mostShared_112 (E : kr_E) (k_10 : Int32 → kr_M → Option (Int32 × kr_M)) (l1 : Nat) (h_l1 : kr_sh l1 = (7, 0)) (l2 : Nat) (h_l2 : kr_sh l2 = (7, 0)) (l3 : Int32) (hk_10 : ∀ (x3 : Int32) (M : kr_M), kR kr_vi E Y_X0_mostShared 2 10 [(0, kr_r E 330), (1, kr_r E l1), (2, kr_r E l2), (3, .int x3)] [] M (k_10 x3 M)) (M : kr_M) : kR kr_vi E Y_X0_mostShared 2 112 [(0, kr_r E 330), (1, kr_r E l1), (2, kr_r E l2), (3, .int l3)] [] M (f_X0_mostShared_112 k_10 l3 M) := by
  rw [f_X0_mostShared_112]
  refine kr_iinc (j := 3) (v := (l3 + (1 : Int32))) (lv' := [(3, .int (l3 + (1 : Int32))), (0, kr_r E 330), (1, kr_r E l1), (2, kr_r E l2)]) dX0_mostShared_112 rfl rfl (by decide) rfl ?_
  refine kr_goto (tgt := 10) dX0_mostShared_115 (by decide) ?_
  refine kr_sub [1, 2, 3, 0] rfl ?_
  exact hk_10 (l3 + (1 : Int32)) M
theorem r_X0_mostShared_101 (E : kr_E) (k_24 : Int32 → Int32 → kr_M → Option (Int32 × kr_M)) (l1 : Nat) (h_l1 : kr_sh l1 = (7, 0)) (l2 : Nat) (h_l2 : kr_sh l2 = (7, 0)) (l3 : Int32) (l5 : Int32) (l6 : Int32) (s0 : Int32) (s1 : Int32) (hk_24 : ∀ (x4 : Int32) (x5 : Int32) (M : kr_M), kR kr_vi E Y_X0_mostShared 2 24 [(0, kr_r E 330), (1, kr_r E l1), (2, kr_r E l2), (3, .int l3), (4, .int x4), (5, .int x5)] [] M (k_24 x4 x5 M)) (M : kr_M) : kR kr_vi E Y_X0_mostShared 2 101 [(0, kr_r E 330), (1, kr_r E l1), (2, kr_r E l2), (3, .int l3), (5, .int l5), (6, .int l6)] [.int s0, .int s1, kr_r E 333] M (f_X0_mostShared_101 k_24 l5 l6 s0 s1 M) := by
  rw [f_X0_mostShared_101]
  refine kr_iast dX0_mostShared_101 kr_at_333 (fun M1 => ?_)
  refine kr_iload dX0_mostShared_102 5 rfl ?_
  refine kr_istore (lv' := [(4, .int l6), (0, kr_r E 330), (1, kr_r E l1), (2, kr_r E l2), (3, .int l3), (5, .int l5), (6, .int l6)]) dX0_mostShared_104 (by decide) rfl ?_
  refine kr_iinc (j := 5) (v := (l5 + (1 : Int32))) (lv' := [(5, .int (l5 + (1 : Int32))), (4, .int l6), (0, kr_r E 330), (1, kr_r E l1), (2, kr_r E l2), (3, .int l3), (6, .int l6)]) dX0_mostShared_106 rfl rfl (by decide) rfl ?_
  refine kr_goto (tgt := 24) dX0_mostShared_109 (by decide) ?_
  refine kr_sub [2, 3, 4, 5, 1, 0] rfl ?_
  exact hk_24 l6 (l5 + (1 : Int32)) M1
theorem r_X0_mostShared_67 (E : kr_E) (k_24 : Int32 → Int32 → kr_M → Option (Int32 × kr_M)) (l1 : Nat) (h_l1 : kr_sh l1 = (7, 0)) (l2 : Nat) (h_l2 : kr_sh l2 = (7, 0)) (l3 : Int32) (l4 : Int32) (l5 : Int32) (l6 : Int32) (s0 : Int32) (hk_24 : ∀ (x4 : Int32) (x5 : Int32) (M : kr_M), kR kr_vi E Y_X0_mostShared 2 24 [(0, kr_r E 330), (1, kr_r E l1), (2, kr_r E l2), (3, .int l3), (4, .int x4), (5, .int x5)] [] M (k_24 x4 x5 M)) (M : kr_M) : kR kr_vi E Y_X0_mostShared 2 67 [(0, kr_r E 330), (1, kr_r E l1), (2, kr_r E l2), (3, .int l3), (4, .int l4), (5, .int l5), (6, .int l6)] [.int s0] M (f_X0_mostShared_67 k_24 l4 l5 l6 s0 M) := by
  rw [f_X0_mostShared_67]
  refine kr_istore (lv' := [(7, .int s0), (0, kr_r E 330), (1, kr_r E l1), (2, kr_r E l2), (3, .int l3), (4, .int l4), (5, .int l5), (6, .int l6)]) dX0_mostShared_67 (by decide) rfl ?_
  refine kr_aload_n dX0_mostShared_69 rfl 1 rfl ?_
  refine kr_getA (o := 3) (ci := 0) (j := 3) dX0_mostShared_70 kr_at_330 fl_RX0_18 rfl ?_
  refine kr_iload dX0_mostShared_73 6 rfl ?_
  refine kr_iload dX0_mostShared_75 0 rfl ?_
  refine kr_if_eq (tgt := 87) dX0_mostShared_77 (by decide) ?_ ?_
  · refine kr_iload dX0_mostShared_87 7 rfl ?_
    refine kr_aload_n dX0_mostShared_89 rfl 1 rfl ?_
    refine kr_getA (o := 3) (ci := 0) (j := 3) dX0_mostShared_90 kr_at_330 fl_RX0_18 rfl ?_
    refine kr_iload dX0_mostShared_93 6 rfl ?_
    refine kr_iconst (v := 1) dX0_mostShared_95 (by decide) ?_
    refine kr_isub dX0_mostShared_96 ?_
    refine kr_iald dX0_mostShared_97 kr_at_333 (fun v1 => ?_)
    refine kr_mmax dX0_mostShared_98 ml_RX0_90 (by decide) (Nat.le_of_ble_eq_true rfl) ?_
    refine kr_sub [1, 2, 3, 4, 6, 7] rfl ?_
    exact r_X0_mostShared_101 E _ l1 h_l1 l2 h_l2 l3 l5 l6 (kr_max l6 v1) l5 hk_24 M
  · refine kr_iload dX0_mostShared_80 5 rfl ?_
    refine kr_iconst (v := 1) dX0_mostShared_82 (by decide) ?_
    refine kr_iadd dX0_mostShared_83 ?_
    refine kr_goto (tgt := 101) dX0_mostShared_84 (by decide) ?_
    refine kr_sub [1, 2, 3, 4, 6, 7] rfl ?_
    exact r_X0_mostShared_101 E _ l1 h_l1 l2 h_l2 l3 l5 l6 (l4 + (1 : Int32)) l5 hk_24 M
theorem r_X0_mostShared_24 (E : kr_E) (k_10 : Int32 → kr_M → Option (Int32 × kr_M)) (l1 : Nat) (h_l1 : kr_sh l1 = (7, 0)) (l2 : Nat) (h_l2 : kr_sh l2 = (7, 0)) (l3 : Int32) (hk_10 : ∀ (x3 : Int32) (M : kr_M), kR kr_vi E Y_X0_mostShared 2 10 [(0, kr_r E 330), (1, kr_r E l1), (2, kr_r E l2), (3, .int x3)] [] M (k_10 x3 M)) : ∀ (n : Nat) (l4 : Int32) (l5 : Int32) (M : kr_M), kR kr_vi E Y_X0_mostShared 2 24 [(0, kr_r E 330), (1, kr_r E l1), (2, kr_r E l2), (3, .int l3), (4, .int l4), (5, .int l5)] [] M (f_X0_mostShared_24 k_10 l1 l2 l3 n l4 l5 M) := by
  intro n
  induction n with
  | zero => intro l4 l5 M; exact kr_none
  | succ n ih =>
    intro l4 l5 M
    rw [f_X0_mostShared_24]
    refine kr_iload dX0_mostShared_24 5 rfl ?_
    refine kr_aload_n dX0_mostShared_26 rfl 2 rfl ?_
    refine kr_getI (ci := 7) (j := 1) dX0_mostShared_27 h_l2 fl_RX0_54 rfl (fun v1 => ?_)
    refine kr_icmp_gt (tgt := 112) dX0_mostShared_30 (by decide) ?_ ?_
    · refine kr_sub [0, 1, 2, 3] rfl ?_
      exact r_X0_mostShared_112 E _ l1 h_l1 l2 h_l2 l3 hk_10 M
    · refine kr_aload_n dX0_mostShared_33 rfl 0 rfl ?_
      refine kr_getA (o := 3) (ci := 0) (j := 3) dX0_mostShared_34 kr_at_330 fl_RX0_18 rfl ?_
      refine kr_iload dX0_mostShared_37 5 rfl ?_
      refine kr_iald dX0_mostShared_39 kr_at_333 (fun v2 => ?_)
      refine kr_istore (lv' := [(6, .int v2), (0, kr_r E 330), (1, kr_r E l1), (2, kr_r E l2), (3, .int l3), (4, .int l4), (5, .int l5)]) dX0_mostShared_40 (by decide) rfl ?_
      refine kr_aload_n dX0_mostShared_42 rfl 2 rfl ?_
      refine kr_getA (o := 1) (ci := 7) (j := 0) dX0_mostShared_43 h_l1 fl_RX0_76 rfl ?_
      refine kr_iload_n dX0_mostShared_46 rfl 4 rfl ?_
      refine kr_iconst (v := 1) dX0_mostShared_47 (by decide) ?_
      refine kr_isub dX0_mostShared_48 ?_
      refine kr_iald dX0_mostShared_49 (kr_shT1 _ h_l1) (fun v3 => ?_)
      refine kr_aload_n dX0_mostShared_50 rfl 3 rfl ?_
      refine kr_getA (o := 1) (ci := 7) (j := 0) dX0_mostShared_51 h_l2 fl_RX0_76 rfl ?_
      refine kr_iload dX0_mostShared_54 6 rfl ?_
      refine kr_iconst (v := 1) dX0_mostShared_56 (by decide) ?_
      refine kr_isub dX0_mostShared_57 ?_
      refine kr_iald dX0_mostShared_58 (kr_shT1 _ h_l2) (fun v4 => ?_)
      refine kr_icmp_ne (tgt := 66) dX0_mostShared_59 (by decide) ?_ ?_
      · refine kr_iconst (v := 0) dX0_mostShared_66 (by decide) ?_
        refine kr_sub [1, 2, 3, 4, 5, 6, 0] rfl ?_
        exact r_X0_mostShared_67 E _ l1 h_l1 l2 h_l2 l3 l4 l5 v2 (0 : Int32) ih M
      · refine kr_iconst (v := 1) dX0_mostShared_62 (by decide) ?_
        refine kr_goto (tgt := 67) dX0_mostShared_63 (by decide) ?_
        refine kr_sub [1, 2, 3, 4, 5, 6, 0] rfl ?_
        exact r_X0_mostShared_67 E _ l1 h_l1 l2 h_l2 l3 l4 l5 v2 (1 : Int32) ih M
theorem r_X0_mostShared_10 (E : kr_E)  (l1 : Nat) (h_l1 : kr_sh l1 = (7, 0)) (l2 : Nat) (h_l2 : kr_sh l2 = (7, 0))  : ∀ (n : Nat) (l3 : Int32) (M : kr_M), kR kr_vi E Y_X0_mostShared 2 10 [(0, kr_r E 330), (1, kr_r E l1), (2, kr_r E l2), (3, .int l3)] [] M (f_X0_mostShared_10 l1 l2 n l3 M) := by
  intro n
  induction n with
  | zero => intro l3 M; exact kr_none
  | succ n ih =>
    intro l3 M
    rw [f_X0_mostShared_10]
    refine kr_iload_n dX0_mostShared_10 rfl 3 rfl ?_
    refine kr_aload_n dX0_mostShared_11 rfl 1 rfl ?_
    refine kr_getI (ci := 7) (j := 1) dX0_mostShared_12 h_l1 fl_RX0_54 rfl (fun v1 => ?_)
    refine kr_icmp_gt (tgt := 118) dX0_mostShared_15 (by decide) ?_ ?_
    · refine kr_sub [0, 2] rfl ?_
      exact r_X0_mostShared_118 E l2 h_l2 M
    · refine kr_iconst (v := 0) dX0_mostShared_18 (by decide) ?_
      refine kr_istore (lv' := [(4, .int (0 : Int32)), (0, kr_r E 330), (1, kr_r E l1), (2, kr_r E l2), (3, .int l3)]) dX0_mostShared_19 (by decide) rfl ?_
      refine kr_iconst (v := 1) dX0_mostShared_21 (by decide) ?_
      refine kr_istore (lv' := [(5, .int (1 : Int32)), (4, .int (0 : Int32)), (0, kr_r E 330), (1, kr_r E l1), (2, kr_r E l2), (3, .int l3)]) dX0_mostShared_22 (by decide) rfl ?_
      refine kr_sub [2, 3, 4, 5, 1, 0] rfl ?_
      exact r_X0_mostShared_24 E _ l1 h_l1 l2 h_l2 l3 ih _ (0 : Int32) (1 : Int32) M
theorem r_X0_mostShared (E : kr_E) (p1 : Nat) (h_p1 : kr_sh p1 = (7, 0)) (p2 : Nat) (h_p2 : kr_sh p2 = (7, 0)) (M : kr_M) : kR kr_vi E Y_X0_mostShared 2 0 [(0, kr_r E 330), (1, kr_r E p1), (2, kr_r E p2)] [] M (f_X0_mostShared p1 p2 M) := by
  rw [f_X0_mostShared]
  refine kr_aload_n dX0_mostShared_0 rfl 0 rfl ?_
  refine kr_getA (o := 3) (ci := 0) (j := 3) dX0_mostShared_1 kr_at_330 fl_RX0_18 rfl ?_
  refine kr_iconst (v := 0) dX0_mostShared_4 (by decide) ?_
  refine kr_Sv (As := [kr_r E 333, .int (0 : Int32)]) (st := []) zs_J7_fill_53178 dX0_mostShared_5 ml_RX0_84 (r_J7_fill_53178 E 333 (kr_at_333) (0 : Int32) M) rfl rfl (Nat.le_of_ble_eq_true rfl) rfl (by decide) (Nat.le_of_ble_eq_true rfl) (fun M1 => ?_)
  refine kr_iconst (v := 1) dX0_mostShared_8 (by decide) ?_
  refine kr_istore_n (lv' := [(3, .int (1 : Int32)), (0, kr_r E 330), (1, kr_r E p1), (2, kr_r E p2)]) dX0_mostShared_9 rfl (by decide) rfl ?_
  refine kr_sub [1, 2, 3, 0] rfl ?_
  exact r_X0_mostShared_10 E p1 h_p1 p2 h_p2 _ (1 : Int32) M1
theorem dX1_isParty_0 : decode cX1_isParty 0 = .ok (.iload_n 1, 1) := by decide +kernel
theorem dX1_isParty_1 : decode cX1_isParty 1 = .ok (.iload_n 2, 1) := by decide +kernel
theorem dX1_isParty_2 : decode cX1_isParty 2 = .ok (.iconst (-1), 1) := by decide +kernel
theorem dX1_isParty_3 : decode cX1_isParty 3 = .ok (.ixor, 1) := by decide +kernel
theorem dX1_isParty_4 : decode cX1_isParty 4 = .ok (.iand, 1) := by decide +kernel
theorem dX1_isParty_5 : decode cX1_isParty 5 = .ok (.ifCond .ne 40, 3) := by decide +kernel
theorem dX1_isParty_8 : decode cX1_isParty 8 = .ok (.iload_n 1, 1) := by decide +kernel
theorem dX1_isParty_9 : decode cX1_isParty 9 = .ok (.iload_n 3, 1) := by decide +kernel
theorem dX1_isParty_10 : decode cX1_isParty 10 = .ok (.iand, 1) := by decide +kernel
theorem dX1_isParty_11 : decode cX1_isParty 11 = .ok (.ifCond .eq 34, 3) := by decide +kernel
theorem dX1_isParty_14 : decode cX1_isParty 14 = .ok (.aload_n 0, 1) := by decide +kernel
theorem dX1_isParty_15 : decode cX1_isParty 15 = .ok (.getfield 9, 3) := by decide +kernel
theorem dX1_isParty_18 : decode cX1_isParty 18 = .ok (.iload_n 1, 1) := by decide +kernel
theorem dX1_isParty_19 : decode cX1_isParty 19 = .ok (.iaload, 1) := by decide +kernel
theorem dX1_isParty_20 : decode cX1_isParty 20 = .ok (.aload_n 0, 1) := by decide +kernel
theorem dX1_isParty_21 : decode cX1_isParty 21 = .ok (.getfield 24, 3) := by decide +kernel
theorem dX1_isParty_24 : decode cX1_isParty 24 = .ok (.if_icmp .gt 21, 3) := by decide +kernel
theorem dX1_isParty_27 : decode cX1_isParty 27 = .ok (.aload_n 0, 1) := by decide +kernel
theorem dX1_isParty_28 : decode cX1_isParty 28 = .ok (.getfield 18, 3) := by decide +kernel
theorem dX1_isParty_31 : decode cX1_isParty 31 = .ok (.iload_n 2, 1) := by decide +kernel
theorem dX1_isParty_32 : decode cX1_isParty 32 = .ok (.iload_n 1, 1) := by decide +kernel
theorem dX1_isParty_33 : decode cX1_isParty 33 = .ok (.iconst (-1), 1) := by decide +kernel
theorem dX1_isParty_34 : decode cX1_isParty 34 = .ok (.ixor, 1) := by decide +kernel
theorem dX1_isParty_35 : decode cX1_isParty 35 = .ok (.iand, 1) := by decide +kernel
theorem dX1_isParty_36 : decode cX1_isParty 36 = .ok (.iaload, 1) := by decide +kernel
theorem dX1_isParty_37 : decode cX1_isParty 37 = .ok (.iconst (-1), 1) := by decide +kernel
theorem dX1_isParty_38 : decode cX1_isParty 38 = .ok (.if_icmp .eq 7, 3) := by decide +kernel
theorem dX1_isParty_41 : decode cX1_isParty 41 = .ok (.iconst 1, 1) := by decide +kernel
theorem dX1_isParty_42 : decode cX1_isParty 42 = .ok (.goto 4, 3) := by decide +kernel
theorem dX1_isParty_45 : decode cX1_isParty 45 = .ok (.iconst 0, 1) := by decide +kernel
theorem dX1_isParty_46 : decode cX1_isParty 46 = .ok (.ireturn, 1) := by decide +kernel
theorem r_X1_isParty (E : kr_E) (p1 : Int32) (p2 : Int32) (p3 : Int32) (M : kr_M) : kR kr_vi E Y_X1_isParty 1 0 [(0, kr_r E 341), (1, .int p1), (2, .int p2), (3, .int p3)] [] M (f_X1_isParty p1 p2 p3 M) := by
  rw [f_X1_isParty]
  refine kr_iload_n dX1_isParty_0 rfl 1 rfl ?_
  refine kr_iload_n dX1_isParty_1 rfl 2 rfl ?_
  refine kr_iconst (v := -1) dX1_isParty_2 (by decide) ?_
  refine kr_ixor dX1_isParty_3 ?_
  refine kr_iand dX1_isParty_4 ?_
  refine kr_if_ne (tgt := 45) dX1_isParty_5 (by decide) ?_ ?_
  · refine kr_iconst (v := 0) dX1_isParty_45 (by decide) ?_
    exact kr_zret1 dX1_isParty_46 rfl rfl
  · refine kr_iload_n dX1_isParty_8 rfl 1 rfl ?_
    refine kr_iload_n dX1_isParty_9 rfl 3 rfl ?_
    refine kr_iand dX1_isParty_10 ?_
    refine kr_if_eq (tgt := 45) dX1_isParty_11 (by decide) ?_ ?_
    · refine kr_iconst (v := 0) dX1_isParty_45 (by decide) ?_
      exact kr_zret1 dX1_isParty_46 rfl rfl
    · refine kr_aload_n dX1_isParty_14 rfl 0 rfl ?_
      refine kr_getA (o := 1) (ci := 1) (j := 1) dX1_isParty_15 kr_at_341 fl_RX1_9 rfl ?_
      refine kr_iload_n dX1_isParty_18 rfl 1 rfl ?_
      refine kr_iald dX1_isParty_19 kr_at_342 (fun v1 => ?_)
      refine kr_aload_n dX1_isParty_20 rfl 0 rfl ?_
      refine kr_getI (ci := 1) (j := 5) dX1_isParty_21 kr_at_341 fl_RX1_24 rfl (fun v2 => ?_)
      refine kr_icmp_gt (tgt := 45) dX1_isParty_24 (by decide) ?_ ?_
      · refine kr_iconst (v := 0) dX1_isParty_45 (by decide) ?_
        exact kr_zret1 dX1_isParty_46 rfl rfl
      · refine kr_aload_n dX1_isParty_27 rfl 0 rfl ?_
        refine kr_getA (o := 3) (ci := 1) (j := 3) dX1_isParty_28 kr_at_341 fl_RX1_18 rfl ?_
        refine kr_iload_n dX1_isParty_31 rfl 2 rfl ?_
        refine kr_iload_n dX1_isParty_32 rfl 1 rfl ?_
        refine kr_iconst (v := -1) dX1_isParty_33 (by decide) ?_
        refine kr_ixor dX1_isParty_34 ?_
        refine kr_iand dX1_isParty_35 ?_
        refine kr_iald dX1_isParty_36 kr_at_344 (fun v3 => ?_)
        refine kr_iconst (v := -1) dX1_isParty_37 (by decide) ?_
        refine kr_icmp_eq (tgt := 45) dX1_isParty_38 (by decide) ?_ ?_
        · refine kr_iconst (v := 0) dX1_isParty_45 (by decide) ?_
          exact kr_zret1 dX1_isParty_46 rfl rfl
        · refine kr_iconst (v := 1) dX1_isParty_41 (by decide) ?_
          refine kr_goto (tgt := 46) dX1_isParty_42 (by decide) ?_
          exact kr_zret1 dX1_isParty_46 rfl rfl
theorem dX1_studySet_0 : decode cX1_studySet 0 = .ok (.aload_n 0, 1) := by decide +kernel
theorem dX1_studySet_1 : decode cX1_studySet 1 = .ok (.getfield 18, 3) := by decide +kernel
theorem dX1_studySet_4 : decode cX1_studySet 4 = .ok (.iload_n 1, 1) := by decide +kernel
theorem dX1_studySet_5 : decode cX1_studySet 5 = .ok (.iconst (-1), 1) := by decide +kernel
theorem dX1_studySet_6 : decode cX1_studySet 6 = .ok (.iastore, 1) := by decide +kernel
theorem dX1_studySet_7 : decode cX1_studySet 7 = .ok (.aload_n 0, 1) := by decide +kernel
theorem dX1_studySet_8 : decode cX1_studySet 8 = .ok (.getfield 21, 3) := by decide +kernel
theorem dX1_studySet_11 : decode cX1_studySet 11 = .ok (.iload_n 1, 1) := by decide +kernel
theorem dX1_studySet_12 : decode cX1_studySet 12 = .ok (.iconst (-1), 1) := by decide +kernel
theorem dX1_studySet_13 : decode cX1_studySet 13 = .ok (.iastore, 1) := by decide +kernel
theorem dX1_studySet_14 : decode cX1_studySet 14 = .ok (.iload_n 1, 1) := by decide +kernel
theorem dX1_studySet_15 : decode cX1_studySet 15 = .ok (.iload_n 1, 1) := by decide +kernel
theorem dX1_studySet_16 : decode cX1_studySet 16 = .ok (.ineg, 1) := by decide +kernel
theorem dX1_studySet_17 : decode cX1_studySet 17 = .ok (.iand, 1) := by decide +kernel
theorem dX1_studySet_18 : decode cX1_studySet 18 = .ok (.istore_n 2, 1) := by decide +kernel
theorem dX1_studySet_19 : decode cX1_studySet 19 = .ok (.iload_n 2, 1) := by decide +kernel
theorem dX1_studySet_20 : decode cX1_studySet 20 = .ok (.istore_n 3, 1) := by decide +kernel
theorem dX1_studySet_21 : decode cX1_studySet 21 = .ok (.iload_n 3, 1) := by decide +kernel
theorem dX1_studySet_22 : decode cX1_studySet 22 = .ok (.iload_n 1, 1) := by decide +kernel
theorem dX1_studySet_23 : decode cX1_studySet 23 = .ok (.if_icmp .gt 78, 3) := by decide +kernel
theorem dX1_studySet_26 : decode cX1_studySet 26 = .ok (.aload_n 0, 1) := by decide +kernel
theorem dX1_studySet_27 : decode cX1_studySet 27 = .ok (.iload_n 3, 1) := by decide +kernel
theorem dX1_studySet_28 : decode cX1_studySet 28 = .ok (.iload_n 1, 1) := by decide +kernel
theorem dX1_studySet_29 : decode cX1_studySet 29 = .ok (.iload_n 2, 1) := by decide +kernel
theorem dX1_studySet_30 : decode cX1_studySet 30 = .ok (.invokevirtual 48, 3) := by decide +kernel
theorem dX1_studySet_33 : decode cX1_studySet 33 = .ok (.ifCond .eq 62, 3) := by decide +kernel
theorem dX1_studySet_36 : decode cX1_studySet 36 = .ok (.aload_n 0, 1) := by decide +kernel
theorem dX1_studySet_37 : decode cX1_studySet 37 = .ok (.getfield 18, 3) := by decide +kernel
theorem dX1_studySet_40 : decode cX1_studySet 40 = .ok (.iload_n 1, 1) := by decide +kernel
theorem dX1_studySet_41 : decode cX1_studySet 41 = .ok (.aload_n 0, 1) := by decide +kernel
theorem dX1_studySet_42 : decode cX1_studySet 42 = .ok (.getfield 18, 3) := by decide +kernel
theorem dX1_studySet_45 : decode cX1_studySet 45 = .ok (.iload_n 1, 1) := by decide +kernel
theorem dX1_studySet_46 : decode cX1_studySet 46 = .ok (.iaload, 1) := by decide +kernel
theorem dX1_studySet_47 : decode cX1_studySet 47 = .ok (.aload_n 0, 1) := by decide +kernel
theorem dX1_studySet_48 : decode cX1_studySet 48 = .ok (.getfield 15, 3) := by decide +kernel
theorem dX1_studySet_51 : decode cX1_studySet 51 = .ok (.iload_n 3, 1) := by decide +kernel
theorem dX1_studySet_52 : decode cX1_studySet 52 = .ok (.iaload, 1) := by decide +kernel
theorem dX1_studySet_53 : decode cX1_studySet 53 = .ok (.aload_n 0, 1) := by decide +kernel
theorem dX1_studySet_54 : decode cX1_studySet 54 = .ok (.getfield 18, 3) := by decide +kernel
theorem dX1_studySet_57 : decode cX1_studySet 57 = .ok (.iload_n 1, 1) := by decide +kernel
theorem dX1_studySet_58 : decode cX1_studySet 58 = .ok (.iload_n 3, 1) := by decide +kernel
theorem dX1_studySet_59 : decode cX1_studySet 59 = .ok (.iconst (-1), 1) := by decide +kernel
theorem dX1_studySet_60 : decode cX1_studySet 60 = .ok (.ixor, 1) := by decide +kernel
theorem dX1_studySet_61 : decode cX1_studySet 61 = .ok (.iand, 1) := by decide +kernel
theorem dX1_studySet_62 : decode cX1_studySet 62 = .ok (.iaload, 1) := by decide +kernel
theorem dX1_studySet_63 : decode cX1_studySet 63 = .ok (.iadd, 1) := by decide +kernel
theorem dX1_studySet_64 : decode cX1_studySet 64 = .ok (.invokestatic 52, 3) := by decide +kernel
theorem dX1_studySet_67 : decode cX1_studySet 67 = .ok (.iastore, 1) := by decide +kernel
theorem dX1_studySet_68 : decode cX1_studySet 68 = .ok (.aload_n 0, 1) := by decide +kernel
theorem dX1_studySet_69 : decode cX1_studySet 69 = .ok (.getfield 21, 3) := by decide +kernel
theorem dX1_studySet_72 : decode cX1_studySet 72 = .ok (.iload_n 1, 1) := by decide +kernel
theorem dX1_studySet_73 : decode cX1_studySet 73 = .ok (.aload_n 0, 1) := by decide +kernel
theorem dX1_studySet_74 : decode cX1_studySet 74 = .ok (.getfield 21, 3) := by decide +kernel
theorem dX1_studySet_77 : decode cX1_studySet 77 = .ok (.iload_n 1, 1) := by decide +kernel
theorem dX1_studySet_78 : decode cX1_studySet 78 = .ok (.iaload, 1) := by decide +kernel
theorem dX1_studySet_79 : decode cX1_studySet 79 = .ok (.iconst 1, 1) := by decide +kernel
theorem dX1_studySet_80 : decode cX1_studySet 80 = .ok (.aload_n 0, 1) := by decide +kernel
theorem dX1_studySet_81 : decode cX1_studySet 81 = .ok (.getfield 21, 3) := by decide +kernel
theorem dX1_studySet_84 : decode cX1_studySet 84 = .ok (.iload_n 1, 1) := by decide +kernel
theorem dX1_studySet_85 : decode cX1_studySet 85 = .ok (.iload_n 3, 1) := by decide +kernel
theorem dX1_studySet_86 : decode cX1_studySet 86 = .ok (.iconst (-1), 1) := by decide +kernel
theorem dX1_studySet_87 : decode cX1_studySet 87 = .ok (.ixor, 1) := by decide +kernel
theorem dX1_studySet_88 : decode cX1_studySet 88 = .ok (.iand, 1) := by decide +kernel
theorem dX1_studySet_89 : decode cX1_studySet 89 = .ok (.iaload, 1) := by decide +kernel
theorem dX1_studySet_90 : decode cX1_studySet 90 = .ok (.iadd, 1) := by decide +kernel
theorem dX1_studySet_91 : decode cX1_studySet 91 = .ok (.invokestatic 52, 3) := by decide +kernel
theorem dX1_studySet_94 : decode cX1_studySet 94 = .ok (.iastore, 1) := by decide +kernel
theorem dX1_studySet_95 : decode cX1_studySet 95 = .ok (.iinc 3 1, 3) := by decide +kernel
theorem dX1_studySet_98 : decode cX1_studySet 98 = .ok (.goto (-77), 3) := by decide +kernel
theorem dX1_studySet_101 : decode cX1_studySet 101 = .ok (.return_, 1) := by decide +kernel
theorem r_X1_studySet_95 (E : kr_E) (k_21 : Int32 → kr_M → Option kr_M) (l1 : Int32) (l2 : Int32) (l3 : Int32) (hk_21 : ∀ (x3 : Int32) (M : kr_M), kR kr_vv E Y_X1_studySet 3 21 [(0, kr_r E 341), (1, .int l1), (2, .int l2), (3, .int x3)] [] M (k_21 x3 M)) (M : kr_M) : kR kr_vv E Y_X1_studySet 3 95 [(0, kr_r E 341), (1, .int l1), (2, .int l2), (3, .int l3)] [] M (f_X1_studySet_95 k_21 l3 M) := by
  rw [f_X1_studySet_95]
  refine kr_iinc (j := 3) (v := (l3 + (1 : Int32))) (lv' := [(3, .int (l3 + (1 : Int32))), (0, kr_r E 341), (1, .int l1), (2, .int l2)]) dX1_studySet_95 rfl rfl (by decide) rfl ?_
  refine kr_goto (tgt := 21) dX1_studySet_98 (by decide) ?_
  refine kr_sub [1, 2, 3, 0] rfl ?_
  exact hk_21 (l3 + (1 : Int32)) M
theorem r_X1_studySet_21 (E : kr_E)  (l1 : Int32) (l2 : Int32)  : ∀ (n : Nat) (l3 : Int32) (M : kr_M), kR kr_vv E Y_X1_studySet 3 21 [(0, kr_r E 341), (1, .int l1), (2, .int l2), (3, .int l3)] [] M (f_X1_studySet_21 l1 l2 n l3 M) := by
  intro n
  induction n with
  | zero => intro l3 M; exact kr_none
  | succ n ih =>
    intro l3 M
    rw [f_X1_studySet_21]
    refine kr_iload_n dX1_studySet_21 rfl 3 rfl ?_
    refine kr_iload_n dX1_studySet_22 rfl 1 rfl ?_
    refine kr_icmp_gt (tgt := 101) dX1_studySet_23 (by decide) ?_ ?_
    · exact kr_vret dX1_studySet_101 rfl
    · refine kr_aload_n dX1_studySet_26 rfl 0 rfl ?_
      refine kr_iload_n dX1_studySet_27 rfl 3 rfl ?_
      refine kr_iload_n dX1_studySet_28 rfl 1 rfl ?_
      refine kr_iload_n dX1_studySet_29 rfl 2 rfl ?_
      refine kr_Vi (As := [.int l3, .int l1, .int l2]) (st := []) zv_X1_isParty dX1_studySet_30 ml_RX1_48 kr_at_341 (r_X1_isParty E l3 l1 l2 M) rfl rfl (Nat.le_of_ble_eq_true rfl) rfl (by decide) (Nat.le_of_ble_eq_true rfl) (fun r2 M1 => ?_)
      refine kr_if_eq (tgt := 95) dX1_studySet_33 (by decide) ?_ ?_
      · refine kr_sub [0, 1, 2, 3] rfl ?_
        exact r_X1_studySet_95 E _ l1 l2 l3 ih M1
      · refine kr_aload_n dX1_studySet_36 rfl 0 rfl ?_
        refine kr_getA (o := 3) (ci := 1) (j := 3) dX1_studySet_37 kr_at_341 fl_RX1_18 rfl ?_
        refine kr_iload_n dX1_studySet_40 rfl 1 rfl ?_
        refine kr_aload_n dX1_studySet_41 rfl 0 rfl ?_
        refine kr_getA (o := 3) (ci := 1) (j := 3) dX1_studySet_42 kr_at_341 fl_RX1_18 rfl ?_
        refine kr_iload_n dX1_studySet_45 rfl 1 rfl ?_
        refine kr_iald dX1_studySet_46 kr_at_344 (fun v3 => ?_)
        refine kr_aload_n dX1_studySet_47 rfl 0 rfl ?_
        refine kr_getA (o := 2) (ci := 1) (j := 2) dX1_studySet_48 kr_at_341 fl_RX1_15 rfl ?_
        refine kr_iload_n dX1_studySet_51 rfl 3 rfl ?_
        refine kr_iald dX1_studySet_52 kr_at_343 (fun v4 => ?_)
        refine kr_aload_n dX1_studySet_53 rfl 0 rfl ?_
        refine kr_getA (o := 3) (ci := 1) (j := 3) dX1_studySet_54 kr_at_341 fl_RX1_18 rfl ?_
        refine kr_iload_n dX1_studySet_57 rfl 1 rfl ?_
        refine kr_iload_n dX1_studySet_58 rfl 3 rfl ?_
        refine kr_iconst (v := -1) dX1_studySet_59 (by decide) ?_
        refine kr_ixor dX1_studySet_60 ?_
        refine kr_iand dX1_studySet_61 ?_
        refine kr_iald dX1_studySet_62 kr_at_344 (fun v5 => ?_)
        refine kr_iadd dX1_studySet_63 ?_
        refine kr_Ni (As := [.int v3, .int (v4 + v5)]) (st := [.int l1, kr_r E 344]) zs_X11_lesser dX1_studySet_64 rfl (by decide) (r_X11_lesser E v3 (v4 + v5) M1) rfl rfl (Nat.le_of_ble_eq_true rfl) rfl (by decide) (Nat.le_of_ble_eq_true rfl) (fun r7 M6 => ?_)
        refine kr_iast dX1_studySet_67 kr_at_344 (fun M8 => ?_)
        refine kr_aload_n dX1_studySet_68 rfl 0 rfl ?_
        refine kr_getA (o := 4) (ci := 1) (j := 4) dX1_studySet_69 kr_at_341 fl_RX1_21 rfl ?_
        refine kr_iload_n dX1_studySet_72 rfl 1 rfl ?_
        refine kr_aload_n dX1_studySet_73 rfl 0 rfl ?_
        refine kr_getA (o := 4) (ci := 1) (j := 4) dX1_studySet_74 kr_at_341 fl_RX1_21 rfl ?_
        refine kr_iload_n dX1_studySet_77 rfl 1 rfl ?_
        refine kr_iald dX1_studySet_78 kr_at_345 (fun v9 => ?_)
        refine kr_iconst (v := 1) dX1_studySet_79 (by decide) ?_
        refine kr_aload_n dX1_studySet_80 rfl 0 rfl ?_
        refine kr_getA (o := 4) (ci := 1) (j := 4) dX1_studySet_81 kr_at_341 fl_RX1_21 rfl ?_
        refine kr_iload_n dX1_studySet_84 rfl 1 rfl ?_
        refine kr_iload_n dX1_studySet_85 rfl 3 rfl ?_
        refine kr_iconst (v := -1) dX1_studySet_86 (by decide) ?_
        refine kr_ixor dX1_studySet_87 ?_
        refine kr_iand dX1_studySet_88 ?_
        refine kr_iald dX1_studySet_89 kr_at_345 (fun v10 => ?_)
        refine kr_iadd dX1_studySet_90 ?_
        refine kr_Ni (As := [.int v9, .int ((1 : Int32) + v10)]) (st := [.int l1, kr_r E 345]) zs_X11_lesser dX1_studySet_91 rfl (by decide) (r_X11_lesser E v9 ((1 : Int32) + v10) M8) rfl rfl (Nat.le_of_ble_eq_true rfl) rfl (by decide) (Nat.le_of_ble_eq_true rfl) (fun r12 M11 => ?_)
        refine kr_iast dX1_studySet_94 kr_at_345 (fun M13 => ?_)
        refine kr_sub [0, 1, 2, 3] rfl ?_
        exact r_X1_studySet_95 E _ l1 l2 l3 ih M13
theorem r_X1_studySet (E : kr_E) (p1 : Int32) (M : kr_M) : kR kr_vv E Y_X1_studySet 3 0 [(0, kr_r E 341), (1, .int p1)] [] M (f_X1_studySet p1 M) := by
  rw [f_X1_studySet]
  refine kr_aload_n dX1_studySet_0 rfl 0 rfl ?_
  refine kr_getA (o := 3) (ci := 1) (j := 3) dX1_studySet_1 kr_at_341 fl_RX1_18 rfl ?_
  refine kr_iload_n dX1_studySet_4 rfl 1 rfl ?_
  refine kr_iconst (v := -1) dX1_studySet_5 (by decide) ?_
  refine kr_iast dX1_studySet_6 kr_at_344 (fun M1 => ?_)
  refine kr_aload_n dX1_studySet_7 rfl 0 rfl ?_
  refine kr_getA (o := 4) (ci := 1) (j := 4) dX1_studySet_8 kr_at_341 fl_RX1_21 rfl ?_
  refine kr_iload_n dX1_studySet_11 rfl 1 rfl ?_
  refine kr_iconst (v := -1) dX1_studySet_12 (by decide) ?_
  refine kr_iast dX1_studySet_13 kr_at_345 (fun M2 => ?_)
  refine kr_iload_n dX1_studySet_14 rfl 1 rfl ?_
  refine kr_iload_n dX1_studySet_15 rfl 1 rfl ?_
  refine kr_ineg dX1_studySet_16 ?_
  refine kr_iand dX1_studySet_17 ?_
  refine kr_nmi (fun v3 => ?_)
  refine kr_istore_n (lv' := [(2, .int v3), (0, kr_r E 341), (1, .int p1)]) dX1_studySet_18 rfl (by decide) rfl ?_
  refine kr_iload_n dX1_studySet_19 rfl 0 rfl ?_
  refine kr_istore_n (lv' := [(3, .int v3), (2, .int v3), (0, kr_r E 341), (1, .int p1)]) dX1_studySet_20 rfl (by decide) rfl ?_
  refine kr_sub [2, 3, 1, 0] rfl ?_
  exact r_X1_studySet_21 E p1 v3 _ v3 M2
