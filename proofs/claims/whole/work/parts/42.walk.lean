theorem dX12_feel_0 : decode cX12_feel 0 = .ok (.aload_n 0, 1) := by decide +kernel
theorem dX12_feel_1 : decode cX12_feel 1 = .ok (.iconst 0, 1) := by decide +kernel
theorem dX12_feel_2 : decode cX12_feel 2 = .ok (.putfield 138, 3) := by decide +kernel
theorem dX12_feel_5 : decode cX12_feel 5 = .ok (.aload_n 0, 1) := by decide +kernel
theorem dX12_feel_6 : decode cX12_feel 6 = .ok (.iload_n 1, 1) := by decide +kernel
theorem dX12_feel_7 : decode cX12_feel 7 = .ok (.invokevirtual 319, 3) := by decide +kernel
theorem dX12_feel_10 : decode cX12_feel 10 = .ok (.ifCond .ne 6, 3) := by decide +kernel
theorem dX12_feel_13 : decode cX12_feel 13 = .ok (.bipush (-2), 2) := by decide +kernel
theorem dX12_feel_15 : decode cX12_feel 15 = .ok (.ireturn, 1) := by decide +kernel
theorem dX12_feel_16 : decode cX12_feel 16 = .ok (.aload_n 0, 1) := by decide +kernel
theorem dX12_feel_17 : decode cX12_feel 17 = .ok (.iload_n 1, 1) := by decide +kernel
theorem dX12_feel_18 : decode cX12_feel 18 = .ok (.invokevirtual 415, 3) := by decide +kernel
theorem dX12_feel_21 : decode cX12_feel 21 = .ok (.aload_n 0, 1) := by decide +kernel
theorem dX12_feel_22 : decode cX12_feel 22 = .ok (.getfield 409, 3) := by decide +kernel
theorem dX12_feel_25 : decode cX12_feel 25 = .ok (.ireturn, 1) := by decide +kernel
theorem r_X12_feel (E : kr_E) (p1 : Int32) (M : kr_M) : kR kr_vi E Y_X12_feel 7 0 [(0, kr_r E 346), (1, .int p1)] [] M (f_X12_feel p1 M) := by
  rw [f_X12_feel]
  refine kr_aload_n dX12_feel_0 rfl 0 rfl ?_
  refine kr_iconst (v := 0) dX12_feel_1 (by decide) ?_
  refine kr_putI (ci := 12) (j := 0) dX12_feel_2 kr_at_346 fl_RX12_138 rfl rfl (fun M1 => ?_)
  refine kr_aload_n dX12_feel_5 rfl 0 rfl ?_
  refine kr_iload_n dX12_feel_6 rfl 1 rfl ?_
  refine kr_Vi (As := [.int p1]) (st := []) zv_X12_isRope dX12_feel_7 ml_RX12_319 kr_at_346 (r_X12_isRope E p1 M1) rfl rfl (Nat.le_of_ble_eq_true rfl) rfl (by decide) (Nat.le_of_ble_eq_true rfl) (fun r3 M2 => ?_)
  refine kr_if_ne (tgt := 16) dX12_feel_10 (by decide) ?_ ?_
  · refine kr_aload_n dX12_feel_16 rfl 0 rfl ?_
    refine kr_iload_n dX12_feel_17 rfl 1 rfl ?_
    refine kr_Vv (As := [.int p1]) (st := []) zv_X12_laysFeel dX12_feel_18 ml_RX12_415 kr_at_346 (r_X12_laysFeel E p1 M2) rfl rfl (Nat.le_of_ble_eq_true rfl) rfl (by decide) (Nat.le_of_ble_eq_true rfl) (fun M4 => ?_)
    refine kr_aload_n dX12_feel_21 rfl 0 rfl ?_
    refine kr_getI (ci := 12) (j := 44) dX12_feel_22 kr_at_346 fl_RX12_409 rfl (fun v6 => ?_)
    exact kr_iret dX12_feel_25 rfl
  · refine kr_bipush (v := -2) dX12_feel_13 (by decide) ?_
    exact kr_iret dX12_feel_15 rfl
theorem dX12_leaves_0 : decode cX12_leaves 0 = .ok (.aload_n 0, 1) := by decide +kernel
theorem dX12_leaves_1 : decode cX12_leaves 1 = .ok (.iconst 0, 1) := by decide +kernel
theorem dX12_leaves_2 : decode cX12_leaves 2 = .ok (.putfield 138, 3) := by decide +kernel
theorem dX12_leaves_5 : decode cX12_leaves 5 = .ok (.aload_n 0, 1) := by decide +kernel
theorem dX12_leaves_6 : decode cX12_leaves 6 = .ok (.iload_n 1, 1) := by decide +kernel
theorem dX12_leaves_7 : decode cX12_leaves 7 = .ok (.invokevirtual 319, 3) := by decide +kernel
theorem dX12_leaves_10 : decode cX12_leaves 10 = .ok (.ifCond .ne 6, 3) := by decide +kernel
theorem dX12_leaves_13 : decode cX12_leaves 13 = .ok (.bipush (-2), 2) := by decide +kernel
theorem dX12_leaves_15 : decode cX12_leaves 15 = .ok (.ireturn, 1) := by decide +kernel
theorem dX12_leaves_16 : decode cX12_leaves 16 = .ok (.aload_n 0, 1) := by decide +kernel
theorem dX12_leaves_17 : decode cX12_leaves 17 = .ok (.iload_n 1, 1) := by decide +kernel
theorem dX12_leaves_18 : decode cX12_leaves 18 = .ok (.invokevirtual 415, 3) := by decide +kernel
theorem dX12_leaves_21 : decode cX12_leaves 21 = .ok (.aload_n 0, 1) := by decide +kernel
theorem dX12_leaves_22 : decode cX12_leaves 22 = .ok (.getfield 412, 3) := by decide +kernel
theorem dX12_leaves_25 : decode cX12_leaves 25 = .ok (.ireturn, 1) := by decide +kernel
theorem r_X12_leaves (E : kr_E) (p1 : Int32) (M : kr_M) : kR kr_vi E Y_X12_leaves 7 0 [(0, kr_r E 346), (1, .int p1)] [] M (f_X12_leaves p1 M) := by
  rw [f_X12_leaves]
  refine kr_aload_n dX12_leaves_0 rfl 0 rfl ?_
  refine kr_iconst (v := 0) dX12_leaves_1 (by decide) ?_
  refine kr_putI (ci := 12) (j := 0) dX12_leaves_2 kr_at_346 fl_RX12_138 rfl rfl (fun M1 => ?_)
  refine kr_aload_n dX12_leaves_5 rfl 0 rfl ?_
  refine kr_iload_n dX12_leaves_6 rfl 1 rfl ?_
  refine kr_Vi (As := [.int p1]) (st := []) zv_X12_isRope dX12_leaves_7 ml_RX12_319 kr_at_346 (r_X12_isRope E p1 M1) rfl rfl (Nat.le_of_ble_eq_true rfl) rfl (by decide) (Nat.le_of_ble_eq_true rfl) (fun r3 M2 => ?_)
  refine kr_if_ne (tgt := 16) dX12_leaves_10 (by decide) ?_ ?_
  · refine kr_aload_n dX12_leaves_16 rfl 0 rfl ?_
    refine kr_iload_n dX12_leaves_17 rfl 1 rfl ?_
    refine kr_Vv (As := [.int p1]) (st := []) zv_X12_laysFeel dX12_leaves_18 ml_RX12_415 kr_at_346 (r_X12_laysFeel E p1 M2) rfl rfl (Nat.le_of_ble_eq_true rfl) rfl (by decide) (Nat.le_of_ble_eq_true rfl) (fun M4 => ?_)
    refine kr_aload_n dX12_leaves_21 rfl 0 rfl ?_
    refine kr_getI (ci := 12) (j := 45) dX12_leaves_22 kr_at_346 fl_RX12_412 rfl (fun v6 => ?_)
    exact kr_iret dX12_leaves_25 rfl
  · refine kr_bipush (v := -2) dX12_leaves_13 (by decide) ?_
    exact kr_iret dX12_leaves_15 rfl
theorem dX12_laysForged_0 : decode cX12_laysForged 0 = .ok (.aload_n 0, 1) := by decide +kernel
theorem dX12_laysForged_1 : decode cX12_laysForged 1 = .ok (.iload_n 1, 1) := by decide +kernel
theorem dX12_laysForged_2 : decode cX12_laysForged 2 = .ok (.invokevirtual 403, 3) := by decide +kernel
theorem dX12_laysForged_5 : decode cX12_laysForged 5 = .ok (.aload_n 0, 1) := by decide +kernel
theorem dX12_laysForged_6 : decode cX12_laysForged 6 = .ok (.iconst (-1), 1) := by decide +kernel
theorem dX12_laysForged_7 : decode cX12_laysForged 7 = .ok (.putfield 418, 3) := by decide +kernel
theorem dX12_laysForged_10 : decode cX12_laysForged 10 = .ok (.aload_n 0, 1) := by decide +kernel
theorem dX12_laysForged_11 : decode cX12_laysForged 11 = .ok (.iconst (-1), 1) := by decide +kernel
theorem dX12_laysForged_12 : decode cX12_laysForged 12 = .ok (.putfield 421, 3) := by decide +kernel
theorem dX12_laysForged_15 : decode cX12_laysForged 15 = .ok (.iconst 0, 1) := by decide +kernel
theorem dX12_laysForged_16 : decode cX12_laysForged 16 = .ok (.istore_n 2, 1) := by decide +kernel
theorem dX12_laysForged_17 : decode cX12_laysForged 17 = .ok (.iload_n 2, 1) := by decide +kernel
theorem dX12_laysForged_18 : decode cX12_laysForged 18 = .ok (.bipush 6, 2) := by decide +kernel
theorem dX12_laysForged_20 : decode cX12_laysForged 20 = .ok (.aload_n 0, 1) := by decide +kernel
theorem dX12_laysForged_21 : decode cX12_laysForged 21 = .ok (.getfield 351, 3) := by decide +kernel
theorem dX12_laysForged_24 : decode cX12_laysForged 24 = .ok (.imul, 1) := by decide +kernel
theorem dX12_laysForged_25 : decode cX12_laysForged 25 = .ok (.if_icmp .ge 101, 3) := by decide +kernel
theorem dX12_laysForged_28 : decode cX12_laysForged 28 = .ok (.aload_n 0, 1) := by decide +kernel
theorem dX12_laysForged_29 : decode cX12_laysForged 29 = .ok (.getfield 394, 3) := by decide +kernel
theorem dX12_laysForged_32 : decode cX12_laysForged 32 = .ok (.ifCond .le 94, 3) := by decide +kernel
theorem dX12_laysForged_35 : decode cX12_laysForged 35 = .ok (.iload_n 2, 1) := by decide +kernel
theorem dX12_laysForged_36 : decode cX12_laysForged 36 = .ok (.bipush 6, 2) := by decide +kernel
theorem dX12_laysForged_38 : decode cX12_laysForged 38 = .ok (.irem, 1) := by decide +kernel
theorem dX12_laysForged_39 : decode cX12_laysForged 39 = .ok (.aload_n 0, 1) := by decide +kernel
theorem dX12_laysForged_40 : decode cX12_laysForged 40 = .ok (.getfield 34, 3) := by decide +kernel
theorem dX12_laysForged_43 : decode cX12_laysForged 43 = .ok (.iconst 3, 1) := by decide +kernel
theorem dX12_laysForged_44 : decode cX12_laysForged 44 = .ok (.iaload, 1) := by decide +kernel
theorem dX12_laysForged_45 : decode cX12_laysForged 45 = .ok (.if_icmp .ge 75, 3) := by decide +kernel
theorem dX12_laysForged_48 : decode cX12_laysForged 48 = .ok (.aload_n 0, 1) := by decide +kernel
theorem dX12_laysForged_49 : decode cX12_laysForged 49 = .ok (.getfield 99, 3) := by decide +kernel
theorem dX12_laysForged_52 : decode cX12_laysForged 52 = .ok (.iload_n 2, 1) := by decide +kernel
theorem dX12_laysForged_53 : decode cX12_laysForged 53 = .ok (.baload, 1) := by decide +kernel
theorem dX12_laysForged_54 : decode cX12_laysForged 54 = .ok (.ifCond .ne 6, 3) := by decide +kernel
theorem dX12_laysForged_57 : decode cX12_laysForged 57 = .ok (.goto 63, 3) := by decide +kernel
theorem dX12_laysForged_60 : decode cX12_laysForged 60 = .ok (.aload_n 0, 1) := by decide +kernel
theorem dX12_laysForged_61 : decode cX12_laysForged 61 = .ok (.getfield 102, 3) := by decide +kernel
theorem dX12_laysForged_64 : decode cX12_laysForged 64 = .ok (.iload_n 2, 1) := by decide +kernel
theorem dX12_laysForged_65 : decode cX12_laysForged 65 = .ok (.iaload, 1) := by decide +kernel
theorem dX12_laysForged_66 : decode cX12_laysForged 66 = .ok (.aload_n 0, 1) := by decide +kernel
theorem dX12_laysForged_67 : decode cX12_laysForged 67 = .ok (.getfield 397, 3) := by decide +kernel
theorem dX12_laysForged_70 : decode cX12_laysForged 70 = .ok (.if_icmp .le 17, 3) := by decide +kernel
theorem dX12_laysForged_73 : decode cX12_laysForged 73 = .ok (.aload_n 0, 1) := by decide +kernel
theorem dX12_laysForged_74 : decode cX12_laysForged 74 = .ok (.getfield 102, 3) := by decide +kernel
theorem dX12_laysForged_77 : decode cX12_laysForged 77 = .ok (.iload_n 2, 1) := by decide +kernel
theorem dX12_laysForged_78 : decode cX12_laysForged 78 = .ok (.iaload, 1) := by decide +kernel
theorem dX12_laysForged_79 : decode cX12_laysForged 79 = .ok (.aload_n 0, 1) := by decide +kernel
theorem dX12_laysForged_80 : decode cX12_laysForged 80 = .ok (.getfield 397, 3) := by decide +kernel
theorem dX12_laysForged_83 : decode cX12_laysForged 83 = .ok (.isub, 1) := by decide +kernel
theorem dX12_laysForged_84 : decode cX12_laysForged 84 = .ok (.goto 14, 3) := by decide +kernel
theorem dX12_laysForged_87 : decode cX12_laysForged 87 = .ok (.aload_n 0, 1) := by decide +kernel
theorem dX12_laysForged_88 : decode cX12_laysForged 88 = .ok (.getfield 397, 3) := by decide +kernel
theorem dX12_laysForged_91 : decode cX12_laysForged 91 = .ok (.aload_n 0, 1) := by decide +kernel
theorem dX12_laysForged_92 : decode cX12_laysForged 92 = .ok (.getfield 102, 3) := by decide +kernel
theorem dX12_laysForged_95 : decode cX12_laysForged 95 = .ok (.iload_n 2, 1) := by decide +kernel
theorem dX12_laysForged_96 : decode cX12_laysForged 96 = .ok (.iaload, 1) := by decide +kernel
theorem dX12_laysForged_97 : decode cX12_laysForged 97 = .ok (.isub, 1) := by decide +kernel
theorem dX12_laysForged_98 : decode cX12_laysForged 98 = .ok (.istore_n 3, 1) := by decide +kernel
theorem dX12_laysForged_99 : decode cX12_laysForged 99 = .ok (.iload_n 3, 1) := by decide +kernel
theorem dX12_laysForged_100 : decode cX12_laysForged 100 = .ok (.aload_n 0, 1) := by decide +kernel
theorem dX12_laysForged_101 : decode cX12_laysForged 101 = .ok (.getfield 418, 3) := by decide +kernel
theorem dX12_laysForged_104 : decode cX12_laysForged 104 = .ok (.if_icmp .gt 6, 3) := by decide +kernel
theorem dX12_laysForged_107 : decode cX12_laysForged 107 = .ok (.goto 13, 3) := by decide +kernel
theorem dX12_laysForged_110 : decode cX12_laysForged 110 = .ok (.aload_n 0, 1) := by decide +kernel
theorem dX12_laysForged_111 : decode cX12_laysForged 111 = .ok (.iload_n 3, 1) := by decide +kernel
theorem dX12_laysForged_112 : decode cX12_laysForged 112 = .ok (.putfield 418, 3) := by decide +kernel
theorem dX12_laysForged_115 : decode cX12_laysForged 115 = .ok (.aload_n 0, 1) := by decide +kernel
theorem dX12_laysForged_116 : decode cX12_laysForged 116 = .ok (.iload_n 2, 1) := by decide +kernel
theorem dX12_laysForged_117 : decode cX12_laysForged 117 = .ok (.putfield 421, 3) := by decide +kernel
theorem dX12_laysForged_120 : decode cX12_laysForged 120 = .ok (.iinc 2 1, 3) := by decide +kernel
theorem dX12_laysForged_123 : decode cX12_laysForged 123 = .ok (.goto (-106), 3) := by decide +kernel
theorem dX12_laysForged_126 : decode cX12_laysForged 126 = .ok (.return_, 1) := by decide +kernel
theorem r_X12_laysForged_120 (E : kr_E) (k_17 : Int32 → kr_M → Option kr_M) (l2 : Int32) (hk_17 : ∀ (x2 : Int32) (M : kr_M), kR kr_vv E Y_X12_laysForged 6 17 [(0, kr_r E 346), (2, .int x2)] [] M (k_17 x2 M)) (M : kr_M) : kR kr_vv E Y_X12_laysForged 6 120 [(0, kr_r E 346), (2, .int l2)] [] M (f_X12_laysForged_120 k_17 l2 M) := by
  rw [f_X12_laysForged_120]
  refine kr_iinc (j := 1) (v := (l2 + (1 : Int32))) (lv' := [(2, .int (l2 + (1 : Int32))), (0, kr_r E 346)]) dX12_laysForged_120 rfl rfl (by decide) rfl ?_
  refine kr_goto (tgt := 17) dX12_laysForged_123 (by decide) ?_
  refine kr_sub [1, 0] rfl ?_
  exact hk_17 (l2 + (1 : Int32)) M
theorem r_X12_laysForged_98 (E : kr_E) (k_17 : Int32 → kr_M → Option kr_M) (l2 : Int32) (s0 : Int32) (hk_17 : ∀ (x2 : Int32) (M : kr_M), kR kr_vv E Y_X12_laysForged 6 17 [(0, kr_r E 346), (2, .int x2)] [] M (k_17 x2 M)) (M : kr_M) : kR kr_vv E Y_X12_laysForged 6 98 [(0, kr_r E 346), (2, .int l2)] [.int s0] M (f_X12_laysForged_98 k_17 l2 s0 M) := by
  rw [f_X12_laysForged_98]
  refine kr_istore_n (lv' := [(3, .int s0), (0, kr_r E 346), (2, .int l2)]) dX12_laysForged_98 rfl (by decide) rfl ?_
  refine kr_iload_n dX12_laysForged_99 rfl 0 rfl ?_
  refine kr_aload_n dX12_laysForged_100 rfl 1 rfl ?_
  refine kr_getI (ci := 12) (j := 46) dX12_laysForged_101 kr_at_346 fl_RX12_418 rfl (fun v1 => ?_)
  refine kr_icmp_gt (tgt := 110) dX12_laysForged_104 (by decide) ?_ ?_
  · refine kr_aload_n dX12_laysForged_110 rfl 1 rfl ?_
    refine kr_iload_n dX12_laysForged_111 rfl 0 rfl ?_
    refine kr_putI (ci := 12) (j := 46) dX12_laysForged_112 kr_at_346 fl_RX12_418 rfl rfl (fun M2 => ?_)
    refine kr_aload_n dX12_laysForged_115 rfl 1 rfl ?_
    refine kr_iload_n dX12_laysForged_116 rfl 2 rfl ?_
    refine kr_putI (ci := 12) (j := 47) dX12_laysForged_117 kr_at_346 fl_RX12_421 rfl rfl (fun M3 => ?_)
    refine kr_sub [1, 2] rfl ?_
    exact r_X12_laysForged_120 E _ l2 hk_17 M3
  · refine kr_goto (tgt := 120) dX12_laysForged_107 (by decide) ?_
    refine kr_sub [1, 2] rfl ?_
    exact r_X12_laysForged_120 E _ l2 hk_17 M
theorem r_X12_laysForged_17 (E : kr_E)    : ∀ (n : Nat) (l2 : Int32) (M : kr_M), kR kr_vv E Y_X12_laysForged 6 17 [(0, kr_r E 346), (2, .int l2)] [] M (f_X12_laysForged_17 n l2 M) := by
  intro n
  induction n with
  | zero => intro l2 M; exact kr_none
  | succ n ih =>
    intro l2 M
    rw [f_X12_laysForged_17]
    refine kr_iload_n dX12_laysForged_17 rfl 1 rfl ?_
    refine kr_bipush (v := 6) dX12_laysForged_18 (by decide) ?_
    refine kr_aload_n dX12_laysForged_20 rfl 0 rfl ?_
    refine kr_getI (ci := 12) (j := 34) dX12_laysForged_21 kr_at_346 fl_RX12_351 rfl (fun v1 => ?_)
    refine kr_imul dX12_laysForged_24 ?_
    refine kr_icmp_ge (tgt := 126) dX12_laysForged_25 (by decide) ?_ ?_
    · exact kr_vret dX12_laysForged_126 rfl
    · refine kr_aload_n dX12_laysForged_28 rfl 0 rfl ?_
      refine kr_getI (ci := 12) (j := 42) dX12_laysForged_29 kr_at_346 fl_RX12_394 rfl (fun v2 => ?_)
      refine kr_if_le (tgt := 126) dX12_laysForged_32 (by decide) ?_ ?_
      · exact kr_vret dX12_laysForged_126 rfl
      · refine kr_iload_n dX12_laysForged_35 rfl 1 rfl ?_
        refine kr_bipush (v := 6) dX12_laysForged_36 (by decide) ?_
        refine kr_irem dX12_laysForged_38 (fun n3 => ?_)
        refine kr_aload_n dX12_laysForged_39 rfl 0 rfl ?_
        refine kr_getA (o := 7) (ci := 12) (j := 17) dX12_laysForged_40 kr_at_346 fl_RX12_34 rfl ?_
        refine kr_iconst (v := 3) dX12_laysForged_43 (by decide) ?_
        refine kr_iald dX12_laysForged_44 kr_at_353 (fun v4 => ?_)
        refine kr_icmp_ge (tgt := 120) dX12_laysForged_45 (by decide) ?_ ?_
        · refine kr_sub [0, 1] rfl ?_
          exact r_X12_laysForged_120 E _ l2 ih M
        · refine kr_aload_n dX12_laysForged_48 rfl 0 rfl ?_
          refine kr_getA (o := 28) (ci := 12) (j := 40) dX12_laysForged_49 kr_at_346 fl_RX12_99 rfl ?_
          refine kr_iload_n dX12_laysForged_52 rfl 1 rfl ?_
          refine kr_zald dX12_laysForged_53 kr_at_374 (fun v5 => ?_)
          refine kr_if_ne (tgt := 60) dX12_laysForged_54 (by decide) ?_ ?_
          · refine kr_aload_n dX12_laysForged_60 rfl 0 rfl ?_
            refine kr_getA (o := 29) (ci := 12) (j := 41) dX12_laysForged_61 kr_at_346 fl_RX12_102 rfl ?_
            refine kr_iload_n dX12_laysForged_64 rfl 1 rfl ?_
            refine kr_iald dX12_laysForged_65 kr_at_375 (fun v6 => ?_)
            refine kr_aload_n dX12_laysForged_66 rfl 0 rfl ?_
            refine kr_getI (ci := 12) (j := 43) dX12_laysForged_67 kr_at_346 fl_RX12_397 rfl (fun v7 => ?_)
            refine kr_icmp_le (tgt := 87) dX12_laysForged_70 (by decide) ?_ ?_
            · refine kr_aload_n dX12_laysForged_87 rfl 0 rfl ?_
              refine kr_getI (ci := 12) (j := 43) dX12_laysForged_88 kr_at_346 fl_RX12_397 rfl (fun v8 => ?_)
              refine kr_aload_n dX12_laysForged_91 rfl 0 rfl ?_
              refine kr_getA (o := 29) (ci := 12) (j := 41) dX12_laysForged_92 kr_at_346 fl_RX12_102 rfl ?_
              refine kr_iload_n dX12_laysForged_95 rfl 1 rfl ?_
              refine kr_iald dX12_laysForged_96 kr_at_375 (fun v9 => ?_)
              refine kr_isub dX12_laysForged_97 ?_
              refine kr_sub [0, 1] rfl ?_
              exact r_X12_laysForged_98 E _ l2 (v8 - v9) ih M
            · refine kr_aload_n dX12_laysForged_73 rfl 0 rfl ?_
              refine kr_getA (o := 29) (ci := 12) (j := 41) dX12_laysForged_74 kr_at_346 fl_RX12_102 rfl ?_
              refine kr_iload_n dX12_laysForged_77 rfl 1 rfl ?_
              refine kr_iald dX12_laysForged_78 kr_at_375 (fun v10 => ?_)
              refine kr_aload_n dX12_laysForged_79 rfl 0 rfl ?_
              refine kr_getI (ci := 12) (j := 43) dX12_laysForged_80 kr_at_346 fl_RX12_397 rfl (fun v11 => ?_)
              refine kr_isub dX12_laysForged_83 ?_
              refine kr_goto (tgt := 98) dX12_laysForged_84 (by decide) ?_
              refine kr_sub [0, 1] rfl ?_
              exact r_X12_laysForged_98 E _ l2 (v10 - v11) ih M
          · refine kr_goto (tgt := 120) dX12_laysForged_57 (by decide) ?_
            refine kr_sub [0, 1] rfl ?_
            exact r_X12_laysForged_120 E _ l2 ih M
theorem r_X12_laysForged (E : kr_E) (p1 : Int32) (M : kr_M) : kR kr_vv E Y_X12_laysForged 6 0 [(0, kr_r E 346), (1, .int p1)] [] M (f_X12_laysForged p1 M) := by
  rw [f_X12_laysForged]
  refine kr_aload_n dX12_laysForged_0 rfl 0 rfl ?_
  refine kr_iload_n dX12_laysForged_1 rfl 1 rfl ?_
  refine kr_Vv (As := [.int p1]) (st := []) zv_X12_laysSlips dX12_laysForged_2 ml_RX12_403 kr_at_346 (r_X12_laysSlips E p1 M) rfl rfl (Nat.le_of_ble_eq_true rfl) rfl (by decide) (Nat.le_of_ble_eq_true rfl) (fun M1 => ?_)
  refine kr_aload_n dX12_laysForged_5 rfl 0 rfl ?_
  refine kr_iconst (v := -1) dX12_laysForged_6 (by decide) ?_
  refine kr_putI (ci := 12) (j := 46) dX12_laysForged_7 kr_at_346 fl_RX12_418 rfl rfl (fun M3 => ?_)
  refine kr_aload_n dX12_laysForged_10 rfl 0 rfl ?_
  refine kr_iconst (v := -1) dX12_laysForged_11 (by decide) ?_
  refine kr_putI (ci := 12) (j := 47) dX12_laysForged_12 kr_at_346 fl_RX12_421 rfl rfl (fun M4 => ?_)
  refine kr_iconst (v := 0) dX12_laysForged_15 (by decide) ?_
  refine kr_istore_n (lv' := [(2, .int (0 : Int32)), (0, kr_r E 346), (1, .int p1)]) dX12_laysForged_16 rfl (by decide) rfl ?_
  refine kr_sub [1, 0] rfl ?_
  exact r_X12_laysForged_17 E _ (0 : Int32) M4
theorem dX12_forged_0 : decode cX12_forged 0 = .ok (.aload_n 0, 1) := by decide +kernel
theorem dX12_forged_1 : decode cX12_forged 1 = .ok (.iconst 0, 1) := by decide +kernel
theorem dX12_forged_2 : decode cX12_forged 2 = .ok (.putfield 138, 3) := by decide +kernel
theorem dX12_forged_5 : decode cX12_forged 5 = .ok (.aload_n 0, 1) := by decide +kernel
theorem dX12_forged_6 : decode cX12_forged 6 = .ok (.iload_n 1, 1) := by decide +kernel
theorem dX12_forged_7 : decode cX12_forged 7 = .ok (.invokevirtual 319, 3) := by decide +kernel
theorem dX12_forged_10 : decode cX12_forged 10 = .ok (.ifCond .ne 6, 3) := by decide +kernel
theorem dX12_forged_13 : decode cX12_forged 13 = .ok (.bipush (-2), 2) := by decide +kernel
theorem dX12_forged_15 : decode cX12_forged 15 = .ok (.ireturn, 1) := by decide +kernel
theorem dX12_forged_16 : decode cX12_forged 16 = .ok (.aload_n 0, 1) := by decide +kernel
theorem dX12_forged_17 : decode cX12_forged 17 = .ok (.iload_n 1, 1) := by decide +kernel
theorem dX12_forged_18 : decode cX12_forged 18 = .ok (.invokevirtual 424, 3) := by decide +kernel
theorem dX12_forged_21 : decode cX12_forged 21 = .ok (.aload_n 0, 1) := by decide +kernel
theorem dX12_forged_22 : decode cX12_forged 22 = .ok (.getfield 418, 3) := by decide +kernel
theorem dX12_forged_25 : decode cX12_forged 25 = .ok (.ireturn, 1) := by decide +kernel
theorem r_X12_forged (E : kr_E) (p1 : Int32) (M : kr_M) : kR kr_vi E Y_X12_forged 7 0 [(0, kr_r E 346), (1, .int p1)] [] M (f_X12_forged p1 M) := by
  rw [f_X12_forged]
  refine kr_aload_n dX12_forged_0 rfl 0 rfl ?_
  refine kr_iconst (v := 0) dX12_forged_1 (by decide) ?_
  refine kr_putI (ci := 12) (j := 0) dX12_forged_2 kr_at_346 fl_RX12_138 rfl rfl (fun M1 => ?_)
  refine kr_aload_n dX12_forged_5 rfl 0 rfl ?_
  refine kr_iload_n dX12_forged_6 rfl 1 rfl ?_
  refine kr_Vi (As := [.int p1]) (st := []) zv_X12_isRope dX12_forged_7 ml_RX12_319 kr_at_346 (r_X12_isRope E p1 M1) rfl rfl (Nat.le_of_ble_eq_true rfl) rfl (by decide) (Nat.le_of_ble_eq_true rfl) (fun r3 M2 => ?_)
  refine kr_if_ne (tgt := 16) dX12_forged_10 (by decide) ?_ ?_
  · refine kr_aload_n dX12_forged_16 rfl 0 rfl ?_
    refine kr_iload_n dX12_forged_17 rfl 1 rfl ?_
    refine kr_Vv (As := [.int p1]) (st := []) zv_X12_laysForged dX12_forged_18 ml_RX12_424 kr_at_346 (r_X12_laysForged E p1 M2) rfl rfl (Nat.le_of_ble_eq_true rfl) rfl (by decide) (Nat.le_of_ble_eq_true rfl) (fun M4 => ?_)
    refine kr_aload_n dX12_forged_21 rfl 0 rfl ?_
    refine kr_getI (ci := 12) (j := 46) dX12_forged_22 kr_at_346 fl_RX12_418 rfl (fun v6 => ?_)
    exact kr_iret dX12_forged_25 rfl
  · refine kr_bipush (v := -2) dX12_forged_13 (by decide) ?_
    exact kr_iret dX12_forged_15 rfl
theorem dX12_forge_0 : decode cX12_forge 0 = .ok (.aload_n 0, 1) := by decide +kernel
theorem dX12_forge_1 : decode cX12_forge 1 = .ok (.iconst 0, 1) := by decide +kernel
theorem dX12_forge_2 : decode cX12_forge 2 = .ok (.putfield 138, 3) := by decide +kernel
theorem dX12_forge_5 : decode cX12_forge 5 = .ok (.aload_n 0, 1) := by decide +kernel
theorem dX12_forge_6 : decode cX12_forge 6 = .ok (.iload_n 1, 1) := by decide +kernel
theorem dX12_forge_7 : decode cX12_forge 7 = .ok (.invokevirtual 319, 3) := by decide +kernel
theorem dX12_forge_10 : decode cX12_forge 10 = .ok (.ifCond .eq 13, 3) := by decide +kernel
theorem dX12_forge_13 : decode cX12_forge 13 = .ok (.iload_n 2, 1) := by decide +kernel
theorem dX12_forge_14 : decode cX12_forge 14 = .ok (.i2l, 1) := by decide +kernel
theorem dX12_forge_15 : decode cX12_forge 15 = .ok (.lconst 0, 1) := by decide +kernel
theorem dX12_forge_16 : decode cX12_forge 16 = .ok (.lconst 1, 1) := by decide +kernel
theorem dX12_forge_17 : decode cX12_forge 17 = .ok (.invokestatic 143, 3) := by decide +kernel
theorem dX12_forge_20 : decode cX12_forge 20 = .ok (.ifCond .ne 6, 3) := by decide +kernel
theorem dX12_forge_23 : decode cX12_forge 23 = .ok (.bipush (-2), 2) := by decide +kernel
theorem dX12_forge_25 : decode cX12_forge 25 = .ok (.ireturn, 1) := by decide +kernel
theorem dX12_forge_26 : decode cX12_forge 26 = .ok (.aload_n 0, 1) := by decide +kernel
theorem dX12_forge_27 : decode cX12_forge 27 = .ok (.iload_n 1, 1) := by decide +kernel
theorem dX12_forge_28 : decode cX12_forge 28 = .ok (.invokevirtual 424, 3) := by decide +kernel
theorem dX12_forge_31 : decode cX12_forge 31 = .ok (.aload_n 0, 1) := by decide +kernel
theorem dX12_forge_32 : decode cX12_forge 32 = .ok (.getfield 421, 3) := by decide +kernel
theorem dX12_forge_35 : decode cX12_forge 35 = .ok (.iconst (-1), 1) := by decide +kernel
theorem dX12_forge_36 : decode cX12_forge 36 = .ok (.if_icmp .ne 7, 3) := by decide +kernel
theorem dX12_forge_39 : decode cX12_forge 39 = .ok (.iconst (-1), 1) := by decide +kernel
theorem dX12_forge_40 : decode cX12_forge 40 = .ok (.goto 24, 3) := by decide +kernel
theorem dX12_forge_43 : decode cX12_forge 43 = .ok (.iload_n 2, 1) := by decide +kernel
theorem dX12_forge_44 : decode cX12_forge 44 = .ok (.ifCond .ne 13, 3) := by decide +kernel
theorem dX12_forge_47 : decode cX12_forge 47 = .ok (.aload_n 0, 1) := by decide +kernel
theorem dX12_forge_48 : decode cX12_forge 48 = .ok (.getfield 421, 3) := by decide +kernel
theorem dX12_forge_51 : decode cX12_forge 51 = .ok (.bipush 6, 2) := by decide +kernel
theorem dX12_forge_53 : decode cX12_forge 53 = .ok (.idiv, 1) := by decide +kernel
theorem dX12_forge_54 : decode cX12_forge 54 = .ok (.goto 10, 3) := by decide +kernel
theorem dX12_forge_57 : decode cX12_forge 57 = .ok (.aload_n 0, 1) := by decide +kernel
theorem dX12_forge_58 : decode cX12_forge 58 = .ok (.getfield 421, 3) := by decide +kernel
theorem dX12_forge_61 : decode cX12_forge 61 = .ok (.bipush 6, 2) := by decide +kernel
theorem dX12_forge_63 : decode cX12_forge 63 = .ok (.irem, 1) := by decide +kernel
theorem dX12_forge_64 : decode cX12_forge 64 = .ok (.ireturn, 1) := by decide +kernel
theorem r_X12_forge (E : kr_E) (p1 : Int32) (p2 : Int32) (M : kr_M) : kR kr_vi E Y_X12_forge 7 0 [(0, kr_r E 346), (1, .int p1), (2, .int p2)] [] M (f_X12_forge p1 p2 M) := by
  rw [f_X12_forge]
  refine kr_aload_n dX12_forge_0 rfl 0 rfl ?_
  refine kr_iconst (v := 0) dX12_forge_1 (by decide) ?_
  refine kr_putI (ci := 12) (j := 0) dX12_forge_2 kr_at_346 fl_RX12_138 rfl rfl (fun M1 => ?_)
  refine kr_aload_n dX12_forge_5 rfl 0 rfl ?_
  refine kr_iload_n dX12_forge_6 rfl 1 rfl ?_
  refine kr_Vi (As := [.int p1]) (st := []) zv_X12_isRope dX12_forge_7 ml_RX12_319 kr_at_346 (r_X12_isRope E p1 M1) rfl rfl (Nat.le_of_ble_eq_true rfl) rfl (by decide) (Nat.le_of_ble_eq_true rfl) (fun r3 M2 => ?_)
  refine kr_if_eq (tgt := 23) dX12_forge_10 (by decide) ?_ ?_
  · refine kr_bipush (v := -2) dX12_forge_23 (by decide) ?_
    exact kr_iret dX12_forge_25 rfl
  · refine kr_iload_n dX12_forge_13 rfl 2 rfl ?_
    refine kr_i2l dX12_forge_14 ?_
    refine kr_lconst (v := 0) dX12_forge_15 (by decide) ?_
    refine kr_lconst (v := 1) dX12_forge_16 (by decide) ?_
    refine kr_Si (As := [.long (p2.toInt64), .long (0 : Int64), .long (1 : Int64)]) (st := []) zs_X12_in dX12_forge_17 ml_RX12_143 (r_X12_in E (p2.toInt64) (0 : Int64) (1 : Int64) M2) rfl rfl (Nat.le_of_ble_eq_true rfl) rfl (by decide) (Nat.le_of_ble_eq_true rfl) (fun r5 M4 => ?_)
    refine kr_if_ne (tgt := 26) dX12_forge_20 (by decide) ?_ ?_
    · refine kr_aload_n dX12_forge_26 rfl 0 rfl ?_
      refine kr_iload_n dX12_forge_27 rfl 1 rfl ?_
      refine kr_Vv (As := [.int p1]) (st := []) zv_X12_laysForged dX12_forge_28 ml_RX12_424 kr_at_346 (r_X12_laysForged E p1 M4) rfl rfl (Nat.le_of_ble_eq_true rfl) rfl (by decide) (Nat.le_of_ble_eq_true rfl) (fun M6 => ?_)
      refine kr_aload_n dX12_forge_31 rfl 0 rfl ?_
      refine kr_getI (ci := 12) (j := 47) dX12_forge_32 kr_at_346 fl_RX12_421 rfl (fun v8 => ?_)
      refine kr_iconst (v := -1) dX12_forge_35 (by decide) ?_
      refine kr_icmp_ne (tgt := 43) dX12_forge_36 (by decide) ?_ ?_
      · refine kr_iload_n dX12_forge_43 rfl 2 rfl ?_
        refine kr_if_ne (tgt := 57) dX12_forge_44 (by decide) ?_ ?_
        · refine kr_aload_n dX12_forge_57 rfl 0 rfl ?_
          refine kr_getI (ci := 12) (j := 47) dX12_forge_58 kr_at_346 fl_RX12_421 rfl (fun v9 => ?_)
          refine kr_bipush (v := 6) dX12_forge_61 (by decide) ?_
          refine kr_irem dX12_forge_63 (fun n10 => ?_)
          exact kr_iret dX12_forge_64 rfl
        · refine kr_aload_n dX12_forge_47 rfl 0 rfl ?_
          refine kr_getI (ci := 12) (j := 47) dX12_forge_48 kr_at_346 fl_RX12_421 rfl (fun v11 => ?_)
          refine kr_bipush (v := 6) dX12_forge_51 (by decide) ?_
          refine kr_idiv dX12_forge_53 (fun n12 => ?_)
          refine kr_goto (tgt := 64) dX12_forge_54 (by decide) ?_
          exact kr_iret dX12_forge_64 rfl
      · refine kr_iconst (v := -1) dX12_forge_39 (by decide) ?_
        refine kr_goto (tgt := 64) dX12_forge_40 (by decide) ?_
        exact kr_iret dX12_forge_64 rfl
    · refine kr_bipush (v := -2) dX12_forge_23 (by decide) ?_
      exact kr_iret dX12_forge_25 rfl
theorem dX12_areLike_0 : decode cX12_areLike 0 = .ok (.iconst 0, 1) := by decide +kernel
theorem dX12_areLike_1 : decode cX12_areLike 1 = .ok (.istore 6, 2) := by decide +kernel
theorem dX12_areLike_3 : decode cX12_areLike 3 = .ok (.iload 6, 2) := by decide +kernel
theorem dX12_areLike_5 : decode cX12_areLike 5 = .ok (.iload 5, 2) := by decide +kernel
theorem dX12_areLike_7 : decode cX12_areLike 7 = .ok (.if_icmp .ge 43, 3) := by decide +kernel
theorem dX12_areLike_10 : decode cX12_areLike 10 = .ok (.aload_n 0, 1) := by decide +kernel
theorem dX12_areLike_11 : decode cX12_areLike 11 = .ok (.getfield 68, 3) := by decide +kernel
theorem dX12_areLike_14 : decode cX12_areLike 14 = .ok (.bipush 24, 2) := by decide +kernel
theorem dX12_areLike_16 : decode cX12_areLike 16 = .ok (.iload_n 1, 1) := by decide +kernel
theorem dX12_areLike_17 : decode cX12_areLike 17 = .ok (.imul, 1) := by decide +kernel
theorem dX12_areLike_18 : decode cX12_areLike 18 = .ok (.iload_n 2, 1) := by decide +kernel
theorem dX12_areLike_19 : decode cX12_areLike 19 = .ok (.iadd, 1) := by decide +kernel
theorem dX12_areLike_20 : decode cX12_areLike 20 = .ok (.iload 6, 2) := by decide +kernel
theorem dX12_areLike_22 : decode cX12_areLike 22 = .ok (.iadd, 1) := by decide +kernel
theorem dX12_areLike_23 : decode cX12_areLike 23 = .ok (.iaload, 1) := by decide +kernel
theorem dX12_areLike_24 : decode cX12_areLike 24 = .ok (.aload_n 0, 1) := by decide +kernel
theorem dX12_areLike_25 : decode cX12_areLike 25 = .ok (.getfield 68, 3) := by decide +kernel
theorem dX12_areLike_28 : decode cX12_areLike 28 = .ok (.bipush 24, 2) := by decide +kernel
theorem dX12_areLike_30 : decode cX12_areLike 30 = .ok (.iload_n 3, 1) := by decide +kernel
theorem dX12_areLike_31 : decode cX12_areLike 31 = .ok (.imul, 1) := by decide +kernel
theorem dX12_areLike_32 : decode cX12_areLike 32 = .ok (.iload 4, 2) := by decide +kernel
theorem dX12_areLike_34 : decode cX12_areLike 34 = .ok (.iadd, 1) := by decide +kernel
theorem dX12_areLike_35 : decode cX12_areLike 35 = .ok (.iload 6, 2) := by decide +kernel
theorem dX12_areLike_37 : decode cX12_areLike 37 = .ok (.iadd, 1) := by decide +kernel
theorem dX12_areLike_38 : decode cX12_areLike 38 = .ok (.iaload, 1) := by decide +kernel
theorem dX12_areLike_39 : decode cX12_areLike 39 = .ok (.if_icmp .eq 5, 3) := by decide +kernel
theorem dX12_areLike_42 : decode cX12_areLike 42 = .ok (.iconst 0, 1) := by decide +kernel
theorem dX12_areLike_43 : decode cX12_areLike 43 = .ok (.ireturn, 1) := by decide +kernel
theorem dX12_areLike_44 : decode cX12_areLike 44 = .ok (.iinc 6 1, 3) := by decide +kernel
theorem dX12_areLike_47 : decode cX12_areLike 47 = .ok (.goto (-44), 3) := by decide +kernel
theorem dX12_areLike_50 : decode cX12_areLike 50 = .ok (.iconst 1, 1) := by decide +kernel
theorem dX12_areLike_51 : decode cX12_areLike 51 = .ok (.ireturn, 1) := by decide +kernel
theorem r_X12_areLike_3 (E : kr_E)  (l1 : Int32) (l2 : Int32) (l3 : Int32) (l4 : Int32) (l5 : Int32)  : ∀ (n : Nat) (l6 : Int32) (M : kr_M), kR kr_vi E Y_X12_areLike 1 3 [(0, kr_r E 346), (1, .int l1), (2, .int l2), (3, .int l3), (4, .int l4), (5, .int l5), (6, .int l6)] [] M (f_X12_areLike_3 l1 l2 l3 l4 l5 n l6 M) := by
  intro n
  induction n with
  | zero => intro l6 M; exact kr_none
  | succ n ih =>
    intro l6 M
    rw [f_X12_areLike_3]
    refine kr_iload dX12_areLike_3 6 rfl ?_
    refine kr_iload dX12_areLike_5 5 rfl ?_
    refine kr_icmp_ge (tgt := 50) dX12_areLike_7 (by decide) ?_ ?_
    · refine kr_iconst (v := 1) dX12_areLike_50 (by decide) ?_
      exact kr_zret1 dX12_areLike_51 rfl rfl
    · refine kr_aload_n dX12_areLike_10 rfl 0 rfl ?_
      refine kr_getA (o := 18) (ci := 12) (j := 28) dX12_areLike_11 kr_at_346 fl_RX12_68 rfl ?_
      refine kr_bipush (v := 24) dX12_areLike_14 (by decide) ?_
      refine kr_iload_n dX12_areLike_16 rfl 1 rfl ?_
      refine kr_imul dX12_areLike_17 ?_
      refine kr_iload_n dX12_areLike_18 rfl 2 rfl ?_
      refine kr_iadd dX12_areLike_19 ?_
      refine kr_iload dX12_areLike_20 6 rfl ?_
      refine kr_iadd dX12_areLike_22 ?_
      refine kr_iald dX12_areLike_23 kr_at_364 (fun v1 => ?_)
      refine kr_aload_n dX12_areLike_24 rfl 0 rfl ?_
      refine kr_getA (o := 18) (ci := 12) (j := 28) dX12_areLike_25 kr_at_346 fl_RX12_68 rfl ?_
      refine kr_bipush (v := 24) dX12_areLike_28 (by decide) ?_
      refine kr_iload_n dX12_areLike_30 rfl 3 rfl ?_
      refine kr_imul dX12_areLike_31 ?_
      refine kr_iload dX12_areLike_32 4 rfl ?_
      refine kr_iadd dX12_areLike_34 ?_
      refine kr_iload dX12_areLike_35 6 rfl ?_
      refine kr_iadd dX12_areLike_37 ?_
      refine kr_iald dX12_areLike_38 kr_at_364 (fun v2 => ?_)
      refine kr_icmp_eq (tgt := 44) dX12_areLike_39 (by decide) ?_ ?_
      · refine kr_iinc (j := 6) (v := (l6 + (1 : Int32))) (lv' := [(6, .int (l6 + (1 : Int32))), (0, kr_r E 346), (1, .int l1), (2, .int l2), (3, .int l3), (4, .int l4), (5, .int l5)]) dX12_areLike_44 rfl rfl (by decide) rfl ?_
        refine kr_goto (tgt := 3) dX12_areLike_47 (by decide) ?_
        refine kr_sub [1, 2, 3, 4, 5, 6, 0] rfl ?_
        exact ih (l6 + (1 : Int32)) M
      · refine kr_iconst (v := 0) dX12_areLike_42 (by decide) ?_
        exact kr_zret1 dX12_areLike_43 rfl rfl
theorem r_X12_areLike (E : kr_E) (p1 : Int32) (p2 : Int32) (p3 : Int32) (p4 : Int32) (p5 : Int32) (M : kr_M) : kR kr_vi E Y_X12_areLike 1 0 [(0, kr_r E 346), (1, .int p1), (2, .int p2), (3, .int p3), (4, .int p4), (5, .int p5)] [] M (f_X12_areLike p1 p2 p3 p4 p5 M) := by
  rw [f_X12_areLike]
  refine kr_iconst (v := 0) dX12_areLike_0 (by decide) ?_
  refine kr_istore (lv' := [(6, .int (0 : Int32)), (0, kr_r E 346), (1, .int p1), (2, .int p2), (3, .int p3), (4, .int p4), (5, .int p5)]) dX12_areLike_1 (by decide) rfl ?_
  refine kr_sub [1, 2, 3, 4, 5, 6, 0] rfl ?_
  exact r_X12_areLike_3 E p1 p2 p3 p4 p5 _ (0 : Int32) M
theorem dX12_overlapOf_0 : decode cX12_overlapOf 0 = .ok (.aload_n 0, 1) := by decide +kernel
theorem dX12_overlapOf_1 : decode cX12_overlapOf 1 = .ok (.getfield 71, 3) := by decide +kernel
theorem dX12_overlapOf_4 : decode cX12_overlapOf 4 = .ok (.iload_n 1, 1) := by decide +kernel
theorem dX12_overlapOf_5 : decode cX12_overlapOf 5 = .ok (.iaload, 1) := by decide +kernel
theorem dX12_overlapOf_6 : decode cX12_overlapOf 6 = .ok (.aload_n 0, 1) := by decide +kernel
theorem dX12_overlapOf_7 : decode cX12_overlapOf 7 = .ok (.getfield 71, 3) := by decide +kernel
theorem dX12_overlapOf_10 : decode cX12_overlapOf 10 = .ok (.iload_n 2, 1) := by decide +kernel
theorem dX12_overlapOf_11 : decode cX12_overlapOf 11 = .ok (.iaload, 1) := by decide +kernel
theorem dX12_overlapOf_12 : decode cX12_overlapOf 12 = .ok (.if_icmp .ge 12, 3) := by decide +kernel
theorem dX12_overlapOf_15 : decode cX12_overlapOf 15 = .ok (.aload_n 0, 1) := by decide +kernel
theorem dX12_overlapOf_16 : decode cX12_overlapOf 16 = .ok (.getfield 71, 3) := by decide +kernel
theorem dX12_overlapOf_19 : decode cX12_overlapOf 19 = .ok (.iload_n 1, 1) := by decide +kernel
theorem dX12_overlapOf_20 : decode cX12_overlapOf 20 = .ok (.iaload, 1) := by decide +kernel
theorem dX12_overlapOf_21 : decode cX12_overlapOf 21 = .ok (.goto 9, 3) := by decide +kernel
theorem dX12_overlapOf_24 : decode cX12_overlapOf 24 = .ok (.aload_n 0, 1) := by decide +kernel
theorem dX12_overlapOf_25 : decode cX12_overlapOf 25 = .ok (.getfield 71, 3) := by decide +kernel
theorem dX12_overlapOf_28 : decode cX12_overlapOf 28 = .ok (.iload_n 2, 1) := by decide +kernel
theorem dX12_overlapOf_29 : decode cX12_overlapOf 29 = .ok (.iaload, 1) := by decide +kernel
theorem dX12_overlapOf_30 : decode cX12_overlapOf 30 = .ok (.istore_n 3, 1) := by decide +kernel
theorem dX12_overlapOf_31 : decode cX12_overlapOf 31 = .ok (.iload_n 1, 1) := by decide +kernel
theorem dX12_overlapOf_32 : decode cX12_overlapOf 32 = .ok (.iload_n 2, 1) := by decide +kernel
theorem dX12_overlapOf_33 : decode cX12_overlapOf 33 = .ok (.if_icmp .ne 6, 3) := by decide +kernel
theorem dX12_overlapOf_36 : decode cX12_overlapOf 36 = .ok (.iinc 3 (-1), 3) := by decide +kernel
theorem dX12_overlapOf_39 : decode cX12_overlapOf 39 = .ok (.iload_n 3, 1) := by decide +kernel
theorem dX12_overlapOf_40 : decode cX12_overlapOf 40 = .ok (.ifCond .le 28, 3) := by decide +kernel
theorem dX12_overlapOf_43 : decode cX12_overlapOf 43 = .ok (.aload_n 0, 1) := by decide +kernel
theorem dX12_overlapOf_44 : decode cX12_overlapOf 44 = .ok (.iload_n 1, 1) := by decide +kernel
theorem dX12_overlapOf_45 : decode cX12_overlapOf 45 = .ok (.aload_n 0, 1) := by decide +kernel
theorem dX12_overlapOf_46 : decode cX12_overlapOf 46 = .ok (.getfield 71, 3) := by decide +kernel
theorem dX12_overlapOf_49 : decode cX12_overlapOf 49 = .ok (.iload_n 1, 1) := by decide +kernel
theorem dX12_overlapOf_50 : decode cX12_overlapOf 50 = .ok (.iaload, 1) := by decide +kernel
theorem dX12_overlapOf_51 : decode cX12_overlapOf 51 = .ok (.iload_n 3, 1) := by decide +kernel
theorem dX12_overlapOf_52 : decode cX12_overlapOf 52 = .ok (.isub, 1) := by decide +kernel
theorem dX12_overlapOf_53 : decode cX12_overlapOf 53 = .ok (.iload_n 2, 1) := by decide +kernel
theorem dX12_overlapOf_54 : decode cX12_overlapOf 54 = .ok (.iconst 0, 1) := by decide +kernel
theorem dX12_overlapOf_55 : decode cX12_overlapOf 55 = .ok (.iload_n 3, 1) := by decide +kernel
theorem dX12_overlapOf_56 : decode cX12_overlapOf 56 = .ok (.invokevirtual 427, 3) := by decide +kernel
theorem dX12_overlapOf_59 : decode cX12_overlapOf 59 = .ok (.ifCond .ne 9, 3) := by decide +kernel
theorem dX12_overlapOf_62 : decode cX12_overlapOf 62 = .ok (.iinc 3 (-1), 3) := by decide +kernel
theorem dX12_overlapOf_65 : decode cX12_overlapOf 65 = .ok (.goto (-26), 3) := by decide +kernel
theorem dX12_overlapOf_68 : decode cX12_overlapOf 68 = .ok (.iload_n 3, 1) := by decide +kernel
theorem dX12_overlapOf_69 : decode cX12_overlapOf 69 = .ok (.ireturn, 1) := by decide +kernel
theorem r_X12_overlapOf_39 (E : kr_E)  (l1 : Int32) (l2 : Int32)  : ∀ (n : Nat) (l3 : Int32) (M : kr_M), kR kr_vi E Y_X12_overlapOf 2 39 [(0, kr_r E 346), (1, .int l1), (2, .int l2), (3, .int l3)] [] M (f_X12_overlapOf_39 l1 l2 n l3 M) := by
  intro n
  induction n with
  | zero => intro l3 M; exact kr_none
  | succ n ih =>
    intro l3 M
    rw [f_X12_overlapOf_39]
    refine kr_iload_n dX12_overlapOf_39 rfl 3 rfl ?_
    refine kr_if_le (tgt := 68) dX12_overlapOf_40 (by decide) ?_ ?_
    · refine kr_iload_n dX12_overlapOf_68 rfl 3 rfl ?_
      exact kr_iret dX12_overlapOf_69 rfl
    · refine kr_aload_n dX12_overlapOf_43 rfl 0 rfl ?_
      refine kr_iload_n dX12_overlapOf_44 rfl 1 rfl ?_
      refine kr_aload_n dX12_overlapOf_45 rfl 0 rfl ?_
      refine kr_getA (o := 19) (ci := 12) (j := 29) dX12_overlapOf_46 kr_at_346 fl_RX12_71 rfl ?_
      refine kr_iload_n dX12_overlapOf_49 rfl 1 rfl ?_
      refine kr_iald dX12_overlapOf_50 kr_at_365 (fun v1 => ?_)
      refine kr_iload_n dX12_overlapOf_51 rfl 3 rfl ?_
      refine kr_isub dX12_overlapOf_52 ?_
      refine kr_iload_n dX12_overlapOf_53 rfl 2 rfl ?_
      refine kr_iconst (v := 0) dX12_overlapOf_54 (by decide) ?_
      refine kr_iload_n dX12_overlapOf_55 rfl 3 rfl ?_
      refine kr_Vi (As := [.int l1, .int (v1 - l3), .int l2, .int (0 : Int32), .int l3]) (st := []) zv_X12_areLike dX12_overlapOf_56 ml_RX12_427 kr_at_346 (r_X12_areLike E l1 (v1 - l3) l2 (0 : Int32) l3 M) rfl rfl (Nat.le_of_ble_eq_true rfl) rfl (by decide) (Nat.le_of_ble_eq_true rfl) (fun r3 M2 => ?_)
      refine kr_if_ne (tgt := 68) dX12_overlapOf_59 (by decide) ?_ ?_
      · refine kr_iload_n dX12_overlapOf_68 rfl 3 rfl ?_
        exact kr_iret dX12_overlapOf_69 rfl
      · refine kr_iinc (j := 3) (v := (l3 + (-1 : Int32))) (lv' := [(3, .int (l3 + (-1 : Int32))), (0, kr_r E 346), (1, .int l1), (2, .int l2)]) dX12_overlapOf_62 rfl rfl (by decide) rfl ?_
        refine kr_goto (tgt := 39) dX12_overlapOf_65 (by decide) ?_
        refine kr_sub [1, 2, 3, 0] rfl ?_
        exact ih (l3 + (-1 : Int32)) M2
theorem r_X12_overlapOf_30 (E : kr_E)  (l1 : Int32) (l2 : Int32) (s0 : Int32)  (M : kr_M) : kR kr_vi E Y_X12_overlapOf 2 30 [(0, kr_r E 346), (1, .int l1), (2, .int l2)] [.int s0] M (f_X12_overlapOf_30 l1 l2 s0 M) := by
  rw [f_X12_overlapOf_30]
  refine kr_istore_n (lv' := [(3, .int s0), (0, kr_r E 346), (1, .int l1), (2, .int l2)]) dX12_overlapOf_30 rfl (by decide) rfl ?_
  refine kr_iload_n dX12_overlapOf_31 rfl 2 rfl ?_
  refine kr_iload_n dX12_overlapOf_32 rfl 3 rfl ?_
  refine kr_icmp_ne (tgt := 39) dX12_overlapOf_33 (by decide) ?_ ?_
  · refine kr_sub [1, 2, 3, 0] rfl ?_
    exact r_X12_overlapOf_39 E l1 l2 _ s0 M
  · refine kr_iinc (j := 0) (v := (s0 + (-1 : Int32))) (lv' := [(3, .int (s0 + (-1 : Int32))), (0, kr_r E 346), (1, .int l1), (2, .int l2)]) dX12_overlapOf_36 rfl rfl (by decide) rfl ?_
    refine kr_sub [1, 2, 3, 0] rfl ?_
    exact r_X12_overlapOf_39 E l1 l2 _ (s0 + (-1 : Int32)) M
theorem r_X12_overlapOf (E : kr_E) (p1 : Int32) (p2 : Int32) (M : kr_M) : kR kr_vi E Y_X12_overlapOf 2 0 [(0, kr_r E 346), (1, .int p1), (2, .int p2)] [] M (f_X12_overlapOf p1 p2 M) := by
  rw [f_X12_overlapOf]
  refine kr_aload_n dX12_overlapOf_0 rfl 0 rfl ?_
  refine kr_getA (o := 19) (ci := 12) (j := 29) dX12_overlapOf_1 kr_at_346 fl_RX12_71 rfl ?_
  refine kr_iload_n dX12_overlapOf_4 rfl 1 rfl ?_
  refine kr_iald dX12_overlapOf_5 kr_at_365 (fun v1 => ?_)
  refine kr_aload_n dX12_overlapOf_6 rfl 0 rfl ?_
  refine kr_getA (o := 19) (ci := 12) (j := 29) dX12_overlapOf_7 kr_at_346 fl_RX12_71 rfl ?_
  refine kr_iload_n dX12_overlapOf_10 rfl 2 rfl ?_
  refine kr_iald dX12_overlapOf_11 kr_at_365 (fun v2 => ?_)
  refine kr_icmp_ge (tgt := 24) dX12_overlapOf_12 (by decide) ?_ ?_
  · refine kr_aload_n dX12_overlapOf_24 rfl 0 rfl ?_
    refine kr_getA (o := 19) (ci := 12) (j := 29) dX12_overlapOf_25 kr_at_346 fl_RX12_71 rfl ?_
    refine kr_iload_n dX12_overlapOf_28 rfl 2 rfl ?_
    refine kr_iald dX12_overlapOf_29 kr_at_365 (fun v3 => ?_)
    refine kr_sub [0, 1, 2] rfl ?_
    exact r_X12_overlapOf_30 E p1 p2 v3 M
  · refine kr_aload_n dX12_overlapOf_15 rfl 0 rfl ?_
    refine kr_getA (o := 19) (ci := 12) (j := 29) dX12_overlapOf_16 kr_at_346 fl_RX12_71 rfl ?_
    refine kr_iload_n dX12_overlapOf_19 rfl 1 rfl ?_
    refine kr_iald dX12_overlapOf_20 kr_at_365 (fun v4 => ?_)
    refine kr_goto (tgt := 30) dX12_overlapOf_21 (by decide) ?_
    refine kr_sub [0, 1, 2] rfl ?_
    exact r_X12_overlapOf_30 E p1 p2 v4 M
theorem dX12_overlap_0 : decode cX12_overlap 0 = .ok (.aload_n 0, 1) := by decide +kernel
theorem dX12_overlap_1 : decode cX12_overlap 1 = .ok (.iconst 0, 1) := by decide +kernel
theorem dX12_overlap_2 : decode cX12_overlap 2 = .ok (.putfield 138, 3) := by decide +kernel
theorem dX12_overlap_5 : decode cX12_overlap 5 = .ok (.aload_n 0, 1) := by decide +kernel
theorem dX12_overlap_6 : decode cX12_overlap 6 = .ok (.iload_n 1, 1) := by decide +kernel
theorem dX12_overlap_7 : decode cX12_overlap 7 = .ok (.iload_n 2, 1) := by decide +kernel
theorem dX12_overlap_8 : decode cX12_overlap 8 = .ok (.invokevirtual 431, 3) := by decide +kernel
theorem dX12_overlap_11 : decode cX12_overlap 11 = .ok (.ifCond .ne 6, 3) := by decide +kernel
theorem dX12_overlap_14 : decode cX12_overlap 14 = .ok (.bipush (-2), 2) := by decide +kernel
theorem dX12_overlap_16 : decode cX12_overlap 16 = .ok (.ireturn, 1) := by decide +kernel
theorem dX12_overlap_17 : decode cX12_overlap 17 = .ok (.aload_n 0, 1) := by decide +kernel
theorem dX12_overlap_18 : decode cX12_overlap 18 = .ok (.invokevirtual 337, 3) := by decide +kernel
theorem dX12_overlap_21 : decode cX12_overlap 21 = .ok (.aload_n 0, 1) := by decide +kernel
theorem dX12_overlap_22 : decode cX12_overlap 22 = .ok (.iload_n 1, 1) := by decide +kernel
theorem dX12_overlap_23 : decode cX12_overlap 23 = .ok (.iload_n 2, 1) := by decide +kernel
theorem dX12_overlap_24 : decode cX12_overlap 24 = .ok (.invokevirtual 434, 3) := by decide +kernel
theorem dX12_overlap_27 : decode cX12_overlap 27 = .ok (.ireturn, 1) := by decide +kernel
theorem r_X12_overlap (E : kr_E) (p1 : Int32) (p2 : Int32) (M : kr_M) : kR kr_vi E Y_X12_overlap 4 0 [(0, kr_r E 346), (1, .int p1), (2, .int p2)] [] M (f_X12_overlap p1 p2 M) := by
  rw [f_X12_overlap]
  refine kr_aload_n dX12_overlap_0 rfl 0 rfl ?_
  refine kr_iconst (v := 0) dX12_overlap_1 (by decide) ?_
  refine kr_putI (ci := 12) (j := 0) dX12_overlap_2 kr_at_346 fl_RX12_138 rfl rfl (fun M1 => ?_)
  refine kr_aload_n dX12_overlap_5 rfl 0 rfl ?_
  refine kr_iload_n dX12_overlap_6 rfl 1 rfl ?_
  refine kr_iload_n dX12_overlap_7 rfl 2 rfl ?_
  refine kr_Vi (As := [.int p1, .int p2]) (st := []) zv_X12_areRopes dX12_overlap_8 ml_RX12_431 kr_at_346 (r_X12_areRopes E p1 p2 M1) rfl rfl (Nat.le_of_ble_eq_true rfl) rfl (by decide) (Nat.le_of_ble_eq_true rfl) (fun r3 M2 => ?_)
  refine kr_if_ne (tgt := 17) dX12_overlap_11 (by decide) ?_ ?_
  · refine kr_aload_n dX12_overlap_17 rfl 0 rfl ?_
    refine kr_Vv (As := []) (st := []) zv_X12_lays dX12_overlap_18 ml_RX12_337 kr_at_346 (r_X12_lays E  M2) rfl rfl (Nat.le_of_ble_eq_true rfl) rfl (by decide) (Nat.le_of_ble_eq_true rfl) (fun M4 => ?_)
    refine kr_aload_n dX12_overlap_21 rfl 0 rfl ?_
    refine kr_iload_n dX12_overlap_22 rfl 1 rfl ?_
    refine kr_iload_n dX12_overlap_23 rfl 2 rfl ?_
    refine kr_Vi (As := [.int p1, .int p2]) (st := []) zv_X12_overlapOf dX12_overlap_24 ml_RX12_434 kr_at_346 (r_X12_overlapOf E p1 p2 M4) rfl rfl (Nat.le_of_ble_eq_true rfl) rfl (by decide) (Nat.le_of_ble_eq_true rfl) (fun r7 M6 => ?_)
    exact kr_iret dX12_overlap_27 rfl
  · refine kr_bipush (v := -2) dX12_overlap_14 (by decide) ?_
    exact kr_iret dX12_overlap_16 rfl
theorem dX12_partOf_0 : decode cX12_partOf 0 = .ok (.iconst 0, 1) := by decide +kernel
theorem dX12_partOf_1 : decode cX12_partOf 1 = .ok (.istore_n 3, 1) := by decide +kernel
theorem dX12_partOf_2 : decode cX12_partOf 2 = .ok (.iload_n 3, 1) := by decide +kernel
theorem dX12_partOf_3 : decode cX12_partOf 3 = .ok (.aload_n 0, 1) := by decide +kernel
theorem dX12_partOf_4 : decode cX12_partOf 4 = .ok (.getfield 71, 3) := by decide +kernel
theorem dX12_partOf_7 : decode cX12_partOf 7 = .ok (.iload_n 2, 1) := by decide +kernel
theorem dX12_partOf_8 : decode cX12_partOf 8 = .ok (.iaload, 1) := by decide +kernel
theorem dX12_partOf_9 : decode cX12_partOf 9 = .ok (.iadd, 1) := by decide +kernel
theorem dX12_partOf_10 : decode cX12_partOf 10 = .ok (.aload_n 0, 1) := by decide +kernel
theorem dX12_partOf_11 : decode cX12_partOf 11 = .ok (.getfield 71, 3) := by decide +kernel
theorem dX12_partOf_14 : decode cX12_partOf 14 = .ok (.iload_n 1, 1) := by decide +kernel
theorem dX12_partOf_15 : decode cX12_partOf 15 = .ok (.iaload, 1) := by decide +kernel
theorem dX12_partOf_16 : decode cX12_partOf 16 = .ok (.if_icmp .gt 28, 3) := by decide +kernel
theorem dX12_partOf_19 : decode cX12_partOf 19 = .ok (.aload_n 0, 1) := by decide +kernel
theorem dX12_partOf_20 : decode cX12_partOf 20 = .ok (.iload_n 1, 1) := by decide +kernel
theorem dX12_partOf_21 : decode cX12_partOf 21 = .ok (.iload_n 3, 1) := by decide +kernel
theorem dX12_partOf_22 : decode cX12_partOf 22 = .ok (.iload_n 2, 1) := by decide +kernel
theorem dX12_partOf_23 : decode cX12_partOf 23 = .ok (.iconst 0, 1) := by decide +kernel
theorem dX12_partOf_24 : decode cX12_partOf 24 = .ok (.aload_n 0, 1) := by decide +kernel
theorem dX12_partOf_25 : decode cX12_partOf 25 = .ok (.getfield 71, 3) := by decide +kernel
theorem dX12_partOf_28 : decode cX12_partOf 28 = .ok (.iload_n 2, 1) := by decide +kernel
theorem dX12_partOf_29 : decode cX12_partOf 29 = .ok (.iaload, 1) := by decide +kernel
theorem dX12_partOf_30 : decode cX12_partOf 30 = .ok (.invokevirtual 427, 3) := by decide +kernel
theorem dX12_partOf_33 : decode cX12_partOf 33 = .ok (.ifCond .eq 5, 3) := by decide +kernel
theorem dX12_partOf_36 : decode cX12_partOf 36 = .ok (.iload_n 3, 1) := by decide +kernel
theorem dX12_partOf_37 : decode cX12_partOf 37 = .ok (.ireturn, 1) := by decide +kernel
theorem dX12_partOf_38 : decode cX12_partOf 38 = .ok (.iinc 3 1, 3) := by decide +kernel
theorem dX12_partOf_41 : decode cX12_partOf 41 = .ok (.goto (-39), 3) := by decide +kernel
theorem dX12_partOf_44 : decode cX12_partOf 44 = .ok (.iconst (-1), 1) := by decide +kernel
theorem dX12_partOf_45 : decode cX12_partOf 45 = .ok (.ireturn, 1) := by decide +kernel
theorem r_X12_partOf_2 (E : kr_E)  (l1 : Int32) (l2 : Int32)  : ∀ (n : Nat) (l3 : Int32) (M : kr_M), kR kr_vi E Y_X12_partOf 2 2 [(0, kr_r E 346), (1, .int l1), (2, .int l2), (3, .int l3)] [] M (f_X12_partOf_2 l1 l2 n l3 M) := by
  intro n
  induction n with
  | zero => intro l3 M; exact kr_none
  | succ n ih =>
    intro l3 M
    rw [f_X12_partOf_2]
    refine kr_iload_n dX12_partOf_2 rfl 3 rfl ?_
    refine kr_aload_n dX12_partOf_3 rfl 0 rfl ?_
    refine kr_getA (o := 19) (ci := 12) (j := 29) dX12_partOf_4 kr_at_346 fl_RX12_71 rfl ?_
    refine kr_iload_n dX12_partOf_7 rfl 2 rfl ?_
    refine kr_iald dX12_partOf_8 kr_at_365 (fun v1 => ?_)
    refine kr_iadd dX12_partOf_9 ?_
    refine kr_aload_n dX12_partOf_10 rfl 0 rfl ?_
    refine kr_getA (o := 19) (ci := 12) (j := 29) dX12_partOf_11 kr_at_346 fl_RX12_71 rfl ?_
    refine kr_iload_n dX12_partOf_14 rfl 1 rfl ?_
    refine kr_iald dX12_partOf_15 kr_at_365 (fun v2 => ?_)
    refine kr_icmp_gt (tgt := 44) dX12_partOf_16 (by decide) ?_ ?_
    · refine kr_iconst (v := -1) dX12_partOf_44 (by decide) ?_
      exact kr_iret dX12_partOf_45 rfl
    · refine kr_aload_n dX12_partOf_19 rfl 0 rfl ?_
      refine kr_iload_n dX12_partOf_20 rfl 1 rfl ?_
      refine kr_iload_n dX12_partOf_21 rfl 3 rfl ?_
      refine kr_iload_n dX12_partOf_22 rfl 2 rfl ?_
      refine kr_iconst (v := 0) dX12_partOf_23 (by decide) ?_
      refine kr_aload_n dX12_partOf_24 rfl 0 rfl ?_
      refine kr_getA (o := 19) (ci := 12) (j := 29) dX12_partOf_25 kr_at_346 fl_RX12_71 rfl ?_
      refine kr_iload_n dX12_partOf_28 rfl 2 rfl ?_
      refine kr_iald dX12_partOf_29 kr_at_365 (fun v3 => ?_)
      refine kr_Vi (As := [.int l1, .int l3, .int l2, .int (0 : Int32), .int v3]) (st := []) zv_X12_areLike dX12_partOf_30 ml_RX12_427 kr_at_346 (r_X12_areLike E l1 l3 l2 (0 : Int32) v3 M) rfl rfl (Nat.le_of_ble_eq_true rfl) rfl (by decide) (Nat.le_of_ble_eq_true rfl) (fun r5 M4 => ?_)
      refine kr_if_eq (tgt := 38) dX12_partOf_33 (by decide) ?_ ?_
      · refine kr_iinc (j := 3) (v := (l3 + (1 : Int32))) (lv' := [(3, .int (l3 + (1 : Int32))), (0, kr_r E 346), (1, .int l1), (2, .int l2)]) dX12_partOf_38 rfl rfl (by decide) rfl ?_
        refine kr_goto (tgt := 2) dX12_partOf_41 (by decide) ?_
        refine kr_sub [1, 2, 3, 0] rfl ?_
        exact ih (l3 + (1 : Int32)) M4
      · refine kr_iload_n dX12_partOf_36 rfl 3 rfl ?_
        exact kr_iret dX12_partOf_37 rfl
theorem r_X12_partOf (E : kr_E) (p1 : Int32) (p2 : Int32) (M : kr_M) : kR kr_vi E Y_X12_partOf 2 0 [(0, kr_r E 346), (1, .int p1), (2, .int p2)] [] M (f_X12_partOf p1 p2 M) := by
  rw [f_X12_partOf]
  refine kr_iconst (v := 0) dX12_partOf_0 (by decide) ?_
  refine kr_istore_n (lv' := [(3, .int (0 : Int32)), (0, kr_r E 346), (1, .int p1), (2, .int p2)]) dX12_partOf_1 rfl (by decide) rfl ?_
  refine kr_sub [1, 2, 3, 0] rfl ?_
  exact r_X12_partOf_2 E p1 p2 _ (0 : Int32) M
theorem dX12_isLeftOut_0 : decode cX12_isLeftOut 0 = .ok (.iconst 0, 1) := by decide +kernel
theorem dX12_isLeftOut_1 : decode cX12_isLeftOut 1 = .ok (.istore_n 2, 1) := by decide +kernel
theorem dX12_isLeftOut_2 : decode cX12_isLeftOut 2 = .ok (.iload_n 2, 1) := by decide +kernel
theorem dX12_isLeftOut_3 : decode cX12_isLeftOut 3 = .ok (.aload_n 0, 1) := by decide +kernel
theorem dX12_isLeftOut_4 : decode cX12_isLeftOut 4 = .ok (.getfield 34, 3) := by decide +kernel
theorem dX12_isLeftOut_7 : decode cX12_isLeftOut 7 = .ok (.iconst 5, 1) := by decide +kernel
theorem dX12_isLeftOut_8 : decode cX12_isLeftOut 8 = .ok (.iaload, 1) := by decide +kernel
theorem dX12_isLeftOut_9 : decode cX12_isLeftOut 9 = .ok (.if_icmp .ge 46, 3) := by decide +kernel
theorem dX12_isLeftOut_12 : decode cX12_isLeftOut 12 = .ok (.iload_n 2, 1) := by decide +kernel
theorem dX12_isLeftOut_13 : decode cX12_isLeftOut 13 = .ok (.iload_n 1, 1) := by decide +kernel
theorem dX12_isLeftOut_14 : decode cX12_isLeftOut 14 = .ok (.if_icmp .eq 35, 3) := by decide +kernel
theorem dX12_isLeftOut_17 : decode cX12_isLeftOut 17 = .ok (.aload_n 0, 1) := by decide +kernel
theorem dX12_isLeftOut_18 : decode cX12_isLeftOut 18 = .ok (.iload_n 2, 1) := by decide +kernel
theorem dX12_isLeftOut_19 : decode cX12_isLeftOut 19 = .ok (.iload_n 1, 1) := by decide +kernel
theorem dX12_isLeftOut_20 : decode cX12_isLeftOut 20 = .ok (.invokevirtual 437, 3) := by decide +kernel
theorem dX12_isLeftOut_23 : decode cX12_isLeftOut 23 = .ok (.iconst (-1), 1) := by decide +kernel
theorem dX12_isLeftOut_24 : decode cX12_isLeftOut 24 = .ok (.if_icmp .eq 25, 3) := by decide +kernel
theorem dX12_isLeftOut_27 : decode cX12_isLeftOut 27 = .ok (.aload_n 0, 1) := by decide +kernel
theorem dX12_isLeftOut_28 : decode cX12_isLeftOut 28 = .ok (.getfield 71, 3) := by decide +kernel
theorem dX12_isLeftOut_31 : decode cX12_isLeftOut 31 = .ok (.iload_n 2, 1) := by decide +kernel
theorem dX12_isLeftOut_32 : decode cX12_isLeftOut 32 = .ok (.iaload, 1) := by decide +kernel
theorem dX12_isLeftOut_33 : decode cX12_isLeftOut 33 = .ok (.aload_n 0, 1) := by decide +kernel
theorem dX12_isLeftOut_34 : decode cX12_isLeftOut 34 = .ok (.getfield 71, 3) := by decide +kernel
theorem dX12_isLeftOut_37 : decode cX12_isLeftOut 37 = .ok (.iload_n 1, 1) := by decide +kernel
theorem dX12_isLeftOut_38 : decode cX12_isLeftOut 38 = .ok (.iaload, 1) := by decide +kernel
theorem dX12_isLeftOut_39 : decode cX12_isLeftOut 39 = .ok (.if_icmp .gt 8, 3) := by decide +kernel
theorem dX12_isLeftOut_42 : decode cX12_isLeftOut 42 = .ok (.iload_n 2, 1) := by decide +kernel
theorem dX12_isLeftOut_43 : decode cX12_isLeftOut 43 = .ok (.iload_n 1, 1) := by decide +kernel
theorem dX12_isLeftOut_44 : decode cX12_isLeftOut 44 = .ok (.if_icmp .ge 5, 3) := by decide +kernel
theorem dX12_isLeftOut_47 : decode cX12_isLeftOut 47 = .ok (.iconst 1, 1) := by decide +kernel
theorem dX12_isLeftOut_48 : decode cX12_isLeftOut 48 = .ok (.ireturn, 1) := by decide +kernel
theorem dX12_isLeftOut_49 : decode cX12_isLeftOut 49 = .ok (.iinc 2 1, 3) := by decide +kernel
theorem dX12_isLeftOut_52 : decode cX12_isLeftOut 52 = .ok (.goto (-50), 3) := by decide +kernel
theorem dX12_isLeftOut_55 : decode cX12_isLeftOut 55 = .ok (.iconst 0, 1) := by decide +kernel
theorem dX12_isLeftOut_56 : decode cX12_isLeftOut 56 = .ok (.ireturn, 1) := by decide +kernel
theorem r_X12_isLeftOut_49 (E : kr_E) (k_2 : Int32 → kr_M → Option (Int32 × kr_M)) (l1 : Int32) (l2 : Int32) (hk_2 : ∀ (x2 : Int32) (M : kr_M), kR kr_vi E Y_X12_isLeftOut 3 2 [(0, kr_r E 346), (1, .int l1), (2, .int x2)] [] M (k_2 x2 M)) (M : kr_M) : kR kr_vi E Y_X12_isLeftOut 3 49 [(0, kr_r E 346), (1, .int l1), (2, .int l2)] [] M (f_X12_isLeftOut_49 k_2 l2 M) := by
  rw [f_X12_isLeftOut_49]
  refine kr_iinc (j := 2) (v := (l2 + (1 : Int32))) (lv' := [(2, .int (l2 + (1 : Int32))), (0, kr_r E 346), (1, .int l1)]) dX12_isLeftOut_49 rfl rfl (by decide) rfl ?_
  refine kr_goto (tgt := 2) dX12_isLeftOut_52 (by decide) ?_
  refine kr_sub [1, 2, 0] rfl ?_
  exact hk_2 (l2 + (1 : Int32)) M
theorem r_X12_isLeftOut_2 (E : kr_E)  (l1 : Int32)  : ∀ (n : Nat) (l2 : Int32) (M : kr_M), kR kr_vi E Y_X12_isLeftOut 3 2 [(0, kr_r E 346), (1, .int l1), (2, .int l2)] [] M (f_X12_isLeftOut_2 l1 n l2 M) := by
  intro n
  induction n with
  | zero => intro l2 M; exact kr_none
  | succ n ih =>
    intro l2 M
    rw [f_X12_isLeftOut_2]
    refine kr_iload_n dX12_isLeftOut_2 rfl 2 rfl ?_
    refine kr_aload_n dX12_isLeftOut_3 rfl 0 rfl ?_
    refine kr_getA (o := 7) (ci := 12) (j := 17) dX12_isLeftOut_4 kr_at_346 fl_RX12_34 rfl ?_
    refine kr_iconst (v := 5) dX12_isLeftOut_7 (by decide) ?_
    refine kr_iald dX12_isLeftOut_8 kr_at_353 (fun v1 => ?_)
    refine kr_icmp_ge (tgt := 55) dX12_isLeftOut_9 (by decide) ?_ ?_
    · refine kr_iconst (v := 0) dX12_isLeftOut_55 (by decide) ?_
      exact kr_zret1 dX12_isLeftOut_56 rfl rfl
    · refine kr_iload_n dX12_isLeftOut_12 rfl 2 rfl ?_
      refine kr_iload_n dX12_isLeftOut_13 rfl 1 rfl ?_
      refine kr_icmp_eq (tgt := 49) dX12_isLeftOut_14 (by decide) ?_ ?_
      · refine kr_sub [0, 1, 2] rfl ?_
        exact r_X12_isLeftOut_49 E _ l1 l2 ih M
      · refine kr_aload_n dX12_isLeftOut_17 rfl 0 rfl ?_
        refine kr_iload_n dX12_isLeftOut_18 rfl 2 rfl ?_
        refine kr_iload_n dX12_isLeftOut_19 rfl 1 rfl ?_
        refine kr_Vi (As := [.int l2, .int l1]) (st := []) zv_X12_partOf dX12_isLeftOut_20 ml_RX12_437 kr_at_346 (r_X12_partOf E l2 l1 M) rfl rfl (Nat.le_of_ble_eq_true rfl) rfl (by decide) (Nat.le_of_ble_eq_true rfl) (fun r3 M2 => ?_)
        refine kr_iconst (v := -1) dX12_isLeftOut_23 (by decide) ?_
        refine kr_icmp_eq (tgt := 49) dX12_isLeftOut_24 (by decide) ?_ ?_
        · refine kr_sub [0, 1, 2] rfl ?_
          exact r_X12_isLeftOut_49 E _ l1 l2 ih M2
        · refine kr_aload_n dX12_isLeftOut_27 rfl 0 rfl ?_
          refine kr_getA (o := 19) (ci := 12) (j := 29) dX12_isLeftOut_28 kr_at_346 fl_RX12_71 rfl ?_
          refine kr_iload_n dX12_isLeftOut_31 rfl 2 rfl ?_
          refine kr_iald dX12_isLeftOut_32 kr_at_365 (fun v4 => ?_)
          refine kr_aload_n dX12_isLeftOut_33 rfl 0 rfl ?_
          refine kr_getA (o := 19) (ci := 12) (j := 29) dX12_isLeftOut_34 kr_at_346 fl_RX12_71 rfl ?_
          refine kr_iload_n dX12_isLeftOut_37 rfl 1 rfl ?_
          refine kr_iald dX12_isLeftOut_38 kr_at_365 (fun v5 => ?_)
          refine kr_icmp_gt (tgt := 47) dX12_isLeftOut_39 (by decide) ?_ ?_
          · refine kr_iconst (v := 1) dX12_isLeftOut_47 (by decide) ?_
            exact kr_zret1 dX12_isLeftOut_48 rfl rfl
          · refine kr_iload_n dX12_isLeftOut_42 rfl 2 rfl ?_
            refine kr_iload_n dX12_isLeftOut_43 rfl 1 rfl ?_
            refine kr_icmp_ge (tgt := 49) dX12_isLeftOut_44 (by decide) ?_ ?_
            · refine kr_sub [0, 1, 2] rfl ?_
              exact r_X12_isLeftOut_49 E _ l1 l2 ih M2
            · refine kr_iconst (v := 1) dX12_isLeftOut_47 (by decide) ?_
              exact kr_zret1 dX12_isLeftOut_48 rfl rfl
theorem r_X12_isLeftOut (E : kr_E) (p1 : Int32) (M : kr_M) : kR kr_vi E Y_X12_isLeftOut 3 0 [(0, kr_r E 346), (1, .int p1)] [] M (f_X12_isLeftOut p1 M) := by
  rw [f_X12_isLeftOut]
  refine kr_iconst (v := 0) dX12_isLeftOut_0 (by decide) ?_
  refine kr_istore_n (lv' := [(2, .int (0 : Int32)), (0, kr_r E 346), (1, .int p1)]) dX12_isLeftOut_1 rfl (by decide) rfl ?_
  refine kr_sub [1, 2, 0] rfl ?_
  exact r_X12_isLeftOut_2 E p1 _ (0 : Int32) M
theorem dX12_puts_0 : decode cX12_puts 0 = .ok (.iload_n 2, 1) := by decide +kernel
theorem dX12_puts_1 : decode cX12_puts 1 = .ok (.ifCond .ne 52, 3) := by decide +kernel
theorem dX12_puts_4 : decode cX12_puts 4 = .ok (.iload_n 3, 1) := by decide +kernel
theorem dX12_puts_5 : decode cX12_puts 5 = .ok (.aload_n 0, 1) := by decide +kernel
theorem dX12_puts_6 : decode cX12_puts 6 = .ok (.getfield 440, 3) := by decide +kernel
theorem dX12_puts_9 : decode cX12_puts 9 = .ok (.if_icmp .lt 4, 3) := by decide +kernel
theorem dX12_puts_12 : decode cX12_puts 12 = .ok (.return_, 1) := by decide +kernel
theorem dX12_puts_13 : decode cX12_puts 13 = .ok (.aload_n 0, 1) := by decide +kernel
theorem dX12_puts_14 : decode cX12_puts 14 = .ok (.iload_n 3, 1) := by decide +kernel
theorem dX12_puts_15 : decode cX12_puts 15 = .ok (.putfield 440, 3) := by decide +kernel
theorem dX12_puts_18 : decode cX12_puts 18 = .ok (.aload_n 0, 1) := by decide +kernel
theorem dX12_puts_19 : decode cX12_puts 19 = .ok (.iload_n 1, 1) := by decide +kernel
theorem dX12_puts_20 : decode cX12_puts 20 = .ok (.putfield 443, 3) := by decide +kernel
theorem dX12_puts_23 : decode cX12_puts 23 = .ok (.iconst 0, 1) := by decide +kernel
theorem dX12_puts_24 : decode cX12_puts 24 = .ok (.istore 4, 2) := by decide +kernel
theorem dX12_puts_26 : decode cX12_puts 26 = .ok (.iload 4, 2) := by decide +kernel
theorem dX12_puts_28 : decode cX12_puts 28 = .ok (.iload_n 1, 1) := by decide +kernel
theorem dX12_puts_29 : decode cX12_puts 29 = .ok (.if_icmp .ge 23, 3) := by decide +kernel
theorem dX12_puts_32 : decode cX12_puts 32 = .ok (.aload_n 0, 1) := by decide +kernel
theorem dX12_puts_33 : decode cX12_puts 33 = .ok (.getfield 108, 3) := by decide +kernel
theorem dX12_puts_36 : decode cX12_puts 36 = .ok (.iload 4, 2) := by decide +kernel
theorem dX12_puts_38 : decode cX12_puts 38 = .ok (.aload_n 0, 1) := by decide +kernel
theorem dX12_puts_39 : decode cX12_puts 39 = .ok (.getfield 105, 3) := by decide +kernel
theorem dX12_puts_42 : decode cX12_puts 42 = .ok (.iload 4, 2) := by decide +kernel
theorem dX12_puts_44 : decode cX12_puts 44 = .ok (.iaload, 1) := by decide +kernel
theorem dX12_puts_45 : decode cX12_puts 45 = .ok (.iastore, 1) := by decide +kernel
theorem dX12_puts_46 : decode cX12_puts 46 = .ok (.iinc 4 1, 3) := by decide +kernel
theorem dX12_puts_49 : decode cX12_puts 49 = .ok (.goto (-23), 3) := by decide +kernel
theorem dX12_puts_52 : decode cX12_puts 52 = .ok (.return_, 1) := by decide +kernel
theorem dX12_puts_53 : decode cX12_puts 53 = .ok (.iconst 0, 1) := by decide +kernel
theorem dX12_puts_54 : decode cX12_puts 54 = .ok (.istore 4, 2) := by decide +kernel
theorem dX12_puts_56 : decode cX12_puts 56 = .ok (.iload 4, 2) := by decide +kernel
theorem dX12_puts_58 : decode cX12_puts 58 = .ok (.aload_n 0, 1) := by decide +kernel
theorem dX12_puts_59 : decode cX12_puts 59 = .ok (.getfield 34, 3) := by decide +kernel
theorem dX12_puts_62 : decode cX12_puts 62 = .ok (.iconst 5, 1) := by decide +kernel
theorem dX12_puts_63 : decode cX12_puts 63 = .ok (.iaload, 1) := by decide +kernel
theorem dX12_puts_64 : decode cX12_puts 64 = .ok (.if_icmp .ge 76, 3) := by decide +kernel
theorem dX12_puts_67 : decode cX12_puts 67 = .ok (.iload_n 2, 1) := by decide +kernel
theorem dX12_puts_68 : decode cX12_puts 68 = .ok (.iload 4, 2) := by decide +kernel
theorem dX12_puts_70 : decode cX12_puts 70 = .ok (.invokestatic 446, 3) := by decide +kernel
theorem dX12_puts_73 : decode cX12_puts 73 = .ok (.ifCond .ne 6, 3) := by decide +kernel
theorem dX12_puts_76 : decode cX12_puts 76 = .ok (.goto 58, 3) := by decide +kernel
theorem dX12_puts_79 : decode cX12_puts 79 = .ok (.aload_n 0, 1) := by decide +kernel
theorem dX12_puts_80 : decode cX12_puts 80 = .ok (.getfield 105, 3) := by decide +kernel
theorem dX12_puts_83 : decode cX12_puts 83 = .ok (.iload_n 1, 1) := by decide +kernel
theorem dX12_puts_84 : decode cX12_puts 84 = .ok (.iload 4, 2) := by decide +kernel
theorem dX12_puts_86 : decode cX12_puts 86 = .ok (.iastore, 1) := by decide +kernel
theorem dX12_puts_87 : decode cX12_puts 87 = .ok (.aload_n 0, 1) := by decide +kernel
theorem dX12_puts_88 : decode cX12_puts 88 = .ok (.iload_n 1, 1) := by decide +kernel
theorem dX12_puts_89 : decode cX12_puts 89 = .ok (.iconst 1, 1) := by decide +kernel
theorem dX12_puts_90 : decode cX12_puts 90 = .ok (.iadd, 1) := by decide +kernel
theorem dX12_puts_91 : decode cX12_puts 91 = .ok (.iload_n 2, 1) := by decide +kernel
theorem dX12_puts_92 : decode cX12_puts 92 = .ok (.iconst 1, 1) := by decide +kernel
theorem dX12_puts_93 : decode cX12_puts 93 = .ok (.iload 4, 2) := by decide +kernel
theorem dX12_puts_95 : decode cX12_puts 95 = .ok (.ishl, 1) := by decide +kernel
theorem dX12_puts_96 : decode cX12_puts 96 = .ok (.iconst (-1), 1) := by decide +kernel
theorem dX12_puts_97 : decode cX12_puts 97 = .ok (.ixor, 1) := by decide +kernel
theorem dX12_puts_98 : decode cX12_puts 98 = .ok (.iand, 1) := by decide +kernel
theorem dX12_puts_99 : decode cX12_puts 99 = .ok (.iload_n 3, 1) := by decide +kernel
theorem dX12_puts_100 : decode cX12_puts 100 = .ok (.aload_n 0, 1) := by decide +kernel
theorem dX12_puts_101 : decode cX12_puts 101 = .ok (.getfield 71, 3) := by decide +kernel
theorem dX12_puts_104 : decode cX12_puts 104 = .ok (.iload 4, 2) := by decide +kernel
theorem dX12_puts_106 : decode cX12_puts 106 = .ok (.iaload, 1) := by decide +kernel
theorem dX12_puts_107 : decode cX12_puts 107 = .ok (.iadd, 1) := by decide +kernel
theorem dX12_puts_108 : decode cX12_puts 108 = .ok (.iload_n 1, 1) := by decide +kernel
theorem dX12_puts_109 : decode cX12_puts 109 = .ok (.ifCond .le 20, 3) := by decide +kernel
theorem dX12_puts_112 : decode cX12_puts 112 = .ok (.aload_n 0, 1) := by decide +kernel
theorem dX12_puts_113 : decode cX12_puts 113 = .ok (.aload_n 0, 1) := by decide +kernel
theorem dX12_puts_114 : decode cX12_puts 114 = .ok (.getfield 105, 3) := by decide +kernel
theorem dX12_puts_117 : decode cX12_puts 117 = .ok (.iload_n 1, 1) := by decide +kernel
theorem dX12_puts_118 : decode cX12_puts 118 = .ok (.iconst 1, 1) := by decide +kernel
theorem dX12_puts_119 : decode cX12_puts 119 = .ok (.isub, 1) := by decide +kernel
theorem dX12_puts_120 : decode cX12_puts 120 = .ok (.iaload, 1) := by decide +kernel
theorem dX12_puts_121 : decode cX12_puts 121 = .ok (.iload 4, 2) := by decide +kernel
theorem dX12_puts_123 : decode cX12_puts 123 = .ok (.invokevirtual 434, 3) := by decide +kernel
theorem dX12_puts_126 : decode cX12_puts 126 = .ok (.goto 4, 3) := by decide +kernel
theorem dX12_puts_129 : decode cX12_puts 129 = .ok (.iconst 0, 1) := by decide +kernel
theorem dX12_puts_130 : decode cX12_puts 130 = .ok (.isub, 1) := by decide +kernel
theorem dX12_puts_131 : decode cX12_puts 131 = .ok (.invokevirtual 449, 3) := by decide +kernel
theorem dX12_puts_134 : decode cX12_puts 134 = .ok (.iinc 4 1, 3) := by decide +kernel
theorem dX12_puts_137 : decode cX12_puts 137 = .ok (.goto (-81), 3) := by decide +kernel
theorem dX12_puts_140 : decode cX12_puts 140 = .ok (.return_, 1) := by decide +kernel
theorem r_X12_puts_134 (E : kr_E) (R_ : Int32 → Int32 → Int32 → kr_M → Option kr_M) (D : Nat) (hD : 3 ≤ D) (hR : ∀ (p1 p2 p3 : Int32) (M : kr_M), kR kr_vv E Y_X12_puts D 0 [(0, kr_r E 346), (1, .int p1), (2, .int p2), (3, .int p3)] [] M (R_ p1 p2 p3 M)) (k_56 : Int32 → kr_M → Option kr_M) (l1 : Int32) (l2 : Int32) (l3 : Int32) (l4 : Int32) (hk_56 : ∀ (x4 : Int32) (M : kr_M), kR kr_vv E Y_X12_puts (D + 1) 56 [(0, kr_r E 346), (1, .int l1), (2, .int l2), (3, .int l3), (4, .int x4)] [] M (k_56 x4 M)) (M : kr_M) : kR kr_vv E Y_X12_puts (D + 1) 134 [(0, kr_r E 346), (1, .int l1), (2, .int l2), (3, .int l3), (4, .int l4)] [] M (f_X12_puts_134 R_ k_56 l4 M) := by
  rw [f_X12_puts_134]
  refine kr_iinc (j := 4) (v := (l4 + (1 : Int32))) (lv' := [(4, .int (l4 + (1 : Int32))), (0, kr_r E 346), (1, .int l1), (2, .int l2), (3, .int l3)]) dX12_puts_134 rfl rfl (by decide) rfl ?_
  refine kr_goto (tgt := 56) dX12_puts_137 (by decide) ?_
  refine kr_sub [1, 2, 3, 4, 0] rfl ?_
  exact hk_56 (l4 + (1 : Int32)) M
theorem r_X12_puts_130 (E : kr_E) (R_ : Int32 → Int32 → Int32 → kr_M → Option kr_M) (D : Nat) (hD : 3 ≤ D) (hR : ∀ (p1 p2 p3 : Int32) (M : kr_M), kR kr_vv E Y_X12_puts D 0 [(0, kr_r E 346), (1, .int p1), (2, .int p2), (3, .int p3)] [] M (R_ p1 p2 p3 M)) (k_56 : Int32 → kr_M → Option kr_M) (l1 : Int32) (l2 : Int32) (l3 : Int32) (l4 : Int32) (s0 : Int32) (s1 : Int32) (s2 : Int32) (s3 : Int32) (hk_56 : ∀ (x4 : Int32) (M : kr_M), kR kr_vv E Y_X12_puts (D + 1) 56 [(0, kr_r E 346), (1, .int l1), (2, .int l2), (3, .int l3), (4, .int x4)] [] M (k_56 x4 M)) (M : kr_M) : kR kr_vv E Y_X12_puts (D + 1) 130 [(0, kr_r E 346), (1, .int l1), (2, .int l2), (3, .int l3), (4, .int l4)] [.int s0, .int s1, .int s2, .int s3, kr_r E 346] M (f_X12_puts_130 R_ k_56 l4 s0 s1 s2 s3 M) := by
  rw [f_X12_puts_130]
  refine kr_isub dX12_puts_130 ?_
  refine kr_Vv (As := [.int s3, .int s2, .int (s1 - s0)]) (st := []) zv_X12_puts dX12_puts_131 ml_RX12_449 kr_at_346 (hR s3 s2 (s1 - s0) M) rfl rfl (Nat.le_of_ble_eq_true rfl) rfl (by omega) (Nat.le_of_ble_eq_true rfl) (fun M1 => ?_)
  refine kr_sub [0, 1, 2, 3, 4] rfl ?_
  exact r_X12_puts_134 E R_ D hD hR _ l1 l2 l3 l4 hk_56 M1
theorem r_X12_puts_56 (E : kr_E) (R_ : Int32 → Int32 → Int32 → kr_M → Option kr_M) (D : Nat) (hD : 3 ≤ D) (hR : ∀ (p1 p2 p3 : Int32) (M : kr_M), kR kr_vv E Y_X12_puts D 0 [(0, kr_r E 346), (1, .int p1), (2, .int p2), (3, .int p3)] [] M (R_ p1 p2 p3 M))  (l1 : Int32) (l2 : Int32) (l3 : Int32)  : ∀ (n : Nat) (l4 : Int32) (M : kr_M), kR kr_vv E Y_X12_puts (D + 1) 56 [(0, kr_r E 346), (1, .int l1), (2, .int l2), (3, .int l3), (4, .int l4)] [] M (f_X12_puts_56 R_ l1 l2 l3 n l4 M) := by
  intro n
  induction n with
  | zero => intro l4 M; exact kr_none
  | succ n ih =>
    intro l4 M
    rw [f_X12_puts_56]
    refine kr_iload dX12_puts_56 4 rfl ?_
    refine kr_aload_n dX12_puts_58 rfl 0 rfl ?_
    refine kr_getA (o := 7) (ci := 12) (j := 17) dX12_puts_59 kr_at_346 fl_RX12_34 rfl ?_
    refine kr_iconst (v := 5) dX12_puts_62 (by decide) ?_
    refine kr_iald dX12_puts_63 kr_at_353 (fun v1 => ?_)
    refine kr_icmp_ge (tgt := 140) dX12_puts_64 (by decide) ?_ ?_
    · exact kr_vret dX12_puts_140 rfl
    · refine kr_iload_n dX12_puts_67 rfl 2 rfl ?_
      refine kr_iload dX12_puts_68 4 rfl ?_
      refine kr_Si (As := [.int l2, .int l4]) (st := []) zs_X12_isBit dX12_puts_70 ml_RX12_446 (r_X12_isBit E l2 l4 M) rfl rfl (Nat.le_of_ble_eq_true rfl) rfl (by omega) (Nat.le_of_ble_eq_true rfl) (fun r3 M2 => ?_)
      refine kr_if_ne (tgt := 79) dX12_puts_73 (by decide) ?_ ?_
      · refine kr_aload_n dX12_puts_79 rfl 0 rfl ?_
        refine kr_getA (o := 30) (ci := 12) (j := 48) dX12_puts_80 kr_at_346 fl_RX12_105 rfl ?_
        refine kr_iload_n dX12_puts_83 rfl 1 rfl ?_
        refine kr_iload dX12_puts_84 4 rfl ?_
        refine kr_iast dX12_puts_86 kr_at_376 (fun M4 => ?_)
        refine kr_aload_n dX12_puts_87 rfl 0 rfl ?_
        refine kr_iload_n dX12_puts_88 rfl 1 rfl ?_
        refine kr_iconst (v := 1) dX12_puts_89 (by decide) ?_
        refine kr_iadd dX12_puts_90 ?_
        refine kr_iload_n dX12_puts_91 rfl 2 rfl ?_
        refine kr_iconst (v := 1) dX12_puts_92 (by decide) ?_
        refine kr_iload dX12_puts_93 4 rfl ?_
        refine kr_ishl dX12_puts_95 ?_
        refine kr_iconst (v := -1) dX12_puts_96 (by decide) ?_
        refine kr_ixor dX12_puts_97 ?_
        refine kr_iand dX12_puts_98 ?_
        refine kr_iload_n dX12_puts_99 rfl 3 rfl ?_
        refine kr_aload_n dX12_puts_100 rfl 0 rfl ?_
        refine kr_getA (o := 19) (ci := 12) (j := 29) dX12_puts_101 kr_at_346 fl_RX12_71 rfl ?_
        refine kr_iload dX12_puts_104 4 rfl ?_
        refine kr_iald dX12_puts_106 kr_at_365 (fun v5 => ?_)
        refine kr_iadd dX12_puts_107 ?_
        refine kr_iload_n dX12_puts_108 rfl 1 rfl ?_
        refine kr_if_le (tgt := 129) dX12_puts_109 (by decide) ?_ ?_
        · refine kr_iconst (v := 0) dX12_puts_129 (by decide) ?_
          refine kr_sub [0, 1, 2, 3, 4] rfl ?_
          exact r_X12_puts_130 E R_ D hD hR _ l1 l2 l3 l4 (0 : Int32) (l3 + v5) (l2 &&& (((1 : Int32) <<< (l4 &&& 31)) ^^^ (-1 : Int32))) (l1 + (1 : Int32)) ih M4
        · refine kr_aload_n dX12_puts_112 rfl 0 rfl ?_
          refine kr_aload_n dX12_puts_113 rfl 0 rfl ?_
          refine kr_getA (o := 30) (ci := 12) (j := 48) dX12_puts_114 kr_at_346 fl_RX12_105 rfl ?_
          refine kr_iload_n dX12_puts_117 rfl 1 rfl ?_
          refine kr_iconst (v := 1) dX12_puts_118 (by decide) ?_
          refine kr_isub dX12_puts_119 ?_
          refine kr_iald dX12_puts_120 kr_at_376 (fun v6 => ?_)
          refine kr_iload dX12_puts_121 4 rfl ?_
          refine kr_Vi (As := [.int v6, .int l4]) (st := [.int (l3 + v5), .int (l2 &&& (((1 : Int32) <<< (l4 &&& 31)) ^^^ (-1 : Int32))), .int (l1 + (1 : Int32)), kr_r E 346]) zv_X12_overlapOf dX12_puts_123 ml_RX12_434 kr_at_346 (r_X12_overlapOf E v6 l4 M4) rfl rfl (Nat.le_of_ble_eq_true rfl) rfl (by omega) (Nat.le_of_ble_eq_true rfl) (fun r8 M7 => ?_)
          refine kr_goto (tgt := 130) dX12_puts_126 (by decide) ?_
          refine kr_sub [0, 1, 2, 3, 4] rfl ?_
          exact r_X12_puts_130 E R_ D hD hR _ l1 l2 l3 l4 r8 (l3 + v5) (l2 &&& (((1 : Int32) <<< (l4 &&& 31)) ^^^ (-1 : Int32))) (l1 + (1 : Int32)) ih M7
      · refine kr_goto (tgt := 134) dX12_puts_76 (by decide) ?_
        refine kr_sub [0, 1, 2, 3, 4] rfl ?_
        exact r_X12_puts_134 E R_ D hD hR _ l1 l2 l3 l4 ih M2
theorem r_X12_puts_26 (E : kr_E) (R_ : Int32 → Int32 → Int32 → kr_M → Option kr_M) (D : Nat) (hD : 3 ≤ D) (hR : ∀ (p1 p2 p3 : Int32) (M : kr_M), kR kr_vv E Y_X12_puts D 0 [(0, kr_r E 346), (1, .int p1), (2, .int p2), (3, .int p3)] [] M (R_ p1 p2 p3 M))  (l1 : Int32)  : ∀ (n : Nat) (l4 : Int32) (M : kr_M), kR kr_vv E Y_X12_puts (D + 1) 26 [(0, kr_r E 346), (1, .int l1), (4, .int l4)] [] M (f_X12_puts_26 R_ l1 n l4 M) := by
  intro n
  induction n with
  | zero => intro l4 M; exact kr_none
  | succ n ih =>
    intro l4 M
    rw [f_X12_puts_26]
    refine kr_iload dX12_puts_26 2 rfl ?_
    refine kr_iload_n dX12_puts_28 rfl 1 rfl ?_
    refine kr_icmp_ge (tgt := 52) dX12_puts_29 (by decide) ?_ ?_
    · exact kr_vret dX12_puts_52 rfl
    · refine kr_aload_n dX12_puts_32 rfl 0 rfl ?_
      refine kr_getA (o := 31) (ci := 12) (j := 49) dX12_puts_33 kr_at_346 fl_RX12_108 rfl ?_
      refine kr_iload dX12_puts_36 2 rfl ?_
      refine kr_aload_n dX12_puts_38 rfl 0 rfl ?_
      refine kr_getA (o := 30) (ci := 12) (j := 48) dX12_puts_39 kr_at_346 fl_RX12_105 rfl ?_
      refine kr_iload dX12_puts_42 2 rfl ?_
      refine kr_iald dX12_puts_44 kr_at_376 (fun v1 => ?_)
      refine kr_iast dX12_puts_45 kr_at_377 (fun M2 => ?_)
      refine kr_iinc (j := 2) (v := (l4 + (1 : Int32))) (lv' := [(4, .int (l4 + (1 : Int32))), (0, kr_r E 346), (1, .int l1)]) dX12_puts_46 rfl rfl (by decide) rfl ?_
      refine kr_goto (tgt := 26) dX12_puts_49 (by decide) ?_
      refine kr_sub [1, 2, 0] rfl ?_
      exact ih (l4 + (1 : Int32)) M2
theorem r_X12_puts_b (E : kr_E) (R_ : Int32 → Int32 → Int32 → kr_M → Option kr_M) (D : Nat) (hD : 3 ≤ D) (hR : ∀ (p1 p2 p3 : Int32) (M : kr_M), kR kr_vv E Y_X12_puts D 0 [(0, kr_r E 346), (1, .int p1), (2, .int p2), (3, .int p3)] [] M (R_ p1 p2 p3 M)) (p1 : Int32) (p2 : Int32) (p3 : Int32) (M : kr_M) : kR kr_vv E Y_X12_puts (D + 1) 0 [(0, kr_r E 346), (1, .int p1), (2, .int p2), (3, .int p3)] [] M (f_X12_puts_b R_  p1 p2 p3 M) := by
  rw [f_X12_puts_b]
  refine kr_iload_n dX12_puts_0 rfl 2 rfl ?_
  refine kr_if_ne (tgt := 53) dX12_puts_1 (by decide) ?_ ?_
  · refine kr_iconst (v := 0) dX12_puts_53 (by decide) ?_
    refine kr_istore (lv' := [(4, .int (0 : Int32)), (0, kr_r E 346), (1, .int p1), (2, .int p2), (3, .int p3)]) dX12_puts_54 (by decide) rfl ?_
    refine kr_sub [1, 2, 3, 4, 0] rfl ?_
    exact r_X12_puts_56 E R_ D hD hR p1 p2 p3 _ (0 : Int32) M
  · refine kr_iload_n dX12_puts_4 rfl 3 rfl ?_
    refine kr_aload_n dX12_puts_5 rfl 0 rfl ?_
    refine kr_getI (ci := 12) (j := 51) dX12_puts_6 kr_at_346 fl_RX12_440 rfl (fun v1 => ?_)
    refine kr_icmp_lt (tgt := 13) dX12_puts_9 (by decide) ?_ ?_
    · refine kr_aload_n dX12_puts_13 rfl 0 rfl ?_
      refine kr_iload_n dX12_puts_14 rfl 3 rfl ?_
      refine kr_putI (ci := 12) (j := 51) dX12_puts_15 kr_at_346 fl_RX12_440 rfl rfl (fun M2 => ?_)
      refine kr_aload_n dX12_puts_18 rfl 0 rfl ?_
      refine kr_iload_n dX12_puts_19 rfl 1 rfl ?_
      refine kr_putI (ci := 12) (j := 50) dX12_puts_20 kr_at_346 fl_RX12_443 rfl rfl (fun M3 => ?_)
      refine kr_iconst (v := 0) dX12_puts_23 (by decide) ?_
      refine kr_istore (lv' := [(4, .int (0 : Int32)), (0, kr_r E 346), (1, .int p1), (2, .int p2), (3, .int p3)]) dX12_puts_24 (by decide) rfl ?_
      refine kr_sub [1, 2, 0] rfl ?_
      exact r_X12_puts_26 E R_ D hD hR p1 _ (0 : Int32) M3
    · exact kr_vret dX12_puts_12 rfl
theorem r_X12_puts (E : kr_E) : ∀ (n : Nat) (p1 p2 p3 : Int32) (M : kr_M), kR kr_vv E Y_X12_puts (n + 3) 0 [(0, kr_r E 346), (1, .int p1), (2, .int p2), (3, .int p3)] [] M (f_X12_puts n p1 p2 p3 M) := by
  intro n
  induction n with
  | zero => intro p1 p2 p3 M; exact kr_none
  | succ n ih =>
    intro p1 p2 p3 M
    rw [f_X12_puts, show n + 1 + 3 = (n + 3) + 1 by omega]
    exact r_X12_puts_b E _ (n + 3) (by omega) ih p1 p2 p3 M
theorem dX12_laysAll_0 : decode cX12_laysAll 0 = .ok (.aload_n 0, 1) := by decide +kernel
theorem dX12_laysAll_1 : decode cX12_laysAll 1 = .ok (.invokevirtual 337, 3) := by decide +kernel
theorem dX12_laysAll_4 : decode cX12_laysAll 4 = .ok (.iconst 0, 1) := by decide +kernel
theorem dX12_laysAll_5 : decode cX12_laysAll 5 = .ok (.istore_n 1, 1) := by decide +kernel
theorem dX12_laysAll_6 : decode cX12_laysAll 6 = .ok (.iconst 0, 1) := by decide +kernel
theorem dX12_laysAll_7 : decode cX12_laysAll 7 = .ok (.istore_n 2, 1) := by decide +kernel
theorem dX12_laysAll_8 : decode cX12_laysAll 8 = .ok (.iload_n 2, 1) := by decide +kernel
theorem dX12_laysAll_9 : decode cX12_laysAll 9 = .ok (.aload_n 0, 1) := by decide +kernel
theorem dX12_laysAll_10 : decode cX12_laysAll 10 = .ok (.getfield 34, 3) := by decide +kernel
theorem dX12_laysAll_13 : decode cX12_laysAll 13 = .ok (.iconst 5, 1) := by decide +kernel
theorem dX12_laysAll_14 : decode cX12_laysAll 14 = .ok (.iaload, 1) := by decide +kernel
theorem dX12_laysAll_15 : decode cX12_laysAll 15 = .ok (.if_icmp .ge 27, 3) := by decide +kernel
theorem dX12_laysAll_18 : decode cX12_laysAll 18 = .ok (.iload_n 1, 1) := by decide +kernel
theorem dX12_laysAll_19 : decode cX12_laysAll 19 = .ok (.aload_n 0, 1) := by decide +kernel
theorem dX12_laysAll_20 : decode cX12_laysAll 20 = .ok (.iload_n 2, 1) := by decide +kernel
theorem dX12_laysAll_21 : decode cX12_laysAll 21 = .ok (.invokevirtual 453, 3) := by decide +kernel
theorem dX12_laysAll_24 : decode cX12_laysAll 24 = .ok (.ifCond .eq 7, 3) := by decide +kernel
theorem dX12_laysAll_27 : decode cX12_laysAll 27 = .ok (.iconst 0, 1) := by decide +kernel
theorem dX12_laysAll_28 : decode cX12_laysAll 28 = .ok (.goto 6, 3) := by decide +kernel
theorem dX12_laysAll_31 : decode cX12_laysAll 31 = .ok (.iconst 1, 1) := by decide +kernel
theorem dX12_laysAll_32 : decode cX12_laysAll 32 = .ok (.iload_n 2, 1) := by decide +kernel
theorem dX12_laysAll_33 : decode cX12_laysAll 33 = .ok (.ishl, 1) := by decide +kernel
theorem dX12_laysAll_34 : decode cX12_laysAll 34 = .ok (.ior, 1) := by decide +kernel
theorem dX12_laysAll_35 : decode cX12_laysAll 35 = .ok (.istore_n 1, 1) := by decide +kernel
theorem dX12_laysAll_36 : decode cX12_laysAll 36 = .ok (.iinc 2 1, 3) := by decide +kernel
theorem dX12_laysAll_39 : decode cX12_laysAll 39 = .ok (.goto (-31), 3) := by decide +kernel
theorem dX12_laysAll_42 : decode cX12_laysAll 42 = .ok (.aload_n 0, 1) := by decide +kernel
theorem dX12_laysAll_43 : decode cX12_laysAll 43 = .ok (.ldc_w 354, 3) := by decide +kernel
theorem dX12_laysAll_46 : decode cX12_laysAll 46 = .ok (.putfield 440, 3) := by decide +kernel
theorem dX12_laysAll_49 : decode cX12_laysAll 49 = .ok (.aload_n 0, 1) := by decide +kernel
theorem dX12_laysAll_50 : decode cX12_laysAll 50 = .ok (.iconst 0, 1) := by decide +kernel
theorem dX12_laysAll_51 : decode cX12_laysAll 51 = .ok (.putfield 443, 3) := by decide +kernel
theorem dX12_laysAll_54 : decode cX12_laysAll 54 = .ok (.aload_n 0, 1) := by decide +kernel
theorem dX12_laysAll_55 : decode cX12_laysAll 55 = .ok (.iconst 0, 1) := by decide +kernel
theorem dX12_laysAll_56 : decode cX12_laysAll 56 = .ok (.iload_n 1, 1) := by decide +kernel
theorem dX12_laysAll_57 : decode cX12_laysAll 57 = .ok (.iconst 0, 1) := by decide +kernel
theorem dX12_laysAll_58 : decode cX12_laysAll 58 = .ok (.invokevirtual 449, 3) := by decide +kernel
theorem dX12_laysAll_61 : decode cX12_laysAll 61 = .ok (.return_, 1) := by decide +kernel
theorem r_X12_laysAll_42 (E : kr_E)  (l1 : Int32)  (M : kr_M) : kR kr_vv E Y_X12_laysAll 12 42 [(0, kr_r E 346), (1, .int l1)] [] M (f_X12_laysAll_42 l1 M) := by
  rw [f_X12_laysAll_42]
  refine kr_aload_n dX12_laysAll_42 rfl 0 rfl ?_
  refine kr_ldcw dX12_laysAll_43 kc_RX12_354 ?_
  refine kr_putI (ci := 12) (j := 51) dX12_laysAll_46 kr_at_346 fl_RX12_440 rfl rfl (fun M1 => ?_)
  refine kr_aload_n dX12_laysAll_49 rfl 0 rfl ?_
  refine kr_iconst (v := 0) dX12_laysAll_50 (by decide) ?_
  refine kr_putI (ci := 12) (j := 50) dX12_laysAll_51 kr_at_346 fl_RX12_443 rfl rfl (fun M2 => ?_)
  refine kr_aload_n dX12_laysAll_54 rfl 0 rfl ?_
  refine kr_iconst (v := 0) dX12_laysAll_55 (by decide) ?_
  refine kr_iload_n dX12_laysAll_56 rfl 1 rfl ?_
  refine kr_iconst (v := 0) dX12_laysAll_57 (by decide) ?_
  refine kr_Vv (As := [.int (0 : Int32), .int l1, .int (0 : Int32)]) (st := []) zv_X12_puts dX12_laysAll_58 ml_RX12_449 kr_at_346 (r_X12_puts E 8 (0 : Int32) l1 (0 : Int32) M2) rfl rfl (Nat.le_of_ble_eq_true rfl) rfl (by decide) (Nat.le_of_ble_eq_true rfl) (fun M3 => ?_)
  exact kr_vret dX12_laysAll_61 rfl
theorem r_X12_laysAll_34 (E : kr_E) (k_8 : Int32 → Int32 → kr_M → Option kr_M) (l2 : Int32) (s0 : Int32) (s1 : Int32) (hk_8 : ∀ (x1 : Int32) (x2 : Int32) (M : kr_M), kR kr_vv E Y_X12_laysAll 12 8 [(0, kr_r E 346), (1, .int x1), (2, .int x2)] [] M (k_8 x1 x2 M)) (M : kr_M) : kR kr_vv E Y_X12_laysAll 12 34 [(0, kr_r E 346), (2, .int l2)] [.int s0, .int s1] M (f_X12_laysAll_34 k_8 l2 s0 s1 M) := by
  rw [f_X12_laysAll_34]
  refine kr_ior dX12_laysAll_34 ?_
  refine kr_nmi (fun v1 => ?_)
  refine kr_istore_n (lv' := [(1, .int v1), (0, kr_r E 346), (2, .int l2)]) dX12_laysAll_35 rfl (by decide) rfl ?_
  refine kr_iinc (j := 2) (v := (l2 + (1 : Int32))) (lv' := [(2, .int (l2 + (1 : Int32))), (1, .int v1), (0, kr_r E 346)]) dX12_laysAll_36 rfl rfl (by decide) rfl ?_
  refine kr_goto (tgt := 8) dX12_laysAll_39 (by decide) ?_
  refine kr_sub [2, 1, 0] rfl ?_
  exact hk_8 v1 (l2 + (1 : Int32)) M
theorem r_X12_laysAll_8 (E : kr_E)    : ∀ (n : Nat) (l1 : Int32) (l2 : Int32) (M : kr_M), kR kr_vv E Y_X12_laysAll 12 8 [(0, kr_r E 346), (1, .int l1), (2, .int l2)] [] M (f_X12_laysAll_8 n l1 l2 M) := by
  intro n
  induction n with
  | zero => intro l1 l2 M; exact kr_none
  | succ n ih =>
    intro l1 l2 M
    rw [f_X12_laysAll_8]
    refine kr_iload_n dX12_laysAll_8 rfl 2 rfl ?_
    refine kr_aload_n dX12_laysAll_9 rfl 0 rfl ?_
    refine kr_getA (o := 7) (ci := 12) (j := 17) dX12_laysAll_10 kr_at_346 fl_RX12_34 rfl ?_
    refine kr_iconst (v := 5) dX12_laysAll_13 (by decide) ?_
    refine kr_iald dX12_laysAll_14 kr_at_353 (fun v1 => ?_)
    refine kr_icmp_ge (tgt := 42) dX12_laysAll_15 (by decide) ?_ ?_
    · refine kr_sub [0, 1] rfl ?_
      exact r_X12_laysAll_42 E l1 M
    · refine kr_iload_n dX12_laysAll_18 rfl 1 rfl ?_
      refine kr_aload_n dX12_laysAll_19 rfl 0 rfl ?_
      refine kr_iload_n dX12_laysAll_20 rfl 2 rfl ?_
      refine kr_Vi (As := [.int l2]) (st := [.int l1]) zv_X12_isLeftOut dX12_laysAll_21 ml_RX12_453 kr_at_346 (r_X12_isLeftOut E l2 M) rfl rfl (Nat.le_of_ble_eq_true rfl) rfl (by decide) (Nat.le_of_ble_eq_true rfl) (fun r3 M2 => ?_)
      refine kr_if_eq (tgt := 31) dX12_laysAll_24 (by decide) ?_ ?_
      · refine kr_iconst (v := 1) dX12_laysAll_31 (by decide) ?_
        refine kr_iload_n dX12_laysAll_32 rfl 2 rfl ?_
        refine kr_ishl dX12_laysAll_33 ?_
        refine kr_sub [0, 2] rfl ?_
        exact r_X12_laysAll_34 E _ l2 ((1 : Int32) <<< (l2 &&& 31)) l1 ih M2
      · refine kr_iconst (v := 0) dX12_laysAll_27 (by decide) ?_
        refine kr_goto (tgt := 34) dX12_laysAll_28 (by decide) ?_
        refine kr_sub [0, 2] rfl ?_
        exact r_X12_laysAll_34 E _ l2 (0 : Int32) l1 ih M2
theorem r_X12_laysAll (E : kr_E)  (M : kr_M) : kR kr_vv E Y_X12_laysAll 12 0 [(0, kr_r E 346)] [] M (f_X12_laysAll M) := by
  rw [f_X12_laysAll]
  refine kr_aload_n dX12_laysAll_0 rfl 0 rfl ?_
  refine kr_Vv (As := []) (st := []) zv_X12_lays dX12_laysAll_1 ml_RX12_337 kr_at_346 (r_X12_lays E  M) rfl rfl (Nat.le_of_ble_eq_true rfl) rfl (by decide) (Nat.le_of_ble_eq_true rfl) (fun M1 => ?_)
  refine kr_iconst (v := 0) dX12_laysAll_4 (by decide) ?_
  refine kr_istore_n (lv' := [(1, .int (0 : Int32)), (0, kr_r E 346)]) dX12_laysAll_5 rfl (by decide) rfl ?_
  refine kr_iconst (v := 0) dX12_laysAll_6 (by decide) ?_
  refine kr_istore_n (lv' := [(2, .int (0 : Int32)), (1, .int (0 : Int32)), (0, kr_r E 346)]) dX12_laysAll_7 rfl (by decide) rfl ?_
  refine kr_sub [2, 1, 0] rfl ?_
  exact r_X12_laysAll_8 E _ (0 : Int32) (0 : Int32) M1
theorem dX12_all_0 : decode cX12_all 0 = .ok (.aload_n 0, 1) := by decide +kernel
theorem dX12_all_1 : decode cX12_all 1 = .ok (.iconst 0, 1) := by decide +kernel
theorem dX12_all_2 : decode cX12_all 2 = .ok (.putfield 138, 3) := by decide +kernel
theorem dX12_all_5 : decode cX12_all 5 = .ok (.aload_n 0, 1) := by decide +kernel
theorem dX12_all_6 : decode cX12_all 6 = .ok (.invokevirtual 381, 3) := by decide +kernel
theorem dX12_all_9 : decode cX12_all 9 = .ok (.ifCond .ne 6, 3) := by decide +kernel
theorem dX12_all_12 : decode cX12_all 12 = .ok (.bipush (-2), 2) := by decide +kernel
theorem dX12_all_14 : decode cX12_all 14 = .ok (.ireturn, 1) := by decide +kernel
theorem dX12_all_15 : decode cX12_all 15 = .ok (.aload_n 0, 1) := by decide +kernel
theorem dX12_all_16 : decode cX12_all 16 = .ok (.invokevirtual 456, 3) := by decide +kernel
theorem dX12_all_19 : decode cX12_all 19 = .ok (.aload_n 0, 1) := by decide +kernel
theorem dX12_all_20 : decode cX12_all 20 = .ok (.getfield 440, 3) := by decide +kernel
theorem dX12_all_23 : decode cX12_all 23 = .ok (.ireturn, 1) := by decide +kernel
theorem r_X12_all (E : kr_E)  (M : kr_M) : kR kr_vi E Y_X12_all 13 0 [(0, kr_r E 346)] [] M (f_X12_all M) := by
  rw [f_X12_all]
  refine kr_aload_n dX12_all_0 rfl 0 rfl ?_
  refine kr_iconst (v := 0) dX12_all_1 (by decide) ?_
  refine kr_putI (ci := 12) (j := 0) dX12_all_2 kr_at_346 fl_RX12_138 rfl rfl (fun M1 => ?_)
  refine kr_aload_n dX12_all_5 rfl 0 rfl ?_
  refine kr_Vi (As := []) (st := []) zv_X12_isGorge dX12_all_6 ml_RX12_381 kr_at_346 (r_X12_isGorge E  M1) rfl rfl (Nat.le_of_ble_eq_true rfl) rfl (by decide) (Nat.le_of_ble_eq_true rfl) (fun r3 M2 => ?_)
  refine kr_if_ne (tgt := 15) dX12_all_9 (by decide) ?_ ?_
  · refine kr_aload_n dX12_all_15 rfl 0 rfl ?_
    refine kr_Vv (As := []) (st := []) zv_X12_laysAll dX12_all_16 ml_RX12_456 kr_at_346 (r_X12_laysAll E  M2) rfl rfl (Nat.le_of_ble_eq_true rfl) rfl (by decide) (Nat.le_of_ble_eq_true rfl) (fun M4 => ?_)
    refine kr_aload_n dX12_all_19 rfl 0 rfl ?_
    refine kr_getI (ci := 12) (j := 51) dX12_all_20 kr_at_346 fl_RX12_440 rfl (fun v6 => ?_)
    exact kr_iret dX12_all_23 rfl
  · refine kr_bipush (v := -2) dX12_all_12 (by decide) ?_
    exact kr_iret dX12_all_14 rfl
theorem dX12_order_0 : decode cX12_order 0 = .ok (.aload_n 0, 1) := by decide +kernel
theorem dX12_order_1 : decode cX12_order 1 = .ok (.iconst 0, 1) := by decide +kernel
theorem dX12_order_2 : decode cX12_order 2 = .ok (.putfield 138, 3) := by decide +kernel
theorem dX12_order_5 : decode cX12_order 5 = .ok (.aload_n 0, 1) := by decide +kernel
theorem dX12_order_6 : decode cX12_order 6 = .ok (.invokevirtual 381, 3) := by decide +kernel
theorem dX12_order_9 : decode cX12_order 9 = .ok (.ifCond .ne 6, 3) := by decide +kernel
theorem dX12_order_12 : decode cX12_order 12 = .ok (.bipush (-2), 2) := by decide +kernel
theorem dX12_order_14 : decode cX12_order 14 = .ok (.ireturn, 1) := by decide +kernel
theorem dX12_order_15 : decode cX12_order 15 = .ok (.aload_n 0, 1) := by decide +kernel
theorem dX12_order_16 : decode cX12_order 16 = .ok (.invokevirtual 456, 3) := by decide +kernel
theorem dX12_order_19 : decode cX12_order 19 = .ok (.iload_n 1, 1) := by decide +kernel
theorem dX12_order_20 : decode cX12_order 20 = .ok (.i2l, 1) := by decide +kernel
theorem dX12_order_21 : decode cX12_order 21 = .ok (.lconst 0, 1) := by decide +kernel
theorem dX12_order_22 : decode cX12_order 22 = .ok (.aload_n 0, 1) := by decide +kernel
theorem dX12_order_23 : decode cX12_order 23 = .ok (.getfield 443, 3) := by decide +kernel
theorem dX12_order_26 : decode cX12_order 26 = .ok (.iconst 1, 1) := by decide +kernel
theorem dX12_order_27 : decode cX12_order 27 = .ok (.isub, 1) := by decide +kernel
theorem dX12_order_28 : decode cX12_order 28 = .ok (.i2l, 1) := by decide +kernel
theorem dX12_order_29 : decode cX12_order 29 = .ok (.invokestatic 143, 3) := by decide +kernel
theorem dX12_order_32 : decode cX12_order 32 = .ok (.ifCond .eq 12, 3) := by decide +kernel
theorem dX12_order_35 : decode cX12_order 35 = .ok (.aload_n 0, 1) := by decide +kernel
theorem dX12_order_36 : decode cX12_order 36 = .ok (.getfield 108, 3) := by decide +kernel
theorem dX12_order_39 : decode cX12_order 39 = .ok (.iload_n 1, 1) := by decide +kernel
theorem dX12_order_40 : decode cX12_order 40 = .ok (.iaload, 1) := by decide +kernel
theorem dX12_order_41 : decode cX12_order 41 = .ok (.goto 4, 3) := by decide +kernel
theorem dX12_order_44 : decode cX12_order 44 = .ok (.iconst (-1), 1) := by decide +kernel
theorem dX12_order_45 : decode cX12_order 45 = .ok (.ireturn, 1) := by decide +kernel
theorem r_X12_order (E : kr_E) (p1 : Int32) (M : kr_M) : kR kr_vi E Y_X12_order 13 0 [(0, kr_r E 346), (1, .int p1)] [] M (f_X12_order p1 M) := by
  rw [f_X12_order]
  refine kr_aload_n dX12_order_0 rfl 0 rfl ?_
  refine kr_iconst (v := 0) dX12_order_1 (by decide) ?_
  refine kr_putI (ci := 12) (j := 0) dX12_order_2 kr_at_346 fl_RX12_138 rfl rfl (fun M1 => ?_)
  refine kr_aload_n dX12_order_5 rfl 0 rfl ?_
  refine kr_Vi (As := []) (st := []) zv_X12_isGorge dX12_order_6 ml_RX12_381 kr_at_346 (r_X12_isGorge E  M1) rfl rfl (Nat.le_of_ble_eq_true rfl) rfl (by decide) (Nat.le_of_ble_eq_true rfl) (fun r3 M2 => ?_)
  refine kr_if_ne (tgt := 15) dX12_order_9 (by decide) ?_ ?_
  · refine kr_aload_n dX12_order_15 rfl 0 rfl ?_
    refine kr_Vv (As := []) (st := []) zv_X12_laysAll dX12_order_16 ml_RX12_456 kr_at_346 (r_X12_laysAll E  M2) rfl rfl (Nat.le_of_ble_eq_true rfl) rfl (by decide) (Nat.le_of_ble_eq_true rfl) (fun M4 => ?_)
    refine kr_iload_n dX12_order_19 rfl 1 rfl ?_
    refine kr_i2l dX12_order_20 ?_
    refine kr_lconst (v := 0) dX12_order_21 (by decide) ?_
    refine kr_aload_n dX12_order_22 rfl 0 rfl ?_
    refine kr_getI (ci := 12) (j := 50) dX12_order_23 kr_at_346 fl_RX12_443 rfl (fun v6 => ?_)
    refine kr_iconst (v := 1) dX12_order_26 (by decide) ?_
    refine kr_isub dX12_order_27 ?_
    refine kr_i2l dX12_order_28 ?_
    refine kr_Si (As := [.long (p1.toInt64), .long (0 : Int64), .long ((v6 - (1 : Int32)).toInt64)]) (st := []) zs_X12_in dX12_order_29 ml_RX12_143 (r_X12_in E (p1.toInt64) (0 : Int64) ((v6 - (1 : Int32)).toInt64) M4) rfl rfl (Nat.le_of_ble_eq_true rfl) rfl (by decide) (Nat.le_of_ble_eq_true rfl) (fun r8 M7 => ?_)
    refine kr_if_eq (tgt := 44) dX12_order_32 (by decide) ?_ ?_
    · refine kr_iconst (v := -1) dX12_order_44 (by decide) ?_
      exact kr_iret dX12_order_45 rfl
    · refine kr_aload_n dX12_order_35 rfl 0 rfl ?_
      refine kr_getA (o := 31) (ci := 12) (j := 49) dX12_order_36 kr_at_346 fl_RX12_108 rfl ?_
      refine kr_iload_n dX12_order_39 rfl 1 rfl ?_
      refine kr_iald dX12_order_40 kr_at_377 (fun v9 => ?_)
      refine kr_goto (tgt := 45) dX12_order_41 (by decide) ?_
      exact kr_iret dX12_order_45 rfl
  · refine kr_bipush (v := -2) dX12_order_12 (by decide) ?_
    exact kr_iret dX12_order_14 rfl
theorem dX12_part_0 : decode cX12_part 0 = .ok (.aload_n 0, 1) := by decide +kernel
theorem dX12_part_1 : decode cX12_part 1 = .ok (.iconst 0, 1) := by decide +kernel
theorem dX12_part_2 : decode cX12_part 2 = .ok (.putfield 138, 3) := by decide +kernel
theorem dX12_part_5 : decode cX12_part 5 = .ok (.aload_n 0, 1) := by decide +kernel
theorem dX12_part_6 : decode cX12_part 6 = .ok (.iload_n 1, 1) := by decide +kernel
theorem dX12_part_7 : decode cX12_part 7 = .ok (.iload_n 2, 1) := by decide +kernel
theorem dX12_part_8 : decode cX12_part 8 = .ok (.invokevirtual 431, 3) := by decide +kernel
theorem dX12_part_11 : decode cX12_part 11 = .ok (.ifCond .ne 6, 3) := by decide +kernel
theorem dX12_part_14 : decode cX12_part 14 = .ok (.bipush (-2), 2) := by decide +kernel
theorem dX12_part_16 : decode cX12_part 16 = .ok (.ireturn, 1) := by decide +kernel
theorem dX12_part_17 : decode cX12_part 17 = .ok (.aload_n 0, 1) := by decide +kernel
theorem dX12_part_18 : decode cX12_part 18 = .ok (.invokevirtual 337, 3) := by decide +kernel
theorem dX12_part_21 : decode cX12_part 21 = .ok (.aload_n 0, 1) := by decide +kernel
theorem dX12_part_22 : decode cX12_part 22 = .ok (.iload_n 1, 1) := by decide +kernel
theorem dX12_part_23 : decode cX12_part 23 = .ok (.iload_n 2, 1) := by decide +kernel
theorem dX12_part_24 : decode cX12_part 24 = .ok (.invokevirtual 437, 3) := by decide +kernel
theorem dX12_part_27 : decode cX12_part 27 = .ok (.ireturn, 1) := by decide +kernel
theorem r_X12_part (E : kr_E) (p1 : Int32) (p2 : Int32) (M : kr_M) : kR kr_vi E Y_X12_part 4 0 [(0, kr_r E 346), (1, .int p1), (2, .int p2)] [] M (f_X12_part p1 p2 M) := by
  rw [f_X12_part]
  refine kr_aload_n dX12_part_0 rfl 0 rfl ?_
  refine kr_iconst (v := 0) dX12_part_1 (by decide) ?_
  refine kr_putI (ci := 12) (j := 0) dX12_part_2 kr_at_346 fl_RX12_138 rfl rfl (fun M1 => ?_)
  refine kr_aload_n dX12_part_5 rfl 0 rfl ?_
  refine kr_iload_n dX12_part_6 rfl 1 rfl ?_
  refine kr_iload_n dX12_part_7 rfl 2 rfl ?_
  refine kr_Vi (As := [.int p1, .int p2]) (st := []) zv_X12_areRopes dX12_part_8 ml_RX12_431 kr_at_346 (r_X12_areRopes E p1 p2 M1) rfl rfl (Nat.le_of_ble_eq_true rfl) rfl (by decide) (Nat.le_of_ble_eq_true rfl) (fun r3 M2 => ?_)
  refine kr_if_ne (tgt := 17) dX12_part_11 (by decide) ?_ ?_
  · refine kr_aload_n dX12_part_17 rfl 0 rfl ?_
    refine kr_Vv (As := []) (st := []) zv_X12_lays dX12_part_18 ml_RX12_337 kr_at_346 (r_X12_lays E  M2) rfl rfl (Nat.le_of_ble_eq_true rfl) rfl (by decide) (Nat.le_of_ble_eq_true rfl) (fun M4 => ?_)
    refine kr_aload_n dX12_part_21 rfl 0 rfl ?_
    refine kr_iload_n dX12_part_22 rfl 1 rfl ?_
    refine kr_iload_n dX12_part_23 rfl 2 rfl ?_
    refine kr_Vi (As := [.int p1, .int p2]) (st := []) zv_X12_partOf dX12_part_24 ml_RX12_437 kr_at_346 (r_X12_partOf E p1 p2 M4) rfl rfl (Nat.le_of_ble_eq_true rfl) rfl (by decide) (Nat.le_of_ble_eq_true rfl) (fun r7 M6 => ?_)
    exact kr_iret dX12_part_27 rfl
  · refine kr_bipush (v := -2) dX12_part_14 (by decide) ?_
    exact kr_iret dX12_part_16 rfl
theorem dX12_errorsTo_0 : decode cX12_errorsTo 0 = .ok (.iconst 0, 1) := by decide +kernel
theorem dX12_errorsTo_1 : decode cX12_errorsTo 1 = .ok (.istore_n 2, 1) := by decide +kernel
theorem dX12_errorsTo_2 : decode cX12_errorsTo 2 = .ok (.iload_n 2, 1) := by decide +kernel
theorem dX12_errorsTo_3 : decode cX12_errorsTo 3 = .ok (.aload_n 0, 1) := by decide +kernel
theorem dX12_errorsTo_4 : decode cX12_errorsTo 4 = .ok (.getfield 351, 3) := by decide +kernel
theorem dX12_errorsTo_7 : decode cX12_errorsTo 7 = .ok (.if_icmp .gt 174, 3) := by decide +kernel
theorem dX12_errorsTo_10 : decode cX12_errorsTo 10 = .ok (.iconst 0, 1) := by decide +kernel
theorem dX12_errorsTo_11 : decode cX12_errorsTo 11 = .ok (.istore_n 3, 1) := by decide +kernel
theorem dX12_errorsTo_12 : decode cX12_errorsTo 12 = .ok (.iload_n 3, 1) := by decide +kernel
theorem dX12_errorsTo_13 : decode cX12_errorsTo 13 = .ok (.aload_n 0, 1) := by decide +kernel
theorem dX12_errorsTo_14 : decode cX12_errorsTo 14 = .ok (.getfield 71, 3) := by decide +kernel
theorem dX12_errorsTo_17 : decode cX12_errorsTo 17 = .ok (.iload_n 1, 1) := by decide +kernel
theorem dX12_errorsTo_18 : decode cX12_errorsTo 18 = .ok (.iaload, 1) := by decide +kernel
theorem dX12_errorsTo_19 : decode cX12_errorsTo 19 = .ok (.if_icmp .gt 156, 3) := by decide +kernel
theorem dX12_errorsTo_22 : decode cX12_errorsTo 22 = .ok (.iload_n 2, 1) := by decide +kernel
theorem dX12_errorsTo_23 : decode cX12_errorsTo 23 = .ok (.ifCond .eq 7, 3) := by decide +kernel
theorem dX12_errorsTo_26 : decode cX12_errorsTo 26 = .ok (.iload_n 3, 1) := by decide +kernel
theorem dX12_errorsTo_27 : decode cX12_errorsTo 27 = .ok (.ifCond .ne 20, 3) := by decide +kernel
theorem dX12_errorsTo_30 : decode cX12_errorsTo 30 = .ok (.aload_n 0, 1) := by decide +kernel
theorem dX12_errorsTo_31 : decode cX12_errorsTo 31 = .ok (.getfield 111, 3) := by decide +kernel
theorem dX12_errorsTo_34 : decode cX12_errorsTo 34 = .ok (.bipush 25, 2) := by decide +kernel
theorem dX12_errorsTo_36 : decode cX12_errorsTo 36 = .ok (.iload_n 2, 1) := by decide +kernel
theorem dX12_errorsTo_37 : decode cX12_errorsTo 37 = .ok (.imul, 1) := by decide +kernel
theorem dX12_errorsTo_38 : decode cX12_errorsTo 38 = .ok (.iload_n 3, 1) := by decide +kernel
theorem dX12_errorsTo_39 : decode cX12_errorsTo 39 = .ok (.iadd, 1) := by decide +kernel
theorem dX12_errorsTo_40 : decode cX12_errorsTo 40 = .ok (.iload_n 2, 1) := by decide +kernel
theorem dX12_errorsTo_41 : decode cX12_errorsTo 41 = .ok (.iload_n 3, 1) := by decide +kernel
theorem dX12_errorsTo_42 : decode cX12_errorsTo 42 = .ok (.iadd, 1) := by decide +kernel
theorem dX12_errorsTo_43 : decode cX12_errorsTo 43 = .ok (.iastore, 1) := by decide +kernel
theorem dX12_errorsTo_44 : decode cX12_errorsTo 44 = .ok (.goto 125, 3) := by decide +kernel
theorem dX12_errorsTo_47 : decode cX12_errorsTo 47 = .ok (.aload_n 0, 1) := by decide +kernel
theorem dX12_errorsTo_48 : decode cX12_errorsTo 48 = .ok (.getfield 111, 3) := by decide +kernel
theorem dX12_errorsTo_51 : decode cX12_errorsTo 51 = .ok (.bipush 25, 2) := by decide +kernel
theorem dX12_errorsTo_53 : decode cX12_errorsTo 53 = .ok (.iload_n 2, 1) := by decide +kernel
theorem dX12_errorsTo_54 : decode cX12_errorsTo 54 = .ok (.iconst 1, 1) := by decide +kernel
theorem dX12_errorsTo_55 : decode cX12_errorsTo 55 = .ok (.isub, 1) := by decide +kernel
theorem dX12_errorsTo_56 : decode cX12_errorsTo 56 = .ok (.imul, 1) := by decide +kernel
theorem dX12_errorsTo_57 : decode cX12_errorsTo 57 = .ok (.iload_n 3, 1) := by decide +kernel
theorem dX12_errorsTo_58 : decode cX12_errorsTo 58 = .ok (.iadd, 1) := by decide +kernel
theorem dX12_errorsTo_59 : decode cX12_errorsTo 59 = .ok (.iconst 1, 1) := by decide +kernel
theorem dX12_errorsTo_60 : decode cX12_errorsTo 60 = .ok (.isub, 1) := by decide +kernel
theorem dX12_errorsTo_61 : decode cX12_errorsTo 61 = .ok (.iaload, 1) := by decide +kernel
theorem dX12_errorsTo_62 : decode cX12_errorsTo 62 = .ok (.aload_n 0, 1) := by decide +kernel
theorem dX12_errorsTo_63 : decode cX12_errorsTo 63 = .ok (.getfield 80, 3) := by decide +kernel
theorem dX12_errorsTo_66 : decode cX12_errorsTo 66 = .ok (.iload_n 2, 1) := by decide +kernel
theorem dX12_errorsTo_67 : decode cX12_errorsTo 67 = .ok (.iconst 1, 1) := by decide +kernel
theorem dX12_errorsTo_68 : decode cX12_errorsTo 68 = .ok (.isub, 1) := by decide +kernel
theorem dX12_errorsTo_69 : decode cX12_errorsTo 69 = .ok (.iaload, 1) := by decide +kernel
theorem dX12_errorsTo_70 : decode cX12_errorsTo 70 = .ok (.aload_n 0, 1) := by decide +kernel
theorem dX12_errorsTo_71 : decode cX12_errorsTo 71 = .ok (.getfield 68, 3) := by decide +kernel
theorem dX12_errorsTo_74 : decode cX12_errorsTo 74 = .ok (.bipush 24, 2) := by decide +kernel
theorem dX12_errorsTo_76 : decode cX12_errorsTo 76 = .ok (.iload_n 1, 1) := by decide +kernel
theorem dX12_errorsTo_77 : decode cX12_errorsTo 77 = .ok (.imul, 1) := by decide +kernel
theorem dX12_errorsTo_78 : decode cX12_errorsTo 78 = .ok (.iload_n 3, 1) := by decide +kernel
theorem dX12_errorsTo_79 : decode cX12_errorsTo 79 = .ok (.iadd, 1) := by decide +kernel
theorem dX12_errorsTo_80 : decode cX12_errorsTo 80 = .ok (.iconst 1, 1) := by decide +kernel
theorem dX12_errorsTo_81 : decode cX12_errorsTo 81 = .ok (.isub, 1) := by decide +kernel
theorem dX12_errorsTo_82 : decode cX12_errorsTo 82 = .ok (.iaload, 1) := by decide +kernel
theorem dX12_errorsTo_83 : decode cX12_errorsTo 83 = .ok (.if_icmp .ne 7, 3) := by decide +kernel
theorem dX12_errorsTo_86 : decode cX12_errorsTo 86 = .ok (.iconst 0, 1) := by decide +kernel
theorem dX12_errorsTo_87 : decode cX12_errorsTo 87 = .ok (.goto 4, 3) := by decide +kernel
theorem dX12_errorsTo_90 : decode cX12_errorsTo 90 = .ok (.iconst 1, 1) := by decide +kernel
theorem dX12_errorsTo_91 : decode cX12_errorsTo 91 = .ok (.iadd, 1) := by decide +kernel
theorem dX12_errorsTo_92 : decode cX12_errorsTo 92 = .ok (.istore 4, 2) := by decide +kernel
theorem dX12_errorsTo_94 : decode cX12_errorsTo 94 = .ok (.aload_n 0, 1) := by decide +kernel
theorem dX12_errorsTo_95 : decode cX12_errorsTo 95 = .ok (.getfield 111, 3) := by decide +kernel
theorem dX12_errorsTo_98 : decode cX12_errorsTo 98 = .ok (.bipush 25, 2) := by decide +kernel
theorem dX12_errorsTo_100 : decode cX12_errorsTo 100 = .ok (.iload_n 2, 1) := by decide +kernel
theorem dX12_errorsTo_101 : decode cX12_errorsTo 101 = .ok (.iconst 1, 1) := by decide +kernel
theorem dX12_errorsTo_102 : decode cX12_errorsTo 102 = .ok (.isub, 1) := by decide +kernel
theorem dX12_errorsTo_103 : decode cX12_errorsTo 103 = .ok (.imul, 1) := by decide +kernel
theorem dX12_errorsTo_104 : decode cX12_errorsTo 104 = .ok (.iload_n 3, 1) := by decide +kernel
theorem dX12_errorsTo_105 : decode cX12_errorsTo 105 = .ok (.iadd, 1) := by decide +kernel
theorem dX12_errorsTo_106 : decode cX12_errorsTo 106 = .ok (.iaload, 1) := by decide +kernel
theorem dX12_errorsTo_107 : decode cX12_errorsTo 107 = .ok (.iconst 1, 1) := by decide +kernel
theorem dX12_errorsTo_108 : decode cX12_errorsTo 108 = .ok (.iadd, 1) := by decide +kernel
theorem dX12_errorsTo_109 : decode cX12_errorsTo 109 = .ok (.istore 5, 2) := by decide +kernel
theorem dX12_errorsTo_111 : decode cX12_errorsTo 111 = .ok (.aload_n 0, 1) := by decide +kernel
theorem dX12_errorsTo_112 : decode cX12_errorsTo 112 = .ok (.getfield 111, 3) := by decide +kernel
theorem dX12_errorsTo_115 : decode cX12_errorsTo 115 = .ok (.bipush 25, 2) := by decide +kernel
theorem dX12_errorsTo_117 : decode cX12_errorsTo 117 = .ok (.iload_n 2, 1) := by decide +kernel
theorem dX12_errorsTo_118 : decode cX12_errorsTo 118 = .ok (.imul, 1) := by decide +kernel
theorem dX12_errorsTo_119 : decode cX12_errorsTo 119 = .ok (.iload_n 3, 1) := by decide +kernel
theorem dX12_errorsTo_120 : decode cX12_errorsTo 120 = .ok (.iadd, 1) := by decide +kernel
theorem dX12_errorsTo_121 : decode cX12_errorsTo 121 = .ok (.iconst 1, 1) := by decide +kernel
theorem dX12_errorsTo_122 : decode cX12_errorsTo 122 = .ok (.isub, 1) := by decide +kernel
theorem dX12_errorsTo_123 : decode cX12_errorsTo 123 = .ok (.iaload, 1) := by decide +kernel
theorem dX12_errorsTo_124 : decode cX12_errorsTo 124 = .ok (.iconst 1, 1) := by decide +kernel
theorem dX12_errorsTo_125 : decode cX12_errorsTo 125 = .ok (.iadd, 1) := by decide +kernel
theorem dX12_errorsTo_126 : decode cX12_errorsTo 126 = .ok (.istore 6, 2) := by decide +kernel
theorem dX12_errorsTo_128 : decode cX12_errorsTo 128 = .ok (.iload 5, 2) := by decide +kernel
theorem dX12_errorsTo_130 : decode cX12_errorsTo 130 = .ok (.iload 4, 2) := by decide +kernel
theorem dX12_errorsTo_132 : decode cX12_errorsTo 132 = .ok (.if_icmp .ge 8, 3) := by decide +kernel
theorem dX12_errorsTo_135 : decode cX12_errorsTo 135 = .ok (.iload 5, 2) := by decide +kernel
theorem dX12_errorsTo_137 : decode cX12_errorsTo 137 = .ok (.goto 5, 3) := by decide +kernel
theorem dX12_errorsTo_140 : decode cX12_errorsTo 140 = .ok (.iload 4, 2) := by decide +kernel
theorem dX12_errorsTo_142 : decode cX12_errorsTo 142 = .ok (.istore 4, 2) := by decide +kernel
theorem dX12_errorsTo_144 : decode cX12_errorsTo 144 = .ok (.aload_n 0, 1) := by decide +kernel
theorem dX12_errorsTo_145 : decode cX12_errorsTo 145 = .ok (.getfield 111, 3) := by decide +kernel
theorem dX12_errorsTo_148 : decode cX12_errorsTo 148 = .ok (.bipush 25, 2) := by decide +kernel
theorem dX12_errorsTo_150 : decode cX12_errorsTo 150 = .ok (.iload_n 2, 1) := by decide +kernel
theorem dX12_errorsTo_151 : decode cX12_errorsTo 151 = .ok (.imul, 1) := by decide +kernel
theorem dX12_errorsTo_152 : decode cX12_errorsTo 152 = .ok (.iload_n 3, 1) := by decide +kernel
theorem dX12_errorsTo_153 : decode cX12_errorsTo 153 = .ok (.iadd, 1) := by decide +kernel
theorem dX12_errorsTo_154 : decode cX12_errorsTo 154 = .ok (.iload 6, 2) := by decide +kernel
theorem dX12_errorsTo_156 : decode cX12_errorsTo 156 = .ok (.iload 4, 2) := by decide +kernel
theorem dX12_errorsTo_158 : decode cX12_errorsTo 158 = .ok (.if_icmp .ge 8, 3) := by decide +kernel
theorem dX12_errorsTo_161 : decode cX12_errorsTo 161 = .ok (.iload 6, 2) := by decide +kernel
theorem dX12_errorsTo_163 : decode cX12_errorsTo 163 = .ok (.goto 5, 3) := by decide +kernel
theorem dX12_errorsTo_166 : decode cX12_errorsTo 166 = .ok (.iload 4, 2) := by decide +kernel
theorem dX12_errorsTo_168 : decode cX12_errorsTo 168 = .ok (.iastore, 1) := by decide +kernel
theorem dX12_errorsTo_169 : decode cX12_errorsTo 169 = .ok (.iinc 3 1, 3) := by decide +kernel
theorem dX12_errorsTo_172 : decode cX12_errorsTo 172 = .ok (.goto (-160), 3) := by decide +kernel
theorem dX12_errorsTo_175 : decode cX12_errorsTo 175 = .ok (.iinc 2 1, 3) := by decide +kernel
theorem dX12_errorsTo_178 : decode cX12_errorsTo 178 = .ok (.goto (-176), 3) := by decide +kernel
theorem dX12_errorsTo_181 : decode cX12_errorsTo 181 = .ok (.aload_n 0, 1) := by decide +kernel
theorem dX12_errorsTo_182 : decode cX12_errorsTo 182 = .ok (.getfield 111, 3) := by decide +kernel
theorem dX12_errorsTo_185 : decode cX12_errorsTo 185 = .ok (.bipush 25, 2) := by decide +kernel
theorem dX12_errorsTo_187 : decode cX12_errorsTo 187 = .ok (.aload_n 0, 1) := by decide +kernel
theorem dX12_errorsTo_188 : decode cX12_errorsTo 188 = .ok (.getfield 351, 3) := by decide +kernel
theorem dX12_errorsTo_191 : decode cX12_errorsTo 191 = .ok (.imul, 1) := by decide +kernel
theorem dX12_errorsTo_192 : decode cX12_errorsTo 192 = .ok (.aload_n 0, 1) := by decide +kernel
theorem dX12_errorsTo_193 : decode cX12_errorsTo 193 = .ok (.getfield 71, 3) := by decide +kernel
theorem dX12_errorsTo_196 : decode cX12_errorsTo 196 = .ok (.iload_n 1, 1) := by decide +kernel
theorem dX12_errorsTo_197 : decode cX12_errorsTo 197 = .ok (.iaload, 1) := by decide +kernel
theorem dX12_errorsTo_198 : decode cX12_errorsTo 198 = .ok (.iadd, 1) := by decide +kernel
theorem dX12_errorsTo_199 : decode cX12_errorsTo 199 = .ok (.iaload, 1) := by decide +kernel
theorem dX12_errorsTo_200 : decode cX12_errorsTo 200 = .ok (.ireturn, 1) := by decide +kernel
theorem r_X12_errorsTo_181 (E : kr_E)  (l1 : Int32)  (M : kr_M) : kR kr_vi E Y_X12_errorsTo 1 181 [(0, kr_r E 346), (1, .int l1)] [] M (f_X12_errorsTo_181 l1 M) := by
  rw [f_X12_errorsTo_181]
  refine kr_aload_n dX12_errorsTo_181 rfl 0 rfl ?_
  refine kr_getA (o := 32) (ci := 12) (j := 52) dX12_errorsTo_182 kr_at_346 fl_RX12_111 rfl ?_
  refine kr_bipush (v := 25) dX12_errorsTo_185 (by decide) ?_
  refine kr_aload_n dX12_errorsTo_187 rfl 0 rfl ?_
  refine kr_getI (ci := 12) (j := 34) dX12_errorsTo_188 kr_at_346 fl_RX12_351 rfl (fun v1 => ?_)
  refine kr_imul dX12_errorsTo_191 ?_
  refine kr_aload_n dX12_errorsTo_192 rfl 0 rfl ?_
  refine kr_getA (o := 19) (ci := 12) (j := 29) dX12_errorsTo_193 kr_at_346 fl_RX12_71 rfl ?_
  refine kr_iload_n dX12_errorsTo_196 rfl 1 rfl ?_
  refine kr_iald dX12_errorsTo_197 kr_at_365 (fun v2 => ?_)
  refine kr_iadd dX12_errorsTo_198 ?_
  refine kr_iald dX12_errorsTo_199 kr_at_378 (fun v3 => ?_)
  exact kr_iret dX12_errorsTo_200 rfl
theorem r_X12_errorsTo_175 (E : kr_E) (k_2 : Int32 → kr_M → Option (Int32 × kr_M)) (l1 : Int32) (l2 : Int32) (hk_2 : ∀ (x2 : Int32) (M : kr_M), kR kr_vi E Y_X12_errorsTo 1 2 [(0, kr_r E 346), (1, .int l1), (2, .int x2)] [] M (k_2 x2 M)) (M : kr_M) : kR kr_vi E Y_X12_errorsTo 1 175 [(0, kr_r E 346), (1, .int l1), (2, .int l2)] [] M (f_X12_errorsTo_175 k_2 l2 M) := by
  rw [f_X12_errorsTo_175]
  refine kr_iinc (j := 2) (v := (l2 + (1 : Int32))) (lv' := [(2, .int (l2 + (1 : Int32))), (0, kr_r E 346), (1, .int l1)]) dX12_errorsTo_175 rfl rfl (by decide) rfl ?_
  refine kr_goto (tgt := 2) dX12_errorsTo_178 (by decide) ?_
  refine kr_sub [1, 2, 0] rfl ?_
  exact hk_2 (l2 + (1 : Int32)) M
theorem r_X12_errorsTo_169 (E : kr_E) (k_12 : Int32 → kr_M → Option (Int32 × kr_M)) (l1 : Int32) (l2 : Int32) (l3 : Int32) (hk_12 : ∀ (x3 : Int32) (M : kr_M), kR kr_vi E Y_X12_errorsTo 1 12 [(0, kr_r E 346), (1, .int l1), (2, .int l2), (3, .int x3)] [] M (k_12 x3 M)) (M : kr_M) : kR kr_vi E Y_X12_errorsTo 1 169 [(0, kr_r E 346), (1, .int l1), (2, .int l2), (3, .int l3)] [] M (f_X12_errorsTo_169 k_12 l3 M) := by
  rw [f_X12_errorsTo_169]
  refine kr_iinc (j := 3) (v := (l3 + (1 : Int32))) (lv' := [(3, .int (l3 + (1 : Int32))), (0, kr_r E 346), (1, .int l1), (2, .int l2)]) dX12_errorsTo_169 rfl rfl (by decide) rfl ?_
  refine kr_goto (tgt := 12) dX12_errorsTo_172 (by decide) ?_
  refine kr_sub [1, 2, 3, 0] rfl ?_
  exact hk_12 (l3 + (1 : Int32)) M
theorem r_X12_errorsTo_30 (E : kr_E) (k_12 : Int32 → kr_M → Option (Int32 × kr_M)) (l1 : Int32) (l2 : Int32) (l3 : Int32) (hk_12 : ∀ (x3 : Int32) (M : kr_M), kR kr_vi E Y_X12_errorsTo 1 12 [(0, kr_r E 346), (1, .int l1), (2, .int l2), (3, .int x3)] [] M (k_12 x3 M)) (M : kr_M) : kR kr_vi E Y_X12_errorsTo 1 30 [(0, kr_r E 346), (1, .int l1), (2, .int l2), (3, .int l3)] [] M (f_X12_errorsTo_30 k_12 l2 l3 M) := by
  rw [f_X12_errorsTo_30]
  refine kr_aload_n dX12_errorsTo_30 rfl 0 rfl ?_
  refine kr_getA (o := 32) (ci := 12) (j := 52) dX12_errorsTo_31 kr_at_346 fl_RX12_111 rfl ?_
  refine kr_bipush (v := 25) dX12_errorsTo_34 (by decide) ?_
  refine kr_iload_n dX12_errorsTo_36 rfl 2 rfl ?_
  refine kr_imul dX12_errorsTo_37 ?_
  refine kr_iload_n dX12_errorsTo_38 rfl 3 rfl ?_
  refine kr_iadd dX12_errorsTo_39 ?_
  refine kr_iload_n dX12_errorsTo_40 rfl 2 rfl ?_
  refine kr_iload_n dX12_errorsTo_41 rfl 3 rfl ?_
  refine kr_iadd dX12_errorsTo_42 ?_
  refine kr_iast dX12_errorsTo_43 kr_at_378 (fun M1 => ?_)
  refine kr_goto (tgt := 169) dX12_errorsTo_44 (by decide) ?_
  refine kr_sub [0, 1, 2, 3] rfl ?_
  exact r_X12_errorsTo_169 E _ l1 l2 l3 hk_12 M1
theorem r_X12_errorsTo_168 (E : kr_E) (k_12 : Int32 → kr_M → Option (Int32 × kr_M)) (l1 : Int32) (l2 : Int32) (l3 : Int32) (s0 : Int32) (s1 : Int32) (hk_12 : ∀ (x3 : Int32) (M : kr_M), kR kr_vi E Y_X12_errorsTo 1 12 [(0, kr_r E 346), (1, .int l1), (2, .int l2), (3, .int x3)] [] M (k_12 x3 M)) (M : kr_M) : kR kr_vi E Y_X12_errorsTo 1 168 [(0, kr_r E 346), (1, .int l1), (2, .int l2), (3, .int l3)] [.int s0, .int s1, kr_r E 378] M (f_X12_errorsTo_168 k_12 l3 s0 s1 M) := by
  rw [f_X12_errorsTo_168]
  refine kr_iast dX12_errorsTo_168 kr_at_378 (fun M1 => ?_)
  refine kr_sub [0, 1, 2, 3] rfl ?_
  exact r_X12_errorsTo_169 E _ l1 l2 l3 hk_12 M1
theorem r_X12_errorsTo_142 (E : kr_E) (k_12 : Int32 → kr_M → Option (Int32 × kr_M)) (l1 : Int32) (l2 : Int32) (l3 : Int32) (l6 : Int32) (s0 : Int32) (hk_12 : ∀ (x3 : Int32) (M : kr_M), kR kr_vi E Y_X12_errorsTo 1 12 [(0, kr_r E 346), (1, .int l1), (2, .int l2), (3, .int x3)] [] M (k_12 x3 M)) (M : kr_M) : kR kr_vi E Y_X12_errorsTo 1 142 [(0, kr_r E 346), (1, .int l1), (2, .int l2), (3, .int l3), (6, .int l6)] [.int s0] M (f_X12_errorsTo_142 k_12 l2 l3 l6 s0 M) := by
  rw [f_X12_errorsTo_142]
  refine kr_istore (lv' := [(4, .int s0), (0, kr_r E 346), (1, .int l1), (2, .int l2), (3, .int l3), (6, .int l6)]) dX12_errorsTo_142 (by decide) rfl ?_
  refine kr_aload_n dX12_errorsTo_144 rfl 1 rfl ?_
  refine kr_getA (o := 32) (ci := 12) (j := 52) dX12_errorsTo_145 kr_at_346 fl_RX12_111 rfl ?_
  refine kr_bipush (v := 25) dX12_errorsTo_148 (by decide) ?_
  refine kr_iload_n dX12_errorsTo_150 rfl 3 rfl ?_
  refine kr_imul dX12_errorsTo_151 ?_
  refine kr_iload_n dX12_errorsTo_152 rfl 4 rfl ?_
  refine kr_iadd dX12_errorsTo_153 ?_
  refine kr_iload dX12_errorsTo_154 5 rfl ?_
  refine kr_iload dX12_errorsTo_156 0 rfl ?_
  refine kr_icmp_ge (tgt := 166) dX12_errorsTo_158 (by decide) ?_ ?_
  · refine kr_iload dX12_errorsTo_166 0 rfl ?_
    refine kr_sub [1, 2, 3, 4] rfl ?_
    exact r_X12_errorsTo_168 E _ l1 l2 l3 s0 (((25 : Int32) * l2) + l3) hk_12 M
  · refine kr_iload dX12_errorsTo_161 5 rfl ?_
    refine kr_goto (tgt := 168) dX12_errorsTo_163 (by decide) ?_
    refine kr_sub [1, 2, 3, 4] rfl ?_
    exact r_X12_errorsTo_168 E _ l1 l2 l3 l6 (((25 : Int32) * l2) + l3) hk_12 M
theorem r_X12_errorsTo_91 (E : kr_E) (k_12 : Int32 → kr_M → Option (Int32 × kr_M)) (l1 : Int32) (l2 : Int32) (l3 : Int32) (s0 : Int32) (s1 : Int32) (hk_12 : ∀ (x3 : Int32) (M : kr_M), kR kr_vi E Y_X12_errorsTo 1 12 [(0, kr_r E 346), (1, .int l1), (2, .int l2), (3, .int x3)] [] M (k_12 x3 M)) (M : kr_M) : kR kr_vi E Y_X12_errorsTo 1 91 [(0, kr_r E 346), (1, .int l1), (2, .int l2), (3, .int l3)] [.int s0, .int s1] M (f_X12_errorsTo_91 k_12 l2 l3 s0 s1 M) := by
  rw [f_X12_errorsTo_91]
  refine kr_iadd dX12_errorsTo_91 ?_
  refine kr_nmi (fun v1 => ?_)
  refine kr_istore (lv' := [(4, .int v1), (0, kr_r E 346), (1, .int l1), (2, .int l2), (3, .int l3)]) dX12_errorsTo_92 (by decide) rfl ?_
  refine kr_aload_n dX12_errorsTo_94 rfl 1 rfl ?_
  refine kr_getA (o := 32) (ci := 12) (j := 52) dX12_errorsTo_95 kr_at_346 fl_RX12_111 rfl ?_
  refine kr_bipush (v := 25) dX12_errorsTo_98 (by decide) ?_
  refine kr_iload_n dX12_errorsTo_100 rfl 3 rfl ?_
  refine kr_iconst (v := 1) dX12_errorsTo_101 (by decide) ?_
  refine kr_isub dX12_errorsTo_102 ?_
  refine kr_imul dX12_errorsTo_103 ?_
  refine kr_iload_n dX12_errorsTo_104 rfl 4 rfl ?_
  refine kr_iadd dX12_errorsTo_105 ?_
  refine kr_iald dX12_errorsTo_106 kr_at_378 (fun v2 => ?_)
  refine kr_iconst (v := 1) dX12_errorsTo_107 (by decide) ?_
  refine kr_iadd dX12_errorsTo_108 ?_
  refine kr_nmi (fun v3 => ?_)
  refine kr_istore (lv' := [(5, .int v3), (4, .int v1), (0, kr_r E 346), (1, .int l1), (2, .int l2), (3, .int l3)]) dX12_errorsTo_109 (by decide) rfl ?_
  refine kr_aload_n dX12_errorsTo_111 rfl 2 rfl ?_
  refine kr_getA (o := 32) (ci := 12) (j := 52) dX12_errorsTo_112 kr_at_346 fl_RX12_111 rfl ?_
  refine kr_bipush (v := 25) dX12_errorsTo_115 (by decide) ?_
  refine kr_iload_n dX12_errorsTo_117 rfl 4 rfl ?_
  refine kr_imul dX12_errorsTo_118 ?_
  refine kr_iload_n dX12_errorsTo_119 rfl 5 rfl ?_
  refine kr_iadd dX12_errorsTo_120 ?_
  refine kr_iconst (v := 1) dX12_errorsTo_121 (by decide) ?_
  refine kr_isub dX12_errorsTo_122 ?_
  refine kr_iald dX12_errorsTo_123 kr_at_378 (fun v4 => ?_)
  refine kr_iconst (v := 1) dX12_errorsTo_124 (by decide) ?_
  refine kr_iadd dX12_errorsTo_125 ?_
  refine kr_nmi (fun v5 => ?_)
  refine kr_istore (lv' := [(6, .int v5), (5, .int v3), (4, .int v1), (0, kr_r E 346), (1, .int l1), (2, .int l2), (3, .int l3)]) dX12_errorsTo_126 (by decide) rfl ?_
  refine kr_iload dX12_errorsTo_128 1 rfl ?_
  refine kr_iload dX12_errorsTo_130 2 rfl ?_
  refine kr_icmp_ge (tgt := 140) dX12_errorsTo_132 (by decide) ?_ ?_
  · refine kr_iload dX12_errorsTo_140 2 rfl ?_
    refine kr_sub [3, 4, 5, 6, 0] rfl ?_
    exact r_X12_errorsTo_142 E _ l1 l2 l3 v5 v1 hk_12 M
  · refine kr_iload dX12_errorsTo_135 1 rfl ?_
    refine kr_goto (tgt := 142) dX12_errorsTo_137 (by decide) ?_
    refine kr_sub [3, 4, 5, 6, 0] rfl ?_
    exact r_X12_errorsTo_142 E _ l1 l2 l3 v5 v3 hk_12 M
theorem r_X12_errorsTo_12 (E : kr_E) (k_2 : Int32 → kr_M → Option (Int32 × kr_M)) (l1 : Int32) (l2 : Int32) (hk_2 : ∀ (x2 : Int32) (M : kr_M), kR kr_vi E Y_X12_errorsTo 1 2 [(0, kr_r E 346), (1, .int l1), (2, .int x2)] [] M (k_2 x2 M)) : ∀ (n : Nat) (l3 : Int32) (M : kr_M), kR kr_vi E Y_X12_errorsTo 1 12 [(0, kr_r E 346), (1, .int l1), (2, .int l2), (3, .int l3)] [] M (f_X12_errorsTo_12 k_2 l1 l2 n l3 M) := by
  intro n
  induction n with
  | zero => intro l3 M; exact kr_none
  | succ n ih =>
    intro l3 M
    rw [f_X12_errorsTo_12]
    refine kr_iload_n dX12_errorsTo_12 rfl 3 rfl ?_
    refine kr_aload_n dX12_errorsTo_13 rfl 0 rfl ?_
    refine kr_getA (o := 19) (ci := 12) (j := 29) dX12_errorsTo_14 kr_at_346 fl_RX12_71 rfl ?_
    refine kr_iload_n dX12_errorsTo_17 rfl 1 rfl ?_
    refine kr_iald dX12_errorsTo_18 kr_at_365 (fun v1 => ?_)
    refine kr_icmp_gt (tgt := 175) dX12_errorsTo_19 (by decide) ?_ ?_
    · refine kr_sub [0, 1, 2] rfl ?_
      exact r_X12_errorsTo_175 E _ l1 l2 hk_2 M
    · refine kr_iload_n dX12_errorsTo_22 rfl 2 rfl ?_
      refine kr_if_eq (tgt := 30) dX12_errorsTo_23 (by decide) ?_ ?_
      · refine kr_sub [0, 1, 2, 3] rfl ?_
        exact r_X12_errorsTo_30 E _ l1 l2 l3 ih M
      · refine kr_iload_n dX12_errorsTo_26 rfl 3 rfl ?_
        refine kr_if_ne (tgt := 47) dX12_errorsTo_27 (by decide) ?_ ?_
        · refine kr_aload_n dX12_errorsTo_47 rfl 0 rfl ?_
          refine kr_getA (o := 32) (ci := 12) (j := 52) dX12_errorsTo_48 kr_at_346 fl_RX12_111 rfl ?_
          refine kr_bipush (v := 25) dX12_errorsTo_51 (by decide) ?_
          refine kr_iload_n dX12_errorsTo_53 rfl 2 rfl ?_
          refine kr_iconst (v := 1) dX12_errorsTo_54 (by decide) ?_
          refine kr_isub dX12_errorsTo_55 ?_
          refine kr_imul dX12_errorsTo_56 ?_
          refine kr_iload_n dX12_errorsTo_57 rfl 3 rfl ?_
          refine kr_iadd dX12_errorsTo_58 ?_
          refine kr_iconst (v := 1) dX12_errorsTo_59 (by decide) ?_
          refine kr_isub dX12_errorsTo_60 ?_
          refine kr_iald dX12_errorsTo_61 kr_at_378 (fun v2 => ?_)
          refine kr_aload_n dX12_errorsTo_62 rfl 0 rfl ?_
          refine kr_getA (o := 22) (ci := 12) (j := 33) dX12_errorsTo_63 kr_at_346 fl_RX12_80 rfl ?_
          refine kr_iload_n dX12_errorsTo_66 rfl 2 rfl ?_
          refine kr_iconst (v := 1) dX12_errorsTo_67 (by decide) ?_
          refine kr_isub dX12_errorsTo_68 ?_
          refine kr_iald dX12_errorsTo_69 kr_at_368 (fun v3 => ?_)
          refine kr_aload_n dX12_errorsTo_70 rfl 0 rfl ?_
          refine kr_getA (o := 18) (ci := 12) (j := 28) dX12_errorsTo_71 kr_at_346 fl_RX12_68 rfl ?_
          refine kr_bipush (v := 24) dX12_errorsTo_74 (by decide) ?_
          refine kr_iload_n dX12_errorsTo_76 rfl 1 rfl ?_
          refine kr_imul dX12_errorsTo_77 ?_
          refine kr_iload_n dX12_errorsTo_78 rfl 3 rfl ?_
          refine kr_iadd dX12_errorsTo_79 ?_
          refine kr_iconst (v := 1) dX12_errorsTo_80 (by decide) ?_
          refine kr_isub dX12_errorsTo_81 ?_
          refine kr_iald dX12_errorsTo_82 kr_at_364 (fun v4 => ?_)
          refine kr_icmp_ne (tgt := 90) dX12_errorsTo_83 (by decide) ?_ ?_
          · refine kr_iconst (v := 1) dX12_errorsTo_90 (by decide) ?_
            refine kr_sub [0, 1, 2, 3] rfl ?_
            exact r_X12_errorsTo_91 E _ l1 l2 l3 (1 : Int32) v2 ih M
          · refine kr_iconst (v := 0) dX12_errorsTo_86 (by decide) ?_
            refine kr_goto (tgt := 91) dX12_errorsTo_87 (by decide) ?_
            refine kr_sub [0, 1, 2, 3] rfl ?_
            exact r_X12_errorsTo_91 E _ l1 l2 l3 (0 : Int32) v2 ih M
        · refine kr_sub [0, 1, 2, 3] rfl ?_
          exact r_X12_errorsTo_30 E _ l1 l2 l3 ih M
theorem r_X12_errorsTo_2 (E : kr_E)  (l1 : Int32)  : ∀ (n : Nat) (l2 : Int32) (M : kr_M), kR kr_vi E Y_X12_errorsTo 1 2 [(0, kr_r E 346), (1, .int l1), (2, .int l2)] [] M (f_X12_errorsTo_2 l1 n l2 M) := by
  intro n
  induction n with
  | zero => intro l2 M; exact kr_none
  | succ n ih =>
    intro l2 M
    rw [f_X12_errorsTo_2]
    refine kr_iload_n dX12_errorsTo_2 rfl 2 rfl ?_
    refine kr_aload_n dX12_errorsTo_3 rfl 0 rfl ?_
    refine kr_getI (ci := 12) (j := 34) dX12_errorsTo_4 kr_at_346 fl_RX12_351 rfl (fun v1 => ?_)
    refine kr_icmp_gt (tgt := 181) dX12_errorsTo_7 (by decide) ?_ ?_
    · refine kr_sub [0, 1] rfl ?_
      exact r_X12_errorsTo_181 E l1 M
    · refine kr_iconst (v := 0) dX12_errorsTo_10 (by decide) ?_
      refine kr_istore_n (lv' := [(3, .int (0 : Int32)), (0, kr_r E 346), (1, .int l1), (2, .int l2)]) dX12_errorsTo_11 rfl (by decide) rfl ?_
      refine kr_sub [1, 2, 3, 0] rfl ?_
      exact r_X12_errorsTo_12 E _ l1 l2 ih _ (0 : Int32) M
theorem r_X12_errorsTo (E : kr_E) (p1 : Int32) (M : kr_M) : kR kr_vi E Y_X12_errorsTo 1 0 [(0, kr_r E 346), (1, .int p1)] [] M (f_X12_errorsTo p1 M) := by
  rw [f_X12_errorsTo]
  refine kr_iconst (v := 0) dX12_errorsTo_0 (by decide) ?_
  refine kr_istore_n (lv' := [(2, .int (0 : Int32)), (0, kr_r E 346), (1, .int p1)]) dX12_errorsTo_1 rfl (by decide) rfl ?_
  refine kr_sub [1, 2, 0] rfl ?_
  exact r_X12_errorsTo_2 E p1 _ (0 : Int32) M
theorem dX12_errors_0 : decode cX12_errors 0 = .ok (.aload_n 0, 1) := by decide +kernel
theorem dX12_errors_1 : decode cX12_errors 1 = .ok (.iconst 0, 1) := by decide +kernel
theorem dX12_errors_2 : decode cX12_errors 2 = .ok (.putfield 138, 3) := by decide +kernel
theorem dX12_errors_5 : decode cX12_errors 5 = .ok (.aload_n 0, 1) := by decide +kernel
theorem dX12_errors_6 : decode cX12_errors 6 = .ok (.iload_n 1, 1) := by decide +kernel
theorem dX12_errors_7 : decode cX12_errors 7 = .ok (.iload_n 2, 1) := by decide +kernel
theorem dX12_errors_8 : decode cX12_errors 8 = .ok (.invokevirtual 431, 3) := by decide +kernel
theorem dX12_errors_11 : decode cX12_errors 11 = .ok (.ifCond .ne 6, 3) := by decide +kernel
theorem dX12_errors_14 : decode cX12_errors 14 = .ok (.bipush (-2), 2) := by decide +kernel
theorem dX12_errors_16 : decode cX12_errors 16 = .ok (.ireturn, 1) := by decide +kernel
theorem dX12_errors_17 : decode cX12_errors 17 = .ok (.aload_n 0, 1) := by decide +kernel
theorem dX12_errors_18 : decode cX12_errors 18 = .ok (.invokevirtual 337, 3) := by decide +kernel
theorem dX12_errors_21 : decode cX12_errors 21 = .ok (.aload_n 0, 1) := by decide +kernel
theorem dX12_errors_22 : decode cX12_errors 22 = .ok (.iload_n 1, 1) := by decide +kernel
theorem dX12_errors_23 : decode cX12_errors 23 = .ok (.iconst 0, 1) := by decide +kernel
theorem dX12_errors_24 : decode cX12_errors 24 = .ok (.invokevirtual 358, 3) := by decide +kernel
theorem dX12_errors_27 : decode cX12_errors 27 = .ok (.aload_n 0, 1) := by decide +kernel
theorem dX12_errors_28 : decode cX12_errors 28 = .ok (.iload_n 2, 1) := by decide +kernel
theorem dX12_errors_29 : decode cX12_errors 29 = .ok (.invokevirtual 459, 3) := by decide +kernel
theorem dX12_errors_32 : decode cX12_errors 32 = .ok (.ireturn, 1) := by decide +kernel
theorem r_X12_errors (E : kr_E) (p1 : Int32) (p2 : Int32) (M : kr_M) : kR kr_vi E Y_X12_errors 4 0 [(0, kr_r E 346), (1, .int p1), (2, .int p2)] [] M (f_X12_errors p1 p2 M) := by
  rw [f_X12_errors]
  refine kr_aload_n dX12_errors_0 rfl 0 rfl ?_
  refine kr_iconst (v := 0) dX12_errors_1 (by decide) ?_
  refine kr_putI (ci := 12) (j := 0) dX12_errors_2 kr_at_346 fl_RX12_138 rfl rfl (fun M1 => ?_)
  refine kr_aload_n dX12_errors_5 rfl 0 rfl ?_
  refine kr_iload_n dX12_errors_6 rfl 1 rfl ?_
  refine kr_iload_n dX12_errors_7 rfl 2 rfl ?_
  refine kr_Vi (As := [.int p1, .int p2]) (st := []) zv_X12_areRopes dX12_errors_8 ml_RX12_431 kr_at_346 (r_X12_areRopes E p1 p2 M1) rfl rfl (Nat.le_of_ble_eq_true rfl) rfl (by decide) (Nat.le_of_ble_eq_true rfl) (fun r3 M2 => ?_)
  refine kr_if_ne (tgt := 17) dX12_errors_11 (by decide) ?_ ?_
  · refine kr_aload_n dX12_errors_17 rfl 0 rfl ?_
    refine kr_Vv (As := []) (st := []) zv_X12_lays dX12_errors_18 ml_RX12_337 kr_at_346 (r_X12_lays E  M2) rfl rfl (Nat.le_of_ble_eq_true rfl) rfl (by decide) (Nat.le_of_ble_eq_true rfl) (fun M4 => ?_)
    refine kr_aload_n dX12_errors_21 rfl 0 rfl ?_
    refine kr_iload_n dX12_errors_22 rfl 1 rfl ?_
    refine kr_iconst (v := 0) dX12_errors_23 (by decide) ?_
    refine kr_Vv (As := [.int p1, .int (0 : Int32)]) (st := []) zv_X12_lies dX12_errors_24 ml_RX12_358 kr_at_346 (r_X12_lies E p1 (0 : Int32) M4) rfl rfl (Nat.le_of_ble_eq_true rfl) rfl (by decide) (Nat.le_of_ble_eq_true rfl) (fun M6 => ?_)
    refine kr_aload_n dX12_errors_27 rfl 0 rfl ?_
    refine kr_iload_n dX12_errors_28 rfl 2 rfl ?_
    refine kr_Vi (As := [.int p2]) (st := []) zv_X12_errorsTo dX12_errors_29 ml_RX12_459 kr_at_346 (r_X12_errorsTo E p2 M6) rfl rfl (Nat.le_of_ble_eq_true rfl) rfl (by decide) (Nat.le_of_ble_eq_true rfl) (fun r9 M8 => ?_)
    exact kr_iret dX12_errors_32 rfl
  · refine kr_bipush (v := -2) dX12_errors_14 (by decide) ?_
    exact kr_iret dX12_errors_16 rfl
theorem dX12_common_0 : decode cX12_common 0 = .ok (.aload_n 0, 1) := by decide +kernel
theorem dX12_common_1 : decode cX12_common 1 = .ok (.iconst 0, 1) := by decide +kernel
theorem dX12_common_2 : decode cX12_common 2 = .ok (.putfield 138, 3) := by decide +kernel
theorem dX12_common_5 : decode cX12_common 5 = .ok (.aload_n 0, 1) := by decide +kernel
theorem dX12_common_6 : decode cX12_common 6 = .ok (.iload_n 1, 1) := by decide +kernel
theorem dX12_common_7 : decode cX12_common 7 = .ok (.iload_n 2, 1) := by decide +kernel
theorem dX12_common_8 : decode cX12_common 8 = .ok (.invokevirtual 431, 3) := by decide +kernel
theorem dX12_common_11 : decode cX12_common 11 = .ok (.ifCond .ne 6, 3) := by decide +kernel
theorem dX12_common_14 : decode cX12_common 14 = .ok (.bipush (-2), 2) := by decide +kernel
theorem dX12_common_16 : decode cX12_common 16 = .ok (.ireturn, 1) := by decide +kernel
theorem dX12_common_17 : decode cX12_common 17 = .ok (.aload_n 0, 1) := by decide +kernel
theorem dX12_common_18 : decode cX12_common 18 = .ok (.invokevirtual 337, 3) := by decide +kernel
theorem dX12_common_21 : decode cX12_common 21 = .ok (.aload_n 0, 1) := by decide +kernel
theorem dX12_common_22 : decode cX12_common 22 = .ok (.iload_n 1, 1) := by decide +kernel
theorem dX12_common_23 : decode cX12_common 23 = .ok (.iconst 0, 1) := by decide +kernel
theorem dX12_common_24 : decode cX12_common 24 = .ok (.invokevirtual 358, 3) := by decide +kernel
theorem dX12_common_27 : decode cX12_common 27 = .ok (.iconst 0, 1) := by decide +kernel
theorem dX12_common_28 : decode cX12_common 28 = .ok (.istore_n 3, 1) := by decide +kernel
theorem dX12_common_29 : decode cX12_common 29 = .ok (.iload_n 3, 1) := by decide +kernel
theorem dX12_common_30 : decode cX12_common 30 = .ok (.aload_n 0, 1) := by decide +kernel
theorem dX12_common_31 : decode cX12_common 31 = .ok (.getfield 351, 3) := by decide +kernel
theorem dX12_common_34 : decode cX12_common 34 = .ok (.if_icmp .gt 157, 3) := by decide +kernel
theorem dX12_common_37 : decode cX12_common 37 = .ok (.iconst 0, 1) := by decide +kernel
theorem dX12_common_38 : decode cX12_common 38 = .ok (.istore 4, 2) := by decide +kernel
theorem dX12_common_40 : decode cX12_common 40 = .ok (.iload 4, 2) := by decide +kernel
theorem dX12_common_42 : decode cX12_common 42 = .ok (.aload_n 0, 1) := by decide +kernel
theorem dX12_common_43 : decode cX12_common 43 = .ok (.getfield 71, 3) := by decide +kernel
theorem dX12_common_46 : decode cX12_common 46 = .ok (.iload_n 2, 1) := by decide +kernel
theorem dX12_common_47 : decode cX12_common 47 = .ok (.iaload, 1) := by decide +kernel
theorem dX12_common_48 : decode cX12_common 48 = .ok (.if_icmp .gt 137, 3) := by decide +kernel
theorem dX12_common_51 : decode cX12_common 51 = .ok (.iconst 0, 1) := by decide +kernel
theorem dX12_common_52 : decode cX12_common 52 = .ok (.istore 5, 2) := by decide +kernel
theorem dX12_common_54 : decode cX12_common 54 = .ok (.iload_n 3, 1) := by decide +kernel
theorem dX12_common_55 : decode cX12_common 55 = .ok (.ifCond .le 110, 3) := by decide +kernel
theorem dX12_common_58 : decode cX12_common 58 = .ok (.iload 4, 2) := by decide +kernel
theorem dX12_common_60 : decode cX12_common 60 = .ok (.ifCond .le 105, 3) := by decide +kernel
theorem dX12_common_63 : decode cX12_common 63 = .ok (.aload_n 0, 1) := by decide +kernel
theorem dX12_common_64 : decode cX12_common 64 = .ok (.getfield 80, 3) := by decide +kernel
theorem dX12_common_67 : decode cX12_common 67 = .ok (.iload_n 3, 1) := by decide +kernel
theorem dX12_common_68 : decode cX12_common 68 = .ok (.iconst 1, 1) := by decide +kernel
theorem dX12_common_69 : decode cX12_common 69 = .ok (.isub, 1) := by decide +kernel
theorem dX12_common_70 : decode cX12_common 70 = .ok (.iaload, 1) := by decide +kernel
theorem dX12_common_71 : decode cX12_common 71 = .ok (.aload_n 0, 1) := by decide +kernel
theorem dX12_common_72 : decode cX12_common 72 = .ok (.getfield 68, 3) := by decide +kernel
theorem dX12_common_75 : decode cX12_common 75 = .ok (.bipush 24, 2) := by decide +kernel
theorem dX12_common_77 : decode cX12_common 77 = .ok (.iload_n 2, 1) := by decide +kernel
theorem dX12_common_78 : decode cX12_common 78 = .ok (.imul, 1) := by decide +kernel
theorem dX12_common_79 : decode cX12_common 79 = .ok (.iload 4, 2) := by decide +kernel
theorem dX12_common_81 : decode cX12_common 81 = .ok (.iadd, 1) := by decide +kernel
theorem dX12_common_82 : decode cX12_common 82 = .ok (.iconst 1, 1) := by decide +kernel
theorem dX12_common_83 : decode cX12_common 83 = .ok (.isub, 1) := by decide +kernel
theorem dX12_common_84 : decode cX12_common 84 = .ok (.iaload, 1) := by decide +kernel
theorem dX12_common_85 : decode cX12_common 85 = .ok (.if_icmp .ne 24, 3) := by decide +kernel
theorem dX12_common_88 : decode cX12_common 88 = .ok (.aload_n 0, 1) := by decide +kernel
theorem dX12_common_89 : decode cX12_common 89 = .ok (.getfield 111, 3) := by decide +kernel
theorem dX12_common_92 : decode cX12_common 92 = .ok (.bipush 25, 2) := by decide +kernel
theorem dX12_common_94 : decode cX12_common 94 = .ok (.iload_n 3, 1) := by decide +kernel
theorem dX12_common_95 : decode cX12_common 95 = .ok (.iconst 1, 1) := by decide +kernel
theorem dX12_common_96 : decode cX12_common 96 = .ok (.isub, 1) := by decide +kernel
theorem dX12_common_97 : decode cX12_common 97 = .ok (.imul, 1) := by decide +kernel
theorem dX12_common_98 : decode cX12_common 98 = .ok (.iload 4, 2) := by decide +kernel
theorem dX12_common_100 : decode cX12_common 100 = .ok (.iadd, 1) := by decide +kernel
theorem dX12_common_101 : decode cX12_common 101 = .ok (.iconst 1, 1) := by decide +kernel
theorem dX12_common_102 : decode cX12_common 102 = .ok (.isub, 1) := by decide +kernel
theorem dX12_common_103 : decode cX12_common 103 = .ok (.iaload, 1) := by decide +kernel
theorem dX12_common_104 : decode cX12_common 104 = .ok (.iconst 1, 1) := by decide +kernel
theorem dX12_common_105 : decode cX12_common 105 = .ok (.iadd, 1) := by decide +kernel
theorem dX12_common_106 : decode cX12_common 106 = .ok (.goto 17, 3) := by decide +kernel
theorem dX12_common_109 : decode cX12_common 109 = .ok (.aload_n 0, 1) := by decide +kernel
theorem dX12_common_110 : decode cX12_common 110 = .ok (.getfield 111, 3) := by decide +kernel
theorem dX12_common_113 : decode cX12_common 113 = .ok (.bipush 25, 2) := by decide +kernel
theorem dX12_common_115 : decode cX12_common 115 = .ok (.iload_n 3, 1) := by decide +kernel
theorem dX12_common_116 : decode cX12_common 116 = .ok (.iconst 1, 1) := by decide +kernel
theorem dX12_common_117 : decode cX12_common 117 = .ok (.isub, 1) := by decide +kernel
theorem dX12_common_118 : decode cX12_common 118 = .ok (.imul, 1) := by decide +kernel
theorem dX12_common_119 : decode cX12_common 119 = .ok (.iload 4, 2) := by decide +kernel
theorem dX12_common_121 : decode cX12_common 121 = .ok (.iadd, 1) := by decide +kernel
theorem dX12_common_122 : decode cX12_common 122 = .ok (.iaload, 1) := by decide +kernel
theorem dX12_common_123 : decode cX12_common 123 = .ok (.istore 5, 2) := by decide +kernel
theorem dX12_common_125 : decode cX12_common 125 = .ok (.aload_n 0, 1) := by decide +kernel
theorem dX12_common_126 : decode cX12_common 126 = .ok (.getfield 111, 3) := by decide +kernel
theorem dX12_common_129 : decode cX12_common 129 = .ok (.bipush 25, 2) := by decide +kernel
theorem dX12_common_131 : decode cX12_common 131 = .ok (.iload_n 3, 1) := by decide +kernel
theorem dX12_common_132 : decode cX12_common 132 = .ok (.imul, 1) := by decide +kernel
theorem dX12_common_133 : decode cX12_common 133 = .ok (.iload 4, 2) := by decide +kernel
theorem dX12_common_135 : decode cX12_common 135 = .ok (.iadd, 1) := by decide +kernel
theorem dX12_common_136 : decode cX12_common 136 = .ok (.iconst 1, 1) := by decide +kernel
theorem dX12_common_137 : decode cX12_common 137 = .ok (.isub, 1) := by decide +kernel
theorem dX12_common_138 : decode cX12_common 138 = .ok (.iaload, 1) := by decide +kernel
theorem dX12_common_139 : decode cX12_common 139 = .ok (.iload 5, 2) := by decide +kernel
theorem dX12_common_141 : decode cX12_common 141 = .ok (.if_icmp .le 20, 3) := by decide +kernel
theorem dX12_common_144 : decode cX12_common 144 = .ok (.aload_n 0, 1) := by decide +kernel
theorem dX12_common_145 : decode cX12_common 145 = .ok (.getfield 111, 3) := by decide +kernel
theorem dX12_common_148 : decode cX12_common 148 = .ok (.bipush 25, 2) := by decide +kernel
theorem dX12_common_150 : decode cX12_common 150 = .ok (.iload_n 3, 1) := by decide +kernel
theorem dX12_common_151 : decode cX12_common 151 = .ok (.imul, 1) := by decide +kernel
theorem dX12_common_152 : decode cX12_common 152 = .ok (.iload 4, 2) := by decide +kernel
theorem dX12_common_154 : decode cX12_common 154 = .ok (.iadd, 1) := by decide +kernel
theorem dX12_common_155 : decode cX12_common 155 = .ok (.iconst 1, 1) := by decide +kernel
theorem dX12_common_156 : decode cX12_common 156 = .ok (.isub, 1) := by decide +kernel
theorem dX12_common_157 : decode cX12_common 157 = .ok (.iaload, 1) := by decide +kernel
theorem dX12_common_158 : decode cX12_common 158 = .ok (.goto 5, 3) := by decide +kernel
theorem dX12_common_161 : decode cX12_common 161 = .ok (.iload 5, 2) := by decide +kernel
theorem dX12_common_163 : decode cX12_common 163 = .ok (.istore 5, 2) := by decide +kernel
theorem dX12_common_165 : decode cX12_common 165 = .ok (.aload_n 0, 1) := by decide +kernel
theorem dX12_common_166 : decode cX12_common 166 = .ok (.getfield 111, 3) := by decide +kernel
theorem dX12_common_169 : decode cX12_common 169 = .ok (.bipush 25, 2) := by decide +kernel
theorem dX12_common_171 : decode cX12_common 171 = .ok (.iload_n 3, 1) := by decide +kernel
theorem dX12_common_172 : decode cX12_common 172 = .ok (.imul, 1) := by decide +kernel
theorem dX12_common_173 : decode cX12_common 173 = .ok (.iload 4, 2) := by decide +kernel
theorem dX12_common_175 : decode cX12_common 175 = .ok (.iadd, 1) := by decide +kernel
theorem dX12_common_176 : decode cX12_common 176 = .ok (.iload 5, 2) := by decide +kernel
theorem dX12_common_178 : decode cX12_common 178 = .ok (.iastore, 1) := by decide +kernel
theorem dX12_common_179 : decode cX12_common 179 = .ok (.iinc 4 1, 3) := by decide +kernel
theorem dX12_common_182 : decode cX12_common 182 = .ok (.goto (-142), 3) := by decide +kernel
theorem dX12_common_185 : decode cX12_common 185 = .ok (.iinc 3 1, 3) := by decide +kernel
theorem dX12_common_188 : decode cX12_common 188 = .ok (.goto (-159), 3) := by decide +kernel
theorem dX12_common_191 : decode cX12_common 191 = .ok (.aload_n 0, 1) := by decide +kernel
theorem dX12_common_192 : decode cX12_common 192 = .ok (.getfield 111, 3) := by decide +kernel
theorem dX12_common_195 : decode cX12_common 195 = .ok (.bipush 25, 2) := by decide +kernel
theorem dX12_common_197 : decode cX12_common 197 = .ok (.aload_n 0, 1) := by decide +kernel
theorem dX12_common_198 : decode cX12_common 198 = .ok (.getfield 351, 3) := by decide +kernel
theorem dX12_common_201 : decode cX12_common 201 = .ok (.imul, 1) := by decide +kernel
theorem dX12_common_202 : decode cX12_common 202 = .ok (.aload_n 0, 1) := by decide +kernel
theorem dX12_common_203 : decode cX12_common 203 = .ok (.getfield 71, 3) := by decide +kernel
theorem dX12_common_206 : decode cX12_common 206 = .ok (.iload_n 2, 1) := by decide +kernel
theorem dX12_common_207 : decode cX12_common 207 = .ok (.iaload, 1) := by decide +kernel
theorem dX12_common_208 : decode cX12_common 208 = .ok (.iadd, 1) := by decide +kernel
theorem dX12_common_209 : decode cX12_common 209 = .ok (.iaload, 1) := by decide +kernel
theorem dX12_common_210 : decode cX12_common 210 = .ok (.ireturn, 1) := by decide +kernel
theorem r_X12_common_191 (E : kr_E)  (l2 : Int32)  (M : kr_M) : kR kr_vi E Y_X12_common 4 191 [(0, kr_r E 346), (2, .int l2)] [] M (f_X12_common_191 l2 M) := by
  rw [f_X12_common_191]
  refine kr_aload_n dX12_common_191 rfl 0 rfl ?_
  refine kr_getA (o := 32) (ci := 12) (j := 52) dX12_common_192 kr_at_346 fl_RX12_111 rfl ?_
  refine kr_bipush (v := 25) dX12_common_195 (by decide) ?_
  refine kr_aload_n dX12_common_197 rfl 0 rfl ?_
  refine kr_getI (ci := 12) (j := 34) dX12_common_198 kr_at_346 fl_RX12_351 rfl (fun v1 => ?_)
  refine kr_imul dX12_common_201 ?_
  refine kr_aload_n dX12_common_202 rfl 0 rfl ?_
  refine kr_getA (o := 19) (ci := 12) (j := 29) dX12_common_203 kr_at_346 fl_RX12_71 rfl ?_
  refine kr_iload_n dX12_common_206 rfl 1 rfl ?_
  refine kr_iald dX12_common_207 kr_at_365 (fun v2 => ?_)
  refine kr_iadd dX12_common_208 ?_
  refine kr_iald dX12_common_209 kr_at_378 (fun v3 => ?_)
  exact kr_iret dX12_common_210 rfl
theorem r_X12_common_185 (E : kr_E) (k_29 : Int32 → kr_M → Option (Int32 × kr_M)) (l2 : Int32) (l3 : Int32) (hk_29 : ∀ (x3 : Int32) (M : kr_M), kR kr_vi E Y_X12_common 4 29 [(0, kr_r E 346), (2, .int l2), (3, .int x3)] [] M (k_29 x3 M)) (M : kr_M) : kR kr_vi E Y_X12_common 4 185 [(0, kr_r E 346), (2, .int l2), (3, .int l3)] [] M (f_X12_common_185 k_29 l3 M) := by
  rw [f_X12_common_185]
  refine kr_iinc (j := 2) (v := (l3 + (1 : Int32))) (lv' := [(3, .int (l3 + (1 : Int32))), (0, kr_r E 346), (2, .int l2)]) dX12_common_185 rfl rfl (by decide) rfl ?_
  refine kr_goto (tgt := 29) dX12_common_188 (by decide) ?_
  refine kr_sub [1, 2, 0] rfl ?_
  exact hk_29 (l3 + (1 : Int32)) M
theorem r_X12_common_165 (E : kr_E) (k_40 : Int32 → kr_M → Option (Int32 × kr_M)) (l2 : Int32) (l3 : Int32) (l4 : Int32) (l5 : Int32) (hk_40 : ∀ (x4 : Int32) (M : kr_M), kR kr_vi E Y_X12_common 4 40 [(0, kr_r E 346), (2, .int l2), (3, .int l3), (4, .int x4)] [] M (k_40 x4 M)) (M : kr_M) : kR kr_vi E Y_X12_common 4 165 [(0, kr_r E 346), (2, .int l2), (3, .int l3), (4, .int l4), (5, .int l5)] [] M (f_X12_common_165 k_40 l3 l4 l5 M) := by
  rw [f_X12_common_165]
  refine kr_aload_n dX12_common_165 rfl 0 rfl ?_
  refine kr_getA (o := 32) (ci := 12) (j := 52) dX12_common_166 kr_at_346 fl_RX12_111 rfl ?_
  refine kr_bipush (v := 25) dX12_common_169 (by decide) ?_
  refine kr_iload_n dX12_common_171 rfl 2 rfl ?_
  refine kr_imul dX12_common_172 ?_
  refine kr_iload dX12_common_173 3 rfl ?_
  refine kr_iadd dX12_common_175 ?_
  refine kr_iload dX12_common_176 4 rfl ?_
  refine kr_iast dX12_common_178 kr_at_378 (fun M1 => ?_)
  refine kr_iinc (j := 3) (v := (l4 + (1 : Int32))) (lv' := [(4, .int (l4 + (1 : Int32))), (0, kr_r E 346), (2, .int l2), (3, .int l3), (5, .int l5)]) dX12_common_179 rfl rfl (by decide) rfl ?_
  refine kr_goto (tgt := 40) dX12_common_182 (by decide) ?_
  refine kr_sub [1, 2, 3, 0] rfl ?_
  exact hk_40 (l4 + (1 : Int32)) M1
theorem r_X12_common_163 (E : kr_E) (k_40 : Int32 → kr_M → Option (Int32 × kr_M)) (l2 : Int32) (l3 : Int32) (l4 : Int32) (s0 : Int32) (hk_40 : ∀ (x4 : Int32) (M : kr_M), kR kr_vi E Y_X12_common 4 40 [(0, kr_r E 346), (2, .int l2), (3, .int l3), (4, .int x4)] [] M (k_40 x4 M)) (M : kr_M) : kR kr_vi E Y_X12_common 4 163 [(0, kr_r E 346), (2, .int l2), (3, .int l3), (4, .int l4)] [.int s0] M (f_X12_common_163 k_40 l3 l4 s0 M) := by
  rw [f_X12_common_163]
  refine kr_istore (lv' := [(5, .int s0), (0, kr_r E 346), (2, .int l2), (3, .int l3), (4, .int l4)]) dX12_common_163 (by decide) rfl ?_
  refine kr_sub [1, 2, 3, 4, 0] rfl ?_
  exact r_X12_common_165 E _ l2 l3 l4 s0 hk_40 M
theorem r_X12_common_123 (E : kr_E) (k_40 : Int32 → kr_M → Option (Int32 × kr_M)) (l2 : Int32) (l3 : Int32) (l4 : Int32) (s0 : Int32) (hk_40 : ∀ (x4 : Int32) (M : kr_M), kR kr_vi E Y_X12_common 4 40 [(0, kr_r E 346), (2, .int l2), (3, .int l3), (4, .int x4)] [] M (k_40 x4 M)) (M : kr_M) : kR kr_vi E Y_X12_common 4 123 [(0, kr_r E 346), (2, .int l2), (3, .int l3), (4, .int l4)] [.int s0] M (f_X12_common_123 k_40 l3 l4 s0 M) := by
  rw [f_X12_common_123]
  refine kr_istore (lv' := [(5, .int s0), (0, kr_r E 346), (2, .int l2), (3, .int l3), (4, .int l4)]) dX12_common_123 (by decide) rfl ?_
  refine kr_aload_n dX12_common_125 rfl 1 rfl ?_
  refine kr_getA (o := 32) (ci := 12) (j := 52) dX12_common_126 kr_at_346 fl_RX12_111 rfl ?_
  refine kr_bipush (v := 25) dX12_common_129 (by decide) ?_
  refine kr_iload_n dX12_common_131 rfl 3 rfl ?_
  refine kr_imul dX12_common_132 ?_
  refine kr_iload dX12_common_133 4 rfl ?_
  refine kr_iadd dX12_common_135 ?_
  refine kr_iconst (v := 1) dX12_common_136 (by decide) ?_
  refine kr_isub dX12_common_137 ?_
  refine kr_iald dX12_common_138 kr_at_378 (fun v1 => ?_)
  refine kr_iload dX12_common_139 0 rfl ?_
  refine kr_icmp_le (tgt := 161) dX12_common_141 (by decide) ?_ ?_
  · refine kr_iload dX12_common_161 0 rfl ?_
    refine kr_sub [1, 2, 3, 4] rfl ?_
    exact r_X12_common_163 E _ l2 l3 l4 s0 hk_40 M
  · refine kr_aload_n dX12_common_144 rfl 1 rfl ?_
    refine kr_getA (o := 32) (ci := 12) (j := 52) dX12_common_145 kr_at_346 fl_RX12_111 rfl ?_
    refine kr_bipush (v := 25) dX12_common_148 (by decide) ?_
    refine kr_iload_n dX12_common_150 rfl 3 rfl ?_
    refine kr_imul dX12_common_151 ?_
    refine kr_iload dX12_common_152 4 rfl ?_
    refine kr_iadd dX12_common_154 ?_
    refine kr_iconst (v := 1) dX12_common_155 (by decide) ?_
    refine kr_isub dX12_common_156 ?_
    refine kr_iald dX12_common_157 kr_at_378 (fun v2 => ?_)
    refine kr_goto (tgt := 163) dX12_common_158 (by decide) ?_
    refine kr_sub [1, 2, 3, 4] rfl ?_
    exact r_X12_common_163 E _ l2 l3 l4 v2 hk_40 M
theorem r_X12_common_40 (E : kr_E) (k_29 : Int32 → kr_M → Option (Int32 × kr_M)) (l2 : Int32) (l3 : Int32) (hk_29 : ∀ (x3 : Int32) (M : kr_M), kR kr_vi E Y_X12_common 4 29 [(0, kr_r E 346), (2, .int l2), (3, .int x3)] [] M (k_29 x3 M)) : ∀ (n : Nat) (l4 : Int32) (M : kr_M), kR kr_vi E Y_X12_common 4 40 [(0, kr_r E 346), (2, .int l2), (3, .int l3), (4, .int l4)] [] M (f_X12_common_40 k_29 l2 l3 n l4 M) := by
  intro n
  induction n with
  | zero => intro l4 M; exact kr_none
  | succ n ih =>
    intro l4 M
    rw [f_X12_common_40]
    refine kr_iload dX12_common_40 3 rfl ?_
    refine kr_aload_n dX12_common_42 rfl 0 rfl ?_
    refine kr_getA (o := 19) (ci := 12) (j := 29) dX12_common_43 kr_at_346 fl_RX12_71 rfl ?_
    refine kr_iload_n dX12_common_46 rfl 1 rfl ?_
    refine kr_iald dX12_common_47 kr_at_365 (fun v1 => ?_)
    refine kr_icmp_gt (tgt := 185) dX12_common_48 (by decide) ?_ ?_
    · refine kr_sub [0, 1, 2] rfl ?_
      exact r_X12_common_185 E _ l2 l3 hk_29 M
    · refine kr_iconst (v := 0) dX12_common_51 (by decide) ?_
      refine kr_istore (lv' := [(5, .int (0 : Int32)), (0, kr_r E 346), (2, .int l2), (3, .int l3), (4, .int l4)]) dX12_common_52 (by decide) rfl ?_
      refine kr_iload_n dX12_common_54 rfl 3 rfl ?_
      refine kr_if_le (tgt := 165) dX12_common_55 (by decide) ?_ ?_
      · refine kr_sub [1, 2, 3, 4, 0] rfl ?_
        exact r_X12_common_165 E _ l2 l3 l4 (0 : Int32) ih M
      · refine kr_iload dX12_common_58 4 rfl ?_
        refine kr_if_le (tgt := 165) dX12_common_60 (by decide) ?_ ?_
        · refine kr_sub [1, 2, 3, 4, 0] rfl ?_
          exact r_X12_common_165 E _ l2 l3 l4 (0 : Int32) ih M
        · refine kr_aload_n dX12_common_63 rfl 1 rfl ?_
          refine kr_getA (o := 22) (ci := 12) (j := 33) dX12_common_64 kr_at_346 fl_RX12_80 rfl ?_
          refine kr_iload_n dX12_common_67 rfl 3 rfl ?_
          refine kr_iconst (v := 1) dX12_common_68 (by decide) ?_
          refine kr_isub dX12_common_69 ?_
          refine kr_iald dX12_common_70 kr_at_368 (fun v2 => ?_)
          refine kr_aload_n dX12_common_71 rfl 1 rfl ?_
          refine kr_getA (o := 18) (ci := 12) (j := 28) dX12_common_72 kr_at_346 fl_RX12_68 rfl ?_
          refine kr_bipush (v := 24) dX12_common_75 (by decide) ?_
          refine kr_iload_n dX12_common_77 rfl 2 rfl ?_
          refine kr_imul dX12_common_78 ?_
          refine kr_iload dX12_common_79 4 rfl ?_
          refine kr_iadd dX12_common_81 ?_
          refine kr_iconst (v := 1) dX12_common_82 (by decide) ?_
          refine kr_isub dX12_common_83 ?_
          refine kr_iald dX12_common_84 kr_at_364 (fun v3 => ?_)
          refine kr_icmp_ne (tgt := 109) dX12_common_85 (by decide) ?_ ?_
          · refine kr_aload_n dX12_common_109 rfl 1 rfl ?_
            refine kr_getA (o := 32) (ci := 12) (j := 52) dX12_common_110 kr_at_346 fl_RX12_111 rfl ?_
            refine kr_bipush (v := 25) dX12_common_113 (by decide) ?_
            refine kr_iload_n dX12_common_115 rfl 3 rfl ?_
            refine kr_iconst (v := 1) dX12_common_116 (by decide) ?_
            refine kr_isub dX12_common_117 ?_
            refine kr_imul dX12_common_118 ?_
            refine kr_iload dX12_common_119 4 rfl ?_
            refine kr_iadd dX12_common_121 ?_
            refine kr_iald dX12_common_122 kr_at_378 (fun v4 => ?_)
            refine kr_sub [1, 2, 3, 4] rfl ?_
            exact r_X12_common_123 E _ l2 l3 l4 v4 ih M
          · refine kr_aload_n dX12_common_88 rfl 1 rfl ?_
            refine kr_getA (o := 32) (ci := 12) (j := 52) dX12_common_89 kr_at_346 fl_RX12_111 rfl ?_
            refine kr_bipush (v := 25) dX12_common_92 (by decide) ?_
            refine kr_iload_n dX12_common_94 rfl 3 rfl ?_
            refine kr_iconst (v := 1) dX12_common_95 (by decide) ?_
            refine kr_isub dX12_common_96 ?_
            refine kr_imul dX12_common_97 ?_
            refine kr_iload dX12_common_98 4 rfl ?_
            refine kr_iadd dX12_common_100 ?_
            refine kr_iconst (v := 1) dX12_common_101 (by decide) ?_
            refine kr_isub dX12_common_102 ?_
            refine kr_iald dX12_common_103 kr_at_378 (fun v5 => ?_)
            refine kr_iconst (v := 1) dX12_common_104 (by decide) ?_
            refine kr_iadd dX12_common_105 ?_
            refine kr_goto (tgt := 123) dX12_common_106 (by decide) ?_
            refine kr_sub [1, 2, 3, 4] rfl ?_
            exact r_X12_common_123 E _ l2 l3 l4 (v5 + (1 : Int32)) ih M
theorem r_X12_common_29 (E : kr_E)  (l2 : Int32)  : ∀ (n : Nat) (l3 : Int32) (M : kr_M), kR kr_vi E Y_X12_common 4 29 [(0, kr_r E 346), (2, .int l2), (3, .int l3)] [] M (f_X12_common_29 l2 n l3 M) := by
  intro n
  induction n with
  | zero => intro l3 M; exact kr_none
  | succ n ih =>
    intro l3 M
    rw [f_X12_common_29]
    refine kr_iload_n dX12_common_29 rfl 2 rfl ?_
    refine kr_aload_n dX12_common_30 rfl 0 rfl ?_
    refine kr_getI (ci := 12) (j := 34) dX12_common_31 kr_at_346 fl_RX12_351 rfl (fun v1 => ?_)
    refine kr_icmp_gt (tgt := 191) dX12_common_34 (by decide) ?_ ?_
    · refine kr_sub [0, 1] rfl ?_
      exact r_X12_common_191 E l2 M
    · refine kr_iconst (v := 0) dX12_common_37 (by decide) ?_
      refine kr_istore (lv' := [(4, .int (0 : Int32)), (0, kr_r E 346), (2, .int l2), (3, .int l3)]) dX12_common_38 (by decide) rfl ?_
      refine kr_sub [1, 2, 3, 0] rfl ?_
      exact r_X12_common_40 E _ l2 l3 ih _ (0 : Int32) M
theorem r_X12_common (E : kr_E) (p1 : Int32) (p2 : Int32) (M : kr_M) : kR kr_vi E Y_X12_common 4 0 [(0, kr_r E 346), (1, .int p1), (2, .int p2)] [] M (f_X12_common p1 p2 M) := by
  rw [f_X12_common]
  refine kr_aload_n dX12_common_0 rfl 0 rfl ?_
  refine kr_iconst (v := 0) dX12_common_1 (by decide) ?_
  refine kr_putI (ci := 12) (j := 0) dX12_common_2 kr_at_346 fl_RX12_138 rfl rfl (fun M1 => ?_)
  refine kr_aload_n dX12_common_5 rfl 0 rfl ?_
  refine kr_iload_n dX12_common_6 rfl 1 rfl ?_
  refine kr_iload_n dX12_common_7 rfl 2 rfl ?_
  refine kr_Vi (As := [.int p1, .int p2]) (st := []) zv_X12_areRopes dX12_common_8 ml_RX12_431 kr_at_346 (r_X12_areRopes E p1 p2 M1) rfl rfl (Nat.le_of_ble_eq_true rfl) rfl (by decide) (Nat.le_of_ble_eq_true rfl) (fun r3 M2 => ?_)
  refine kr_if_ne (tgt := 17) dX12_common_11 (by decide) ?_ ?_
  · refine kr_aload_n dX12_common_17 rfl 0 rfl ?_
    refine kr_Vv (As := []) (st := []) zv_X12_lays dX12_common_18 ml_RX12_337 kr_at_346 (r_X12_lays E  M2) rfl rfl (Nat.le_of_ble_eq_true rfl) rfl (by decide) (Nat.le_of_ble_eq_true rfl) (fun M4 => ?_)
    refine kr_aload_n dX12_common_21 rfl 0 rfl ?_
    refine kr_iload_n dX12_common_22 rfl 1 rfl ?_
    refine kr_iconst (v := 0) dX12_common_23 (by decide) ?_
    refine kr_Vv (As := [.int p1, .int (0 : Int32)]) (st := []) zv_X12_lies dX12_common_24 ml_RX12_358 kr_at_346 (r_X12_lies E p1 (0 : Int32) M4) rfl rfl (Nat.le_of_ble_eq_true rfl) rfl (by decide) (Nat.le_of_ble_eq_true rfl) (fun M6 => ?_)
    refine kr_iconst (v := 0) dX12_common_27 (by decide) ?_
    refine kr_istore_n (lv' := [(3, .int (0 : Int32)), (0, kr_r E 346), (1, .int p1), (2, .int p2)]) dX12_common_28 rfl (by decide) rfl ?_
    refine kr_sub [1, 3, 0] rfl ?_
    exact r_X12_common_29 E p2 _ (0 : Int32) M6
  · refine kr_bipush (v := -2) dX12_common_14 (by decide) ?_
    exact kr_iret dX12_common_16 rfl
