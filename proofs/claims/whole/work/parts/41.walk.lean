theorem dX12_isReading_0 : decode cX12_isReading 0 = .ok (.aload_n 0, 1) := by decide +kernel
theorem dX12_isReading_1 : decode cX12_isReading 1 = .ok (.iload_n 1, 1) := by decide +kernel
theorem dX12_isReading_2 : decode cX12_isReading 2 = .ok (.invokevirtual 319, 3) := by decide +kernel
theorem dX12_isReading_5 : decode cX12_isReading 5 = .ok (.ifCond .eq 17, 3) := by decide +kernel
theorem dX12_isReading_8 : decode cX12_isReading 8 = .ok (.iload_n 2, 1) := by decide +kernel
theorem dX12_isReading_9 : decode cX12_isReading 9 = .ok (.i2l, 1) := by decide +kernel
theorem dX12_isReading_10 : decode cX12_isReading 10 = .ok (.lconst 0, 1) := by decide +kernel
theorem dX12_isReading_11 : decode cX12_isReading 11 = .ok (.lconst 1, 1) := by decide +kernel
theorem dX12_isReading_12 : decode cX12_isReading 12 = .ok (.invokestatic 143, 3) := by decide +kernel
theorem dX12_isReading_15 : decode cX12_isReading 15 = .ok (.ifCond .eq 7, 3) := by decide +kernel
theorem dX12_isReading_18 : decode cX12_isReading 18 = .ok (.iconst 1, 1) := by decide +kernel
theorem dX12_isReading_19 : decode cX12_isReading 19 = .ok (.goto 4, 3) := by decide +kernel
theorem dX12_isReading_22 : decode cX12_isReading 22 = .ok (.iconst 0, 1) := by decide +kernel
theorem dX12_isReading_23 : decode cX12_isReading 23 = .ok (.ireturn, 1) := by decide +kernel
theorem r_X12_isReading (E : kr_E) (p1 : Int32) (p2 : Int32) (M : kr_M) : kR kr_vi E Y_X12_isReading 3 0 [(0, kr_r E 346), (1, .int p1), (2, .int p2)] [] M (f_X12_isReading p1 p2 M) := by
  rw [f_X12_isReading]
  refine kr_aload_n dX12_isReading_0 rfl 0 rfl ?_
  refine kr_iload_n dX12_isReading_1 rfl 1 rfl ?_
  refine kr_Vi (As := [.int p1]) (st := []) zv_X12_isRope dX12_isReading_2 ml_RX12_319 kr_at_346 (r_X12_isRope E p1 M) rfl rfl (Nat.le_of_ble_eq_true rfl) rfl (by decide) (Nat.le_of_ble_eq_true rfl) (fun r2 M1 => ?_)
  refine kr_if_eq (tgt := 22) dX12_isReading_5 (by decide) ?_ ?_
  · refine kr_iconst (v := 0) dX12_isReading_22 (by decide) ?_
    exact kr_zret1 dX12_isReading_23 rfl rfl
  · refine kr_iload_n dX12_isReading_8 rfl 2 rfl ?_
    refine kr_i2l dX12_isReading_9 ?_
    refine kr_lconst (v := 0) dX12_isReading_10 (by decide) ?_
    refine kr_lconst (v := 1) dX12_isReading_11 (by decide) ?_
    refine kr_Si (As := [.long (p2.toInt64), .long (0 : Int64), .long (1 : Int64)]) (st := []) zs_X12_in dX12_isReading_12 ml_RX12_143 (r_X12_in E (p2.toInt64) (0 : Int64) (1 : Int64) M1) rfl rfl (Nat.le_of_ble_eq_true rfl) rfl (by decide) (Nat.le_of_ble_eq_true rfl) (fun r4 M3 => ?_)
    refine kr_if_eq (tgt := 22) dX12_isReading_15 (by decide) ?_ ?_
    · refine kr_iconst (v := 0) dX12_isReading_22 (by decide) ?_
      exact kr_zret1 dX12_isReading_23 rfl rfl
    · refine kr_iconst (v := 1) dX12_isReading_18 (by decide) ?_
      refine kr_goto (tgt := 23) dX12_isReading_19 (by decide) ?_
      exact kr_zret1 dX12_isReading_23 rfl rfl
theorem dX12_reads0_0 : decode cX12_reads0 0 = .ok (.aload_n 0, 1) := by decide +kernel
theorem dX12_reads0_1 : decode cX12_reads0 1 = .ok (.invokevirtual 337, 3) := by decide +kernel
theorem dX12_reads0_4 : decode cX12_reads0 4 = .ok (.aload_n 0, 1) := by decide +kernel
theorem dX12_reads0_5 : decode cX12_reads0 5 = .ok (.iload_n 1, 1) := by decide +kernel
theorem dX12_reads0_6 : decode cX12_reads0 6 = .ok (.iload_n 2, 1) := by decide +kernel
theorem dX12_reads0_7 : decode cX12_reads0 7 = .ok (.invokevirtual 358, 3) := by decide +kernel
theorem dX12_reads0_10 : decode cX12_reads0 10 = .ok (.aload_n 0, 1) := by decide +kernel
theorem dX12_reads0_11 : decode cX12_reads0 11 = .ok (.invokevirtual 361, 3) := by decide +kernel
theorem dX12_reads0_14 : decode cX12_reads0 14 = .ok (.return_, 1) := by decide +kernel
theorem r_X12_reads0 (E : kr_E) (p1 : Int32) (p2 : Int32) (M : kr_M) : kR kr_vv E Y_X12_reads0 4 0 [(0, kr_r E 346), (1, .int p1), (2, .int p2)] [] M (f_X12_reads0 p1 p2 M) := by
  rw [f_X12_reads0]
  refine kr_aload_n dX12_reads0_0 rfl 0 rfl ?_
  refine kr_Vv (As := []) (st := []) zv_X12_lays dX12_reads0_1 ml_RX12_337 kr_at_346 (r_X12_lays E  M) rfl rfl (Nat.le_of_ble_eq_true rfl) rfl (by decide) (Nat.le_of_ble_eq_true rfl) (fun M1 => ?_)
  refine kr_aload_n dX12_reads0_4 rfl 0 rfl ?_
  refine kr_iload_n dX12_reads0_5 rfl 1 rfl ?_
  refine kr_iload_n dX12_reads0_6 rfl 2 rfl ?_
  refine kr_Vv (As := [.int p1, .int p2]) (st := []) zv_X12_lies dX12_reads0_7 ml_RX12_358 kr_at_346 (r_X12_lies E p1 p2 M1) rfl rfl (Nat.le_of_ble_eq_true rfl) rfl (by decide) (Nat.le_of_ble_eq_true rfl) (fun M3 => ?_)
  refine kr_aload_n dX12_reads0_10 rfl 0 rfl ?_
  refine kr_Vv (As := []) (st := []) zv_X12_readings dX12_reads0_11 ml_RX12_361 kr_at_346 (r_X12_readings E  M3) rfl rfl (Nat.le_of_ble_eq_true rfl) rfl (by decide) (Nat.le_of_ble_eq_true rfl) (fun M5 => ?_)
  exact kr_vret dX12_reads0_14 rfl
theorem dX12_reads_0 : decode cX12_reads 0 = .ok (.aload_n 0, 1) := by decide +kernel
theorem dX12_reads_1 : decode cX12_reads 1 = .ok (.iconst 0, 1) := by decide +kernel
theorem dX12_reads_2 : decode cX12_reads 2 = .ok (.putfield 138, 3) := by decide +kernel
theorem dX12_reads_5 : decode cX12_reads 5 = .ok (.aload_n 0, 1) := by decide +kernel
theorem dX12_reads_6 : decode cX12_reads 6 = .ok (.iload_n 1, 1) := by decide +kernel
theorem dX12_reads_7 : decode cX12_reads 7 = .ok (.iload_n 2, 1) := by decide +kernel
theorem dX12_reads_8 : decode cX12_reads 8 = .ok (.invokevirtual 364, 3) := by decide +kernel
theorem dX12_reads_11 : decode cX12_reads 11 = .ok (.ifCond .ne 6, 3) := by decide +kernel
theorem dX12_reads_14 : decode cX12_reads 14 = .ok (.bipush (-2), 2) := by decide +kernel
theorem dX12_reads_16 : decode cX12_reads 16 = .ok (.ireturn, 1) := by decide +kernel
theorem dX12_reads_17 : decode cX12_reads 17 = .ok (.aload_n 0, 1) := by decide +kernel
theorem dX12_reads_18 : decode cX12_reads 18 = .ok (.iload_n 1, 1) := by decide +kernel
theorem dX12_reads_19 : decode cX12_reads 19 = .ok (.iload_n 2, 1) := by decide +kernel
theorem dX12_reads_20 : decode cX12_reads 20 = .ok (.invokevirtual 367, 3) := by decide +kernel
theorem dX12_reads_23 : decode cX12_reads 23 = .ok (.aload_n 0, 1) := by decide +kernel
theorem dX12_reads_24 : decode cX12_reads 24 = .ok (.getfield 83, 3) := by decide +kernel
theorem dX12_reads_27 : decode cX12_reads 27 = .ok (.iconst 0, 1) := by decide +kernel
theorem dX12_reads_28 : decode cX12_reads 28 = .ok (.iaload, 1) := by decide +kernel
theorem dX12_reads_29 : decode cX12_reads 29 = .ok (.ireturn, 1) := by decide +kernel
theorem r_X12_reads (E : kr_E) (p1 : Int32) (p2 : Int32) (M : kr_M) : kR kr_vi E Y_X12_reads 5 0 [(0, kr_r E 346), (1, .int p1), (2, .int p2)] [] M (f_X12_reads p1 p2 M) := by
  rw [f_X12_reads]
  refine kr_aload_n dX12_reads_0 rfl 0 rfl ?_
  refine kr_iconst (v := 0) dX12_reads_1 (by decide) ?_
  refine kr_putI (ci := 12) (j := 0) dX12_reads_2 kr_at_346 fl_RX12_138 rfl rfl (fun M1 => ?_)
  refine kr_aload_n dX12_reads_5 rfl 0 rfl ?_
  refine kr_iload_n dX12_reads_6 rfl 1 rfl ?_
  refine kr_iload_n dX12_reads_7 rfl 2 rfl ?_
  refine kr_Vi (As := [.int p1, .int p2]) (st := []) zv_X12_isReading dX12_reads_8 ml_RX12_364 kr_at_346 (r_X12_isReading E p1 p2 M1) rfl rfl (Nat.le_of_ble_eq_true rfl) rfl (by decide) (Nat.le_of_ble_eq_true rfl) (fun r3 M2 => ?_)
  refine kr_if_ne (tgt := 17) dX12_reads_11 (by decide) ?_ ?_
  · refine kr_aload_n dX12_reads_17 rfl 0 rfl ?_
    refine kr_iload_n dX12_reads_18 rfl 1 rfl ?_
    refine kr_iload_n dX12_reads_19 rfl 2 rfl ?_
    refine kr_Vv (As := [.int p1, .int p2]) (st := []) zv_X12_reads0 dX12_reads_20 ml_RX12_367 kr_at_346 (r_X12_reads0 E p1 p2 M2) rfl rfl (Nat.le_of_ble_eq_true rfl) rfl (by decide) (Nat.le_of_ble_eq_true rfl) (fun M4 => ?_)
    refine kr_aload_n dX12_reads_23 rfl 0 rfl ?_
    refine kr_getA (o := 23) (ci := 12) (j := 35) dX12_reads_24 kr_at_346 fl_RX12_83 rfl ?_
    refine kr_iconst (v := 0) dX12_reads_27 (by decide) ?_
    refine kr_iald dX12_reads_28 kr_at_369 (fun v6 => ?_)
    exact kr_iret dX12_reads_29 rfl
  · refine kr_bipush (v := -2) dX12_reads_14 (by decide) ?_
    exact kr_iret dX12_reads_16 rfl
theorem dX12_says_0 : decode cX12_says 0 = .ok (.aload_n 0, 1) := by decide +kernel
theorem dX12_says_1 : decode cX12_says 1 = .ok (.iconst 0, 1) := by decide +kernel
theorem dX12_says_2 : decode cX12_says 2 = .ok (.putfield 138, 3) := by decide +kernel
theorem dX12_says_5 : decode cX12_says 5 = .ok (.aload_n 0, 1) := by decide +kernel
theorem dX12_says_6 : decode cX12_says 6 = .ok (.iload_n 1, 1) := by decide +kernel
theorem dX12_says_7 : decode cX12_says 7 = .ok (.iload_n 2, 1) := by decide +kernel
theorem dX12_says_8 : decode cX12_says 8 = .ok (.invokevirtual 364, 3) := by decide +kernel
theorem dX12_says_11 : decode cX12_says 11 = .ok (.ifCond .ne 6, 3) := by decide +kernel
theorem dX12_says_14 : decode cX12_says 14 = .ok (.bipush (-2), 2) := by decide +kernel
theorem dX12_says_16 : decode cX12_says 16 = .ok (.ireturn, 1) := by decide +kernel
theorem dX12_says_17 : decode cX12_says 17 = .ok (.aload_n 0, 1) := by decide +kernel
theorem dX12_says_18 : decode cX12_says 18 = .ok (.iload_n 1, 1) := by decide +kernel
theorem dX12_says_19 : decode cX12_says 19 = .ok (.iload_n 2, 1) := by decide +kernel
theorem dX12_says_20 : decode cX12_says 20 = .ok (.invokevirtual 367, 3) := by decide +kernel
theorem dX12_says_23 : decode cX12_says 23 = .ok (.iload_n 3, 1) := by decide +kernel
theorem dX12_says_24 : decode cX12_says 24 = .ok (.ifCond .lt 12, 3) := by decide +kernel
theorem dX12_says_27 : decode cX12_says 27 = .ok (.aload_n 0, 1) := by decide +kernel
theorem dX12_says_28 : decode cX12_says 28 = .ok (.getfield 83, 3) := by decide +kernel
theorem dX12_says_31 : decode cX12_says 31 = .ok (.iconst 0, 1) := by decide +kernel
theorem dX12_says_32 : decode cX12_says 32 = .ok (.iaload, 1) := by decide +kernel
theorem dX12_says_33 : decode cX12_says 33 = .ok (.ifCond .ne 5, 3) := by decide +kernel
theorem dX12_says_36 : decode cX12_says 36 = .ok (.iconst (-1), 1) := by decide +kernel
theorem dX12_says_37 : decode cX12_says 37 = .ok (.ireturn, 1) := by decide +kernel
theorem dX12_says_38 : decode cX12_says 38 = .ok (.iconst 0, 1) := by decide +kernel
theorem dX12_says_39 : decode cX12_says 39 = .ok (.istore 4, 2) := by decide +kernel
theorem dX12_says_41 : decode cX12_says 41 = .ok (.iconst 0, 1) := by decide +kernel
theorem dX12_says_42 : decode cX12_says 42 = .ok (.istore 5, 2) := by decide +kernel
theorem dX12_says_44 : decode cX12_says 44 = .ok (.iload 4, 2) := by decide +kernel
theorem dX12_says_46 : decode cX12_says 46 = .ok (.aload_n 0, 1) := by decide +kernel
theorem dX12_says_47 : decode cX12_says 47 = .ok (.getfield 351, 3) := by decide +kernel
theorem dX12_says_50 : decode cX12_says 50 = .ok (.if_icmp .ge 68, 3) := by decide +kernel
theorem dX12_says_53 : decode cX12_says 53 = .ok (.iconst 0, 1) := by decide +kernel
theorem dX12_says_54 : decode cX12_says 54 = .ok (.istore 6, 2) := by decide +kernel
theorem dX12_says_56 : decode cX12_says 56 = .ok (.aload_n 0, 1) := by decide +kernel
theorem dX12_says_57 : decode cX12_says 57 = .ok (.iload 6, 2) := by decide +kernel
theorem dX12_says_59 : decode cX12_says 59 = .ok (.iload 4, 2) := by decide +kernel
theorem dX12_says_61 : decode cX12_says 61 = .ok (.invokevirtual 355, 3) := by decide +kernel
theorem dX12_says_64 : decode cX12_says 64 = .ok (.ifCond .eq 21, 3) := by decide +kernel
theorem dX12_says_67 : decode cX12_says 67 = .ok (.aload_n 0, 1) := by decide +kernel
theorem dX12_says_68 : decode cX12_says 68 = .ok (.getfield 83, 3) := by decide +kernel
theorem dX12_says_71 : decode cX12_says 71 = .ok (.iload 4, 2) := by decide +kernel
theorem dX12_says_73 : decode cX12_says 73 = .ok (.aload_n 0, 1) := by decide +kernel
theorem dX12_says_74 : decode cX12_says 74 = .ok (.getfield 43, 3) := by decide +kernel
theorem dX12_says_77 : decode cX12_says 77 = .ok (.iload 6, 2) := by decide +kernel
theorem dX12_says_79 : decode cX12_says 79 = .ok (.iaload, 1) := by decide +kernel
theorem dX12_says_80 : decode cX12_says 80 = .ok (.iadd, 1) := by decide +kernel
theorem dX12_says_81 : decode cX12_says 81 = .ok (.iaload, 1) := by decide +kernel
theorem dX12_says_82 : decode cX12_says 82 = .ok (.ifCond .ne 9, 3) := by decide +kernel
theorem dX12_says_85 : decode cX12_says 85 = .ok (.iinc 6 1, 3) := by decide +kernel
theorem dX12_says_88 : decode cX12_says 88 = .ok (.goto (-32), 3) := by decide +kernel
theorem dX12_says_91 : decode cX12_says 91 = .ok (.iload 5, 2) := by decide +kernel
theorem dX12_says_93 : decode cX12_says 93 = .ok (.iload_n 3, 1) := by decide +kernel
theorem dX12_says_94 : decode cX12_says 94 = .ok (.if_icmp .ne 6, 3) := by decide +kernel
theorem dX12_says_97 : decode cX12_says 97 = .ok (.iload 6, 2) := by decide +kernel
theorem dX12_says_99 : decode cX12_says 99 = .ok (.ireturn, 1) := by decide +kernel
theorem dX12_says_100 : decode cX12_says 100 = .ok (.iload 4, 2) := by decide +kernel
theorem dX12_says_102 : decode cX12_says 102 = .ok (.aload_n 0, 1) := by decide +kernel
theorem dX12_says_103 : decode cX12_says 103 = .ok (.getfield 43, 3) := by decide +kernel
theorem dX12_says_106 : decode cX12_says 106 = .ok (.iload 6, 2) := by decide +kernel
theorem dX12_says_108 : decode cX12_says 108 = .ok (.iaload, 1) := by decide +kernel
theorem dX12_says_109 : decode cX12_says 109 = .ok (.iadd, 1) := by decide +kernel
theorem dX12_says_110 : decode cX12_says 110 = .ok (.istore 4, 2) := by decide +kernel
theorem dX12_says_112 : decode cX12_says 112 = .ok (.iinc 5 1, 3) := by decide +kernel
theorem dX12_says_115 : decode cX12_says 115 = .ok (.goto (-71), 3) := by decide +kernel
theorem dX12_says_118 : decode cX12_says 118 = .ok (.iconst (-1), 1) := by decide +kernel
theorem dX12_says_119 : decode cX12_says 119 = .ok (.ireturn, 1) := by decide +kernel
theorem r_X12_says_85 (E : kr_E) (k_56 : Int32 → kr_M → Option (Int32 × kr_M)) (l3 : Int32) (l4 : Int32) (l5 : Int32) (l6 : Int32) (hk_56 : ∀ (x6 : Int32) (M : kr_M), kR kr_vi E Y_X12_says 5 56 [(0, kr_r E 346), (3, .int l3), (4, .int l4), (5, .int l5), (6, .int x6)] [] M (k_56 x6 M)) (M : kr_M) : kR kr_vi E Y_X12_says 5 85 [(0, kr_r E 346), (3, .int l3), (4, .int l4), (5, .int l5), (6, .int l6)] [] M (f_X12_says_85 k_56 l6 M) := by
  rw [f_X12_says_85]
  refine kr_iinc (j := 4) (v := (l6 + (1 : Int32))) (lv' := [(6, .int (l6 + (1 : Int32))), (0, kr_r E 346), (3, .int l3), (4, .int l4), (5, .int l5)]) dX12_says_85 rfl rfl (by decide) rfl ?_
  refine kr_goto (tgt := 56) dX12_says_88 (by decide) ?_
  refine kr_sub [1, 2, 3, 4, 0] rfl ?_
  exact hk_56 (l6 + (1 : Int32)) M
theorem r_X12_says_91 (E : kr_E) (k_44 : Int32 → Int32 → kr_M → Option (Int32 × kr_M)) (l3 : Int32) (l4 : Int32) (l5 : Int32) (l6 : Int32) (hk_44 : ∀ (x4 : Int32) (x5 : Int32) (M : kr_M), kR kr_vi E Y_X12_says 5 44 [(0, kr_r E 346), (3, .int l3), (4, .int x4), (5, .int x5)] [] M (k_44 x4 x5 M)) (M : kr_M) : kR kr_vi E Y_X12_says 5 91 [(0, kr_r E 346), (3, .int l3), (4, .int l4), (5, .int l5), (6, .int l6)] [] M (f_X12_says_91 k_44 l3 l4 l5 l6 M) := by
  rw [f_X12_says_91]
  refine kr_iload dX12_says_91 3 rfl ?_
  refine kr_iload_n dX12_says_93 rfl 1 rfl ?_
  refine kr_icmp_ne (tgt := 100) dX12_says_94 (by decide) ?_ ?_
  · refine kr_iload dX12_says_100 2 rfl ?_
    refine kr_aload_n dX12_says_102 rfl 0 rfl ?_
    refine kr_getA (o := 10) (ci := 12) (j := 20) dX12_says_103 kr_at_346 fl_RX12_43 rfl ?_
    refine kr_iload dX12_says_106 4 rfl ?_
    refine kr_iald dX12_says_108 kr_at_356 (fun v1 => ?_)
    refine kr_iadd dX12_says_109 ?_
    refine kr_nmi (fun v2 => ?_)
    refine kr_istore (lv' := [(4, .int v2), (0, kr_r E 346), (3, .int l3), (5, .int l5), (6, .int l6)]) dX12_says_110 (by decide) rfl ?_
    refine kr_iinc (j := 3) (v := (l5 + (1 : Int32))) (lv' := [(5, .int (l5 + (1 : Int32))), (4, .int v2), (0, kr_r E 346), (3, .int l3), (6, .int l6)]) dX12_says_112 rfl rfl (by decide) rfl ?_
    refine kr_goto (tgt := 44) dX12_says_115 (by decide) ?_
    refine kr_sub [2, 3, 1, 0] rfl ?_
    exact hk_44 v2 (l5 + (1 : Int32)) M
  · refine kr_iload dX12_says_97 4 rfl ?_
    exact kr_iret dX12_says_99 rfl
theorem r_X12_says_56 (E : kr_E) (k_44 : Int32 → Int32 → kr_M → Option (Int32 × kr_M)) (l3 : Int32) (l4 : Int32) (l5 : Int32) (hk_44 : ∀ (x4 : Int32) (x5 : Int32) (M : kr_M), kR kr_vi E Y_X12_says 5 44 [(0, kr_r E 346), (3, .int l3), (4, .int x4), (5, .int x5)] [] M (k_44 x4 x5 M)) : ∀ (n : Nat) (l6 : Int32) (M : kr_M), kR kr_vi E Y_X12_says 5 56 [(0, kr_r E 346), (3, .int l3), (4, .int l4), (5, .int l5), (6, .int l6)] [] M (f_X12_says_56 k_44 l3 l4 l5 n l6 M) := by
  intro n
  induction n with
  | zero => intro l6 M; exact kr_none
  | succ n ih =>
    intro l6 M
    rw [f_X12_says_56]
    refine kr_aload_n dX12_says_56 rfl 0 rfl ?_
    refine kr_iload dX12_says_57 4 rfl ?_
    refine kr_iload dX12_says_59 2 rfl ?_
    refine kr_Vi (As := [.int l6, .int l4]) (st := []) zv_X12_isHere dX12_says_61 ml_RX12_355 kr_at_346 (r_X12_isHere E l6 l4 M) rfl rfl (Nat.le_of_ble_eq_true rfl) rfl (by decide) (Nat.le_of_ble_eq_true rfl) (fun r2 M1 => ?_)
    refine kr_if_eq (tgt := 85) dX12_says_64 (by decide) ?_ ?_
    · refine kr_sub [0, 1, 2, 3, 4] rfl ?_
      exact r_X12_says_85 E _ l3 l4 l5 l6 ih M1
    · refine kr_aload_n dX12_says_67 rfl 0 rfl ?_
      refine kr_getA (o := 23) (ci := 12) (j := 35) dX12_says_68 kr_at_346 fl_RX12_83 rfl ?_
      refine kr_iload dX12_says_71 2 rfl ?_
      refine kr_aload_n dX12_says_73 rfl 0 rfl ?_
      refine kr_getA (o := 10) (ci := 12) (j := 20) dX12_says_74 kr_at_346 fl_RX12_43 rfl ?_
      refine kr_iload dX12_says_77 4 rfl ?_
      refine kr_iald dX12_says_79 kr_at_356 (fun v3 => ?_)
      refine kr_iadd dX12_says_80 ?_
      refine kr_iald dX12_says_81 kr_at_369 (fun v4 => ?_)
      refine kr_if_ne (tgt := 91) dX12_says_82 (by decide) ?_ ?_
      · refine kr_sub [0, 1, 2, 3, 4] rfl ?_
        exact r_X12_says_91 E _ l3 l4 l5 l6 hk_44 M1
      · refine kr_sub [0, 1, 2, 3, 4] rfl ?_
        exact r_X12_says_85 E _ l3 l4 l5 l6 ih M1
theorem r_X12_says_44 (E : kr_E)  (l3 : Int32)  : ∀ (n : Nat) (l4 : Int32) (l5 : Int32) (M : kr_M), kR kr_vi E Y_X12_says 5 44 [(0, kr_r E 346), (3, .int l3), (4, .int l4), (5, .int l5)] [] M (f_X12_says_44 l3 n l4 l5 M) := by
  intro n
  induction n with
  | zero => intro l4 l5 M; exact kr_none
  | succ n ih =>
    intro l4 l5 M
    rw [f_X12_says_44]
    refine kr_iload dX12_says_44 2 rfl ?_
    refine kr_aload_n dX12_says_46 rfl 0 rfl ?_
    refine kr_getI (ci := 12) (j := 34) dX12_says_47 kr_at_346 fl_RX12_351 rfl (fun v1 => ?_)
    refine kr_icmp_ge (tgt := 118) dX12_says_50 (by decide) ?_ ?_
    · refine kr_iconst (v := -1) dX12_says_118 (by decide) ?_
      exact kr_iret dX12_says_119 rfl
    · refine kr_iconst (v := 0) dX12_says_53 (by decide) ?_
      refine kr_istore (lv' := [(6, .int (0 : Int32)), (0, kr_r E 346), (3, .int l3), (4, .int l4), (5, .int l5)]) dX12_says_54 (by decide) rfl ?_
      refine kr_sub [1, 2, 3, 4, 0] rfl ?_
      exact r_X12_says_56 E _ l3 l4 l5 ih _ (0 : Int32) M
theorem r_X12_says (E : kr_E) (p1 : Int32) (p2 : Int32) (p3 : Int32) (M : kr_M) : kR kr_vi E Y_X12_says 5 0 [(0, kr_r E 346), (1, .int p1), (2, .int p2), (3, .int p3)] [] M (f_X12_says p1 p2 p3 M) := by
  rw [f_X12_says]
  refine kr_aload_n dX12_says_0 rfl 0 rfl ?_
  refine kr_iconst (v := 0) dX12_says_1 (by decide) ?_
  refine kr_putI (ci := 12) (j := 0) dX12_says_2 kr_at_346 fl_RX12_138 rfl rfl (fun M1 => ?_)
  refine kr_aload_n dX12_says_5 rfl 0 rfl ?_
  refine kr_iload_n dX12_says_6 rfl 1 rfl ?_
  refine kr_iload_n dX12_says_7 rfl 2 rfl ?_
  refine kr_Vi (As := [.int p1, .int p2]) (st := []) zv_X12_isReading dX12_says_8 ml_RX12_364 kr_at_346 (r_X12_isReading E p1 p2 M1) rfl rfl (Nat.le_of_ble_eq_true rfl) rfl (by decide) (Nat.le_of_ble_eq_true rfl) (fun r3 M2 => ?_)
  refine kr_if_ne (tgt := 17) dX12_says_11 (by decide) ?_ ?_
  · refine kr_aload_n dX12_says_17 rfl 0 rfl ?_
    refine kr_iload_n dX12_says_18 rfl 1 rfl ?_
    refine kr_iload_n dX12_says_19 rfl 2 rfl ?_
    refine kr_Vv (As := [.int p1, .int p2]) (st := []) zv_X12_reads0 dX12_says_20 ml_RX12_367 kr_at_346 (r_X12_reads0 E p1 p2 M2) rfl rfl (Nat.le_of_ble_eq_true rfl) rfl (by decide) (Nat.le_of_ble_eq_true rfl) (fun M4 => ?_)
    refine kr_iload_n dX12_says_23 rfl 3 rfl ?_
    refine kr_if_lt (tgt := 36) dX12_says_24 (by decide) ?_ ?_
    · refine kr_iconst (v := -1) dX12_says_36 (by decide) ?_
      exact kr_iret dX12_says_37 rfl
    · refine kr_aload_n dX12_says_27 rfl 0 rfl ?_
      refine kr_getA (o := 23) (ci := 12) (j := 35) dX12_says_28 kr_at_346 fl_RX12_83 rfl ?_
      refine kr_iconst (v := 0) dX12_says_31 (by decide) ?_
      refine kr_iald dX12_says_32 kr_at_369 (fun v6 => ?_)
      refine kr_if_ne (tgt := 38) dX12_says_33 (by decide) ?_ ?_
      · refine kr_iconst (v := 0) dX12_says_38 (by decide) ?_
        refine kr_istore (lv' := [(4, .int (0 : Int32)), (0, kr_r E 346), (1, .int p1), (2, .int p2), (3, .int p3)]) dX12_says_39 (by decide) rfl ?_
        refine kr_iconst (v := 0) dX12_says_41 (by decide) ?_
        refine kr_istore (lv' := [(5, .int (0 : Int32)), (4, .int (0 : Int32)), (0, kr_r E 346), (1, .int p1), (2, .int p2), (3, .int p3)]) dX12_says_42 (by decide) rfl ?_
        refine kr_sub [2, 5, 1, 0] rfl ?_
        exact r_X12_says_44 E p3 _ (0 : Int32) (0 : Int32) M4
      · refine kr_iconst (v := -1) dX12_says_36 (by decide) ?_
        exact kr_iret dX12_says_37 rfl
  · refine kr_bipush (v := -2) dX12_says_14 (by decide) ?_
    exact kr_iret dX12_says_16 rfl
theorem dX12_sum_0 : decode cX12_sum 0 = .ok (.aload_n 0, 1) := by decide +kernel
theorem dX12_sum_1 : decode cX12_sum 1 = .ok (.iconst 0, 1) := by decide +kernel
theorem dX12_sum_2 : decode cX12_sum 2 = .ok (.putfield 138, 3) := by decide +kernel
theorem dX12_sum_5 : decode cX12_sum 5 = .ok (.aload_n 0, 1) := by decide +kernel
theorem dX12_sum_6 : decode cX12_sum 6 = .ok (.iload_n 1, 1) := by decide +kernel
theorem dX12_sum_7 : decode cX12_sum 7 = .ok (.iload_n 2, 1) := by decide +kernel
theorem dX12_sum_8 : decode cX12_sum 8 = .ok (.invokevirtual 364, 3) := by decide +kernel
theorem dX12_sum_11 : decode cX12_sum 11 = .ok (.ifCond .eq 13, 3) := by decide +kernel
theorem dX12_sum_14 : decode cX12_sum 14 = .ok (.iload_n 3, 1) := by decide +kernel
theorem dX12_sum_15 : decode cX12_sum 15 = .ok (.i2l, 1) := by decide +kernel
theorem dX12_sum_16 : decode cX12_sum 16 = .ok (.lconst 0, 1) := by decide +kernel
theorem dX12_sum_17 : decode cX12_sum 17 = .ok (.lconst 1, 1) := by decide +kernel
theorem dX12_sum_18 : decode cX12_sum 18 = .ok (.invokestatic 143, 3) := by decide +kernel
theorem dX12_sum_21 : decode cX12_sum 21 = .ok (.ifCond .ne 6, 3) := by decide +kernel
theorem dX12_sum_24 : decode cX12_sum 24 = .ok (.bipush (-2), 2) := by decide +kernel
theorem dX12_sum_26 : decode cX12_sum 26 = .ok (.ireturn, 1) := by decide +kernel
theorem dX12_sum_27 : decode cX12_sum 27 = .ok (.aload_n 0, 1) := by decide +kernel
theorem dX12_sum_28 : decode cX12_sum 28 = .ok (.iload_n 1, 1) := by decide +kernel
theorem dX12_sum_29 : decode cX12_sum 29 = .ok (.iload_n 2, 1) := by decide +kernel
theorem dX12_sum_30 : decode cX12_sum 30 = .ok (.invokevirtual 367, 3) := by decide +kernel
theorem dX12_sum_33 : decode cX12_sum 33 = .ok (.aload_n 0, 1) := by decide +kernel
theorem dX12_sum_34 : decode cX12_sum 34 = .ok (.getfield 83, 3) := by decide +kernel
theorem dX12_sum_37 : decode cX12_sum 37 = .ok (.iconst 0, 1) := by decide +kernel
theorem dX12_sum_38 : decode cX12_sum 38 = .ok (.iaload, 1) := by decide +kernel
theorem dX12_sum_39 : decode cX12_sum 39 = .ok (.ifCond .ne 7, 3) := by decide +kernel
theorem dX12_sum_42 : decode cX12_sum 42 = .ok (.iconst (-1), 1) := by decide +kernel
theorem dX12_sum_43 : decode cX12_sum 43 = .ok (.goto 22, 3) := by decide +kernel
theorem dX12_sum_46 : decode cX12_sum 46 = .ok (.iload_n 3, 1) := by decide +kernel
theorem dX12_sum_47 : decode cX12_sum 47 = .ok (.ifCond .ne 12, 3) := by decide +kernel
theorem dX12_sum_50 : decode cX12_sum 50 = .ok (.aload_n 0, 1) := by decide +kernel
theorem dX12_sum_51 : decode cX12_sum 51 = .ok (.getfield 86, 3) := by decide +kernel
theorem dX12_sum_54 : decode cX12_sum 54 = .ok (.iconst 0, 1) := by decide +kernel
theorem dX12_sum_55 : decode cX12_sum 55 = .ok (.iaload, 1) := by decide +kernel
theorem dX12_sum_56 : decode cX12_sum 56 = .ok (.goto 9, 3) := by decide +kernel
theorem dX12_sum_59 : decode cX12_sum 59 = .ok (.aload_n 0, 1) := by decide +kernel
theorem dX12_sum_60 : decode cX12_sum 60 = .ok (.getfield 89, 3) := by decide +kernel
theorem dX12_sum_63 : decode cX12_sum 63 = .ok (.iconst 0, 1) := by decide +kernel
theorem dX12_sum_64 : decode cX12_sum 64 = .ok (.iaload, 1) := by decide +kernel
theorem dX12_sum_65 : decode cX12_sum 65 = .ok (.ireturn, 1) := by decide +kernel
theorem r_X12_sum (E : kr_E) (p1 : Int32) (p2 : Int32) (p3 : Int32) (M : kr_M) : kR kr_vi E Y_X12_sum 5 0 [(0, kr_r E 346), (1, .int p1), (2, .int p2), (3, .int p3)] [] M (f_X12_sum p1 p2 p3 M) := by
  rw [f_X12_sum]
  refine kr_aload_n dX12_sum_0 rfl 0 rfl ?_
  refine kr_iconst (v := 0) dX12_sum_1 (by decide) ?_
  refine kr_putI (ci := 12) (j := 0) dX12_sum_2 kr_at_346 fl_RX12_138 rfl rfl (fun M1 => ?_)
  refine kr_aload_n dX12_sum_5 rfl 0 rfl ?_
  refine kr_iload_n dX12_sum_6 rfl 1 rfl ?_
  refine kr_iload_n dX12_sum_7 rfl 2 rfl ?_
  refine kr_Vi (As := [.int p1, .int p2]) (st := []) zv_X12_isReading dX12_sum_8 ml_RX12_364 kr_at_346 (r_X12_isReading E p1 p2 M1) rfl rfl (Nat.le_of_ble_eq_true rfl) rfl (by decide) (Nat.le_of_ble_eq_true rfl) (fun r3 M2 => ?_)
  refine kr_if_eq (tgt := 24) dX12_sum_11 (by decide) ?_ ?_
  · refine kr_bipush (v := -2) dX12_sum_24 (by decide) ?_
    exact kr_iret dX12_sum_26 rfl
  · refine kr_iload_n dX12_sum_14 rfl 3 rfl ?_
    refine kr_i2l dX12_sum_15 ?_
    refine kr_lconst (v := 0) dX12_sum_16 (by decide) ?_
    refine kr_lconst (v := 1) dX12_sum_17 (by decide) ?_
    refine kr_Si (As := [.long (p3.toInt64), .long (0 : Int64), .long (1 : Int64)]) (st := []) zs_X12_in dX12_sum_18 ml_RX12_143 (r_X12_in E (p3.toInt64) (0 : Int64) (1 : Int64) M2) rfl rfl (Nat.le_of_ble_eq_true rfl) rfl (by decide) (Nat.le_of_ble_eq_true rfl) (fun r5 M4 => ?_)
    refine kr_if_ne (tgt := 27) dX12_sum_21 (by decide) ?_ ?_
    · refine kr_aload_n dX12_sum_27 rfl 0 rfl ?_
      refine kr_iload_n dX12_sum_28 rfl 1 rfl ?_
      refine kr_iload_n dX12_sum_29 rfl 2 rfl ?_
      refine kr_Vv (As := [.int p1, .int p2]) (st := []) zv_X12_reads0 dX12_sum_30 ml_RX12_367 kr_at_346 (r_X12_reads0 E p1 p2 M4) rfl rfl (Nat.le_of_ble_eq_true rfl) rfl (by decide) (Nat.le_of_ble_eq_true rfl) (fun M6 => ?_)
      refine kr_aload_n dX12_sum_33 rfl 0 rfl ?_
      refine kr_getA (o := 23) (ci := 12) (j := 35) dX12_sum_34 kr_at_346 fl_RX12_83 rfl ?_
      refine kr_iconst (v := 0) dX12_sum_37 (by decide) ?_
      refine kr_iald dX12_sum_38 kr_at_369 (fun v8 => ?_)
      refine kr_if_ne (tgt := 46) dX12_sum_39 (by decide) ?_ ?_
      · refine kr_iload_n dX12_sum_46 rfl 3 rfl ?_
        refine kr_if_ne (tgt := 59) dX12_sum_47 (by decide) ?_ ?_
        · refine kr_aload_n dX12_sum_59 rfl 0 rfl ?_
          refine kr_getA (o := 25) (ci := 12) (j := 37) dX12_sum_60 kr_at_346 fl_RX12_89 rfl ?_
          refine kr_iconst (v := 0) dX12_sum_63 (by decide) ?_
          refine kr_iald dX12_sum_64 kr_at_371 (fun v9 => ?_)
          exact kr_iret dX12_sum_65 rfl
        · refine kr_aload_n dX12_sum_50 rfl 0 rfl ?_
          refine kr_getA (o := 24) (ci := 12) (j := 36) dX12_sum_51 kr_at_346 fl_RX12_86 rfl ?_
          refine kr_iconst (v := 0) dX12_sum_54 (by decide) ?_
          refine kr_iald dX12_sum_55 kr_at_370 (fun v10 => ?_)
          refine kr_goto (tgt := 65) dX12_sum_56 (by decide) ?_
          exact kr_iret dX12_sum_65 rfl
      · refine kr_iconst (v := -1) dX12_sum_42 (by decide) ?_
        refine kr_goto (tgt := 65) dX12_sum_43 (by decide) ?_
        exact kr_iret dX12_sum_65 rfl
    · refine kr_bipush (v := -2) dX12_sum_24 (by decide) ?_
      exact kr_iret dX12_sum_26 rfl
theorem dX12_laysSums_0 : decode cX12_laysSums 0 = .ok (.iconst 0, 1) := by decide +kernel
theorem dX12_laysSums_1 : decode cX12_laysSums 1 = .ok (.istore_n 1, 1) := by decide +kernel
theorem dX12_laysSums_2 : decode cX12_laysSums 2 = .ok (.iload_n 1, 1) := by decide +kernel
theorem dX12_laysSums_3 : decode cX12_laysSums 3 = .ok (.ldc 92, 2) := by decide +kernel
theorem dX12_laysSums_5 : decode cX12_laysSums 5 = .ok (.if_icmp .ge 16, 3) := by decide +kernel
theorem dX12_laysSums_8 : decode cX12_laysSums 8 = .ok (.aload_n 0, 1) := by decide +kernel
theorem dX12_laysSums_9 : decode cX12_laysSums 9 = .ok (.getfield 93, 3) := by decide +kernel
theorem dX12_laysSums_12 : decode cX12_laysSums 12 = .ok (.iload_n 1, 1) := by decide +kernel
theorem dX12_laysSums_13 : decode cX12_laysSums 13 = .ok (.iconst 0, 1) := by decide +kernel
theorem dX12_laysSums_14 : decode cX12_laysSums 14 = .ok (.bastore, 1) := by decide +kernel
theorem dX12_laysSums_15 : decode cX12_laysSums 15 = .ok (.iinc 1 1, 3) := by decide +kernel
theorem dX12_laysSums_18 : decode cX12_laysSums 18 = .ok (.goto (-16), 3) := by decide +kernel
theorem dX12_laysSums_21 : decode cX12_laysSums 21 = .ok (.aload_n 0, 1) := by decide +kernel
theorem dX12_laysSums_22 : decode cX12_laysSums 22 = .ok (.getfield 93, 3) := by decide +kernel
theorem dX12_laysSums_25 : decode cX12_laysSums 25 = .ok (.sipush 2401, 3) := by decide +kernel
theorem dX12_laysSums_28 : decode cX12_laysSums 28 = .ok (.aload_n 0, 1) := by decide +kernel
theorem dX12_laysSums_29 : decode cX12_laysSums 29 = .ok (.getfield 351, 3) := by decide +kernel
theorem dX12_laysSums_32 : decode cX12_laysSums 32 = .ok (.imul, 1) := by decide +kernel
theorem dX12_laysSums_33 : decode cX12_laysSums 33 = .ok (.iconst 1, 1) := by decide +kernel
theorem dX12_laysSums_34 : decode cX12_laysSums 34 = .ok (.bastore, 1) := by decide +kernel
theorem dX12_laysSums_35 : decode cX12_laysSums 35 = .ok (.aload_n 0, 1) := by decide +kernel
theorem dX12_laysSums_36 : decode cX12_laysSums 36 = .ok (.getfield 351, 3) := by decide +kernel
theorem dX12_laysSums_39 : decode cX12_laysSums 39 = .ok (.iconst 1, 1) := by decide +kernel
theorem dX12_laysSums_40 : decode cX12_laysSums 40 = .ok (.isub, 1) := by decide +kernel
theorem dX12_laysSums_41 : decode cX12_laysSums 41 = .ok (.istore_n 1, 1) := by decide +kernel
theorem dX12_laysSums_42 : decode cX12_laysSums 42 = .ok (.iload_n 1, 1) := by decide +kernel
theorem dX12_laysSums_43 : decode cX12_laysSums 43 = .ok (.ifCond .lt 107, 3) := by decide +kernel
theorem dX12_laysSums_46 : decode cX12_laysSums 46 = .ok (.iconst 0, 1) := by decide +kernel
theorem dX12_laysSums_47 : decode cX12_laysSums 47 = .ok (.istore_n 2, 1) := by decide +kernel
theorem dX12_laysSums_48 : decode cX12_laysSums 48 = .ok (.iload_n 2, 1) := by decide +kernel
theorem dX12_laysSums_49 : decode cX12_laysSums 49 = .ok (.aload_n 0, 1) := by decide +kernel
theorem dX12_laysSums_50 : decode cX12_laysSums 50 = .ok (.getfield 34, 3) := by decide +kernel
theorem dX12_laysSums_53 : decode cX12_laysSums 53 = .ok (.iconst 4, 1) := by decide +kernel
theorem dX12_laysSums_54 : decode cX12_laysSums 54 = .ok (.iaload, 1) := by decide +kernel
theorem dX12_laysSums_55 : decode cX12_laysSums 55 = .ok (.if_icmp .ge 89, 3) := by decide +kernel
theorem dX12_laysSums_58 : decode cX12_laysSums 58 = .ok (.aload_n 0, 1) := by decide +kernel
theorem dX12_laysSums_59 : decode cX12_laysSums 59 = .ok (.iload_n 2, 1) := by decide +kernel
theorem dX12_laysSums_60 : decode cX12_laysSums 60 = .ok (.iload_n 1, 1) := by decide +kernel
theorem dX12_laysSums_61 : decode cX12_laysSums 61 = .ok (.invokevirtual 355, 3) := by decide +kernel
theorem dX12_laysSums_64 : decode cX12_laysSums 64 = .ok (.ifCond .ne 6, 3) := by decide +kernel
theorem dX12_laysSums_67 : decode cX12_laysSums 67 = .ok (.goto 71, 3) := by decide +kernel
theorem dX12_laysSums_70 : decode cX12_laysSums 70 = .ok (.sipush 2401, 3) := by decide +kernel
theorem dX12_laysSums_73 : decode cX12_laysSums 73 = .ok (.iload_n 1, 1) := by decide +kernel
theorem dX12_laysSums_74 : decode cX12_laysSums 74 = .ok (.aload_n 0, 1) := by decide +kernel
theorem dX12_laysSums_75 : decode cX12_laysSums 75 = .ok (.getfield 43, 3) := by decide +kernel
theorem dX12_laysSums_78 : decode cX12_laysSums 78 = .ok (.iload_n 2, 1) := by decide +kernel
theorem dX12_laysSums_79 : decode cX12_laysSums 79 = .ok (.iaload, 1) := by decide +kernel
theorem dX12_laysSums_80 : decode cX12_laysSums 80 = .ok (.iadd, 1) := by decide +kernel
theorem dX12_laysSums_81 : decode cX12_laysSums 81 = .ok (.imul, 1) := by decide +kernel
theorem dX12_laysSums_82 : decode cX12_laysSums 82 = .ok (.istore_n 3, 1) := by decide +kernel
theorem dX12_laysSums_83 : decode cX12_laysSums 83 = .ok (.aload_n 0, 1) := by decide +kernel
theorem dX12_laysSums_84 : decode cX12_laysSums 84 = .ok (.getfield 46, 3) := by decide +kernel
theorem dX12_laysSums_87 : decode cX12_laysSums 87 = .ok (.iload_n 2, 1) := by decide +kernel
theorem dX12_laysSums_88 : decode cX12_laysSums 88 = .ok (.iaload, 1) := by decide +kernel
theorem dX12_laysSums_89 : decode cX12_laysSums 89 = .ok (.istore 4, 2) := by decide +kernel
theorem dX12_laysSums_91 : decode cX12_laysSums 91 = .ok (.iload 4, 2) := by decide +kernel
theorem dX12_laysSums_93 : decode cX12_laysSums 93 = .ok (.sipush 2401, 3) := by decide +kernel
theorem dX12_laysSums_96 : decode cX12_laysSums 96 = .ok (.if_icmp .ge 42, 3) := by decide +kernel
theorem dX12_laysSums_99 : decode cX12_laysSums 99 = .ok (.aload_n 0, 1) := by decide +kernel
theorem dX12_laysSums_100 : decode cX12_laysSums 100 = .ok (.getfield 93, 3) := by decide +kernel
theorem dX12_laysSums_103 : decode cX12_laysSums 103 = .ok (.iload_n 3, 1) := by decide +kernel
theorem dX12_laysSums_104 : decode cX12_laysSums 104 = .ok (.iload 4, 2) := by decide +kernel
theorem dX12_laysSums_106 : decode cX12_laysSums 106 = .ok (.iadd, 1) := by decide +kernel
theorem dX12_laysSums_107 : decode cX12_laysSums 107 = .ok (.aload_n 0, 1) := by decide +kernel
theorem dX12_laysSums_108 : decode cX12_laysSums 108 = .ok (.getfield 46, 3) := by decide +kernel
theorem dX12_laysSums_111 : decode cX12_laysSums 111 = .ok (.iload_n 2, 1) := by decide +kernel
theorem dX12_laysSums_112 : decode cX12_laysSums 112 = .ok (.iaload, 1) := by decide +kernel
theorem dX12_laysSums_113 : decode cX12_laysSums 113 = .ok (.isub, 1) := by decide +kernel
theorem dX12_laysSums_114 : decode cX12_laysSums 114 = .ok (.baload, 1) := by decide +kernel
theorem dX12_laysSums_115 : decode cX12_laysSums 115 = .ok (.ifCond .eq 17, 3) := by decide +kernel
theorem dX12_laysSums_118 : decode cX12_laysSums 118 = .ok (.aload_n 0, 1) := by decide +kernel
theorem dX12_laysSums_119 : decode cX12_laysSums 119 = .ok (.getfield 93, 3) := by decide +kernel
theorem dX12_laysSums_122 : decode cX12_laysSums 122 = .ok (.sipush 2401, 3) := by decide +kernel
theorem dX12_laysSums_125 : decode cX12_laysSums 125 = .ok (.iload_n 1, 1) := by decide +kernel
theorem dX12_laysSums_126 : decode cX12_laysSums 126 = .ok (.imul, 1) := by decide +kernel
theorem dX12_laysSums_127 : decode cX12_laysSums 127 = .ok (.iload 4, 2) := by decide +kernel
theorem dX12_laysSums_129 : decode cX12_laysSums 129 = .ok (.iadd, 1) := by decide +kernel
theorem dX12_laysSums_130 : decode cX12_laysSums 130 = .ok (.iconst 1, 1) := by decide +kernel
theorem dX12_laysSums_131 : decode cX12_laysSums 131 = .ok (.bastore, 1) := by decide +kernel
theorem dX12_laysSums_132 : decode cX12_laysSums 132 = .ok (.iinc 4 1, 3) := by decide +kernel
theorem dX12_laysSums_135 : decode cX12_laysSums 135 = .ok (.goto (-44), 3) := by decide +kernel
theorem dX12_laysSums_138 : decode cX12_laysSums 138 = .ok (.iinc 2 1, 3) := by decide +kernel
theorem dX12_laysSums_141 : decode cX12_laysSums 141 = .ok (.goto (-93), 3) := by decide +kernel
theorem dX12_laysSums_144 : decode cX12_laysSums 144 = .ok (.iinc 1 (-1), 3) := by decide +kernel
theorem dX12_laysSums_147 : decode cX12_laysSums 147 = .ok (.goto (-105), 3) := by decide +kernel
theorem dX12_laysSums_150 : decode cX12_laysSums 150 = .ok (.return_, 1) := by decide +kernel
theorem r_X12_laysSums_144 (E : kr_E) (k_42 : Int32 → kr_M → Option kr_M) (l1 : Int32) (hk_42 : ∀ (x1 : Int32) (M : kr_M), kR kr_vv E Y_X12_laysSums 2 42 [(0, kr_r E 346), (1, .int x1)] [] M (k_42 x1 M)) (M : kr_M) : kR kr_vv E Y_X12_laysSums 2 144 [(0, kr_r E 346), (1, .int l1)] [] M (f_X12_laysSums_144 k_42 l1 M) := by
  rw [f_X12_laysSums_144]
  refine kr_iinc (j := 1) (v := (l1 + (-1 : Int32))) (lv' := [(1, .int (l1 + (-1 : Int32))), (0, kr_r E 346)]) dX12_laysSums_144 rfl rfl (by decide) rfl ?_
  refine kr_goto (tgt := 42) dX12_laysSums_147 (by decide) ?_
  refine kr_sub [1, 0] rfl ?_
  exact hk_42 (l1 + (-1 : Int32)) M
theorem r_X12_laysSums_138 (E : kr_E) (k_48 : Int32 → kr_M → Option kr_M) (l1 : Int32) (l2 : Int32) (hk_48 : ∀ (x2 : Int32) (M : kr_M), kR kr_vv E Y_X12_laysSums 2 48 [(0, kr_r E 346), (1, .int l1), (2, .int x2)] [] M (k_48 x2 M)) (M : kr_M) : kR kr_vv E Y_X12_laysSums 2 138 [(0, kr_r E 346), (1, .int l1), (2, .int l2)] [] M (f_X12_laysSums_138 k_48 l2 M) := by
  rw [f_X12_laysSums_138]
  refine kr_iinc (j := 2) (v := (l2 + (1 : Int32))) (lv' := [(2, .int (l2 + (1 : Int32))), (0, kr_r E 346), (1, .int l1)]) dX12_laysSums_138 rfl rfl (by decide) rfl ?_
  refine kr_goto (tgt := 48) dX12_laysSums_141 (by decide) ?_
  refine kr_sub [1, 2, 0] rfl ?_
  exact hk_48 (l2 + (1 : Int32)) M
theorem r_X12_laysSums_132 (E : kr_E) (k_91 : Int32 → kr_M → Option kr_M) (l1 : Int32) (l2 : Int32) (l3 : Int32) (l4 : Int32) (hk_91 : ∀ (x4 : Int32) (M : kr_M), kR kr_vv E Y_X12_laysSums 2 91 [(0, kr_r E 346), (1, .int l1), (2, .int l2), (3, .int l3), (4, .int x4)] [] M (k_91 x4 M)) (M : kr_M) : kR kr_vv E Y_X12_laysSums 2 132 [(0, kr_r E 346), (1, .int l1), (2, .int l2), (3, .int l3), (4, .int l4)] [] M (f_X12_laysSums_132 k_91 l4 M) := by
  rw [f_X12_laysSums_132]
  refine kr_iinc (j := 4) (v := (l4 + (1 : Int32))) (lv' := [(4, .int (l4 + (1 : Int32))), (0, kr_r E 346), (1, .int l1), (2, .int l2), (3, .int l3)]) dX12_laysSums_132 rfl rfl (by decide) rfl ?_
  refine kr_goto (tgt := 91) dX12_laysSums_135 (by decide) ?_
  refine kr_sub [1, 2, 3, 4, 0] rfl ?_
  exact hk_91 (l4 + (1 : Int32)) M
theorem r_X12_laysSums_91 (E : kr_E) (k_48 : Int32 → kr_M → Option kr_M) (l1 : Int32) (l2 : Int32) (l3 : Int32) (hk_48 : ∀ (x2 : Int32) (M : kr_M), kR kr_vv E Y_X12_laysSums 2 48 [(0, kr_r E 346), (1, .int l1), (2, .int x2)] [] M (k_48 x2 M)) : ∀ (n : Nat) (l4 : Int32) (M : kr_M), kR kr_vv E Y_X12_laysSums 2 91 [(0, kr_r E 346), (1, .int l1), (2, .int l2), (3, .int l3), (4, .int l4)] [] M (f_X12_laysSums_91 k_48 l1 l2 l3 n l4 M) := by
  intro n
  induction n with
  | zero => intro l4 M; exact kr_none
  | succ n ih =>
    intro l4 M
    rw [f_X12_laysSums_91]
    refine kr_iload dX12_laysSums_91 4 rfl ?_
    refine kr_sipush (v := 2401) dX12_laysSums_93 (by decide) ?_
    refine kr_icmp_ge (tgt := 138) dX12_laysSums_96 (by decide) ?_ ?_
    · refine kr_sub [0, 1, 2] rfl ?_
      exact r_X12_laysSums_138 E _ l1 l2 hk_48 M
    · refine kr_aload_n dX12_laysSums_99 rfl 0 rfl ?_
      refine kr_getA (o := 26) (ci := 12) (j := 38) dX12_laysSums_100 kr_at_346 fl_RX12_93 rfl ?_
      refine kr_iload_n dX12_laysSums_103 rfl 3 rfl ?_
      refine kr_iload dX12_laysSums_104 4 rfl ?_
      refine kr_iadd dX12_laysSums_106 ?_
      refine kr_aload_n dX12_laysSums_107 rfl 0 rfl ?_
      refine kr_getA (o := 11) (ci := 12) (j := 21) dX12_laysSums_108 kr_at_346 fl_RX12_46 rfl ?_
      refine kr_iload_n dX12_laysSums_111 rfl 2 rfl ?_
      refine kr_iald dX12_laysSums_112 kr_at_357 (fun v1 => ?_)
      refine kr_isub dX12_laysSums_113 ?_
      refine kr_zald dX12_laysSums_114 kr_at_372 (fun v2 => ?_)
      refine kr_if_eq (tgt := 132) dX12_laysSums_115 (by decide) ?_ ?_
      · refine kr_sub [0, 1, 2, 3, 4] rfl ?_
        exact r_X12_laysSums_132 E _ l1 l2 l3 l4 ih M
      · refine kr_aload_n dX12_laysSums_118 rfl 0 rfl ?_
        refine kr_getA (o := 26) (ci := 12) (j := 38) dX12_laysSums_119 kr_at_346 fl_RX12_93 rfl ?_
        refine kr_sipush (v := 2401) dX12_laysSums_122 (by decide) ?_
        refine kr_iload_n dX12_laysSums_125 rfl 1 rfl ?_
        refine kr_imul dX12_laysSums_126 ?_
        refine kr_iload dX12_laysSums_127 4 rfl ?_
        refine kr_iadd dX12_laysSums_129 ?_
        refine kr_iconst (v := 1) dX12_laysSums_130 (by decide) ?_
        refine kr_zast dX12_laysSums_131 kr_at_372 (fun M3 => ?_)
        refine kr_sub [0, 1, 2, 3, 4] rfl ?_
        exact r_X12_laysSums_132 E _ l1 l2 l3 l4 ih M3
theorem r_X12_laysSums_48 (E : kr_E) (k_42 : Int32 → kr_M → Option kr_M) (l1 : Int32) (hk_42 : ∀ (x1 : Int32) (M : kr_M), kR kr_vv E Y_X12_laysSums 2 42 [(0, kr_r E 346), (1, .int x1)] [] M (k_42 x1 M)) : ∀ (n : Nat) (l2 : Int32) (M : kr_M), kR kr_vv E Y_X12_laysSums 2 48 [(0, kr_r E 346), (1, .int l1), (2, .int l2)] [] M (f_X12_laysSums_48 k_42 l1 n l2 M) := by
  intro n
  induction n with
  | zero => intro l2 M; exact kr_none
  | succ n ih =>
    intro l2 M
    rw [f_X12_laysSums_48]
    refine kr_iload_n dX12_laysSums_48 rfl 2 rfl ?_
    refine kr_aload_n dX12_laysSums_49 rfl 0 rfl ?_
    refine kr_getA (o := 7) (ci := 12) (j := 17) dX12_laysSums_50 kr_at_346 fl_RX12_34 rfl ?_
    refine kr_iconst (v := 4) dX12_laysSums_53 (by decide) ?_
    refine kr_iald dX12_laysSums_54 kr_at_353 (fun v1 => ?_)
    refine kr_icmp_ge (tgt := 144) dX12_laysSums_55 (by decide) ?_ ?_
    · refine kr_sub [0, 1] rfl ?_
      exact r_X12_laysSums_144 E _ l1 hk_42 M
    · refine kr_aload_n dX12_laysSums_58 rfl 0 rfl ?_
      refine kr_iload_n dX12_laysSums_59 rfl 2 rfl ?_
      refine kr_iload_n dX12_laysSums_60 rfl 1 rfl ?_
      refine kr_Vi (As := [.int l2, .int l1]) (st := []) zv_X12_isHere dX12_laysSums_61 ml_RX12_355 kr_at_346 (r_X12_isHere E l2 l1 M) rfl rfl (Nat.le_of_ble_eq_true rfl) rfl (by decide) (Nat.le_of_ble_eq_true rfl) (fun r3 M2 => ?_)
      refine kr_if_ne (tgt := 70) dX12_laysSums_64 (by decide) ?_ ?_
      · refine kr_sipush (v := 2401) dX12_laysSums_70 (by decide) ?_
        refine kr_iload_n dX12_laysSums_73 rfl 1 rfl ?_
        refine kr_aload_n dX12_laysSums_74 rfl 0 rfl ?_
        refine kr_getA (o := 10) (ci := 12) (j := 20) dX12_laysSums_75 kr_at_346 fl_RX12_43 rfl ?_
        refine kr_iload_n dX12_laysSums_78 rfl 2 rfl ?_
        refine kr_iald dX12_laysSums_79 kr_at_356 (fun v4 => ?_)
        refine kr_iadd dX12_laysSums_80 ?_
        refine kr_imul dX12_laysSums_81 ?_
        refine kr_nmi (fun v5 => ?_)
        refine kr_istore_n (lv' := [(3, .int v5), (0, kr_r E 346), (1, .int l1), (2, .int l2)]) dX12_laysSums_82 rfl (by decide) rfl ?_
        refine kr_aload_n dX12_laysSums_83 rfl 1 rfl ?_
        refine kr_getA (o := 11) (ci := 12) (j := 21) dX12_laysSums_84 kr_at_346 fl_RX12_46 rfl ?_
        refine kr_iload_n dX12_laysSums_87 rfl 3 rfl ?_
        refine kr_iald dX12_laysSums_88 kr_at_357 (fun v6 => ?_)
        refine kr_istore (lv' := [(4, .int v6), (3, .int v5), (0, kr_r E 346), (1, .int l1), (2, .int l2)]) dX12_laysSums_89 (by decide) rfl ?_
        refine kr_sub [2, 3, 4, 1, 0] rfl ?_
        exact r_X12_laysSums_91 E _ l1 l2 v5 ih _ v6 M2
      · refine kr_goto (tgt := 138) dX12_laysSums_67 (by decide) ?_
        refine kr_sub [0, 1, 2] rfl ?_
        exact r_X12_laysSums_138 E _ l1 l2 ih M2
theorem r_X12_laysSums_42 (E : kr_E)    : ∀ (n : Nat) (l1 : Int32) (M : kr_M), kR kr_vv E Y_X12_laysSums 2 42 [(0, kr_r E 346), (1, .int l1)] [] M (f_X12_laysSums_42 n l1 M) := by
  intro n
  induction n with
  | zero => intro l1 M; exact kr_none
  | succ n ih =>
    intro l1 M
    rw [f_X12_laysSums_42]
    refine kr_iload_n dX12_laysSums_42 rfl 1 rfl ?_
    refine kr_if_lt (tgt := 150) dX12_laysSums_43 (by decide) ?_ ?_
    · exact kr_vret dX12_laysSums_150 rfl
    · refine kr_iconst (v := 0) dX12_laysSums_46 (by decide) ?_
      refine kr_istore_n (lv' := [(2, .int (0 : Int32)), (0, kr_r E 346), (1, .int l1)]) dX12_laysSums_47 rfl (by decide) rfl ?_
      refine kr_sub [1, 2, 0] rfl ?_
      exact r_X12_laysSums_48 E _ l1 ih _ (0 : Int32) M
theorem r_X12_laysSums_21 (E : kr_E)    (M : kr_M) : kR kr_vv E Y_X12_laysSums 2 21 [(0, kr_r E 346)] [] M (f_X12_laysSums_21 M) := by
  rw [f_X12_laysSums_21]
  refine kr_aload_n dX12_laysSums_21 rfl 0 rfl ?_
  refine kr_getA (o := 26) (ci := 12) (j := 38) dX12_laysSums_22 kr_at_346 fl_RX12_93 rfl ?_
  refine kr_sipush (v := 2401) dX12_laysSums_25 (by decide) ?_
  refine kr_aload_n dX12_laysSums_28 rfl 0 rfl ?_
  refine kr_getI (ci := 12) (j := 34) dX12_laysSums_29 kr_at_346 fl_RX12_351 rfl (fun v1 => ?_)
  refine kr_imul dX12_laysSums_32 ?_
  refine kr_iconst (v := 1) dX12_laysSums_33 (by decide) ?_
  refine kr_zast dX12_laysSums_34 kr_at_372 (fun M2 => ?_)
  refine kr_aload_n dX12_laysSums_35 rfl 0 rfl ?_
  refine kr_getI (ci := 12) (j := 34) dX12_laysSums_36 kr_at_346 fl_RX12_351 rfl (fun v3 => ?_)
  refine kr_iconst (v := 1) dX12_laysSums_39 (by decide) ?_
  refine kr_isub dX12_laysSums_40 ?_
  refine kr_nmi (fun v4 => ?_)
  refine kr_istore_n (lv' := [(1, .int v4), (0, kr_r E 346)]) dX12_laysSums_41 rfl (by decide) rfl ?_
  refine kr_sub [1, 0] rfl ?_
  exact r_X12_laysSums_42 E _ v4 M2
theorem r_X12_laysSums_2 (E : kr_E)    : ∀ (n : Nat) (l1 : Int32) (M : kr_M), kR kr_vv E Y_X12_laysSums 2 2 [(0, kr_r E 346), (1, .int l1)] [] M (f_X12_laysSums_2 n l1 M) := by
  intro n
  induction n with
  | zero => intro l1 M; exact kr_none
  | succ n ih =>
    intro l1 M
    rw [f_X12_laysSums_2]
    refine kr_iload_n dX12_laysSums_2 rfl 1 rfl ?_
    refine kr_ldc dX12_laysSums_3 kc_RX12_92 ?_
    refine kr_icmp_ge (tgt := 21) dX12_laysSums_5 (by decide) ?_ ?_
    · refine kr_sub [0] rfl ?_
      exact r_X12_laysSums_21 E M
    · refine kr_aload_n dX12_laysSums_8 rfl 0 rfl ?_
      refine kr_getA (o := 26) (ci := 12) (j := 38) dX12_laysSums_9 kr_at_346 fl_RX12_93 rfl ?_
      refine kr_iload_n dX12_laysSums_12 rfl 1 rfl ?_
      refine kr_iconst (v := 0) dX12_laysSums_13 (by decide) ?_
      refine kr_zast dX12_laysSums_14 kr_at_372 (fun M1 => ?_)
      refine kr_iinc (j := 1) (v := (l1 + (1 : Int32))) (lv' := [(1, .int (l1 + (1 : Int32))), (0, kr_r E 346)]) dX12_laysSums_15 rfl rfl (by decide) rfl ?_
      refine kr_goto (tgt := 2) dX12_laysSums_18 (by decide) ?_
      refine kr_sub [1, 0] rfl ?_
      exact ih (l1 + (1 : Int32)) M1
theorem r_X12_laysSums (E : kr_E)  (M : kr_M) : kR kr_vv E Y_X12_laysSums 2 0 [(0, kr_r E 346)] [] M (f_X12_laysSums M) := by
  rw [f_X12_laysSums]
  refine kr_iconst (v := 0) dX12_laysSums_0 (by decide) ?_
  refine kr_istore_n (lv' := [(1, .int (0 : Int32)), (0, kr_r E 346)]) dX12_laysSums_1 rfl (by decide) rfl ?_
  refine kr_sub [1, 0] rfl ?_
  exact r_X12_laysSums_2 E _ (0 : Int32) M
theorem dX12_hasSum_0 : decode cX12_hasSum 0 = .ok (.aload_n 0, 1) := by decide +kernel
theorem dX12_hasSum_1 : decode cX12_hasSum 1 = .ok (.iload_n 1, 1) := by decide +kernel
theorem dX12_hasSum_2 : decode cX12_hasSum 2 = .ok (.iload_n 2, 1) := by decide +kernel
theorem dX12_hasSum_3 : decode cX12_hasSum 3 = .ok (.invokevirtual 358, 3) := by decide +kernel
theorem dX12_hasSum_6 : decode cX12_hasSum 6 = .ok (.aload_n 0, 1) := by decide +kernel
theorem dX12_hasSum_7 : decode cX12_hasSum 7 = .ok (.invokevirtual 370, 3) := by decide +kernel
theorem dX12_hasSum_10 : decode cX12_hasSum 10 = .ok (.aload_n 0, 1) := by decide +kernel
theorem dX12_hasSum_11 : decode cX12_hasSum 11 = .ok (.getfield 93, 3) := by decide +kernel
theorem dX12_hasSum_14 : decode cX12_hasSum 14 = .ok (.iload_n 3, 1) := by decide +kernel
theorem dX12_hasSum_15 : decode cX12_hasSum 15 = .ok (.baload, 1) := by decide +kernel
theorem dX12_hasSum_16 : decode cX12_hasSum 16 = .ok (.ireturn, 1) := by decide +kernel
theorem r_X12_hasSum (E : kr_E) (p1 : Int32) (p2 : Int32) (p3 : Int32) (M : kr_M) : kR kr_vi E Y_X12_hasSum 3 0 [(0, kr_r E 346), (1, .int p1), (2, .int p2), (3, .int p3)] [] M (f_X12_hasSum p1 p2 p3 M) := by
  rw [f_X12_hasSum]
  refine kr_aload_n dX12_hasSum_0 rfl 0 rfl ?_
  refine kr_iload_n dX12_hasSum_1 rfl 1 rfl ?_
  refine kr_iload_n dX12_hasSum_2 rfl 2 rfl ?_
  refine kr_Vv (As := [.int p1, .int p2]) (st := []) zv_X12_lies dX12_hasSum_3 ml_RX12_358 kr_at_346 (r_X12_lies E p1 p2 M) rfl rfl (Nat.le_of_ble_eq_true rfl) rfl (by decide) (Nat.le_of_ble_eq_true rfl) (fun M1 => ?_)
  refine kr_aload_n dX12_hasSum_6 rfl 0 rfl ?_
  refine kr_Vv (As := []) (st := []) zv_X12_laysSums dX12_hasSum_7 ml_RX12_370 kr_at_346 (r_X12_laysSums E  M1) rfl rfl (Nat.le_of_ble_eq_true rfl) rfl (by decide) (Nat.le_of_ble_eq_true rfl) (fun M3 => ?_)
  refine kr_aload_n dX12_hasSum_10 rfl 0 rfl ?_
  refine kr_getA (o := 26) (ci := 12) (j := 38) dX12_hasSum_11 kr_at_346 fl_RX12_93 rfl ?_
  refine kr_iload_n dX12_hasSum_14 rfl 3 rfl ?_
  refine kr_zald dX12_hasSum_15 kr_at_372 (fun v5 => ?_)
  exact kr_zret dX12_hasSum_16 rfl
theorem dX12_has_0 : decode cX12_has 0 = .ok (.aload_n 0, 1) := by decide +kernel
theorem dX12_has_1 : decode cX12_has 1 = .ok (.iconst 0, 1) := by decide +kernel
theorem dX12_has_2 : decode cX12_has 2 = .ok (.putfield 138, 3) := by decide +kernel
theorem dX12_has_5 : decode cX12_has 5 = .ok (.aload_n 0, 1) := by decide +kernel
theorem dX12_has_6 : decode cX12_has 6 = .ok (.iload_n 1, 1) := by decide +kernel
theorem dX12_has_7 : decode cX12_has 7 = .ok (.iload_n 2, 1) := by decide +kernel
theorem dX12_has_8 : decode cX12_has 8 = .ok (.invokevirtual 364, 3) := by decide +kernel
theorem dX12_has_11 : decode cX12_has 11 = .ok (.ifCond .eq 15, 3) := by decide +kernel
theorem dX12_has_14 : decode cX12_has 14 = .ok (.iload_n 3, 1) := by decide +kernel
theorem dX12_has_15 : decode cX12_has 15 = .ok (.i2l, 1) := by decide +kernel
theorem dX12_has_16 : decode cX12_has 16 = .ok (.lconst 0, 1) := by decide +kernel
theorem dX12_has_17 : decode cX12_has 17 = .ok (.ldc2_w 373, 3) := by decide +kernel
theorem dX12_has_20 : decode cX12_has 20 = .ok (.invokestatic 143, 3) := by decide +kernel
theorem dX12_has_23 : decode cX12_has 23 = .ok (.ifCond .ne 6, 3) := by decide +kernel
theorem dX12_has_26 : decode cX12_has 26 = .ok (.bipush (-2), 2) := by decide +kernel
theorem dX12_has_28 : decode cX12_has 28 = .ok (.ireturn, 1) := by decide +kernel
theorem dX12_has_29 : decode cX12_has 29 = .ok (.aload_n 0, 1) := by decide +kernel
theorem dX12_has_30 : decode cX12_has 30 = .ok (.invokevirtual 337, 3) := by decide +kernel
theorem dX12_has_33 : decode cX12_has 33 = .ok (.aload_n 0, 1) := by decide +kernel
theorem dX12_has_34 : decode cX12_has 34 = .ok (.iload_n 1, 1) := by decide +kernel
theorem dX12_has_35 : decode cX12_has 35 = .ok (.iload_n 2, 1) := by decide +kernel
theorem dX12_has_36 : decode cX12_has 36 = .ok (.iload_n 3, 1) := by decide +kernel
theorem dX12_has_37 : decode cX12_has 37 = .ok (.invokevirtual 375, 3) := by decide +kernel
theorem dX12_has_40 : decode cX12_has 40 = .ok (.ifCond .eq 7, 3) := by decide +kernel
theorem dX12_has_43 : decode cX12_has 43 = .ok (.iconst 1, 1) := by decide +kernel
theorem dX12_has_44 : decode cX12_has 44 = .ok (.goto 4, 3) := by decide +kernel
theorem dX12_has_47 : decode cX12_has 47 = .ok (.iconst 0, 1) := by decide +kernel
theorem dX12_has_48 : decode cX12_has 48 = .ok (.ireturn, 1) := by decide +kernel
theorem r_X12_has (E : kr_E) (p1 : Int32) (p2 : Int32) (p3 : Int32) (M : kr_M) : kR kr_vi E Y_X12_has 4 0 [(0, kr_r E 346), (1, .int p1), (2, .int p2), (3, .int p3)] [] M (f_X12_has p1 p2 p3 M) := by
  rw [f_X12_has]
  refine kr_aload_n dX12_has_0 rfl 0 rfl ?_
  refine kr_iconst (v := 0) dX12_has_1 (by decide) ?_
  refine kr_putI (ci := 12) (j := 0) dX12_has_2 kr_at_346 fl_RX12_138 rfl rfl (fun M1 => ?_)
  refine kr_aload_n dX12_has_5 rfl 0 rfl ?_
  refine kr_iload_n dX12_has_6 rfl 1 rfl ?_
  refine kr_iload_n dX12_has_7 rfl 2 rfl ?_
  refine kr_Vi (As := [.int p1, .int p2]) (st := []) zv_X12_isReading dX12_has_8 ml_RX12_364 kr_at_346 (r_X12_isReading E p1 p2 M1) rfl rfl (Nat.le_of_ble_eq_true rfl) rfl (by decide) (Nat.le_of_ble_eq_true rfl) (fun r3 M2 => ?_)
  refine kr_if_eq (tgt := 26) dX12_has_11 (by decide) ?_ ?_
  · refine kr_bipush (v := -2) dX12_has_26 (by decide) ?_
    exact kr_iret dX12_has_28 rfl
  · refine kr_iload_n dX12_has_14 rfl 3 rfl ?_
    refine kr_i2l dX12_has_15 ?_
    refine kr_lconst (v := 0) dX12_has_16 (by decide) ?_
    refine kr_ldc2 dX12_has_17 kl_RX12_373 ?_
    refine kr_Si (As := [.long (p3.toInt64), .long (0 : Int64), .long (2400 : Int64)]) (st := []) zs_X12_in dX12_has_20 ml_RX12_143 (r_X12_in E (p3.toInt64) (0 : Int64) (2400 : Int64) M2) rfl rfl (Nat.le_of_ble_eq_true rfl) rfl (by decide) (Nat.le_of_ble_eq_true rfl) (fun r5 M4 => ?_)
    refine kr_if_ne (tgt := 29) dX12_has_23 (by decide) ?_ ?_
    · refine kr_aload_n dX12_has_29 rfl 0 rfl ?_
      refine kr_Vv (As := []) (st := []) zv_X12_lays dX12_has_30 ml_RX12_337 kr_at_346 (r_X12_lays E  M4) rfl rfl (Nat.le_of_ble_eq_true rfl) rfl (by decide) (Nat.le_of_ble_eq_true rfl) (fun M6 => ?_)
      refine kr_aload_n dX12_has_33 rfl 0 rfl ?_
      refine kr_iload_n dX12_has_34 rfl 1 rfl ?_
      refine kr_iload_n dX12_has_35 rfl 2 rfl ?_
      refine kr_iload_n dX12_has_36 rfl 3 rfl ?_
      refine kr_Vi (As := [.int p1, .int p2, .int p3]) (st := []) zv_X12_hasSum dX12_has_37 ml_RX12_375 kr_at_346 (r_X12_hasSum E p1 p2 p3 M6) rfl rfl (Nat.le_of_ble_eq_true rfl) rfl (by decide) (Nat.le_of_ble_eq_true rfl) (fun r9 M8 => ?_)
      refine kr_if_eq (tgt := 47) dX12_has_40 (by decide) ?_ ?_
      · refine kr_iconst (v := 0) dX12_has_47 (by decide) ?_
        exact kr_iret dX12_has_48 rfl
      · refine kr_iconst (v := 1) dX12_has_43 (by decide) ?_
        refine kr_goto (tgt := 48) dX12_has_44 (by decide) ?_
        exact kr_iret dX12_has_48 rfl
    · refine kr_bipush (v := -2) dX12_has_26 (by decide) ?_
      exact kr_iret dX12_has_28 rfl
theorem dX12_costOf_0 : decode cX12_costOf 0 = .ok (.aload_n 0, 1) := by decide +kernel
theorem dX12_costOf_1 : decode cX12_costOf 1 = .ok (.getfield 43, 3) := by decide +kernel
theorem dX12_costOf_4 : decode cX12_costOf 4 = .ok (.iload_n 1, 1) := by decide +kernel
theorem dX12_costOf_5 : decode cX12_costOf 5 = .ok (.iaload, 1) := by decide +kernel
theorem dX12_costOf_6 : decode cX12_costOf 6 = .ok (.istore_n 3, 1) := by decide +kernel
theorem dX12_costOf_7 : decode cX12_costOf 7 = .ok (.iconst 0, 1) := by decide +kernel
theorem dX12_costOf_8 : decode cX12_costOf 8 = .ok (.istore 4, 2) := by decide +kernel
theorem dX12_costOf_10 : decode cX12_costOf 10 = .ok (.iload 4, 2) := by decide +kernel
theorem dX12_costOf_12 : decode cX12_costOf 12 = .ok (.aload_n 0, 1) := by decide +kernel
theorem dX12_costOf_13 : decode cX12_costOf 13 = .ok (.getfield 43, 3) := by decide +kernel
theorem dX12_costOf_16 : decode cX12_costOf 16 = .ok (.iload_n 1, 1) := by decide +kernel
theorem dX12_costOf_17 : decode cX12_costOf 17 = .ok (.iaload, 1) := by decide +kernel
theorem dX12_costOf_18 : decode cX12_costOf 18 = .ok (.if_icmp .ge 47, 3) := by decide +kernel
theorem dX12_costOf_21 : decode cX12_costOf 21 = .ok (.aload_n 0, 1) := by decide +kernel
theorem dX12_costOf_22 : decode cX12_costOf 22 = .ok (.getfield 49, 3) := by decide +kernel
theorem dX12_costOf_25 : decode cX12_costOf 25 = .ok (.iconst 4, 1) := by decide +kernel
theorem dX12_costOf_26 : decode cX12_costOf 26 = .ok (.iload_n 1, 1) := by decide +kernel
theorem dX12_costOf_27 : decode cX12_costOf 27 = .ok (.imul, 1) := by decide +kernel
theorem dX12_costOf_28 : decode cX12_costOf 28 = .ok (.iload 4, 2) := by decide +kernel
theorem dX12_costOf_30 : decode cX12_costOf 30 = .ok (.iadd, 1) := by decide +kernel
theorem dX12_costOf_31 : decode cX12_costOf 31 = .ok (.iaload, 1) := by decide +kernel
theorem dX12_costOf_32 : decode cX12_costOf 32 = .ok (.istore 5, 2) := by decide +kernel
theorem dX12_costOf_34 : decode cX12_costOf 34 = .ok (.aload_n 0, 1) := by decide +kernel
theorem dX12_costOf_35 : decode cX12_costOf 35 = .ok (.getfield 40, 3) := by decide +kernel
theorem dX12_costOf_38 : decode cX12_costOf 38 = .ok (.iload 5, 2) := by decide +kernel
theorem dX12_costOf_40 : decode cX12_costOf 40 = .ok (.iaload, 1) := by decide +kernel
theorem dX12_costOf_41 : decode cX12_costOf 41 = .ok (.iload_n 2, 1) := by decide +kernel
theorem dX12_costOf_42 : decode cX12_costOf 42 = .ok (.if_icmp .le 7, 3) := by decide +kernel
theorem dX12_costOf_45 : decode cX12_costOf 45 = .ok (.ldc_w 354, 3) := by decide +kernel
theorem dX12_costOf_48 : decode cX12_costOf 48 = .ok (.ireturn, 1) := by decide +kernel
theorem dX12_costOf_49 : decode cX12_costOf 49 = .ok (.iload_n 3, 1) := by decide +kernel
theorem dX12_costOf_50 : decode cX12_costOf 50 = .ok (.aload_n 0, 1) := by decide +kernel
theorem dX12_costOf_51 : decode cX12_costOf 51 = .ok (.getfield 37, 3) := by decide +kernel
theorem dX12_costOf_54 : decode cX12_costOf 54 = .ok (.iload 5, 2) := by decide +kernel
theorem dX12_costOf_56 : decode cX12_costOf 56 = .ok (.iaload, 1) := by decide +kernel
theorem dX12_costOf_57 : decode cX12_costOf 57 = .ok (.iadd, 1) := by decide +kernel
theorem dX12_costOf_58 : decode cX12_costOf 58 = .ok (.istore_n 3, 1) := by decide +kernel
theorem dX12_costOf_59 : decode cX12_costOf 59 = .ok (.iinc 4 1, 3) := by decide +kernel
theorem dX12_costOf_62 : decode cX12_costOf 62 = .ok (.goto (-52), 3) := by decide +kernel
theorem dX12_costOf_65 : decode cX12_costOf 65 = .ok (.iload_n 3, 1) := by decide +kernel
theorem dX12_costOf_66 : decode cX12_costOf 66 = .ok (.ireturn, 1) := by decide +kernel
theorem r_X12_costOf_10 (E : kr_E)  (l1 : Int32) (l2 : Int32)  : ∀ (n : Nat) (l3 : Int32) (l4 : Int32) (M : kr_M), kR kr_vi E Y_X12_costOf 1 10 [(0, kr_r E 346), (1, .int l1), (2, .int l2), (3, .int l3), (4, .int l4)] [] M (f_X12_costOf_10 l1 l2 n l3 l4 M) := by
  intro n
  induction n with
  | zero => intro l3 l4 M; exact kr_none
  | succ n ih =>
    intro l3 l4 M
    rw [f_X12_costOf_10]
    refine kr_iload dX12_costOf_10 4 rfl ?_
    refine kr_aload_n dX12_costOf_12 rfl 0 rfl ?_
    refine kr_getA (o := 10) (ci := 12) (j := 20) dX12_costOf_13 kr_at_346 fl_RX12_43 rfl ?_
    refine kr_iload_n dX12_costOf_16 rfl 1 rfl ?_
    refine kr_iald dX12_costOf_17 kr_at_356 (fun v1 => ?_)
    refine kr_icmp_ge (tgt := 65) dX12_costOf_18 (by decide) ?_ ?_
    · refine kr_iload_n dX12_costOf_65 rfl 3 rfl ?_
      exact kr_iret dX12_costOf_66 rfl
    · refine kr_aload_n dX12_costOf_21 rfl 0 rfl ?_
      refine kr_getA (o := 12) (ci := 12) (j := 22) dX12_costOf_22 kr_at_346 fl_RX12_49 rfl ?_
      refine kr_iconst (v := 4) dX12_costOf_25 (by decide) ?_
      refine kr_iload_n dX12_costOf_26 rfl 1 rfl ?_
      refine kr_imul dX12_costOf_27 ?_
      refine kr_iload dX12_costOf_28 4 rfl ?_
      refine kr_iadd dX12_costOf_30 ?_
      refine kr_iald dX12_costOf_31 kr_at_358 (fun v2 => ?_)
      refine kr_istore (lv' := [(5, .int v2), (0, kr_r E 346), (1, .int l1), (2, .int l2), (3, .int l3), (4, .int l4)]) dX12_costOf_32 (by decide) rfl ?_
      refine kr_aload_n dX12_costOf_34 rfl 1 rfl ?_
      refine kr_getA (o := 9) (ci := 12) (j := 19) dX12_costOf_35 kr_at_346 fl_RX12_40 rfl ?_
      refine kr_iload dX12_costOf_38 0 rfl ?_
      refine kr_iald dX12_costOf_40 kr_at_355 (fun v3 => ?_)
      refine kr_iload_n dX12_costOf_41 rfl 3 rfl ?_
      refine kr_icmp_le (tgt := 49) dX12_costOf_42 (by decide) ?_ ?_
      · refine kr_iload_n dX12_costOf_49 rfl 4 rfl ?_
        refine kr_aload_n dX12_costOf_50 rfl 1 rfl ?_
        refine kr_getA (o := 8) (ci := 12) (j := 18) dX12_costOf_51 kr_at_346 fl_RX12_37 rfl ?_
        refine kr_iload dX12_costOf_54 0 rfl ?_
        refine kr_iald dX12_costOf_56 kr_at_354 (fun v4 => ?_)
        refine kr_iadd dX12_costOf_57 ?_
        refine kr_nmi (fun v5 => ?_)
        refine kr_istore_n (lv' := [(3, .int v5), (5, .int v2), (0, kr_r E 346), (1, .int l1), (2, .int l2), (4, .int l4)]) dX12_costOf_58 rfl (by decide) rfl ?_
        refine kr_iinc (j := 5) (v := (l4 + (1 : Int32))) (lv' := [(4, .int (l4 + (1 : Int32))), (3, .int v5), (5, .int v2), (0, kr_r E 346), (1, .int l1), (2, .int l2)]) dX12_costOf_59 rfl rfl (by decide) rfl ?_
        refine kr_goto (tgt := 10) dX12_costOf_62 (by decide) ?_
        refine kr_sub [3, 4, 5, 1, 0] rfl ?_
        exact ih v5 (l4 + (1 : Int32)) M
      · refine kr_ldcw dX12_costOf_45 kc_RX12_354 ?_
        exact kr_iret dX12_costOf_48 rfl
theorem r_X12_costOf (E : kr_E) (p1 : Int32) (p2 : Int32) (M : kr_M) : kR kr_vi E Y_X12_costOf 1 0 [(0, kr_r E 346), (1, .int p1), (2, .int p2)] [] M (f_X12_costOf p1 p2 M) := by
  rw [f_X12_costOf]
  refine kr_aload_n dX12_costOf_0 rfl 0 rfl ?_
  refine kr_getA (o := 10) (ci := 12) (j := 20) dX12_costOf_1 kr_at_346 fl_RX12_43 rfl ?_
  refine kr_iload_n dX12_costOf_4 rfl 1 rfl ?_
  refine kr_iald dX12_costOf_5 kr_at_356 (fun v1 => ?_)
  refine kr_istore_n (lv' := [(3, .int v1), (0, kr_r E 346), (1, .int p1), (2, .int p2)]) dX12_costOf_6 rfl (by decide) rfl ?_
  refine kr_iconst (v := 0) dX12_costOf_7 (by decide) ?_
  refine kr_istore (lv' := [(4, .int (0 : Int32)), (3, .int v1), (0, kr_r E 346), (1, .int p1), (2, .int p2)]) dX12_costOf_8 (by decide) rfl ?_
  refine kr_sub [2, 3, 4, 1, 0] rfl ?_
  exact r_X12_costOf_10 E p1 p2 _ v1 (0 : Int32) M
theorem dX12_laysCosts_0 : decode cX12_laysCosts 0 = .ok (.aload_n 0, 1) := by decide +kernel
theorem dX12_laysCosts_1 : decode cX12_laysCosts 1 = .ok (.getfield 96, 3) := by decide +kernel
theorem dX12_laysCosts_4 : decode cX12_laysCosts 4 = .ok (.iconst 0, 1) := by decide +kernel
theorem dX12_laysCosts_5 : decode cX12_laysCosts 5 = .ok (.iconst 0, 1) := by decide +kernel
theorem dX12_laysCosts_6 : decode cX12_laysCosts 6 = .ok (.iastore, 1) := by decide +kernel
theorem dX12_laysCosts_7 : decode cX12_laysCosts 7 = .ok (.iconst 1, 1) := by decide +kernel
theorem dX12_laysCosts_8 : decode cX12_laysCosts 8 = .ok (.istore_n 2, 1) := by decide +kernel
theorem dX12_laysCosts_9 : decode cX12_laysCosts 9 = .ok (.iload_n 2, 1) := by decide +kernel
theorem dX12_laysCosts_10 : decode cX12_laysCosts 10 = .ok (.sipush 500, 3) := by decide +kernel
theorem dX12_laysCosts_13 : decode cX12_laysCosts 13 = .ok (.if_icmp .gt 99, 3) := by decide +kernel
theorem dX12_laysCosts_16 : decode cX12_laysCosts 16 = .ok (.aload_n 0, 1) := by decide +kernel
theorem dX12_laysCosts_17 : decode cX12_laysCosts 17 = .ok (.getfield 96, 3) := by decide +kernel
theorem dX12_laysCosts_20 : decode cX12_laysCosts 20 = .ok (.iload_n 2, 1) := by decide +kernel
theorem dX12_laysCosts_21 : decode cX12_laysCosts 21 = .ok (.ldc_w 354, 3) := by decide +kernel
theorem dX12_laysCosts_24 : decode cX12_laysCosts 24 = .ok (.iastore, 1) := by decide +kernel
theorem dX12_laysCosts_25 : decode cX12_laysCosts 25 = .ok (.iconst 0, 1) := by decide +kernel
theorem dX12_laysCosts_26 : decode cX12_laysCosts 26 = .ok (.istore_n 3, 1) := by decide +kernel
theorem dX12_laysCosts_27 : decode cX12_laysCosts 27 = .ok (.iload_n 3, 1) := by decide +kernel
theorem dX12_laysCosts_28 : decode cX12_laysCosts 28 = .ok (.aload_n 0, 1) := by decide +kernel
theorem dX12_laysCosts_29 : decode cX12_laysCosts 29 = .ok (.getfield 34, 3) := by decide +kernel
theorem dX12_laysCosts_32 : decode cX12_laysCosts 32 = .ok (.iconst 4, 1) := by decide +kernel
theorem dX12_laysCosts_33 : decode cX12_laysCosts 33 = .ok (.iaload, 1) := by decide +kernel
theorem dX12_laysCosts_34 : decode cX12_laysCosts 34 = .ok (.if_icmp .ge 72, 3) := by decide +kernel
theorem dX12_laysCosts_37 : decode cX12_laysCosts 37 = .ok (.aload_n 0, 1) := by decide +kernel
theorem dX12_laysCosts_38 : decode cX12_laysCosts 38 = .ok (.getfield 46, 3) := by decide +kernel
theorem dX12_laysCosts_41 : decode cX12_laysCosts 41 = .ok (.iload_n 3, 1) := by decide +kernel
theorem dX12_laysCosts_42 : decode cX12_laysCosts 42 = .ok (.iaload, 1) := by decide +kernel
theorem dX12_laysCosts_43 : decode cX12_laysCosts 43 = .ok (.ifCond .eq 57, 3) := by decide +kernel
theorem dX12_laysCosts_46 : decode cX12_laysCosts 46 = .ok (.aload_n 0, 1) := by decide +kernel
theorem dX12_laysCosts_47 : decode cX12_laysCosts 47 = .ok (.getfield 46, 3) := by decide +kernel
theorem dX12_laysCosts_50 : decode cX12_laysCosts 50 = .ok (.iload_n 3, 1) := by decide +kernel
theorem dX12_laysCosts_51 : decode cX12_laysCosts 51 = .ok (.iaload, 1) := by decide +kernel
theorem dX12_laysCosts_52 : decode cX12_laysCosts 52 = .ok (.iload_n 2, 1) := by decide +kernel
theorem dX12_laysCosts_53 : decode cX12_laysCosts 53 = .ok (.if_icmp .le 6, 3) := by decide +kernel
theorem dX12_laysCosts_56 : decode cX12_laysCosts 56 = .ok (.goto 44, 3) := by decide +kernel
theorem dX12_laysCosts_59 : decode cX12_laysCosts 59 = .ok (.aload_n 0, 1) := by decide +kernel
theorem dX12_laysCosts_60 : decode cX12_laysCosts 60 = .ok (.getfield 96, 3) := by decide +kernel
theorem dX12_laysCosts_63 : decode cX12_laysCosts 63 = .ok (.iload_n 2, 1) := by decide +kernel
theorem dX12_laysCosts_64 : decode cX12_laysCosts 64 = .ok (.aload_n 0, 1) := by decide +kernel
theorem dX12_laysCosts_65 : decode cX12_laysCosts 65 = .ok (.getfield 46, 3) := by decide +kernel
theorem dX12_laysCosts_68 : decode cX12_laysCosts 68 = .ok (.iload_n 3, 1) := by decide +kernel
theorem dX12_laysCosts_69 : decode cX12_laysCosts 69 = .ok (.iaload, 1) := by decide +kernel
theorem dX12_laysCosts_70 : decode cX12_laysCosts 70 = .ok (.isub, 1) := by decide +kernel
theorem dX12_laysCosts_71 : decode cX12_laysCosts 71 = .ok (.iaload, 1) := by decide +kernel
theorem dX12_laysCosts_72 : decode cX12_laysCosts 72 = .ok (.aload_n 0, 1) := by decide +kernel
theorem dX12_laysCosts_73 : decode cX12_laysCosts 73 = .ok (.iload_n 3, 1) := by decide +kernel
theorem dX12_laysCosts_74 : decode cX12_laysCosts 74 = .ok (.iload_n 1, 1) := by decide +kernel
theorem dX12_laysCosts_75 : decode cX12_laysCosts 75 = .ok (.invokevirtual 378, 3) := by decide +kernel
theorem dX12_laysCosts_78 : decode cX12_laysCosts 78 = .ok (.iadd, 1) := by decide +kernel
theorem dX12_laysCosts_79 : decode cX12_laysCosts 79 = .ok (.istore 4, 2) := by decide +kernel
theorem dX12_laysCosts_81 : decode cX12_laysCosts 81 = .ok (.iload 4, 2) := by decide +kernel
theorem dX12_laysCosts_83 : decode cX12_laysCosts 83 = .ok (.aload_n 0, 1) := by decide +kernel
theorem dX12_laysCosts_84 : decode cX12_laysCosts 84 = .ok (.getfield 96, 3) := by decide +kernel
theorem dX12_laysCosts_87 : decode cX12_laysCosts 87 = .ok (.iload_n 2, 1) := by decide +kernel
theorem dX12_laysCosts_88 : decode cX12_laysCosts 88 = .ok (.iaload, 1) := by decide +kernel
theorem dX12_laysCosts_89 : decode cX12_laysCosts 89 = .ok (.if_icmp .ge 11, 3) := by decide +kernel
theorem dX12_laysCosts_92 : decode cX12_laysCosts 92 = .ok (.aload_n 0, 1) := by decide +kernel
theorem dX12_laysCosts_93 : decode cX12_laysCosts 93 = .ok (.getfield 96, 3) := by decide +kernel
theorem dX12_laysCosts_96 : decode cX12_laysCosts 96 = .ok (.iload_n 2, 1) := by decide +kernel
theorem dX12_laysCosts_97 : decode cX12_laysCosts 97 = .ok (.iload 4, 2) := by decide +kernel
theorem dX12_laysCosts_99 : decode cX12_laysCosts 99 = .ok (.iastore, 1) := by decide +kernel
theorem dX12_laysCosts_100 : decode cX12_laysCosts 100 = .ok (.iinc 3 1, 3) := by decide +kernel
theorem dX12_laysCosts_103 : decode cX12_laysCosts 103 = .ok (.goto (-76), 3) := by decide +kernel
theorem dX12_laysCosts_106 : decode cX12_laysCosts 106 = .ok (.iinc 2 1, 3) := by decide +kernel
theorem dX12_laysCosts_109 : decode cX12_laysCosts 109 = .ok (.goto (-100), 3) := by decide +kernel
theorem dX12_laysCosts_112 : decode cX12_laysCosts 112 = .ok (.return_, 1) := by decide +kernel
theorem r_X12_laysCosts_106 (E : kr_E) (k_9 : Int32 → kr_M → Option kr_M) (l1 : Int32) (l2 : Int32) (hk_9 : ∀ (x2 : Int32) (M : kr_M), kR kr_vv E Y_X12_laysCosts 2 9 [(0, kr_r E 346), (1, .int l1), (2, .int x2)] [] M (k_9 x2 M)) (M : kr_M) : kR kr_vv E Y_X12_laysCosts 2 106 [(0, kr_r E 346), (1, .int l1), (2, .int l2)] [] M (f_X12_laysCosts_106 k_9 l2 M) := by
  rw [f_X12_laysCosts_106]
  refine kr_iinc (j := 2) (v := (l2 + (1 : Int32))) (lv' := [(2, .int (l2 + (1 : Int32))), (0, kr_r E 346), (1, .int l1)]) dX12_laysCosts_106 rfl rfl (by decide) rfl ?_
  refine kr_goto (tgt := 9) dX12_laysCosts_109 (by decide) ?_
  refine kr_sub [1, 2, 0] rfl ?_
  exact hk_9 (l2 + (1 : Int32)) M
theorem r_X12_laysCosts_100 (E : kr_E) (k_27 : Int32 → kr_M → Option kr_M) (l1 : Int32) (l2 : Int32) (l3 : Int32) (hk_27 : ∀ (x3 : Int32) (M : kr_M), kR kr_vv E Y_X12_laysCosts 2 27 [(0, kr_r E 346), (1, .int l1), (2, .int l2), (3, .int x3)] [] M (k_27 x3 M)) (M : kr_M) : kR kr_vv E Y_X12_laysCosts 2 100 [(0, kr_r E 346), (1, .int l1), (2, .int l2), (3, .int l3)] [] M (f_X12_laysCosts_100 k_27 l3 M) := by
  rw [f_X12_laysCosts_100]
  refine kr_iinc (j := 3) (v := (l3 + (1 : Int32))) (lv' := [(3, .int (l3 + (1 : Int32))), (0, kr_r E 346), (1, .int l1), (2, .int l2)]) dX12_laysCosts_100 rfl rfl (by decide) rfl ?_
  refine kr_goto (tgt := 27) dX12_laysCosts_103 (by decide) ?_
  refine kr_sub [1, 2, 3, 0] rfl ?_
  exact hk_27 (l3 + (1 : Int32)) M
theorem r_X12_laysCosts_27 (E : kr_E) (k_9 : Int32 → kr_M → Option kr_M) (l1 : Int32) (l2 : Int32) (hk_9 : ∀ (x2 : Int32) (M : kr_M), kR kr_vv E Y_X12_laysCosts 2 9 [(0, kr_r E 346), (1, .int l1), (2, .int x2)] [] M (k_9 x2 M)) : ∀ (n : Nat) (l3 : Int32) (M : kr_M), kR kr_vv E Y_X12_laysCosts 2 27 [(0, kr_r E 346), (1, .int l1), (2, .int l2), (3, .int l3)] [] M (f_X12_laysCosts_27 k_9 l1 l2 n l3 M) := by
  intro n
  induction n with
  | zero => intro l3 M; exact kr_none
  | succ n ih =>
    intro l3 M
    rw [f_X12_laysCosts_27]
    refine kr_iload_n dX12_laysCosts_27 rfl 3 rfl ?_
    refine kr_aload_n dX12_laysCosts_28 rfl 0 rfl ?_
    refine kr_getA (o := 7) (ci := 12) (j := 17) dX12_laysCosts_29 kr_at_346 fl_RX12_34 rfl ?_
    refine kr_iconst (v := 4) dX12_laysCosts_32 (by decide) ?_
    refine kr_iald dX12_laysCosts_33 kr_at_353 (fun v1 => ?_)
    refine kr_icmp_ge (tgt := 106) dX12_laysCosts_34 (by decide) ?_ ?_
    · refine kr_sub [0, 1, 2] rfl ?_
      exact r_X12_laysCosts_106 E _ l1 l2 hk_9 M
    · refine kr_aload_n dX12_laysCosts_37 rfl 0 rfl ?_
      refine kr_getA (o := 11) (ci := 12) (j := 21) dX12_laysCosts_38 kr_at_346 fl_RX12_46 rfl ?_
      refine kr_iload_n dX12_laysCosts_41 rfl 3 rfl ?_
      refine kr_iald dX12_laysCosts_42 kr_at_357 (fun v2 => ?_)
      refine kr_if_eq (tgt := 100) dX12_laysCosts_43 (by decide) ?_ ?_
      · refine kr_sub [0, 1, 2, 3] rfl ?_
        exact r_X12_laysCosts_100 E _ l1 l2 l3 ih M
      · refine kr_aload_n dX12_laysCosts_46 rfl 0 rfl ?_
        refine kr_getA (o := 11) (ci := 12) (j := 21) dX12_laysCosts_47 kr_at_346 fl_RX12_46 rfl ?_
        refine kr_iload_n dX12_laysCosts_50 rfl 3 rfl ?_
        refine kr_iald dX12_laysCosts_51 kr_at_357 (fun v3 => ?_)
        refine kr_iload_n dX12_laysCosts_52 rfl 2 rfl ?_
        refine kr_icmp_le (tgt := 59) dX12_laysCosts_53 (by decide) ?_ ?_
        · refine kr_aload_n dX12_laysCosts_59 rfl 0 rfl ?_
          refine kr_getA (o := 27) (ci := 12) (j := 39) dX12_laysCosts_60 kr_at_346 fl_RX12_96 rfl ?_
          refine kr_iload_n dX12_laysCosts_63 rfl 2 rfl ?_
          refine kr_aload_n dX12_laysCosts_64 rfl 0 rfl ?_
          refine kr_getA (o := 11) (ci := 12) (j := 21) dX12_laysCosts_65 kr_at_346 fl_RX12_46 rfl ?_
          refine kr_iload_n dX12_laysCosts_68 rfl 3 rfl ?_
          refine kr_iald dX12_laysCosts_69 kr_at_357 (fun v4 => ?_)
          refine kr_isub dX12_laysCosts_70 ?_
          refine kr_iald dX12_laysCosts_71 kr_at_373 (fun v5 => ?_)
          refine kr_aload_n dX12_laysCosts_72 rfl 0 rfl ?_
          refine kr_iload_n dX12_laysCosts_73 rfl 3 rfl ?_
          refine kr_iload_n dX12_laysCosts_74 rfl 1 rfl ?_
          refine kr_Vi (As := [.int l3, .int l1]) (st := [.int v5]) zv_X12_costOf dX12_laysCosts_75 ml_RX12_378 kr_at_346 (r_X12_costOf E l3 l1 M) rfl rfl (Nat.le_of_ble_eq_true rfl) rfl (by decide) (Nat.le_of_ble_eq_true rfl) (fun r7 M6 => ?_)
          refine kr_iadd dX12_laysCosts_78 ?_
          refine kr_nmi (fun v8 => ?_)
          refine kr_istore (lv' := [(4, .int v8), (0, kr_r E 346), (1, .int l1), (2, .int l2), (3, .int l3)]) dX12_laysCosts_79 (by decide) rfl ?_
          refine kr_iload dX12_laysCosts_81 0 rfl ?_
          refine kr_aload_n dX12_laysCosts_83 rfl 1 rfl ?_
          refine kr_getA (o := 27) (ci := 12) (j := 39) dX12_laysCosts_84 kr_at_346 fl_RX12_96 rfl ?_
          refine kr_iload_n dX12_laysCosts_87 rfl 3 rfl ?_
          refine kr_iald dX12_laysCosts_88 kr_at_373 (fun v9 => ?_)
          refine kr_icmp_ge (tgt := 100) dX12_laysCosts_89 (by decide) ?_ ?_
          · refine kr_sub [1, 2, 3, 4] rfl ?_
            exact r_X12_laysCosts_100 E _ l1 l2 l3 ih M6
          · refine kr_aload_n dX12_laysCosts_92 rfl 1 rfl ?_
            refine kr_getA (o := 27) (ci := 12) (j := 39) dX12_laysCosts_93 kr_at_346 fl_RX12_96 rfl ?_
            refine kr_iload_n dX12_laysCosts_96 rfl 3 rfl ?_
            refine kr_iload dX12_laysCosts_97 0 rfl ?_
            refine kr_iast dX12_laysCosts_99 kr_at_373 (fun M10 => ?_)
            refine kr_sub [1, 2, 3, 4] rfl ?_
            exact r_X12_laysCosts_100 E _ l1 l2 l3 ih M10
        · refine kr_goto (tgt := 100) dX12_laysCosts_56 (by decide) ?_
          refine kr_sub [0, 1, 2, 3] rfl ?_
          exact r_X12_laysCosts_100 E _ l1 l2 l3 ih M
theorem r_X12_laysCosts_9 (E : kr_E)  (l1 : Int32)  : ∀ (n : Nat) (l2 : Int32) (M : kr_M), kR kr_vv E Y_X12_laysCosts 2 9 [(0, kr_r E 346), (1, .int l1), (2, .int l2)] [] M (f_X12_laysCosts_9 l1 n l2 M) := by
  intro n
  induction n with
  | zero => intro l2 M; exact kr_none
  | succ n ih =>
    intro l2 M
    rw [f_X12_laysCosts_9]
    refine kr_iload_n dX12_laysCosts_9 rfl 2 rfl ?_
    refine kr_sipush (v := 500) dX12_laysCosts_10 (by decide) ?_
    refine kr_icmp_gt (tgt := 112) dX12_laysCosts_13 (by decide) ?_ ?_
    · exact kr_vret dX12_laysCosts_112 rfl
    · refine kr_aload_n dX12_laysCosts_16 rfl 0 rfl ?_
      refine kr_getA (o := 27) (ci := 12) (j := 39) dX12_laysCosts_17 kr_at_346 fl_RX12_96 rfl ?_
      refine kr_iload_n dX12_laysCosts_20 rfl 2 rfl ?_
      refine kr_ldcw dX12_laysCosts_21 kc_RX12_354 ?_
      refine kr_iast dX12_laysCosts_24 kr_at_373 (fun M1 => ?_)
      refine kr_iconst (v := 0) dX12_laysCosts_25 (by decide) ?_
      refine kr_istore_n (lv' := [(3, .int (0 : Int32)), (0, kr_r E 346), (1, .int l1), (2, .int l2)]) dX12_laysCosts_26 rfl (by decide) rfl ?_
      refine kr_sub [1, 2, 3, 0] rfl ?_
      exact r_X12_laysCosts_27 E _ l1 l2 ih _ (0 : Int32) M1
theorem r_X12_laysCosts (E : kr_E) (p1 : Int32) (M : kr_M) : kR kr_vv E Y_X12_laysCosts 2 0 [(0, kr_r E 346), (1, .int p1)] [] M (f_X12_laysCosts p1 M) := by
  rw [f_X12_laysCosts]
  refine kr_aload_n dX12_laysCosts_0 rfl 0 rfl ?_
  refine kr_getA (o := 27) (ci := 12) (j := 39) dX12_laysCosts_1 kr_at_346 fl_RX12_96 rfl ?_
  refine kr_iconst (v := 0) dX12_laysCosts_4 (by decide) ?_
  refine kr_iconst (v := 0) dX12_laysCosts_5 (by decide) ?_
  refine kr_iast dX12_laysCosts_6 kr_at_373 (fun M1 => ?_)
  refine kr_iconst (v := 1) dX12_laysCosts_7 (by decide) ?_
  refine kr_istore_n (lv' := [(2, .int (1 : Int32)), (0, kr_r E 346), (1, .int p1)]) dX12_laysCosts_8 rfl (by decide) rfl ?_
  refine kr_sub [1, 2, 0] rfl ?_
  exact r_X12_laysCosts_9 E p1 _ (1 : Int32) M1
theorem dX12_isMeant_0 : decode cX12_isMeant 0 = .ok (.aload_n 0, 1) := by decide +kernel
theorem dX12_isMeant_1 : decode cX12_isMeant 1 = .ok (.invokevirtual 381, 3) := by decide +kernel
theorem dX12_isMeant_4 : decode cX12_isMeant 4 = .ok (.ifCond .eq 31, 3) := by decide +kernel
theorem dX12_isMeant_7 : decode cX12_isMeant 7 = .ok (.iload_n 1, 1) := by decide +kernel
theorem dX12_isMeant_8 : decode cX12_isMeant 8 = .ok (.i2l, 1) := by decide +kernel
theorem dX12_isMeant_9 : decode cX12_isMeant 9 = .ok (.lconst 1, 1) := by decide +kernel
theorem dX12_isMeant_10 : decode cX12_isMeant 10 = .ok (.ldc2_w 384, 3) := by decide +kernel
theorem dX12_isMeant_13 : decode cX12_isMeant 13 = .ok (.invokestatic 143, 3) := by decide +kernel
theorem dX12_isMeant_16 : decode cX12_isMeant 16 = .ok (.ifCond .eq 19, 3) := by decide +kernel
theorem dX12_isMeant_19 : decode cX12_isMeant 19 = .ok (.iload_n 2, 1) := by decide +kernel
theorem dX12_isMeant_20 : decode cX12_isMeant 20 = .ok (.i2l, 1) := by decide +kernel
theorem dX12_isMeant_21 : decode cX12_isMeant 21 = .ok (.lconst 0, 1) := by decide +kernel
theorem dX12_isMeant_22 : decode cX12_isMeant 22 = .ok (.ldc2_w 386, 3) := by decide +kernel
theorem dX12_isMeant_25 : decode cX12_isMeant 25 = .ok (.invokestatic 143, 3) := by decide +kernel
theorem dX12_isMeant_28 : decode cX12_isMeant 28 = .ok (.ifCond .eq 7, 3) := by decide +kernel
theorem dX12_isMeant_31 : decode cX12_isMeant 31 = .ok (.iconst 1, 1) := by decide +kernel
theorem dX12_isMeant_32 : decode cX12_isMeant 32 = .ok (.goto 4, 3) := by decide +kernel
theorem dX12_isMeant_35 : decode cX12_isMeant 35 = .ok (.iconst 0, 1) := by decide +kernel
theorem dX12_isMeant_36 : decode cX12_isMeant 36 = .ok (.ireturn, 1) := by decide +kernel
theorem r_X12_isMeant (E : kr_E) (p1 : Int32) (p2 : Int32) (M : kr_M) : kR kr_vi E Y_X12_isMeant 2 0 [(0, kr_r E 346), (1, .int p1), (2, .int p2)] [] M (f_X12_isMeant p1 p2 M) := by
  rw [f_X12_isMeant]
  refine kr_aload_n dX12_isMeant_0 rfl 0 rfl ?_
  refine kr_Vi (As := []) (st := []) zv_X12_isGorge dX12_isMeant_1 ml_RX12_381 kr_at_346 (r_X12_isGorge E  M) rfl rfl (Nat.le_of_ble_eq_true rfl) rfl (by decide) (Nat.le_of_ble_eq_true rfl) (fun r2 M1 => ?_)
  refine kr_if_eq (tgt := 35) dX12_isMeant_4 (by decide) ?_ ?_
  · refine kr_iconst (v := 0) dX12_isMeant_35 (by decide) ?_
    exact kr_zret1 dX12_isMeant_36 rfl rfl
  · refine kr_iload_n dX12_isMeant_7 rfl 1 rfl ?_
    refine kr_i2l dX12_isMeant_8 ?_
    refine kr_lconst (v := 1) dX12_isMeant_9 (by decide) ?_
    refine kr_ldc2 dX12_isMeant_10 kl_RX12_384 ?_
    refine kr_Si (As := [.long (p1.toInt64), .long (1 : Int64), .long (500 : Int64)]) (st := []) zs_X12_in dX12_isMeant_13 ml_RX12_143 (r_X12_in E (p1.toInt64) (1 : Int64) (500 : Int64) M1) rfl rfl (Nat.le_of_ble_eq_true rfl) rfl (by decide) (Nat.le_of_ble_eq_true rfl) (fun r4 M3 => ?_)
    refine kr_if_eq (tgt := 35) dX12_isMeant_16 (by decide) ?_ ?_
    · refine kr_iconst (v := 0) dX12_isMeant_35 (by decide) ?_
      exact kr_zret1 dX12_isMeant_36 rfl rfl
    · refine kr_iload_n dX12_isMeant_19 rfl 2 rfl ?_
      refine kr_i2l dX12_isMeant_20 ?_
      refine kr_lconst (v := 0) dX12_isMeant_21 (by decide) ?_
      refine kr_ldc2 dX12_isMeant_22 kl_RX12_386 ?_
      refine kr_Si (As := [.long (p2.toInt64), .long (0 : Int64), .long (50 : Int64)]) (st := []) zs_X12_in dX12_isMeant_25 ml_RX12_143 (r_X12_in E (p2.toInt64) (0 : Int64) (50 : Int64) M3) rfl rfl (Nat.le_of_ble_eq_true rfl) rfl (by decide) (Nat.le_of_ble_eq_true rfl) (fun r6 M5 => ?_)
      refine kr_if_eq (tgt := 35) dX12_isMeant_28 (by decide) ?_ ?_
      · refine kr_iconst (v := 0) dX12_isMeant_35 (by decide) ?_
        exact kr_zret1 dX12_isMeant_36 rfl rfl
      · refine kr_iconst (v := 1) dX12_isMeant_31 (by decide) ?_
        refine kr_goto (tgt := 36) dX12_isMeant_32 (by decide) ?_
        exact kr_zret1 dX12_isMeant_36 rfl rfl
theorem dX12_shortest_0 : decode cX12_shortest 0 = .ok (.aload_n 0, 1) := by decide +kernel
theorem dX12_shortest_1 : decode cX12_shortest 1 = .ok (.iconst 0, 1) := by decide +kernel
theorem dX12_shortest_2 : decode cX12_shortest 2 = .ok (.putfield 138, 3) := by decide +kernel
theorem dX12_shortest_5 : decode cX12_shortest 5 = .ok (.aload_n 0, 1) := by decide +kernel
theorem dX12_shortest_6 : decode cX12_shortest 6 = .ok (.iload_n 1, 1) := by decide +kernel
theorem dX12_shortest_7 : decode cX12_shortest 7 = .ok (.iload_n 2, 1) := by decide +kernel
theorem dX12_shortest_8 : decode cX12_shortest 8 = .ok (.invokevirtual 388, 3) := by decide +kernel
theorem dX12_shortest_11 : decode cX12_shortest 11 = .ok (.ifCond .ne 6, 3) := by decide +kernel
theorem dX12_shortest_14 : decode cX12_shortest 14 = .ok (.bipush (-2), 2) := by decide +kernel
theorem dX12_shortest_16 : decode cX12_shortest 16 = .ok (.ireturn, 1) := by decide +kernel
theorem dX12_shortest_17 : decode cX12_shortest 17 = .ok (.aload_n 0, 1) := by decide +kernel
theorem dX12_shortest_18 : decode cX12_shortest 18 = .ok (.iload_n 2, 1) := by decide +kernel
theorem dX12_shortest_19 : decode cX12_shortest 19 = .ok (.invokevirtual 391, 3) := by decide +kernel
theorem dX12_shortest_22 : decode cX12_shortest 22 = .ok (.aload_n 0, 1) := by decide +kernel
theorem dX12_shortest_23 : decode cX12_shortest 23 = .ok (.getfield 96, 3) := by decide +kernel
theorem dX12_shortest_26 : decode cX12_shortest 26 = .ok (.iload_n 1, 1) := by decide +kernel
theorem dX12_shortest_27 : decode cX12_shortest 27 = .ok (.iaload, 1) := by decide +kernel
theorem dX12_shortest_28 : decode cX12_shortest 28 = .ok (.ldc_w 354, 3) := by decide +kernel
theorem dX12_shortest_31 : decode cX12_shortest 31 = .ok (.if_icmp .lt 7, 3) := by decide +kernel
theorem dX12_shortest_34 : decode cX12_shortest 34 = .ok (.iconst (-1), 1) := by decide +kernel
theorem dX12_shortest_35 : decode cX12_shortest 35 = .ok (.goto 11, 3) := by decide +kernel
theorem dX12_shortest_38 : decode cX12_shortest 38 = .ok (.aload_n 0, 1) := by decide +kernel
theorem dX12_shortest_39 : decode cX12_shortest 39 = .ok (.getfield 96, 3) := by decide +kernel
theorem dX12_shortest_42 : decode cX12_shortest 42 = .ok (.iload_n 1, 1) := by decide +kernel
theorem dX12_shortest_43 : decode cX12_shortest 43 = .ok (.iaload, 1) := by decide +kernel
theorem dX12_shortest_44 : decode cX12_shortest 44 = .ok (.iconst 1, 1) := by decide +kernel
theorem dX12_shortest_45 : decode cX12_shortest 45 = .ok (.isub, 1) := by decide +kernel
theorem dX12_shortest_46 : decode cX12_shortest 46 = .ok (.ireturn, 1) := by decide +kernel
theorem r_X12_shortest (E : kr_E) (p1 : Int32) (p2 : Int32) (M : kr_M) : kR kr_vi E Y_X12_shortest 3 0 [(0, kr_r E 346), (1, .int p1), (2, .int p2)] [] M (f_X12_shortest p1 p2 M) := by
  rw [f_X12_shortest]
  refine kr_aload_n dX12_shortest_0 rfl 0 rfl ?_
  refine kr_iconst (v := 0) dX12_shortest_1 (by decide) ?_
  refine kr_putI (ci := 12) (j := 0) dX12_shortest_2 kr_at_346 fl_RX12_138 rfl rfl (fun M1 => ?_)
  refine kr_aload_n dX12_shortest_5 rfl 0 rfl ?_
  refine kr_iload_n dX12_shortest_6 rfl 1 rfl ?_
  refine kr_iload_n dX12_shortest_7 rfl 2 rfl ?_
  refine kr_Vi (As := [.int p1, .int p2]) (st := []) zv_X12_isMeant dX12_shortest_8 ml_RX12_388 kr_at_346 (r_X12_isMeant E p1 p2 M1) rfl rfl (Nat.le_of_ble_eq_true rfl) rfl (by decide) (Nat.le_of_ble_eq_true rfl) (fun r3 M2 => ?_)
  refine kr_if_ne (tgt := 17) dX12_shortest_11 (by decide) ?_ ?_
  · refine kr_aload_n dX12_shortest_17 rfl 0 rfl ?_
    refine kr_iload_n dX12_shortest_18 rfl 2 rfl ?_
    refine kr_Vv (As := [.int p2]) (st := []) zv_X12_laysCosts dX12_shortest_19 ml_RX12_391 kr_at_346 (r_X12_laysCosts E p2 M2) rfl rfl (Nat.le_of_ble_eq_true rfl) rfl (by decide) (Nat.le_of_ble_eq_true rfl) (fun M4 => ?_)
    refine kr_aload_n dX12_shortest_22 rfl 0 rfl ?_
    refine kr_getA (o := 27) (ci := 12) (j := 39) dX12_shortest_23 kr_at_346 fl_RX12_96 rfl ?_
    refine kr_iload_n dX12_shortest_26 rfl 1 rfl ?_
    refine kr_iald dX12_shortest_27 kr_at_373 (fun v6 => ?_)
    refine kr_ldcw dX12_shortest_28 kc_RX12_354 ?_
    refine kr_icmp_lt (tgt := 38) dX12_shortest_31 (by decide) ?_ ?_
    · refine kr_aload_n dX12_shortest_38 rfl 0 rfl ?_
      refine kr_getA (o := 27) (ci := 12) (j := 39) dX12_shortest_39 kr_at_346 fl_RX12_96 rfl ?_
      refine kr_iload_n dX12_shortest_42 rfl 1 rfl ?_
      refine kr_iald dX12_shortest_43 kr_at_373 (fun v7 => ?_)
      refine kr_iconst (v := 1) dX12_shortest_44 (by decide) ?_
      refine kr_isub dX12_shortest_45 ?_
      exact kr_iret dX12_shortest_46 rfl
    · refine kr_iconst (v := -1) dX12_shortest_34 (by decide) ?_
      refine kr_goto (tgt := 46) dX12_shortest_35 (by decide) ?_
      exact kr_iret dX12_shortest_46 rfl
  · refine kr_bipush (v := -2) dX12_shortest_14 (by decide) ?_
    exact kr_iret dX12_shortest_16 rfl
theorem dX12_writes_0 : decode cX12_writes 0 = .ok (.aload_n 0, 1) := by decide +kernel
theorem dX12_writes_1 : decode cX12_writes 1 = .ok (.iconst 0, 1) := by decide +kernel
theorem dX12_writes_2 : decode cX12_writes 2 = .ok (.putfield 138, 3) := by decide +kernel
theorem dX12_writes_5 : decode cX12_writes 5 = .ok (.aload_n 0, 1) := by decide +kernel
theorem dX12_writes_6 : decode cX12_writes 6 = .ok (.iload_n 1, 1) := by decide +kernel
theorem dX12_writes_7 : decode cX12_writes 7 = .ok (.iload_n 2, 1) := by decide +kernel
theorem dX12_writes_8 : decode cX12_writes 8 = .ok (.invokevirtual 388, 3) := by decide +kernel
theorem dX12_writes_11 : decode cX12_writes 11 = .ok (.ifCond .ne 6, 3) := by decide +kernel
theorem dX12_writes_14 : decode cX12_writes 14 = .ok (.bipush (-2), 2) := by decide +kernel
theorem dX12_writes_16 : decode cX12_writes 16 = .ok (.ireturn, 1) := by decide +kernel
theorem dX12_writes_17 : decode cX12_writes 17 = .ok (.aload_n 0, 1) := by decide +kernel
theorem dX12_writes_18 : decode cX12_writes 18 = .ok (.iload_n 2, 1) := by decide +kernel
theorem dX12_writes_19 : decode cX12_writes 19 = .ok (.invokevirtual 391, 3) := by decide +kernel
theorem dX12_writes_22 : decode cX12_writes 22 = .ok (.aload_n 0, 1) := by decide +kernel
theorem dX12_writes_23 : decode cX12_writes 23 = .ok (.getfield 96, 3) := by decide +kernel
theorem dX12_writes_26 : decode cX12_writes 26 = .ok (.iload_n 1, 1) := by decide +kernel
theorem dX12_writes_27 : decode cX12_writes 27 = .ok (.iaload, 1) := by decide +kernel
theorem dX12_writes_28 : decode cX12_writes 28 = .ok (.ldc_w 354, 3) := by decide +kernel
theorem dX12_writes_31 : decode cX12_writes 31 = .ok (.if_icmp .ge 7, 3) := by decide +kernel
theorem dX12_writes_34 : decode cX12_writes 34 = .ok (.iload_n 3, 1) := by decide +kernel
theorem dX12_writes_35 : decode cX12_writes 35 = .ok (.ifCond .ge 5, 3) := by decide +kernel
theorem dX12_writes_38 : decode cX12_writes 38 = .ok (.iconst (-1), 1) := by decide +kernel
theorem dX12_writes_39 : decode cX12_writes 39 = .ok (.ireturn, 1) := by decide +kernel
theorem dX12_writes_40 : decode cX12_writes 40 = .ok (.iload_n 1, 1) := by decide +kernel
theorem dX12_writes_41 : decode cX12_writes 41 = .ok (.istore 4, 2) := by decide +kernel
theorem dX12_writes_43 : decode cX12_writes 43 = .ok (.iconst 0, 1) := by decide +kernel
theorem dX12_writes_44 : decode cX12_writes 44 = .ok (.istore 5, 2) := by decide +kernel
theorem dX12_writes_46 : decode cX12_writes 46 = .ok (.iload 4, 2) := by decide +kernel
theorem dX12_writes_48 : decode cX12_writes 48 = .ok (.ifCond .le 94, 3) := by decide +kernel
theorem dX12_writes_51 : decode cX12_writes 51 = .ok (.iconst 0, 1) := by decide +kernel
theorem dX12_writes_52 : decode cX12_writes 52 = .ok (.istore 6, 2) := by decide +kernel
theorem dX12_writes_54 : decode cX12_writes 54 = .ok (.aload_n 0, 1) := by decide +kernel
theorem dX12_writes_55 : decode cX12_writes 55 = .ok (.getfield 46, 3) := by decide +kernel
theorem dX12_writes_58 : decode cX12_writes 58 = .ok (.iload 6, 2) := by decide +kernel
theorem dX12_writes_60 : decode cX12_writes 60 = .ok (.iaload, 1) := by decide +kernel
theorem dX12_writes_61 : decode cX12_writes 61 = .ok (.ifCond .eq 48, 3) := by decide +kernel
theorem dX12_writes_64 : decode cX12_writes 64 = .ok (.aload_n 0, 1) := by decide +kernel
theorem dX12_writes_65 : decode cX12_writes 65 = .ok (.getfield 46, 3) := by decide +kernel
theorem dX12_writes_68 : decode cX12_writes 68 = .ok (.iload 6, 2) := by decide +kernel
theorem dX12_writes_70 : decode cX12_writes 70 = .ok (.iaload, 1) := by decide +kernel
theorem dX12_writes_71 : decode cX12_writes 71 = .ok (.iload 4, 2) := by decide +kernel
theorem dX12_writes_73 : decode cX12_writes 73 = .ok (.if_icmp .gt 36, 3) := by decide +kernel
theorem dX12_writes_76 : decode cX12_writes 76 = .ok (.aload_n 0, 1) := by decide +kernel
theorem dX12_writes_77 : decode cX12_writes 77 = .ok (.getfield 96, 3) := by decide +kernel
theorem dX12_writes_80 : decode cX12_writes 80 = .ok (.iload 4, 2) := by decide +kernel
theorem dX12_writes_82 : decode cX12_writes 82 = .ok (.aload_n 0, 1) := by decide +kernel
theorem dX12_writes_83 : decode cX12_writes 83 = .ok (.getfield 46, 3) := by decide +kernel
theorem dX12_writes_86 : decode cX12_writes 86 = .ok (.iload 6, 2) := by decide +kernel
theorem dX12_writes_88 : decode cX12_writes 88 = .ok (.iaload, 1) := by decide +kernel
theorem dX12_writes_89 : decode cX12_writes 89 = .ok (.isub, 1) := by decide +kernel
theorem dX12_writes_90 : decode cX12_writes 90 = .ok (.iaload, 1) := by decide +kernel
theorem dX12_writes_91 : decode cX12_writes 91 = .ok (.aload_n 0, 1) := by decide +kernel
theorem dX12_writes_92 : decode cX12_writes 92 = .ok (.iload 6, 2) := by decide +kernel
theorem dX12_writes_94 : decode cX12_writes 94 = .ok (.iload_n 2, 1) := by decide +kernel
theorem dX12_writes_95 : decode cX12_writes 95 = .ok (.invokevirtual 378, 3) := by decide +kernel
theorem dX12_writes_98 : decode cX12_writes 98 = .ok (.iadd, 1) := by decide +kernel
theorem dX12_writes_99 : decode cX12_writes 99 = .ok (.aload_n 0, 1) := by decide +kernel
theorem dX12_writes_100 : decode cX12_writes 100 = .ok (.getfield 96, 3) := by decide +kernel
theorem dX12_writes_103 : decode cX12_writes 103 = .ok (.iload 4, 2) := by decide +kernel
theorem dX12_writes_105 : decode cX12_writes 105 = .ok (.iaload, 1) := by decide +kernel
theorem dX12_writes_106 : decode cX12_writes 106 = .ok (.if_icmp .eq 9, 3) := by decide +kernel
theorem dX12_writes_109 : decode cX12_writes 109 = .ok (.iinc 6 1, 3) := by decide +kernel
theorem dX12_writes_112 : decode cX12_writes 112 = .ok (.goto (-58), 3) := by decide +kernel
theorem dX12_writes_115 : decode cX12_writes 115 = .ok (.iload 5, 2) := by decide +kernel
theorem dX12_writes_117 : decode cX12_writes 117 = .ok (.iload_n 3, 1) := by decide +kernel
theorem dX12_writes_118 : decode cX12_writes 118 = .ok (.if_icmp .ne 6, 3) := by decide +kernel
theorem dX12_writes_121 : decode cX12_writes 121 = .ok (.iload 6, 2) := by decide +kernel
theorem dX12_writes_123 : decode cX12_writes 123 = .ok (.ireturn, 1) := by decide +kernel
theorem dX12_writes_124 : decode cX12_writes 124 = .ok (.iload 4, 2) := by decide +kernel
theorem dX12_writes_126 : decode cX12_writes 126 = .ok (.aload_n 0, 1) := by decide +kernel
theorem dX12_writes_127 : decode cX12_writes 127 = .ok (.getfield 46, 3) := by decide +kernel
theorem dX12_writes_130 : decode cX12_writes 130 = .ok (.iload 6, 2) := by decide +kernel
theorem dX12_writes_132 : decode cX12_writes 132 = .ok (.iaload, 1) := by decide +kernel
theorem dX12_writes_133 : decode cX12_writes 133 = .ok (.isub, 1) := by decide +kernel
theorem dX12_writes_134 : decode cX12_writes 134 = .ok (.istore 4, 2) := by decide +kernel
theorem dX12_writes_136 : decode cX12_writes 136 = .ok (.iinc 5 1, 3) := by decide +kernel
theorem dX12_writes_139 : decode cX12_writes 139 = .ok (.goto (-93), 3) := by decide +kernel
theorem dX12_writes_142 : decode cX12_writes 142 = .ok (.iconst (-1), 1) := by decide +kernel
theorem dX12_writes_143 : decode cX12_writes 143 = .ok (.ireturn, 1) := by decide +kernel
theorem r_X12_writes_109 (E : kr_E) (k_54 : Int32 → kr_M → Option (Int32 × kr_M)) (l2 : Int32) (l3 : Int32) (l4 : Int32) (l5 : Int32) (l6 : Int32) (hk_54 : ∀ (x6 : Int32) (M : kr_M), kR kr_vi E Y_X12_writes 3 54 [(0, kr_r E 346), (2, .int l2), (3, .int l3), (4, .int l4), (5, .int l5), (6, .int x6)] [] M (k_54 x6 M)) (M : kr_M) : kR kr_vi E Y_X12_writes 3 109 [(0, kr_r E 346), (2, .int l2), (3, .int l3), (4, .int l4), (5, .int l5), (6, .int l6)] [] M (f_X12_writes_109 k_54 l6 M) := by
  rw [f_X12_writes_109]
  refine kr_iinc (j := 5) (v := (l6 + (1 : Int32))) (lv' := [(6, .int (l6 + (1 : Int32))), (0, kr_r E 346), (2, .int l2), (3, .int l3), (4, .int l4), (5, .int l5)]) dX12_writes_109 rfl rfl (by decide) rfl ?_
  refine kr_goto (tgt := 54) dX12_writes_112 (by decide) ?_
  refine kr_sub [1, 2, 3, 4, 5, 0] rfl ?_
  exact hk_54 (l6 + (1 : Int32)) M
theorem r_X12_writes_115 (E : kr_E) (k_46 : Int32 → Int32 → kr_M → Option (Int32 × kr_M)) (l2 : Int32) (l3 : Int32) (l4 : Int32) (l5 : Int32) (l6 : Int32) (hk_46 : ∀ (x4 : Int32) (x5 : Int32) (M : kr_M), kR kr_vi E Y_X12_writes 3 46 [(0, kr_r E 346), (2, .int l2), (3, .int l3), (4, .int x4), (5, .int x5)] [] M (k_46 x4 x5 M)) (M : kr_M) : kR kr_vi E Y_X12_writes 3 115 [(0, kr_r E 346), (2, .int l2), (3, .int l3), (4, .int l4), (5, .int l5), (6, .int l6)] [] M (f_X12_writes_115 k_46 l3 l4 l5 l6 M) := by
  rw [f_X12_writes_115]
  refine kr_iload dX12_writes_115 4 rfl ?_
  refine kr_iload_n dX12_writes_117 rfl 2 rfl ?_
  refine kr_icmp_ne (tgt := 124) dX12_writes_118 (by decide) ?_ ?_
  · refine kr_iload dX12_writes_124 3 rfl ?_
    refine kr_aload_n dX12_writes_126 rfl 0 rfl ?_
    refine kr_getA (o := 11) (ci := 12) (j := 21) dX12_writes_127 kr_at_346 fl_RX12_46 rfl ?_
    refine kr_iload dX12_writes_130 5 rfl ?_
    refine kr_iald dX12_writes_132 kr_at_357 (fun v1 => ?_)
    refine kr_isub dX12_writes_133 ?_
    refine kr_nmi (fun v2 => ?_)
    refine kr_istore (lv' := [(4, .int v2), (0, kr_r E 346), (2, .int l2), (3, .int l3), (5, .int l5), (6, .int l6)]) dX12_writes_134 (by decide) rfl ?_
    refine kr_iinc (j := 4) (v := (l5 + (1 : Int32))) (lv' := [(5, .int (l5 + (1 : Int32))), (4, .int v2), (0, kr_r E 346), (2, .int l2), (3, .int l3), (6, .int l6)]) dX12_writes_136 rfl rfl (by decide) rfl ?_
    refine kr_goto (tgt := 46) dX12_writes_139 (by decide) ?_
    refine kr_sub [2, 3, 4, 1, 0] rfl ?_
    exact hk_46 v2 (l5 + (1 : Int32)) M
  · refine kr_iload dX12_writes_121 5 rfl ?_
    exact kr_iret dX12_writes_123 rfl
theorem r_X12_writes_54 (E : kr_E) (k_46 : Int32 → Int32 → kr_M → Option (Int32 × kr_M)) (l2 : Int32) (l3 : Int32) (l4 : Int32) (l5 : Int32) (hk_46 : ∀ (x4 : Int32) (x5 : Int32) (M : kr_M), kR kr_vi E Y_X12_writes 3 46 [(0, kr_r E 346), (2, .int l2), (3, .int l3), (4, .int x4), (5, .int x5)] [] M (k_46 x4 x5 M)) : ∀ (n : Nat) (l6 : Int32) (M : kr_M), kR kr_vi E Y_X12_writes 3 54 [(0, kr_r E 346), (2, .int l2), (3, .int l3), (4, .int l4), (5, .int l5), (6, .int l6)] [] M (f_X12_writes_54 k_46 l2 l3 l4 l5 n l6 M) := by
  intro n
  induction n with
  | zero => intro l6 M; exact kr_none
  | succ n ih =>
    intro l6 M
    rw [f_X12_writes_54]
    refine kr_aload_n dX12_writes_54 rfl 0 rfl ?_
    refine kr_getA (o := 11) (ci := 12) (j := 21) dX12_writes_55 kr_at_346 fl_RX12_46 rfl ?_
    refine kr_iload dX12_writes_58 5 rfl ?_
    refine kr_iald dX12_writes_60 kr_at_357 (fun v1 => ?_)
    refine kr_if_eq (tgt := 109) dX12_writes_61 (by decide) ?_ ?_
    · refine kr_sub [0, 1, 2, 3, 4, 5] rfl ?_
      exact r_X12_writes_109 E _ l2 l3 l4 l5 l6 ih M
    · refine kr_aload_n dX12_writes_64 rfl 0 rfl ?_
      refine kr_getA (o := 11) (ci := 12) (j := 21) dX12_writes_65 kr_at_346 fl_RX12_46 rfl ?_
      refine kr_iload dX12_writes_68 5 rfl ?_
      refine kr_iald dX12_writes_70 kr_at_357 (fun v2 => ?_)
      refine kr_iload dX12_writes_71 3 rfl ?_
      refine kr_icmp_gt (tgt := 109) dX12_writes_73 (by decide) ?_ ?_
      · refine kr_sub [0, 1, 2, 3, 4, 5] rfl ?_
        exact r_X12_writes_109 E _ l2 l3 l4 l5 l6 ih M
      · refine kr_aload_n dX12_writes_76 rfl 0 rfl ?_
        refine kr_getA (o := 27) (ci := 12) (j := 39) dX12_writes_77 kr_at_346 fl_RX12_96 rfl ?_
        refine kr_iload dX12_writes_80 3 rfl ?_
        refine kr_aload_n dX12_writes_82 rfl 0 rfl ?_
        refine kr_getA (o := 11) (ci := 12) (j := 21) dX12_writes_83 kr_at_346 fl_RX12_46 rfl ?_
        refine kr_iload dX12_writes_86 5 rfl ?_
        refine kr_iald dX12_writes_88 kr_at_357 (fun v3 => ?_)
        refine kr_isub dX12_writes_89 ?_
        refine kr_iald dX12_writes_90 kr_at_373 (fun v4 => ?_)
        refine kr_aload_n dX12_writes_91 rfl 0 rfl ?_
        refine kr_iload dX12_writes_92 5 rfl ?_
        refine kr_iload_n dX12_writes_94 rfl 1 rfl ?_
        refine kr_Vi (As := [.int l6, .int l2]) (st := [.int v4]) zv_X12_costOf dX12_writes_95 ml_RX12_378 kr_at_346 (r_X12_costOf E l6 l2 M) rfl rfl (Nat.le_of_ble_eq_true rfl) rfl (by decide) (Nat.le_of_ble_eq_true rfl) (fun r6 M5 => ?_)
        refine kr_iadd dX12_writes_98 ?_
        refine kr_aload_n dX12_writes_99 rfl 0 rfl ?_
        refine kr_getA (o := 27) (ci := 12) (j := 39) dX12_writes_100 kr_at_346 fl_RX12_96 rfl ?_
        refine kr_iload dX12_writes_103 3 rfl ?_
        refine kr_iald dX12_writes_105 kr_at_373 (fun v7 => ?_)
        refine kr_icmp_eq (tgt := 115) dX12_writes_106 (by decide) ?_ ?_
        · refine kr_sub [0, 1, 2, 3, 4, 5] rfl ?_
          exact r_X12_writes_115 E _ l2 l3 l4 l5 l6 hk_46 M5
        · refine kr_sub [0, 1, 2, 3, 4, 5] rfl ?_
          exact r_X12_writes_109 E _ l2 l3 l4 l5 l6 ih M5
theorem r_X12_writes_46 (E : kr_E)  (l2 : Int32) (l3 : Int32)  : ∀ (n : Nat) (l4 : Int32) (l5 : Int32) (M : kr_M), kR kr_vi E Y_X12_writes 3 46 [(0, kr_r E 346), (2, .int l2), (3, .int l3), (4, .int l4), (5, .int l5)] [] M (f_X12_writes_46 l2 l3 n l4 l5 M) := by
  intro n
  induction n with
  | zero => intro l4 l5 M; exact kr_none
  | succ n ih =>
    intro l4 l5 M
    rw [f_X12_writes_46]
    refine kr_iload dX12_writes_46 3 rfl ?_
    refine kr_if_le (tgt := 142) dX12_writes_48 (by decide) ?_ ?_
    · refine kr_iconst (v := -1) dX12_writes_142 (by decide) ?_
      exact kr_iret dX12_writes_143 rfl
    · refine kr_iconst (v := 0) dX12_writes_51 (by decide) ?_
      refine kr_istore (lv' := [(6, .int (0 : Int32)), (0, kr_r E 346), (2, .int l2), (3, .int l3), (4, .int l4), (5, .int l5)]) dX12_writes_52 (by decide) rfl ?_
      refine kr_sub [1, 2, 3, 4, 5, 0] rfl ?_
      exact r_X12_writes_54 E _ l2 l3 l4 l5 ih _ (0 : Int32) M
theorem r_X12_writes (E : kr_E) (p1 : Int32) (p2 : Int32) (p3 : Int32) (M : kr_M) : kR kr_vi E Y_X12_writes 3 0 [(0, kr_r E 346), (1, .int p1), (2, .int p2), (3, .int p3)] [] M (f_X12_writes p1 p2 p3 M) := by
  rw [f_X12_writes]
  refine kr_aload_n dX12_writes_0 rfl 0 rfl ?_
  refine kr_iconst (v := 0) dX12_writes_1 (by decide) ?_
  refine kr_putI (ci := 12) (j := 0) dX12_writes_2 kr_at_346 fl_RX12_138 rfl rfl (fun M1 => ?_)
  refine kr_aload_n dX12_writes_5 rfl 0 rfl ?_
  refine kr_iload_n dX12_writes_6 rfl 1 rfl ?_
  refine kr_iload_n dX12_writes_7 rfl 2 rfl ?_
  refine kr_Vi (As := [.int p1, .int p2]) (st := []) zv_X12_isMeant dX12_writes_8 ml_RX12_388 kr_at_346 (r_X12_isMeant E p1 p2 M1) rfl rfl (Nat.le_of_ble_eq_true rfl) rfl (by decide) (Nat.le_of_ble_eq_true rfl) (fun r3 M2 => ?_)
  refine kr_if_ne (tgt := 17) dX12_writes_11 (by decide) ?_ ?_
  · refine kr_aload_n dX12_writes_17 rfl 0 rfl ?_
    refine kr_iload_n dX12_writes_18 rfl 2 rfl ?_
    refine kr_Vv (As := [.int p2]) (st := []) zv_X12_laysCosts dX12_writes_19 ml_RX12_391 kr_at_346 (r_X12_laysCosts E p2 M2) rfl rfl (Nat.le_of_ble_eq_true rfl) rfl (by decide) (Nat.le_of_ble_eq_true rfl) (fun M4 => ?_)
    refine kr_aload_n dX12_writes_22 rfl 0 rfl ?_
    refine kr_getA (o := 27) (ci := 12) (j := 39) dX12_writes_23 kr_at_346 fl_RX12_96 rfl ?_
    refine kr_iload_n dX12_writes_26 rfl 1 rfl ?_
    refine kr_iald dX12_writes_27 kr_at_373 (fun v6 => ?_)
    refine kr_ldcw dX12_writes_28 kc_RX12_354 ?_
    refine kr_icmp_ge (tgt := 38) dX12_writes_31 (by decide) ?_ ?_
    · refine kr_iconst (v := -1) dX12_writes_38 (by decide) ?_
      exact kr_iret dX12_writes_39 rfl
    · refine kr_iload_n dX12_writes_34 rfl 3 rfl ?_
      refine kr_if_ge (tgt := 40) dX12_writes_35 (by decide) ?_ ?_
      · refine kr_iload_n dX12_writes_40 rfl 1 rfl ?_
        refine kr_istore (lv' := [(4, .int p1), (0, kr_r E 346), (1, .int p1), (2, .int p2), (3, .int p3)]) dX12_writes_41 (by decide) rfl ?_
        refine kr_iconst (v := 0) dX12_writes_43 (by decide) ?_
        refine kr_istore (lv' := [(5, .int (0 : Int32)), (4, .int p1), (0, kr_r E 346), (1, .int p1), (2, .int p2), (3, .int p3)]) dX12_writes_44 (by decide) rfl ?_
        refine kr_sub [2, 4, 5, 1, 0] rfl ?_
        exact r_X12_writes_46 E p2 p3 _ p1 (0 : Int32) M4
      · refine kr_iconst (v := -1) dX12_writes_38 (by decide) ?_
        exact kr_iret dX12_writes_39 rfl
  · refine kr_bipush (v := -2) dX12_writes_14 (by decide) ?_
    exact kr_iret dX12_writes_16 rfl
theorem dX12_laysSlips_0 : decode cX12_laysSlips 0 = .ok (.aload_n 0, 1) := by decide +kernel
theorem dX12_laysSlips_1 : decode cX12_laysSlips 1 = .ok (.iload_n 1, 1) := by decide +kernel
theorem dX12_laysSlips_2 : decode cX12_laysSlips 2 = .ok (.iconst 0, 1) := by decide +kernel
theorem dX12_laysSlips_3 : decode cX12_laysSlips 3 = .ok (.invokevirtual 367, 3) := by decide +kernel
theorem dX12_laysSlips_6 : decode cX12_laysSlips 6 = .ok (.aload_n 0, 1) := by decide +kernel
theorem dX12_laysSlips_7 : decode cX12_laysSlips 7 = .ok (.aload_n 0, 1) := by decide +kernel
theorem dX12_laysSlips_8 : decode cX12_laysSlips 8 = .ok (.getfield 83, 3) := by decide +kernel
theorem dX12_laysSlips_11 : decode cX12_laysSlips 11 = .ok (.iconst 0, 1) := by decide +kernel
theorem dX12_laysSlips_12 : decode cX12_laysSlips 12 = .ok (.iaload, 1) := by decide +kernel
theorem dX12_laysSlips_13 : decode cX12_laysSlips 13 = .ok (.putfield 394, 3) := by decide +kernel
theorem dX12_laysSlips_16 : decode cX12_laysSlips 16 = .ok (.aload_n 0, 1) := by decide +kernel
theorem dX12_laysSlips_17 : decode cX12_laysSlips 17 = .ok (.aload_n 0, 1) := by decide +kernel
theorem dX12_laysSlips_18 : decode cX12_laysSlips 18 = .ok (.getfield 86, 3) := by decide +kernel
theorem dX12_laysSlips_21 : decode cX12_laysSlips 21 = .ok (.iconst 0, 1) := by decide +kernel
theorem dX12_laysSlips_22 : decode cX12_laysSlips 22 = .ok (.iaload, 1) := by decide +kernel
theorem dX12_laysSlips_23 : decode cX12_laysSlips 23 = .ok (.putfield 397, 3) := by decide +kernel
theorem dX12_laysSlips_26 : decode cX12_laysSlips 26 = .ok (.iconst 0, 1) := by decide +kernel
theorem dX12_laysSlips_27 : decode cX12_laysSlips 27 = .ok (.istore_n 2, 1) := by decide +kernel
theorem dX12_laysSlips_28 : decode cX12_laysSlips 28 = .ok (.iload_n 2, 1) := by decide +kernel
theorem dX12_laysSlips_29 : decode cX12_laysSlips 29 = .ok (.aload_n 0, 1) := by decide +kernel
theorem dX12_laysSlips_30 : decode cX12_laysSlips 30 = .ok (.getfield 351, 3) := by decide +kernel
theorem dX12_laysSlips_33 : decode cX12_laysSlips 33 = .ok (.if_icmp .ge 105, 3) := by decide +kernel
theorem dX12_laysSlips_36 : decode cX12_laysSlips 36 = .ok (.aload_n 0, 1) := by decide +kernel
theorem dX12_laysSlips_37 : decode cX12_laysSlips 37 = .ok (.getfield 80, 3) := by decide +kernel
theorem dX12_laysSlips_40 : decode cX12_laysSlips 40 = .ok (.iload_n 2, 1) := by decide +kernel
theorem dX12_laysSlips_41 : decode cX12_laysSlips 41 = .ok (.iaload, 1) := by decide +kernel
theorem dX12_laysSlips_42 : decode cX12_laysSlips 42 = .ok (.istore_n 3, 1) := by decide +kernel
theorem dX12_laysSlips_43 : decode cX12_laysSlips 43 = .ok (.iconst 0, 1) := by decide +kernel
theorem dX12_laysSlips_44 : decode cX12_laysSlips 44 = .ok (.istore 4, 2) := by decide +kernel
theorem dX12_laysSlips_46 : decode cX12_laysSlips 46 = .ok (.iload 4, 2) := by decide +kernel
theorem dX12_laysSlips_48 : decode cX12_laysSlips 48 = .ok (.aload_n 0, 1) := by decide +kernel
theorem dX12_laysSlips_49 : decode cX12_laysSlips 49 = .ok (.getfield 34, 3) := by decide +kernel
theorem dX12_laysSlips_52 : decode cX12_laysSlips 52 = .ok (.iconst 3, 1) := by decide +kernel
theorem dX12_laysSlips_53 : decode cX12_laysSlips 53 = .ok (.iaload, 1) := by decide +kernel
theorem dX12_laysSlips_54 : decode cX12_laysSlips 54 = .ok (.if_icmp .ge 71, 3) := by decide +kernel
theorem dX12_laysSlips_57 : decode cX12_laysSlips 57 = .ok (.aload_n 0, 1) := by decide +kernel
theorem dX12_laysSlips_58 : decode cX12_laysSlips 58 = .ok (.getfield 80, 3) := by decide +kernel
theorem dX12_laysSlips_61 : decode cX12_laysSlips 61 = .ok (.iload_n 2, 1) := by decide +kernel
theorem dX12_laysSlips_62 : decode cX12_laysSlips 62 = .ok (.iload 4, 2) := by decide +kernel
theorem dX12_laysSlips_64 : decode cX12_laysSlips 64 = .ok (.iastore, 1) := by decide +kernel
theorem dX12_laysSlips_65 : decode cX12_laysSlips 65 = .ok (.aload_n 0, 1) := by decide +kernel
theorem dX12_laysSlips_66 : decode cX12_laysSlips 66 = .ok (.invokevirtual 361, 3) := by decide +kernel
theorem dX12_laysSlips_69 : decode cX12_laysSlips 69 = .ok (.aload_n 0, 1) := by decide +kernel
theorem dX12_laysSlips_70 : decode cX12_laysSlips 70 = .ok (.getfield 99, 3) := by decide +kernel
theorem dX12_laysSlips_73 : decode cX12_laysSlips 73 = .ok (.bipush 6, 2) := by decide +kernel
theorem dX12_laysSlips_75 : decode cX12_laysSlips 75 = .ok (.iload_n 2, 1) := by decide +kernel
theorem dX12_laysSlips_76 : decode cX12_laysSlips 76 = .ok (.imul, 1) := by decide +kernel
theorem dX12_laysSlips_77 : decode cX12_laysSlips 77 = .ok (.iload 4, 2) := by decide +kernel
theorem dX12_laysSlips_79 : decode cX12_laysSlips 79 = .ok (.iadd, 1) := by decide +kernel
theorem dX12_laysSlips_80 : decode cX12_laysSlips 80 = .ok (.iload 4, 2) := by decide +kernel
theorem dX12_laysSlips_82 : decode cX12_laysSlips 82 = .ok (.iload_n 3, 1) := by decide +kernel
theorem dX12_laysSlips_83 : decode cX12_laysSlips 83 = .ok (.if_icmp .eq 16, 3) := by decide +kernel
theorem dX12_laysSlips_86 : decode cX12_laysSlips 86 = .ok (.aload_n 0, 1) := by decide +kernel
theorem dX12_laysSlips_87 : decode cX12_laysSlips 87 = .ok (.getfield 83, 3) := by decide +kernel
theorem dX12_laysSlips_90 : decode cX12_laysSlips 90 = .ok (.iconst 0, 1) := by decide +kernel
theorem dX12_laysSlips_91 : decode cX12_laysSlips 91 = .ok (.iaload, 1) := by decide +kernel
theorem dX12_laysSlips_92 : decode cX12_laysSlips 92 = .ok (.ifCond .le 7, 3) := by decide +kernel
theorem dX12_laysSlips_95 : decode cX12_laysSlips 95 = .ok (.iconst 1, 1) := by decide +kernel
theorem dX12_laysSlips_96 : decode cX12_laysSlips 96 = .ok (.goto 4, 3) := by decide +kernel
theorem dX12_laysSlips_99 : decode cX12_laysSlips 99 = .ok (.iconst 0, 1) := by decide +kernel
theorem dX12_laysSlips_100 : decode cX12_laysSlips 100 = .ok (.bastore, 1) := by decide +kernel
theorem dX12_laysSlips_101 : decode cX12_laysSlips 101 = .ok (.aload_n 0, 1) := by decide +kernel
theorem dX12_laysSlips_102 : decode cX12_laysSlips 102 = .ok (.getfield 102, 3) := by decide +kernel
theorem dX12_laysSlips_105 : decode cX12_laysSlips 105 = .ok (.bipush 6, 2) := by decide +kernel
theorem dX12_laysSlips_107 : decode cX12_laysSlips 107 = .ok (.iload_n 2, 1) := by decide +kernel
theorem dX12_laysSlips_108 : decode cX12_laysSlips 108 = .ok (.imul, 1) := by decide +kernel
theorem dX12_laysSlips_109 : decode cX12_laysSlips 109 = .ok (.iload 4, 2) := by decide +kernel
theorem dX12_laysSlips_111 : decode cX12_laysSlips 111 = .ok (.iadd, 1) := by decide +kernel
theorem dX12_laysSlips_112 : decode cX12_laysSlips 112 = .ok (.aload_n 0, 1) := by decide +kernel
theorem dX12_laysSlips_113 : decode cX12_laysSlips 113 = .ok (.getfield 86, 3) := by decide +kernel
theorem dX12_laysSlips_116 : decode cX12_laysSlips 116 = .ok (.iconst 0, 1) := by decide +kernel
theorem dX12_laysSlips_117 : decode cX12_laysSlips 117 = .ok (.iaload, 1) := by decide +kernel
theorem dX12_laysSlips_118 : decode cX12_laysSlips 118 = .ok (.iastore, 1) := by decide +kernel
theorem dX12_laysSlips_119 : decode cX12_laysSlips 119 = .ok (.iinc 4 1, 3) := by decide +kernel
theorem dX12_laysSlips_122 : decode cX12_laysSlips 122 = .ok (.goto (-76), 3) := by decide +kernel
theorem dX12_laysSlips_125 : decode cX12_laysSlips 125 = .ok (.aload_n 0, 1) := by decide +kernel
theorem dX12_laysSlips_126 : decode cX12_laysSlips 126 = .ok (.getfield 80, 3) := by decide +kernel
theorem dX12_laysSlips_129 : decode cX12_laysSlips 129 = .ok (.iload_n 2, 1) := by decide +kernel
theorem dX12_laysSlips_130 : decode cX12_laysSlips 130 = .ok (.iload_n 3, 1) := by decide +kernel
theorem dX12_laysSlips_131 : decode cX12_laysSlips 131 = .ok (.iastore, 1) := by decide +kernel
theorem dX12_laysSlips_132 : decode cX12_laysSlips 132 = .ok (.iinc 2 1, 3) := by decide +kernel
theorem dX12_laysSlips_135 : decode cX12_laysSlips 135 = .ok (.goto (-107), 3) := by decide +kernel
theorem dX12_laysSlips_138 : decode cX12_laysSlips 138 = .ok (.return_, 1) := by decide +kernel
theorem r_X12_laysSlips_125 (E : kr_E) (k_28 : Int32 → kr_M → Option kr_M) (l2 : Int32) (l3 : Int32) (hk_28 : ∀ (x2 : Int32) (M : kr_M), kR kr_vv E Y_X12_laysSlips 5 28 [(0, kr_r E 346), (2, .int x2)] [] M (k_28 x2 M)) (M : kr_M) : kR kr_vv E Y_X12_laysSlips 5 125 [(0, kr_r E 346), (2, .int l2), (3, .int l3)] [] M (f_X12_laysSlips_125 k_28 l2 l3 M) := by
  rw [f_X12_laysSlips_125]
  refine kr_aload_n dX12_laysSlips_125 rfl 0 rfl ?_
  refine kr_getA (o := 22) (ci := 12) (j := 33) dX12_laysSlips_126 kr_at_346 fl_RX12_80 rfl ?_
  refine kr_iload_n dX12_laysSlips_129 rfl 1 rfl ?_
  refine kr_iload_n dX12_laysSlips_130 rfl 2 rfl ?_
  refine kr_iast dX12_laysSlips_131 kr_at_368 (fun M1 => ?_)
  refine kr_iinc (j := 1) (v := (l2 + (1 : Int32))) (lv' := [(2, .int (l2 + (1 : Int32))), (0, kr_r E 346), (3, .int l3)]) dX12_laysSlips_132 rfl rfl (by decide) rfl ?_
  refine kr_goto (tgt := 28) dX12_laysSlips_135 (by decide) ?_
  refine kr_sub [1, 0] rfl ?_
  exact hk_28 (l2 + (1 : Int32)) M1
theorem r_X12_laysSlips_100 (E : kr_E) (k_46 : Int32 → kr_M → Option kr_M) (l2 : Int32) (l3 : Int32) (l4 : Int32) (s0 : Int32) (s1 : Int32) (hk_46 : ∀ (x4 : Int32) (M : kr_M), kR kr_vv E Y_X12_laysSlips 5 46 [(0, kr_r E 346), (2, .int l2), (3, .int l3), (4, .int x4)] [] M (k_46 x4 M)) (M : kr_M) : kR kr_vv E Y_X12_laysSlips 5 100 [(0, kr_r E 346), (2, .int l2), (3, .int l3), (4, .int l4)] [.int s0, .int s1, kr_r E 374] M (f_X12_laysSlips_100 k_46 l2 l4 s0 s1 M) := by
  rw [f_X12_laysSlips_100]
  refine kr_zast dX12_laysSlips_100 kr_at_374 (fun M1 => ?_)
  refine kr_aload_n dX12_laysSlips_101 rfl 0 rfl ?_
  refine kr_getA (o := 29) (ci := 12) (j := 41) dX12_laysSlips_102 kr_at_346 fl_RX12_102 rfl ?_
  refine kr_bipush (v := 6) dX12_laysSlips_105 (by decide) ?_
  refine kr_iload_n dX12_laysSlips_107 rfl 1 rfl ?_
  refine kr_imul dX12_laysSlips_108 ?_
  refine kr_iload dX12_laysSlips_109 3 rfl ?_
  refine kr_iadd dX12_laysSlips_111 ?_
  refine kr_aload_n dX12_laysSlips_112 rfl 0 rfl ?_
  refine kr_getA (o := 24) (ci := 12) (j := 36) dX12_laysSlips_113 kr_at_346 fl_RX12_86 rfl ?_
  refine kr_iconst (v := 0) dX12_laysSlips_116 (by decide) ?_
  refine kr_iald dX12_laysSlips_117 kr_at_370 (fun v2 => ?_)
  refine kr_iast dX12_laysSlips_118 kr_at_375 (fun M3 => ?_)
  refine kr_iinc (j := 3) (v := (l4 + (1 : Int32))) (lv' := [(4, .int (l4 + (1 : Int32))), (0, kr_r E 346), (2, .int l2), (3, .int l3)]) dX12_laysSlips_119 rfl rfl (by decide) rfl ?_
  refine kr_goto (tgt := 46) dX12_laysSlips_122 (by decide) ?_
  refine kr_sub [1, 2, 3, 0] rfl ?_
  exact hk_46 (l4 + (1 : Int32)) M3
theorem r_X12_laysSlips_99 (E : kr_E) (k_46 : Int32 → kr_M → Option kr_M) (l2 : Int32) (l3 : Int32) (l4 : Int32) (s0 : Int32) (hk_46 : ∀ (x4 : Int32) (M : kr_M), kR kr_vv E Y_X12_laysSlips 5 46 [(0, kr_r E 346), (2, .int l2), (3, .int l3), (4, .int x4)] [] M (k_46 x4 M)) (M : kr_M) : kR kr_vv E Y_X12_laysSlips 5 99 [(0, kr_r E 346), (2, .int l2), (3, .int l3), (4, .int l4)] [.int s0, kr_r E 374] M (f_X12_laysSlips_99 k_46 l2 l4 s0 M) := by
  rw [f_X12_laysSlips_99]
  refine kr_iconst (v := 0) dX12_laysSlips_99 (by decide) ?_
  refine kr_sub [0, 1, 2, 3] rfl ?_
  exact r_X12_laysSlips_100 E _ l2 l3 l4 (0 : Int32) s0 hk_46 M
theorem r_X12_laysSlips_46 (E : kr_E) (k_28 : Int32 → kr_M → Option kr_M) (l2 : Int32) (l3 : Int32) (hk_28 : ∀ (x2 : Int32) (M : kr_M), kR kr_vv E Y_X12_laysSlips 5 28 [(0, kr_r E 346), (2, .int x2)] [] M (k_28 x2 M)) : ∀ (n : Nat) (l4 : Int32) (M : kr_M), kR kr_vv E Y_X12_laysSlips 5 46 [(0, kr_r E 346), (2, .int l2), (3, .int l3), (4, .int l4)] [] M (f_X12_laysSlips_46 k_28 l2 l3 n l4 M) := by
  intro n
  induction n with
  | zero => intro l4 M; exact kr_none
  | succ n ih =>
    intro l4 M
    rw [f_X12_laysSlips_46]
    refine kr_iload dX12_laysSlips_46 3 rfl ?_
    refine kr_aload_n dX12_laysSlips_48 rfl 0 rfl ?_
    refine kr_getA (o := 7) (ci := 12) (j := 17) dX12_laysSlips_49 kr_at_346 fl_RX12_34 rfl ?_
    refine kr_iconst (v := 3) dX12_laysSlips_52 (by decide) ?_
    refine kr_iald dX12_laysSlips_53 kr_at_353 (fun v1 => ?_)
    refine kr_icmp_ge (tgt := 125) dX12_laysSlips_54 (by decide) ?_ ?_
    · refine kr_sub [0, 1, 2] rfl ?_
      exact r_X12_laysSlips_125 E _ l2 l3 hk_28 M
    · refine kr_aload_n dX12_laysSlips_57 rfl 0 rfl ?_
      refine kr_getA (o := 22) (ci := 12) (j := 33) dX12_laysSlips_58 kr_at_346 fl_RX12_80 rfl ?_
      refine kr_iload_n dX12_laysSlips_61 rfl 1 rfl ?_
      refine kr_iload dX12_laysSlips_62 3 rfl ?_
      refine kr_iast dX12_laysSlips_64 kr_at_368 (fun M2 => ?_)
      refine kr_aload_n dX12_laysSlips_65 rfl 0 rfl ?_
      refine kr_Vv (As := []) (st := []) zv_X12_readings dX12_laysSlips_66 ml_RX12_361 kr_at_346 (r_X12_readings E  M2) rfl rfl (Nat.le_of_ble_eq_true rfl) rfl (by decide) (Nat.le_of_ble_eq_true rfl) (fun M3 => ?_)
      refine kr_aload_n dX12_laysSlips_69 rfl 0 rfl ?_
      refine kr_getA (o := 28) (ci := 12) (j := 40) dX12_laysSlips_70 kr_at_346 fl_RX12_99 rfl ?_
      refine kr_bipush (v := 6) dX12_laysSlips_73 (by decide) ?_
      refine kr_iload_n dX12_laysSlips_75 rfl 1 rfl ?_
      refine kr_imul dX12_laysSlips_76 ?_
      refine kr_iload dX12_laysSlips_77 3 rfl ?_
      refine kr_iadd dX12_laysSlips_79 ?_
      refine kr_iload dX12_laysSlips_80 3 rfl ?_
      refine kr_iload_n dX12_laysSlips_82 rfl 2 rfl ?_
      refine kr_icmp_eq (tgt := 99) dX12_laysSlips_83 (by decide) ?_ ?_
      · refine kr_sub [0, 1, 2, 3] rfl ?_
        exact r_X12_laysSlips_99 E _ l2 l3 l4 (((6 : Int32) * l2) + l4) ih M3
      · refine kr_aload_n dX12_laysSlips_86 rfl 0 rfl ?_
        refine kr_getA (o := 23) (ci := 12) (j := 35) dX12_laysSlips_87 kr_at_346 fl_RX12_83 rfl ?_
        refine kr_iconst (v := 0) dX12_laysSlips_90 (by decide) ?_
        refine kr_iald dX12_laysSlips_91 kr_at_369 (fun v5 => ?_)
        refine kr_if_le (tgt := 99) dX12_laysSlips_92 (by decide) ?_ ?_
        · refine kr_sub [0, 1, 2, 3] rfl ?_
          exact r_X12_laysSlips_99 E _ l2 l3 l4 (((6 : Int32) * l2) + l4) ih M3
        · refine kr_iconst (v := 1) dX12_laysSlips_95 (by decide) ?_
          refine kr_goto (tgt := 100) dX12_laysSlips_96 (by decide) ?_
          refine kr_sub [0, 1, 2, 3] rfl ?_
          exact r_X12_laysSlips_100 E _ l2 l3 l4 (1 : Int32) (((6 : Int32) * l2) + l4) ih M3
theorem r_X12_laysSlips_28 (E : kr_E)    : ∀ (n : Nat) (l2 : Int32) (M : kr_M), kR kr_vv E Y_X12_laysSlips 5 28 [(0, kr_r E 346), (2, .int l2)] [] M (f_X12_laysSlips_28 n l2 M) := by
  intro n
  induction n with
  | zero => intro l2 M; exact kr_none
  | succ n ih =>
    intro l2 M
    rw [f_X12_laysSlips_28]
    refine kr_iload_n dX12_laysSlips_28 rfl 1 rfl ?_
    refine kr_aload_n dX12_laysSlips_29 rfl 0 rfl ?_
    refine kr_getI (ci := 12) (j := 34) dX12_laysSlips_30 kr_at_346 fl_RX12_351 rfl (fun v1 => ?_)
    refine kr_icmp_ge (tgt := 138) dX12_laysSlips_33 (by decide) ?_ ?_
    · exact kr_vret dX12_laysSlips_138 rfl
    · refine kr_aload_n dX12_laysSlips_36 rfl 0 rfl ?_
      refine kr_getA (o := 22) (ci := 12) (j := 33) dX12_laysSlips_37 kr_at_346 fl_RX12_80 rfl ?_
      refine kr_iload_n dX12_laysSlips_40 rfl 1 rfl ?_
      refine kr_iald dX12_laysSlips_41 kr_at_368 (fun v2 => ?_)
      refine kr_istore_n (lv' := [(3, .int v2), (0, kr_r E 346), (2, .int l2)]) dX12_laysSlips_42 rfl (by decide) rfl ?_
      refine kr_iconst (v := 0) dX12_laysSlips_43 (by decide) ?_
      refine kr_istore (lv' := [(4, .int (0 : Int32)), (3, .int v2), (0, kr_r E 346), (2, .int l2)]) dX12_laysSlips_44 (by decide) rfl ?_
      refine kr_sub [2, 3, 1, 0] rfl ?_
      exact r_X12_laysSlips_46 E _ l2 v2 ih _ (0 : Int32) M
theorem r_X12_laysSlips (E : kr_E) (p1 : Int32) (M : kr_M) : kR kr_vv E Y_X12_laysSlips 5 0 [(0, kr_r E 346), (1, .int p1)] [] M (f_X12_laysSlips p1 M) := by
  rw [f_X12_laysSlips]
  refine kr_aload_n dX12_laysSlips_0 rfl 0 rfl ?_
  refine kr_iload_n dX12_laysSlips_1 rfl 1 rfl ?_
  refine kr_iconst (v := 0) dX12_laysSlips_2 (by decide) ?_
  refine kr_Vv (As := [.int p1, .int (0 : Int32)]) (st := []) zv_X12_reads0 dX12_laysSlips_3 ml_RX12_367 kr_at_346 (r_X12_reads0 E p1 (0 : Int32) M) rfl rfl (Nat.le_of_ble_eq_true rfl) rfl (by decide) (Nat.le_of_ble_eq_true rfl) (fun M1 => ?_)
  refine kr_aload_n dX12_laysSlips_6 rfl 0 rfl ?_
  refine kr_aload_n dX12_laysSlips_7 rfl 0 rfl ?_
  refine kr_getA (o := 23) (ci := 12) (j := 35) dX12_laysSlips_8 kr_at_346 fl_RX12_83 rfl ?_
  refine kr_iconst (v := 0) dX12_laysSlips_11 (by decide) ?_
  refine kr_iald dX12_laysSlips_12 kr_at_369 (fun v3 => ?_)
  refine kr_putI (ci := 12) (j := 42) dX12_laysSlips_13 kr_at_346 fl_RX12_394 rfl rfl (fun M4 => ?_)
  refine kr_aload_n dX12_laysSlips_16 rfl 0 rfl ?_
  refine kr_aload_n dX12_laysSlips_17 rfl 0 rfl ?_
  refine kr_getA (o := 24) (ci := 12) (j := 36) dX12_laysSlips_18 kr_at_346 fl_RX12_86 rfl ?_
  refine kr_iconst (v := 0) dX12_laysSlips_21 (by decide) ?_
  refine kr_iald dX12_laysSlips_22 kr_at_370 (fun v5 => ?_)
  refine kr_putI (ci := 12) (j := 43) dX12_laysSlips_23 kr_at_346 fl_RX12_397 rfl rfl (fun M6 => ?_)
  refine kr_iconst (v := 0) dX12_laysSlips_26 (by decide) ?_
  refine kr_istore_n (lv' := [(2, .int (0 : Int32)), (0, kr_r E 346), (1, .int p1)]) dX12_laysSlips_27 rfl (by decide) rfl ?_
  refine kr_sub [1, 0] rfl ?_
  exact r_X12_laysSlips_28 E _ (0 : Int32) M6
theorem dX12_slipsAt_0 : decode cX12_slipsAt 0 = .ok (.iconst 0, 1) := by decide +kernel
theorem dX12_slipsAt_1 : decode cX12_slipsAt 1 = .ok (.istore_n 2, 1) := by decide +kernel
theorem dX12_slipsAt_2 : decode cX12_slipsAt 2 = .ok (.iconst 0, 1) := by decide +kernel
theorem dX12_slipsAt_3 : decode cX12_slipsAt 3 = .ok (.istore_n 3, 1) := by decide +kernel
theorem dX12_slipsAt_4 : decode cX12_slipsAt 4 = .ok (.iload_n 3, 1) := by decide +kernel
theorem dX12_slipsAt_5 : decode cX12_slipsAt 5 = .ok (.aload_n 0, 1) := by decide +kernel
theorem dX12_slipsAt_6 : decode cX12_slipsAt 6 = .ok (.getfield 34, 3) := by decide +kernel
theorem dX12_slipsAt_9 : decode cX12_slipsAt 9 = .ok (.iconst 3, 1) := by decide +kernel
theorem dX12_slipsAt_10 : decode cX12_slipsAt 10 = .ok (.iaload, 1) := by decide +kernel
theorem dX12_slipsAt_11 : decode cX12_slipsAt 11 = .ok (.if_icmp .ge 31, 3) := by decide +kernel
theorem dX12_slipsAt_14 : decode cX12_slipsAt 14 = .ok (.iload_n 2, 1) := by decide +kernel
theorem dX12_slipsAt_15 : decode cX12_slipsAt 15 = .ok (.aload_n 0, 1) := by decide +kernel
theorem dX12_slipsAt_16 : decode cX12_slipsAt 16 = .ok (.getfield 99, 3) := by decide +kernel
theorem dX12_slipsAt_19 : decode cX12_slipsAt 19 = .ok (.bipush 6, 2) := by decide +kernel
theorem dX12_slipsAt_21 : decode cX12_slipsAt 21 = .ok (.iload_n 1, 1) := by decide +kernel
theorem dX12_slipsAt_22 : decode cX12_slipsAt 22 = .ok (.imul, 1) := by decide +kernel
theorem dX12_slipsAt_23 : decode cX12_slipsAt 23 = .ok (.iload_n 3, 1) := by decide +kernel
theorem dX12_slipsAt_24 : decode cX12_slipsAt 24 = .ok (.iadd, 1) := by decide +kernel
theorem dX12_slipsAt_25 : decode cX12_slipsAt 25 = .ok (.baload, 1) := by decide +kernel
theorem dX12_slipsAt_26 : decode cX12_slipsAt 26 = .ok (.ifCond .eq 7, 3) := by decide +kernel
theorem dX12_slipsAt_29 : decode cX12_slipsAt 29 = .ok (.iconst 1, 1) := by decide +kernel
theorem dX12_slipsAt_30 : decode cX12_slipsAt 30 = .ok (.goto 4, 3) := by decide +kernel
theorem dX12_slipsAt_33 : decode cX12_slipsAt 33 = .ok (.iconst 0, 1) := by decide +kernel
theorem dX12_slipsAt_34 : decode cX12_slipsAt 34 = .ok (.iadd, 1) := by decide +kernel
theorem dX12_slipsAt_35 : decode cX12_slipsAt 35 = .ok (.istore_n 2, 1) := by decide +kernel
theorem dX12_slipsAt_36 : decode cX12_slipsAt 36 = .ok (.iinc 3 1, 3) := by decide +kernel
theorem dX12_slipsAt_39 : decode cX12_slipsAt 39 = .ok (.goto (-35), 3) := by decide +kernel
theorem dX12_slipsAt_42 : decode cX12_slipsAt 42 = .ok (.iload_n 2, 1) := by decide +kernel
theorem dX12_slipsAt_43 : decode cX12_slipsAt 43 = .ok (.ireturn, 1) := by decide +kernel
theorem r_X12_slipsAt_34 (E : kr_E) (k_4 : Int32 → Int32 → kr_M → Option (Int32 × kr_M)) (l1 : Int32) (l3 : Int32) (s0 : Int32) (s1 : Int32) (hk_4 : ∀ (x2 : Int32) (x3 : Int32) (M : kr_M), kR kr_vi E Y_X12_slipsAt 1 4 [(0, kr_r E 346), (1, .int l1), (2, .int x2), (3, .int x3)] [] M (k_4 x2 x3 M)) (M : kr_M) : kR kr_vi E Y_X12_slipsAt 1 34 [(0, kr_r E 346), (1, .int l1), (3, .int l3)] [.int s0, .int s1] M (f_X12_slipsAt_34 k_4 l3 s0 s1 M) := by
  rw [f_X12_slipsAt_34]
  refine kr_iadd dX12_slipsAt_34 ?_
  refine kr_nmi (fun v1 => ?_)
  refine kr_istore_n (lv' := [(2, .int v1), (0, kr_r E 346), (1, .int l1), (3, .int l3)]) dX12_slipsAt_35 rfl (by decide) rfl ?_
  refine kr_iinc (j := 3) (v := (l3 + (1 : Int32))) (lv' := [(3, .int (l3 + (1 : Int32))), (2, .int v1), (0, kr_r E 346), (1, .int l1)]) dX12_slipsAt_36 rfl rfl (by decide) rfl ?_
  refine kr_goto (tgt := 4) dX12_slipsAt_39 (by decide) ?_
  refine kr_sub [2, 3, 1, 0] rfl ?_
  exact hk_4 v1 (l3 + (1 : Int32)) M
theorem r_X12_slipsAt_4 (E : kr_E)  (l1 : Int32)  : ∀ (n : Nat) (l2 : Int32) (l3 : Int32) (M : kr_M), kR kr_vi E Y_X12_slipsAt 1 4 [(0, kr_r E 346), (1, .int l1), (2, .int l2), (3, .int l3)] [] M (f_X12_slipsAt_4 l1 n l2 l3 M) := by
  intro n
  induction n with
  | zero => intro l2 l3 M; exact kr_none
  | succ n ih =>
    intro l2 l3 M
    rw [f_X12_slipsAt_4]
    refine kr_iload_n dX12_slipsAt_4 rfl 3 rfl ?_
    refine kr_aload_n dX12_slipsAt_5 rfl 0 rfl ?_
    refine kr_getA (o := 7) (ci := 12) (j := 17) dX12_slipsAt_6 kr_at_346 fl_RX12_34 rfl ?_
    refine kr_iconst (v := 3) dX12_slipsAt_9 (by decide) ?_
    refine kr_iald dX12_slipsAt_10 kr_at_353 (fun v1 => ?_)
    refine kr_icmp_ge (tgt := 42) dX12_slipsAt_11 (by decide) ?_ ?_
    · refine kr_iload_n dX12_slipsAt_42 rfl 2 rfl ?_
      exact kr_iret dX12_slipsAt_43 rfl
    · refine kr_iload_n dX12_slipsAt_14 rfl 2 rfl ?_
      refine kr_aload_n dX12_slipsAt_15 rfl 0 rfl ?_
      refine kr_getA (o := 28) (ci := 12) (j := 40) dX12_slipsAt_16 kr_at_346 fl_RX12_99 rfl ?_
      refine kr_bipush (v := 6) dX12_slipsAt_19 (by decide) ?_
      refine kr_iload_n dX12_slipsAt_21 rfl 1 rfl ?_
      refine kr_imul dX12_slipsAt_22 ?_
      refine kr_iload_n dX12_slipsAt_23 rfl 3 rfl ?_
      refine kr_iadd dX12_slipsAt_24 ?_
      refine kr_zald dX12_slipsAt_25 kr_at_374 (fun v2 => ?_)
      refine kr_if_eq (tgt := 33) dX12_slipsAt_26 (by decide) ?_ ?_
      · refine kr_iconst (v := 0) dX12_slipsAt_33 (by decide) ?_
        refine kr_sub [0, 1, 3] rfl ?_
        exact r_X12_slipsAt_34 E _ l1 l3 (0 : Int32) l2 ih M
      · refine kr_iconst (v := 1) dX12_slipsAt_29 (by decide) ?_
        refine kr_goto (tgt := 34) dX12_slipsAt_30 (by decide) ?_
        refine kr_sub [0, 1, 3] rfl ?_
        exact r_X12_slipsAt_34 E _ l1 l3 (1 : Int32) l2 ih M
theorem r_X12_slipsAt (E : kr_E) (p1 : Int32) (M : kr_M) : kR kr_vi E Y_X12_slipsAt 1 0 [(0, kr_r E 346), (1, .int p1)] [] M (f_X12_slipsAt p1 M) := by
  rw [f_X12_slipsAt]
  refine kr_iconst (v := 0) dX12_slipsAt_0 (by decide) ?_
  refine kr_istore_n (lv' := [(2, .int (0 : Int32)), (0, kr_r E 346), (1, .int p1)]) dX12_slipsAt_1 rfl (by decide) rfl ?_
  refine kr_iconst (v := 0) dX12_slipsAt_2 (by decide) ?_
  refine kr_istore_n (lv' := [(3, .int (0 : Int32)), (2, .int (0 : Int32)), (0, kr_r E 346), (1, .int p1)]) dX12_slipsAt_3 rfl (by decide) rfl ?_
  refine kr_sub [2, 3, 1, 0] rfl ?_
  exact r_X12_slipsAt_4 E p1 _ (0 : Int32) (0 : Int32) M
theorem dX12_slipsAll_0 : decode cX12_slipsAll 0 = .ok (.iconst 0, 1) := by decide +kernel
theorem dX12_slipsAll_1 : decode cX12_slipsAll 1 = .ok (.istore_n 1, 1) := by decide +kernel
theorem dX12_slipsAll_2 : decode cX12_slipsAll 2 = .ok (.iconst 0, 1) := by decide +kernel
theorem dX12_slipsAll_3 : decode cX12_slipsAll 3 = .ok (.istore_n 2, 1) := by decide +kernel
theorem dX12_slipsAll_4 : decode cX12_slipsAll 4 = .ok (.iload_n 2, 1) := by decide +kernel
theorem dX12_slipsAll_5 : decode cX12_slipsAll 5 = .ok (.aload_n 0, 1) := by decide +kernel
theorem dX12_slipsAll_6 : decode cX12_slipsAll 6 = .ok (.getfield 351, 3) := by decide +kernel
theorem dX12_slipsAll_9 : decode cX12_slipsAll 9 = .ok (.if_icmp .ge 17, 3) := by decide +kernel
theorem dX12_slipsAll_12 : decode cX12_slipsAll 12 = .ok (.iload_n 1, 1) := by decide +kernel
theorem dX12_slipsAll_13 : decode cX12_slipsAll 13 = .ok (.aload_n 0, 1) := by decide +kernel
theorem dX12_slipsAll_14 : decode cX12_slipsAll 14 = .ok (.iload_n 2, 1) := by decide +kernel
theorem dX12_slipsAll_15 : decode cX12_slipsAll 15 = .ok (.invokevirtual 400, 3) := by decide +kernel
theorem dX12_slipsAll_18 : decode cX12_slipsAll 18 = .ok (.iadd, 1) := by decide +kernel
theorem dX12_slipsAll_19 : decode cX12_slipsAll 19 = .ok (.istore_n 1, 1) := by decide +kernel
theorem dX12_slipsAll_20 : decode cX12_slipsAll 20 = .ok (.iinc 2 1, 3) := by decide +kernel
theorem dX12_slipsAll_23 : decode cX12_slipsAll 23 = .ok (.goto (-19), 3) := by decide +kernel
theorem dX12_slipsAll_26 : decode cX12_slipsAll 26 = .ok (.iload_n 1, 1) := by decide +kernel
theorem dX12_slipsAll_27 : decode cX12_slipsAll 27 = .ok (.ireturn, 1) := by decide +kernel
theorem r_X12_slipsAll_4 (E : kr_E)    : ∀ (n : Nat) (l1 : Int32) (l2 : Int32) (M : kr_M), kR kr_vi E Y_X12_slipsAll 2 4 [(0, kr_r E 346), (1, .int l1), (2, .int l2)] [] M (f_X12_slipsAll_4 n l1 l2 M) := by
  intro n
  induction n with
  | zero => intro l1 l2 M; exact kr_none
  | succ n ih =>
    intro l1 l2 M
    rw [f_X12_slipsAll_4]
    refine kr_iload_n dX12_slipsAll_4 rfl 2 rfl ?_
    refine kr_aload_n dX12_slipsAll_5 rfl 0 rfl ?_
    refine kr_getI (ci := 12) (j := 34) dX12_slipsAll_6 kr_at_346 fl_RX12_351 rfl (fun v1 => ?_)
    refine kr_icmp_ge (tgt := 26) dX12_slipsAll_9 (by decide) ?_ ?_
    · refine kr_iload_n dX12_slipsAll_26 rfl 1 rfl ?_
      exact kr_iret dX12_slipsAll_27 rfl
    · refine kr_iload_n dX12_slipsAll_12 rfl 1 rfl ?_
      refine kr_aload_n dX12_slipsAll_13 rfl 0 rfl ?_
      refine kr_iload_n dX12_slipsAll_14 rfl 2 rfl ?_
      refine kr_Vi (As := [.int l2]) (st := [.int l1]) zv_X12_slipsAt dX12_slipsAll_15 ml_RX12_400 kr_at_346 (r_X12_slipsAt E l2 M) rfl rfl (Nat.le_of_ble_eq_true rfl) rfl (by decide) (Nat.le_of_ble_eq_true rfl) (fun r3 M2 => ?_)
      refine kr_iadd dX12_slipsAll_18 ?_
      refine kr_nmi (fun v4 => ?_)
      refine kr_istore_n (lv' := [(1, .int v4), (0, kr_r E 346), (2, .int l2)]) dX12_slipsAll_19 rfl (by decide) rfl ?_
      refine kr_iinc (j := 2) (v := (l2 + (1 : Int32))) (lv' := [(2, .int (l2 + (1 : Int32))), (1, .int v4), (0, kr_r E 346)]) dX12_slipsAll_20 rfl rfl (by decide) rfl ?_
      refine kr_goto (tgt := 4) dX12_slipsAll_23 (by decide) ?_
      refine kr_sub [2, 1, 0] rfl ?_
      exact ih v4 (l2 + (1 : Int32)) M2
theorem r_X12_slipsAll (E : kr_E)  (M : kr_M) : kR kr_vi E Y_X12_slipsAll 2 0 [(0, kr_r E 346)] [] M (f_X12_slipsAll M) := by
  rw [f_X12_slipsAll]
  refine kr_iconst (v := 0) dX12_slipsAll_0 (by decide) ?_
  refine kr_istore_n (lv' := [(1, .int (0 : Int32)), (0, kr_r E 346)]) dX12_slipsAll_1 rfl (by decide) rfl ?_
  refine kr_iconst (v := 0) dX12_slipsAll_2 (by decide) ?_
  refine kr_istore_n (lv' := [(2, .int (0 : Int32)), (1, .int (0 : Int32)), (0, kr_r E 346)]) dX12_slipsAll_3 rfl (by decide) rfl ?_
  refine kr_sub [2, 1, 0] rfl ?_
  exact r_X12_slipsAll_4 E _ (0 : Int32) (0 : Int32) M
theorem dX12_slips_0 : decode cX12_slips 0 = .ok (.aload_n 0, 1) := by decide +kernel
theorem dX12_slips_1 : decode cX12_slips 1 = .ok (.iconst 0, 1) := by decide +kernel
theorem dX12_slips_2 : decode cX12_slips 2 = .ok (.putfield 138, 3) := by decide +kernel
theorem dX12_slips_5 : decode cX12_slips 5 = .ok (.aload_n 0, 1) := by decide +kernel
theorem dX12_slips_6 : decode cX12_slips 6 = .ok (.iload_n 1, 1) := by decide +kernel
theorem dX12_slips_7 : decode cX12_slips 7 = .ok (.invokevirtual 319, 3) := by decide +kernel
theorem dX12_slips_10 : decode cX12_slips 10 = .ok (.ifCond .ne 6, 3) := by decide +kernel
theorem dX12_slips_13 : decode cX12_slips 13 = .ok (.bipush (-2), 2) := by decide +kernel
theorem dX12_slips_15 : decode cX12_slips 15 = .ok (.ireturn, 1) := by decide +kernel
theorem dX12_slips_16 : decode cX12_slips 16 = .ok (.aload_n 0, 1) := by decide +kernel
theorem dX12_slips_17 : decode cX12_slips 17 = .ok (.iload_n 1, 1) := by decide +kernel
theorem dX12_slips_18 : decode cX12_slips 18 = .ok (.invokevirtual 403, 3) := by decide +kernel
theorem dX12_slips_21 : decode cX12_slips 21 = .ok (.aload_n 0, 1) := by decide +kernel
theorem dX12_slips_22 : decode cX12_slips 22 = .ok (.invokevirtual 406, 3) := by decide +kernel
theorem dX12_slips_25 : decode cX12_slips 25 = .ok (.ireturn, 1) := by decide +kernel
theorem r_X12_slips (E : kr_E) (p1 : Int32) (M : kr_M) : kR kr_vi E Y_X12_slips 6 0 [(0, kr_r E 346), (1, .int p1)] [] M (f_X12_slips p1 M) := by
  rw [f_X12_slips]
  refine kr_aload_n dX12_slips_0 rfl 0 rfl ?_
  refine kr_iconst (v := 0) dX12_slips_1 (by decide) ?_
  refine kr_putI (ci := 12) (j := 0) dX12_slips_2 kr_at_346 fl_RX12_138 rfl rfl (fun M1 => ?_)
  refine kr_aload_n dX12_slips_5 rfl 0 rfl ?_
  refine kr_iload_n dX12_slips_6 rfl 1 rfl ?_
  refine kr_Vi (As := [.int p1]) (st := []) zv_X12_isRope dX12_slips_7 ml_RX12_319 kr_at_346 (r_X12_isRope E p1 M1) rfl rfl (Nat.le_of_ble_eq_true rfl) rfl (by decide) (Nat.le_of_ble_eq_true rfl) (fun r3 M2 => ?_)
  refine kr_if_ne (tgt := 16) dX12_slips_10 (by decide) ?_ ?_
  · refine kr_aload_n dX12_slips_16 rfl 0 rfl ?_
    refine kr_iload_n dX12_slips_17 rfl 1 rfl ?_
    refine kr_Vv (As := [.int p1]) (st := []) zv_X12_laysSlips dX12_slips_18 ml_RX12_403 kr_at_346 (r_X12_laysSlips E p1 M2) rfl rfl (Nat.le_of_ble_eq_true rfl) rfl (by decide) (Nat.le_of_ble_eq_true rfl) (fun M4 => ?_)
    refine kr_aload_n dX12_slips_21 rfl 0 rfl ?_
    refine kr_Vi (As := []) (st := []) zv_X12_slipsAll dX12_slips_22 ml_RX12_406 kr_at_346 (r_X12_slipsAll E  M4) rfl rfl (Nat.le_of_ble_eq_true rfl) rfl (by decide) (Nat.le_of_ble_eq_true rfl) (fun r7 M6 => ?_)
    exact kr_iret dX12_slips_25 rfl
  · refine kr_bipush (v := -2) dX12_slips_13 (by decide) ?_
    exact kr_iret dX12_slips_15 rfl
theorem dX12_spots_0 : decode cX12_spots 0 = .ok (.aload_n 0, 1) := by decide +kernel
theorem dX12_spots_1 : decode cX12_spots 1 = .ok (.iconst 0, 1) := by decide +kernel
theorem dX12_spots_2 : decode cX12_spots 2 = .ok (.putfield 138, 3) := by decide +kernel
theorem dX12_spots_5 : decode cX12_spots 5 = .ok (.aload_n 0, 1) := by decide +kernel
theorem dX12_spots_6 : decode cX12_spots 6 = .ok (.iload_n 1, 1) := by decide +kernel
theorem dX12_spots_7 : decode cX12_spots 7 = .ok (.invokevirtual 319, 3) := by decide +kernel
theorem dX12_spots_10 : decode cX12_spots 10 = .ok (.ifCond .ne 6, 3) := by decide +kernel
theorem dX12_spots_13 : decode cX12_spots 13 = .ok (.bipush (-2), 2) := by decide +kernel
theorem dX12_spots_15 : decode cX12_spots 15 = .ok (.ireturn, 1) := by decide +kernel
theorem dX12_spots_16 : decode cX12_spots 16 = .ok (.aload_n 0, 1) := by decide +kernel
theorem dX12_spots_17 : decode cX12_spots 17 = .ok (.iload_n 1, 1) := by decide +kernel
theorem dX12_spots_18 : decode cX12_spots 18 = .ok (.invokevirtual 403, 3) := by decide +kernel
theorem dX12_spots_21 : decode cX12_spots 21 = .ok (.iconst 0, 1) := by decide +kernel
theorem dX12_spots_22 : decode cX12_spots 22 = .ok (.istore_n 2, 1) := by decide +kernel
theorem dX12_spots_23 : decode cX12_spots 23 = .ok (.iconst 0, 1) := by decide +kernel
theorem dX12_spots_24 : decode cX12_spots 24 = .ok (.istore_n 3, 1) := by decide +kernel
theorem dX12_spots_25 : decode cX12_spots 25 = .ok (.iload_n 3, 1) := by decide +kernel
theorem dX12_spots_26 : decode cX12_spots 26 = .ok (.aload_n 0, 1) := by decide +kernel
theorem dX12_spots_27 : decode cX12_spots 27 = .ok (.getfield 351, 3) := by decide +kernel
theorem dX12_spots_30 : decode cX12_spots 30 = .ok (.if_icmp .ge 27, 3) := by decide +kernel
theorem dX12_spots_33 : decode cX12_spots 33 = .ok (.iload_n 2, 1) := by decide +kernel
theorem dX12_spots_34 : decode cX12_spots 34 = .ok (.aload_n 0, 1) := by decide +kernel
theorem dX12_spots_35 : decode cX12_spots 35 = .ok (.iload_n 3, 1) := by decide +kernel
theorem dX12_spots_36 : decode cX12_spots 36 = .ok (.invokevirtual 400, 3) := by decide +kernel
theorem dX12_spots_39 : decode cX12_spots 39 = .ok (.ifCond .le 9, 3) := by decide +kernel
theorem dX12_spots_42 : decode cX12_spots 42 = .ok (.iconst 1, 1) := by decide +kernel
theorem dX12_spots_43 : decode cX12_spots 43 = .ok (.iload_n 3, 1) := by decide +kernel
theorem dX12_spots_44 : decode cX12_spots 44 = .ok (.ishl, 1) := by decide +kernel
theorem dX12_spots_45 : decode cX12_spots 45 = .ok (.goto 4, 3) := by decide +kernel
theorem dX12_spots_48 : decode cX12_spots 48 = .ok (.iconst 0, 1) := by decide +kernel
theorem dX12_spots_49 : decode cX12_spots 49 = .ok (.ior, 1) := by decide +kernel
theorem dX12_spots_50 : decode cX12_spots 50 = .ok (.istore_n 2, 1) := by decide +kernel
theorem dX12_spots_51 : decode cX12_spots 51 = .ok (.iinc 3 1, 3) := by decide +kernel
theorem dX12_spots_54 : decode cX12_spots 54 = .ok (.goto (-29), 3) := by decide +kernel
theorem dX12_spots_57 : decode cX12_spots 57 = .ok (.iload_n 2, 1) := by decide +kernel
theorem dX12_spots_58 : decode cX12_spots 58 = .ok (.ireturn, 1) := by decide +kernel
theorem r_X12_spots_49 (E : kr_E) (k_25 : Int32 → Int32 → kr_M → Option (Int32 × kr_M)) (l3 : Int32) (s0 : Int32) (s1 : Int32) (hk_25 : ∀ (x2 : Int32) (x3 : Int32) (M : kr_M), kR kr_vi E Y_X12_spots 6 25 [(0, kr_r E 346), (2, .int x2), (3, .int x3)] [] M (k_25 x2 x3 M)) (M : kr_M) : kR kr_vi E Y_X12_spots 6 49 [(0, kr_r E 346), (3, .int l3)] [.int s0, .int s1] M (f_X12_spots_49 k_25 l3 s0 s1 M) := by
  rw [f_X12_spots_49]
  refine kr_ior dX12_spots_49 ?_
  refine kr_nmi (fun v1 => ?_)
  refine kr_istore_n (lv' := [(2, .int v1), (0, kr_r E 346), (3, .int l3)]) dX12_spots_50 rfl (by decide) rfl ?_
  refine kr_iinc (j := 2) (v := (l3 + (1 : Int32))) (lv' := [(3, .int (l3 + (1 : Int32))), (2, .int v1), (0, kr_r E 346)]) dX12_spots_51 rfl rfl (by decide) rfl ?_
  refine kr_goto (tgt := 25) dX12_spots_54 (by decide) ?_
  refine kr_sub [2, 1, 0] rfl ?_
  exact hk_25 v1 (l3 + (1 : Int32)) M
theorem r_X12_spots_25 (E : kr_E)    : ∀ (n : Nat) (l2 : Int32) (l3 : Int32) (M : kr_M), kR kr_vi E Y_X12_spots 6 25 [(0, kr_r E 346), (2, .int l2), (3, .int l3)] [] M (f_X12_spots_25 n l2 l3 M) := by
  intro n
  induction n with
  | zero => intro l2 l3 M; exact kr_none
  | succ n ih =>
    intro l2 l3 M
    rw [f_X12_spots_25]
    refine kr_iload_n dX12_spots_25 rfl 2 rfl ?_
    refine kr_aload_n dX12_spots_26 rfl 0 rfl ?_
    refine kr_getI (ci := 12) (j := 34) dX12_spots_27 kr_at_346 fl_RX12_351 rfl (fun v1 => ?_)
    refine kr_icmp_ge (tgt := 57) dX12_spots_30 (by decide) ?_ ?_
    · refine kr_iload_n dX12_spots_57 rfl 1 rfl ?_
      exact kr_iret dX12_spots_58 rfl
    · refine kr_iload_n dX12_spots_33 rfl 1 rfl ?_
      refine kr_aload_n dX12_spots_34 rfl 0 rfl ?_
      refine kr_iload_n dX12_spots_35 rfl 2 rfl ?_
      refine kr_Vi (As := [.int l3]) (st := [.int l2]) zv_X12_slipsAt dX12_spots_36 ml_RX12_400 kr_at_346 (r_X12_slipsAt E l3 M) rfl rfl (Nat.le_of_ble_eq_true rfl) rfl (by decide) (Nat.le_of_ble_eq_true rfl) (fun r3 M2 => ?_)
      refine kr_if_le (tgt := 48) dX12_spots_39 (by decide) ?_ ?_
      · refine kr_iconst (v := 0) dX12_spots_48 (by decide) ?_
        refine kr_sub [0, 2] rfl ?_
        exact r_X12_spots_49 E _ l3 (0 : Int32) l2 ih M2
      · refine kr_iconst (v := 1) dX12_spots_42 (by decide) ?_
        refine kr_iload_n dX12_spots_43 rfl 2 rfl ?_
        refine kr_ishl dX12_spots_44 ?_
        refine kr_goto (tgt := 49) dX12_spots_45 (by decide) ?_
        refine kr_sub [0, 2] rfl ?_
        exact r_X12_spots_49 E _ l3 ((1 : Int32) <<< (l3 &&& 31)) l2 ih M2
theorem r_X12_spots (E : kr_E) (p1 : Int32) (M : kr_M) : kR kr_vi E Y_X12_spots 6 0 [(0, kr_r E 346), (1, .int p1)] [] M (f_X12_spots p1 M) := by
  rw [f_X12_spots]
  refine kr_aload_n dX12_spots_0 rfl 0 rfl ?_
  refine kr_iconst (v := 0) dX12_spots_1 (by decide) ?_
  refine kr_putI (ci := 12) (j := 0) dX12_spots_2 kr_at_346 fl_RX12_138 rfl rfl (fun M1 => ?_)
  refine kr_aload_n dX12_spots_5 rfl 0 rfl ?_
  refine kr_iload_n dX12_spots_6 rfl 1 rfl ?_
  refine kr_Vi (As := [.int p1]) (st := []) zv_X12_isRope dX12_spots_7 ml_RX12_319 kr_at_346 (r_X12_isRope E p1 M1) rfl rfl (Nat.le_of_ble_eq_true rfl) rfl (by decide) (Nat.le_of_ble_eq_true rfl) (fun r3 M2 => ?_)
  refine kr_if_ne (tgt := 16) dX12_spots_10 (by decide) ?_ ?_
  · refine kr_aload_n dX12_spots_16 rfl 0 rfl ?_
    refine kr_iload_n dX12_spots_17 rfl 1 rfl ?_
    refine kr_Vv (As := [.int p1]) (st := []) zv_X12_laysSlips dX12_spots_18 ml_RX12_403 kr_at_346 (r_X12_laysSlips E p1 M2) rfl rfl (Nat.le_of_ble_eq_true rfl) rfl (by decide) (Nat.le_of_ble_eq_true rfl) (fun M4 => ?_)
    refine kr_iconst (v := 0) dX12_spots_21 (by decide) ?_
    refine kr_istore_n (lv' := [(2, .int (0 : Int32)), (0, kr_r E 346), (1, .int p1)]) dX12_spots_22 rfl (by decide) rfl ?_
    refine kr_iconst (v := 0) dX12_spots_23 (by decide) ?_
    refine kr_istore_n (lv' := [(3, .int (0 : Int32)), (2, .int (0 : Int32)), (0, kr_r E 346), (1, .int p1)]) dX12_spots_24 rfl (by decide) rfl ?_
    refine kr_sub [2, 1, 0] rfl ?_
    exact r_X12_spots_25 E _ (0 : Int32) (0 : Int32) M4
  · refine kr_bipush (v := -2) dX12_spots_13 (by decide) ?_
    exact kr_iret dX12_spots_15 rfl
theorem dX12_laysFeel_0 : decode cX12_laysFeel 0 = .ok (.aload_n 0, 1) := by decide +kernel
theorem dX12_laysFeel_1 : decode cX12_laysFeel 1 = .ok (.iload_n 1, 1) := by decide +kernel
theorem dX12_laysFeel_2 : decode cX12_laysFeel 2 = .ok (.invokevirtual 403, 3) := by decide +kernel
theorem dX12_laysFeel_5 : decode cX12_laysFeel 5 = .ok (.aload_n 0, 1) := by decide +kernel
theorem dX12_laysFeel_6 : decode cX12_laysFeel 6 = .ok (.invokevirtual 406, 3) := by decide +kernel
theorem dX12_laysFeel_9 : decode cX12_laysFeel 9 = .ok (.aload_n 0, 1) := by decide +kernel
theorem dX12_laysFeel_10 : decode cX12_laysFeel 10 = .ok (.getfield 394, 3) := by decide +kernel
theorem dX12_laysFeel_13 : decode cX12_laysFeel 13 = .ok (.ifCond .le 7, 3) := by decide +kernel
theorem dX12_laysFeel_16 : decode cX12_laysFeel 16 = .ok (.iconst 1, 1) := by decide +kernel
theorem dX12_laysFeel_17 : decode cX12_laysFeel 17 = .ok (.goto 4, 3) := by decide +kernel
theorem dX12_laysFeel_20 : decode cX12_laysFeel 20 = .ok (.iconst 0, 1) := by decide +kernel
theorem dX12_laysFeel_21 : decode cX12_laysFeel 21 = .ok (.iadd, 1) := by decide +kernel
theorem dX12_laysFeel_22 : decode cX12_laysFeel 22 = .ok (.istore_n 2, 1) := by decide +kernel
theorem dX12_laysFeel_23 : decode cX12_laysFeel 23 = .ok (.aload_n 0, 1) := by decide +kernel
theorem dX12_laysFeel_24 : decode cX12_laysFeel 24 = .ok (.iconst (-1), 1) := by decide +kernel
theorem dX12_laysFeel_25 : decode cX12_laysFeel 25 = .ok (.putfield 409, 3) := by decide +kernel
theorem dX12_laysFeel_28 : decode cX12_laysFeel 28 = .ok (.aload_n 0, 1) := by decide +kernel
theorem dX12_laysFeel_29 : decode cX12_laysFeel 29 = .ok (.iload_n 2, 1) := by decide +kernel
theorem dX12_laysFeel_30 : decode cX12_laysFeel 30 = .ok (.putfield 412, 3) := by decide +kernel
theorem dX12_laysFeel_33 : decode cX12_laysFeel 33 = .ok (.iconst 0, 1) := by decide +kernel
theorem dX12_laysFeel_34 : decode cX12_laysFeel 34 = .ok (.istore_n 3, 1) := by decide +kernel
theorem dX12_laysFeel_35 : decode cX12_laysFeel 35 = .ok (.iload_n 3, 1) := by decide +kernel
theorem dX12_laysFeel_36 : decode cX12_laysFeel 36 = .ok (.aload_n 0, 1) := by decide +kernel
theorem dX12_laysFeel_37 : decode cX12_laysFeel 37 = .ok (.getfield 351, 3) := by decide +kernel
theorem dX12_laysFeel_40 : decode cX12_laysFeel 40 = .ok (.if_icmp .ge 62, 3) := by decide +kernel
theorem dX12_laysFeel_43 : decode cX12_laysFeel 43 = .ok (.iload_n 2, 1) := by decide +kernel
theorem dX12_laysFeel_44 : decode cX12_laysFeel 44 = .ok (.aload_n 0, 1) := by decide +kernel
theorem dX12_laysFeel_45 : decode cX12_laysFeel 45 = .ok (.iload_n 3, 1) := by decide +kernel
theorem dX12_laysFeel_46 : decode cX12_laysFeel 46 = .ok (.invokevirtual 400, 3) := by decide +kernel
theorem dX12_laysFeel_49 : decode cX12_laysFeel 49 = .ok (.isub, 1) := by decide +kernel
theorem dX12_laysFeel_50 : decode cX12_laysFeel 50 = .ok (.istore 4, 2) := by decide +kernel
theorem dX12_laysFeel_52 : decode cX12_laysFeel 52 = .ok (.iload 4, 2) := by decide +kernel
theorem dX12_laysFeel_54 : decode cX12_laysFeel 54 = .ok (.ifCond .ne 15, 3) := by decide +kernel
theorem dX12_laysFeel_57 : decode cX12_laysFeel 57 = .ok (.aload_n 0, 1) := by decide +kernel
theorem dX12_laysFeel_58 : decode cX12_laysFeel 58 = .ok (.iload_n 3, 1) := by decide +kernel
theorem dX12_laysFeel_59 : decode cX12_laysFeel 59 = .ok (.invokevirtual 400, 3) := by decide +kernel
theorem dX12_laysFeel_62 : decode cX12_laysFeel 62 = .ok (.ifCond .le 7, 3) := by decide +kernel
theorem dX12_laysFeel_65 : decode cX12_laysFeel 65 = .ok (.iconst 1, 1) := by decide +kernel
theorem dX12_laysFeel_66 : decode cX12_laysFeel 66 = .ok (.goto 5, 3) := by decide +kernel
theorem dX12_laysFeel_69 : decode cX12_laysFeel 69 = .ok (.iload 4, 2) := by decide +kernel
theorem dX12_laysFeel_71 : decode cX12_laysFeel 71 = .ok (.istore 4, 2) := by decide +kernel
theorem dX12_laysFeel_73 : decode cX12_laysFeel 73 = .ok (.iload 4, 2) := by decide +kernel
theorem dX12_laysFeel_75 : decode cX12_laysFeel 75 = .ok (.aload_n 0, 1) := by decide +kernel
theorem dX12_laysFeel_76 : decode cX12_laysFeel 76 = .ok (.getfield 412, 3) := by decide +kernel
theorem dX12_laysFeel_79 : decode cX12_laysFeel 79 = .ok (.if_icmp .lt 6, 3) := by decide +kernel
theorem dX12_laysFeel_82 : decode cX12_laysFeel 82 = .ok (.goto 14, 3) := by decide +kernel
theorem dX12_laysFeel_85 : decode cX12_laysFeel 85 = .ok (.aload_n 0, 1) := by decide +kernel
theorem dX12_laysFeel_86 : decode cX12_laysFeel 86 = .ok (.iload_n 3, 1) := by decide +kernel
theorem dX12_laysFeel_87 : decode cX12_laysFeel 87 = .ok (.putfield 409, 3) := by decide +kernel
theorem dX12_laysFeel_90 : decode cX12_laysFeel 90 = .ok (.aload_n 0, 1) := by decide +kernel
theorem dX12_laysFeel_91 : decode cX12_laysFeel 91 = .ok (.iload 4, 2) := by decide +kernel
theorem dX12_laysFeel_93 : decode cX12_laysFeel 93 = .ok (.putfield 412, 3) := by decide +kernel
theorem dX12_laysFeel_96 : decode cX12_laysFeel 96 = .ok (.iinc 3 1, 3) := by decide +kernel
theorem dX12_laysFeel_99 : decode cX12_laysFeel 99 = .ok (.goto (-64), 3) := by decide +kernel
theorem dX12_laysFeel_102 : decode cX12_laysFeel 102 = .ok (.return_, 1) := by decide +kernel
theorem r_X12_laysFeel_96 (E : kr_E) (k_35 : Int32 → kr_M → Option kr_M) (l2 : Int32) (l3 : Int32) (hk_35 : ∀ (x3 : Int32) (M : kr_M), kR kr_vv E Y_X12_laysFeel 6 35 [(0, kr_r E 346), (2, .int l2), (3, .int x3)] [] M (k_35 x3 M)) (M : kr_M) : kR kr_vv E Y_X12_laysFeel 6 96 [(0, kr_r E 346), (2, .int l2), (3, .int l3)] [] M (f_X12_laysFeel_96 k_35 l3 M) := by
  rw [f_X12_laysFeel_96]
  refine kr_iinc (j := 2) (v := (l3 + (1 : Int32))) (lv' := [(3, .int (l3 + (1 : Int32))), (0, kr_r E 346), (2, .int l2)]) dX12_laysFeel_96 rfl rfl (by decide) rfl ?_
  refine kr_goto (tgt := 35) dX12_laysFeel_99 (by decide) ?_
  refine kr_sub [1, 2, 0] rfl ?_
  exact hk_35 (l3 + (1 : Int32)) M
theorem r_X12_laysFeel_71 (E : kr_E) (k_35 : Int32 → kr_M → Option kr_M) (l2 : Int32) (l3 : Int32) (s0 : Int32) (hk_35 : ∀ (x3 : Int32) (M : kr_M), kR kr_vv E Y_X12_laysFeel 6 35 [(0, kr_r E 346), (2, .int l2), (3, .int x3)] [] M (k_35 x3 M)) (M : kr_M) : kR kr_vv E Y_X12_laysFeel 6 71 [(0, kr_r E 346), (2, .int l2), (3, .int l3)] [.int s0] M (f_X12_laysFeel_71 k_35 l3 s0 M) := by
  rw [f_X12_laysFeel_71]
  refine kr_istore (lv' := [(4, .int s0), (0, kr_r E 346), (2, .int l2), (3, .int l3)]) dX12_laysFeel_71 (by decide) rfl ?_
  refine kr_iload dX12_laysFeel_73 0 rfl ?_
  refine kr_aload_n dX12_laysFeel_75 rfl 1 rfl ?_
  refine kr_getI (ci := 12) (j := 45) dX12_laysFeel_76 kr_at_346 fl_RX12_412 rfl (fun v1 => ?_)
  refine kr_icmp_lt (tgt := 85) dX12_laysFeel_79 (by decide) ?_ ?_
  · refine kr_aload_n dX12_laysFeel_85 rfl 1 rfl ?_
    refine kr_iload_n dX12_laysFeel_86 rfl 3 rfl ?_
    refine kr_putI (ci := 12) (j := 44) dX12_laysFeel_87 kr_at_346 fl_RX12_409 rfl rfl (fun M2 => ?_)
    refine kr_aload_n dX12_laysFeel_90 rfl 1 rfl ?_
    refine kr_iload dX12_laysFeel_91 0 rfl ?_
    refine kr_putI (ci := 12) (j := 45) dX12_laysFeel_93 kr_at_346 fl_RX12_412 rfl rfl (fun M3 => ?_)
    refine kr_sub [1, 2, 3] rfl ?_
    exact r_X12_laysFeel_96 E _ l2 l3 hk_35 M3
  · refine kr_goto (tgt := 96) dX12_laysFeel_82 (by decide) ?_
    refine kr_sub [1, 2, 3] rfl ?_
    exact r_X12_laysFeel_96 E _ l2 l3 hk_35 M
theorem r_X12_laysFeel_69 (E : kr_E) (k_35 : Int32 → kr_M → Option kr_M) (l2 : Int32) (l3 : Int32) (l4 : Int32) (hk_35 : ∀ (x3 : Int32) (M : kr_M), kR kr_vv E Y_X12_laysFeel 6 35 [(0, kr_r E 346), (2, .int l2), (3, .int x3)] [] M (k_35 x3 M)) (M : kr_M) : kR kr_vv E Y_X12_laysFeel 6 69 [(0, kr_r E 346), (2, .int l2), (3, .int l3), (4, .int l4)] [] M (f_X12_laysFeel_69 k_35 l3 l4 M) := by
  rw [f_X12_laysFeel_69]
  refine kr_iload dX12_laysFeel_69 3 rfl ?_
  refine kr_sub [0, 1, 2] rfl ?_
  exact r_X12_laysFeel_71 E _ l2 l3 l4 hk_35 M
theorem r_X12_laysFeel_35 (E : kr_E)  (l2 : Int32)  : ∀ (n : Nat) (l3 : Int32) (M : kr_M), kR kr_vv E Y_X12_laysFeel 6 35 [(0, kr_r E 346), (2, .int l2), (3, .int l3)] [] M (f_X12_laysFeel_35 l2 n l3 M) := by
  intro n
  induction n with
  | zero => intro l3 M; exact kr_none
  | succ n ih =>
    intro l3 M
    rw [f_X12_laysFeel_35]
    refine kr_iload_n dX12_laysFeel_35 rfl 2 rfl ?_
    refine kr_aload_n dX12_laysFeel_36 rfl 0 rfl ?_
    refine kr_getI (ci := 12) (j := 34) dX12_laysFeel_37 kr_at_346 fl_RX12_351 rfl (fun v1 => ?_)
    refine kr_icmp_ge (tgt := 102) dX12_laysFeel_40 (by decide) ?_ ?_
    · exact kr_vret dX12_laysFeel_102 rfl
    · refine kr_iload_n dX12_laysFeel_43 rfl 1 rfl ?_
      refine kr_aload_n dX12_laysFeel_44 rfl 0 rfl ?_
      refine kr_iload_n dX12_laysFeel_45 rfl 2 rfl ?_
      refine kr_Vi (As := [.int l3]) (st := [.int l2]) zv_X12_slipsAt dX12_laysFeel_46 ml_RX12_400 kr_at_346 (r_X12_slipsAt E l3 M) rfl rfl (Nat.le_of_ble_eq_true rfl) rfl (by decide) (Nat.le_of_ble_eq_true rfl) (fun r3 M2 => ?_)
      refine kr_isub dX12_laysFeel_49 ?_
      refine kr_nmi (fun v4 => ?_)
      refine kr_istore (lv' := [(4, .int v4), (0, kr_r E 346), (2, .int l2), (3, .int l3)]) dX12_laysFeel_50 (by decide) rfl ?_
      refine kr_iload dX12_laysFeel_52 0 rfl ?_
      refine kr_if_ne (tgt := 69) dX12_laysFeel_54 (by decide) ?_ ?_
      · refine kr_sub [1, 2, 3, 0] rfl ?_
        exact r_X12_laysFeel_69 E _ l2 l3 v4 ih M2
      · refine kr_aload_n dX12_laysFeel_57 rfl 1 rfl ?_
        refine kr_iload_n dX12_laysFeel_58 rfl 3 rfl ?_
        refine kr_Vi (As := [.int l3]) (st := []) zv_X12_slipsAt dX12_laysFeel_59 ml_RX12_400 kr_at_346 (r_X12_slipsAt E l3 M2) rfl rfl (Nat.le_of_ble_eq_true rfl) rfl (by decide) (Nat.le_of_ble_eq_true rfl) (fun r6 M5 => ?_)
        refine kr_if_le (tgt := 69) dX12_laysFeel_62 (by decide) ?_ ?_
        · refine kr_sub [1, 2, 3, 0] rfl ?_
          exact r_X12_laysFeel_69 E _ l2 l3 v4 ih M5
        · refine kr_iconst (v := 1) dX12_laysFeel_65 (by decide) ?_
          refine kr_goto (tgt := 71) dX12_laysFeel_66 (by decide) ?_
          refine kr_sub [1, 2, 3] rfl ?_
          exact r_X12_laysFeel_71 E _ l2 l3 (1 : Int32) ih M5
theorem r_X12_laysFeel_21 (E : kr_E)  (s0 : Int32) (s1 : Int32)  (M : kr_M) : kR kr_vv E Y_X12_laysFeel 6 21 [(0, kr_r E 346)] [.int s0, .int s1] M (f_X12_laysFeel_21 s0 s1 M) := by
  rw [f_X12_laysFeel_21]
  refine kr_iadd dX12_laysFeel_21 ?_
  refine kr_nmi (fun v1 => ?_)
  refine kr_istore_n (lv' := [(2, .int v1), (0, kr_r E 346)]) dX12_laysFeel_22 rfl (by decide) rfl ?_
  refine kr_aload_n dX12_laysFeel_23 rfl 1 rfl ?_
  refine kr_iconst (v := -1) dX12_laysFeel_24 (by decide) ?_
  refine kr_putI (ci := 12) (j := 44) dX12_laysFeel_25 kr_at_346 fl_RX12_409 rfl rfl (fun M2 => ?_)
  refine kr_aload_n dX12_laysFeel_28 rfl 1 rfl ?_
  refine kr_iload_n dX12_laysFeel_29 rfl 0 rfl ?_
  refine kr_putI (ci := 12) (j := 45) dX12_laysFeel_30 kr_at_346 fl_RX12_412 rfl rfl (fun M3 => ?_)
  refine kr_iconst (v := 0) dX12_laysFeel_33 (by decide) ?_
  refine kr_istore_n (lv' := [(3, .int (0 : Int32)), (2, .int v1), (0, kr_r E 346)]) dX12_laysFeel_34 rfl (by decide) rfl ?_
  refine kr_sub [2, 1, 0] rfl ?_
  exact r_X12_laysFeel_35 E v1 _ (0 : Int32) M3
theorem r_X12_laysFeel (E : kr_E) (p1 : Int32) (M : kr_M) : kR kr_vv E Y_X12_laysFeel 6 0 [(0, kr_r E 346), (1, .int p1)] [] M (f_X12_laysFeel p1 M) := by
  rw [f_X12_laysFeel]
  refine kr_aload_n dX12_laysFeel_0 rfl 0 rfl ?_
  refine kr_iload_n dX12_laysFeel_1 rfl 1 rfl ?_
  refine kr_Vv (As := [.int p1]) (st := []) zv_X12_laysSlips dX12_laysFeel_2 ml_RX12_403 kr_at_346 (r_X12_laysSlips E p1 M) rfl rfl (Nat.le_of_ble_eq_true rfl) rfl (by decide) (Nat.le_of_ble_eq_true rfl) (fun M1 => ?_)
  refine kr_aload_n dX12_laysFeel_5 rfl 0 rfl ?_
  refine kr_Vi (As := []) (st := []) zv_X12_slipsAll dX12_laysFeel_6 ml_RX12_406 kr_at_346 (r_X12_slipsAll E  M1) rfl rfl (Nat.le_of_ble_eq_true rfl) rfl (by decide) (Nat.le_of_ble_eq_true rfl) (fun r4 M3 => ?_)
  refine kr_aload_n dX12_laysFeel_9 rfl 0 rfl ?_
  refine kr_getI (ci := 12) (j := 42) dX12_laysFeel_10 kr_at_346 fl_RX12_394 rfl (fun v5 => ?_)
  refine kr_if_le (tgt := 20) dX12_laysFeel_13 (by decide) ?_ ?_
  · refine kr_iconst (v := 0) dX12_laysFeel_20 (by decide) ?_
    refine kr_sub [0] rfl ?_
    exact r_X12_laysFeel_21 E (0 : Int32) r4 M3
  · refine kr_iconst (v := 1) dX12_laysFeel_16 (by decide) ?_
    refine kr_goto (tgt := 21) dX12_laysFeel_17 (by decide) ?_
    refine kr_sub [0] rfl ?_
    exact r_X12_laysFeel_21 E (1 : Int32) r4 M3
