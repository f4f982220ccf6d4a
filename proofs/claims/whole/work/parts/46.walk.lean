theorem dX12_mended_0 : decode cX12_mended 0 = .ok (.aload_n 0, 1) := by decide +kernel
theorem dX12_mended_1 : decode cX12_mended 1 = .ok (.iconst 0, 1) := by decide +kernel
theorem dX12_mended_2 : decode cX12_mended 2 = .ok (.putfield 138, 3) := by decide +kernel
theorem dX12_mended_5 : decode cX12_mended 5 = .ok (.aload_n 0, 1) := by decide +kernel
theorem dX12_mended_6 : decode cX12_mended 6 = .ok (.iload_n 1, 1) := by decide +kernel
theorem dX12_mended_7 : decode cX12_mended 7 = .ok (.invokevirtual 534, 3) := by decide +kernel
theorem dX12_mended_10 : decode cX12_mended 10 = .ok (.istore_n 3, 1) := by decide +kernel
theorem dX12_mended_11 : decode cX12_mended 11 = .ok (.iload_n 3, 1) := by decide +kernel
theorem dX12_mended_12 : decode cX12_mended 12 = .ok (.ifCond .eq 5, 3) := by decide +kernel
theorem dX12_mended_15 : decode cX12_mended 15 = .ok (.iload_n 3, 1) := by decide +kernel
theorem dX12_mended_16 : decode cX12_mended 16 = .ok (.ireturn, 1) := by decide +kernel
theorem dX12_mended_17 : decode cX12_mended 17 = .ok (.aload_n 0, 1) := by decide +kernel
theorem dX12_mended_18 : decode cX12_mended 18 = .ok (.iload_n 1, 1) := by decide +kernel
theorem dX12_mended_19 : decode cX12_mended 19 = .ok (.invokevirtual 543, 3) := by decide +kernel
theorem dX12_mended_22 : decode cX12_mended 22 = .ok (.aload_n 0, 1) := by decide +kernel
theorem dX12_mended_23 : decode cX12_mended 23 = .ok (.getfield 129, 3) := by decide +kernel
theorem dX12_mended_26 : decode cX12_mended 26 = .ok (.iconst 0, 1) := by decide +kernel
theorem dX12_mended_27 : decode cX12_mended 27 = .ok (.iaload, 1) := by decide +kernel
theorem dX12_mended_28 : decode cX12_mended 28 = .ok (.ldc_w 354, 3) := by decide +kernel
theorem dX12_mended_31 : decode cX12_mended 31 = .ok (.if_icmp .ge 28, 3) := by decide +kernel
theorem dX12_mended_34 : decode cX12_mended 34 = .ok (.iload_n 2, 1) := by decide +kernel
theorem dX12_mended_35 : decode cX12_mended 35 = .ok (.i2l, 1) := by decide +kernel
theorem dX12_mended_36 : decode cX12_mended 36 = .ok (.lconst 0, 1) := by decide +kernel
theorem dX12_mended_37 : decode cX12_mended 37 = .ok (.aload_n 0, 1) := by decide +kernel
theorem dX12_mended_38 : decode cX12_mended 38 = .ok (.getfield 351, 3) := by decide +kernel
theorem dX12_mended_41 : decode cX12_mended 41 = .ok (.iconst 1, 1) := by decide +kernel
theorem dX12_mended_42 : decode cX12_mended 42 = .ok (.isub, 1) := by decide +kernel
theorem dX12_mended_43 : decode cX12_mended 43 = .ok (.i2l, 1) := by decide +kernel
theorem dX12_mended_44 : decode cX12_mended 44 = .ok (.invokestatic 143, 3) := by decide +kernel
theorem dX12_mended_47 : decode cX12_mended 47 = .ok (.ifCond .eq 12, 3) := by decide +kernel
theorem dX12_mended_50 : decode cX12_mended 50 = .ok (.aload_n 0, 1) := by decide +kernel
theorem dX12_mended_51 : decode cX12_mended 51 = .ok (.getfield 132, 3) := by decide +kernel
theorem dX12_mended_54 : decode cX12_mended 54 = .ok (.iload_n 2, 1) := by decide +kernel
theorem dX12_mended_55 : decode cX12_mended 55 = .ok (.iaload, 1) := by decide +kernel
theorem dX12_mended_56 : decode cX12_mended 56 = .ok (.goto 4, 3) := by decide +kernel
theorem dX12_mended_59 : decode cX12_mended 59 = .ok (.iconst (-1), 1) := by decide +kernel
theorem dX12_mended_60 : decode cX12_mended 60 = .ok (.ireturn, 1) := by decide +kernel
theorem r_X12_mended (E : kr_E) (p1 : Int32) (p2 : Int32) (M : kr_M) : kR kr_vi E Y_X12_mended 6 0 [(0, kr_r E 346), (1, .int p1), (2, .int p2)] [] M (f_X12_mended p1 p2 M) := by
  rw [f_X12_mended]
  refine kr_aload_n dX12_mended_0 rfl 0 rfl ?_
  refine kr_iconst (v := 0) dX12_mended_1 (by decide) ?_
  refine kr_putI (ci := 12) (j := 0) dX12_mended_2 kr_at_346 fl_RX12_138 rfl rfl (fun M1 => ?_)
  refine kr_aload_n dX12_mended_5 rfl 0 rfl ?_
  refine kr_iload_n dX12_mended_6 rfl 1 rfl ?_
  refine kr_Vi (As := [.int p1]) (st := []) zv_X12_whyNot dX12_mended_7 ml_RX12_534 kr_at_346 (r_X12_whyNot E p1 M1) rfl rfl (Nat.le_of_ble_eq_true rfl) rfl (by decide) (Nat.le_of_ble_eq_true rfl) (fun r3 M2 => ?_)
  refine kr_istore_n (lv' := [(3, .int r3), (0, kr_r E 346), (1, .int p1), (2, .int p2)]) dX12_mended_10 rfl (by decide) rfl ?_
  refine kr_iload_n dX12_mended_11 rfl 0 rfl ?_
  refine kr_if_eq (tgt := 17) dX12_mended_12 (by decide) ?_ ?_
  · refine kr_aload_n dX12_mended_17 rfl 1 rfl ?_
    refine kr_iload_n dX12_mended_18 rfl 2 rfl ?_
    refine kr_Vv (As := [.int p1]) (st := []) zv_X12_laysMend dX12_mended_19 ml_RX12_543 kr_at_346 (r_X12_laysMend E p1 M2) rfl rfl (Nat.le_of_ble_eq_true rfl) rfl (by decide) (Nat.le_of_ble_eq_true rfl) (fun M4 => ?_)
    refine kr_aload_n dX12_mended_22 rfl 1 rfl ?_
    refine kr_getA (o := 38) (ci := 12) (j := 59) dX12_mended_23 kr_at_346 fl_RX12_129 rfl ?_
    refine kr_iconst (v := 0) dX12_mended_26 (by decide) ?_
    refine kr_iald dX12_mended_27 kr_at_384 (fun v6 => ?_)
    refine kr_ldcw dX12_mended_28 kc_RX12_354 ?_
    refine kr_icmp_ge (tgt := 59) dX12_mended_31 (by decide) ?_ ?_
    · refine kr_iconst (v := -1) dX12_mended_59 (by decide) ?_
      exact kr_iret dX12_mended_60 rfl
    · refine kr_iload_n dX12_mended_34 rfl 3 rfl ?_
      refine kr_i2l dX12_mended_35 ?_
      refine kr_lconst (v := 0) dX12_mended_36 (by decide) ?_
      refine kr_aload_n dX12_mended_37 rfl 1 rfl ?_
      refine kr_getI (ci := 12) (j := 34) dX12_mended_38 kr_at_346 fl_RX12_351 rfl (fun v7 => ?_)
      refine kr_iconst (v := 1) dX12_mended_41 (by decide) ?_
      refine kr_isub dX12_mended_42 ?_
      refine kr_i2l dX12_mended_43 ?_
      refine kr_Si (As := [.long (p2.toInt64), .long (0 : Int64), .long ((v7 - (1 : Int32)).toInt64)]) (st := []) zs_X12_in dX12_mended_44 ml_RX12_143 (r_X12_in E (p2.toInt64) (0 : Int64) ((v7 - (1 : Int32)).toInt64) M4) rfl rfl (Nat.le_of_ble_eq_true rfl) rfl (by decide) (Nat.le_of_ble_eq_true rfl) (fun r9 M8 => ?_)
      refine kr_if_eq (tgt := 59) dX12_mended_47 (by decide) ?_ ?_
      · refine kr_iconst (v := -1) dX12_mended_59 (by decide) ?_
        exact kr_iret dX12_mended_60 rfl
      · refine kr_aload_n dX12_mended_50 rfl 1 rfl ?_
        refine kr_getA (o := 39) (ci := 12) (j := 60) dX12_mended_51 kr_at_346 fl_RX12_132 rfl ?_
        refine kr_iload_n dX12_mended_54 rfl 3 rfl ?_
        refine kr_iald dX12_mended_55 kr_at_385 (fun v10 => ?_)
        refine kr_goto (tgt := 60) dX12_mended_56 (by decide) ?_
        exact kr_iret dX12_mended_60 rfl
  · refine kr_iload_n dX12_mended_15 rfl 0 rfl ?_
    exact kr_iret dX12_mended_16 rfl
theorem dX12_count_0 : decode cX12_count 0 = .ok (.aload_n 0, 1) := by decide +kernel
theorem dX12_count_1 : decode cX12_count 1 = .ok (.iconst 0, 1) := by decide +kernel
theorem dX12_count_2 : decode cX12_count 2 = .ok (.putfield 138, 3) := by decide +kernel
theorem dX12_count_5 : decode cX12_count 5 = .ok (.iload_n 1, 1) := by decide +kernel
theorem dX12_count_6 : decode cX12_count 6 = .ok (.i2l, 1) := by decide +kernel
theorem dX12_count_7 : decode cX12_count 7 = .ok (.lconst 0, 1) := by decide +kernel
theorem dX12_count_8 : decode cX12_count 8 = .ok (.ldc2_w 335, 3) := by decide +kernel
theorem dX12_count_11 : decode cX12_count 11 = .ok (.invokestatic 143, 3) := by decide +kernel
theorem dX12_count_14 : decode cX12_count 14 = .ok (.ifCond .eq 10, 3) := by decide +kernel
theorem dX12_count_17 : decode cX12_count 17 = .ok (.aload_n 0, 1) := by decide +kernel
theorem dX12_count_18 : decode cX12_count 18 = .ok (.getfield 34, 3) := by decide +kernel
theorem dX12_count_21 : decode cX12_count 21 = .ok (.iload_n 1, 1) := by decide +kernel
theorem dX12_count_22 : decode cX12_count 22 = .ok (.iaload, 1) := by decide +kernel
theorem dX12_count_23 : decode cX12_count 23 = .ok (.ireturn, 1) := by decide +kernel
theorem dX12_count_24 : decode cX12_count 24 = .ok (.iconst 0, 1) := by decide +kernel
theorem dX12_count_25 : decode cX12_count 25 = .ok (.istore_n 2, 1) := by decide +kernel
theorem dX12_count_26 : decode cX12_count 26 = .ok (.iload_n 1, 1) := by decide +kernel
theorem dX12_count_27 : decode cX12_count 27 = .ok (.tableswitch 95 7 11 #[33, 42, 50, 57, 62], 33) := by decide +kernel
theorem dX12_count_60 : decode cX12_count 60 = .ok (.aload_n 0, 1) := by decide +kernel
theorem dX12_count_61 : decode cX12_count 61 = .ok (.invokevirtual 337, 3) := by decide +kernel
theorem dX12_count_64 : decode cX12_count 64 = .ok (.aload_n 0, 1) := by decide +kernel
theorem dX12_count_65 : decode cX12_count 65 = .ok (.getfield 322, 3) := by decide +kernel
theorem dX12_count_68 : decode cX12_count 68 = .ok (.ireturn, 1) := by decide +kernel
theorem dX12_count_69 : decode cX12_count 69 = .ok (.aload_n 0, 1) := by decide +kernel
theorem dX12_count_70 : decode cX12_count 70 = .ok (.getfield 34, 3) := by decide +kernel
theorem dX12_count_73 : decode cX12_count 73 = .ok (.bipush 7, 2) := by decide +kernel
theorem dX12_count_75 : decode cX12_count 75 = .ok (.iaload, 1) := by decide +kernel
theorem dX12_count_76 : decode cX12_count 76 = .ok (.ireturn, 1) := by decide +kernel
theorem dX12_count_77 : decode cX12_count 77 = .ok (.aload_n 0, 1) := by decide +kernel
theorem dX12_count_78 : decode cX12_count 78 = .ok (.getfield 31, 3) := by decide +kernel
theorem dX12_count_81 : decode cX12_count 81 = .ok (.iconst 0, 1) := by decide +kernel
theorem dX12_count_82 : decode cX12_count 82 = .ok (.iaload, 1) := by decide +kernel
theorem dX12_count_83 : decode cX12_count 83 = .ok (.ireturn, 1) := by decide +kernel
theorem dX12_count_84 : decode cX12_count 84 = .ok (.aload_n 0, 1) := by decide +kernel
theorem dX12_count_85 : decode cX12_count 85 = .ok (.getfield 155, 3) := by decide +kernel
theorem dX12_count_88 : decode cX12_count 88 = .ok (.ireturn, 1) := by decide +kernel
theorem dX12_count_89 : decode cX12_count 89 = .ok (.iconst 0, 1) := by decide +kernel
theorem dX12_count_90 : decode cX12_count 90 = .ok (.istore_n 3, 1) := by decide +kernel
theorem dX12_count_91 : decode cX12_count 91 = .ok (.iload_n 3, 1) := by decide +kernel
theorem dX12_count_92 : decode cX12_count 92 = .ok (.iconst 4, 1) := by decide +kernel
theorem dX12_count_93 : decode cX12_count 93 = .ok (.if_icmp .ge 27, 3) := by decide +kernel
theorem dX12_count_96 : decode cX12_count 96 = .ok (.iload_n 2, 1) := by decide +kernel
theorem dX12_count_97 : decode cX12_count 97 = .ok (.aload_n 0, 1) := by decide +kernel
theorem dX12_count_98 : decode cX12_count 98 = .ok (.getfield 7, 3) := by decide +kernel
theorem dX12_count_101 : decode cX12_count 101 = .ok (.iload_n 3, 1) := by decide +kernel
theorem dX12_count_102 : decode cX12_count 102 = .ok (.iaload, 1) := by decide +kernel
theorem dX12_count_103 : decode cX12_count 103 = .ok (.iconst (-1), 1) := by decide +kernel
theorem dX12_count_104 : decode cX12_count 104 = .ok (.if_icmp .ne 7, 3) := by decide +kernel
theorem dX12_count_107 : decode cX12_count 107 = .ok (.iconst 0, 1) := by decide +kernel
theorem dX12_count_108 : decode cX12_count 108 = .ok (.goto 4, 3) := by decide +kernel
theorem dX12_count_111 : decode cX12_count 111 = .ok (.iconst 1, 1) := by decide +kernel
theorem dX12_count_112 : decode cX12_count 112 = .ok (.iadd, 1) := by decide +kernel
theorem dX12_count_113 : decode cX12_count 113 = .ok (.istore_n 2, 1) := by decide +kernel
theorem dX12_count_114 : decode cX12_count 114 = .ok (.iinc 3 1, 3) := by decide +kernel
theorem dX12_count_117 : decode cX12_count 117 = .ok (.goto (-26), 3) := by decide +kernel
theorem dX12_count_120 : decode cX12_count 120 = .ok (.iload_n 2, 1) := by decide +kernel
theorem dX12_count_121 : decode cX12_count 121 = .ok (.ireturn, 1) := by decide +kernel
theorem dX12_count_122 : decode cX12_count 122 = .ok (.iconst (-1), 1) := by decide +kernel
theorem dX12_count_123 : decode cX12_count 123 = .ok (.ireturn, 1) := by decide +kernel
theorem r_X12_count_112 (E : kr_E) (k_91 : Int32 → Int32 → kr_M → Option (Int32 × kr_M)) (l3 : Int32) (s0 : Int32) (s1 : Int32) (hk_91 : ∀ (x2 : Int32) (x3 : Int32) (M : kr_M), kR kr_vi E Y_X12_count 4 91 [(0, kr_r E 346), (2, .int x2), (3, .int x3)] [] M (k_91 x2 x3 M)) (M : kr_M) : kR kr_vi E Y_X12_count 4 112 [(0, kr_r E 346), (3, .int l3)] [.int s0, .int s1] M (f_X12_count_112 k_91 l3 s0 s1 M) := by
  rw [f_X12_count_112]
  refine kr_iadd dX12_count_112 ?_
  refine kr_nmi (fun v1 => ?_)
  refine kr_istore_n (lv' := [(2, .int v1), (0, kr_r E 346), (3, .int l3)]) dX12_count_113 rfl (by decide) rfl ?_
  refine kr_iinc (j := 2) (v := (l3 + (1 : Int32))) (lv' := [(3, .int (l3 + (1 : Int32))), (2, .int v1), (0, kr_r E 346)]) dX12_count_114 rfl rfl (by decide) rfl ?_
  refine kr_goto (tgt := 91) dX12_count_117 (by decide) ?_
  refine kr_sub [2, 1, 0] rfl ?_
  exact hk_91 v1 (l3 + (1 : Int32)) M
theorem r_X12_count_91 (E : kr_E)    : ∀ (n : Nat) (l2 : Int32) (l3 : Int32) (M : kr_M), kR kr_vi E Y_X12_count 4 91 [(0, kr_r E 346), (2, .int l2), (3, .int l3)] [] M (f_X12_count_91 n l2 l3 M) := by
  intro n
  induction n with
  | zero => intro l2 l3 M; exact kr_none
  | succ n ih =>
    intro l2 l3 M
    rw [f_X12_count_91]
    refine kr_iload_n dX12_count_91 rfl 2 rfl ?_
    refine kr_iconst (v := 4) dX12_count_92 (by decide) ?_
    refine kr_icmp_ge (tgt := 120) dX12_count_93 (by decide) ?_ ?_
    · refine kr_iload_n dX12_count_120 rfl 1 rfl ?_
      exact kr_iret dX12_count_121 rfl
    · refine kr_iload_n dX12_count_96 rfl 1 rfl ?_
      refine kr_aload_n dX12_count_97 rfl 0 rfl ?_
      refine kr_getA (o := 1) (ci := 12) (j := 1) dX12_count_98 kr_at_346 fl_RX12_7 rfl ?_
      refine kr_iload_n dX12_count_101 rfl 2 rfl ?_
      refine kr_iald dX12_count_102 kr_at_347 (fun v1 => ?_)
      refine kr_iconst (v := -1) dX12_count_103 (by decide) ?_
      refine kr_icmp_ne (tgt := 111) dX12_count_104 (by decide) ?_ ?_
      · refine kr_iconst (v := 1) dX12_count_111 (by decide) ?_
        refine kr_sub [0, 2] rfl ?_
        exact r_X12_count_112 E _ l3 (1 : Int32) l2 ih M
      · refine kr_iconst (v := 0) dX12_count_107 (by decide) ?_
        refine kr_goto (tgt := 112) dX12_count_108 (by decide) ?_
        refine kr_sub [0, 2] rfl ?_
        exact r_X12_count_112 E _ l3 (0 : Int32) l2 ih M
theorem r_X12_count (E : kr_E) (p1 : Int32) (M : kr_M) : kR kr_vi E Y_X12_count 4 0 [(0, kr_r E 346), (1, .int p1)] [] M (f_X12_count p1 M) := by
  rw [f_X12_count]
  refine kr_aload_n dX12_count_0 rfl 0 rfl ?_
  refine kr_iconst (v := 0) dX12_count_1 (by decide) ?_
  refine kr_putI (ci := 12) (j := 0) dX12_count_2 kr_at_346 fl_RX12_138 rfl rfl (fun M1 => ?_)
  refine kr_iload_n dX12_count_5 rfl 1 rfl ?_
  refine kr_i2l dX12_count_6 ?_
  refine kr_lconst (v := 0) dX12_count_7 (by decide) ?_
  refine kr_ldc2 dX12_count_8 kl_RX12_335 ?_
  refine kr_Si (As := [.long (p1.toInt64), .long (0 : Int64), .long (6 : Int64)]) (st := []) zs_X12_in dX12_count_11 ml_RX12_143 (r_X12_in E (p1.toInt64) (0 : Int64) (6 : Int64) M1) rfl rfl (Nat.le_of_ble_eq_true rfl) rfl (by decide) (Nat.le_of_ble_eq_true rfl) (fun r3 M2 => ?_)
  refine kr_if_eq (tgt := 24) dX12_count_14 (by decide) ?_ ?_
  · refine kr_iconst (v := 0) dX12_count_24 (by decide) ?_
    refine kr_istore_n (lv' := [(2, .int (0 : Int32)), (0, kr_r E 346), (1, .int p1)]) dX12_count_25 rfl (by decide) rfl ?_
    refine kr_iload_n dX12_count_26 rfl 2 rfl ?_
    refine kr_case (7 : Int32) (fun c4 => ?_) (fun c4 => ?_)
    · refine kr_tin (v := 7) (off := 33) (tgt := 60) c4 dX12_count_27 (by decide) (by decide) (by decide) (by decide) ?_
      refine kr_aload_n dX12_count_60 rfl 1 rfl ?_
      refine kr_Vv (As := []) (st := []) zv_X12_lays dX12_count_61 ml_RX12_337 kr_at_346 (r_X12_lays E  M2) rfl rfl (Nat.le_of_ble_eq_true rfl) rfl (by decide) (Nat.le_of_ble_eq_true rfl) (fun M5 => ?_)
      refine kr_aload_n dX12_count_64 rfl 1 rfl ?_
      refine kr_getI (ci := 12) (j := 32) dX12_count_65 kr_at_346 fl_RX12_322 rfl (fun v7 => ?_)
      exact kr_iret dX12_count_68 rfl
    refine kr_case (8 : Int32) (fun c8 => ?_) (fun c8 => ?_)
    · refine kr_tin (v := 8) (off := 42) (tgt := 69) c8 dX12_count_27 (by decide) (by decide) (by decide) (by decide) ?_
      refine kr_aload_n dX12_count_69 rfl 1 rfl ?_
      refine kr_getA (o := 7) (ci := 12) (j := 17) dX12_count_70 kr_at_346 fl_RX12_34 rfl ?_
      refine kr_bipush (v := 7) dX12_count_73 (by decide) ?_
      refine kr_iald dX12_count_75 kr_at_353 (fun v9 => ?_)
      exact kr_iret dX12_count_76 rfl
    refine kr_case (9 : Int32) (fun c10 => ?_) (fun c10 => ?_)
    · refine kr_tin (v := 9) (off := 50) (tgt := 77) c10 dX12_count_27 (by decide) (by decide) (by decide) (by decide) ?_
      refine kr_aload_n dX12_count_77 rfl 1 rfl ?_
      refine kr_getA (o := 6) (ci := 12) (j := 16) dX12_count_78 kr_at_346 fl_RX12_31 rfl ?_
      refine kr_iconst (v := 0) dX12_count_81 (by decide) ?_
      refine kr_iald dX12_count_82 kr_at_352 (fun v11 => ?_)
      exact kr_iret dX12_count_83 rfl
    refine kr_case (10 : Int32) (fun c12 => ?_) (fun c12 => ?_)
    · refine kr_tin (v := 10) (off := 57) (tgt := 84) c12 dX12_count_27 (by decide) (by decide) (by decide) (by decide) ?_
      refine kr_aload_n dX12_count_84 rfl 1 rfl ?_
      refine kr_getI (ci := 12) (j := 6) dX12_count_85 kr_at_346 fl_RX12_155 rfl (fun v13 => ?_)
      exact kr_iret dX12_count_88 rfl
    refine kr_case (11 : Int32) (fun c14 => ?_) (fun c14 => ?_)
    · refine kr_tin (v := 11) (off := 62) (tgt := 89) c14 dX12_count_27 (by decide) (by decide) (by decide) (by decide) ?_
      refine kr_iconst (v := 0) dX12_count_89 (by decide) ?_
      refine kr_istore_n (lv' := [(3, .int (0 : Int32)), (2, .int (0 : Int32)), (0, kr_r E 346), (1, .int p1)]) dX12_count_90 rfl (by decide) rfl ?_
      refine kr_sub [2, 1, 0] rfl ?_
      exact r_X12_count_91 E _ (0 : Int32) (0 : Int32) M2
    refine kr_tout (tgt := 122) dX12_count_27 (by have zc4 := lv_neT c4 (show (7 : Int32).toInt = 7 by decide); have zc8 := lv_neT c8 (show (8 : Int32).toInt = 8 by decide); have zc10 := lv_neT c10 (show (9 : Int32).toInt = 9 by decide); have zc12 := lv_neT c12 (show (10 : Int32).toInt = 10 by decide); have zc14 := lv_neT c14 (show (11 : Int32).toInt = 11 by decide); omega) (by decide) ?_
    refine kr_iconst (v := -1) dX12_count_122 (by decide) ?_
    exact kr_iret dX12_count_123 rfl
  · refine kr_aload_n dX12_count_17 rfl 0 rfl ?_
    refine kr_getA (o := 7) (ci := 12) (j := 17) dX12_count_18 kr_at_346 fl_RX12_34 rfl ?_
    refine kr_iload_n dX12_count_21 rfl 1 rfl ?_
    refine kr_iald dX12_count_22 kr_at_353 (fun v15 => ?_)
    exact kr_iret dX12_count_23 rfl
theorem dX12_image_0 : decode cX12_image 0 = .ok (.aload_n 0, 1) := by decide +kernel
theorem dX12_image_1 : decode cX12_image 1 = .ok (.iconst 0, 1) := by decide +kernel
theorem dX12_image_2 : decode cX12_image 2 = .ok (.putfield 138, 3) := by decide +kernel
theorem dX12_image_5 : decode cX12_image 5 = .ok (.iload_n 1, 1) := by decide +kernel
theorem dX12_image_6 : decode cX12_image 6 = .ok (.i2l, 1) := by decide +kernel
theorem dX12_image_7 : decode cX12_image 7 = .ok (.lconst 0, 1) := by decide +kernel
theorem dX12_image_8 : decode cX12_image 8 = .ok (.ldc2_w 349, 3) := by decide +kernel
theorem dX12_image_11 : decode cX12_image 11 = .ok (.invokestatic 143, 3) := by decide +kernel
theorem dX12_image_14 : decode cX12_image 14 = .ok (.ifCond .ne 6, 3) := by decide +kernel
theorem dX12_image_17 : decode cX12_image 17 = .ok (.bipush (-2), 2) := by decide +kernel
theorem dX12_image_19 : decode cX12_image 19 = .ok (.ireturn, 1) := by decide +kernel
theorem dX12_image_20 : decode cX12_image 20 = .ok (.aload_n 0, 1) := by decide +kernel
theorem dX12_image_21 : decode cX12_image 21 = .ok (.iconst 0, 1) := by decide +kernel
theorem dX12_image_22 : decode cX12_image 22 = .ok (.iconst 1, 1) := by decide +kernel
theorem dX12_image_23 : decode cX12_image 23 = .ok (.iload_n 1, 1) := by decide +kernel
theorem dX12_image_24 : decode cX12_image 24 = .ok (.iadd, 1) := by decide +kernel
theorem dX12_image_25 : decode cX12_image 25 = .ok (.invokevirtual 312, 3) := by decide +kernel
theorem dX12_image_28 : decode cX12_image 28 = .ok (.aload_n 0, 1) := by decide +kernel
theorem dX12_image_29 : decode cX12_image 29 = .ok (.getfield 64, 3) := by decide +kernel
theorem dX12_image_32 : decode cX12_image 32 = .ok (.iload_n 1, 1) := by decide +kernel
theorem dX12_image_33 : decode cX12_image 33 = .ok (.iconst 1, 1) := by decide +kernel
theorem dX12_image_34 : decode cX12_image 34 = .ok (.bastore, 1) := by decide +kernel
theorem dX12_image_35 : decode cX12_image 35 = .ok (.iconst 0, 1) := by decide +kernel
theorem dX12_image_36 : decode cX12_image 36 = .ok (.ireturn, 1) := by decide +kernel
theorem r_X12_image (E : kr_E) (p1 : Int32) (M : kr_M) : kR kr_vi E Y_X12_image 3 0 [(0, kr_r E 346), (1, .int p1)] [] M (f_X12_image p1 M) := by
  rw [f_X12_image]
  refine kr_aload_n dX12_image_0 rfl 0 rfl ?_
  refine kr_iconst (v := 0) dX12_image_1 (by decide) ?_
  refine kr_putI (ci := 12) (j := 0) dX12_image_2 kr_at_346 fl_RX12_138 rfl rfl (fun M1 => ?_)
  refine kr_iload_n dX12_image_5 rfl 1 rfl ?_
  refine kr_i2l dX12_image_6 ?_
  refine kr_lconst (v := 0) dX12_image_7 (by decide) ?_
  refine kr_ldc2 dX12_image_8 kl_RX12_349 ?_
  refine kr_Si (As := [.long (p1.toInt64), .long (0 : Int64), .long (2 : Int64)]) (st := []) zs_X12_in dX12_image_11 ml_RX12_143 (r_X12_in E (p1.toInt64) (0 : Int64) (2 : Int64) M1) rfl rfl (Nat.le_of_ble_eq_true rfl) rfl (by decide) (Nat.le_of_ble_eq_true rfl) (fun r3 M2 => ?_)
  refine kr_if_ne (tgt := 20) dX12_image_14 (by decide) ?_ ?_
  · refine kr_aload_n dX12_image_20 rfl 0 rfl ?_
    refine kr_iconst (v := 0) dX12_image_21 (by decide) ?_
    refine kr_iconst (v := 1) dX12_image_22 (by decide) ?_
    refine kr_iload_n dX12_image_23 rfl 1 rfl ?_
    refine kr_iadd dX12_image_24 ?_
    refine kr_Vv (As := [.int (0 : Int32), .int ((1 : Int32) + p1)]) (st := []) zv_X12_copyGorge dX12_image_25 ml_RX12_312 kr_at_346 (r_X12_copyGorge E (0 : Int32) ((1 : Int32) + p1) M2) rfl rfl (Nat.le_of_ble_eq_true rfl) rfl (by decide) (Nat.le_of_ble_eq_true rfl) (fun M4 => ?_)
    refine kr_aload_n dX12_image_28 rfl 0 rfl ?_
    refine kr_getA (o := 17) (ci := 12) (j := 27) dX12_image_29 kr_at_346 fl_RX12_64 rfl ?_
    refine kr_iload_n dX12_image_32 rfl 1 rfl ?_
    refine kr_iconst (v := 1) dX12_image_33 (by decide) ?_
    refine kr_zast dX12_image_34 kr_at_363 (fun M6 => ?_)
    refine kr_iconst (v := 0) dX12_image_35 (by decide) ?_
    exact kr_iret dX12_image_36 rfl
  · refine kr_bipush (v := -2) dX12_image_17 (by decide) ?_
    exact kr_iret dX12_image_19 rfl
theorem dX12_back_0 : decode cX12_back 0 = .ok (.aload_n 0, 1) := by decide +kernel
theorem dX12_back_1 : decode cX12_back 1 = .ok (.iconst 0, 1) := by decide +kernel
theorem dX12_back_2 : decode cX12_back 2 = .ok (.putfield 138, 3) := by decide +kernel
theorem dX12_back_5 : decode cX12_back 5 = .ok (.iload_n 1, 1) := by decide +kernel
theorem dX12_back_6 : decode cX12_back 6 = .ok (.i2l, 1) := by decide +kernel
theorem dX12_back_7 : decode cX12_back 7 = .ok (.lconst 0, 1) := by decide +kernel
theorem dX12_back_8 : decode cX12_back 8 = .ok (.ldc2_w 349, 3) := by decide +kernel
theorem dX12_back_11 : decode cX12_back 11 = .ok (.invokestatic 143, 3) := by decide +kernel
theorem dX12_back_14 : decode cX12_back 14 = .ok (.ifCond .ne 6, 3) := by decide +kernel
theorem dX12_back_17 : decode cX12_back 17 = .ok (.bipush (-2), 2) := by decide +kernel
theorem dX12_back_19 : decode cX12_back 19 = .ok (.ireturn, 1) := by decide +kernel
theorem dX12_back_20 : decode cX12_back 20 = .ok (.aload_n 0, 1) := by decide +kernel
theorem dX12_back_21 : decode cX12_back 21 = .ok (.getfield 64, 3) := by decide +kernel
theorem dX12_back_24 : decode cX12_back 24 = .ok (.iload_n 1, 1) := by decide +kernel
theorem dX12_back_25 : decode cX12_back 25 = .ok (.baload, 1) := by decide +kernel
theorem dX12_back_26 : decode cX12_back 26 = .ok (.ifCond .ne 6, 3) := by decide +kernel
theorem dX12_back_29 : decode cX12_back 29 = .ok (.bipush (-6), 2) := by decide +kernel
theorem dX12_back_31 : decode cX12_back 31 = .ok (.ireturn, 1) := by decide +kernel
theorem dX12_back_32 : decode cX12_back 32 = .ok (.aload_n 0, 1) := by decide +kernel
theorem dX12_back_33 : decode cX12_back 33 = .ok (.iconst 1, 1) := by decide +kernel
theorem dX12_back_34 : decode cX12_back 34 = .ok (.iload_n 1, 1) := by decide +kernel
theorem dX12_back_35 : decode cX12_back 35 = .ok (.iadd, 1) := by decide +kernel
theorem dX12_back_36 : decode cX12_back 36 = .ok (.iconst 0, 1) := by decide +kernel
theorem dX12_back_37 : decode cX12_back 37 = .ok (.invokevirtual 312, 3) := by decide +kernel
theorem dX12_back_40 : decode cX12_back 40 = .ok (.iconst 0, 1) := by decide +kernel
theorem dX12_back_41 : decode cX12_back 41 = .ok (.ireturn, 1) := by decide +kernel
theorem r_X12_back (E : kr_E) (p1 : Int32) (M : kr_M) : kR kr_vi E Y_X12_back 3 0 [(0, kr_r E 346), (1, .int p1)] [] M (f_X12_back p1 M) := by
  rw [f_X12_back]
  refine kr_aload_n dX12_back_0 rfl 0 rfl ?_
  refine kr_iconst (v := 0) dX12_back_1 (by decide) ?_
  refine kr_putI (ci := 12) (j := 0) dX12_back_2 kr_at_346 fl_RX12_138 rfl rfl (fun M1 => ?_)
  refine kr_iload_n dX12_back_5 rfl 1 rfl ?_
  refine kr_i2l dX12_back_6 ?_
  refine kr_lconst (v := 0) dX12_back_7 (by decide) ?_
  refine kr_ldc2 dX12_back_8 kl_RX12_349 ?_
  refine kr_Si (As := [.long (p1.toInt64), .long (0 : Int64), .long (2 : Int64)]) (st := []) zs_X12_in dX12_back_11 ml_RX12_143 (r_X12_in E (p1.toInt64) (0 : Int64) (2 : Int64) M1) rfl rfl (Nat.le_of_ble_eq_true rfl) rfl (by decide) (Nat.le_of_ble_eq_true rfl) (fun r3 M2 => ?_)
  refine kr_if_ne (tgt := 20) dX12_back_14 (by decide) ?_ ?_
  · refine kr_aload_n dX12_back_20 rfl 0 rfl ?_
    refine kr_getA (o := 17) (ci := 12) (j := 27) dX12_back_21 kr_at_346 fl_RX12_64 rfl ?_
    refine kr_iload_n dX12_back_24 rfl 1 rfl ?_
    refine kr_zald dX12_back_25 kr_at_363 (fun v4 => ?_)
    refine kr_if_ne (tgt := 32) dX12_back_26 (by decide) ?_ ?_
    · refine kr_aload_n dX12_back_32 rfl 0 rfl ?_
      refine kr_iconst (v := 1) dX12_back_33 (by decide) ?_
      refine kr_iload_n dX12_back_34 rfl 1 rfl ?_
      refine kr_iadd dX12_back_35 ?_
      refine kr_iconst (v := 0) dX12_back_36 (by decide) ?_
      refine kr_Vv (As := [.int ((1 : Int32) + p1), .int (0 : Int32)]) (st := []) zv_X12_copyGorge dX12_back_37 ml_RX12_312 kr_at_346 (r_X12_copyGorge E ((1 : Int32) + p1) (0 : Int32) M2) rfl rfl (Nat.le_of_ble_eq_true rfl) rfl (by decide) (Nat.le_of_ble_eq_true rfl) (fun M5 => ?_)
      refine kr_iconst (v := 0) dX12_back_40 (by decide) ?_
      exact kr_iret dX12_back_41 rfl
    · refine kr_bipush (v := -6) dX12_back_29 (by decide) ?_
      exact kr_iret dX12_back_31 rfl
  · refine kr_bipush (v := -2) dX12_back_17 (by decide) ?_
    exact kr_iret dX12_back_19 rfl
