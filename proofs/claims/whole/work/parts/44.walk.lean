theorem dX12_keys_0 : decode cX12_keys 0 = .ok (.aload_n 0, 1) := by decide +kernel
theorem dX12_keys_1 : decode cX12_keys 1 = .ok (.iconst 0, 1) := by decide +kernel
theorem dX12_keys_2 : decode cX12_keys 2 = .ok (.putfield 138, 3) := by decide +kernel
theorem dX12_keys_5 : decode cX12_keys 5 = .ok (.aload_n 0, 1) := by decide +kernel
theorem dX12_keys_6 : decode cX12_keys 6 = .ok (.iload_n 1, 1) := by decide +kernel
theorem dX12_keys_7 : decode cX12_keys 7 = .ok (.iload_n 2, 1) := by decide +kernel
theorem dX12_keys_8 : decode cX12_keys 8 = .ok (.iload_n 3, 1) := by decide +kernel
theorem dX12_keys_9 : decode cX12_keys 9 = .ok (.invokevirtual 481, 3) := by decide +kernel
theorem dX12_keys_12 : decode cX12_keys 12 = .ok (.ifCond .ne 6, 3) := by decide +kernel
theorem dX12_keys_15 : decode cX12_keys 15 = .ok (.bipush (-2), 2) := by decide +kernel
theorem dX12_keys_17 : decode cX12_keys 17 = .ok (.ireturn, 1) := by decide +kernel
theorem dX12_keys_18 : decode cX12_keys 18 = .ok (.aload_n 0, 1) := by decide +kernel
theorem dX12_keys_19 : decode cX12_keys 19 = .ok (.invokevirtual 337, 3) := by decide +kernel
theorem dX12_keys_22 : decode cX12_keys 22 = .ok (.aload_n 0, 1) := by decide +kernel
theorem dX12_keys_23 : decode cX12_keys 23 = .ok (.iload_n 1, 1) := by decide +kernel
theorem dX12_keys_24 : decode cX12_keys 24 = .ok (.iload_n 3, 1) := by decide +kernel
theorem dX12_keys_25 : decode cX12_keys 25 = .ok (.iconst (-1), 1) := by decide +kernel
theorem dX12_keys_26 : decode cX12_keys 26 = .ok (.invokevirtual 484, 3) := by decide +kernel
theorem dX12_keys_29 : decode cX12_keys 29 = .ok (.aload_n 0, 1) := by decide +kernel
theorem dX12_keys_30 : decode cX12_keys 30 = .ok (.getfield 120, 3) := by decide +kernel
theorem dX12_keys_33 : decode cX12_keys 33 = .ok (.iload_n 2, 1) := by decide +kernel
theorem dX12_keys_34 : decode cX12_keys 34 = .ok (.iaload, 1) := by decide +kernel
theorem dX12_keys_35 : decode cX12_keys 35 = .ok (.ldc_w 354, 3) := by decide +kernel
theorem dX12_keys_38 : decode cX12_keys 38 = .ok (.if_icmp .lt 5, 3) := by decide +kernel
theorem dX12_keys_41 : decode cX12_keys 41 = .ok (.iconst 0, 1) := by decide +kernel
theorem dX12_keys_42 : decode cX12_keys 42 = .ok (.ireturn, 1) := by decide +kernel
theorem dX12_keys_43 : decode cX12_keys 43 = .ok (.iconst 0, 1) := by decide +kernel
theorem dX12_keys_44 : decode cX12_keys 44 = .ok (.istore 4, 2) := by decide +kernel
theorem dX12_keys_46 : decode cX12_keys 46 = .ok (.iconst 0, 1) := by decide +kernel
theorem dX12_keys_47 : decode cX12_keys 47 = .ok (.istore 5, 2) := by decide +kernel
theorem dX12_keys_49 : decode cX12_keys 49 = .ok (.iload 5, 2) := by decide +kernel
theorem dX12_keys_51 : decode cX12_keys 51 = .ok (.aload_n 0, 1) := by decide +kernel
theorem dX12_keys_52 : decode cX12_keys 52 = .ok (.getfield 34, 3) := by decide +kernel
theorem dX12_keys_55 : decode cX12_keys 55 = .ok (.iconst 5, 1) := by decide +kernel
theorem dX12_keys_56 : decode cX12_keys 56 = .ok (.iaload, 1) := by decide +kernel
theorem dX12_keys_57 : decode cX12_keys 57 = .ok (.if_icmp .ge 42, 3) := by decide +kernel
theorem dX12_keys_60 : decode cX12_keys 60 = .ok (.aload_n 0, 1) := by decide +kernel
theorem dX12_keys_61 : decode cX12_keys 61 = .ok (.iload_n 1, 1) := by decide +kernel
theorem dX12_keys_62 : decode cX12_keys 62 = .ok (.iload_n 3, 1) := by decide +kernel
theorem dX12_keys_63 : decode cX12_keys 63 = .ok (.iload 5, 2) := by decide +kernel
theorem dX12_keys_65 : decode cX12_keys 65 = .ok (.invokevirtual 484, 3) := by decide +kernel
theorem dX12_keys_68 : decode cX12_keys 68 = .ok (.iload 4, 2) := by decide +kernel
theorem dX12_keys_70 : decode cX12_keys 70 = .ok (.aload_n 0, 1) := by decide +kernel
theorem dX12_keys_71 : decode cX12_keys 71 = .ok (.getfield 120, 3) := by decide +kernel
theorem dX12_keys_74 : decode cX12_keys 74 = .ok (.iload_n 2, 1) := by decide +kernel
theorem dX12_keys_75 : decode cX12_keys 75 = .ok (.iaload, 1) := by decide +kernel
theorem dX12_keys_76 : decode cX12_keys 76 = .ok (.ldc_w 354, 3) := by decide +kernel
theorem dX12_keys_79 : decode cX12_keys 79 = .ok (.if_icmp .lt 10, 3) := by decide +kernel
theorem dX12_keys_82 : decode cX12_keys 82 = .ok (.iconst 1, 1) := by decide +kernel
theorem dX12_keys_83 : decode cX12_keys 83 = .ok (.iload 5, 2) := by decide +kernel
theorem dX12_keys_85 : decode cX12_keys 85 = .ok (.ishl, 1) := by decide +kernel
theorem dX12_keys_86 : decode cX12_keys 86 = .ok (.goto 4, 3) := by decide +kernel
theorem dX12_keys_89 : decode cX12_keys 89 = .ok (.iconst 0, 1) := by decide +kernel
theorem dX12_keys_90 : decode cX12_keys 90 = .ok (.ior, 1) := by decide +kernel
theorem dX12_keys_91 : decode cX12_keys 91 = .ok (.istore 4, 2) := by decide +kernel
theorem dX12_keys_93 : decode cX12_keys 93 = .ok (.iinc 5 1, 3) := by decide +kernel
theorem dX12_keys_96 : decode cX12_keys 96 = .ok (.goto (-47), 3) := by decide +kernel
theorem dX12_keys_99 : decode cX12_keys 99 = .ok (.iload 4, 2) := by decide +kernel
theorem dX12_keys_101 : decode cX12_keys 101 = .ok (.ireturn, 1) := by decide +kernel
theorem r_X12_keys_90 (E : kr_E) (k_49 : Int32 → Int32 → kr_M → Option (Int32 × kr_M)) (l1 : Int32) (l2 : Int32) (l3 : Int32) (l5 : Int32) (s0 : Int32) (s1 : Int32) (hk_49 : ∀ (x4 : Int32) (x5 : Int32) (M : kr_M), kR kr_vi E Y_X12_keys 4 49 [(0, kr_r E 346), (1, .int l1), (2, .int l2), (3, .int l3), (4, .int x4), (5, .int x5)] [] M (k_49 x4 x5 M)) (M : kr_M) : kR kr_vi E Y_X12_keys 4 90 [(0, kr_r E 346), (1, .int l1), (2, .int l2), (3, .int l3), (5, .int l5)] [.int s0, .int s1] M (f_X12_keys_90 k_49 l5 s0 s1 M) := by
  rw [f_X12_keys_90]
  refine kr_ior dX12_keys_90 ?_
  refine kr_nmi (fun v1 => ?_)
  refine kr_istore (lv' := [(4, .int v1), (0, kr_r E 346), (1, .int l1), (2, .int l2), (3, .int l3), (5, .int l5)]) dX12_keys_91 (by decide) rfl ?_
  refine kr_iinc (j := 5) (v := (l5 + (1 : Int32))) (lv' := [(5, .int (l5 + (1 : Int32))), (4, .int v1), (0, kr_r E 346), (1, .int l1), (2, .int l2), (3, .int l3)]) dX12_keys_93 rfl rfl (by decide) rfl ?_
  refine kr_goto (tgt := 49) dX12_keys_96 (by decide) ?_
  refine kr_sub [2, 3, 4, 5, 1, 0] rfl ?_
  exact hk_49 v1 (l5 + (1 : Int32)) M
theorem r_X12_keys_49 (E : kr_E)  (l1 : Int32) (l2 : Int32) (l3 : Int32)  : ∀ (n : Nat) (l4 : Int32) (l5 : Int32) (M : kr_M), kR kr_vi E Y_X12_keys 4 49 [(0, kr_r E 346), (1, .int l1), (2, .int l2), (3, .int l3), (4, .int l4), (5, .int l5)] [] M (f_X12_keys_49 l1 l2 l3 n l4 l5 M) := by
  intro n
  induction n with
  | zero => intro l4 l5 M; exact kr_none
  | succ n ih =>
    intro l4 l5 M
    rw [f_X12_keys_49]
    refine kr_iload dX12_keys_49 5 rfl ?_
    refine kr_aload_n dX12_keys_51 rfl 0 rfl ?_
    refine kr_getA (o := 7) (ci := 12) (j := 17) dX12_keys_52 kr_at_346 fl_RX12_34 rfl ?_
    refine kr_iconst (v := 5) dX12_keys_55 (by decide) ?_
    refine kr_iald dX12_keys_56 kr_at_353 (fun v1 => ?_)
    refine kr_icmp_ge (tgt := 99) dX12_keys_57 (by decide) ?_ ?_
    · refine kr_iload dX12_keys_99 4 rfl ?_
      exact kr_iret dX12_keys_101 rfl
    · refine kr_aload_n dX12_keys_60 rfl 0 rfl ?_
      refine kr_iload_n dX12_keys_61 rfl 1 rfl ?_
      refine kr_iload_n dX12_keys_62 rfl 3 rfl ?_
      refine kr_iload dX12_keys_63 5 rfl ?_
      refine kr_Vv (As := [.int l1, .int l3, .int l5]) (st := []) zv_X12_laysTimes dX12_keys_65 ml_RX12_484 kr_at_346 (r_X12_laysTimes E l1 l3 l5 M) rfl rfl (Nat.le_of_ble_eq_true rfl) rfl (by decide) (Nat.le_of_ble_eq_true rfl) (fun M2 => ?_)
      refine kr_iload dX12_keys_68 4 rfl ?_
      refine kr_aload_n dX12_keys_70 rfl 0 rfl ?_
      refine kr_getA (o := 35) (ci := 12) (j := 55) dX12_keys_71 kr_at_346 fl_RX12_120 rfl ?_
      refine kr_iload_n dX12_keys_74 rfl 2 rfl ?_
      refine kr_iald dX12_keys_75 kr_at_381 (fun v4 => ?_)
      refine kr_ldcw dX12_keys_76 kc_RX12_354 ?_
      refine kr_icmp_lt (tgt := 89) dX12_keys_79 (by decide) ?_ ?_
      · refine kr_iconst (v := 0) dX12_keys_89 (by decide) ?_
        refine kr_sub [0, 1, 2, 3, 5] rfl ?_
        exact r_X12_keys_90 E _ l1 l2 l3 l5 (0 : Int32) l4 ih M2
      · refine kr_iconst (v := 1) dX12_keys_82 (by decide) ?_
        refine kr_iload dX12_keys_83 5 rfl ?_
        refine kr_ishl dX12_keys_85 ?_
        refine kr_goto (tgt := 90) dX12_keys_86 (by decide) ?_
        refine kr_sub [0, 1, 2, 3, 5] rfl ?_
        exact r_X12_keys_90 E _ l1 l2 l3 l5 ((1 : Int32) <<< (l5 &&& 31)) l4 ih M2
theorem r_X12_keys (E : kr_E) (p1 : Int32) (p2 : Int32) (p3 : Int32) (M : kr_M) : kR kr_vi E Y_X12_keys 4 0 [(0, kr_r E 346), (1, .int p1), (2, .int p2), (3, .int p3)] [] M (f_X12_keys p1 p2 p3 M) := by
  rw [f_X12_keys]
  refine kr_aload_n dX12_keys_0 rfl 0 rfl ?_
  refine kr_iconst (v := 0) dX12_keys_1 (by decide) ?_
  refine kr_putI (ci := 12) (j := 0) dX12_keys_2 kr_at_346 fl_RX12_138 rfl rfl (fun M1 => ?_)
  refine kr_aload_n dX12_keys_5 rfl 0 rfl ?_
  refine kr_iload_n dX12_keys_6 rfl 1 rfl ?_
  refine kr_iload_n dX12_keys_7 rfl 2 rfl ?_
  refine kr_iload_n dX12_keys_8 rfl 3 rfl ?_
  refine kr_Vi (As := [.int p1, .int p2, .int p3]) (st := []) zv_X12_isWay dX12_keys_9 ml_RX12_481 kr_at_346 (r_X12_isWay E p1 p2 p3 M1) rfl rfl (Nat.le_of_ble_eq_true rfl) rfl (by decide) (Nat.le_of_ble_eq_true rfl) (fun r3 M2 => ?_)
  refine kr_if_ne (tgt := 18) dX12_keys_12 (by decide) ?_ ?_
  · refine kr_aload_n dX12_keys_18 rfl 0 rfl ?_
    refine kr_Vv (As := []) (st := []) zv_X12_lays dX12_keys_19 ml_RX12_337 kr_at_346 (r_X12_lays E  M2) rfl rfl (Nat.le_of_ble_eq_true rfl) rfl (by decide) (Nat.le_of_ble_eq_true rfl) (fun M4 => ?_)
    refine kr_aload_n dX12_keys_22 rfl 0 rfl ?_
    refine kr_iload_n dX12_keys_23 rfl 1 rfl ?_
    refine kr_iload_n dX12_keys_24 rfl 3 rfl ?_
    refine kr_iconst (v := -1) dX12_keys_25 (by decide) ?_
    refine kr_Vv (As := [.int p1, .int p3, .int (-1 : Int32)]) (st := []) zv_X12_laysTimes dX12_keys_26 ml_RX12_484 kr_at_346 (r_X12_laysTimes E p1 p3 (-1 : Int32) M4) rfl rfl (Nat.le_of_ble_eq_true rfl) rfl (by decide) (Nat.le_of_ble_eq_true rfl) (fun M6 => ?_)
    refine kr_aload_n dX12_keys_29 rfl 0 rfl ?_
    refine kr_getA (o := 35) (ci := 12) (j := 55) dX12_keys_30 kr_at_346 fl_RX12_120 rfl ?_
    refine kr_iload_n dX12_keys_33 rfl 2 rfl ?_
    refine kr_iald dX12_keys_34 kr_at_381 (fun v8 => ?_)
    refine kr_ldcw dX12_keys_35 kc_RX12_354 ?_
    refine kr_icmp_lt (tgt := 43) dX12_keys_38 (by decide) ?_ ?_
    · refine kr_iconst (v := 0) dX12_keys_43 (by decide) ?_
      refine kr_istore (lv' := [(4, .int (0 : Int32)), (0, kr_r E 346), (1, .int p1), (2, .int p2), (3, .int p3)]) dX12_keys_44 (by decide) rfl ?_
      refine kr_iconst (v := 0) dX12_keys_46 (by decide) ?_
      refine kr_istore (lv' := [(5, .int (0 : Int32)), (4, .int (0 : Int32)), (0, kr_r E 346), (1, .int p1), (2, .int p2), (3, .int p3)]) dX12_keys_47 (by decide) rfl ?_
      refine kr_sub [2, 3, 4, 5, 1, 0] rfl ?_
      exact r_X12_keys_49 E p1 p2 p3 _ (0 : Int32) (0 : Int32) M6
    · refine kr_iconst (v := 0) dX12_keys_41 (by decide) ?_
      exact kr_iret dX12_keys_42 rfl
  · refine kr_bipush (v := -2) dX12_keys_15 (by decide) ?_
    exact kr_iret dX12_keys_17 rfl
theorem dX12_weightOf_0 : decode cX12_weightOf 0 = .ok (.iconst 0, 1) := by decide +kernel
theorem dX12_weightOf_1 : decode cX12_weightOf 1 = .ok (.istore_n 2, 1) := by decide +kernel
theorem dX12_weightOf_2 : decode cX12_weightOf 2 = .ok (.iconst 0, 1) := by decide +kernel
theorem dX12_weightOf_3 : decode cX12_weightOf 3 = .ok (.istore_n 3, 1) := by decide +kernel
theorem dX12_weightOf_4 : decode cX12_weightOf 4 = .ok (.iload_n 3, 1) := by decide +kernel
theorem dX12_weightOf_5 : decode cX12_weightOf 5 = .ok (.aload_n 0, 1) := by decide +kernel
theorem dX12_weightOf_6 : decode cX12_weightOf 6 = .ok (.getfield 34, 3) := by decide +kernel
theorem dX12_weightOf_9 : decode cX12_weightOf 9 = .ok (.bipush 6, 2) := by decide +kernel
theorem dX12_weightOf_11 : decode cX12_weightOf 11 = .ok (.iaload, 1) := by decide +kernel
theorem dX12_weightOf_12 : decode cX12_weightOf 12 = .ok (.if_icmp .ge 32, 3) := by decide +kernel
theorem dX12_weightOf_15 : decode cX12_weightOf 15 = .ok (.iload_n 2, 1) := by decide +kernel
theorem dX12_weightOf_16 : decode cX12_weightOf 16 = .ok (.iload_n 1, 1) := by decide +kernel
theorem dX12_weightOf_17 : decode cX12_weightOf 17 = .ok (.iload_n 3, 1) := by decide +kernel
theorem dX12_weightOf_18 : decode cX12_weightOf 18 = .ok (.invokestatic 446, 3) := by decide +kernel
theorem dX12_weightOf_21 : decode cX12_weightOf 21 = .ok (.ifCond .eq 14, 3) := by decide +kernel
theorem dX12_weightOf_24 : decode cX12_weightOf 24 = .ok (.aload_n 0, 1) := by decide +kernel
theorem dX12_weightOf_25 : decode cX12_weightOf 25 = .ok (.getfield 58, 3) := by decide +kernel
theorem dX12_weightOf_28 : decode cX12_weightOf 28 = .ok (.iconst 3, 1) := by decide +kernel
theorem dX12_weightOf_29 : decode cX12_weightOf 29 = .ok (.iload_n 3, 1) := by decide +kernel
theorem dX12_weightOf_30 : decode cX12_weightOf 30 = .ok (.imul, 1) := by decide +kernel
theorem dX12_weightOf_31 : decode cX12_weightOf 31 = .ok (.iaload, 1) := by decide +kernel
theorem dX12_weightOf_32 : decode cX12_weightOf 32 = .ok (.goto 4, 3) := by decide +kernel
theorem dX12_weightOf_35 : decode cX12_weightOf 35 = .ok (.iconst 0, 1) := by decide +kernel
theorem dX12_weightOf_36 : decode cX12_weightOf 36 = .ok (.iadd, 1) := by decide +kernel
theorem dX12_weightOf_37 : decode cX12_weightOf 37 = .ok (.istore_n 2, 1) := by decide +kernel
theorem dX12_weightOf_38 : decode cX12_weightOf 38 = .ok (.iinc 3 1, 3) := by decide +kernel
theorem dX12_weightOf_41 : decode cX12_weightOf 41 = .ok (.goto (-37), 3) := by decide +kernel
theorem dX12_weightOf_44 : decode cX12_weightOf 44 = .ok (.iload_n 2, 1) := by decide +kernel
theorem dX12_weightOf_45 : decode cX12_weightOf 45 = .ok (.ireturn, 1) := by decide +kernel
theorem r_X12_weightOf_36 (E : kr_E) (k_4 : Int32 → Int32 → kr_M → Option (Int32 × kr_M)) (l1 : Int32) (l3 : Int32) (s0 : Int32) (s1 : Int32) (hk_4 : ∀ (x2 : Int32) (x3 : Int32) (M : kr_M), kR kr_vi E Y_X12_weightOf 2 4 [(0, kr_r E 346), (1, .int l1), (2, .int x2), (3, .int x3)] [] M (k_4 x2 x3 M)) (M : kr_M) : kR kr_vi E Y_X12_weightOf 2 36 [(0, kr_r E 346), (1, .int l1), (3, .int l3)] [.int s0, .int s1] M (f_X12_weightOf_36 k_4 l3 s0 s1 M) := by
  rw [f_X12_weightOf_36]
  refine kr_iadd dX12_weightOf_36 ?_
  refine kr_nmi (fun v1 => ?_)
  refine kr_istore_n (lv' := [(2, .int v1), (0, kr_r E 346), (1, .int l1), (3, .int l3)]) dX12_weightOf_37 rfl (by decide) rfl ?_
  refine kr_iinc (j := 3) (v := (l3 + (1 : Int32))) (lv' := [(3, .int (l3 + (1 : Int32))), (2, .int v1), (0, kr_r E 346), (1, .int l1)]) dX12_weightOf_38 rfl rfl (by decide) rfl ?_
  refine kr_goto (tgt := 4) dX12_weightOf_41 (by decide) ?_
  refine kr_sub [2, 3, 1, 0] rfl ?_
  exact hk_4 v1 (l3 + (1 : Int32)) M
theorem r_X12_weightOf_4 (E : kr_E)  (l1 : Int32)  : ∀ (n : Nat) (l2 : Int32) (l3 : Int32) (M : kr_M), kR kr_vi E Y_X12_weightOf 2 4 [(0, kr_r E 346), (1, .int l1), (2, .int l2), (3, .int l3)] [] M (f_X12_weightOf_4 l1 n l2 l3 M) := by
  intro n
  induction n with
  | zero => intro l2 l3 M; exact kr_none
  | succ n ih =>
    intro l2 l3 M
    rw [f_X12_weightOf_4]
    refine kr_iload_n dX12_weightOf_4 rfl 3 rfl ?_
    refine kr_aload_n dX12_weightOf_5 rfl 0 rfl ?_
    refine kr_getA (o := 7) (ci := 12) (j := 17) dX12_weightOf_6 kr_at_346 fl_RX12_34 rfl ?_
    refine kr_bipush (v := 6) dX12_weightOf_9 (by decide) ?_
    refine kr_iald dX12_weightOf_11 kr_at_353 (fun v1 => ?_)
    refine kr_icmp_ge (tgt := 44) dX12_weightOf_12 (by decide) ?_ ?_
    · refine kr_iload_n dX12_weightOf_44 rfl 2 rfl ?_
      exact kr_iret dX12_weightOf_45 rfl
    · refine kr_iload_n dX12_weightOf_15 rfl 2 rfl ?_
      refine kr_iload_n dX12_weightOf_16 rfl 1 rfl ?_
      refine kr_iload_n dX12_weightOf_17 rfl 3 rfl ?_
      refine kr_Si (As := [.int l1, .int l3]) (st := [.int l2]) zs_X12_isBit dX12_weightOf_18 ml_RX12_446 (r_X12_isBit E l1 l3 M) rfl rfl (Nat.le_of_ble_eq_true rfl) rfl (by decide) (Nat.le_of_ble_eq_true rfl) (fun r3 M2 => ?_)
      refine kr_if_eq (tgt := 35) dX12_weightOf_21 (by decide) ?_ ?_
      · refine kr_iconst (v := 0) dX12_weightOf_35 (by decide) ?_
        refine kr_sub [0, 1, 3] rfl ?_
        exact r_X12_weightOf_36 E _ l1 l3 (0 : Int32) l2 ih M2
      · refine kr_aload_n dX12_weightOf_24 rfl 0 rfl ?_
        refine kr_getA (o := 15) (ci := 12) (j := 25) dX12_weightOf_25 kr_at_346 fl_RX12_58 rfl ?_
        refine kr_iconst (v := 3) dX12_weightOf_28 (by decide) ?_
        refine kr_iload_n dX12_weightOf_29 rfl 3 rfl ?_
        refine kr_imul dX12_weightOf_30 ?_
        refine kr_iald dX12_weightOf_31 kr_at_361 (fun v4 => ?_)
        refine kr_goto (tgt := 36) dX12_weightOf_32 (by decide) ?_
        refine kr_sub [0, 1, 3] rfl ?_
        exact r_X12_weightOf_36 E _ l1 l3 v4 l2 ih M2
theorem r_X12_weightOf (E : kr_E) (p1 : Int32) (M : kr_M) : kR kr_vi E Y_X12_weightOf 2 0 [(0, kr_r E 346), (1, .int p1)] [] M (f_X12_weightOf p1 M) := by
  rw [f_X12_weightOf]
  refine kr_iconst (v := 0) dX12_weightOf_0 (by decide) ?_
  refine kr_istore_n (lv' := [(2, .int (0 : Int32)), (0, kr_r E 346), (1, .int p1)]) dX12_weightOf_1 rfl (by decide) rfl ?_
  refine kr_iconst (v := 0) dX12_weightOf_2 (by decide) ?_
  refine kr_istore_n (lv' := [(3, .int (0 : Int32)), (2, .int (0 : Int32)), (0, kr_r E 346), (1, .int p1)]) dX12_weightOf_3 rfl (by decide) rfl ?_
  refine kr_sub [2, 3, 1, 0] rfl ?_
  exact r_X12_weightOf_4 E p1 _ (0 : Int32) (0 : Int32) M
theorem dX12_slowestOf_0 : decode cX12_slowestOf 0 = .ok (.iconst 0, 1) := by decide +kernel
theorem dX12_slowestOf_1 : decode cX12_slowestOf 1 = .ok (.istore_n 2, 1) := by decide +kernel
theorem dX12_slowestOf_2 : decode cX12_slowestOf 2 = .ok (.iconst 0, 1) := by decide +kernel
theorem dX12_slowestOf_3 : decode cX12_slowestOf 3 = .ok (.istore_n 3, 1) := by decide +kernel
theorem dX12_slowestOf_4 : decode cX12_slowestOf 4 = .ok (.iload_n 3, 1) := by decide +kernel
theorem dX12_slowestOf_5 : decode cX12_slowestOf 5 = .ok (.aload_n 0, 1) := by decide +kernel
theorem dX12_slowestOf_6 : decode cX12_slowestOf 6 = .ok (.getfield 34, 3) := by decide +kernel
theorem dX12_slowestOf_9 : decode cX12_slowestOf 9 = .ok (.bipush 6, 2) := by decide +kernel
theorem dX12_slowestOf_11 : decode cX12_slowestOf 11 = .ok (.iaload, 1) := by decide +kernel
theorem dX12_slowestOf_12 : decode cX12_slowestOf 12 = .ok (.if_icmp .ge 42, 3) := by decide +kernel
theorem dX12_slowestOf_15 : decode cX12_slowestOf 15 = .ok (.iload_n 1, 1) := by decide +kernel
theorem dX12_slowestOf_16 : decode cX12_slowestOf 16 = .ok (.iload_n 3, 1) := by decide +kernel
theorem dX12_slowestOf_17 : decode cX12_slowestOf 17 = .ok (.invokestatic 446, 3) := by decide +kernel
theorem dX12_slowestOf_20 : decode cX12_slowestOf 20 = .ok (.ifCond .eq 28, 3) := by decide +kernel
theorem dX12_slowestOf_23 : decode cX12_slowestOf 23 = .ok (.aload_n 0, 1) := by decide +kernel
theorem dX12_slowestOf_24 : decode cX12_slowestOf 24 = .ok (.getfield 58, 3) := by decide +kernel
theorem dX12_slowestOf_27 : decode cX12_slowestOf 27 = .ok (.iconst 3, 1) := by decide +kernel
theorem dX12_slowestOf_28 : decode cX12_slowestOf 28 = .ok (.iload_n 3, 1) := by decide +kernel
theorem dX12_slowestOf_29 : decode cX12_slowestOf 29 = .ok (.imul, 1) := by decide +kernel
theorem dX12_slowestOf_30 : decode cX12_slowestOf 30 = .ok (.iconst 1, 1) := by decide +kernel
theorem dX12_slowestOf_31 : decode cX12_slowestOf 31 = .ok (.iadd, 1) := by decide +kernel
theorem dX12_slowestOf_32 : decode cX12_slowestOf 32 = .ok (.iaload, 1) := by decide +kernel
theorem dX12_slowestOf_33 : decode cX12_slowestOf 33 = .ok (.iload_n 2, 1) := by decide +kernel
theorem dX12_slowestOf_34 : decode cX12_slowestOf 34 = .ok (.if_icmp .le 14, 3) := by decide +kernel
theorem dX12_slowestOf_37 : decode cX12_slowestOf 37 = .ok (.aload_n 0, 1) := by decide +kernel
theorem dX12_slowestOf_38 : decode cX12_slowestOf 38 = .ok (.getfield 58, 3) := by decide +kernel
theorem dX12_slowestOf_41 : decode cX12_slowestOf 41 = .ok (.iconst 3, 1) := by decide +kernel
theorem dX12_slowestOf_42 : decode cX12_slowestOf 42 = .ok (.iload_n 3, 1) := by decide +kernel
theorem dX12_slowestOf_43 : decode cX12_slowestOf 43 = .ok (.imul, 1) := by decide +kernel
theorem dX12_slowestOf_44 : decode cX12_slowestOf 44 = .ok (.iconst 1, 1) := by decide +kernel
theorem dX12_slowestOf_45 : decode cX12_slowestOf 45 = .ok (.iadd, 1) := by decide +kernel
theorem dX12_slowestOf_46 : decode cX12_slowestOf 46 = .ok (.iaload, 1) := by decide +kernel
theorem dX12_slowestOf_47 : decode cX12_slowestOf 47 = .ok (.istore_n 2, 1) := by decide +kernel
theorem dX12_slowestOf_48 : decode cX12_slowestOf 48 = .ok (.iinc 3 1, 3) := by decide +kernel
theorem dX12_slowestOf_51 : decode cX12_slowestOf 51 = .ok (.goto (-47), 3) := by decide +kernel
theorem dX12_slowestOf_54 : decode cX12_slowestOf 54 = .ok (.iload_n 2, 1) := by decide +kernel
theorem dX12_slowestOf_55 : decode cX12_slowestOf 55 = .ok (.ireturn, 1) := by decide +kernel
theorem r_X12_slowestOf_48 (E : kr_E) (k_4 : Int32 → Int32 → kr_M → Option (Int32 × kr_M)) (l1 : Int32) (l2 : Int32) (l3 : Int32) (hk_4 : ∀ (x2 : Int32) (x3 : Int32) (M : kr_M), kR kr_vi E Y_X12_slowestOf 2 4 [(0, kr_r E 346), (1, .int l1), (2, .int x2), (3, .int x3)] [] M (k_4 x2 x3 M)) (M : kr_M) : kR kr_vi E Y_X12_slowestOf 2 48 [(0, kr_r E 346), (1, .int l1), (2, .int l2), (3, .int l3)] [] M (f_X12_slowestOf_48 k_4 l2 l3 M) := by
  rw [f_X12_slowestOf_48]
  refine kr_iinc (j := 3) (v := (l3 + (1 : Int32))) (lv' := [(3, .int (l3 + (1 : Int32))), (0, kr_r E 346), (1, .int l1), (2, .int l2)]) dX12_slowestOf_48 rfl rfl (by decide) rfl ?_
  refine kr_goto (tgt := 4) dX12_slowestOf_51 (by decide) ?_
  refine kr_sub [1, 2, 3, 0] rfl ?_
  exact hk_4 l2 (l3 + (1 : Int32)) M
theorem r_X12_slowestOf_4 (E : kr_E)  (l1 : Int32)  : ∀ (n : Nat) (l2 : Int32) (l3 : Int32) (M : kr_M), kR kr_vi E Y_X12_slowestOf 2 4 [(0, kr_r E 346), (1, .int l1), (2, .int l2), (3, .int l3)] [] M (f_X12_slowestOf_4 l1 n l2 l3 M) := by
  intro n
  induction n with
  | zero => intro l2 l3 M; exact kr_none
  | succ n ih =>
    intro l2 l3 M
    rw [f_X12_slowestOf_4]
    refine kr_iload_n dX12_slowestOf_4 rfl 3 rfl ?_
    refine kr_aload_n dX12_slowestOf_5 rfl 0 rfl ?_
    refine kr_getA (o := 7) (ci := 12) (j := 17) dX12_slowestOf_6 kr_at_346 fl_RX12_34 rfl ?_
    refine kr_bipush (v := 6) dX12_slowestOf_9 (by decide) ?_
    refine kr_iald dX12_slowestOf_11 kr_at_353 (fun v1 => ?_)
    refine kr_icmp_ge (tgt := 54) dX12_slowestOf_12 (by decide) ?_ ?_
    · refine kr_iload_n dX12_slowestOf_54 rfl 2 rfl ?_
      exact kr_iret dX12_slowestOf_55 rfl
    · refine kr_iload_n dX12_slowestOf_15 rfl 1 rfl ?_
      refine kr_iload_n dX12_slowestOf_16 rfl 3 rfl ?_
      refine kr_Si (As := [.int l1, .int l3]) (st := []) zs_X12_isBit dX12_slowestOf_17 ml_RX12_446 (r_X12_isBit E l1 l3 M) rfl rfl (Nat.le_of_ble_eq_true rfl) rfl (by decide) (Nat.le_of_ble_eq_true rfl) (fun r3 M2 => ?_)
      refine kr_if_eq (tgt := 48) dX12_slowestOf_20 (by decide) ?_ ?_
      · refine kr_sub [0, 1, 2, 3] rfl ?_
        exact r_X12_slowestOf_48 E _ l1 l2 l3 ih M2
      · refine kr_aload_n dX12_slowestOf_23 rfl 0 rfl ?_
        refine kr_getA (o := 15) (ci := 12) (j := 25) dX12_slowestOf_24 kr_at_346 fl_RX12_58 rfl ?_
        refine kr_iconst (v := 3) dX12_slowestOf_27 (by decide) ?_
        refine kr_iload_n dX12_slowestOf_28 rfl 3 rfl ?_
        refine kr_imul dX12_slowestOf_29 ?_
        refine kr_iconst (v := 1) dX12_slowestOf_30 (by decide) ?_
        refine kr_iadd dX12_slowestOf_31 ?_
        refine kr_iald dX12_slowestOf_32 kr_at_361 (fun v4 => ?_)
        refine kr_iload_n dX12_slowestOf_33 rfl 2 rfl ?_
        refine kr_icmp_le (tgt := 48) dX12_slowestOf_34 (by decide) ?_ ?_
        · refine kr_sub [0, 1, 2, 3] rfl ?_
          exact r_X12_slowestOf_48 E _ l1 l2 l3 ih M2
        · refine kr_aload_n dX12_slowestOf_37 rfl 0 rfl ?_
          refine kr_getA (o := 15) (ci := 12) (j := 25) dX12_slowestOf_38 kr_at_346 fl_RX12_58 rfl ?_
          refine kr_iconst (v := 3) dX12_slowestOf_41 (by decide) ?_
          refine kr_iload_n dX12_slowestOf_42 rfl 3 rfl ?_
          refine kr_imul dX12_slowestOf_43 ?_
          refine kr_iconst (v := 1) dX12_slowestOf_44 (by decide) ?_
          refine kr_iadd dX12_slowestOf_45 ?_
          refine kr_iald dX12_slowestOf_46 kr_at_361 (fun v5 => ?_)
          refine kr_istore_n (lv' := [(2, .int v5), (0, kr_r E 346), (1, .int l1), (3, .int l3)]) dX12_slowestOf_47 rfl (by decide) rfl ?_
          refine kr_sub [1, 2, 0, 3] rfl ?_
          exact r_X12_slowestOf_48 E _ l1 v5 l3 ih M2
theorem r_X12_slowestOf (E : kr_E) (p1 : Int32) (M : kr_M) : kR kr_vi E Y_X12_slowestOf 2 0 [(0, kr_r E 346), (1, .int p1)] [] M (f_X12_slowestOf p1 M) := by
  rw [f_X12_slowestOf]
  refine kr_iconst (v := 0) dX12_slowestOf_0 (by decide) ?_
  refine kr_istore_n (lv' := [(2, .int (0 : Int32)), (0, kr_r E 346), (1, .int p1)]) dX12_slowestOf_1 rfl (by decide) rfl ?_
  refine kr_iconst (v := 0) dX12_slowestOf_2 (by decide) ?_
  refine kr_istore_n (lv' := [(3, .int (0 : Int32)), (2, .int (0 : Int32)), (0, kr_r E 346), (1, .int p1)]) dX12_slowestOf_3 rfl (by decide) rfl ?_
  refine kr_sub [2, 3, 1, 0] rfl ?_
  exact r_X12_slowestOf_4 E p1 _ (0 : Int32) (0 : Int32) M
theorem dX12_laysFerry_0 : decode cX12_laysFerry 0 = .ok (.aload_n 0, 1) := by decide +kernel
theorem dX12_laysFerry_1 : decode cX12_laysFerry 1 = .ok (.invokevirtual 337, 3) := by decide +kernel
theorem dX12_laysFerry_4 : decode cX12_laysFerry 4 = .ok (.aload_n 0, 1) := by decide +kernel
theorem dX12_laysFerry_5 : decode cX12_laysFerry 5 = .ok (.getfield 123, 3) := by decide +kernel
theorem dX12_laysFerry_8 : decode cX12_laysFerry 8 = .ok (.iconst 0, 1) := by decide +kernel
theorem dX12_laysFerry_9 : decode cX12_laysFerry 9 = .ok (.iconst 0, 1) := by decide +kernel
theorem dX12_laysFerry_10 : decode cX12_laysFerry 10 = .ok (.iastore, 1) := by decide +kernel
theorem dX12_laysFerry_11 : decode cX12_laysFerry 11 = .ok (.aload_n 0, 1) := by decide +kernel
theorem dX12_laysFerry_12 : decode cX12_laysFerry 12 = .ok (.getfield 126, 3) := by decide +kernel
theorem dX12_laysFerry_15 : decode cX12_laysFerry 15 = .ok (.iconst 0, 1) := by decide +kernel
theorem dX12_laysFerry_16 : decode cX12_laysFerry 16 = .ok (.iconst 0, 1) := by decide +kernel
theorem dX12_laysFerry_17 : decode cX12_laysFerry 17 = .ok (.iastore, 1) := by decide +kernel
theorem dX12_laysFerry_18 : decode cX12_laysFerry 18 = .ok (.iconst 1, 1) := by decide +kernel
theorem dX12_laysFerry_19 : decode cX12_laysFerry 19 = .ok (.istore_n 2, 1) := by decide +kernel
theorem dX12_laysFerry_20 : decode cX12_laysFerry 20 = .ok (.iload_n 2, 1) := by decide +kernel
theorem dX12_laysFerry_21 : decode cX12_laysFerry 21 = .ok (.iconst 1, 1) := by decide +kernel
theorem dX12_laysFerry_22 : decode cX12_laysFerry 22 = .ok (.aload_n 0, 1) := by decide +kernel
theorem dX12_laysFerry_23 : decode cX12_laysFerry 23 = .ok (.getfield 34, 3) := by decide +kernel
theorem dX12_laysFerry_26 : decode cX12_laysFerry 26 = .ok (.bipush 6, 2) := by decide +kernel
theorem dX12_laysFerry_28 : decode cX12_laysFerry 28 = .ok (.iaload, 1) := by decide +kernel
theorem dX12_laysFerry_29 : decode cX12_laysFerry 29 = .ok (.ishl, 1) := by decide +kernel
theorem dX12_laysFerry_30 : decode cX12_laysFerry 30 = .ok (.if_icmp .ge 169, 3) := by decide +kernel
theorem dX12_laysFerry_33 : decode cX12_laysFerry 33 = .ok (.aload_n 0, 1) := by decide +kernel
theorem dX12_laysFerry_34 : decode cX12_laysFerry 34 = .ok (.getfield 123, 3) := by decide +kernel
theorem dX12_laysFerry_37 : decode cX12_laysFerry 37 = .ok (.iload_n 2, 1) := by decide +kernel
theorem dX12_laysFerry_38 : decode cX12_laysFerry 38 = .ok (.ldc_w 354, 3) := by decide +kernel
theorem dX12_laysFerry_41 : decode cX12_laysFerry 41 = .ok (.iastore, 1) := by decide +kernel
theorem dX12_laysFerry_42 : decode cX12_laysFerry 42 = .ok (.aload_n 0, 1) := by decide +kernel
theorem dX12_laysFerry_43 : decode cX12_laysFerry 43 = .ok (.getfield 126, 3) := by decide +kernel
theorem dX12_laysFerry_46 : decode cX12_laysFerry 46 = .ok (.iload_n 2, 1) := by decide +kernel
theorem dX12_laysFerry_47 : decode cX12_laysFerry 47 = .ok (.ldc_w 354, 3) := by decide +kernel
theorem dX12_laysFerry_50 : decode cX12_laysFerry 50 = .ok (.iastore, 1) := by decide +kernel
theorem dX12_laysFerry_51 : decode cX12_laysFerry 51 = .ok (.iload_n 2, 1) := by decide +kernel
theorem dX12_laysFerry_52 : decode cX12_laysFerry 52 = .ok (.istore_n 3, 1) := by decide +kernel
theorem dX12_laysFerry_53 : decode cX12_laysFerry 53 = .ok (.iload_n 3, 1) := by decide +kernel
theorem dX12_laysFerry_54 : decode cX12_laysFerry 54 = .ok (.ifCond .le 139, 3) := by decide +kernel
theorem dX12_laysFerry_57 : decode cX12_laysFerry 57 = .ok (.iload_n 2, 1) := by decide +kernel
theorem dX12_laysFerry_58 : decode cX12_laysFerry 58 = .ok (.iload_n 3, 1) := by decide +kernel
theorem dX12_laysFerry_59 : decode cX12_laysFerry 59 = .ok (.iconst (-1), 1) := by decide +kernel
theorem dX12_laysFerry_60 : decode cX12_laysFerry 60 = .ok (.ixor, 1) := by decide +kernel
theorem dX12_laysFerry_61 : decode cX12_laysFerry 61 = .ok (.iand, 1) := by decide +kernel
theorem dX12_laysFerry_62 : decode cX12_laysFerry 62 = .ok (.istore 4, 2) := by decide +kernel
theorem dX12_laysFerry_64 : decode cX12_laysFerry 64 = .ok (.aload_n 0, 1) := by decide +kernel
theorem dX12_laysFerry_65 : decode cX12_laysFerry 65 = .ok (.iload_n 3, 1) := by decide +kernel
theorem dX12_laysFerry_66 : decode cX12_laysFerry 66 = .ok (.invokevirtual 490, 3) := by decide +kernel
theorem dX12_laysFerry_69 : decode cX12_laysFerry 69 = .ok (.aload_n 0, 1) := by decide +kernel
theorem dX12_laysFerry_70 : decode cX12_laysFerry 70 = .ok (.iload_n 1, 1) := by decide +kernel
theorem dX12_laysFerry_71 : decode cX12_laysFerry 71 = .ok (.invokevirtual 343, 3) := by decide +kernel
theorem dX12_laysFerry_74 : decode cX12_laysFerry 74 = .ok (.if_icmp .gt 110, 3) := by decide +kernel
theorem dX12_laysFerry_77 : decode cX12_laysFerry 77 = .ok (.aload_n 0, 1) := by decide +kernel
theorem dX12_laysFerry_78 : decode cX12_laysFerry 78 = .ok (.getfield 123, 3) := by decide +kernel
theorem dX12_laysFerry_81 : decode cX12_laysFerry 81 = .ok (.iload 4, 2) := by decide +kernel
theorem dX12_laysFerry_83 : decode cX12_laysFerry 83 = .ok (.iaload, 1) := by decide +kernel
theorem dX12_laysFerry_84 : decode cX12_laysFerry 84 = .ok (.ldc_w 354, 3) := by decide +kernel
theorem dX12_laysFerry_87 : decode cX12_laysFerry 87 = .ok (.if_icmp .lt 6, 3) := by decide +kernel
theorem dX12_laysFerry_90 : decode cX12_laysFerry 90 = .ok (.goto 94, 3) := by decide +kernel
theorem dX12_laysFerry_93 : decode cX12_laysFerry 93 = .ok (.aload_n 0, 1) := by decide +kernel
theorem dX12_laysFerry_94 : decode cX12_laysFerry 94 = .ok (.getfield 123, 3) := by decide +kernel
theorem dX12_laysFerry_97 : decode cX12_laysFerry 97 = .ok (.iload 4, 2) := by decide +kernel
theorem dX12_laysFerry_99 : decode cX12_laysFerry 99 = .ok (.iaload, 1) := by decide +kernel
theorem dX12_laysFerry_100 : decode cX12_laysFerry 100 = .ok (.aload_n 0, 1) := by decide +kernel
theorem dX12_laysFerry_101 : decode cX12_laysFerry 101 = .ok (.iload_n 1, 1) := by decide +kernel
theorem dX12_laysFerry_102 : decode cX12_laysFerry 102 = .ok (.invokevirtual 340, 3) := by decide +kernel
theorem dX12_laysFerry_105 : decode cX12_laysFerry 105 = .ok (.aload_n 0, 1) := by decide +kernel
theorem dX12_laysFerry_106 : decode cX12_laysFerry 106 = .ok (.iload_n 3, 1) := by decide +kernel
theorem dX12_laysFerry_107 : decode cX12_laysFerry 107 = .ok (.invokevirtual 493, 3) := by decide +kernel
theorem dX12_laysFerry_110 : decode cX12_laysFerry 110 = .ok (.imul, 1) := by decide +kernel
theorem dX12_laysFerry_111 : decode cX12_laysFerry 111 = .ok (.iadd, 1) := by decide +kernel
theorem dX12_laysFerry_112 : decode cX12_laysFerry 112 = .ok (.istore 5, 2) := by decide +kernel
theorem dX12_laysFerry_114 : decode cX12_laysFerry 114 = .ok (.aload_n 0, 1) := by decide +kernel
theorem dX12_laysFerry_115 : decode cX12_laysFerry 115 = .ok (.getfield 123, 3) := by decide +kernel
theorem dX12_laysFerry_118 : decode cX12_laysFerry 118 = .ok (.iload_n 2, 1) := by decide +kernel
theorem dX12_laysFerry_119 : decode cX12_laysFerry 119 = .ok (.iload 5, 2) := by decide +kernel
theorem dX12_laysFerry_121 : decode cX12_laysFerry 121 = .ok (.aload_n 0, 1) := by decide +kernel
theorem dX12_laysFerry_122 : decode cX12_laysFerry 122 = .ok (.getfield 123, 3) := by decide +kernel
theorem dX12_laysFerry_125 : decode cX12_laysFerry 125 = .ok (.iload_n 2, 1) := by decide +kernel
theorem dX12_laysFerry_126 : decode cX12_laysFerry 126 = .ok (.iaload, 1) := by decide +kernel
theorem dX12_laysFerry_127 : decode cX12_laysFerry 127 = .ok (.if_icmp .ge 8, 3) := by decide +kernel
theorem dX12_laysFerry_130 : decode cX12_laysFerry 130 = .ok (.iload 5, 2) := by decide +kernel
theorem dX12_laysFerry_132 : decode cX12_laysFerry 132 = .ok (.goto 9, 3) := by decide +kernel
theorem dX12_laysFerry_135 : decode cX12_laysFerry 135 = .ok (.aload_n 0, 1) := by decide +kernel
theorem dX12_laysFerry_136 : decode cX12_laysFerry 136 = .ok (.getfield 123, 3) := by decide +kernel
theorem dX12_laysFerry_139 : decode cX12_laysFerry 139 = .ok (.iload_n 2, 1) := by decide +kernel
theorem dX12_laysFerry_140 : decode cX12_laysFerry 140 = .ok (.iaload, 1) := by decide +kernel
theorem dX12_laysFerry_141 : decode cX12_laysFerry 141 = .ok (.iastore, 1) := by decide +kernel
theorem dX12_laysFerry_142 : decode cX12_laysFerry 142 = .ok (.aload_n 0, 1) := by decide +kernel
theorem dX12_laysFerry_143 : decode cX12_laysFerry 143 = .ok (.getfield 126, 3) := by decide +kernel
theorem dX12_laysFerry_146 : decode cX12_laysFerry 146 = .ok (.iload_n 2, 1) := by decide +kernel
theorem dX12_laysFerry_147 : decode cX12_laysFerry 147 = .ok (.aload_n 0, 1) := by decide +kernel
theorem dX12_laysFerry_148 : decode cX12_laysFerry 148 = .ok (.getfield 126, 3) := by decide +kernel
theorem dX12_laysFerry_151 : decode cX12_laysFerry 151 = .ok (.iload 4, 2) := by decide +kernel
theorem dX12_laysFerry_153 : decode cX12_laysFerry 153 = .ok (.iaload, 1) := by decide +kernel
theorem dX12_laysFerry_154 : decode cX12_laysFerry 154 = .ok (.iconst 1, 1) := by decide +kernel
theorem dX12_laysFerry_155 : decode cX12_laysFerry 155 = .ok (.iadd, 1) := by decide +kernel
theorem dX12_laysFerry_156 : decode cX12_laysFerry 156 = .ok (.aload_n 0, 1) := by decide +kernel
theorem dX12_laysFerry_157 : decode cX12_laysFerry 157 = .ok (.getfield 126, 3) := by decide +kernel
theorem dX12_laysFerry_160 : decode cX12_laysFerry 160 = .ok (.iload_n 2, 1) := by decide +kernel
theorem dX12_laysFerry_161 : decode cX12_laysFerry 161 = .ok (.iaload, 1) := by decide +kernel
theorem dX12_laysFerry_162 : decode cX12_laysFerry 162 = .ok (.if_icmp .ge 15, 3) := by decide +kernel
theorem dX12_laysFerry_165 : decode cX12_laysFerry 165 = .ok (.aload_n 0, 1) := by decide +kernel
theorem dX12_laysFerry_166 : decode cX12_laysFerry 166 = .ok (.getfield 126, 3) := by decide +kernel
theorem dX12_laysFerry_169 : decode cX12_laysFerry 169 = .ok (.iload 4, 2) := by decide +kernel
theorem dX12_laysFerry_171 : decode cX12_laysFerry 171 = .ok (.iaload, 1) := by decide +kernel
theorem dX12_laysFerry_172 : decode cX12_laysFerry 172 = .ok (.iconst 1, 1) := by decide +kernel
theorem dX12_laysFerry_173 : decode cX12_laysFerry 173 = .ok (.iadd, 1) := by decide +kernel
theorem dX12_laysFerry_174 : decode cX12_laysFerry 174 = .ok (.goto 9, 3) := by decide +kernel
theorem dX12_laysFerry_177 : decode cX12_laysFerry 177 = .ok (.aload_n 0, 1) := by decide +kernel
theorem dX12_laysFerry_178 : decode cX12_laysFerry 178 = .ok (.getfield 126, 3) := by decide +kernel
theorem dX12_laysFerry_181 : decode cX12_laysFerry 181 = .ok (.iload_n 2, 1) := by decide +kernel
theorem dX12_laysFerry_182 : decode cX12_laysFerry 182 = .ok (.iaload, 1) := by decide +kernel
theorem dX12_laysFerry_183 : decode cX12_laysFerry 183 = .ok (.iastore, 1) := by decide +kernel
theorem dX12_laysFerry_184 : decode cX12_laysFerry 184 = .ok (.iload_n 3, 1) := by decide +kernel
theorem dX12_laysFerry_185 : decode cX12_laysFerry 185 = .ok (.iconst 1, 1) := by decide +kernel
theorem dX12_laysFerry_186 : decode cX12_laysFerry 186 = .ok (.isub, 1) := by decide +kernel
theorem dX12_laysFerry_187 : decode cX12_laysFerry 187 = .ok (.iload_n 2, 1) := by decide +kernel
theorem dX12_laysFerry_188 : decode cX12_laysFerry 188 = .ok (.iand, 1) := by decide +kernel
theorem dX12_laysFerry_189 : decode cX12_laysFerry 189 = .ok (.istore_n 3, 1) := by decide +kernel
theorem dX12_laysFerry_190 : decode cX12_laysFerry 190 = .ok (.goto (-137), 3) := by decide +kernel
theorem dX12_laysFerry_193 : decode cX12_laysFerry 193 = .ok (.iinc 2 1, 3) := by decide +kernel
theorem dX12_laysFerry_196 : decode cX12_laysFerry 196 = .ok (.goto (-176), 3) := by decide +kernel
theorem dX12_laysFerry_199 : decode cX12_laysFerry 199 = .ok (.return_, 1) := by decide +kernel
theorem r_X12_laysFerry_193 (E : kr_E) (k_20 : Int32 → kr_M → Option kr_M) (l1 : Int32) (l2 : Int32) (hk_20 : ∀ (x2 : Int32) (M : kr_M), kR kr_vv E Y_X12_laysFerry 4 20 [(0, kr_r E 346), (1, .int l1), (2, .int x2)] [] M (k_20 x2 M)) (M : kr_M) : kR kr_vv E Y_X12_laysFerry 4 193 [(0, kr_r E 346), (1, .int l1), (2, .int l2)] [] M (f_X12_laysFerry_193 k_20 l2 M) := by
  rw [f_X12_laysFerry_193]
  refine kr_iinc (j := 2) (v := (l2 + (1 : Int32))) (lv' := [(2, .int (l2 + (1 : Int32))), (0, kr_r E 346), (1, .int l1)]) dX12_laysFerry_193 rfl rfl (by decide) rfl ?_
  refine kr_goto (tgt := 20) dX12_laysFerry_196 (by decide) ?_
  refine kr_sub [1, 2, 0] rfl ?_
  exact hk_20 (l2 + (1 : Int32)) M
theorem r_X12_laysFerry_184 (E : kr_E) (k_53 : Int32 → kr_M → Option kr_M) (l1 : Int32) (l2 : Int32) (l3 : Int32) (hk_53 : ∀ (x3 : Int32) (M : kr_M), kR kr_vv E Y_X12_laysFerry 4 53 [(0, kr_r E 346), (1, .int l1), (2, .int l2), (3, .int x3)] [] M (k_53 x3 M)) (M : kr_M) : kR kr_vv E Y_X12_laysFerry 4 184 [(0, kr_r E 346), (1, .int l1), (2, .int l2), (3, .int l3)] [] M (f_X12_laysFerry_184 k_53 l2 l3 M) := by
  rw [f_X12_laysFerry_184]
  refine kr_iload_n dX12_laysFerry_184 rfl 3 rfl ?_
  refine kr_iconst (v := 1) dX12_laysFerry_185 (by decide) ?_
  refine kr_isub dX12_laysFerry_186 ?_
  refine kr_iload_n dX12_laysFerry_187 rfl 2 rfl ?_
  refine kr_iand dX12_laysFerry_188 ?_
  refine kr_nmi (fun v1 => ?_)
  refine kr_istore_n (lv' := [(3, .int v1), (0, kr_r E 346), (1, .int l1), (2, .int l2)]) dX12_laysFerry_189 rfl (by decide) rfl ?_
  refine kr_goto (tgt := 53) dX12_laysFerry_190 (by decide) ?_
  refine kr_sub [1, 2, 3, 0] rfl ?_
  exact hk_53 v1 M
theorem r_X12_laysFerry_183 (E : kr_E) (k_53 : Int32 → kr_M → Option kr_M) (l1 : Int32) (l2 : Int32) (l3 : Int32) (s0 : Int32) (s1 : Int32) (hk_53 : ∀ (x3 : Int32) (M : kr_M), kR kr_vv E Y_X12_laysFerry 4 53 [(0, kr_r E 346), (1, .int l1), (2, .int l2), (3, .int x3)] [] M (k_53 x3 M)) (M : kr_M) : kR kr_vv E Y_X12_laysFerry 4 183 [(0, kr_r E 346), (1, .int l1), (2, .int l2), (3, .int l3)] [.int s0, .int s1, kr_r E 383] M (f_X12_laysFerry_183 k_53 l2 l3 s0 s1 M) := by
  rw [f_X12_laysFerry_183]
  refine kr_iast dX12_laysFerry_183 kr_at_383 (fun M1 => ?_)
  refine kr_sub [0, 1, 2, 3] rfl ?_
  exact r_X12_laysFerry_184 E _ l1 l2 l3 hk_53 M1
theorem r_X12_laysFerry_141 (E : kr_E) (k_53 : Int32 → kr_M → Option kr_M) (l1 : Int32) (l2 : Int32) (l3 : Int32) (l4 : Int32) (s0 : Int32) (s1 : Int32) (hk_53 : ∀ (x3 : Int32) (M : kr_M), kR kr_vv E Y_X12_laysFerry 4 53 [(0, kr_r E 346), (1, .int l1), (2, .int l2), (3, .int x3)] [] M (k_53 x3 M)) (M : kr_M) : kR kr_vv E Y_X12_laysFerry 4 141 [(0, kr_r E 346), (1, .int l1), (2, .int l2), (3, .int l3), (4, .int l4)] [.int s0, .int s1, kr_r E 382] M (f_X12_laysFerry_141 k_53 l2 l3 l4 s0 s1 M) := by
  rw [f_X12_laysFerry_141]
  refine kr_iast dX12_laysFerry_141 kr_at_382 (fun M1 => ?_)
  refine kr_aload_n dX12_laysFerry_142 rfl 0 rfl ?_
  refine kr_getA (o := 37) (ci := 12) (j := 57) dX12_laysFerry_143 kr_at_346 fl_RX12_126 rfl ?_
  refine kr_iload_n dX12_laysFerry_146 rfl 2 rfl ?_
  refine kr_aload_n dX12_laysFerry_147 rfl 0 rfl ?_
  refine kr_getA (o := 37) (ci := 12) (j := 57) dX12_laysFerry_148 kr_at_346 fl_RX12_126 rfl ?_
  refine kr_iload dX12_laysFerry_151 4 rfl ?_
  refine kr_iald dX12_laysFerry_153 kr_at_383 (fun v2 => ?_)
  refine kr_iconst (v := 1) dX12_laysFerry_154 (by decide) ?_
  refine kr_iadd dX12_laysFerry_155 ?_
  refine kr_aload_n dX12_laysFerry_156 rfl 0 rfl ?_
  refine kr_getA (o := 37) (ci := 12) (j := 57) dX12_laysFerry_157 kr_at_346 fl_RX12_126 rfl ?_
  refine kr_iload_n dX12_laysFerry_160 rfl 2 rfl ?_
  refine kr_iald dX12_laysFerry_161 kr_at_383 (fun v3 => ?_)
  refine kr_icmp_ge (tgt := 177) dX12_laysFerry_162 (by decide) ?_ ?_
  · refine kr_aload_n dX12_laysFerry_177 rfl 0 rfl ?_
    refine kr_getA (o := 37) (ci := 12) (j := 57) dX12_laysFerry_178 kr_at_346 fl_RX12_126 rfl ?_
    refine kr_iload_n dX12_laysFerry_181 rfl 2 rfl ?_
    refine kr_iald dX12_laysFerry_182 kr_at_383 (fun v4 => ?_)
    refine kr_sub [0, 1, 2, 3] rfl ?_
    exact r_X12_laysFerry_183 E _ l1 l2 l3 v4 l2 hk_53 M1
  · refine kr_aload_n dX12_laysFerry_165 rfl 0 rfl ?_
    refine kr_getA (o := 37) (ci := 12) (j := 57) dX12_laysFerry_166 kr_at_346 fl_RX12_126 rfl ?_
    refine kr_iload dX12_laysFerry_169 4 rfl ?_
    refine kr_iald dX12_laysFerry_171 kr_at_383 (fun v5 => ?_)
    refine kr_iconst (v := 1) dX12_laysFerry_172 (by decide) ?_
    refine kr_iadd dX12_laysFerry_173 ?_
    refine kr_goto (tgt := 183) dX12_laysFerry_174 (by decide) ?_
    refine kr_sub [0, 1, 2, 3] rfl ?_
    exact r_X12_laysFerry_183 E _ l1 l2 l3 (v5 + (1 : Int32)) l2 hk_53 M1
theorem r_X12_laysFerry_53 (E : kr_E) (k_20 : Int32 → kr_M → Option kr_M) (l1 : Int32) (l2 : Int32) (hk_20 : ∀ (x2 : Int32) (M : kr_M), kR kr_vv E Y_X12_laysFerry 4 20 [(0, kr_r E 346), (1, .int l1), (2, .int x2)] [] M (k_20 x2 M)) : ∀ (n : Nat) (l3 : Int32) (M : kr_M), kR kr_vv E Y_X12_laysFerry 4 53 [(0, kr_r E 346), (1, .int l1), (2, .int l2), (3, .int l3)] [] M (f_X12_laysFerry_53 k_20 l1 l2 n l3 M) := by
  intro n
  induction n with
  | zero => intro l3 M; exact kr_none
  | succ n ih =>
    intro l3 M
    rw [f_X12_laysFerry_53]
    refine kr_iload_n dX12_laysFerry_53 rfl 3 rfl ?_
    refine kr_if_le (tgt := 193) dX12_laysFerry_54 (by decide) ?_ ?_
    · refine kr_sub [0, 1, 2] rfl ?_
      exact r_X12_laysFerry_193 E _ l1 l2 hk_20 M
    · refine kr_iload_n dX12_laysFerry_57 rfl 2 rfl ?_
      refine kr_iload_n dX12_laysFerry_58 rfl 3 rfl ?_
      refine kr_iconst (v := -1) dX12_laysFerry_59 (by decide) ?_
      refine kr_ixor dX12_laysFerry_60 ?_
      refine kr_iand dX12_laysFerry_61 ?_
      refine kr_nmi (fun v1 => ?_)
      refine kr_istore (lv' := [(4, .int v1), (0, kr_r E 346), (1, .int l1), (2, .int l2), (3, .int l3)]) dX12_laysFerry_62 (by decide) rfl ?_
      refine kr_aload_n dX12_laysFerry_64 rfl 1 rfl ?_
      refine kr_iload_n dX12_laysFerry_65 rfl 4 rfl ?_
      refine kr_Vi (As := [.int l3]) (st := []) zv_X12_weightOf dX12_laysFerry_66 ml_RX12_490 kr_at_346 (r_X12_weightOf E l3 M) rfl rfl (Nat.le_of_ble_eq_true rfl) rfl (by decide) (Nat.le_of_ble_eq_true rfl) (fun r3 M2 => ?_)
      refine kr_aload_n dX12_laysFerry_69 rfl 1 rfl ?_
      refine kr_iload_n dX12_laysFerry_70 rfl 2 rfl ?_
      refine kr_Vi (As := [.int l1]) (st := [.int r3]) zv_X12_strengthOf dX12_laysFerry_71 ml_RX12_343 kr_at_346 (r_X12_strengthOf E l1 M2) rfl rfl (Nat.le_of_ble_eq_true rfl) rfl (by decide) (Nat.le_of_ble_eq_true rfl) (fun r5 M4 => ?_)
      refine kr_icmp_gt (tgt := 184) dX12_laysFerry_74 (by decide) ?_ ?_
      · refine kr_sub [1, 2, 3, 4] rfl ?_
        exact r_X12_laysFerry_184 E _ l1 l2 l3 ih M4
      · refine kr_aload_n dX12_laysFerry_77 rfl 1 rfl ?_
        refine kr_getA (o := 36) (ci := 12) (j := 56) dX12_laysFerry_78 kr_at_346 fl_RX12_123 rfl ?_
        refine kr_iload dX12_laysFerry_81 0 rfl ?_
        refine kr_iald dX12_laysFerry_83 kr_at_382 (fun v6 => ?_)
        refine kr_ldcw dX12_laysFerry_84 kc_RX12_354 ?_
        refine kr_icmp_lt (tgt := 93) dX12_laysFerry_87 (by decide) ?_ ?_
        · refine kr_aload_n dX12_laysFerry_93 rfl 1 rfl ?_
          refine kr_getA (o := 36) (ci := 12) (j := 56) dX12_laysFerry_94 kr_at_346 fl_RX12_123 rfl ?_
          refine kr_iload dX12_laysFerry_97 0 rfl ?_
          refine kr_iald dX12_laysFerry_99 kr_at_382 (fun v7 => ?_)
          refine kr_aload_n dX12_laysFerry_100 rfl 1 rfl ?_
          refine kr_iload_n dX12_laysFerry_101 rfl 2 rfl ?_
          refine kr_Vi (As := [.int l1]) (st := [.int v7]) zv_X12_inchesOf dX12_laysFerry_102 ml_RX12_340 kr_at_346 (r_X12_inchesOf E l1 M4) rfl rfl (Nat.le_of_ble_eq_true rfl) rfl (by decide) (Nat.le_of_ble_eq_true rfl) (fun r9 M8 => ?_)
          refine kr_aload_n dX12_laysFerry_105 rfl 1 rfl ?_
          refine kr_iload_n dX12_laysFerry_106 rfl 4 rfl ?_
          refine kr_Vi (As := [.int l3]) (st := [.int r9, .int v7]) zv_X12_slowestOf dX12_laysFerry_107 ml_RX12_493 kr_at_346 (r_X12_slowestOf E l3 M8) rfl rfl (Nat.le_of_ble_eq_true rfl) rfl (by decide) (Nat.le_of_ble_eq_true rfl) (fun r11 M10 => ?_)
          refine kr_imul dX12_laysFerry_110 ?_
          refine kr_iadd dX12_laysFerry_111 ?_
          refine kr_nmi (fun v12 => ?_)
          refine kr_istore (lv' := [(5, .int v12), (4, .int v1), (0, kr_r E 346), (1, .int l1), (2, .int l2), (3, .int l3)]) dX12_laysFerry_112 (by decide) rfl ?_
          refine kr_aload_n dX12_laysFerry_114 rfl 2 rfl ?_
          refine kr_getA (o := 36) (ci := 12) (j := 56) dX12_laysFerry_115 kr_at_346 fl_RX12_123 rfl ?_
          refine kr_iload_n dX12_laysFerry_118 rfl 4 rfl ?_
          refine kr_iload dX12_laysFerry_119 0 rfl ?_
          refine kr_aload_n dX12_laysFerry_121 rfl 2 rfl ?_
          refine kr_getA (o := 36) (ci := 12) (j := 56) dX12_laysFerry_122 kr_at_346 fl_RX12_123 rfl ?_
          refine kr_iload_n dX12_laysFerry_125 rfl 4 rfl ?_
          refine kr_iald dX12_laysFerry_126 kr_at_382 (fun v13 => ?_)
          refine kr_icmp_ge (tgt := 135) dX12_laysFerry_127 (by decide) ?_ ?_
          · refine kr_aload_n dX12_laysFerry_135 rfl 2 rfl ?_
            refine kr_getA (o := 36) (ci := 12) (j := 56) dX12_laysFerry_136 kr_at_346 fl_RX12_123 rfl ?_
            refine kr_iload_n dX12_laysFerry_139 rfl 4 rfl ?_
            refine kr_iald dX12_laysFerry_140 kr_at_382 (fun v14 => ?_)
            refine kr_sub [2, 3, 4, 5, 1] rfl ?_
            exact r_X12_laysFerry_141 E _ l1 l2 l3 v1 v14 l2 ih M10
          · refine kr_iload dX12_laysFerry_130 0 rfl ?_
            refine kr_goto (tgt := 141) dX12_laysFerry_132 (by decide) ?_
            refine kr_sub [2, 3, 4, 5, 1] rfl ?_
            exact r_X12_laysFerry_141 E _ l1 l2 l3 v1 v12 l2 ih M10
        · refine kr_goto (tgt := 184) dX12_laysFerry_90 (by decide) ?_
          refine kr_sub [1, 2, 3, 4] rfl ?_
          exact r_X12_laysFerry_184 E _ l1 l2 l3 ih M4
theorem r_X12_laysFerry_20 (E : kr_E)  (l1 : Int32)  : ∀ (n : Nat) (l2 : Int32) (M : kr_M), kR kr_vv E Y_X12_laysFerry 4 20 [(0, kr_r E 346), (1, .int l1), (2, .int l2)] [] M (f_X12_laysFerry_20 l1 n l2 M) := by
  intro n
  induction n with
  | zero => intro l2 M; exact kr_none
  | succ n ih =>
    intro l2 M
    rw [f_X12_laysFerry_20]
    refine kr_iload_n dX12_laysFerry_20 rfl 2 rfl ?_
    refine kr_iconst (v := 1) dX12_laysFerry_21 (by decide) ?_
    refine kr_aload_n dX12_laysFerry_22 rfl 0 rfl ?_
    refine kr_getA (o := 7) (ci := 12) (j := 17) dX12_laysFerry_23 kr_at_346 fl_RX12_34 rfl ?_
    refine kr_bipush (v := 6) dX12_laysFerry_26 (by decide) ?_
    refine kr_iald dX12_laysFerry_28 kr_at_353 (fun v1 => ?_)
    refine kr_ishl dX12_laysFerry_29 ?_
    refine kr_icmp_ge (tgt := 199) dX12_laysFerry_30 (by decide) ?_ ?_
    · exact kr_vret dX12_laysFerry_199 rfl
    · refine kr_aload_n dX12_laysFerry_33 rfl 0 rfl ?_
      refine kr_getA (o := 36) (ci := 12) (j := 56) dX12_laysFerry_34 kr_at_346 fl_RX12_123 rfl ?_
      refine kr_iload_n dX12_laysFerry_37 rfl 2 rfl ?_
      refine kr_ldcw dX12_laysFerry_38 kc_RX12_354 ?_
      refine kr_iast dX12_laysFerry_41 kr_at_382 (fun M2 => ?_)
      refine kr_aload_n dX12_laysFerry_42 rfl 0 rfl ?_
      refine kr_getA (o := 37) (ci := 12) (j := 57) dX12_laysFerry_43 kr_at_346 fl_RX12_126 rfl ?_
      refine kr_iload_n dX12_laysFerry_46 rfl 2 rfl ?_
      refine kr_ldcw dX12_laysFerry_47 kc_RX12_354 ?_
      refine kr_iast dX12_laysFerry_50 kr_at_383 (fun M3 => ?_)
      refine kr_iload_n dX12_laysFerry_51 rfl 2 rfl ?_
      refine kr_istore_n (lv' := [(3, .int l2), (0, kr_r E 346), (1, .int l1), (2, .int l2)]) dX12_laysFerry_52 rfl (by decide) rfl ?_
      refine kr_sub [1, 2, 3, 0] rfl ?_
      exact r_X12_laysFerry_53 E _ l1 l2 ih _ l2 M3
theorem r_X12_laysFerry (E : kr_E) (p1 : Int32) (M : kr_M) : kR kr_vv E Y_X12_laysFerry 4 0 [(0, kr_r E 346), (1, .int p1)] [] M (f_X12_laysFerry p1 M) := by
  rw [f_X12_laysFerry]
  refine kr_aload_n dX12_laysFerry_0 rfl 0 rfl ?_
  refine kr_Vv (As := []) (st := []) zv_X12_lays dX12_laysFerry_1 ml_RX12_337 kr_at_346 (r_X12_lays E  M) rfl rfl (Nat.le_of_ble_eq_true rfl) rfl (by decide) (Nat.le_of_ble_eq_true rfl) (fun M1 => ?_)
  refine kr_aload_n dX12_laysFerry_4 rfl 0 rfl ?_
  refine kr_getA (o := 36) (ci := 12) (j := 56) dX12_laysFerry_5 kr_at_346 fl_RX12_123 rfl ?_
  refine kr_iconst (v := 0) dX12_laysFerry_8 (by decide) ?_
  refine kr_iconst (v := 0) dX12_laysFerry_9 (by decide) ?_
  refine kr_iast dX12_laysFerry_10 kr_at_382 (fun M3 => ?_)
  refine kr_aload_n dX12_laysFerry_11 rfl 0 rfl ?_
  refine kr_getA (o := 37) (ci := 12) (j := 57) dX12_laysFerry_12 kr_at_346 fl_RX12_126 rfl ?_
  refine kr_iconst (v := 0) dX12_laysFerry_15 (by decide) ?_
  refine kr_iconst (v := 0) dX12_laysFerry_16 (by decide) ?_
  refine kr_iast dX12_laysFerry_17 kr_at_383 (fun M4 => ?_)
  refine kr_iconst (v := 1) dX12_laysFerry_18 (by decide) ?_
  refine kr_istore_n (lv' := [(2, .int (1 : Int32)), (0, kr_r E 346), (1, .int p1)]) dX12_laysFerry_19 rfl (by decide) rfl ?_
  refine kr_sub [1, 2, 0] rfl ?_
  exact r_X12_laysFerry_20 E p1 _ (1 : Int32) M4
theorem dX12_everybody_0 : decode cX12_everybody 0 = .ok (.iconst 1, 1) := by decide +kernel
theorem dX12_everybody_1 : decode cX12_everybody 1 = .ok (.aload_n 0, 1) := by decide +kernel
theorem dX12_everybody_2 : decode cX12_everybody 2 = .ok (.getfield 34, 3) := by decide +kernel
theorem dX12_everybody_5 : decode cX12_everybody 5 = .ok (.bipush 6, 2) := by decide +kernel
theorem dX12_everybody_7 : decode cX12_everybody 7 = .ok (.iaload, 1) := by decide +kernel
theorem dX12_everybody_8 : decode cX12_everybody 8 = .ok (.ishl, 1) := by decide +kernel
theorem dX12_everybody_9 : decode cX12_everybody 9 = .ok (.iconst 1, 1) := by decide +kernel
theorem dX12_everybody_10 : decode cX12_everybody 10 = .ok (.isub, 1) := by decide +kernel
theorem dX12_everybody_11 : decode cX12_everybody 11 = .ok (.ireturn, 1) := by decide +kernel
theorem r_X12_everybody (E : kr_E)  (M : kr_M) : kR kr_vi E Y_X12_everybody 1 0 [(0, kr_r E 346)] [] M (f_X12_everybody M) := by
  rw [f_X12_everybody]
  refine kr_iconst (v := 1) dX12_everybody_0 (by decide) ?_
  refine kr_aload_n dX12_everybody_1 rfl 0 rfl ?_
  refine kr_getA (o := 7) (ci := 12) (j := 17) dX12_everybody_2 kr_at_346 fl_RX12_34 rfl ?_
  refine kr_bipush (v := 6) dX12_everybody_5 (by decide) ?_
  refine kr_iald dX12_everybody_7 kr_at_353 (fun v1 => ?_)
  refine kr_ishl dX12_everybody_8 ?_
  refine kr_iconst (v := 1) dX12_everybody_9 (by decide) ?_
  refine kr_isub dX12_everybody_10 ?_
  exact kr_iret dX12_everybody_11 rfl
theorem dX12_ferry_0 : decode cX12_ferry 0 = .ok (.aload_n 0, 1) := by decide +kernel
theorem dX12_ferry_1 : decode cX12_ferry 1 = .ok (.iconst 0, 1) := by decide +kernel
theorem dX12_ferry_2 : decode cX12_ferry 2 = .ok (.putfield 138, 3) := by decide +kernel
theorem dX12_ferry_5 : decode cX12_ferry 5 = .ok (.aload_n 0, 1) := by decide +kernel
theorem dX12_ferry_6 : decode cX12_ferry 6 = .ok (.iload_n 1, 1) := by decide +kernel
theorem dX12_ferry_7 : decode cX12_ferry 7 = .ok (.invokevirtual 319, 3) := by decide +kernel
theorem dX12_ferry_10 : decode cX12_ferry 10 = .ok (.ifCond .ne 6, 3) := by decide +kernel
theorem dX12_ferry_13 : decode cX12_ferry 13 = .ok (.bipush (-2), 2) := by decide +kernel
theorem dX12_ferry_15 : decode cX12_ferry 15 = .ok (.ireturn, 1) := by decide +kernel
theorem dX12_ferry_16 : decode cX12_ferry 16 = .ok (.aload_n 0, 1) := by decide +kernel
theorem dX12_ferry_17 : decode cX12_ferry 17 = .ok (.iload_n 1, 1) := by decide +kernel
theorem dX12_ferry_18 : decode cX12_ferry 18 = .ok (.invokevirtual 496, 3) := by decide +kernel
theorem dX12_ferry_21 : decode cX12_ferry 21 = .ok (.aload_n 0, 1) := by decide +kernel
theorem dX12_ferry_22 : decode cX12_ferry 22 = .ok (.getfield 123, 3) := by decide +kernel
theorem dX12_ferry_25 : decode cX12_ferry 25 = .ok (.aload_n 0, 1) := by decide +kernel
theorem dX12_ferry_26 : decode cX12_ferry 26 = .ok (.invokevirtual 499, 3) := by decide +kernel
theorem dX12_ferry_29 : decode cX12_ferry 29 = .ok (.iaload, 1) := by decide +kernel
theorem dX12_ferry_30 : decode cX12_ferry 30 = .ok (.ldc_w 354, 3) := by decide +kernel
theorem dX12_ferry_33 : decode cX12_ferry 33 = .ok (.if_icmp .lt 7, 3) := by decide +kernel
theorem dX12_ferry_36 : decode cX12_ferry 36 = .ok (.iconst (-1), 1) := by decide +kernel
theorem dX12_ferry_37 : decode cX12_ferry 37 = .ok (.goto 12, 3) := by decide +kernel
theorem dX12_ferry_40 : decode cX12_ferry 40 = .ok (.aload_n 0, 1) := by decide +kernel
theorem dX12_ferry_41 : decode cX12_ferry 41 = .ok (.getfield 123, 3) := by decide +kernel
theorem dX12_ferry_44 : decode cX12_ferry 44 = .ok (.aload_n 0, 1) := by decide +kernel
theorem dX12_ferry_45 : decode cX12_ferry 45 = .ok (.invokevirtual 499, 3) := by decide +kernel
theorem dX12_ferry_48 : decode cX12_ferry 48 = .ok (.iaload, 1) := by decide +kernel
theorem dX12_ferry_49 : decode cX12_ferry 49 = .ok (.ireturn, 1) := by decide +kernel
theorem r_X12_ferry (E : kr_E) (p1 : Int32) (M : kr_M) : kR kr_vi E Y_X12_ferry 5 0 [(0, kr_r E 346), (1, .int p1)] [] M (f_X12_ferry p1 M) := by
  rw [f_X12_ferry]
  refine kr_aload_n dX12_ferry_0 rfl 0 rfl ?_
  refine kr_iconst (v := 0) dX12_ferry_1 (by decide) ?_
  refine kr_putI (ci := 12) (j := 0) dX12_ferry_2 kr_at_346 fl_RX12_138 rfl rfl (fun M1 => ?_)
  refine kr_aload_n dX12_ferry_5 rfl 0 rfl ?_
  refine kr_iload_n dX12_ferry_6 rfl 1 rfl ?_
  refine kr_Vi (As := [.int p1]) (st := []) zv_X12_isRope dX12_ferry_7 ml_RX12_319 kr_at_346 (r_X12_isRope E p1 M1) rfl rfl (Nat.le_of_ble_eq_true rfl) rfl (by decide) (Nat.le_of_ble_eq_true rfl) (fun r3 M2 => ?_)
  refine kr_if_ne (tgt := 16) dX12_ferry_10 (by decide) ?_ ?_
  · refine kr_aload_n dX12_ferry_16 rfl 0 rfl ?_
    refine kr_iload_n dX12_ferry_17 rfl 1 rfl ?_
    refine kr_Vv (As := [.int p1]) (st := []) zv_X12_laysFerry dX12_ferry_18 ml_RX12_496 kr_at_346 (r_X12_laysFerry E p1 M2) rfl rfl (Nat.le_of_ble_eq_true rfl) rfl (by decide) (Nat.le_of_ble_eq_true rfl) (fun M4 => ?_)
    refine kr_aload_n dX12_ferry_21 rfl 0 rfl ?_
    refine kr_getA (o := 36) (ci := 12) (j := 56) dX12_ferry_22 kr_at_346 fl_RX12_123 rfl ?_
    refine kr_aload_n dX12_ferry_25 rfl 0 rfl ?_
    refine kr_Vi (As := []) (st := [kr_r E 382]) zv_X12_everybody dX12_ferry_26 ml_RX12_499 kr_at_346 (r_X12_everybody E  M4) rfl rfl (Nat.le_of_ble_eq_true rfl) rfl (by decide) (Nat.le_of_ble_eq_true rfl) (fun r7 M6 => ?_)
    refine kr_iald dX12_ferry_29 kr_at_382 (fun v8 => ?_)
    refine kr_ldcw dX12_ferry_30 kc_RX12_354 ?_
    refine kr_icmp_lt (tgt := 40) dX12_ferry_33 (by decide) ?_ ?_
    · refine kr_aload_n dX12_ferry_40 rfl 0 rfl ?_
      refine kr_getA (o := 36) (ci := 12) (j := 56) dX12_ferry_41 kr_at_346 fl_RX12_123 rfl ?_
      refine kr_aload_n dX12_ferry_44 rfl 0 rfl ?_
      refine kr_Vi (As := []) (st := [kr_r E 382]) zv_X12_everybody dX12_ferry_45 ml_RX12_499 kr_at_346 (r_X12_everybody E  M6) rfl rfl (Nat.le_of_ble_eq_true rfl) rfl (by decide) (Nat.le_of_ble_eq_true rfl) (fun r10 M9 => ?_)
      refine kr_iald dX12_ferry_48 kr_at_382 (fun v11 => ?_)
      exact kr_iret dX12_ferry_49 rfl
    · refine kr_iconst (v := -1) dX12_ferry_36 (by decide) ?_
      refine kr_goto (tgt := 49) dX12_ferry_37 (by decide) ?_
      exact kr_iret dX12_ferry_49 rfl
  · refine kr_bipush (v := -2) dX12_ferry_13 (by decide) ?_
    exact kr_iret dX12_ferry_15 rfl
theorem dX12_groups_0 : decode cX12_groups 0 = .ok (.aload_n 0, 1) := by decide +kernel
theorem dX12_groups_1 : decode cX12_groups 1 = .ok (.iconst 0, 1) := by decide +kernel
theorem dX12_groups_2 : decode cX12_groups 2 = .ok (.putfield 138, 3) := by decide +kernel
theorem dX12_groups_5 : decode cX12_groups 5 = .ok (.aload_n 0, 1) := by decide +kernel
theorem dX12_groups_6 : decode cX12_groups 6 = .ok (.iload_n 1, 1) := by decide +kernel
theorem dX12_groups_7 : decode cX12_groups 7 = .ok (.invokevirtual 319, 3) := by decide +kernel
theorem dX12_groups_10 : decode cX12_groups 10 = .ok (.ifCond .ne 6, 3) := by decide +kernel
theorem dX12_groups_13 : decode cX12_groups 13 = .ok (.bipush (-2), 2) := by decide +kernel
theorem dX12_groups_15 : decode cX12_groups 15 = .ok (.ireturn, 1) := by decide +kernel
theorem dX12_groups_16 : decode cX12_groups 16 = .ok (.aload_n 0, 1) := by decide +kernel
theorem dX12_groups_17 : decode cX12_groups 17 = .ok (.iload_n 1, 1) := by decide +kernel
theorem dX12_groups_18 : decode cX12_groups 18 = .ok (.invokevirtual 496, 3) := by decide +kernel
theorem dX12_groups_21 : decode cX12_groups 21 = .ok (.aload_n 0, 1) := by decide +kernel
theorem dX12_groups_22 : decode cX12_groups 22 = .ok (.getfield 126, 3) := by decide +kernel
theorem dX12_groups_25 : decode cX12_groups 25 = .ok (.aload_n 0, 1) := by decide +kernel
theorem dX12_groups_26 : decode cX12_groups 26 = .ok (.invokevirtual 499, 3) := by decide +kernel
theorem dX12_groups_29 : decode cX12_groups 29 = .ok (.iaload, 1) := by decide +kernel
theorem dX12_groups_30 : decode cX12_groups 30 = .ok (.ldc_w 354, 3) := by decide +kernel
theorem dX12_groups_33 : decode cX12_groups 33 = .ok (.if_icmp .lt 7, 3) := by decide +kernel
theorem dX12_groups_36 : decode cX12_groups 36 = .ok (.iconst (-1), 1) := by decide +kernel
theorem dX12_groups_37 : decode cX12_groups 37 = .ok (.goto 12, 3) := by decide +kernel
theorem dX12_groups_40 : decode cX12_groups 40 = .ok (.aload_n 0, 1) := by decide +kernel
theorem dX12_groups_41 : decode cX12_groups 41 = .ok (.getfield 126, 3) := by decide +kernel
theorem dX12_groups_44 : decode cX12_groups 44 = .ok (.aload_n 0, 1) := by decide +kernel
theorem dX12_groups_45 : decode cX12_groups 45 = .ok (.invokevirtual 499, 3) := by decide +kernel
theorem dX12_groups_48 : decode cX12_groups 48 = .ok (.iaload, 1) := by decide +kernel
theorem dX12_groups_49 : decode cX12_groups 49 = .ok (.ireturn, 1) := by decide +kernel
theorem r_X12_groups (E : kr_E) (p1 : Int32) (M : kr_M) : kR kr_vi E Y_X12_groups 5 0 [(0, kr_r E 346), (1, .int p1)] [] M (f_X12_groups p1 M) := by
  rw [f_X12_groups]
  refine kr_aload_n dX12_groups_0 rfl 0 rfl ?_
  refine kr_iconst (v := 0) dX12_groups_1 (by decide) ?_
  refine kr_putI (ci := 12) (j := 0) dX12_groups_2 kr_at_346 fl_RX12_138 rfl rfl (fun M1 => ?_)
  refine kr_aload_n dX12_groups_5 rfl 0 rfl ?_
  refine kr_iload_n dX12_groups_6 rfl 1 rfl ?_
  refine kr_Vi (As := [.int p1]) (st := []) zv_X12_isRope dX12_groups_7 ml_RX12_319 kr_at_346 (r_X12_isRope E p1 M1) rfl rfl (Nat.le_of_ble_eq_true rfl) rfl (by decide) (Nat.le_of_ble_eq_true rfl) (fun r3 M2 => ?_)
  refine kr_if_ne (tgt := 16) dX12_groups_10 (by decide) ?_ ?_
  · refine kr_aload_n dX12_groups_16 rfl 0 rfl ?_
    refine kr_iload_n dX12_groups_17 rfl 1 rfl ?_
    refine kr_Vv (As := [.int p1]) (st := []) zv_X12_laysFerry dX12_groups_18 ml_RX12_496 kr_at_346 (r_X12_laysFerry E p1 M2) rfl rfl (Nat.le_of_ble_eq_true rfl) rfl (by decide) (Nat.le_of_ble_eq_true rfl) (fun M4 => ?_)
    refine kr_aload_n dX12_groups_21 rfl 0 rfl ?_
    refine kr_getA (o := 37) (ci := 12) (j := 57) dX12_groups_22 kr_at_346 fl_RX12_126 rfl ?_
    refine kr_aload_n dX12_groups_25 rfl 0 rfl ?_
    refine kr_Vi (As := []) (st := [kr_r E 383]) zv_X12_everybody dX12_groups_26 ml_RX12_499 kr_at_346 (r_X12_everybody E  M4) rfl rfl (Nat.le_of_ble_eq_true rfl) rfl (by decide) (Nat.le_of_ble_eq_true rfl) (fun r7 M6 => ?_)
    refine kr_iald dX12_groups_29 kr_at_383 (fun v8 => ?_)
    refine kr_ldcw dX12_groups_30 kc_RX12_354 ?_
    refine kr_icmp_lt (tgt := 40) dX12_groups_33 (by decide) ?_ ?_
    · refine kr_aload_n dX12_groups_40 rfl 0 rfl ?_
      refine kr_getA (o := 37) (ci := 12) (j := 57) dX12_groups_41 kr_at_346 fl_RX12_126 rfl ?_
      refine kr_aload_n dX12_groups_44 rfl 0 rfl ?_
      refine kr_Vi (As := []) (st := [kr_r E 383]) zv_X12_everybody dX12_groups_45 ml_RX12_499 kr_at_346 (r_X12_everybody E  M6) rfl rfl (Nat.le_of_ble_eq_true rfl) rfl (by decide) (Nat.le_of_ble_eq_true rfl) (fun r10 M9 => ?_)
      refine kr_iald dX12_groups_48 kr_at_383 (fun v11 => ?_)
      exact kr_iret dX12_groups_49 rfl
    · refine kr_iconst (v := -1) dX12_groups_36 (by decide) ?_
      refine kr_goto (tgt := 49) dX12_groups_37 (by decide) ?_
      exact kr_iret dX12_groups_49 rfl
  · refine kr_bipush (v := -2) dX12_groups_13 (by decide) ?_
    exact kr_iret dX12_groups_15 rfl
theorem dX12_group_0 : decode cX12_group 0 = .ok (.aload_n 0, 1) := by decide +kernel
theorem dX12_group_1 : decode cX12_group 1 = .ok (.iconst 0, 1) := by decide +kernel
theorem dX12_group_2 : decode cX12_group 2 = .ok (.putfield 138, 3) := by decide +kernel
theorem dX12_group_5 : decode cX12_group 5 = .ok (.aload_n 0, 1) := by decide +kernel
theorem dX12_group_6 : decode cX12_group 6 = .ok (.iload_n 1, 1) := by decide +kernel
theorem dX12_group_7 : decode cX12_group 7 = .ok (.invokevirtual 319, 3) := by decide +kernel
theorem dX12_group_10 : decode cX12_group 10 = .ok (.ifCond .ne 6, 3) := by decide +kernel
theorem dX12_group_13 : decode cX12_group 13 = .ok (.bipush (-2), 2) := by decide +kernel
theorem dX12_group_15 : decode cX12_group 15 = .ok (.ireturn, 1) := by decide +kernel
theorem dX12_group_16 : decode cX12_group 16 = .ok (.aload_n 0, 1) := by decide +kernel
theorem dX12_group_17 : decode cX12_group 17 = .ok (.iload_n 1, 1) := by decide +kernel
theorem dX12_group_18 : decode cX12_group 18 = .ok (.invokevirtual 496, 3) := by decide +kernel
theorem dX12_group_21 : decode cX12_group 21 = .ok (.aload_n 0, 1) := by decide +kernel
theorem dX12_group_22 : decode cX12_group 22 = .ok (.invokevirtual 499, 3) := by decide +kernel
theorem dX12_group_25 : decode cX12_group 25 = .ok (.istore_n 2, 1) := by decide +kernel
theorem dX12_group_26 : decode cX12_group 26 = .ok (.iload_n 2, 1) := by decide +kernel
theorem dX12_group_27 : decode cX12_group 27 = .ok (.ifCond .eq 15, 3) := by decide +kernel
theorem dX12_group_30 : decode cX12_group 30 = .ok (.aload_n 0, 1) := by decide +kernel
theorem dX12_group_31 : decode cX12_group 31 = .ok (.getfield 123, 3) := by decide +kernel
theorem dX12_group_34 : decode cX12_group 34 = .ok (.iload_n 2, 1) := by decide +kernel
theorem dX12_group_35 : decode cX12_group 35 = .ok (.iaload, 1) := by decide +kernel
theorem dX12_group_36 : decode cX12_group 36 = .ok (.ldc_w 354, 3) := by decide +kernel
theorem dX12_group_39 : decode cX12_group 39 = .ok (.if_icmp .lt 5, 3) := by decide +kernel
theorem dX12_group_42 : decode cX12_group 42 = .ok (.iconst (-1), 1) := by decide +kernel
theorem dX12_group_43 : decode cX12_group 43 = .ok (.ireturn, 1) := by decide +kernel
theorem dX12_group_44 : decode cX12_group 44 = .ok (.iconst 1, 1) := by decide +kernel
theorem dX12_group_45 : decode cX12_group 45 = .ok (.istore_n 3, 1) := by decide +kernel
theorem dX12_group_46 : decode cX12_group 46 = .ok (.iload_n 3, 1) := by decide +kernel
theorem dX12_group_47 : decode cX12_group 47 = .ok (.iload_n 2, 1) := by decide +kernel
theorem dX12_group_48 : decode cX12_group 48 = .ok (.if_icmp .gt 82, 3) := by decide +kernel
theorem dX12_group_51 : decode cX12_group 51 = .ok (.iload_n 3, 1) := by decide +kernel
theorem dX12_group_52 : decode cX12_group 52 = .ok (.iconst 0, 1) := by decide +kernel
theorem dX12_group_53 : decode cX12_group 53 = .ok (.invokestatic 446, 3) := by decide +kernel
theorem dX12_group_56 : decode cX12_group 56 = .ok (.ifCond .eq 68, 3) := by decide +kernel
theorem dX12_group_59 : decode cX12_group 59 = .ok (.aload_n 0, 1) := by decide +kernel
theorem dX12_group_60 : decode cX12_group 60 = .ok (.iload_n 3, 1) := by decide +kernel
theorem dX12_group_61 : decode cX12_group 61 = .ok (.invokevirtual 490, 3) := by decide +kernel
theorem dX12_group_64 : decode cX12_group 64 = .ok (.aload_n 0, 1) := by decide +kernel
theorem dX12_group_65 : decode cX12_group 65 = .ok (.iload_n 1, 1) := by decide +kernel
theorem dX12_group_66 : decode cX12_group 66 = .ok (.invokevirtual 343, 3) := by decide +kernel
theorem dX12_group_69 : decode cX12_group 69 = .ok (.if_icmp .gt 55, 3) := by decide +kernel
theorem dX12_group_72 : decode cX12_group 72 = .ok (.aload_n 0, 1) := by decide +kernel
theorem dX12_group_73 : decode cX12_group 73 = .ok (.getfield 123, 3) := by decide +kernel
theorem dX12_group_76 : decode cX12_group 76 = .ok (.iload_n 2, 1) := by decide +kernel
theorem dX12_group_77 : decode cX12_group 77 = .ok (.iload_n 3, 1) := by decide +kernel
theorem dX12_group_78 : decode cX12_group 78 = .ok (.iconst (-1), 1) := by decide +kernel
theorem dX12_group_79 : decode cX12_group 79 = .ok (.ixor, 1) := by decide +kernel
theorem dX12_group_80 : decode cX12_group 80 = .ok (.iand, 1) := by decide +kernel
theorem dX12_group_81 : decode cX12_group 81 = .ok (.iaload, 1) := by decide +kernel
theorem dX12_group_82 : decode cX12_group 82 = .ok (.ldc_w 354, 3) := by decide +kernel
theorem dX12_group_85 : decode cX12_group 85 = .ok (.if_icmp .lt 6, 3) := by decide +kernel
theorem dX12_group_88 : decode cX12_group 88 = .ok (.goto 36, 3) := by decide +kernel
theorem dX12_group_91 : decode cX12_group 91 = .ok (.aload_n 0, 1) := by decide +kernel
theorem dX12_group_92 : decode cX12_group 92 = .ok (.getfield 123, 3) := by decide +kernel
theorem dX12_group_95 : decode cX12_group 95 = .ok (.iload_n 2, 1) := by decide +kernel
theorem dX12_group_96 : decode cX12_group 96 = .ok (.iload_n 3, 1) := by decide +kernel
theorem dX12_group_97 : decode cX12_group 97 = .ok (.iconst (-1), 1) := by decide +kernel
theorem dX12_group_98 : decode cX12_group 98 = .ok (.ixor, 1) := by decide +kernel
theorem dX12_group_99 : decode cX12_group 99 = .ok (.iand, 1) := by decide +kernel
theorem dX12_group_100 : decode cX12_group 100 = .ok (.iaload, 1) := by decide +kernel
theorem dX12_group_101 : decode cX12_group 101 = .ok (.aload_n 0, 1) := by decide +kernel
theorem dX12_group_102 : decode cX12_group 102 = .ok (.iload_n 1, 1) := by decide +kernel
theorem dX12_group_103 : decode cX12_group 103 = .ok (.invokevirtual 340, 3) := by decide +kernel
theorem dX12_group_106 : decode cX12_group 106 = .ok (.aload_n 0, 1) := by decide +kernel
theorem dX12_group_107 : decode cX12_group 107 = .ok (.iload_n 3, 1) := by decide +kernel
theorem dX12_group_108 : decode cX12_group 108 = .ok (.invokevirtual 493, 3) := by decide +kernel
theorem dX12_group_111 : decode cX12_group 111 = .ok (.imul, 1) := by decide +kernel
theorem dX12_group_112 : decode cX12_group 112 = .ok (.iadd, 1) := by decide +kernel
theorem dX12_group_113 : decode cX12_group 113 = .ok (.aload_n 0, 1) := by decide +kernel
theorem dX12_group_114 : decode cX12_group 114 = .ok (.getfield 123, 3) := by decide +kernel
theorem dX12_group_117 : decode cX12_group 117 = .ok (.iload_n 2, 1) := by decide +kernel
theorem dX12_group_118 : decode cX12_group 118 = .ok (.iaload, 1) := by decide +kernel
theorem dX12_group_119 : decode cX12_group 119 = .ok (.if_icmp .ne 5, 3) := by decide +kernel
theorem dX12_group_122 : decode cX12_group 122 = .ok (.iload_n 3, 1) := by decide +kernel
theorem dX12_group_123 : decode cX12_group 123 = .ok (.ireturn, 1) := by decide +kernel
theorem dX12_group_124 : decode cX12_group 124 = .ok (.iinc 3 1, 3) := by decide +kernel
theorem dX12_group_127 : decode cX12_group 127 = .ok (.goto (-81), 3) := by decide +kernel
theorem dX12_group_130 : decode cX12_group 130 = .ok (.iconst (-1), 1) := by decide +kernel
theorem dX12_group_131 : decode cX12_group 131 = .ok (.ireturn, 1) := by decide +kernel
theorem r_X12_group_124 (E : kr_E) (k_46 : Int32 → kr_M → Option (Int32 × kr_M)) (l1 : Int32) (l2 : Int32) (l3 : Int32) (hk_46 : ∀ (x3 : Int32) (M : kr_M), kR kr_vi E Y_X12_group 5 46 [(0, kr_r E 346), (1, .int l1), (2, .int l2), (3, .int x3)] [] M (k_46 x3 M)) (M : kr_M) : kR kr_vi E Y_X12_group 5 124 [(0, kr_r E 346), (1, .int l1), (2, .int l2), (3, .int l3)] [] M (f_X12_group_124 k_46 l3 M) := by
  rw [f_X12_group_124]
  refine kr_iinc (j := 3) (v := (l3 + (1 : Int32))) (lv' := [(3, .int (l3 + (1 : Int32))), (0, kr_r E 346), (1, .int l1), (2, .int l2)]) dX12_group_124 rfl rfl (by decide) rfl ?_
  refine kr_goto (tgt := 46) dX12_group_127 (by decide) ?_
  refine kr_sub [1, 2, 3, 0] rfl ?_
  exact hk_46 (l3 + (1 : Int32)) M
theorem r_X12_group_46 (E : kr_E)  (l1 : Int32) (l2 : Int32)  : ∀ (n : Nat) (l3 : Int32) (M : kr_M), kR kr_vi E Y_X12_group 5 46 [(0, kr_r E 346), (1, .int l1), (2, .int l2), (3, .int l3)] [] M (f_X12_group_46 l1 l2 n l3 M) := by
  intro n
  induction n with
  | zero => intro l3 M; exact kr_none
  | succ n ih =>
    intro l3 M
    rw [f_X12_group_46]
    refine kr_iload_n dX12_group_46 rfl 3 rfl ?_
    refine kr_iload_n dX12_group_47 rfl 2 rfl ?_
    refine kr_icmp_gt (tgt := 130) dX12_group_48 (by decide) ?_ ?_
    · refine kr_iconst (v := -1) dX12_group_130 (by decide) ?_
      exact kr_iret dX12_group_131 rfl
    · refine kr_iload_n dX12_group_51 rfl 3 rfl ?_
      refine kr_iconst (v := 0) dX12_group_52 (by decide) ?_
      refine kr_Si (As := [.int l3, .int (0 : Int32)]) (st := []) zs_X12_isBit dX12_group_53 ml_RX12_446 (r_X12_isBit E l3 (0 : Int32) M) rfl rfl (Nat.le_of_ble_eq_true rfl) rfl (by decide) (Nat.le_of_ble_eq_true rfl) (fun r2 M1 => ?_)
      refine kr_if_eq (tgt := 124) dX12_group_56 (by decide) ?_ ?_
      · refine kr_sub [0, 1, 2, 3] rfl ?_
        exact r_X12_group_124 E _ l1 l2 l3 ih M1
      · refine kr_aload_n dX12_group_59 rfl 0 rfl ?_
        refine kr_iload_n dX12_group_60 rfl 3 rfl ?_
        refine kr_Vi (As := [.int l3]) (st := []) zv_X12_weightOf dX12_group_61 ml_RX12_490 kr_at_346 (r_X12_weightOf E l3 M1) rfl rfl (Nat.le_of_ble_eq_true rfl) rfl (by decide) (Nat.le_of_ble_eq_true rfl) (fun r4 M3 => ?_)
        refine kr_aload_n dX12_group_64 rfl 0 rfl ?_
        refine kr_iload_n dX12_group_65 rfl 1 rfl ?_
        refine kr_Vi (As := [.int l1]) (st := [.int r4]) zv_X12_strengthOf dX12_group_66 ml_RX12_343 kr_at_346 (r_X12_strengthOf E l1 M3) rfl rfl (Nat.le_of_ble_eq_true rfl) rfl (by decide) (Nat.le_of_ble_eq_true rfl) (fun r6 M5 => ?_)
        refine kr_icmp_gt (tgt := 124) dX12_group_69 (by decide) ?_ ?_
        · refine kr_sub [0, 1, 2, 3] rfl ?_
          exact r_X12_group_124 E _ l1 l2 l3 ih M5
        · refine kr_aload_n dX12_group_72 rfl 0 rfl ?_
          refine kr_getA (o := 36) (ci := 12) (j := 56) dX12_group_73 kr_at_346 fl_RX12_123 rfl ?_
          refine kr_iload_n dX12_group_76 rfl 2 rfl ?_
          refine kr_iload_n dX12_group_77 rfl 3 rfl ?_
          refine kr_iconst (v := -1) dX12_group_78 (by decide) ?_
          refine kr_ixor dX12_group_79 ?_
          refine kr_iand dX12_group_80 ?_
          refine kr_iald dX12_group_81 kr_at_382 (fun v7 => ?_)
          refine kr_ldcw dX12_group_82 kc_RX12_354 ?_
          refine kr_icmp_lt (tgt := 91) dX12_group_85 (by decide) ?_ ?_
          · refine kr_aload_n dX12_group_91 rfl 0 rfl ?_
            refine kr_getA (o := 36) (ci := 12) (j := 56) dX12_group_92 kr_at_346 fl_RX12_123 rfl ?_
            refine kr_iload_n dX12_group_95 rfl 2 rfl ?_
            refine kr_iload_n dX12_group_96 rfl 3 rfl ?_
            refine kr_iconst (v := -1) dX12_group_97 (by decide) ?_
            refine kr_ixor dX12_group_98 ?_
            refine kr_iand dX12_group_99 ?_
            refine kr_iald dX12_group_100 kr_at_382 (fun v8 => ?_)
            refine kr_aload_n dX12_group_101 rfl 0 rfl ?_
            refine kr_iload_n dX12_group_102 rfl 1 rfl ?_
            refine kr_Vi (As := [.int l1]) (st := [.int v8]) zv_X12_inchesOf dX12_group_103 ml_RX12_340 kr_at_346 (r_X12_inchesOf E l1 M5) rfl rfl (Nat.le_of_ble_eq_true rfl) rfl (by decide) (Nat.le_of_ble_eq_true rfl) (fun r10 M9 => ?_)
            refine kr_aload_n dX12_group_106 rfl 0 rfl ?_
            refine kr_iload_n dX12_group_107 rfl 3 rfl ?_
            refine kr_Vi (As := [.int l3]) (st := [.int r10, .int v8]) zv_X12_slowestOf dX12_group_108 ml_RX12_493 kr_at_346 (r_X12_slowestOf E l3 M9) rfl rfl (Nat.le_of_ble_eq_true rfl) rfl (by decide) (Nat.le_of_ble_eq_true rfl) (fun r12 M11 => ?_)
            refine kr_imul dX12_group_111 ?_
            refine kr_iadd dX12_group_112 ?_
            refine kr_aload_n dX12_group_113 rfl 0 rfl ?_
            refine kr_getA (o := 36) (ci := 12) (j := 56) dX12_group_114 kr_at_346 fl_RX12_123 rfl ?_
            refine kr_iload_n dX12_group_117 rfl 2 rfl ?_
            refine kr_iald dX12_group_118 kr_at_382 (fun v13 => ?_)
            refine kr_icmp_ne (tgt := 124) dX12_group_119 (by decide) ?_ ?_
            · refine kr_sub [0, 1, 2, 3] rfl ?_
              exact r_X12_group_124 E _ l1 l2 l3 ih M11
            · refine kr_iload_n dX12_group_122 rfl 3 rfl ?_
              exact kr_iret dX12_group_123 rfl
          · refine kr_goto (tgt := 124) dX12_group_88 (by decide) ?_
            refine kr_sub [0, 1, 2, 3] rfl ?_
            exact r_X12_group_124 E _ l1 l2 l3 ih M5
theorem r_X12_group (E : kr_E) (p1 : Int32) (M : kr_M) : kR kr_vi E Y_X12_group 5 0 [(0, kr_r E 346), (1, .int p1)] [] M (f_X12_group p1 M) := by
  rw [f_X12_group]
  refine kr_aload_n dX12_group_0 rfl 0 rfl ?_
  refine kr_iconst (v := 0) dX12_group_1 (by decide) ?_
  refine kr_putI (ci := 12) (j := 0) dX12_group_2 kr_at_346 fl_RX12_138 rfl rfl (fun M1 => ?_)
  refine kr_aload_n dX12_group_5 rfl 0 rfl ?_
  refine kr_iload_n dX12_group_6 rfl 1 rfl ?_
  refine kr_Vi (As := [.int p1]) (st := []) zv_X12_isRope dX12_group_7 ml_RX12_319 kr_at_346 (r_X12_isRope E p1 M1) rfl rfl (Nat.le_of_ble_eq_true rfl) rfl (by decide) (Nat.le_of_ble_eq_true rfl) (fun r3 M2 => ?_)
  refine kr_if_ne (tgt := 16) dX12_group_10 (by decide) ?_ ?_
  · refine kr_aload_n dX12_group_16 rfl 0 rfl ?_
    refine kr_iload_n dX12_group_17 rfl 1 rfl ?_
    refine kr_Vv (As := [.int p1]) (st := []) zv_X12_laysFerry dX12_group_18 ml_RX12_496 kr_at_346 (r_X12_laysFerry E p1 M2) rfl rfl (Nat.le_of_ble_eq_true rfl) rfl (by decide) (Nat.le_of_ble_eq_true rfl) (fun M4 => ?_)
    refine kr_aload_n dX12_group_21 rfl 0 rfl ?_
    refine kr_Vi (As := []) (st := []) zv_X12_everybody dX12_group_22 ml_RX12_499 kr_at_346 (r_X12_everybody E  M4) rfl rfl (Nat.le_of_ble_eq_true rfl) rfl (by decide) (Nat.le_of_ble_eq_true rfl) (fun r7 M6 => ?_)
    refine kr_istore_n (lv' := [(2, .int r7), (0, kr_r E 346), (1, .int p1)]) dX12_group_25 rfl (by decide) rfl ?_
    refine kr_iload_n dX12_group_26 rfl 0 rfl ?_
    refine kr_if_eq (tgt := 42) dX12_group_27 (by decide) ?_ ?_
    · refine kr_iconst (v := -1) dX12_group_42 (by decide) ?_
      exact kr_iret dX12_group_43 rfl
    · refine kr_aload_n dX12_group_30 rfl 1 rfl ?_
      refine kr_getA (o := 36) (ci := 12) (j := 56) dX12_group_31 kr_at_346 fl_RX12_123 rfl ?_
      refine kr_iload_n dX12_group_34 rfl 0 rfl ?_
      refine kr_iald dX12_group_35 kr_at_382 (fun v8 => ?_)
      refine kr_ldcw dX12_group_36 kc_RX12_354 ?_
      refine kr_icmp_lt (tgt := 44) dX12_group_39 (by decide) ?_ ?_
      · refine kr_iconst (v := 1) dX12_group_44 (by decide) ?_
        refine kr_istore_n (lv' := [(3, .int (1 : Int32)), (2, .int r7), (0, kr_r E 346), (1, .int p1)]) dX12_group_45 rfl (by decide) rfl ?_
        refine kr_sub [2, 3, 1, 0] rfl ?_
        exact r_X12_group_46 E p1 r7 _ (1 : Int32) M6
      · refine kr_iconst (v := -1) dX12_group_42 (by decide) ?_
        exact kr_iret dX12_group_43 rfl
  · refine kr_bipush (v := -2) dX12_group_13 (by decide) ?_
    exact kr_iret dX12_group_15 rfl
theorem dX12_lasts_0 : decode cX12_lasts 0 = .ok (.aload_n 0, 1) := by decide +kernel
theorem dX12_lasts_1 : decode cX12_lasts 1 = .ok (.iconst 0, 1) := by decide +kernel
theorem dX12_lasts_2 : decode cX12_lasts 2 = .ok (.putfield 138, 3) := by decide +kernel
theorem dX12_lasts_5 : decode cX12_lasts 5 = .ok (.aload_n 0, 1) := by decide +kernel
theorem dX12_lasts_6 : decode cX12_lasts 6 = .ok (.iload_n 1, 1) := by decide +kernel
theorem dX12_lasts_7 : decode cX12_lasts 7 = .ok (.invokevirtual 319, 3) := by decide +kernel
theorem dX12_lasts_10 : decode cX12_lasts 10 = .ok (.ifCond .eq 15, 3) := by decide +kernel
theorem dX12_lasts_13 : decode cX12_lasts 13 = .ok (.iload_n 2, 1) := by decide +kernel
theorem dX12_lasts_14 : decode cX12_lasts 14 = .ok (.i2l, 1) := by decide +kernel
theorem dX12_lasts_15 : decode cX12_lasts 15 = .ok (.lconst 1, 1) := by decide +kernel
theorem dX12_lasts_16 : decode cX12_lasts 16 = .ok (.ldc2_w 502, 3) := by decide +kernel
theorem dX12_lasts_19 : decode cX12_lasts 19 = .ok (.invokestatic 143, 3) := by decide +kernel
theorem dX12_lasts_22 : decode cX12_lasts 22 = .ok (.ifCond .ne 6, 3) := by decide +kernel
theorem dX12_lasts_25 : decode cX12_lasts 25 = .ok (.bipush (-2), 2) := by decide +kernel
theorem dX12_lasts_27 : decode cX12_lasts 27 = .ok (.ireturn, 1) := by decide +kernel
theorem dX12_lasts_28 : decode cX12_lasts 28 = .ok (.aload_n 0, 1) := by decide +kernel
theorem dX12_lasts_29 : decode cX12_lasts 29 = .ok (.invokevirtual 337, 3) := by decide +kernel
theorem dX12_lasts_32 : decode cX12_lasts 32 = .ok (.aload_n 0, 1) := by decide +kernel
theorem dX12_lasts_33 : decode cX12_lasts 33 = .ok (.iload_n 1, 1) := by decide +kernel
theorem dX12_lasts_34 : decode cX12_lasts 34 = .ok (.invokevirtual 343, 3) := by decide +kernel
theorem dX12_lasts_37 : decode cX12_lasts 37 = .ok (.iload_n 2, 1) := by decide +kernel
theorem dX12_lasts_38 : decode cX12_lasts 38 = .ok (.isub, 1) := by decide +kernel
theorem dX12_lasts_39 : decode cX12_lasts 39 = .ok (.istore_n 3, 1) := by decide +kernel
theorem dX12_lasts_40 : decode cX12_lasts 40 = .ok (.iload_n 3, 1) := by decide +kernel
theorem dX12_lasts_41 : decode cX12_lasts 41 = .ok (.ifCond .ge 7, 3) := by decide +kernel
theorem dX12_lasts_44 : decode cX12_lasts 44 = .ok (.iconst 0, 1) := by decide +kernel
theorem dX12_lasts_45 : decode cX12_lasts 45 = .ok (.goto 26, 3) := by decide +kernel
theorem dX12_lasts_48 : decode cX12_lasts 48 = .ok (.aload_n 0, 1) := by decide +kernel
theorem dX12_lasts_49 : decode cX12_lasts 49 = .ok (.getfield 34, 3) := by decide +kernel
theorem dX12_lasts_52 : decode cX12_lasts 52 = .ok (.iconst 1, 1) := by decide +kernel
theorem dX12_lasts_53 : decode cX12_lasts 53 = .ok (.iaload, 1) := by decide +kernel
theorem dX12_lasts_54 : decode cX12_lasts 54 = .ok (.ifCond .ne 7, 3) := by decide +kernel
theorem dX12_lasts_57 : decode cX12_lasts 57 = .ok (.iconst (-1), 1) := by decide +kernel
theorem dX12_lasts_58 : decode cX12_lasts 58 = .ok (.goto 13, 3) := by decide +kernel
theorem dX12_lasts_61 : decode cX12_lasts 61 = .ok (.iload_n 3, 1) := by decide +kernel
theorem dX12_lasts_62 : decode cX12_lasts 62 = .ok (.aload_n 0, 1) := by decide +kernel
theorem dX12_lasts_63 : decode cX12_lasts 63 = .ok (.getfield 34, 3) := by decide +kernel
theorem dX12_lasts_66 : decode cX12_lasts 66 = .ok (.iconst 1, 1) := by decide +kernel
theorem dX12_lasts_67 : decode cX12_lasts 67 = .ok (.iaload, 1) := by decide +kernel
theorem dX12_lasts_68 : decode cX12_lasts 68 = .ok (.idiv, 1) := by decide +kernel
theorem dX12_lasts_69 : decode cX12_lasts 69 = .ok (.iconst 1, 1) := by decide +kernel
theorem dX12_lasts_70 : decode cX12_lasts 70 = .ok (.iadd, 1) := by decide +kernel
theorem dX12_lasts_71 : decode cX12_lasts 71 = .ok (.ireturn, 1) := by decide +kernel
theorem r_X12_lasts (E : kr_E) (p1 : Int32) (p2 : Int32) (M : kr_M) : kR kr_vi E Y_X12_lasts 4 0 [(0, kr_r E 346), (1, .int p1), (2, .int p2)] [] M (f_X12_lasts p1 p2 M) := by
  rw [f_X12_lasts]
  refine kr_aload_n dX12_lasts_0 rfl 0 rfl ?_
  refine kr_iconst (v := 0) dX12_lasts_1 (by decide) ?_
  refine kr_putI (ci := 12) (j := 0) dX12_lasts_2 kr_at_346 fl_RX12_138 rfl rfl (fun M1 => ?_)
  refine kr_aload_n dX12_lasts_5 rfl 0 rfl ?_
  refine kr_iload_n dX12_lasts_6 rfl 1 rfl ?_
  refine kr_Vi (As := [.int p1]) (st := []) zv_X12_isRope dX12_lasts_7 ml_RX12_319 kr_at_346 (r_X12_isRope E p1 M1) rfl rfl (Nat.le_of_ble_eq_true rfl) rfl (by decide) (Nat.le_of_ble_eq_true rfl) (fun r3 M2 => ?_)
  refine kr_if_eq (tgt := 25) dX12_lasts_10 (by decide) ?_ ?_
  · refine kr_bipush (v := -2) dX12_lasts_25 (by decide) ?_
    exact kr_iret dX12_lasts_27 rfl
  · refine kr_iload_n dX12_lasts_13 rfl 2 rfl ?_
    refine kr_i2l dX12_lasts_14 ?_
    refine kr_lconst (v := 1) dX12_lasts_15 (by decide) ?_
    refine kr_ldc2 dX12_lasts_16 kl_RX12_502 ?_
    refine kr_Si (As := [.long (p2.toInt64), .long (1 : Int64), .long (999 : Int64)]) (st := []) zs_X12_in dX12_lasts_19 ml_RX12_143 (r_X12_in E (p2.toInt64) (1 : Int64) (999 : Int64) M2) rfl rfl (Nat.le_of_ble_eq_true rfl) rfl (by decide) (Nat.le_of_ble_eq_true rfl) (fun r5 M4 => ?_)
    refine kr_if_ne (tgt := 28) dX12_lasts_22 (by decide) ?_ ?_
    · refine kr_aload_n dX12_lasts_28 rfl 0 rfl ?_
      refine kr_Vv (As := []) (st := []) zv_X12_lays dX12_lasts_29 ml_RX12_337 kr_at_346 (r_X12_lays E  M4) rfl rfl (Nat.le_of_ble_eq_true rfl) rfl (by decide) (Nat.le_of_ble_eq_true rfl) (fun M6 => ?_)
      refine kr_aload_n dX12_lasts_32 rfl 0 rfl ?_
      refine kr_iload_n dX12_lasts_33 rfl 1 rfl ?_
      refine kr_Vi (As := [.int p1]) (st := []) zv_X12_strengthOf dX12_lasts_34 ml_RX12_343 kr_at_346 (r_X12_strengthOf E p1 M6) rfl rfl (Nat.le_of_ble_eq_true rfl) rfl (by decide) (Nat.le_of_ble_eq_true rfl) (fun r9 M8 => ?_)
      refine kr_iload_n dX12_lasts_37 rfl 2 rfl ?_
      refine kr_isub dX12_lasts_38 ?_
      refine kr_nmi (fun v10 => ?_)
      refine kr_istore_n (lv' := [(3, .int v10), (0, kr_r E 346), (1, .int p1), (2, .int p2)]) dX12_lasts_39 rfl (by decide) rfl ?_
      refine kr_iload_n dX12_lasts_40 rfl 0 rfl ?_
      refine kr_if_ge (tgt := 48) dX12_lasts_41 (by decide) ?_ ?_
      · refine kr_aload_n dX12_lasts_48 rfl 1 rfl ?_
        refine kr_getA (o := 7) (ci := 12) (j := 17) dX12_lasts_49 kr_at_346 fl_RX12_34 rfl ?_
        refine kr_iconst (v := 1) dX12_lasts_52 (by decide) ?_
        refine kr_iald dX12_lasts_53 kr_at_353 (fun v11 => ?_)
        refine kr_if_ne (tgt := 61) dX12_lasts_54 (by decide) ?_ ?_
        · refine kr_iload_n dX12_lasts_61 rfl 0 rfl ?_
          refine kr_aload_n dX12_lasts_62 rfl 1 rfl ?_
          refine kr_getA (o := 7) (ci := 12) (j := 17) dX12_lasts_63 kr_at_346 fl_RX12_34 rfl ?_
          refine kr_iconst (v := 1) dX12_lasts_66 (by decide) ?_
          refine kr_iald dX12_lasts_67 kr_at_353 (fun v12 => ?_)
          refine kr_idiv dX12_lasts_68 (fun n13 => ?_)
          refine kr_iconst (v := 1) dX12_lasts_69 (by decide) ?_
          refine kr_iadd dX12_lasts_70 ?_
          exact kr_iret dX12_lasts_71 rfl
        · refine kr_iconst (v := -1) dX12_lasts_57 (by decide) ?_
          refine kr_goto (tgt := 71) dX12_lasts_58 (by decide) ?_
          exact kr_iret dX12_lasts_71 rfl
      · refine kr_iconst (v := 0) dX12_lasts_44 (by decide) ?_
        refine kr_goto (tgt := 71) dX12_lasts_45 (by decide) ?_
        exact kr_iret dX12_lasts_71 rfl
    · refine kr_bipush (v := -2) dX12_lasts_25 (by decide) ?_
      exact kr_iret dX12_lasts_27 rfl
theorem dX12_bears_0 : decode cX12_bears 0 = .ok (.aload_n 0, 1) := by decide +kernel
theorem dX12_bears_1 : decode cX12_bears 1 = .ok (.iconst 0, 1) := by decide +kernel
theorem dX12_bears_2 : decode cX12_bears 2 = .ok (.putfield 138, 3) := by decide +kernel
theorem dX12_bears_5 : decode cX12_bears 5 = .ok (.aload_n 0, 1) := by decide +kernel
theorem dX12_bears_6 : decode cX12_bears 6 = .ok (.iload_n 1, 1) := by decide +kernel
theorem dX12_bears_7 : decode cX12_bears 7 = .ok (.invokevirtual 319, 3) := by decide +kernel
theorem dX12_bears_10 : decode cX12_bears 10 = .ok (.ifCond .ne 6, 3) := by decide +kernel
theorem dX12_bears_13 : decode cX12_bears 13 = .ok (.bipush (-2), 2) := by decide +kernel
theorem dX12_bears_15 : decode cX12_bears 15 = .ok (.ireturn, 1) := by decide +kernel
theorem dX12_bears_16 : decode cX12_bears 16 = .ok (.aload_n 0, 1) := by decide +kernel
theorem dX12_bears_17 : decode cX12_bears 17 = .ok (.invokevirtual 337, 3) := by decide +kernel
theorem dX12_bears_20 : decode cX12_bears 20 = .ok (.iconst 0, 1) := by decide +kernel
theorem dX12_bears_21 : decode cX12_bears 21 = .ok (.istore_n 2, 1) := by decide +kernel
theorem dX12_bears_22 : decode cX12_bears 22 = .ok (.iconst 0, 1) := by decide +kernel
theorem dX12_bears_23 : decode cX12_bears 23 = .ok (.istore_n 3, 1) := by decide +kernel
theorem dX12_bears_24 : decode cX12_bears 24 = .ok (.iload_n 3, 1) := by decide +kernel
theorem dX12_bears_25 : decode cX12_bears 25 = .ok (.aload_n 0, 1) := by decide +kernel
theorem dX12_bears_26 : decode cX12_bears 26 = .ok (.invokevirtual 499, 3) := by decide +kernel
theorem dX12_bears_29 : decode cX12_bears 29 = .ok (.if_icmp .gt 35, 3) := by decide +kernel
theorem dX12_bears_32 : decode cX12_bears 32 = .ok (.aload_n 0, 1) := by decide +kernel
theorem dX12_bears_33 : decode cX12_bears 33 = .ok (.iload_n 3, 1) := by decide +kernel
theorem dX12_bears_34 : decode cX12_bears 34 = .ok (.invokevirtual 490, 3) := by decide +kernel
theorem dX12_bears_37 : decode cX12_bears 37 = .ok (.aload_n 0, 1) := by decide +kernel
theorem dX12_bears_38 : decode cX12_bears 38 = .ok (.iload_n 1, 1) := by decide +kernel
theorem dX12_bears_39 : decode cX12_bears 39 = .ok (.invokevirtual 343, 3) := by decide +kernel
theorem dX12_bears_42 : decode cX12_bears 42 = .ok (.if_icmp .gt 16, 3) := by decide +kernel
theorem dX12_bears_45 : decode cX12_bears 45 = .ok (.iload_n 3, 1) := by decide +kernel
theorem dX12_bears_46 : decode cX12_bears 46 = .ok (.invokestatic 462, 3) := by decide +kernel
theorem dX12_bears_49 : decode cX12_bears 49 = .ok (.iload_n 2, 1) := by decide +kernel
theorem dX12_bears_50 : decode cX12_bears 50 = .ok (.if_icmp .le 8, 3) := by decide +kernel
theorem dX12_bears_53 : decode cX12_bears 53 = .ok (.iload_n 3, 1) := by decide +kernel
theorem dX12_bears_54 : decode cX12_bears 54 = .ok (.invokestatic 462, 3) := by decide +kernel
theorem dX12_bears_57 : decode cX12_bears 57 = .ok (.istore_n 2, 1) := by decide +kernel
theorem dX12_bears_58 : decode cX12_bears 58 = .ok (.iinc 3 1, 3) := by decide +kernel
theorem dX12_bears_61 : decode cX12_bears 61 = .ok (.goto (-37), 3) := by decide +kernel
theorem dX12_bears_64 : decode cX12_bears 64 = .ok (.iload_n 2, 1) := by decide +kernel
theorem dX12_bears_65 : decode cX12_bears 65 = .ok (.ireturn, 1) := by decide +kernel
theorem r_X12_bears_58 (E : kr_E) (k_24 : Int32 → Int32 → kr_M → Option (Int32 × kr_M)) (l1 : Int32) (l2 : Int32) (l3 : Int32) (hk_24 : ∀ (x2 : Int32) (x3 : Int32) (M : kr_M), kR kr_vi E Y_X12_bears 4 24 [(0, kr_r E 346), (1, .int l1), (2, .int x2), (3, .int x3)] [] M (k_24 x2 x3 M)) (M : kr_M) : kR kr_vi E Y_X12_bears 4 58 [(0, kr_r E 346), (1, .int l1), (2, .int l2), (3, .int l3)] [] M (f_X12_bears_58 k_24 l2 l3 M) := by
  rw [f_X12_bears_58]
  refine kr_iinc (j := 3) (v := (l3 + (1 : Int32))) (lv' := [(3, .int (l3 + (1 : Int32))), (0, kr_r E 346), (1, .int l1), (2, .int l2)]) dX12_bears_58 rfl rfl (by decide) rfl ?_
  refine kr_goto (tgt := 24) dX12_bears_61 (by decide) ?_
  refine kr_sub [1, 2, 3, 0] rfl ?_
  exact hk_24 l2 (l3 + (1 : Int32)) M
theorem r_X12_bears_24 (E : kr_E)  (l1 : Int32)  : ∀ (n : Nat) (l2 : Int32) (l3 : Int32) (M : kr_M), kR kr_vi E Y_X12_bears 4 24 [(0, kr_r E 346), (1, .int l1), (2, .int l2), (3, .int l3)] [] M (f_X12_bears_24 l1 n l2 l3 M) := by
  intro n
  induction n with
  | zero => intro l2 l3 M; exact kr_none
  | succ n ih =>
    intro l2 l3 M
    rw [f_X12_bears_24]
    refine kr_iload_n dX12_bears_24 rfl 3 rfl ?_
    refine kr_aload_n dX12_bears_25 rfl 0 rfl ?_
    refine kr_Vi (As := []) (st := [.int l3]) zv_X12_everybody dX12_bears_26 ml_RX12_499 kr_at_346 (r_X12_everybody E  M) rfl rfl (Nat.le_of_ble_eq_true rfl) rfl (by decide) (Nat.le_of_ble_eq_true rfl) (fun r2 M1 => ?_)
    refine kr_icmp_gt (tgt := 64) dX12_bears_29 (by decide) ?_ ?_
    · refine kr_iload_n dX12_bears_64 rfl 2 rfl ?_
      exact kr_iret dX12_bears_65 rfl
    · refine kr_aload_n dX12_bears_32 rfl 0 rfl ?_
      refine kr_iload_n dX12_bears_33 rfl 3 rfl ?_
      refine kr_Vi (As := [.int l3]) (st := []) zv_X12_weightOf dX12_bears_34 ml_RX12_490 kr_at_346 (r_X12_weightOf E l3 M1) rfl rfl (Nat.le_of_ble_eq_true rfl) rfl (by decide) (Nat.le_of_ble_eq_true rfl) (fun r4 M3 => ?_)
      refine kr_aload_n dX12_bears_37 rfl 0 rfl ?_
      refine kr_iload_n dX12_bears_38 rfl 1 rfl ?_
      refine kr_Vi (As := [.int l1]) (st := [.int r4]) zv_X12_strengthOf dX12_bears_39 ml_RX12_343 kr_at_346 (r_X12_strengthOf E l1 M3) rfl rfl (Nat.le_of_ble_eq_true rfl) rfl (by decide) (Nat.le_of_ble_eq_true rfl) (fun r6 M5 => ?_)
      refine kr_icmp_gt (tgt := 58) dX12_bears_42 (by decide) ?_ ?_
      · refine kr_sub [0, 1, 2, 3] rfl ?_
        exact r_X12_bears_58 E _ l1 l2 l3 ih M5
      · refine kr_iload_n dX12_bears_45 rfl 3 rfl ?_
        refine kr_Si (As := [.int l3]) (st := []) zs_X12_sizeOf dX12_bears_46 ml_RX12_462 (r_X12_sizeOf E l3 M5) rfl rfl (Nat.le_of_ble_eq_true rfl) rfl (by decide) (Nat.le_of_ble_eq_true rfl) (fun r8 M7 => ?_)
        refine kr_iload_n dX12_bears_49 rfl 2 rfl ?_
        refine kr_icmp_le (tgt := 58) dX12_bears_50 (by decide) ?_ ?_
        · refine kr_sub [0, 1, 2, 3] rfl ?_
          exact r_X12_bears_58 E _ l1 l2 l3 ih M7
        · refine kr_iload_n dX12_bears_53 rfl 3 rfl ?_
          refine kr_Si (As := [.int l3]) (st := []) zs_X12_sizeOf dX12_bears_54 ml_RX12_462 (r_X12_sizeOf E l3 M7) rfl rfl (Nat.le_of_ble_eq_true rfl) rfl (by decide) (Nat.le_of_ble_eq_true rfl) (fun r10 M9 => ?_)
          refine kr_istore_n (lv' := [(2, .int r10), (0, kr_r E 346), (1, .int l1), (3, .int l3)]) dX12_bears_57 rfl (by decide) rfl ?_
          refine kr_sub [1, 2, 0, 3] rfl ?_
          exact r_X12_bears_58 E _ l1 r10 l3 ih M9
theorem r_X12_bears (E : kr_E) (p1 : Int32) (M : kr_M) : kR kr_vi E Y_X12_bears 4 0 [(0, kr_r E 346), (1, .int p1)] [] M (f_X12_bears p1 M) := by
  rw [f_X12_bears]
  refine kr_aload_n dX12_bears_0 rfl 0 rfl ?_
  refine kr_iconst (v := 0) dX12_bears_1 (by decide) ?_
  refine kr_putI (ci := 12) (j := 0) dX12_bears_2 kr_at_346 fl_RX12_138 rfl rfl (fun M1 => ?_)
  refine kr_aload_n dX12_bears_5 rfl 0 rfl ?_
  refine kr_iload_n dX12_bears_6 rfl 1 rfl ?_
  refine kr_Vi (As := [.int p1]) (st := []) zv_X12_isRope dX12_bears_7 ml_RX12_319 kr_at_346 (r_X12_isRope E p1 M1) rfl rfl (Nat.le_of_ble_eq_true rfl) rfl (by decide) (Nat.le_of_ble_eq_true rfl) (fun r3 M2 => ?_)
  refine kr_if_ne (tgt := 16) dX12_bears_10 (by decide) ?_ ?_
  · refine kr_aload_n dX12_bears_16 rfl 0 rfl ?_
    refine kr_Vv (As := []) (st := []) zv_X12_lays dX12_bears_17 ml_RX12_337 kr_at_346 (r_X12_lays E  M2) rfl rfl (Nat.le_of_ble_eq_true rfl) rfl (by decide) (Nat.le_of_ble_eq_true rfl) (fun M4 => ?_)
    refine kr_iconst (v := 0) dX12_bears_20 (by decide) ?_
    refine kr_istore_n (lv' := [(2, .int (0 : Int32)), (0, kr_r E 346), (1, .int p1)]) dX12_bears_21 rfl (by decide) rfl ?_
    refine kr_iconst (v := 0) dX12_bears_22 (by decide) ?_
    refine kr_istore_n (lv' := [(3, .int (0 : Int32)), (2, .int (0 : Int32)), (0, kr_r E 346), (1, .int p1)]) dX12_bears_23 rfl (by decide) rfl ?_
    refine kr_sub [2, 3, 1, 0] rfl ?_
    exact r_X12_bears_24 E p1 _ (0 : Int32) (0 : Int32) M4
  · refine kr_bipush (v := -2) dX12_bears_13 (by decide) ?_
    exact kr_iret dX12_bears_15 rfl
theorem dX12_isFull_0 : decode cX12_isFull 0 = .ok (.aload_n 0, 1) := by decide +kernel
theorem dX12_isFull_1 : decode cX12_isFull 1 = .ok (.getfield 34, 3) := by decide +kernel
theorem dX12_isFull_4 : decode cX12_isFull 4 = .ok (.bipush 7, 2) := by decide +kernel
theorem dX12_isFull_6 : decode cX12_isFull 6 = .ok (.iaload, 1) := by decide +kernel
theorem dX12_isFull_7 : decode cX12_isFull 7 = .ok (.bipush 40, 2) := by decide +kernel
theorem dX12_isFull_9 : decode cX12_isFull 9 = .ok (.if_icmp .ne 7, 3) := by decide +kernel
theorem dX12_isFull_12 : decode cX12_isFull 12 = .ok (.iconst 1, 1) := by decide +kernel
theorem dX12_isFull_13 : decode cX12_isFull 13 = .ok (.goto 4, 3) := by decide +kernel
theorem dX12_isFull_16 : decode cX12_isFull 16 = .ok (.iconst 0, 1) := by decide +kernel
theorem dX12_isFull_17 : decode cX12_isFull 17 = .ok (.ireturn, 1) := by decide +kernel
theorem r_X12_isFull (E : kr_E)  (M : kr_M) : kR kr_vi E Y_X12_isFull 1 0 [(0, kr_r E 346)] [] M (f_X12_isFull M) := by
  rw [f_X12_isFull]
  refine kr_aload_n dX12_isFull_0 rfl 0 rfl ?_
  refine kr_getA (o := 7) (ci := 12) (j := 17) dX12_isFull_1 kr_at_346 fl_RX12_34 rfl ?_
  refine kr_bipush (v := 7) dX12_isFull_4 (by decide) ?_
  refine kr_iald dX12_isFull_6 kr_at_353 (fun v1 => ?_)
  refine kr_bipush (v := 40) dX12_isFull_7 (by decide) ?_
  refine kr_icmp_ne (tgt := 16) dX12_isFull_9 (by decide) ?_ ?_
  · refine kr_iconst (v := 0) dX12_isFull_16 (by decide) ?_
    exact kr_zret1 dX12_isFull_17 rfl rfl
  · refine kr_iconst (v := 1) dX12_isFull_12 (by decide) ?_
    refine kr_goto (tgt := 17) dX12_isFull_13 (by decide) ?_
    exact kr_zret1 dX12_isFull_17 rfl rfl
theorem dX12_acts_0 : decode cX12_acts 0 = .ok (.iconst 4, 1) := by decide +kernel
theorem dX12_acts_1 : decode cX12_acts 1 = .ok (.aload_n 0, 1) := by decide +kernel
theorem dX12_acts_2 : decode cX12_acts 2 = .ok (.getfield 34, 3) := by decide +kernel
theorem dX12_acts_5 : decode cX12_acts 5 = .ok (.bipush 7, 2) := by decide +kernel
theorem dX12_acts_7 : decode cX12_acts 7 = .ok (.iaload, 1) := by decide +kernel
theorem dX12_acts_8 : decode cX12_acts 8 = .ok (.imul, 1) := by decide +kernel
theorem dX12_acts_9 : decode cX12_acts 9 = .ok (.istore 5, 2) := by decide +kernel
theorem dX12_acts_11 : decode cX12_acts 11 = .ok (.aload_n 0, 1) := by decide +kernel
theorem dX12_acts_12 : decode cX12_acts 12 = .ok (.getfield 61, 3) := by decide +kernel
theorem dX12_acts_15 : decode cX12_acts 15 = .ok (.iload 5, 2) := by decide +kernel
theorem dX12_acts_17 : decode cX12_acts 17 = .ok (.iload_n 1, 1) := by decide +kernel
theorem dX12_acts_18 : decode cX12_acts 18 = .ok (.iastore, 1) := by decide +kernel
theorem dX12_acts_19 : decode cX12_acts 19 = .ok (.aload_n 0, 1) := by decide +kernel
theorem dX12_acts_20 : decode cX12_acts 20 = .ok (.getfield 61, 3) := by decide +kernel
theorem dX12_acts_23 : decode cX12_acts 23 = .ok (.iload 5, 2) := by decide +kernel
theorem dX12_acts_25 : decode cX12_acts 25 = .ok (.iconst 1, 1) := by decide +kernel
theorem dX12_acts_26 : decode cX12_acts 26 = .ok (.iadd, 1) := by decide +kernel
theorem dX12_acts_27 : decode cX12_acts 27 = .ok (.iload_n 2, 1) := by decide +kernel
theorem dX12_acts_28 : decode cX12_acts 28 = .ok (.iastore, 1) := by decide +kernel
theorem dX12_acts_29 : decode cX12_acts 29 = .ok (.aload_n 0, 1) := by decide +kernel
theorem dX12_acts_30 : decode cX12_acts 30 = .ok (.getfield 61, 3) := by decide +kernel
theorem dX12_acts_33 : decode cX12_acts 33 = .ok (.iload 5, 2) := by decide +kernel
theorem dX12_acts_35 : decode cX12_acts 35 = .ok (.iconst 2, 1) := by decide +kernel
theorem dX12_acts_36 : decode cX12_acts 36 = .ok (.iadd, 1) := by decide +kernel
theorem dX12_acts_37 : decode cX12_acts 37 = .ok (.iload_n 3, 1) := by decide +kernel
theorem dX12_acts_38 : decode cX12_acts 38 = .ok (.iastore, 1) := by decide +kernel
theorem dX12_acts_39 : decode cX12_acts 39 = .ok (.aload_n 0, 1) := by decide +kernel
theorem dX12_acts_40 : decode cX12_acts 40 = .ok (.getfield 61, 3) := by decide +kernel
theorem dX12_acts_43 : decode cX12_acts 43 = .ok (.iload 5, 2) := by decide +kernel
theorem dX12_acts_45 : decode cX12_acts 45 = .ok (.iconst 3, 1) := by decide +kernel
theorem dX12_acts_46 : decode cX12_acts 46 = .ok (.iadd, 1) := by decide +kernel
theorem dX12_acts_47 : decode cX12_acts 47 = .ok (.iload 4, 2) := by decide +kernel
theorem dX12_acts_49 : decode cX12_acts 49 = .ok (.iastore, 1) := by decide +kernel
theorem dX12_acts_50 : decode cX12_acts 50 = .ok (.aload_n 0, 1) := by decide +kernel
theorem dX12_acts_51 : decode cX12_acts 51 = .ok (.getfield 34, 3) := by decide +kernel
theorem dX12_acts_54 : decode cX12_acts 54 = .ok (.bipush 7, 2) := by decide +kernel
theorem dX12_acts_56 : decode cX12_acts 56 = .ok (.dup2, 1) := by decide +kernel
theorem dX12_acts_57 : decode cX12_acts 57 = .ok (.iaload, 1) := by decide +kernel
theorem dX12_acts_58 : decode cX12_acts 58 = .ok (.iconst 1, 1) := by decide +kernel
theorem dX12_acts_59 : decode cX12_acts 59 = .ok (.iadd, 1) := by decide +kernel
theorem dX12_acts_60 : decode cX12_acts 60 = .ok (.iastore, 1) := by decide +kernel
theorem dX12_acts_61 : decode cX12_acts 61 = .ok (.return_, 1) := by decide +kernel
theorem r_X12_acts (E : kr_E) (p1 : Int32) (p2 : Int32) (p3 : Int32) (p4 : Int32) (M : kr_M) : kR kr_vv E Y_X12_acts 1 0 [(0, kr_r E 346), (1, .int p1), (2, .int p2), (3, .int p3), (4, .int p4)] [] M (f_X12_acts p1 p2 p3 p4 M) := by
  rw [f_X12_acts]
  refine kr_iconst (v := 4) dX12_acts_0 (by decide) ?_
  refine kr_aload_n dX12_acts_1 rfl 0 rfl ?_
  refine kr_getA (o := 7) (ci := 12) (j := 17) dX12_acts_2 kr_at_346 fl_RX12_34 rfl ?_
  refine kr_bipush (v := 7) dX12_acts_5 (by decide) ?_
  refine kr_iald dX12_acts_7 kr_at_353 (fun v1 => ?_)
  refine kr_imul dX12_acts_8 ?_
  refine kr_nmi (fun v2 => ?_)
  refine kr_istore (lv' := [(5, .int v2), (0, kr_r E 346), (1, .int p1), (2, .int p2), (3, .int p3), (4, .int p4)]) dX12_acts_9 (by decide) rfl ?_
  refine kr_aload_n dX12_acts_11 rfl 1 rfl ?_
  refine kr_getA (o := 16) (ci := 12) (j := 26) dX12_acts_12 kr_at_346 fl_RX12_61 rfl ?_
  refine kr_iload dX12_acts_15 0 rfl ?_
  refine kr_iload_n dX12_acts_17 rfl 2 rfl ?_
  refine kr_iast dX12_acts_18 kr_at_362 (fun M3 => ?_)
  refine kr_aload_n dX12_acts_19 rfl 1 rfl ?_
  refine kr_getA (o := 16) (ci := 12) (j := 26) dX12_acts_20 kr_at_346 fl_RX12_61 rfl ?_
  refine kr_iload dX12_acts_23 0 rfl ?_
  refine kr_iconst (v := 1) dX12_acts_25 (by decide) ?_
  refine kr_iadd dX12_acts_26 ?_
  refine kr_iload_n dX12_acts_27 rfl 3 rfl ?_
  refine kr_iast dX12_acts_28 kr_at_362 (fun M4 => ?_)
  refine kr_aload_n dX12_acts_29 rfl 1 rfl ?_
  refine kr_getA (o := 16) (ci := 12) (j := 26) dX12_acts_30 kr_at_346 fl_RX12_61 rfl ?_
  refine kr_iload dX12_acts_33 0 rfl ?_
  refine kr_iconst (v := 2) dX12_acts_35 (by decide) ?_
  refine kr_iadd dX12_acts_36 ?_
  refine kr_iload_n dX12_acts_37 rfl 4 rfl ?_
  refine kr_iast dX12_acts_38 kr_at_362 (fun M5 => ?_)
  refine kr_aload_n dX12_acts_39 rfl 1 rfl ?_
  refine kr_getA (o := 16) (ci := 12) (j := 26) dX12_acts_40 kr_at_346 fl_RX12_61 rfl ?_
  refine kr_iload dX12_acts_43 0 rfl ?_
  refine kr_iconst (v := 3) dX12_acts_45 (by decide) ?_
  refine kr_iadd dX12_acts_46 ?_
  refine kr_iload dX12_acts_47 5 rfl ?_
  refine kr_iast dX12_acts_49 kr_at_362 (fun M6 => ?_)
  refine kr_aload_n dX12_acts_50 rfl 1 rfl ?_
  refine kr_getA (o := 7) (ci := 12) (j := 17) dX12_acts_51 kr_at_346 fl_RX12_34 rfl ?_
  refine kr_bipush (v := 7) dX12_acts_54 (by decide) ?_
  refine kr_dup2 dX12_acts_56 rfl rfl ?_
  refine kr_iald dX12_acts_57 kr_at_353 (fun v7 => ?_)
  refine kr_iconst (v := 1) dX12_acts_58 (by decide) ?_
  refine kr_iadd dX12_acts_59 ?_
  refine kr_iast dX12_acts_60 kr_at_353 (fun M8 => ?_)
  exact kr_vret dX12_acts_61 rfl
theorem dX12_cross_0 : decode cX12_cross 0 = .ok (.aload_n 0, 1) := by decide +kernel
theorem dX12_cross_1 : decode cX12_cross 1 = .ok (.iconst 0, 1) := by decide +kernel
theorem dX12_cross_2 : decode cX12_cross 2 = .ok (.putfield 138, 3) := by decide +kernel
theorem dX12_cross_5 : decode cX12_cross 5 = .ok (.aload_n 0, 1) := by decide +kernel
theorem dX12_cross_6 : decode cX12_cross 6 = .ok (.iload_n 1, 1) := by decide +kernel
theorem dX12_cross_7 : decode cX12_cross 7 = .ok (.invokevirtual 346, 3) := by decide +kernel
theorem dX12_cross_10 : decode cX12_cross 10 = .ok (.ifCond .eq 11, 3) := by decide +kernel
theorem dX12_cross_13 : decode cX12_cross 13 = .ok (.aload_n 0, 1) := by decide +kernel
theorem dX12_cross_14 : decode cX12_cross 14 = .ok (.iload_n 2, 1) := by decide +kernel
theorem dX12_cross_15 : decode cX12_cross 15 = .ok (.invokevirtual 319, 3) := by decide +kernel
theorem dX12_cross_18 : decode cX12_cross 18 = .ok (.ifCond .ne 6, 3) := by decide +kernel
theorem dX12_cross_21 : decode cX12_cross 21 = .ok (.bipush (-2), 2) := by decide +kernel
theorem dX12_cross_23 : decode cX12_cross 23 = .ok (.ireturn, 1) := by decide +kernel
theorem dX12_cross_24 : decode cX12_cross 24 = .ok (.aload_n 0, 1) := by decide +kernel
theorem dX12_cross_25 : decode cX12_cross 25 = .ok (.invokevirtual 337, 3) := by decide +kernel
theorem dX12_cross_28 : decode cX12_cross 28 = .ok (.aload_n 0, 1) := by decide +kernel
theorem dX12_cross_29 : decode cX12_cross 29 = .ok (.invokevirtual 504, 3) := by decide +kernel
theorem dX12_cross_32 : decode cX12_cross 32 = .ok (.ifCond .ne 33, 3) := by decide +kernel
theorem dX12_cross_35 : decode cX12_cross 35 = .ok (.aload_n 0, 1) := by decide +kernel
theorem dX12_cross_36 : decode cX12_cross 36 = .ok (.iload_n 2, 1) := by decide +kernel
theorem dX12_cross_37 : decode cX12_cross 37 = .ok (.aload_n 0, 1) := by decide +kernel
theorem dX12_cross_38 : decode cX12_cross 38 = .ok (.getfield 77, 3) := by decide +kernel
theorem dX12_cross_41 : decode cX12_cross 41 = .ok (.iload_n 1, 1) := by decide +kernel
theorem dX12_cross_42 : decode cX12_cross 42 = .ok (.iaload, 1) := by decide +kernel
theorem dX12_cross_43 : decode cX12_cross 43 = .ok (.invokevirtual 487, 3) := by decide +kernel
theorem dX12_cross_46 : decode cX12_cross 46 = .ok (.ifCond .eq 19, 3) := by decide +kernel
theorem dX12_cross_49 : decode cX12_cross 49 = .ok (.aload_n 0, 1) := by decide +kernel
theorem dX12_cross_50 : decode cX12_cross 50 = .ok (.iload_n 2, 1) := by decide +kernel
theorem dX12_cross_51 : decode cX12_cross 51 = .ok (.aload_n 0, 1) := by decide +kernel
theorem dX12_cross_52 : decode cX12_cross 52 = .ok (.getfield 58, 3) := by decide +kernel
theorem dX12_cross_55 : decode cX12_cross 55 = .ok (.iconst 3, 1) := by decide +kernel
theorem dX12_cross_56 : decode cX12_cross 56 = .ok (.iload_n 1, 1) := by decide +kernel
theorem dX12_cross_57 : decode cX12_cross 57 = .ok (.imul, 1) := by decide +kernel
theorem dX12_cross_58 : decode cX12_cross 58 = .ok (.iaload, 1) := by decide +kernel
theorem dX12_cross_59 : decode cX12_cross 59 = .ok (.invokevirtual 475, 3) := by decide +kernel
theorem dX12_cross_62 : decode cX12_cross 62 = .ok (.ifCond .ne 6, 3) := by decide +kernel
theorem dX12_cross_65 : decode cX12_cross 65 = .ok (.bipush (-5), 2) := by decide +kernel
theorem dX12_cross_67 : decode cX12_cross 67 = .ok (.ireturn, 1) := by decide +kernel
theorem dX12_cross_68 : decode cX12_cross 68 = .ok (.aload_n 0, 1) := by decide +kernel
theorem dX12_cross_69 : decode cX12_cross 69 = .ok (.iconst 0, 1) := by decide +kernel
theorem dX12_cross_70 : decode cX12_cross 70 = .ok (.iload_n 1, 1) := by decide +kernel
theorem dX12_cross_71 : decode cX12_cross 71 = .ok (.iload_n 2, 1) := by decide +kernel
theorem dX12_cross_72 : decode cX12_cross 72 = .ok (.iconst 0, 1) := by decide +kernel
theorem dX12_cross_73 : decode cX12_cross 73 = .ok (.invokevirtual 507, 3) := by decide +kernel
theorem dX12_cross_76 : decode cX12_cross 76 = .ok (.aload_n 0, 1) := by decide +kernel
theorem dX12_cross_77 : decode cX12_cross 77 = .ok (.iload_n 2, 1) := by decide +kernel
theorem dX12_cross_78 : decode cX12_cross 78 = .ok (.aload_n 0, 1) := by decide +kernel
theorem dX12_cross_79 : decode cX12_cross 79 = .ok (.getfield 77, 3) := by decide +kernel
theorem dX12_cross_82 : decode cX12_cross 82 = .ok (.iload_n 1, 1) := by decide +kernel
theorem dX12_cross_83 : decode cX12_cross 83 = .ok (.iaload, 1) := by decide +kernel
theorem dX12_cross_84 : decode cX12_cross 84 = .ok (.invokevirtual 329, 3) := by decide +kernel
theorem dX12_cross_87 : decode cX12_cross 87 = .ok (.ireturn, 1) := by decide +kernel
theorem r_X12_cross (E : kr_E) (p1 : Int32) (p2 : Int32) (M : kr_M) : kR kr_vi E Y_X12_cross 4 0 [(0, kr_r E 346), (1, .int p1), (2, .int p2)] [] M (f_X12_cross p1 p2 M) := by
  rw [f_X12_cross]
  refine kr_aload_n dX12_cross_0 rfl 0 rfl ?_
  refine kr_iconst (v := 0) dX12_cross_1 (by decide) ?_
  refine kr_putI (ci := 12) (j := 0) dX12_cross_2 kr_at_346 fl_RX12_138 rfl rfl (fun M1 => ?_)
  refine kr_aload_n dX12_cross_5 rfl 0 rfl ?_
  refine kr_iload_n dX12_cross_6 rfl 1 rfl ?_
  refine kr_Vi (As := [.int p1]) (st := []) zv_X12_isPerson dX12_cross_7 ml_RX12_346 kr_at_346 (r_X12_isPerson E p1 M1) rfl rfl (Nat.le_of_ble_eq_true rfl) rfl (by decide) (Nat.le_of_ble_eq_true rfl) (fun r3 M2 => ?_)
  refine kr_if_eq (tgt := 21) dX12_cross_10 (by decide) ?_ ?_
  · refine kr_bipush (v := -2) dX12_cross_21 (by decide) ?_
    exact kr_iret dX12_cross_23 rfl
  · refine kr_aload_n dX12_cross_13 rfl 0 rfl ?_
    refine kr_iload_n dX12_cross_14 rfl 2 rfl ?_
    refine kr_Vi (As := [.int p2]) (st := []) zv_X12_isRope dX12_cross_15 ml_RX12_319 kr_at_346 (r_X12_isRope E p2 M2) rfl rfl (Nat.le_of_ble_eq_true rfl) rfl (by decide) (Nat.le_of_ble_eq_true rfl) (fun r5 M4 => ?_)
    refine kr_if_ne (tgt := 24) dX12_cross_18 (by decide) ?_ ?_
    · refine kr_aload_n dX12_cross_24 rfl 0 rfl ?_
      refine kr_Vv (As := []) (st := []) zv_X12_lays dX12_cross_25 ml_RX12_337 kr_at_346 (r_X12_lays E  M4) rfl rfl (Nat.le_of_ble_eq_true rfl) rfl (by decide) (Nat.le_of_ble_eq_true rfl) (fun M6 => ?_)
      refine kr_aload_n dX12_cross_28 rfl 0 rfl ?_
      refine kr_Vi (As := []) (st := []) zv_X12_isFull dX12_cross_29 ml_RX12_504 kr_at_346 (r_X12_isFull E  M6) rfl rfl (Nat.le_of_ble_eq_true rfl) rfl (by decide) (Nat.le_of_ble_eq_true rfl) (fun r9 M8 => ?_)
      refine kr_if_ne (tgt := 65) dX12_cross_32 (by decide) ?_ ?_
      · refine kr_bipush (v := -5) dX12_cross_65 (by decide) ?_
        exact kr_iret dX12_cross_67 rfl
      · refine kr_aload_n dX12_cross_35 rfl 0 rfl ?_
        refine kr_iload_n dX12_cross_36 rfl 2 rfl ?_
        refine kr_aload_n dX12_cross_37 rfl 0 rfl ?_
        refine kr_getA (o := 21) (ci := 12) (j := 31) dX12_cross_38 kr_at_346 fl_RX12_77 rfl ?_
        refine kr_iload_n dX12_cross_41 rfl 1 rfl ?_
        refine kr_iald dX12_cross_42 kr_at_367 (fun v10 => ?_)
        refine kr_Vi (As := [.int p2, .int v10]) (st := []) zv_X12_isEnd dX12_cross_43 ml_RX12_487 kr_at_346 (r_X12_isEnd E p2 v10 M8) rfl rfl (Nat.le_of_ble_eq_true rfl) rfl (by decide) (Nat.le_of_ble_eq_true rfl) (fun r12 M11 => ?_)
        refine kr_if_eq (tgt := 65) dX12_cross_46 (by decide) ?_ ?_
        · refine kr_bipush (v := -5) dX12_cross_65 (by decide) ?_
          exact kr_iret dX12_cross_67 rfl
        · refine kr_aload_n dX12_cross_49 rfl 0 rfl ?_
          refine kr_iload_n dX12_cross_50 rfl 2 rfl ?_
          refine kr_aload_n dX12_cross_51 rfl 0 rfl ?_
          refine kr_getA (o := 15) (ci := 12) (j := 25) dX12_cross_52 kr_at_346 fl_RX12_58 rfl ?_
          refine kr_iconst (v := 3) dX12_cross_55 (by decide) ?_
          refine kr_iload_n dX12_cross_56 rfl 1 rfl ?_
          refine kr_imul dX12_cross_57 ?_
          refine kr_iald dX12_cross_58 kr_at_361 (fun v13 => ?_)
          refine kr_Vi (As := [.int p2, .int v13]) (st := []) zv_X12_bearsIt dX12_cross_59 ml_RX12_475 kr_at_346 (r_X12_bearsIt E p2 v13 M11) rfl rfl (Nat.le_of_ble_eq_true rfl) rfl (by decide) (Nat.le_of_ble_eq_true rfl) (fun r15 M14 => ?_)
          refine kr_if_ne (tgt := 68) dX12_cross_62 (by decide) ?_ ?_
          · refine kr_aload_n dX12_cross_68 rfl 0 rfl ?_
            refine kr_iconst (v := 0) dX12_cross_69 (by decide) ?_
            refine kr_iload_n dX12_cross_70 rfl 1 rfl ?_
            refine kr_iload_n dX12_cross_71 rfl 2 rfl ?_
            refine kr_iconst (v := 0) dX12_cross_72 (by decide) ?_
            refine kr_Vv (As := [.int (0 : Int32), .int p1, .int p2, .int (0 : Int32)]) (st := []) zv_X12_acts dX12_cross_73 ml_RX12_507 kr_at_346 (r_X12_acts E (0 : Int32) p1 p2 (0 : Int32) M14) rfl rfl (Nat.le_of_ble_eq_true rfl) rfl (by decide) (Nat.le_of_ble_eq_true rfl) (fun M16 => ?_)
            refine kr_aload_n dX12_cross_76 rfl 0 rfl ?_
            refine kr_iload_n dX12_cross_77 rfl 2 rfl ?_
            refine kr_aload_n dX12_cross_78 rfl 0 rfl ?_
            refine kr_getA (o := 21) (ci := 12) (j := 31) dX12_cross_79 kr_at_346 fl_RX12_77 rfl ?_
            refine kr_iload_n dX12_cross_82 rfl 1 rfl ?_
            refine kr_iald dX12_cross_83 kr_at_367 (fun v18 => ?_)
            refine kr_Vi (As := [.int p2, .int v18]) (st := []) zv_X12_otherEnd dX12_cross_84 ml_RX12_329 kr_at_346 (r_X12_otherEnd E p2 v18 M16) rfl rfl (Nat.le_of_ble_eq_true rfl) rfl (by decide) (Nat.le_of_ble_eq_true rfl) (fun r20 M19 => ?_)
            exact kr_iret dX12_cross_87 rfl
          · refine kr_bipush (v := -5) dX12_cross_65 (by decide) ?_
            exact kr_iret dX12_cross_67 rfl
    · refine kr_bipush (v := -2) dX12_cross_21 (by decide) ?_
      exact kr_iret dX12_cross_23 rfl
theorem dX12_tie_0 : decode cX12_tie 0 = .ok (.aload_n 0, 1) := by decide +kernel
theorem dX12_tie_1 : decode cX12_tie 1 = .ok (.iconst 0, 1) := by decide +kernel
theorem dX12_tie_2 : decode cX12_tie 2 = .ok (.putfield 138, 3) := by decide +kernel
theorem dX12_tie_5 : decode cX12_tie 5 = .ok (.aload_n 0, 1) := by decide +kernel
theorem dX12_tie_6 : decode cX12_tie 6 = .ok (.iload_n 1, 1) := by decide +kernel
theorem dX12_tie_7 : decode cX12_tie 7 = .ok (.invokevirtual 319, 3) := by decide +kernel
theorem dX12_tie_10 : decode cX12_tie 10 = .ok (.ifCond .eq 21, 3) := by decide +kernel
theorem dX12_tie_13 : decode cX12_tie 13 = .ok (.iload_n 3, 1) := by decide +kernel
theorem dX12_tie_14 : decode cX12_tie 14 = .ok (.i2l, 1) := by decide +kernel
theorem dX12_tie_15 : decode cX12_tie 15 = .ok (.lconst 0, 1) := by decide +kernel
theorem dX12_tie_16 : decode cX12_tie 16 = .ok (.aload_n 0, 1) := by decide +kernel
theorem dX12_tie_17 : decode cX12_tie 17 = .ok (.getfield 34, 3) := by decide +kernel
theorem dX12_tie_20 : decode cX12_tie 20 = .ok (.iconst 3, 1) := by decide +kernel
theorem dX12_tie_21 : decode cX12_tie 21 = .ok (.iaload, 1) := by decide +kernel
theorem dX12_tie_22 : decode cX12_tie 22 = .ok (.iconst 1, 1) := by decide +kernel
theorem dX12_tie_23 : decode cX12_tie 23 = .ok (.isub, 1) := by decide +kernel
theorem dX12_tie_24 : decode cX12_tie 24 = .ok (.i2l, 1) := by decide +kernel
theorem dX12_tie_25 : decode cX12_tie 25 = .ok (.invokestatic 143, 3) := by decide +kernel
theorem dX12_tie_28 : decode cX12_tie 28 = .ok (.ifCond .ne 6, 3) := by decide +kernel
theorem dX12_tie_31 : decode cX12_tie 31 = .ok (.bipush (-2), 2) := by decide +kernel
theorem dX12_tie_33 : decode cX12_tie 33 = .ok (.ireturn, 1) := by decide +kernel
theorem dX12_tie_34 : decode cX12_tie 34 = .ok (.aload_n 0, 1) := by decide +kernel
theorem dX12_tie_35 : decode cX12_tie 35 = .ok (.invokevirtual 337, 3) := by decide +kernel
theorem dX12_tie_38 : decode cX12_tie 38 = .ok (.iload_n 2, 1) := by decide +kernel
theorem dX12_tie_39 : decode cX12_tie 39 = .ok (.i2l, 1) := by decide +kernel
theorem dX12_tie_40 : decode cX12_tie 40 = .ok (.lconst 0, 1) := by decide +kernel
theorem dX12_tie_41 : decode cX12_tie 41 = .ok (.aload_n 0, 1) := by decide +kernel
theorem dX12_tie_42 : decode cX12_tie 42 = .ok (.getfield 71, 3) := by decide +kernel
theorem dX12_tie_45 : decode cX12_tie 45 = .ok (.iload_n 1, 1) := by decide +kernel
theorem dX12_tie_46 : decode cX12_tie 46 = .ok (.iaload, 1) := by decide +kernel
theorem dX12_tie_47 : decode cX12_tie 47 = .ok (.iconst 1, 1) := by decide +kernel
theorem dX12_tie_48 : decode cX12_tie 48 = .ok (.isub, 1) := by decide +kernel
theorem dX12_tie_49 : decode cX12_tie 49 = .ok (.i2l, 1) := by decide +kernel
theorem dX12_tie_50 : decode cX12_tie 50 = .ok (.invokestatic 143, 3) := by decide +kernel
theorem dX12_tie_53 : decode cX12_tie 53 = .ok (.ifCond .ne 6, 3) := by decide +kernel
theorem dX12_tie_56 : decode cX12_tie 56 = .ok (.bipush (-2), 2) := by decide +kernel
theorem dX12_tie_58 : decode cX12_tie 58 = .ok (.ireturn, 1) := by decide +kernel
theorem dX12_tie_59 : decode cX12_tie 59 = .ok (.aload_n 0, 1) := by decide +kernel
theorem dX12_tie_60 : decode cX12_tie 60 = .ok (.invokevirtual 504, 3) := by decide +kernel
theorem dX12_tie_63 : decode cX12_tie 63 = .ok (.ifCond .eq 6, 3) := by decide +kernel
theorem dX12_tie_66 : decode cX12_tie 66 = .ok (.bipush (-5), 2) := by decide +kernel
theorem dX12_tie_68 : decode cX12_tie 68 = .ok (.ireturn, 1) := by decide +kernel
theorem dX12_tie_69 : decode cX12_tie 69 = .ok (.aload_n 0, 1) := by decide +kernel
theorem dX12_tie_70 : decode cX12_tie 70 = .ok (.iconst 1, 1) := by decide +kernel
theorem dX12_tie_71 : decode cX12_tie 71 = .ok (.iload_n 1, 1) := by decide +kernel
theorem dX12_tie_72 : decode cX12_tie 72 = .ok (.iload_n 2, 1) := by decide +kernel
theorem dX12_tie_73 : decode cX12_tie 73 = .ok (.iload_n 3, 1) := by decide +kernel
theorem dX12_tie_74 : decode cX12_tie 74 = .ok (.invokevirtual 507, 3) := by decide +kernel
theorem dX12_tie_77 : decode cX12_tie 77 = .ok (.aload_n 0, 1) := by decide +kernel
theorem dX12_tie_78 : decode cX12_tie 78 = .ok (.getfield 68, 3) := by decide +kernel
theorem dX12_tie_81 : decode cX12_tie 81 = .ok (.bipush 24, 2) := by decide +kernel
theorem dX12_tie_83 : decode cX12_tie 83 = .ok (.iload_n 1, 1) := by decide +kernel
theorem dX12_tie_84 : decode cX12_tie 84 = .ok (.imul, 1) := by decide +kernel
theorem dX12_tie_85 : decode cX12_tie 85 = .ok (.iload_n 2, 1) := by decide +kernel
theorem dX12_tie_86 : decode cX12_tie 86 = .ok (.iadd, 1) := by decide +kernel
theorem dX12_tie_87 : decode cX12_tie 87 = .ok (.iaload, 1) := by decide +kernel
theorem dX12_tie_88 : decode cX12_tie 88 = .ok (.ireturn, 1) := by decide +kernel
theorem r_X12_tie (E : kr_E) (p1 : Int32) (p2 : Int32) (p3 : Int32) (M : kr_M) : kR kr_vi E Y_X12_tie 4 0 [(0, kr_r E 346), (1, .int p1), (2, .int p2), (3, .int p3)] [] M (f_X12_tie p1 p2 p3 M) := by
  rw [f_X12_tie]
  refine kr_aload_n dX12_tie_0 rfl 0 rfl ?_
  refine kr_iconst (v := 0) dX12_tie_1 (by decide) ?_
  refine kr_putI (ci := 12) (j := 0) dX12_tie_2 kr_at_346 fl_RX12_138 rfl rfl (fun M1 => ?_)
  refine kr_aload_n dX12_tie_5 rfl 0 rfl ?_
  refine kr_iload_n dX12_tie_6 rfl 1 rfl ?_
  refine kr_Vi (As := [.int p1]) (st := []) zv_X12_isRope dX12_tie_7 ml_RX12_319 kr_at_346 (r_X12_isRope E p1 M1) rfl rfl (Nat.le_of_ble_eq_true rfl) rfl (by decide) (Nat.le_of_ble_eq_true rfl) (fun r3 M2 => ?_)
  refine kr_if_eq (tgt := 31) dX12_tie_10 (by decide) ?_ ?_
  · refine kr_bipush (v := -2) dX12_tie_31 (by decide) ?_
    exact kr_iret dX12_tie_33 rfl
  · refine kr_iload_n dX12_tie_13 rfl 3 rfl ?_
    refine kr_i2l dX12_tie_14 ?_
    refine kr_lconst (v := 0) dX12_tie_15 (by decide) ?_
    refine kr_aload_n dX12_tie_16 rfl 0 rfl ?_
    refine kr_getA (o := 7) (ci := 12) (j := 17) dX12_tie_17 kr_at_346 fl_RX12_34 rfl ?_
    refine kr_iconst (v := 3) dX12_tie_20 (by decide) ?_
    refine kr_iald dX12_tie_21 kr_at_353 (fun v4 => ?_)
    refine kr_iconst (v := 1) dX12_tie_22 (by decide) ?_
    refine kr_isub dX12_tie_23 ?_
    refine kr_i2l dX12_tie_24 ?_
    refine kr_Si (As := [.long (p3.toInt64), .long (0 : Int64), .long ((v4 - (1 : Int32)).toInt64)]) (st := []) zs_X12_in dX12_tie_25 ml_RX12_143 (r_X12_in E (p3.toInt64) (0 : Int64) ((v4 - (1 : Int32)).toInt64) M2) rfl rfl (Nat.le_of_ble_eq_true rfl) rfl (by decide) (Nat.le_of_ble_eq_true rfl) (fun r6 M5 => ?_)
    refine kr_if_ne (tgt := 34) dX12_tie_28 (by decide) ?_ ?_
    · refine kr_aload_n dX12_tie_34 rfl 0 rfl ?_
      refine kr_Vv (As := []) (st := []) zv_X12_lays dX12_tie_35 ml_RX12_337 kr_at_346 (r_X12_lays E  M5) rfl rfl (Nat.le_of_ble_eq_true rfl) rfl (by decide) (Nat.le_of_ble_eq_true rfl) (fun M7 => ?_)
      refine kr_iload_n dX12_tie_38 rfl 2 rfl ?_
      refine kr_i2l dX12_tie_39 ?_
      refine kr_lconst (v := 0) dX12_tie_40 (by decide) ?_
      refine kr_aload_n dX12_tie_41 rfl 0 rfl ?_
      refine kr_getA (o := 19) (ci := 12) (j := 29) dX12_tie_42 kr_at_346 fl_RX12_71 rfl ?_
      refine kr_iload_n dX12_tie_45 rfl 1 rfl ?_
      refine kr_iald dX12_tie_46 kr_at_365 (fun v9 => ?_)
      refine kr_iconst (v := 1) dX12_tie_47 (by decide) ?_
      refine kr_isub dX12_tie_48 ?_
      refine kr_i2l dX12_tie_49 ?_
      refine kr_Si (As := [.long (p2.toInt64), .long (0 : Int64), .long ((v9 - (1 : Int32)).toInt64)]) (st := []) zs_X12_in dX12_tie_50 ml_RX12_143 (r_X12_in E (p2.toInt64) (0 : Int64) ((v9 - (1 : Int32)).toInt64) M7) rfl rfl (Nat.le_of_ble_eq_true rfl) rfl (by decide) (Nat.le_of_ble_eq_true rfl) (fun r11 M10 => ?_)
      refine kr_if_ne (tgt := 59) dX12_tie_53 (by decide) ?_ ?_
      · refine kr_aload_n dX12_tie_59 rfl 0 rfl ?_
        refine kr_Vi (As := []) (st := []) zv_X12_isFull dX12_tie_60 ml_RX12_504 kr_at_346 (r_X12_isFull E  M10) rfl rfl (Nat.le_of_ble_eq_true rfl) rfl (by decide) (Nat.le_of_ble_eq_true rfl) (fun r13 M12 => ?_)
        refine kr_if_eq (tgt := 69) dX12_tie_63 (by decide) ?_ ?_
        · refine kr_aload_n dX12_tie_69 rfl 0 rfl ?_
          refine kr_iconst (v := 1) dX12_tie_70 (by decide) ?_
          refine kr_iload_n dX12_tie_71 rfl 1 rfl ?_
          refine kr_iload_n dX12_tie_72 rfl 2 rfl ?_
          refine kr_iload_n dX12_tie_73 rfl 3 rfl ?_
          refine kr_Vv (As := [.int (1 : Int32), .int p1, .int p2, .int p3]) (st := []) zv_X12_acts dX12_tie_74 ml_RX12_507 kr_at_346 (r_X12_acts E (1 : Int32) p1 p2 p3 M12) rfl rfl (Nat.le_of_ble_eq_true rfl) rfl (by decide) (Nat.le_of_ble_eq_true rfl) (fun M14 => ?_)
          refine kr_aload_n dX12_tie_77 rfl 0 rfl ?_
          refine kr_getA (o := 18) (ci := 12) (j := 28) dX12_tie_78 kr_at_346 fl_RX12_68 rfl ?_
          refine kr_bipush (v := 24) dX12_tie_81 (by decide) ?_
          refine kr_iload_n dX12_tie_83 rfl 1 rfl ?_
          refine kr_imul dX12_tie_84 ?_
          refine kr_iload_n dX12_tie_85 rfl 2 rfl ?_
          refine kr_iadd dX12_tie_86 ?_
          refine kr_iald dX12_tie_87 kr_at_364 (fun v16 => ?_)
          exact kr_iret dX12_tie_88 rfl
        · refine kr_bipush (v := -5) dX12_tie_66 (by decide) ?_
          exact kr_iret dX12_tie_68 rfl
      · refine kr_bipush (v := -2) dX12_tie_56 (by decide) ?_
        exact kr_iret dX12_tie_58 rfl
    · refine kr_bipush (v := -2) dX12_tie_31 (by decide) ?_
      exact kr_iret dX12_tie_33 rfl
theorem dX12_cut__0 : decode cX12_cut_ 0 = .ok (.aload_n 0, 1) := by decide +kernel
theorem dX12_cut__1 : decode cX12_cut_ 1 = .ok (.iconst 0, 1) := by decide +kernel
theorem dX12_cut__2 : decode cX12_cut_ 2 = .ok (.putfield 138, 3) := by decide +kernel
theorem dX12_cut__5 : decode cX12_cut_ 5 = .ok (.aload_n 0, 1) := by decide +kernel
theorem dX12_cut__6 : decode cX12_cut_ 6 = .ok (.iload_n 1, 1) := by decide +kernel
theorem dX12_cut__7 : decode cX12_cut_ 7 = .ok (.invokevirtual 319, 3) := by decide +kernel
theorem dX12_cut__10 : decode cX12_cut_ 10 = .ok (.ifCond .ne 6, 3) := by decide +kernel
theorem dX12_cut__13 : decode cX12_cut_ 13 = .ok (.bipush (-2), 2) := by decide +kernel
theorem dX12_cut__15 : decode cX12_cut_ 15 = .ok (.ireturn, 1) := by decide +kernel
theorem dX12_cut__16 : decode cX12_cut_ 16 = .ok (.aload_n 0, 1) := by decide +kernel
theorem dX12_cut__17 : decode cX12_cut_ 17 = .ok (.invokevirtual 337, 3) := by decide +kernel
theorem dX12_cut__20 : decode cX12_cut_ 20 = .ok (.iload_n 2, 1) := by decide +kernel
theorem dX12_cut__21 : decode cX12_cut_ 21 = .ok (.i2l, 1) := by decide +kernel
theorem dX12_cut__22 : decode cX12_cut_ 22 = .ok (.lconst 1, 1) := by decide +kernel
theorem dX12_cut__23 : decode cX12_cut_ 23 = .ok (.aload_n 0, 1) := by decide +kernel
theorem dX12_cut__24 : decode cX12_cut_ 24 = .ok (.getfield 71, 3) := by decide +kernel
theorem dX12_cut__27 : decode cX12_cut_ 27 = .ok (.iload_n 1, 1) := by decide +kernel
theorem dX12_cut__28 : decode cX12_cut_ 28 = .ok (.iaload, 1) := by decide +kernel
theorem dX12_cut__29 : decode cX12_cut_ 29 = .ok (.iconst 1, 1) := by decide +kernel
theorem dX12_cut__30 : decode cX12_cut_ 30 = .ok (.isub, 1) := by decide +kernel
theorem dX12_cut__31 : decode cX12_cut_ 31 = .ok (.i2l, 1) := by decide +kernel
theorem dX12_cut__32 : decode cX12_cut_ 32 = .ok (.invokestatic 143, 3) := by decide +kernel
theorem dX12_cut__35 : decode cX12_cut_ 35 = .ok (.ifCond .ne 6, 3) := by decide +kernel
theorem dX12_cut__38 : decode cX12_cut_ 38 = .ok (.bipush (-2), 2) := by decide +kernel
theorem dX12_cut__40 : decode cX12_cut_ 40 = .ok (.ireturn, 1) := by decide +kernel
theorem dX12_cut__41 : decode cX12_cut_ 41 = .ok (.aload_n 0, 1) := by decide +kernel
theorem dX12_cut__42 : decode cX12_cut_ 42 = .ok (.invokevirtual 504, 3) := by decide +kernel
theorem dX12_cut__45 : decode cX12_cut_ 45 = .ok (.ifCond .eq 6, 3) := by decide +kernel
theorem dX12_cut__48 : decode cX12_cut_ 48 = .ok (.bipush (-5), 2) := by decide +kernel
theorem dX12_cut__50 : decode cX12_cut_ 50 = .ok (.ireturn, 1) := by decide +kernel
theorem dX12_cut__51 : decode cX12_cut_ 51 = .ok (.aload_n 0, 1) := by decide +kernel
theorem dX12_cut__52 : decode cX12_cut_ 52 = .ok (.iconst 2, 1) := by decide +kernel
theorem dX12_cut__53 : decode cX12_cut_ 53 = .ok (.iload_n 1, 1) := by decide +kernel
theorem dX12_cut__54 : decode cX12_cut_ 54 = .ok (.iload_n 2, 1) := by decide +kernel
theorem dX12_cut__55 : decode cX12_cut_ 55 = .ok (.iconst 0, 1) := by decide +kernel
theorem dX12_cut__56 : decode cX12_cut_ 56 = .ok (.invokevirtual 507, 3) := by decide +kernel
theorem dX12_cut__59 : decode cX12_cut_ 59 = .ok (.aload_n 0, 1) := by decide +kernel
theorem dX12_cut__60 : decode cX12_cut_ 60 = .ok (.getfield 71, 3) := by decide +kernel
theorem dX12_cut__63 : decode cX12_cut_ 63 = .ok (.iload_n 1, 1) := by decide +kernel
theorem dX12_cut__64 : decode cX12_cut_ 64 = .ok (.iaload, 1) := by decide +kernel
theorem dX12_cut__65 : decode cX12_cut_ 65 = .ok (.iload_n 2, 1) := by decide +kernel
theorem dX12_cut__66 : decode cX12_cut_ 66 = .ok (.isub, 1) := by decide +kernel
theorem dX12_cut__67 : decode cX12_cut_ 67 = .ok (.ireturn, 1) := by decide +kernel
theorem r_X12_cut_ (E : kr_E) (p1 : Int32) (p2 : Int32) (M : kr_M) : kR kr_vi E Y_X12_cut_ 4 0 [(0, kr_r E 346), (1, .int p1), (2, .int p2)] [] M (f_X12_cut_ p1 p2 M) := by
  rw [f_X12_cut_]
  refine kr_aload_n dX12_cut__0 rfl 0 rfl ?_
  refine kr_iconst (v := 0) dX12_cut__1 (by decide) ?_
  refine kr_putI (ci := 12) (j := 0) dX12_cut__2 kr_at_346 fl_RX12_138 rfl rfl (fun M1 => ?_)
  refine kr_aload_n dX12_cut__5 rfl 0 rfl ?_
  refine kr_iload_n dX12_cut__6 rfl 1 rfl ?_
  refine kr_Vi (As := [.int p1]) (st := []) zv_X12_isRope dX12_cut__7 ml_RX12_319 kr_at_346 (r_X12_isRope E p1 M1) rfl rfl (Nat.le_of_ble_eq_true rfl) rfl (by decide) (Nat.le_of_ble_eq_true rfl) (fun r3 M2 => ?_)
  refine kr_if_ne (tgt := 16) dX12_cut__10 (by decide) ?_ ?_
  · refine kr_aload_n dX12_cut__16 rfl 0 rfl ?_
    refine kr_Vv (As := []) (st := []) zv_X12_lays dX12_cut__17 ml_RX12_337 kr_at_346 (r_X12_lays E  M2) rfl rfl (Nat.le_of_ble_eq_true rfl) rfl (by decide) (Nat.le_of_ble_eq_true rfl) (fun M4 => ?_)
    refine kr_iload_n dX12_cut__20 rfl 2 rfl ?_
    refine kr_i2l dX12_cut__21 ?_
    refine kr_lconst (v := 1) dX12_cut__22 (by decide) ?_
    refine kr_aload_n dX12_cut__23 rfl 0 rfl ?_
    refine kr_getA (o := 19) (ci := 12) (j := 29) dX12_cut__24 kr_at_346 fl_RX12_71 rfl ?_
    refine kr_iload_n dX12_cut__27 rfl 1 rfl ?_
    refine kr_iald dX12_cut__28 kr_at_365 (fun v6 => ?_)
    refine kr_iconst (v := 1) dX12_cut__29 (by decide) ?_
    refine kr_isub dX12_cut__30 ?_
    refine kr_i2l dX12_cut__31 ?_
    refine kr_Si (As := [.long (p2.toInt64), .long (1 : Int64), .long ((v6 - (1 : Int32)).toInt64)]) (st := []) zs_X12_in dX12_cut__32 ml_RX12_143 (r_X12_in E (p2.toInt64) (1 : Int64) ((v6 - (1 : Int32)).toInt64) M4) rfl rfl (Nat.le_of_ble_eq_true rfl) rfl (by decide) (Nat.le_of_ble_eq_true rfl) (fun r8 M7 => ?_)
    refine kr_if_ne (tgt := 41) dX12_cut__35 (by decide) ?_ ?_
    · refine kr_aload_n dX12_cut__41 rfl 0 rfl ?_
      refine kr_Vi (As := []) (st := []) zv_X12_isFull dX12_cut__42 ml_RX12_504 kr_at_346 (r_X12_isFull E  M7) rfl rfl (Nat.le_of_ble_eq_true rfl) rfl (by decide) (Nat.le_of_ble_eq_true rfl) (fun r10 M9 => ?_)
      refine kr_if_eq (tgt := 51) dX12_cut__45 (by decide) ?_ ?_
      · refine kr_aload_n dX12_cut__51 rfl 0 rfl ?_
        refine kr_iconst (v := 2) dX12_cut__52 (by decide) ?_
        refine kr_iload_n dX12_cut__53 rfl 1 rfl ?_
        refine kr_iload_n dX12_cut__54 rfl 2 rfl ?_
        refine kr_iconst (v := 0) dX12_cut__55 (by decide) ?_
        refine kr_Vv (As := [.int (2 : Int32), .int p1, .int p2, .int (0 : Int32)]) (st := []) zv_X12_acts dX12_cut__56 ml_RX12_507 kr_at_346 (r_X12_acts E (2 : Int32) p1 p2 (0 : Int32) M9) rfl rfl (Nat.le_of_ble_eq_true rfl) rfl (by decide) (Nat.le_of_ble_eq_true rfl) (fun M11 => ?_)
        refine kr_aload_n dX12_cut__59 rfl 0 rfl ?_
        refine kr_getA (o := 19) (ci := 12) (j := 29) dX12_cut__60 kr_at_346 fl_RX12_71 rfl ?_
        refine kr_iload_n dX12_cut__63 rfl 1 rfl ?_
        refine kr_iald dX12_cut__64 kr_at_365 (fun v13 => ?_)
        refine kr_iload_n dX12_cut__65 rfl 2 rfl ?_
        refine kr_isub dX12_cut__66 ?_
        exact kr_iret dX12_cut__67 rfl
      · refine kr_bipush (v := -5) dX12_cut__48 (by decide) ?_
        exact kr_iret dX12_cut__50 rfl
    · refine kr_bipush (v := -2) dX12_cut__38 (by decide) ?_
      exact kr_iret dX12_cut__40 rfl
  · refine kr_bipush (v := -2) dX12_cut__13 (by decide) ?_
    exact kr_iret dX12_cut__15 rfl
theorem dX12_splice_0 : decode cX12_splice 0 = .ok (.aload_n 0, 1) := by decide +kernel
theorem dX12_splice_1 : decode cX12_splice 1 = .ok (.iconst 0, 1) := by decide +kernel
theorem dX12_splice_2 : decode cX12_splice 2 = .ok (.putfield 138, 3) := by decide +kernel
theorem dX12_splice_5 : decode cX12_splice 5 = .ok (.aload_n 0, 1) := by decide +kernel
theorem dX12_splice_6 : decode cX12_splice 6 = .ok (.iload_n 1, 1) := by decide +kernel
theorem dX12_splice_7 : decode cX12_splice 7 = .ok (.iload_n 2, 1) := by decide +kernel
theorem dX12_splice_8 : decode cX12_splice 8 = .ok (.invokevirtual 431, 3) := by decide +kernel
theorem dX12_splice_11 : decode cX12_splice 11 = .ok (.ifCond .ne 6, 3) := by decide +kernel
theorem dX12_splice_14 : decode cX12_splice 14 = .ok (.bipush (-2), 2) := by decide +kernel
theorem dX12_splice_16 : decode cX12_splice 16 = .ok (.ireturn, 1) := by decide +kernel
theorem dX12_splice_17 : decode cX12_splice 17 = .ok (.aload_n 0, 1) := by decide +kernel
theorem dX12_splice_18 : decode cX12_splice 18 = .ok (.invokevirtual 337, 3) := by decide +kernel
theorem dX12_splice_21 : decode cX12_splice 21 = .ok (.aload_n 0, 1) := by decide +kernel
theorem dX12_splice_22 : decode cX12_splice 22 = .ok (.invokevirtual 504, 3) := by decide +kernel
theorem dX12_splice_25 : decode cX12_splice 25 = .ok (.ifCond .ne 21, 3) := by decide +kernel
theorem dX12_splice_28 : decode cX12_splice 28 = .ok (.aload_n 0, 1) := by decide +kernel
theorem dX12_splice_29 : decode cX12_splice 29 = .ok (.getfield 71, 3) := by decide +kernel
theorem dX12_splice_32 : decode cX12_splice 32 = .ok (.iload_n 1, 1) := by decide +kernel
theorem dX12_splice_33 : decode cX12_splice 33 = .ok (.iaload, 1) := by decide +kernel
theorem dX12_splice_34 : decode cX12_splice 34 = .ok (.aload_n 0, 1) := by decide +kernel
theorem dX12_splice_35 : decode cX12_splice 35 = .ok (.getfield 71, 3) := by decide +kernel
theorem dX12_splice_38 : decode cX12_splice 38 = .ok (.iload_n 2, 1) := by decide +kernel
theorem dX12_splice_39 : decode cX12_splice 39 = .ok (.iaload, 1) := by decide +kernel
theorem dX12_splice_40 : decode cX12_splice 40 = .ok (.iadd, 1) := by decide +kernel
theorem dX12_splice_41 : decode cX12_splice 41 = .ok (.bipush 24, 2) := by decide +kernel
theorem dX12_splice_43 : decode cX12_splice 43 = .ok (.if_icmp .le 6, 3) := by decide +kernel
theorem dX12_splice_46 : decode cX12_splice 46 = .ok (.bipush (-5), 2) := by decide +kernel
theorem dX12_splice_48 : decode cX12_splice 48 = .ok (.ireturn, 1) := by decide +kernel
theorem dX12_splice_49 : decode cX12_splice 49 = .ok (.aload_n 0, 1) := by decide +kernel
theorem dX12_splice_50 : decode cX12_splice 50 = .ok (.iconst 3, 1) := by decide +kernel
theorem dX12_splice_51 : decode cX12_splice 51 = .ok (.iload_n 1, 1) := by decide +kernel
theorem dX12_splice_52 : decode cX12_splice 52 = .ok (.iload_n 2, 1) := by decide +kernel
theorem dX12_splice_53 : decode cX12_splice 53 = .ok (.iconst 0, 1) := by decide +kernel
theorem dX12_splice_54 : decode cX12_splice 54 = .ok (.invokevirtual 507, 3) := by decide +kernel
theorem dX12_splice_57 : decode cX12_splice 57 = .ok (.aload_n 0, 1) := by decide +kernel
theorem dX12_splice_58 : decode cX12_splice 58 = .ok (.getfield 71, 3) := by decide +kernel
theorem dX12_splice_61 : decode cX12_splice 61 = .ok (.iload_n 1, 1) := by decide +kernel
theorem dX12_splice_62 : decode cX12_splice 62 = .ok (.iaload, 1) := by decide +kernel
theorem dX12_splice_63 : decode cX12_splice 63 = .ok (.aload_n 0, 1) := by decide +kernel
theorem dX12_splice_64 : decode cX12_splice 64 = .ok (.getfield 71, 3) := by decide +kernel
theorem dX12_splice_67 : decode cX12_splice 67 = .ok (.iload_n 2, 1) := by decide +kernel
theorem dX12_splice_68 : decode cX12_splice 68 = .ok (.iaload, 1) := by decide +kernel
theorem dX12_splice_69 : decode cX12_splice 69 = .ok (.iadd, 1) := by decide +kernel
theorem dX12_splice_70 : decode cX12_splice 70 = .ok (.ireturn, 1) := by decide +kernel
theorem r_X12_splice (E : kr_E) (p1 : Int32) (p2 : Int32) (M : kr_M) : kR kr_vi E Y_X12_splice 4 0 [(0, kr_r E 346), (1, .int p1), (2, .int p2)] [] M (f_X12_splice p1 p2 M) := by
  rw [f_X12_splice]
  refine kr_aload_n dX12_splice_0 rfl 0 rfl ?_
  refine kr_iconst (v := 0) dX12_splice_1 (by decide) ?_
  refine kr_putI (ci := 12) (j := 0) dX12_splice_2 kr_at_346 fl_RX12_138 rfl rfl (fun M1 => ?_)
  refine kr_aload_n dX12_splice_5 rfl 0 rfl ?_
  refine kr_iload_n dX12_splice_6 rfl 1 rfl ?_
  refine kr_iload_n dX12_splice_7 rfl 2 rfl ?_
  refine kr_Vi (As := [.int p1, .int p2]) (st := []) zv_X12_areRopes dX12_splice_8 ml_RX12_431 kr_at_346 (r_X12_areRopes E p1 p2 M1) rfl rfl (Nat.le_of_ble_eq_true rfl) rfl (by decide) (Nat.le_of_ble_eq_true rfl) (fun r3 M2 => ?_)
  refine kr_if_ne (tgt := 17) dX12_splice_11 (by decide) ?_ ?_
  · refine kr_aload_n dX12_splice_17 rfl 0 rfl ?_
    refine kr_Vv (As := []) (st := []) zv_X12_lays dX12_splice_18 ml_RX12_337 kr_at_346 (r_X12_lays E  M2) rfl rfl (Nat.le_of_ble_eq_true rfl) rfl (by decide) (Nat.le_of_ble_eq_true rfl) (fun M4 => ?_)
    refine kr_aload_n dX12_splice_21 rfl 0 rfl ?_
    refine kr_Vi (As := []) (st := []) zv_X12_isFull dX12_splice_22 ml_RX12_504 kr_at_346 (r_X12_isFull E  M4) rfl rfl (Nat.le_of_ble_eq_true rfl) rfl (by decide) (Nat.le_of_ble_eq_true rfl) (fun r7 M6 => ?_)
    refine kr_if_ne (tgt := 46) dX12_splice_25 (by decide) ?_ ?_
    · refine kr_bipush (v := -5) dX12_splice_46 (by decide) ?_
      exact kr_iret dX12_splice_48 rfl
    · refine kr_aload_n dX12_splice_28 rfl 0 rfl ?_
      refine kr_getA (o := 19) (ci := 12) (j := 29) dX12_splice_29 kr_at_346 fl_RX12_71 rfl ?_
      refine kr_iload_n dX12_splice_32 rfl 1 rfl ?_
      refine kr_iald dX12_splice_33 kr_at_365 (fun v8 => ?_)
      refine kr_aload_n dX12_splice_34 rfl 0 rfl ?_
      refine kr_getA (o := 19) (ci := 12) (j := 29) dX12_splice_35 kr_at_346 fl_RX12_71 rfl ?_
      refine kr_iload_n dX12_splice_38 rfl 2 rfl ?_
      refine kr_iald dX12_splice_39 kr_at_365 (fun v9 => ?_)
      refine kr_iadd dX12_splice_40 ?_
      refine kr_bipush (v := 24) dX12_splice_41 (by decide) ?_
      refine kr_icmp_le (tgt := 49) dX12_splice_43 (by decide) ?_ ?_
      · refine kr_aload_n dX12_splice_49 rfl 0 rfl ?_
        refine kr_iconst (v := 3) dX12_splice_50 (by decide) ?_
        refine kr_iload_n dX12_splice_51 rfl 1 rfl ?_
        refine kr_iload_n dX12_splice_52 rfl 2 rfl ?_
        refine kr_iconst (v := 0) dX12_splice_53 (by decide) ?_
        refine kr_Vv (As := [.int (3 : Int32), .int p1, .int p2, .int (0 : Int32)]) (st := []) zv_X12_acts dX12_splice_54 ml_RX12_507 kr_at_346 (r_X12_acts E (3 : Int32) p1 p2 (0 : Int32) M6) rfl rfl (Nat.le_of_ble_eq_true rfl) rfl (by decide) (Nat.le_of_ble_eq_true rfl) (fun M10 => ?_)
        refine kr_aload_n dX12_splice_57 rfl 0 rfl ?_
        refine kr_getA (o := 19) (ci := 12) (j := 29) dX12_splice_58 kr_at_346 fl_RX12_71 rfl ?_
        refine kr_iload_n dX12_splice_61 rfl 1 rfl ?_
        refine kr_iald dX12_splice_62 kr_at_365 (fun v12 => ?_)
        refine kr_aload_n dX12_splice_63 rfl 0 rfl ?_
        refine kr_getA (o := 19) (ci := 12) (j := 29) dX12_splice_64 kr_at_346 fl_RX12_71 rfl ?_
        refine kr_iload_n dX12_splice_67 rfl 2 rfl ?_
        refine kr_iald dX12_splice_68 kr_at_365 (fun v13 => ?_)
        refine kr_iadd dX12_splice_69 ?_
        exact kr_iret dX12_splice_70 rfl
      · refine kr_bipush (v := -5) dX12_splice_46 (by decide) ?_
        exact kr_iret dX12_splice_48 rfl
  · refine kr_bipush (v := -2) dX12_splice_14 (by decide) ?_
    exact kr_iret dX12_splice_16 rfl
