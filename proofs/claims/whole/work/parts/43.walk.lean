theorem dX12_having_0 : decode cX12_having 0 = .ok (.iconst 0, 1) := by decide +kernel
theorem dX12_having_1 : decode cX12_having 1 = .ok (.istore 4, 2) := by decide +kernel
theorem dX12_having_3 : decode cX12_having 3 = .ok (.iconst 0, 1) := by decide +kernel
theorem dX12_having_4 : decode cX12_having 4 = .ok (.istore 5, 2) := by decide +kernel
theorem dX12_having_6 : decode cX12_having 6 = .ok (.iload 5, 2) := by decide +kernel
theorem dX12_having_8 : decode cX12_having 8 = .ok (.aload_n 0, 1) := by decide +kernel
theorem dX12_having_9 : decode cX12_having 9 = .ok (.getfield 34, 3) := by decide +kernel
theorem dX12_having_12 : decode cX12_having 12 = .ok (.iconst 5, 1) := by decide +kernel
theorem dX12_having_13 : decode cX12_having 13 = .ok (.iaload, 1) := by decide +kernel
theorem dX12_having_14 : decode cX12_having 14 = .ok (.if_icmp .ge 62, 3) := by decide +kernel
theorem dX12_having_17 : decode cX12_having 17 = .ok (.iload 4, 2) := by decide +kernel
theorem dX12_having_19 : decode cX12_having 19 = .ok (.iload_n 1, 1) := by decide +kernel
theorem dX12_having_20 : decode cX12_having 20 = .ok (.iload 5, 2) := by decide +kernel
theorem dX12_having_22 : decode cX12_having 22 = .ok (.invokestatic 446, 3) := by decide +kernel
theorem dX12_having_25 : decode cX12_having 25 = .ok (.ifCond .eq 41, 3) := by decide +kernel
theorem dX12_having_28 : decode cX12_having 28 = .ok (.iload_n 2, 1) := by decide +kernel
theorem dX12_having_29 : decode cX12_having 29 = .ok (.aload_n 0, 1) := by decide +kernel
theorem dX12_having_30 : decode cX12_having 30 = .ok (.getfield 71, 3) := by decide +kernel
theorem dX12_having_33 : decode cX12_having 33 = .ok (.iload 5, 2) := by decide +kernel
theorem dX12_having_35 : decode cX12_having 35 = .ok (.iaload, 1) := by decide +kernel
theorem dX12_having_36 : decode cX12_having 36 = .ok (.if_icmp .ge 18, 3) := by decide +kernel
theorem dX12_having_39 : decode cX12_having 39 = .ok (.aload_n 0, 1) := by decide +kernel
theorem dX12_having_40 : decode cX12_having 40 = .ok (.getfield 68, 3) := by decide +kernel
theorem dX12_having_43 : decode cX12_having 43 = .ok (.bipush 24, 2) := by decide +kernel
theorem dX12_having_45 : decode cX12_having 45 = .ok (.iload 5, 2) := by decide +kernel
theorem dX12_having_47 : decode cX12_having 47 = .ok (.imul, 1) := by decide +kernel
theorem dX12_having_48 : decode cX12_having 48 = .ok (.iload_n 2, 1) := by decide +kernel
theorem dX12_having_49 : decode cX12_having 49 = .ok (.iadd, 1) := by decide +kernel
theorem dX12_having_50 : decode cX12_having 50 = .ok (.iaload, 1) := by decide +kernel
theorem dX12_having_51 : decode cX12_having 51 = .ok (.goto 4, 3) := by decide +kernel
theorem dX12_having_54 : decode cX12_having 54 = .ok (.iconst (-1), 1) := by decide +kernel
theorem dX12_having_55 : decode cX12_having 55 = .ok (.iload_n 3, 1) := by decide +kernel
theorem dX12_having_56 : decode cX12_having 56 = .ok (.if_icmp .ne 10, 3) := by decide +kernel
theorem dX12_having_59 : decode cX12_having 59 = .ok (.iconst 1, 1) := by decide +kernel
theorem dX12_having_60 : decode cX12_having 60 = .ok (.iload 5, 2) := by decide +kernel
theorem dX12_having_62 : decode cX12_having 62 = .ok (.ishl, 1) := by decide +kernel
theorem dX12_having_63 : decode cX12_having 63 = .ok (.goto 4, 3) := by decide +kernel
theorem dX12_having_66 : decode cX12_having 66 = .ok (.iconst 0, 1) := by decide +kernel
theorem dX12_having_67 : decode cX12_having 67 = .ok (.ior, 1) := by decide +kernel
theorem dX12_having_68 : decode cX12_having 68 = .ok (.istore 4, 2) := by decide +kernel
theorem dX12_having_70 : decode cX12_having 70 = .ok (.iinc 5 1, 3) := by decide +kernel
theorem dX12_having_73 : decode cX12_having 73 = .ok (.goto (-67), 3) := by decide +kernel
theorem dX12_having_76 : decode cX12_having 76 = .ok (.iload 4, 2) := by decide +kernel
theorem dX12_having_78 : decode cX12_having 78 = .ok (.ireturn, 1) := by decide +kernel
theorem r_X12_having_67 (E : kr_E) (k_6 : Int32 → Int32 → kr_M → Option (Int32 × kr_M)) (l1 : Int32) (l2 : Int32) (l3 : Int32) (l5 : Int32) (s0 : Int32) (s1 : Int32) (hk_6 : ∀ (x4 : Int32) (x5 : Int32) (M : kr_M), kR kr_vi E Y_X12_having 2 6 [(0, kr_r E 346), (1, .int l1), (2, .int l2), (3, .int l3), (4, .int x4), (5, .int x5)] [] M (k_6 x4 x5 M)) (M : kr_M) : kR kr_vi E Y_X12_having 2 67 [(0, kr_r E 346), (1, .int l1), (2, .int l2), (3, .int l3), (5, .int l5)] [.int s0, .int s1] M (f_X12_having_67 k_6 l5 s0 s1 M) := by
  rw [f_X12_having_67]
  refine kr_ior dX12_having_67 ?_
  refine kr_nmi (fun v1 => ?_)
  refine kr_istore (lv' := [(4, .int v1), (0, kr_r E 346), (1, .int l1), (2, .int l2), (3, .int l3), (5, .int l5)]) dX12_having_68 (by decide) rfl ?_
  refine kr_iinc (j := 5) (v := (l5 + (1 : Int32))) (lv' := [(5, .int (l5 + (1 : Int32))), (4, .int v1), (0, kr_r E 346), (1, .int l1), (2, .int l2), (3, .int l3)]) dX12_having_70 rfl rfl (by decide) rfl ?_
  refine kr_goto (tgt := 6) dX12_having_73 (by decide) ?_
  refine kr_sub [2, 3, 4, 5, 1, 0] rfl ?_
  exact hk_6 v1 (l5 + (1 : Int32)) M
theorem r_X12_having_66 (E : kr_E) (k_6 : Int32 → Int32 → kr_M → Option (Int32 × kr_M)) (l1 : Int32) (l2 : Int32) (l3 : Int32) (l5 : Int32) (s0 : Int32) (hk_6 : ∀ (x4 : Int32) (x5 : Int32) (M : kr_M), kR kr_vi E Y_X12_having 2 6 [(0, kr_r E 346), (1, .int l1), (2, .int l2), (3, .int l3), (4, .int x4), (5, .int x5)] [] M (k_6 x4 x5 M)) (M : kr_M) : kR kr_vi E Y_X12_having 2 66 [(0, kr_r E 346), (1, .int l1), (2, .int l2), (3, .int l3), (5, .int l5)] [.int s0] M (f_X12_having_66 k_6 l5 s0 M) := by
  rw [f_X12_having_66]
  refine kr_iconst (v := 0) dX12_having_66 (by decide) ?_
  refine kr_sub [0, 1, 2, 3, 4] rfl ?_
  exact r_X12_having_67 E _ l1 l2 l3 l5 (0 : Int32) s0 hk_6 M
theorem r_X12_having_55 (E : kr_E) (k_6 : Int32 → Int32 → kr_M → Option (Int32 × kr_M)) (l1 : Int32) (l2 : Int32) (l3 : Int32) (l5 : Int32) (s0 : Int32) (s1 : Int32) (hk_6 : ∀ (x4 : Int32) (x5 : Int32) (M : kr_M), kR kr_vi E Y_X12_having 2 6 [(0, kr_r E 346), (1, .int l1), (2, .int l2), (3, .int l3), (4, .int x4), (5, .int x5)] [] M (k_6 x4 x5 M)) (M : kr_M) : kR kr_vi E Y_X12_having 2 55 [(0, kr_r E 346), (1, .int l1), (2, .int l2), (3, .int l3), (5, .int l5)] [.int s0, .int s1] M (f_X12_having_55 k_6 l3 l5 s0 s1 M) := by
  rw [f_X12_having_55]
  refine kr_iload_n dX12_having_55 rfl 3 rfl ?_
  refine kr_icmp_ne (tgt := 66) dX12_having_56 (by decide) ?_ ?_
  · refine kr_sub [0, 1, 2, 3, 4] rfl ?_
    exact r_X12_having_66 E _ l1 l2 l3 l5 s1 hk_6 M
  · refine kr_iconst (v := 1) dX12_having_59 (by decide) ?_
    refine kr_iload dX12_having_60 4 rfl ?_
    refine kr_ishl dX12_having_62 ?_
    refine kr_goto (tgt := 67) dX12_having_63 (by decide) ?_
    refine kr_sub [0, 1, 2, 3, 4] rfl ?_
    exact r_X12_having_67 E _ l1 l2 l3 l5 ((1 : Int32) <<< (l5 &&& 31)) s1 hk_6 M
theorem r_X12_having_6 (E : kr_E)  (l1 : Int32) (l2 : Int32) (l3 : Int32)  : ∀ (n : Nat) (l4 : Int32) (l5 : Int32) (M : kr_M), kR kr_vi E Y_X12_having 2 6 [(0, kr_r E 346), (1, .int l1), (2, .int l2), (3, .int l3), (4, .int l4), (5, .int l5)] [] M (f_X12_having_6 l1 l2 l3 n l4 l5 M) := by
  intro n
  induction n with
  | zero => intro l4 l5 M; exact kr_none
  | succ n ih =>
    intro l4 l5 M
    rw [f_X12_having_6]
    refine kr_iload dX12_having_6 5 rfl ?_
    refine kr_aload_n dX12_having_8 rfl 0 rfl ?_
    refine kr_getA (o := 7) (ci := 12) (j := 17) dX12_having_9 kr_at_346 fl_RX12_34 rfl ?_
    refine kr_iconst (v := 5) dX12_having_12 (by decide) ?_
    refine kr_iald dX12_having_13 kr_at_353 (fun v1 => ?_)
    refine kr_icmp_ge (tgt := 76) dX12_having_14 (by decide) ?_ ?_
    · refine kr_iload dX12_having_76 4 rfl ?_
      exact kr_iret dX12_having_78 rfl
    · refine kr_iload dX12_having_17 4 rfl ?_
      refine kr_iload_n dX12_having_19 rfl 1 rfl ?_
      refine kr_iload dX12_having_20 5 rfl ?_
      refine kr_Si (As := [.int l1, .int l5]) (st := [.int l4]) zs_X12_isBit dX12_having_22 ml_RX12_446 (r_X12_isBit E l1 l5 M) rfl rfl (Nat.le_of_ble_eq_true rfl) rfl (by decide) (Nat.le_of_ble_eq_true rfl) (fun r3 M2 => ?_)
      refine kr_if_eq (tgt := 66) dX12_having_25 (by decide) ?_ ?_
      · refine kr_sub [0, 1, 2, 3, 5] rfl ?_
        exact r_X12_having_66 E _ l1 l2 l3 l5 l4 ih M2
      · refine kr_iload_n dX12_having_28 rfl 2 rfl ?_
        refine kr_aload_n dX12_having_29 rfl 0 rfl ?_
        refine kr_getA (o := 19) (ci := 12) (j := 29) dX12_having_30 kr_at_346 fl_RX12_71 rfl ?_
        refine kr_iload dX12_having_33 5 rfl ?_
        refine kr_iald dX12_having_35 kr_at_365 (fun v4 => ?_)
        refine kr_icmp_ge (tgt := 54) dX12_having_36 (by decide) ?_ ?_
        · refine kr_iconst (v := -1) dX12_having_54 (by decide) ?_
          refine kr_sub [0, 1, 2, 3, 5] rfl ?_
          exact r_X12_having_55 E _ l1 l2 l3 l5 (-1 : Int32) l4 ih M2
        · refine kr_aload_n dX12_having_39 rfl 0 rfl ?_
          refine kr_getA (o := 18) (ci := 12) (j := 28) dX12_having_40 kr_at_346 fl_RX12_68 rfl ?_
          refine kr_bipush (v := 24) dX12_having_43 (by decide) ?_
          refine kr_iload dX12_having_45 5 rfl ?_
          refine kr_imul dX12_having_47 ?_
          refine kr_iload_n dX12_having_48 rfl 2 rfl ?_
          refine kr_iadd dX12_having_49 ?_
          refine kr_iald dX12_having_50 kr_at_364 (fun v5 => ?_)
          refine kr_goto (tgt := 55) dX12_having_51 (by decide) ?_
          refine kr_sub [0, 1, 2, 3, 5] rfl ?_
          exact r_X12_having_55 E _ l1 l2 l3 l5 v5 l4 ih M2
theorem r_X12_having (E : kr_E) (p1 : Int32) (p2 : Int32) (p3 : Int32) (M : kr_M) : kR kr_vi E Y_X12_having 2 0 [(0, kr_r E 346), (1, .int p1), (2, .int p2), (3, .int p3)] [] M (f_X12_having p1 p2 p3 M) := by
  rw [f_X12_having]
  refine kr_iconst (v := 0) dX12_having_0 (by decide) ?_
  refine kr_istore (lv' := [(4, .int (0 : Int32)), (0, kr_r E 346), (1, .int p1), (2, .int p2), (3, .int p3)]) dX12_having_1 (by decide) rfl ?_
  refine kr_iconst (v := 0) dX12_having_3 (by decide) ?_
  refine kr_istore (lv' := [(5, .int (0 : Int32)), (4, .int (0 : Int32)), (0, kr_r E 346), (1, .int p1), (2, .int p2), (3, .int p3)]) dX12_having_4 (by decide) rfl ?_
  refine kr_sub [2, 3, 4, 5, 1, 0] rfl ?_
  exact r_X12_having_6 E p1 p2 p3 _ (0 : Int32) (0 : Int32) M
theorem dX12_laysWhich_0 : decode cX12_laysWhich 0 = .ok (.aload_n 0, 1) := by decide +kernel
theorem dX12_laysWhich_1 : decode cX12_laysWhich 1 = .ok (.invokevirtual 337, 3) := by decide +kernel
theorem dX12_laysWhich_4 : decode cX12_laysWhich 4 = .ok (.iconst 1, 1) := by decide +kernel
theorem dX12_laysWhich_5 : decode cX12_laysWhich 5 = .ok (.istore_n 1, 1) := by decide +kernel
theorem dX12_laysWhich_6 : decode cX12_laysWhich 6 = .ok (.iload_n 1, 1) := by decide +kernel
theorem dX12_laysWhich_7 : decode cX12_laysWhich 7 = .ok (.iconst 1, 1) := by decide +kernel
theorem dX12_laysWhich_8 : decode cX12_laysWhich 8 = .ok (.aload_n 0, 1) := by decide +kernel
theorem dX12_laysWhich_9 : decode cX12_laysWhich 9 = .ok (.getfield 34, 3) := by decide +kernel
theorem dX12_laysWhich_12 : decode cX12_laysWhich 12 = .ok (.iconst 5, 1) := by decide +kernel
theorem dX12_laysWhich_13 : decode cX12_laysWhich 13 = .ok (.iaload, 1) := by decide +kernel
theorem dX12_laysWhich_14 : decode cX12_laysWhich 14 = .ok (.ishl, 1) := by decide +kernel
theorem dX12_laysWhich_15 : decode cX12_laysWhich 15 = .ok (.if_icmp .ge 159, 3) := by decide +kernel
theorem dX12_laysWhich_18 : decode cX12_laysWhich 18 = .ok (.aload_n 0, 1) := by decide +kernel
theorem dX12_laysWhich_19 : decode cX12_laysWhich 19 = .ok (.getfield 114, 3) := by decide +kernel
theorem dX12_laysWhich_22 : decode cX12_laysWhich 22 = .ok (.iload_n 1, 1) := by decide +kernel
theorem dX12_laysWhich_23 : decode cX12_laysWhich 23 = .ok (.iload_n 1, 1) := by decide +kernel
theorem dX12_laysWhich_24 : decode cX12_laysWhich 24 = .ok (.invokestatic 462, 3) := by decide +kernel
theorem dX12_laysWhich_27 : decode cX12_laysWhich 27 = .ok (.iconst 1, 1) := by decide +kernel
theorem dX12_laysWhich_28 : decode cX12_laysWhich 28 = .ok (.if_icmp .ne 7, 3) := by decide +kernel
theorem dX12_laysWhich_31 : decode cX12_laysWhich 31 = .ok (.iconst 0, 1) := by decide +kernel
theorem dX12_laysWhich_32 : decode cX12_laysWhich 32 = .ok (.goto 6, 3) := by decide +kernel
theorem dX12_laysWhich_35 : decode cX12_laysWhich 35 = .ok (.ldc_w 354, 3) := by decide +kernel
theorem dX12_laysWhich_38 : decode cX12_laysWhich 38 = .ok (.iastore, 1) := by decide +kernel
theorem dX12_laysWhich_39 : decode cX12_laysWhich 39 = .ok (.aload_n 0, 1) := by decide +kernel
theorem dX12_laysWhich_40 : decode cX12_laysWhich 40 = .ok (.getfield 117, 3) := by decide +kernel
theorem dX12_laysWhich_43 : decode cX12_laysWhich 43 = .ok (.iload_n 1, 1) := by decide +kernel
theorem dX12_laysWhich_44 : decode cX12_laysWhich 44 = .ok (.iconst (-1), 1) := by decide +kernel
theorem dX12_laysWhich_45 : decode cX12_laysWhich 45 = .ok (.iastore, 1) := by decide +kernel
theorem dX12_laysWhich_46 : decode cX12_laysWhich 46 = .ok (.iconst 0, 1) := by decide +kernel
theorem dX12_laysWhich_47 : decode cX12_laysWhich 47 = .ok (.istore_n 2, 1) := by decide +kernel
theorem dX12_laysWhich_48 : decode cX12_laysWhich 48 = .ok (.iload_n 2, 1) := by decide +kernel
theorem dX12_laysWhich_49 : decode cX12_laysWhich 49 = .ok (.bipush 24, 2) := by decide +kernel
theorem dX12_laysWhich_51 : decode cX12_laysWhich 51 = .ok (.if_icmp .ge 117, 3) := by decide +kernel
theorem dX12_laysWhich_54 : decode cX12_laysWhich 54 = .ok (.iload_n 1, 1) := by decide +kernel
theorem dX12_laysWhich_55 : decode cX12_laysWhich 55 = .ok (.invokestatic 462, 3) := by decide +kernel
theorem dX12_laysWhich_58 : decode cX12_laysWhich 58 = .ok (.iconst 1, 1) := by decide +kernel
theorem dX12_laysWhich_59 : decode cX12_laysWhich 59 = .ok (.if_icmp .le 109, 3) := by decide +kernel
theorem dX12_laysWhich_62 : decode cX12_laysWhich 62 = .ok (.iconst 0, 1) := by decide +kernel
theorem dX12_laysWhich_63 : decode cX12_laysWhich 63 = .ok (.istore_n 3, 1) := by decide +kernel
theorem dX12_laysWhich_64 : decode cX12_laysWhich 64 = .ok (.iconst (-1), 1) := by decide +kernel
theorem dX12_laysWhich_65 : decode cX12_laysWhich 65 = .ok (.istore 4, 2) := by decide +kernel
theorem dX12_laysWhich_67 : decode cX12_laysWhich 67 = .ok (.iload 4, 2) := by decide +kernel
theorem dX12_laysWhich_69 : decode cX12_laysWhich 69 = .ok (.aload_n 0, 1) := by decide +kernel
theorem dX12_laysWhich_70 : decode cX12_laysWhich 70 = .ok (.getfield 34, 3) := by decide +kernel
theorem dX12_laysWhich_73 : decode cX12_laysWhich 73 = .ok (.iconst 3, 1) := by decide +kernel
theorem dX12_laysWhich_74 : decode cX12_laysWhich 74 = .ok (.iaload, 1) := by decide +kernel
theorem dX12_laysWhich_75 : decode cX12_laysWhich 75 = .ok (.if_icmp .ge 56, 3) := by decide +kernel
theorem dX12_laysWhich_78 : decode cX12_laysWhich 78 = .ok (.aload_n 0, 1) := by decide +kernel
theorem dX12_laysWhich_79 : decode cX12_laysWhich 79 = .ok (.iload_n 1, 1) := by decide +kernel
theorem dX12_laysWhich_80 : decode cX12_laysWhich 80 = .ok (.iload_n 2, 1) := by decide +kernel
theorem dX12_laysWhich_81 : decode cX12_laysWhich 81 = .ok (.iload 4, 2) := by decide +kernel
theorem dX12_laysWhich_83 : decode cX12_laysWhich 83 = .ok (.invokevirtual 465, 3) := by decide +kernel
theorem dX12_laysWhich_86 : decode cX12_laysWhich 86 = .ok (.istore 5, 2) := by decide +kernel
theorem dX12_laysWhich_88 : decode cX12_laysWhich 88 = .ok (.iload 5, 2) := by decide +kernel
theorem dX12_laysWhich_90 : decode cX12_laysWhich 90 = .ok (.iload_n 1, 1) := by decide +kernel
theorem dX12_laysWhich_91 : decode cX12_laysWhich 91 = .ok (.if_icmp .ne 10, 3) := by decide +kernel
theorem dX12_laysWhich_94 : decode cX12_laysWhich 94 = .ok (.ldc_w 354, 3) := by decide +kernel
theorem dX12_laysWhich_97 : decode cX12_laysWhich 97 = .ok (.istore_n 3, 1) := by decide +kernel
theorem dX12_laysWhich_98 : decode cX12_laysWhich 98 = .ok (.goto 27, 3) := by decide +kernel
theorem dX12_laysWhich_101 : decode cX12_laysWhich 101 = .ok (.iload 5, 2) := by decide +kernel
theorem dX12_laysWhich_103 : decode cX12_laysWhich 103 = .ok (.ifCond .eq 22, 3) := by decide +kernel
theorem dX12_laysWhich_106 : decode cX12_laysWhich 106 = .ok (.aload_n 0, 1) := by decide +kernel
theorem dX12_laysWhich_107 : decode cX12_laysWhich 107 = .ok (.getfield 114, 3) := by decide +kernel
theorem dX12_laysWhich_110 : decode cX12_laysWhich 110 = .ok (.iload 5, 2) := by decide +kernel
theorem dX12_laysWhich_112 : decode cX12_laysWhich 112 = .ok (.iaload, 1) := by decide +kernel
theorem dX12_laysWhich_113 : decode cX12_laysWhich 113 = .ok (.iload_n 3, 1) := by decide +kernel
theorem dX12_laysWhich_114 : decode cX12_laysWhich 114 = .ok (.if_icmp .le 11, 3) := by decide +kernel
theorem dX12_laysWhich_117 : decode cX12_laysWhich 117 = .ok (.aload_n 0, 1) := by decide +kernel
theorem dX12_laysWhich_118 : decode cX12_laysWhich 118 = .ok (.getfield 114, 3) := by decide +kernel
theorem dX12_laysWhich_121 : decode cX12_laysWhich 121 = .ok (.iload 5, 2) := by decide +kernel
theorem dX12_laysWhich_123 : decode cX12_laysWhich 123 = .ok (.iaload, 1) := by decide +kernel
theorem dX12_laysWhich_124 : decode cX12_laysWhich 124 = .ok (.istore_n 3, 1) := by decide +kernel
theorem dX12_laysWhich_125 : decode cX12_laysWhich 125 = .ok (.iinc 4 1, 3) := by decide +kernel
theorem dX12_laysWhich_128 : decode cX12_laysWhich 128 = .ok (.goto (-61), 3) := by decide +kernel
theorem dX12_laysWhich_131 : decode cX12_laysWhich 131 = .ok (.iload_n 3, 1) := by decide +kernel
theorem dX12_laysWhich_132 : decode cX12_laysWhich 132 = .ok (.iconst 1, 1) := by decide +kernel
theorem dX12_laysWhich_133 : decode cX12_laysWhich 133 = .ok (.iadd, 1) := by decide +kernel
theorem dX12_laysWhich_134 : decode cX12_laysWhich 134 = .ok (.aload_n 0, 1) := by decide +kernel
theorem dX12_laysWhich_135 : decode cX12_laysWhich 135 = .ok (.getfield 114, 3) := by decide +kernel
theorem dX12_laysWhich_138 : decode cX12_laysWhich 138 = .ok (.iload_n 1, 1) := by decide +kernel
theorem dX12_laysWhich_139 : decode cX12_laysWhich 139 = .ok (.iaload, 1) := by decide +kernel
theorem dX12_laysWhich_140 : decode cX12_laysWhich 140 = .ok (.if_icmp .lt 6, 3) := by decide +kernel
theorem dX12_laysWhich_143 : decode cX12_laysWhich 143 = .ok (.goto 19, 3) := by decide +kernel
theorem dX12_laysWhich_146 : decode cX12_laysWhich 146 = .ok (.aload_n 0, 1) := by decide +kernel
theorem dX12_laysWhich_147 : decode cX12_laysWhich 147 = .ok (.getfield 114, 3) := by decide +kernel
theorem dX12_laysWhich_150 : decode cX12_laysWhich 150 = .ok (.iload_n 1, 1) := by decide +kernel
theorem dX12_laysWhich_151 : decode cX12_laysWhich 151 = .ok (.iload_n 3, 1) := by decide +kernel
theorem dX12_laysWhich_152 : decode cX12_laysWhich 152 = .ok (.iconst 1, 1) := by decide +kernel
theorem dX12_laysWhich_153 : decode cX12_laysWhich 153 = .ok (.iadd, 1) := by decide +kernel
theorem dX12_laysWhich_154 : decode cX12_laysWhich 154 = .ok (.iastore, 1) := by decide +kernel
theorem dX12_laysWhich_155 : decode cX12_laysWhich 155 = .ok (.aload_n 0, 1) := by decide +kernel
theorem dX12_laysWhich_156 : decode cX12_laysWhich 156 = .ok (.getfield 117, 3) := by decide +kernel
theorem dX12_laysWhich_159 : decode cX12_laysWhich 159 = .ok (.iload_n 1, 1) := by decide +kernel
theorem dX12_laysWhich_160 : decode cX12_laysWhich 160 = .ok (.iload_n 2, 1) := by decide +kernel
theorem dX12_laysWhich_161 : decode cX12_laysWhich 161 = .ok (.iastore, 1) := by decide +kernel
theorem dX12_laysWhich_162 : decode cX12_laysWhich 162 = .ok (.iinc 2 1, 3) := by decide +kernel
theorem dX12_laysWhich_165 : decode cX12_laysWhich 165 = .ok (.goto (-117), 3) := by decide +kernel
theorem dX12_laysWhich_168 : decode cX12_laysWhich 168 = .ok (.iinc 1 1, 3) := by decide +kernel
theorem dX12_laysWhich_171 : decode cX12_laysWhich 171 = .ok (.goto (-165), 3) := by decide +kernel
theorem dX12_laysWhich_174 : decode cX12_laysWhich 174 = .ok (.return_, 1) := by decide +kernel
theorem r_X12_laysWhich_168 (E : kr_E) (k_6 : Int32 → kr_M → Option kr_M) (l1 : Int32) (hk_6 : ∀ (x1 : Int32) (M : kr_M), kR kr_vv E Y_X12_laysWhich 4 6 [(0, kr_r E 346), (1, .int x1)] [] M (k_6 x1 M)) (M : kr_M) : kR kr_vv E Y_X12_laysWhich 4 168 [(0, kr_r E 346), (1, .int l1)] [] M (f_X12_laysWhich_168 k_6 l1 M) := by
  rw [f_X12_laysWhich_168]
  refine kr_iinc (j := 1) (v := (l1 + (1 : Int32))) (lv' := [(1, .int (l1 + (1 : Int32))), (0, kr_r E 346)]) dX12_laysWhich_168 rfl rfl (by decide) rfl ?_
  refine kr_goto (tgt := 6) dX12_laysWhich_171 (by decide) ?_
  refine kr_sub [1, 0] rfl ?_
  exact hk_6 (l1 + (1 : Int32)) M
theorem r_X12_laysWhich_162 (E : kr_E) (k_48 : Int32 → kr_M → Option kr_M) (l1 : Int32) (l2 : Int32) (hk_48 : ∀ (x2 : Int32) (M : kr_M), kR kr_vv E Y_X12_laysWhich 4 48 [(0, kr_r E 346), (1, .int l1), (2, .int x2)] [] M (k_48 x2 M)) (M : kr_M) : kR kr_vv E Y_X12_laysWhich 4 162 [(0, kr_r E 346), (1, .int l1), (2, .int l2)] [] M (f_X12_laysWhich_162 k_48 l2 M) := by
  rw [f_X12_laysWhich_162]
  refine kr_iinc (j := 2) (v := (l2 + (1 : Int32))) (lv' := [(2, .int (l2 + (1 : Int32))), (0, kr_r E 346), (1, .int l1)]) dX12_laysWhich_162 rfl rfl (by decide) rfl ?_
  refine kr_goto (tgt := 48) dX12_laysWhich_165 (by decide) ?_
  refine kr_sub [1, 2, 0] rfl ?_
  exact hk_48 (l2 + (1 : Int32)) M
theorem r_X12_laysWhich_131 (E : kr_E) (k_48 : Int32 → kr_M → Option kr_M) (l1 : Int32) (l2 : Int32) (l3 : Int32) (hk_48 : ∀ (x2 : Int32) (M : kr_M), kR kr_vv E Y_X12_laysWhich 4 48 [(0, kr_r E 346), (1, .int l1), (2, .int x2)] [] M (k_48 x2 M)) (M : kr_M) : kR kr_vv E Y_X12_laysWhich 4 131 [(0, kr_r E 346), (1, .int l1), (2, .int l2), (3, .int l3)] [] M (f_X12_laysWhich_131 k_48 l1 l2 l3 M) := by
  rw [f_X12_laysWhich_131]
  refine kr_iload_n dX12_laysWhich_131 rfl 3 rfl ?_
  refine kr_iconst (v := 1) dX12_laysWhich_132 (by decide) ?_
  refine kr_iadd dX12_laysWhich_133 ?_
  refine kr_aload_n dX12_laysWhich_134 rfl 0 rfl ?_
  refine kr_getA (o := 33) (ci := 12) (j := 53) dX12_laysWhich_135 kr_at_346 fl_RX12_114 rfl ?_
  refine kr_iload_n dX12_laysWhich_138 rfl 1 rfl ?_
  refine kr_iald dX12_laysWhich_139 kr_at_379 (fun v1 => ?_)
  refine kr_icmp_lt (tgt := 146) dX12_laysWhich_140 (by decide) ?_ ?_
  · refine kr_aload_n dX12_laysWhich_146 rfl 0 rfl ?_
    refine kr_getA (o := 33) (ci := 12) (j := 53) dX12_laysWhich_147 kr_at_346 fl_RX12_114 rfl ?_
    refine kr_iload_n dX12_laysWhich_150 rfl 1 rfl ?_
    refine kr_iload_n dX12_laysWhich_151 rfl 3 rfl ?_
    refine kr_iconst (v := 1) dX12_laysWhich_152 (by decide) ?_
    refine kr_iadd dX12_laysWhich_153 ?_
    refine kr_iast dX12_laysWhich_154 kr_at_379 (fun M2 => ?_)
    refine kr_aload_n dX12_laysWhich_155 rfl 0 rfl ?_
    refine kr_getA (o := 34) (ci := 12) (j := 54) dX12_laysWhich_156 kr_at_346 fl_RX12_117 rfl ?_
    refine kr_iload_n dX12_laysWhich_159 rfl 1 rfl ?_
    refine kr_iload_n dX12_laysWhich_160 rfl 2 rfl ?_
    refine kr_iast dX12_laysWhich_161 kr_at_380 (fun M3 => ?_)
    refine kr_sub [0, 1, 2] rfl ?_
    exact r_X12_laysWhich_162 E _ l1 l2 hk_48 M3
  · refine kr_goto (tgt := 162) dX12_laysWhich_143 (by decide) ?_
    refine kr_sub [0, 1, 2] rfl ?_
    exact r_X12_laysWhich_162 E _ l1 l2 hk_48 M
theorem r_X12_laysWhich_125 (E : kr_E) (k_67 : Int32 → Int32 → kr_M → Option kr_M) (l1 : Int32) (l2 : Int32) (l3 : Int32) (l4 : Int32) (hk_67 : ∀ (x3 : Int32) (x4 : Int32) (M : kr_M), kR kr_vv E Y_X12_laysWhich 4 67 [(0, kr_r E 346), (1, .int l1), (2, .int l2), (3, .int x3), (4, .int x4)] [] M (k_67 x3 x4 M)) (M : kr_M) : kR kr_vv E Y_X12_laysWhich 4 125 [(0, kr_r E 346), (1, .int l1), (2, .int l2), (3, .int l3), (4, .int l4)] [] M (f_X12_laysWhich_125 k_67 l3 l4 M) := by
  rw [f_X12_laysWhich_125]
  refine kr_iinc (j := 4) (v := (l4 + (1 : Int32))) (lv' := [(4, .int (l4 + (1 : Int32))), (0, kr_r E 346), (1, .int l1), (2, .int l2), (3, .int l3)]) dX12_laysWhich_125 rfl rfl (by decide) rfl ?_
  refine kr_goto (tgt := 67) dX12_laysWhich_128 (by decide) ?_
  refine kr_sub [1, 2, 3, 4, 0] rfl ?_
  exact hk_67 l3 (l4 + (1 : Int32)) M
theorem r_X12_laysWhich_67 (E : kr_E) (k_48 : Int32 → kr_M → Option kr_M) (l1 : Int32) (l2 : Int32) (hk_48 : ∀ (x2 : Int32) (M : kr_M), kR kr_vv E Y_X12_laysWhich 4 48 [(0, kr_r E 346), (1, .int l1), (2, .int x2)] [] M (k_48 x2 M)) : ∀ (n : Nat) (l3 : Int32) (l4 : Int32) (M : kr_M), kR kr_vv E Y_X12_laysWhich 4 67 [(0, kr_r E 346), (1, .int l1), (2, .int l2), (3, .int l3), (4, .int l4)] [] M (f_X12_laysWhich_67 k_48 l1 l2 n l3 l4 M) := by
  intro n
  induction n with
  | zero => intro l3 l4 M; exact kr_none
  | succ n ih =>
    intro l3 l4 M
    rw [f_X12_laysWhich_67]
    refine kr_iload dX12_laysWhich_67 4 rfl ?_
    refine kr_aload_n dX12_laysWhich_69 rfl 0 rfl ?_
    refine kr_getA (o := 7) (ci := 12) (j := 17) dX12_laysWhich_70 kr_at_346 fl_RX12_34 rfl ?_
    refine kr_iconst (v := 3) dX12_laysWhich_73 (by decide) ?_
    refine kr_iald dX12_laysWhich_74 kr_at_353 (fun v1 => ?_)
    refine kr_icmp_ge (tgt := 131) dX12_laysWhich_75 (by decide) ?_ ?_
    · refine kr_sub [0, 1, 2, 3] rfl ?_
      exact r_X12_laysWhich_131 E _ l1 l2 l3 hk_48 M
    · refine kr_aload_n dX12_laysWhich_78 rfl 0 rfl ?_
      refine kr_iload_n dX12_laysWhich_79 rfl 1 rfl ?_
      refine kr_iload_n dX12_laysWhich_80 rfl 2 rfl ?_
      refine kr_iload dX12_laysWhich_81 4 rfl ?_
      refine kr_Vi (As := [.int l1, .int l2, .int l4]) (st := []) zv_X12_having dX12_laysWhich_83 ml_RX12_465 kr_at_346 (r_X12_having E l1 l2 l4 M) rfl rfl (Nat.le_of_ble_eq_true rfl) rfl (by decide) (Nat.le_of_ble_eq_true rfl) (fun r3 M2 => ?_)
      refine kr_istore (lv' := [(5, .int r3), (0, kr_r E 346), (1, .int l1), (2, .int l2), (3, .int l3), (4, .int l4)]) dX12_laysWhich_86 (by decide) rfl ?_
      refine kr_iload dX12_laysWhich_88 0 rfl ?_
      refine kr_iload_n dX12_laysWhich_90 rfl 2 rfl ?_
      refine kr_icmp_ne (tgt := 101) dX12_laysWhich_91 (by decide) ?_ ?_
      · refine kr_iload dX12_laysWhich_101 0 rfl ?_
        refine kr_if_eq (tgt := 125) dX12_laysWhich_103 (by decide) ?_ ?_
        · refine kr_sub [1, 2, 3, 4, 5] rfl ?_
          exact r_X12_laysWhich_125 E _ l1 l2 l3 l4 ih M2
        · refine kr_aload_n dX12_laysWhich_106 rfl 1 rfl ?_
          refine kr_getA (o := 33) (ci := 12) (j := 53) dX12_laysWhich_107 kr_at_346 fl_RX12_114 rfl ?_
          refine kr_iload dX12_laysWhich_110 0 rfl ?_
          refine kr_iald dX12_laysWhich_112 kr_at_379 (fun v4 => ?_)
          refine kr_iload_n dX12_laysWhich_113 rfl 4 rfl ?_
          refine kr_icmp_le (tgt := 125) dX12_laysWhich_114 (by decide) ?_ ?_
          · refine kr_sub [1, 2, 3, 4, 5] rfl ?_
            exact r_X12_laysWhich_125 E _ l1 l2 l3 l4 ih M2
          · refine kr_aload_n dX12_laysWhich_117 rfl 1 rfl ?_
            refine kr_getA (o := 33) (ci := 12) (j := 53) dX12_laysWhich_118 kr_at_346 fl_RX12_114 rfl ?_
            refine kr_iload dX12_laysWhich_121 0 rfl ?_
            refine kr_iald dX12_laysWhich_123 kr_at_379 (fun v5 => ?_)
            refine kr_istore_n (lv' := [(3, .int v5), (5, .int r3), (0, kr_r E 346), (1, .int l1), (2, .int l2), (4, .int l4)]) dX12_laysWhich_124 rfl (by decide) rfl ?_
            refine kr_sub [2, 3, 4, 0, 5] rfl ?_
            exact r_X12_laysWhich_125 E _ l1 l2 v5 l4 ih M2
      · refine kr_ldcw dX12_laysWhich_94 kc_RX12_354 ?_
        refine kr_istore_n (lv' := [(3, .int (100000000 : Int32)), (5, .int r3), (0, kr_r E 346), (1, .int l1), (2, .int l2), (4, .int l4)]) dX12_laysWhich_97 rfl (by decide) rfl ?_
        refine kr_goto (tgt := 125) dX12_laysWhich_98 (by decide) ?_
        refine kr_sub [2, 3, 4, 0, 5] rfl ?_
        exact r_X12_laysWhich_125 E _ l1 l2 (100000000 : Int32) l4 ih M2
theorem r_X12_laysWhich_48 (E : kr_E) (k_6 : Int32 → kr_M → Option kr_M) (l1 : Int32) (hk_6 : ∀ (x1 : Int32) (M : kr_M), kR kr_vv E Y_X12_laysWhich 4 6 [(0, kr_r E 346), (1, .int x1)] [] M (k_6 x1 M)) : ∀ (n : Nat) (l2 : Int32) (M : kr_M), kR kr_vv E Y_X12_laysWhich 4 48 [(0, kr_r E 346), (1, .int l1), (2, .int l2)] [] M (f_X12_laysWhich_48 k_6 l1 n l2 M) := by
  intro n
  induction n with
  | zero => intro l2 M; exact kr_none
  | succ n ih =>
    intro l2 M
    rw [f_X12_laysWhich_48]
    refine kr_iload_n dX12_laysWhich_48 rfl 2 rfl ?_
    refine kr_bipush (v := 24) dX12_laysWhich_49 (by decide) ?_
    refine kr_icmp_ge (tgt := 168) dX12_laysWhich_51 (by decide) ?_ ?_
    · refine kr_sub [0, 1] rfl ?_
      exact r_X12_laysWhich_168 E _ l1 hk_6 M
    · refine kr_iload_n dX12_laysWhich_54 rfl 1 rfl ?_
      refine kr_Si (As := [.int l1]) (st := []) zs_X12_sizeOf dX12_laysWhich_55 ml_RX12_462 (r_X12_sizeOf E l1 M) rfl rfl (Nat.le_of_ble_eq_true rfl) rfl (by decide) (Nat.le_of_ble_eq_true rfl) (fun r2 M1 => ?_)
      refine kr_iconst (v := 1) dX12_laysWhich_58 (by decide) ?_
      refine kr_icmp_le (tgt := 168) dX12_laysWhich_59 (by decide) ?_ ?_
      · refine kr_sub [0, 1] rfl ?_
        exact r_X12_laysWhich_168 E _ l1 hk_6 M1
      · refine kr_iconst (v := 0) dX12_laysWhich_62 (by decide) ?_
        refine kr_istore_n (lv' := [(3, .int (0 : Int32)), (0, kr_r E 346), (1, .int l1), (2, .int l2)]) dX12_laysWhich_63 rfl (by decide) rfl ?_
        refine kr_iconst (v := -1) dX12_laysWhich_64 (by decide) ?_
        refine kr_istore (lv' := [(4, .int (-1 : Int32)), (3, .int (0 : Int32)), (0, kr_r E 346), (1, .int l1), (2, .int l2)]) dX12_laysWhich_65 (by decide) rfl ?_
        refine kr_sub [2, 3, 4, 1, 0] rfl ?_
        exact r_X12_laysWhich_67 E _ l1 l2 ih _ (0 : Int32) (-1 : Int32) M1
theorem r_X12_laysWhich_38 (E : kr_E) (k_6 : Int32 → kr_M → Option kr_M) (l1 : Int32) (s0 : Int32) (s1 : Int32) (hk_6 : ∀ (x1 : Int32) (M : kr_M), kR kr_vv E Y_X12_laysWhich 4 6 [(0, kr_r E 346), (1, .int x1)] [] M (k_6 x1 M)) (M : kr_M) : kR kr_vv E Y_X12_laysWhich 4 38 [(0, kr_r E 346), (1, .int l1)] [.int s0, .int s1, kr_r E 379] M (f_X12_laysWhich_38 k_6 l1 s0 s1 M) := by
  rw [f_X12_laysWhich_38]
  refine kr_iast dX12_laysWhich_38 kr_at_379 (fun M1 => ?_)
  refine kr_aload_n dX12_laysWhich_39 rfl 0 rfl ?_
  refine kr_getA (o := 34) (ci := 12) (j := 54) dX12_laysWhich_40 kr_at_346 fl_RX12_117 rfl ?_
  refine kr_iload_n dX12_laysWhich_43 rfl 1 rfl ?_
  refine kr_iconst (v := -1) dX12_laysWhich_44 (by decide) ?_
  refine kr_iast dX12_laysWhich_45 kr_at_380 (fun M2 => ?_)
  refine kr_iconst (v := 0) dX12_laysWhich_46 (by decide) ?_
  refine kr_istore_n (lv' := [(2, .int (0 : Int32)), (0, kr_r E 346), (1, .int l1)]) dX12_laysWhich_47 rfl (by decide) rfl ?_
  refine kr_sub [1, 2, 0] rfl ?_
  exact r_X12_laysWhich_48 E _ l1 hk_6 _ (0 : Int32) M2
theorem r_X12_laysWhich_6 (E : kr_E)    : ∀ (n : Nat) (l1 : Int32) (M : kr_M), kR kr_vv E Y_X12_laysWhich 4 6 [(0, kr_r E 346), (1, .int l1)] [] M (f_X12_laysWhich_6 n l1 M) := by
  intro n
  induction n with
  | zero => intro l1 M; exact kr_none
  | succ n ih =>
    intro l1 M
    rw [f_X12_laysWhich_6]
    refine kr_iload_n dX12_laysWhich_6 rfl 1 rfl ?_
    refine kr_iconst (v := 1) dX12_laysWhich_7 (by decide) ?_
    refine kr_aload_n dX12_laysWhich_8 rfl 0 rfl ?_
    refine kr_getA (o := 7) (ci := 12) (j := 17) dX12_laysWhich_9 kr_at_346 fl_RX12_34 rfl ?_
    refine kr_iconst (v := 5) dX12_laysWhich_12 (by decide) ?_
    refine kr_iald dX12_laysWhich_13 kr_at_353 (fun v1 => ?_)
    refine kr_ishl dX12_laysWhich_14 ?_
    refine kr_icmp_ge (tgt := 174) dX12_laysWhich_15 (by decide) ?_ ?_
    · exact kr_vret dX12_laysWhich_174 rfl
    · refine kr_aload_n dX12_laysWhich_18 rfl 0 rfl ?_
      refine kr_getA (o := 33) (ci := 12) (j := 53) dX12_laysWhich_19 kr_at_346 fl_RX12_114 rfl ?_
      refine kr_iload_n dX12_laysWhich_22 rfl 1 rfl ?_
      refine kr_iload_n dX12_laysWhich_23 rfl 1 rfl ?_
      refine kr_Si (As := [.int l1]) (st := [.int l1, kr_r E 379]) zs_X12_sizeOf dX12_laysWhich_24 ml_RX12_462 (r_X12_sizeOf E l1 M) rfl rfl (Nat.le_of_ble_eq_true rfl) rfl (by decide) (Nat.le_of_ble_eq_true rfl) (fun r3 M2 => ?_)
      refine kr_iconst (v := 1) dX12_laysWhich_27 (by decide) ?_
      refine kr_icmp_ne (tgt := 35) dX12_laysWhich_28 (by decide) ?_ ?_
      · refine kr_ldcw dX12_laysWhich_35 kc_RX12_354 ?_
        refine kr_sub [0, 1] rfl ?_
        exact r_X12_laysWhich_38 E _ l1 (100000000 : Int32) l1 ih M2
      · refine kr_iconst (v := 0) dX12_laysWhich_31 (by decide) ?_
        refine kr_goto (tgt := 38) dX12_laysWhich_32 (by decide) ?_
        refine kr_sub [0, 1] rfl ?_
        exact r_X12_laysWhich_38 E _ l1 (0 : Int32) l1 ih M2
theorem r_X12_laysWhich (E : kr_E)  (M : kr_M) : kR kr_vv E Y_X12_laysWhich 4 0 [(0, kr_r E 346)] [] M (f_X12_laysWhich M) := by
  rw [f_X12_laysWhich]
  refine kr_aload_n dX12_laysWhich_0 rfl 0 rfl ?_
  refine kr_Vv (As := []) (st := []) zv_X12_lays dX12_laysWhich_1 ml_RX12_337 kr_at_346 (r_X12_lays E  M) rfl rfl (Nat.le_of_ble_eq_true rfl) rfl (by decide) (Nat.le_of_ble_eq_true rfl) (fun M1 => ?_)
  refine kr_iconst (v := 1) dX12_laysWhich_4 (by decide) ?_
  refine kr_istore_n (lv' := [(1, .int (1 : Int32)), (0, kr_r E 346)]) dX12_laysWhich_5 rfl (by decide) rfl ?_
  refine kr_sub [1, 0] rfl ?_
  exact r_X12_laysWhich_6 E _ (1 : Int32) M1
theorem dX12_isSet_0 : decode cX12_isSet 0 = .ok (.aload_n 0, 1) := by decide +kernel
theorem dX12_isSet_1 : decode cX12_isSet 1 = .ok (.invokevirtual 381, 3) := by decide +kernel
theorem dX12_isSet_4 : decode cX12_isSet 4 = .ok (.ifCond .eq 27, 3) := by decide +kernel
theorem dX12_isSet_7 : decode cX12_isSet 7 = .ok (.iload_n 1, 1) := by decide +kernel
theorem dX12_isSet_8 : decode cX12_isSet 8 = .ok (.i2l, 1) := by decide +kernel
theorem dX12_isSet_9 : decode cX12_isSet 9 = .ok (.lconst 1, 1) := by decide +kernel
theorem dX12_isSet_10 : decode cX12_isSet 10 = .ok (.iconst 1, 1) := by decide +kernel
theorem dX12_isSet_11 : decode cX12_isSet 11 = .ok (.aload_n 0, 1) := by decide +kernel
theorem dX12_isSet_12 : decode cX12_isSet 12 = .ok (.getfield 34, 3) := by decide +kernel
theorem dX12_isSet_15 : decode cX12_isSet 15 = .ok (.iconst 5, 1) := by decide +kernel
theorem dX12_isSet_16 : decode cX12_isSet 16 = .ok (.iaload, 1) := by decide +kernel
theorem dX12_isSet_17 : decode cX12_isSet 17 = .ok (.ishl, 1) := by decide +kernel
theorem dX12_isSet_18 : decode cX12_isSet 18 = .ok (.iconst 1, 1) := by decide +kernel
theorem dX12_isSet_19 : decode cX12_isSet 19 = .ok (.isub, 1) := by decide +kernel
theorem dX12_isSet_20 : decode cX12_isSet 20 = .ok (.i2l, 1) := by decide +kernel
theorem dX12_isSet_21 : decode cX12_isSet 21 = .ok (.invokestatic 143, 3) := by decide +kernel
theorem dX12_isSet_24 : decode cX12_isSet 24 = .ok (.ifCond .eq 7, 3) := by decide +kernel
theorem dX12_isSet_27 : decode cX12_isSet 27 = .ok (.iconst 1, 1) := by decide +kernel
theorem dX12_isSet_28 : decode cX12_isSet 28 = .ok (.goto 4, 3) := by decide +kernel
theorem dX12_isSet_31 : decode cX12_isSet 31 = .ok (.iconst 0, 1) := by decide +kernel
theorem dX12_isSet_32 : decode cX12_isSet 32 = .ok (.ireturn, 1) := by decide +kernel
theorem r_X12_isSet (E : kr_E) (p1 : Int32) (M : kr_M) : kR kr_vi E Y_X12_isSet 2 0 [(0, kr_r E 346), (1, .int p1)] [] M (f_X12_isSet p1 M) := by
  rw [f_X12_isSet]
  refine kr_aload_n dX12_isSet_0 rfl 0 rfl ?_
  refine kr_Vi (As := []) (st := []) zv_X12_isGorge dX12_isSet_1 ml_RX12_381 kr_at_346 (r_X12_isGorge E  M) rfl rfl (Nat.le_of_ble_eq_true rfl) rfl (by decide) (Nat.le_of_ble_eq_true rfl) (fun r2 M1 => ?_)
  refine kr_if_eq (tgt := 31) dX12_isSet_4 (by decide) ?_ ?_
  · refine kr_iconst (v := 0) dX12_isSet_31 (by decide) ?_
    exact kr_zret1 dX12_isSet_32 rfl rfl
  · refine kr_iload_n dX12_isSet_7 rfl 1 rfl ?_
    refine kr_i2l dX12_isSet_8 ?_
    refine kr_lconst (v := 1) dX12_isSet_9 (by decide) ?_
    refine kr_iconst (v := 1) dX12_isSet_10 (by decide) ?_
    refine kr_aload_n dX12_isSet_11 rfl 0 rfl ?_
    refine kr_getA (o := 7) (ci := 12) (j := 17) dX12_isSet_12 kr_at_346 fl_RX12_34 rfl ?_
    refine kr_iconst (v := 5) dX12_isSet_15 (by decide) ?_
    refine kr_iald dX12_isSet_16 kr_at_353 (fun v3 => ?_)
    refine kr_ishl dX12_isSet_17 ?_
    refine kr_iconst (v := 1) dX12_isSet_18 (by decide) ?_
    refine kr_isub dX12_isSet_19 ?_
    refine kr_i2l dX12_isSet_20 ?_
    refine kr_Si (As := [.long (p1.toInt64), .long (1 : Int64), .long ((((1 : Int32) <<< (v3 &&& 31)) - (1 : Int32)).toInt64)]) (st := []) zs_X12_in dX12_isSet_21 ml_RX12_143 (r_X12_in E (p1.toInt64) (1 : Int64) ((((1 : Int32) <<< (v3 &&& 31)) - (1 : Int32)).toInt64) M1) rfl rfl (Nat.le_of_ble_eq_true rfl) rfl (by decide) (Nat.le_of_ble_eq_true rfl) (fun r5 M4 => ?_)
    refine kr_if_eq (tgt := 31) dX12_isSet_24 (by decide) ?_ ?_
    · refine kr_iconst (v := 0) dX12_isSet_31 (by decide) ?_
      exact kr_zret1 dX12_isSet_32 rfl rfl
    · refine kr_iconst (v := 1) dX12_isSet_27 (by decide) ?_
      refine kr_goto (tgt := 32) dX12_isSet_28 (by decide) ?_
      exact kr_zret1 dX12_isSet_32 rfl rfl
theorem dX12_which_0 : decode cX12_which 0 = .ok (.aload_n 0, 1) := by decide +kernel
theorem dX12_which_1 : decode cX12_which 1 = .ok (.iconst 0, 1) := by decide +kernel
theorem dX12_which_2 : decode cX12_which 2 = .ok (.putfield 138, 3) := by decide +kernel
theorem dX12_which_5 : decode cX12_which 5 = .ok (.aload_n 0, 1) := by decide +kernel
theorem dX12_which_6 : decode cX12_which 6 = .ok (.iload_n 1, 1) := by decide +kernel
theorem dX12_which_7 : decode cX12_which 7 = .ok (.invokevirtual 469, 3) := by decide +kernel
theorem dX12_which_10 : decode cX12_which 10 = .ok (.ifCond .ne 6, 3) := by decide +kernel
theorem dX12_which_13 : decode cX12_which 13 = .ok (.bipush (-2), 2) := by decide +kernel
theorem dX12_which_15 : decode cX12_which 15 = .ok (.ireturn, 1) := by decide +kernel
theorem dX12_which_16 : decode cX12_which 16 = .ok (.aload_n 0, 1) := by decide +kernel
theorem dX12_which_17 : decode cX12_which 17 = .ok (.invokevirtual 472, 3) := by decide +kernel
theorem dX12_which_20 : decode cX12_which 20 = .ok (.aload_n 0, 1) := by decide +kernel
theorem dX12_which_21 : decode cX12_which 21 = .ok (.getfield 114, 3) := by decide +kernel
theorem dX12_which_24 : decode cX12_which 24 = .ok (.iload_n 1, 1) := by decide +kernel
theorem dX12_which_25 : decode cX12_which 25 = .ok (.iaload, 1) := by decide +kernel
theorem dX12_which_26 : decode cX12_which 26 = .ok (.ldc_w 354, 3) := by decide +kernel
theorem dX12_which_29 : decode cX12_which 29 = .ok (.if_icmp .lt 7, 3) := by decide +kernel
theorem dX12_which_32 : decode cX12_which 32 = .ok (.iconst (-1), 1) := by decide +kernel
theorem dX12_which_33 : decode cX12_which 33 = .ok (.goto 9, 3) := by decide +kernel
theorem dX12_which_36 : decode cX12_which 36 = .ok (.aload_n 0, 1) := by decide +kernel
theorem dX12_which_37 : decode cX12_which 37 = .ok (.getfield 114, 3) := by decide +kernel
theorem dX12_which_40 : decode cX12_which 40 = .ok (.iload_n 1, 1) := by decide +kernel
theorem dX12_which_41 : decode cX12_which 41 = .ok (.iaload, 1) := by decide +kernel
theorem dX12_which_42 : decode cX12_which 42 = .ok (.ireturn, 1) := by decide +kernel
theorem r_X12_which (E : kr_E) (p1 : Int32) (M : kr_M) : kR kr_vi E Y_X12_which 5 0 [(0, kr_r E 346), (1, .int p1)] [] M (f_X12_which p1 M) := by
  rw [f_X12_which]
  refine kr_aload_n dX12_which_0 rfl 0 rfl ?_
  refine kr_iconst (v := 0) dX12_which_1 (by decide) ?_
  refine kr_putI (ci := 12) (j := 0) dX12_which_2 kr_at_346 fl_RX12_138 rfl rfl (fun M1 => ?_)
  refine kr_aload_n dX12_which_5 rfl 0 rfl ?_
  refine kr_iload_n dX12_which_6 rfl 1 rfl ?_
  refine kr_Vi (As := [.int p1]) (st := []) zv_X12_isSet dX12_which_7 ml_RX12_469 kr_at_346 (r_X12_isSet E p1 M1) rfl rfl (Nat.le_of_ble_eq_true rfl) rfl (by decide) (Nat.le_of_ble_eq_true rfl) (fun r3 M2 => ?_)
  refine kr_if_ne (tgt := 16) dX12_which_10 (by decide) ?_ ?_
  · refine kr_aload_n dX12_which_16 rfl 0 rfl ?_
    refine kr_Vv (As := []) (st := []) zv_X12_laysWhich dX12_which_17 ml_RX12_472 kr_at_346 (r_X12_laysWhich E  M2) rfl rfl (Nat.le_of_ble_eq_true rfl) rfl (by decide) (Nat.le_of_ble_eq_true rfl) (fun M4 => ?_)
    refine kr_aload_n dX12_which_20 rfl 0 rfl ?_
    refine kr_getA (o := 33) (ci := 12) (j := 53) dX12_which_21 kr_at_346 fl_RX12_114 rfl ?_
    refine kr_iload_n dX12_which_24 rfl 1 rfl ?_
    refine kr_iald dX12_which_25 kr_at_379 (fun v6 => ?_)
    refine kr_ldcw dX12_which_26 kc_RX12_354 ?_
    refine kr_icmp_lt (tgt := 36) dX12_which_29 (by decide) ?_ ?_
    · refine kr_aload_n dX12_which_36 rfl 0 rfl ?_
      refine kr_getA (o := 33) (ci := 12) (j := 53) dX12_which_37 kr_at_346 fl_RX12_114 rfl ?_
      refine kr_iload_n dX12_which_40 rfl 1 rfl ?_
      refine kr_iald dX12_which_41 kr_at_379 (fun v7 => ?_)
      exact kr_iret dX12_which_42 rfl
    · refine kr_iconst (v := -1) dX12_which_32 (by decide) ?_
      refine kr_goto (tgt := 42) dX12_which_33 (by decide) ?_
      exact kr_iret dX12_which_42 rfl
  · refine kr_bipush (v := -2) dX12_which_13 (by decide) ?_
    exact kr_iret dX12_which_15 rfl
theorem dX12_feels_0 : decode cX12_feels 0 = .ok (.aload_n 0, 1) := by decide +kernel
theorem dX12_feels_1 : decode cX12_feels 1 = .ok (.iconst 0, 1) := by decide +kernel
theorem dX12_feels_2 : decode cX12_feels 2 = .ok (.putfield 138, 3) := by decide +kernel
theorem dX12_feels_5 : decode cX12_feels 5 = .ok (.aload_n 0, 1) := by decide +kernel
theorem dX12_feels_6 : decode cX12_feels 6 = .ok (.iload_n 1, 1) := by decide +kernel
theorem dX12_feels_7 : decode cX12_feels 7 = .ok (.invokevirtual 469, 3) := by decide +kernel
theorem dX12_feels_10 : decode cX12_feels 10 = .ok (.ifCond .ne 6, 3) := by decide +kernel
theorem dX12_feels_13 : decode cX12_feels 13 = .ok (.bipush (-2), 2) := by decide +kernel
theorem dX12_feels_15 : decode cX12_feels 15 = .ok (.ireturn, 1) := by decide +kernel
theorem dX12_feels_16 : decode cX12_feels 16 = .ok (.aload_n 0, 1) := by decide +kernel
theorem dX12_feels_17 : decode cX12_feels 17 = .ok (.invokevirtual 472, 3) := by decide +kernel
theorem dX12_feels_20 : decode cX12_feels 20 = .ok (.aload_n 0, 1) := by decide +kernel
theorem dX12_feels_21 : decode cX12_feels 21 = .ok (.getfield 114, 3) := by decide +kernel
theorem dX12_feels_24 : decode cX12_feels 24 = .ok (.iload_n 1, 1) := by decide +kernel
theorem dX12_feels_25 : decode cX12_feels 25 = .ok (.iaload, 1) := by decide +kernel
theorem dX12_feels_26 : decode cX12_feels 26 = .ok (.ldc_w 354, 3) := by decide +kernel
theorem dX12_feels_29 : decode cX12_feels 29 = .ok (.if_icmp .lt 7, 3) := by decide +kernel
theorem dX12_feels_32 : decode cX12_feels 32 = .ok (.iconst (-1), 1) := by decide +kernel
theorem dX12_feels_33 : decode cX12_feels 33 = .ok (.goto 9, 3) := by decide +kernel
theorem dX12_feels_36 : decode cX12_feels 36 = .ok (.aload_n 0, 1) := by decide +kernel
theorem dX12_feels_37 : decode cX12_feels 37 = .ok (.getfield 117, 3) := by decide +kernel
theorem dX12_feels_40 : decode cX12_feels 40 = .ok (.iload_n 1, 1) := by decide +kernel
theorem dX12_feels_41 : decode cX12_feels 41 = .ok (.iaload, 1) := by decide +kernel
theorem dX12_feels_42 : decode cX12_feels 42 = .ok (.ireturn, 1) := by decide +kernel
theorem r_X12_feels (E : kr_E) (p1 : Int32) (M : kr_M) : kR kr_vi E Y_X12_feels 5 0 [(0, kr_r E 346), (1, .int p1)] [] M (f_X12_feels p1 M) := by
  rw [f_X12_feels]
  refine kr_aload_n dX12_feels_0 rfl 0 rfl ?_
  refine kr_iconst (v := 0) dX12_feels_1 (by decide) ?_
  refine kr_putI (ci := 12) (j := 0) dX12_feels_2 kr_at_346 fl_RX12_138 rfl rfl (fun M1 => ?_)
  refine kr_aload_n dX12_feels_5 rfl 0 rfl ?_
  refine kr_iload_n dX12_feels_6 rfl 1 rfl ?_
  refine kr_Vi (As := [.int p1]) (st := []) zv_X12_isSet dX12_feels_7 ml_RX12_469 kr_at_346 (r_X12_isSet E p1 M1) rfl rfl (Nat.le_of_ble_eq_true rfl) rfl (by decide) (Nat.le_of_ble_eq_true rfl) (fun r3 M2 => ?_)
  refine kr_if_ne (tgt := 16) dX12_feels_10 (by decide) ?_ ?_
  · refine kr_aload_n dX12_feels_16 rfl 0 rfl ?_
    refine kr_Vv (As := []) (st := []) zv_X12_laysWhich dX12_feels_17 ml_RX12_472 kr_at_346 (r_X12_laysWhich E  M2) rfl rfl (Nat.le_of_ble_eq_true rfl) rfl (by decide) (Nat.le_of_ble_eq_true rfl) (fun M4 => ?_)
    refine kr_aload_n dX12_feels_20 rfl 0 rfl ?_
    refine kr_getA (o := 33) (ci := 12) (j := 53) dX12_feels_21 kr_at_346 fl_RX12_114 rfl ?_
    refine kr_iload_n dX12_feels_24 rfl 1 rfl ?_
    refine kr_iald dX12_feels_25 kr_at_379 (fun v6 => ?_)
    refine kr_ldcw dX12_feels_26 kc_RX12_354 ?_
    refine kr_icmp_lt (tgt := 36) dX12_feels_29 (by decide) ?_ ?_
    · refine kr_aload_n dX12_feels_36 rfl 0 rfl ?_
      refine kr_getA (o := 34) (ci := 12) (j := 54) dX12_feels_37 kr_at_346 fl_RX12_117 rfl ?_
      refine kr_iload_n dX12_feels_40 rfl 1 rfl ?_
      refine kr_iald dX12_feels_41 kr_at_380 (fun v7 => ?_)
      exact kr_iret dX12_feels_42 rfl
    · refine kr_iconst (v := -1) dX12_feels_32 (by decide) ?_
      refine kr_goto (tgt := 42) dX12_feels_33 (by decide) ?_
      exact kr_iret dX12_feels_42 rfl
  · refine kr_bipush (v := -2) dX12_feels_13 (by decide) ?_
    exact kr_iret dX12_feels_15 rfl
theorem dX12_isEnd_0 : decode cX12_isEnd 0 = .ok (.aload_n 0, 1) := by decide +kernel
theorem dX12_isEnd_1 : decode cX12_isEnd 1 = .ok (.getfield 52, 3) := by decide +kernel
theorem dX12_isEnd_4 : decode cX12_isEnd 4 = .ok (.iconst 4, 1) := by decide +kernel
theorem dX12_isEnd_5 : decode cX12_isEnd 5 = .ok (.iload_n 1, 1) := by decide +kernel
theorem dX12_isEnd_6 : decode cX12_isEnd 6 = .ok (.imul, 1) := by decide +kernel
theorem dX12_isEnd_7 : decode cX12_isEnd 7 = .ok (.iaload, 1) := by decide +kernel
theorem dX12_isEnd_8 : decode cX12_isEnd 8 = .ok (.iload_n 2, 1) := by decide +kernel
theorem dX12_isEnd_9 : decode cX12_isEnd 9 = .ok (.if_icmp .eq 17, 3) := by decide +kernel
theorem dX12_isEnd_12 : decode cX12_isEnd 12 = .ok (.aload_n 0, 1) := by decide +kernel
theorem dX12_isEnd_13 : decode cX12_isEnd 13 = .ok (.getfield 52, 3) := by decide +kernel
theorem dX12_isEnd_16 : decode cX12_isEnd 16 = .ok (.iconst 4, 1) := by decide +kernel
theorem dX12_isEnd_17 : decode cX12_isEnd 17 = .ok (.iload_n 1, 1) := by decide +kernel
theorem dX12_isEnd_18 : decode cX12_isEnd 18 = .ok (.imul, 1) := by decide +kernel
theorem dX12_isEnd_19 : decode cX12_isEnd 19 = .ok (.iconst 1, 1) := by decide +kernel
theorem dX12_isEnd_20 : decode cX12_isEnd 20 = .ok (.iadd, 1) := by decide +kernel
theorem dX12_isEnd_21 : decode cX12_isEnd 21 = .ok (.iaload, 1) := by decide +kernel
theorem dX12_isEnd_22 : decode cX12_isEnd 22 = .ok (.iload_n 2, 1) := by decide +kernel
theorem dX12_isEnd_23 : decode cX12_isEnd 23 = .ok (.if_icmp .ne 7, 3) := by decide +kernel
theorem dX12_isEnd_26 : decode cX12_isEnd 26 = .ok (.iconst 1, 1) := by decide +kernel
theorem dX12_isEnd_27 : decode cX12_isEnd 27 = .ok (.goto 4, 3) := by decide +kernel
theorem dX12_isEnd_30 : decode cX12_isEnd 30 = .ok (.iconst 0, 1) := by decide +kernel
theorem dX12_isEnd_31 : decode cX12_isEnd 31 = .ok (.ireturn, 1) := by decide +kernel
theorem r_X12_isEnd_26 (E : kr_E)    (M : kr_M) : kR kr_vi E Y_X12_isEnd 1 26 [] [] M (f_X12_isEnd_26 M) := by
  rw [f_X12_isEnd_26]
  refine kr_iconst (v := 1) dX12_isEnd_26 (by decide) ?_
  refine kr_goto (tgt := 31) dX12_isEnd_27 (by decide) ?_
  exact kr_zret1 dX12_isEnd_31 rfl rfl
theorem r_X12_isEnd (E : kr_E) (p1 : Int32) (p2 : Int32) (M : kr_M) : kR kr_vi E Y_X12_isEnd 1 0 [(0, kr_r E 346), (1, .int p1), (2, .int p2)] [] M (f_X12_isEnd p1 p2 M) := by
  rw [f_X12_isEnd]
  refine kr_aload_n dX12_isEnd_0 rfl 0 rfl ?_
  refine kr_getA (o := 13) (ci := 12) (j := 23) dX12_isEnd_1 kr_at_346 fl_RX12_52 rfl ?_
  refine kr_iconst (v := 4) dX12_isEnd_4 (by decide) ?_
  refine kr_iload_n dX12_isEnd_5 rfl 1 rfl ?_
  refine kr_imul dX12_isEnd_6 ?_
  refine kr_iald dX12_isEnd_7 kr_at_359 (fun v1 => ?_)
  refine kr_iload_n dX12_isEnd_8 rfl 2 rfl ?_
  refine kr_icmp_eq (tgt := 26) dX12_isEnd_9 (by decide) ?_ ?_
  · refine kr_sub [] rfl ?_
    exact r_X12_isEnd_26 E M
  · refine kr_aload_n dX12_isEnd_12 rfl 0 rfl ?_
    refine kr_getA (o := 13) (ci := 12) (j := 23) dX12_isEnd_13 kr_at_346 fl_RX12_52 rfl ?_
    refine kr_iconst (v := 4) dX12_isEnd_16 (by decide) ?_
    refine kr_iload_n dX12_isEnd_17 rfl 1 rfl ?_
    refine kr_imul dX12_isEnd_18 ?_
    refine kr_iconst (v := 1) dX12_isEnd_19 (by decide) ?_
    refine kr_iadd dX12_isEnd_20 ?_
    refine kr_iald dX12_isEnd_21 kr_at_359 (fun v2 => ?_)
    refine kr_iload_n dX12_isEnd_22 rfl 2 rfl ?_
    refine kr_icmp_ne (tgt := 30) dX12_isEnd_23 (by decide) ?_ ?_
    · refine kr_iconst (v := 0) dX12_isEnd_30 (by decide) ?_
      exact kr_zret1 dX12_isEnd_31 rfl rfl
    · refine kr_sub [] rfl ?_
      exact r_X12_isEnd_26 E M
theorem dX12_bearsIt_0 : decode cX12_bearsIt 0 = .ok (.iload_n 2, 1) := by decide +kernel
theorem dX12_bearsIt_1 : decode cX12_bearsIt 1 = .ok (.aload_n 0, 1) := by decide +kernel
theorem dX12_bearsIt_2 : decode cX12_bearsIt 2 = .ok (.iload_n 1, 1) := by decide +kernel
theorem dX12_bearsIt_3 : decode cX12_bearsIt 3 = .ok (.invokevirtual 343, 3) := by decide +kernel
theorem dX12_bearsIt_6 : decode cX12_bearsIt 6 = .ok (.if_icmp .gt 7, 3) := by decide +kernel
theorem dX12_bearsIt_9 : decode cX12_bearsIt 9 = .ok (.iconst 1, 1) := by decide +kernel
theorem dX12_bearsIt_10 : decode cX12_bearsIt 10 = .ok (.goto 4, 3) := by decide +kernel
theorem dX12_bearsIt_13 : decode cX12_bearsIt 13 = .ok (.iconst 0, 1) := by decide +kernel
theorem dX12_bearsIt_14 : decode cX12_bearsIt 14 = .ok (.ireturn, 1) := by decide +kernel
theorem r_X12_bearsIt (E : kr_E) (p1 : Int32) (p2 : Int32) (M : kr_M) : kR kr_vi E Y_X12_bearsIt 2 0 [(0, kr_r E 346), (1, .int p1), (2, .int p2)] [] M (f_X12_bearsIt p1 p2 M) := by
  rw [f_X12_bearsIt]
  refine kr_iload_n dX12_bearsIt_0 rfl 2 rfl ?_
  refine kr_aload_n dX12_bearsIt_1 rfl 0 rfl ?_
  refine kr_iload_n dX12_bearsIt_2 rfl 1 rfl ?_
  refine kr_Vi (As := [.int p1]) (st := [.int p2]) zv_X12_strengthOf dX12_bearsIt_3 ml_RX12_343 kr_at_346 (r_X12_strengthOf E p1 M) rfl rfl (Nat.le_of_ble_eq_true rfl) rfl (by decide) (Nat.le_of_ble_eq_true rfl) (fun r2 M1 => ?_)
  refine kr_icmp_gt (tgt := 13) dX12_bearsIt_6 (by decide) ?_ ?_
  · refine kr_iconst (v := 0) dX12_bearsIt_13 (by decide) ?_
    exact kr_zret1 dX12_bearsIt_14 rfl rfl
  · refine kr_iconst (v := 1) dX12_bearsIt_9 (by decide) ?_
    refine kr_goto (tgt := 14) dX12_bearsIt_10 (by decide) ?_
    exact kr_zret1 dX12_bearsIt_14 rfl rfl
theorem dX12_laysTimes_0 : decode cX12_laysTimes 0 = .ok (.iconst 0, 1) := by decide +kernel
theorem dX12_laysTimes_1 : decode cX12_laysTimes 1 = .ok (.istore 4, 2) := by decide +kernel
theorem dX12_laysTimes_3 : decode cX12_laysTimes 3 = .ok (.iload 4, 2) := by decide +kernel
theorem dX12_laysTimes_5 : decode cX12_laysTimes 5 = .ok (.bipush 6, 2) := by decide +kernel
theorem dX12_laysTimes_7 : decode cX12_laysTimes 7 = .ok (.if_icmp .ge 29, 3) := by decide +kernel
theorem dX12_laysTimes_10 : decode cX12_laysTimes 10 = .ok (.aload_n 0, 1) := by decide +kernel
theorem dX12_laysTimes_11 : decode cX12_laysTimes 11 = .ok (.getfield 120, 3) := by decide +kernel
theorem dX12_laysTimes_14 : decode cX12_laysTimes 14 = .ok (.iload 4, 2) := by decide +kernel
theorem dX12_laysTimes_16 : decode cX12_laysTimes 16 = .ok (.iload 4, 2) := by decide +kernel
theorem dX12_laysTimes_18 : decode cX12_laysTimes 18 = .ok (.iload_n 2, 1) := by decide +kernel
theorem dX12_laysTimes_19 : decode cX12_laysTimes 19 = .ok (.if_icmp .ne 7, 3) := by decide +kernel
theorem dX12_laysTimes_22 : decode cX12_laysTimes 22 = .ok (.iconst 0, 1) := by decide +kernel
theorem dX12_laysTimes_23 : decode cX12_laysTimes 23 = .ok (.goto 6, 3) := by decide +kernel
theorem dX12_laysTimes_26 : decode cX12_laysTimes 26 = .ok (.ldc_w 354, 3) := by decide +kernel
theorem dX12_laysTimes_29 : decode cX12_laysTimes 29 = .ok (.iastore, 1) := by decide +kernel
theorem dX12_laysTimes_30 : decode cX12_laysTimes 30 = .ok (.iinc 4 1, 3) := by decide +kernel
theorem dX12_laysTimes_33 : decode cX12_laysTimes 33 = .ok (.goto (-30), 3) := by decide +kernel
theorem dX12_laysTimes_36 : decode cX12_laysTimes 36 = .ok (.iconst 1, 1) := by decide +kernel
theorem dX12_laysTimes_37 : decode cX12_laysTimes 37 = .ok (.istore 4, 2) := by decide +kernel
theorem dX12_laysTimes_39 : decode cX12_laysTimes 39 = .ok (.iload 4, 2) := by decide +kernel
theorem dX12_laysTimes_41 : decode cX12_laysTimes 41 = .ok (.ifCond .eq 162, 3) := by decide +kernel
theorem dX12_laysTimes_44 : decode cX12_laysTimes 44 = .ok (.iconst 0, 1) := by decide +kernel
theorem dX12_laysTimes_45 : decode cX12_laysTimes 45 = .ok (.istore 4, 2) := by decide +kernel
theorem dX12_laysTimes_47 : decode cX12_laysTimes 47 = .ok (.iconst 0, 1) := by decide +kernel
theorem dX12_laysTimes_48 : decode cX12_laysTimes 48 = .ok (.istore 5, 2) := by decide +kernel
theorem dX12_laysTimes_50 : decode cX12_laysTimes 50 = .ok (.iload 5, 2) := by decide +kernel
theorem dX12_laysTimes_52 : decode cX12_laysTimes 52 = .ok (.aload_n 0, 1) := by decide +kernel
theorem dX12_laysTimes_53 : decode cX12_laysTimes 53 = .ok (.getfield 34, 3) := by decide +kernel
theorem dX12_laysTimes_56 : decode cX12_laysTimes 56 = .ok (.iconst 5, 1) := by decide +kernel
theorem dX12_laysTimes_57 : decode cX12_laysTimes 57 = .ok (.iaload, 1) := by decide +kernel
theorem dX12_laysTimes_58 : decode cX12_laysTimes 58 = .ok (.if_icmp .ge 142, 3) := by decide +kernel
theorem dX12_laysTimes_61 : decode cX12_laysTimes 61 = .ok (.iload 5, 2) := by decide +kernel
theorem dX12_laysTimes_63 : decode cX12_laysTimes 63 = .ok (.iload_n 3, 1) := by decide +kernel
theorem dX12_laysTimes_64 : decode cX12_laysTimes 64 = .ok (.if_icmp .eq 130, 3) := by decide +kernel
theorem dX12_laysTimes_67 : decode cX12_laysTimes 67 = .ok (.aload_n 0, 1) := by decide +kernel
theorem dX12_laysTimes_68 : decode cX12_laysTimes 68 = .ok (.iload 5, 2) := by decide +kernel
theorem dX12_laysTimes_70 : decode cX12_laysTimes 70 = .ok (.aload_n 0, 1) := by decide +kernel
theorem dX12_laysTimes_71 : decode cX12_laysTimes 71 = .ok (.getfield 58, 3) := by decide +kernel
theorem dX12_laysTimes_74 : decode cX12_laysTimes 74 = .ok (.iconst 3, 1) := by decide +kernel
theorem dX12_laysTimes_75 : decode cX12_laysTimes 75 = .ok (.iload_n 1, 1) := by decide +kernel
theorem dX12_laysTimes_76 : decode cX12_laysTimes 76 = .ok (.imul, 1) := by decide +kernel
theorem dX12_laysTimes_77 : decode cX12_laysTimes 77 = .ok (.iaload, 1) := by decide +kernel
theorem dX12_laysTimes_78 : decode cX12_laysTimes 78 = .ok (.invokevirtual 475, 3) := by decide +kernel
theorem dX12_laysTimes_81 : decode cX12_laysTimes 81 = .ok (.ifCond .ne 6, 3) := by decide +kernel
theorem dX12_laysTimes_84 : decode cX12_laysTimes 84 = .ok (.goto 110, 3) := by decide +kernel
theorem dX12_laysTimes_87 : decode cX12_laysTimes 87 = .ok (.aload_n 0, 1) := by decide +kernel
theorem dX12_laysTimes_88 : decode cX12_laysTimes 88 = .ok (.iload 5, 2) := by decide +kernel
theorem dX12_laysTimes_90 : decode cX12_laysTimes 90 = .ok (.invokevirtual 340, 3) := by decide +kernel
theorem dX12_laysTimes_93 : decode cX12_laysTimes 93 = .ok (.aload_n 0, 1) := by decide +kernel
theorem dX12_laysTimes_94 : decode cX12_laysTimes 94 = .ok (.getfield 58, 3) := by decide +kernel
theorem dX12_laysTimes_97 : decode cX12_laysTimes 97 = .ok (.iconst 3, 1) := by decide +kernel
theorem dX12_laysTimes_98 : decode cX12_laysTimes 98 = .ok (.iload_n 1, 1) := by decide +kernel
theorem dX12_laysTimes_99 : decode cX12_laysTimes 99 = .ok (.imul, 1) := by decide +kernel
theorem dX12_laysTimes_100 : decode cX12_laysTimes 100 = .ok (.iconst 1, 1) := by decide +kernel
theorem dX12_laysTimes_101 : decode cX12_laysTimes 101 = .ok (.iadd, 1) := by decide +kernel
theorem dX12_laysTimes_102 : decode cX12_laysTimes 102 = .ok (.iaload, 1) := by decide +kernel
theorem dX12_laysTimes_103 : decode cX12_laysTimes 103 = .ok (.imul, 1) := by decide +kernel
theorem dX12_laysTimes_104 : decode cX12_laysTimes 104 = .ok (.istore 6, 2) := by decide +kernel
theorem dX12_laysTimes_106 : decode cX12_laysTimes 106 = .ok (.iconst 0, 1) := by decide +kernel
theorem dX12_laysTimes_107 : decode cX12_laysTimes 107 = .ok (.istore 7, 2) := by decide +kernel
theorem dX12_laysTimes_109 : decode cX12_laysTimes 109 = .ok (.iload 7, 2) := by decide +kernel
theorem dX12_laysTimes_111 : decode cX12_laysTimes 111 = .ok (.iconst 2, 1) := by decide +kernel
theorem dX12_laysTimes_112 : decode cX12_laysTimes 112 = .ok (.if_icmp .ge 82, 3) := by decide +kernel
theorem dX12_laysTimes_115 : decode cX12_laysTimes 115 = .ok (.aload_n 0, 1) := by decide +kernel
theorem dX12_laysTimes_116 : decode cX12_laysTimes 116 = .ok (.getfield 52, 3) := by decide +kernel
theorem dX12_laysTimes_119 : decode cX12_laysTimes 119 = .ok (.iconst 4, 1) := by decide +kernel
theorem dX12_laysTimes_120 : decode cX12_laysTimes 120 = .ok (.iload 5, 2) := by decide +kernel
theorem dX12_laysTimes_122 : decode cX12_laysTimes 122 = .ok (.imul, 1) := by decide +kernel
theorem dX12_laysTimes_123 : decode cX12_laysTimes 123 = .ok (.iload 7, 2) := by decide +kernel
theorem dX12_laysTimes_125 : decode cX12_laysTimes 125 = .ok (.iadd, 1) := by decide +kernel
theorem dX12_laysTimes_126 : decode cX12_laysTimes 126 = .ok (.iaload, 1) := by decide +kernel
theorem dX12_laysTimes_127 : decode cX12_laysTimes 127 = .ok (.istore 8, 2) := by decide +kernel
theorem dX12_laysTimes_129 : decode cX12_laysTimes 129 = .ok (.aload_n 0, 1) := by decide +kernel
theorem dX12_laysTimes_130 : decode cX12_laysTimes 130 = .ok (.getfield 52, 3) := by decide +kernel
theorem dX12_laysTimes_133 : decode cX12_laysTimes 133 = .ok (.iconst 4, 1) := by decide +kernel
theorem dX12_laysTimes_134 : decode cX12_laysTimes 134 = .ok (.iload 5, 2) := by decide +kernel
theorem dX12_laysTimes_136 : decode cX12_laysTimes 136 = .ok (.imul, 1) := by decide +kernel
theorem dX12_laysTimes_137 : decode cX12_laysTimes 137 = .ok (.iconst 1, 1) := by decide +kernel
theorem dX12_laysTimes_138 : decode cX12_laysTimes 138 = .ok (.iadd, 1) := by decide +kernel
theorem dX12_laysTimes_139 : decode cX12_laysTimes 139 = .ok (.iload 7, 2) := by decide +kernel
theorem dX12_laysTimes_141 : decode cX12_laysTimes 141 = .ok (.isub, 1) := by decide +kernel
theorem dX12_laysTimes_142 : decode cX12_laysTimes 142 = .ok (.iaload, 1) := by decide +kernel
theorem dX12_laysTimes_143 : decode cX12_laysTimes 143 = .ok (.istore 9, 2) := by decide +kernel
theorem dX12_laysTimes_145 : decode cX12_laysTimes 145 = .ok (.aload_n 0, 1) := by decide +kernel
theorem dX12_laysTimes_146 : decode cX12_laysTimes 146 = .ok (.getfield 120, 3) := by decide +kernel
theorem dX12_laysTimes_149 : decode cX12_laysTimes 149 = .ok (.iload 9, 2) := by decide +kernel
theorem dX12_laysTimes_151 : decode cX12_laysTimes 151 = .ok (.iaload, 1) := by decide +kernel
theorem dX12_laysTimes_152 : decode cX12_laysTimes 152 = .ok (.iload 6, 2) := by decide +kernel
theorem dX12_laysTimes_154 : decode cX12_laysTimes 154 = .ok (.iadd, 1) := by decide +kernel
theorem dX12_laysTimes_155 : decode cX12_laysTimes 155 = .ok (.aload_n 0, 1) := by decide +kernel
theorem dX12_laysTimes_156 : decode cX12_laysTimes 156 = .ok (.getfield 120, 3) := by decide +kernel
theorem dX12_laysTimes_159 : decode cX12_laysTimes 159 = .ok (.iload 8, 2) := by decide +kernel
theorem dX12_laysTimes_161 : decode cX12_laysTimes 161 = .ok (.iaload, 1) := by decide +kernel
theorem dX12_laysTimes_162 : decode cX12_laysTimes 162 = .ok (.if_icmp .lt 6, 3) := by decide +kernel
theorem dX12_laysTimes_165 : decode cX12_laysTimes 165 = .ok (.goto 23, 3) := by decide +kernel
theorem dX12_laysTimes_168 : decode cX12_laysTimes 168 = .ok (.aload_n 0, 1) := by decide +kernel
theorem dX12_laysTimes_169 : decode cX12_laysTimes 169 = .ok (.getfield 120, 3) := by decide +kernel
theorem dX12_laysTimes_172 : decode cX12_laysTimes 172 = .ok (.iload 8, 2) := by decide +kernel
theorem dX12_laysTimes_174 : decode cX12_laysTimes 174 = .ok (.aload_n 0, 1) := by decide +kernel
theorem dX12_laysTimes_175 : decode cX12_laysTimes 175 = .ok (.getfield 120, 3) := by decide +kernel
theorem dX12_laysTimes_178 : decode cX12_laysTimes 178 = .ok (.iload 9, 2) := by decide +kernel
theorem dX12_laysTimes_180 : decode cX12_laysTimes 180 = .ok (.iaload, 1) := by decide +kernel
theorem dX12_laysTimes_181 : decode cX12_laysTimes 181 = .ok (.iload 6, 2) := by decide +kernel
theorem dX12_laysTimes_183 : decode cX12_laysTimes 183 = .ok (.iadd, 1) := by decide +kernel
theorem dX12_laysTimes_184 : decode cX12_laysTimes 184 = .ok (.iastore, 1) := by decide +kernel
theorem dX12_laysTimes_185 : decode cX12_laysTimes 185 = .ok (.iconst 1, 1) := by decide +kernel
theorem dX12_laysTimes_186 : decode cX12_laysTimes 186 = .ok (.istore 4, 2) := by decide +kernel
theorem dX12_laysTimes_188 : decode cX12_laysTimes 188 = .ok (.iinc 7 1, 3) := by decide +kernel
theorem dX12_laysTimes_191 : decode cX12_laysTimes 191 = .ok (.goto (-82), 3) := by decide +kernel
theorem dX12_laysTimes_194 : decode cX12_laysTimes 194 = .ok (.iinc 5 1, 3) := by decide +kernel
theorem dX12_laysTimes_197 : decode cX12_laysTimes 197 = .ok (.goto (-147), 3) := by decide +kernel
theorem dX12_laysTimes_200 : decode cX12_laysTimes 200 = .ok (.goto (-161), 3) := by decide +kernel
theorem dX12_laysTimes_203 : decode cX12_laysTimes 203 = .ok (.return_, 1) := by decide +kernel
theorem r_X12_laysTimes_200 (E : kr_E) (k_39 : Int32 → kr_M → Option kr_M) (l1 : Int32) (l3 : Int32) (l4 : Int32) (hk_39 : ∀ (x4 : Int32) (M : kr_M), kR kr_vv E Y_X12_laysTimes 3 39 [(0, kr_r E 346), (1, .int l1), (3, .int l3), (4, .int x4)] [] M (k_39 x4 M)) (M : kr_M) : kR kr_vv E Y_X12_laysTimes 3 200 [(0, kr_r E 346), (1, .int l1), (3, .int l3), (4, .int l4)] [] M (f_X12_laysTimes_200 k_39 l4 M) := by
  rw [f_X12_laysTimes_200]
  refine kr_goto (tgt := 39) dX12_laysTimes_200 (by decide) ?_
  refine kr_sub [0, 1, 2, 3] rfl ?_
  exact hk_39 l4 M
theorem r_X12_laysTimes_194 (E : kr_E) (k_50 : Int32 → Int32 → kr_M → Option kr_M) (l1 : Int32) (l3 : Int32) (l4 : Int32) (l5 : Int32) (hk_50 : ∀ (x4 : Int32) (x5 : Int32) (M : kr_M), kR kr_vv E Y_X12_laysTimes 3 50 [(0, kr_r E 346), (1, .int l1), (3, .int l3), (4, .int x4), (5, .int x5)] [] M (k_50 x4 x5 M)) (M : kr_M) : kR kr_vv E Y_X12_laysTimes 3 194 [(0, kr_r E 346), (1, .int l1), (3, .int l3), (4, .int l4), (5, .int l5)] [] M (f_X12_laysTimes_194 k_50 l4 l5 M) := by
  rw [f_X12_laysTimes_194]
  refine kr_iinc (j := 4) (v := (l5 + (1 : Int32))) (lv' := [(5, .int (l5 + (1 : Int32))), (0, kr_r E 346), (1, .int l1), (3, .int l3), (4, .int l4)]) dX12_laysTimes_194 rfl rfl (by decide) rfl ?_
  refine kr_goto (tgt := 50) dX12_laysTimes_197 (by decide) ?_
  refine kr_sub [1, 2, 3, 4, 0] rfl ?_
  exact hk_50 l4 (l5 + (1 : Int32)) M
theorem r_X12_laysTimes_188 (E : kr_E) (k_109 : Int32 → Int32 → kr_M → Option kr_M) (l1 : Int32) (l3 : Int32) (l4 : Int32) (l5 : Int32) (l6 : Int32) (l7 : Int32) (hk_109 : ∀ (x4 : Int32) (x7 : Int32) (M : kr_M), kR kr_vv E Y_X12_laysTimes 3 109 [(0, kr_r E 346), (1, .int l1), (3, .int l3), (4, .int x4), (5, .int l5), (6, .int l6), (7, .int x7)] [] M (k_109 x4 x7 M)) (M : kr_M) : kR kr_vv E Y_X12_laysTimes 3 188 [(0, kr_r E 346), (1, .int l1), (3, .int l3), (4, .int l4), (5, .int l5), (6, .int l6), (7, .int l7)] [] M (f_X12_laysTimes_188 k_109 l4 l7 M) := by
  rw [f_X12_laysTimes_188]
  refine kr_iinc (j := 6) (v := (l7 + (1 : Int32))) (lv' := [(7, .int (l7 + (1 : Int32))), (0, kr_r E 346), (1, .int l1), (3, .int l3), (4, .int l4), (5, .int l5), (6, .int l6)]) dX12_laysTimes_188 rfl rfl (by decide) rfl ?_
  refine kr_goto (tgt := 109) dX12_laysTimes_191 (by decide) ?_
  refine kr_sub [1, 2, 3, 4, 5, 6, 0] rfl ?_
  exact hk_109 l4 (l7 + (1 : Int32)) M
theorem r_X12_laysTimes_109 (E : kr_E) (k_50 : Int32 → Int32 → kr_M → Option kr_M) (l1 : Int32) (l3 : Int32) (l5 : Int32) (l6 : Int32) (hk_50 : ∀ (x4 : Int32) (x5 : Int32) (M : kr_M), kR kr_vv E Y_X12_laysTimes 3 50 [(0, kr_r E 346), (1, .int l1), (3, .int l3), (4, .int x4), (5, .int x5)] [] M (k_50 x4 x5 M)) : ∀ (n : Nat) (l4 : Int32) (l7 : Int32) (M : kr_M), kR kr_vv E Y_X12_laysTimes 3 109 [(0, kr_r E 346), (1, .int l1), (3, .int l3), (4, .int l4), (5, .int l5), (6, .int l6), (7, .int l7)] [] M (f_X12_laysTimes_109 k_50 l5 l6 n l4 l7 M) := by
  intro n
  induction n with
  | zero => intro l4 l7 M; exact kr_none
  | succ n ih =>
    intro l4 l7 M
    rw [f_X12_laysTimes_109]
    refine kr_iload dX12_laysTimes_109 6 rfl ?_
    refine kr_iconst (v := 2) dX12_laysTimes_111 (by decide) ?_
    refine kr_icmp_ge (tgt := 194) dX12_laysTimes_112 (by decide) ?_ ?_
    · refine kr_sub [0, 1, 2, 3, 4] rfl ?_
      exact r_X12_laysTimes_194 E _ l1 l3 l4 l5 hk_50 M
    · refine kr_aload_n dX12_laysTimes_115 rfl 0 rfl ?_
      refine kr_getA (o := 13) (ci := 12) (j := 23) dX12_laysTimes_116 kr_at_346 fl_RX12_52 rfl ?_
      refine kr_iconst (v := 4) dX12_laysTimes_119 (by decide) ?_
      refine kr_iload dX12_laysTimes_120 4 rfl ?_
      refine kr_imul dX12_laysTimes_122 ?_
      refine kr_iload dX12_laysTimes_123 6 rfl ?_
      refine kr_iadd dX12_laysTimes_125 ?_
      refine kr_iald dX12_laysTimes_126 kr_at_359 (fun v1 => ?_)
      refine kr_istore (lv' := [(8, .int v1), (0, kr_r E 346), (1, .int l1), (3, .int l3), (4, .int l4), (5, .int l5), (6, .int l6), (7, .int l7)]) dX12_laysTimes_127 (by decide) rfl ?_
      refine kr_aload_n dX12_laysTimes_129 rfl 1 rfl ?_
      refine kr_getA (o := 13) (ci := 12) (j := 23) dX12_laysTimes_130 kr_at_346 fl_RX12_52 rfl ?_
      refine kr_iconst (v := 4) dX12_laysTimes_133 (by decide) ?_
      refine kr_iload dX12_laysTimes_134 5 rfl ?_
      refine kr_imul dX12_laysTimes_136 ?_
      refine kr_iconst (v := 1) dX12_laysTimes_137 (by decide) ?_
      refine kr_iadd dX12_laysTimes_138 ?_
      refine kr_iload dX12_laysTimes_139 7 rfl ?_
      refine kr_isub dX12_laysTimes_141 ?_
      refine kr_iald dX12_laysTimes_142 kr_at_359 (fun v2 => ?_)
      refine kr_istore (lv' := [(9, .int v2), (8, .int v1), (0, kr_r E 346), (1, .int l1), (3, .int l3), (4, .int l4), (5, .int l5), (6, .int l6), (7, .int l7)]) dX12_laysTimes_143 (by decide) rfl ?_
      refine kr_aload_n dX12_laysTimes_145 rfl 2 rfl ?_
      refine kr_getA (o := 35) (ci := 12) (j := 55) dX12_laysTimes_146 kr_at_346 fl_RX12_120 rfl ?_
      refine kr_iload dX12_laysTimes_149 0 rfl ?_
      refine kr_iald dX12_laysTimes_151 kr_at_381 (fun v3 => ?_)
      refine kr_iload dX12_laysTimes_152 7 rfl ?_
      refine kr_iadd dX12_laysTimes_154 ?_
      refine kr_aload_n dX12_laysTimes_155 rfl 2 rfl ?_
      refine kr_getA (o := 35) (ci := 12) (j := 55) dX12_laysTimes_156 kr_at_346 fl_RX12_120 rfl ?_
      refine kr_iload dX12_laysTimes_159 1 rfl ?_
      refine kr_iald dX12_laysTimes_161 kr_at_381 (fun v4 => ?_)
      refine kr_icmp_lt (tgt := 168) dX12_laysTimes_162 (by decide) ?_ ?_
      · refine kr_aload_n dX12_laysTimes_168 rfl 2 rfl ?_
        refine kr_getA (o := 35) (ci := 12) (j := 55) dX12_laysTimes_169 kr_at_346 fl_RX12_120 rfl ?_
        refine kr_iload dX12_laysTimes_172 1 rfl ?_
        refine kr_aload_n dX12_laysTimes_174 rfl 2 rfl ?_
        refine kr_getA (o := 35) (ci := 12) (j := 55) dX12_laysTimes_175 kr_at_346 fl_RX12_120 rfl ?_
        refine kr_iload dX12_laysTimes_178 0 rfl ?_
        refine kr_iald dX12_laysTimes_180 kr_at_381 (fun v5 => ?_)
        refine kr_iload dX12_laysTimes_181 7 rfl ?_
        refine kr_iadd dX12_laysTimes_183 ?_
        refine kr_iast dX12_laysTimes_184 kr_at_381 (fun M6 => ?_)
        refine kr_iconst (v := 1) dX12_laysTimes_185 (by decide) ?_
        refine kr_istore (lv' := [(4, .int (1 : Int32)), (9, .int v2), (8, .int v1), (0, kr_r E 346), (1, .int l1), (3, .int l3), (5, .int l5), (6, .int l6), (7, .int l7)]) dX12_laysTimes_186 (by decide) rfl ?_
        refine kr_sub [3, 4, 5, 0, 6, 7, 8] rfl ?_
        exact r_X12_laysTimes_188 E _ l1 l3 (1 : Int32) l5 l6 l7 ih M6
      · refine kr_goto (tgt := 188) dX12_laysTimes_165 (by decide) ?_
        refine kr_sub [2, 3, 4, 5, 6, 7, 8] rfl ?_
        exact r_X12_laysTimes_188 E _ l1 l3 l4 l5 l6 l7 ih M
theorem r_X12_laysTimes_50 (E : kr_E) (k_39 : Int32 → kr_M → Option kr_M) (l1 : Int32) (l3 : Int32) (hk_39 : ∀ (x4 : Int32) (M : kr_M), kR kr_vv E Y_X12_laysTimes 3 39 [(0, kr_r E 346), (1, .int l1), (3, .int l3), (4, .int x4)] [] M (k_39 x4 M)) : ∀ (n : Nat) (l4 : Int32) (l5 : Int32) (M : kr_M), kR kr_vv E Y_X12_laysTimes 3 50 [(0, kr_r E 346), (1, .int l1), (3, .int l3), (4, .int l4), (5, .int l5)] [] M (f_X12_laysTimes_50 k_39 l1 l3 n l4 l5 M) := by
  intro n
  induction n with
  | zero => intro l4 l5 M; exact kr_none
  | succ n ih =>
    intro l4 l5 M
    rw [f_X12_laysTimes_50]
    refine kr_iload dX12_laysTimes_50 4 rfl ?_
    refine kr_aload_n dX12_laysTimes_52 rfl 0 rfl ?_
    refine kr_getA (o := 7) (ci := 12) (j := 17) dX12_laysTimes_53 kr_at_346 fl_RX12_34 rfl ?_
    refine kr_iconst (v := 5) dX12_laysTimes_56 (by decide) ?_
    refine kr_iald dX12_laysTimes_57 kr_at_353 (fun v1 => ?_)
    refine kr_icmp_ge (tgt := 200) dX12_laysTimes_58 (by decide) ?_ ?_
    · refine kr_sub [0, 1, 2, 3] rfl ?_
      exact r_X12_laysTimes_200 E _ l1 l3 l4 hk_39 M
    · refine kr_iload dX12_laysTimes_61 4 rfl ?_
      refine kr_iload_n dX12_laysTimes_63 rfl 2 rfl ?_
      refine kr_icmp_eq (tgt := 194) dX12_laysTimes_64 (by decide) ?_ ?_
      · refine kr_sub [0, 1, 2, 3, 4] rfl ?_
        exact r_X12_laysTimes_194 E _ l1 l3 l4 l5 ih M
      · refine kr_aload_n dX12_laysTimes_67 rfl 0 rfl ?_
        refine kr_iload dX12_laysTimes_68 4 rfl ?_
        refine kr_aload_n dX12_laysTimes_70 rfl 0 rfl ?_
        refine kr_getA (o := 15) (ci := 12) (j := 25) dX12_laysTimes_71 kr_at_346 fl_RX12_58 rfl ?_
        refine kr_iconst (v := 3) dX12_laysTimes_74 (by decide) ?_
        refine kr_iload_n dX12_laysTimes_75 rfl 1 rfl ?_
        refine kr_imul dX12_laysTimes_76 ?_
        refine kr_iald dX12_laysTimes_77 kr_at_361 (fun v2 => ?_)
        refine kr_Vi (As := [.int l5, .int v2]) (st := []) zv_X12_bearsIt dX12_laysTimes_78 ml_RX12_475 kr_at_346 (r_X12_bearsIt E l5 v2 M) rfl rfl (Nat.le_of_ble_eq_true rfl) rfl (by decide) (Nat.le_of_ble_eq_true rfl) (fun r4 M3 => ?_)
        refine kr_if_ne (tgt := 87) dX12_laysTimes_81 (by decide) ?_ ?_
        · refine kr_aload_n dX12_laysTimes_87 rfl 0 rfl ?_
          refine kr_iload dX12_laysTimes_88 4 rfl ?_
          refine kr_Vi (As := [.int l5]) (st := []) zv_X12_inchesOf dX12_laysTimes_90 ml_RX12_340 kr_at_346 (r_X12_inchesOf E l5 M3) rfl rfl (Nat.le_of_ble_eq_true rfl) rfl (by decide) (Nat.le_of_ble_eq_true rfl) (fun r6 M5 => ?_)
          refine kr_aload_n dX12_laysTimes_93 rfl 0 rfl ?_
          refine kr_getA (o := 15) (ci := 12) (j := 25) dX12_laysTimes_94 kr_at_346 fl_RX12_58 rfl ?_
          refine kr_iconst (v := 3) dX12_laysTimes_97 (by decide) ?_
          refine kr_iload_n dX12_laysTimes_98 rfl 1 rfl ?_
          refine kr_imul dX12_laysTimes_99 ?_
          refine kr_iconst (v := 1) dX12_laysTimes_100 (by decide) ?_
          refine kr_iadd dX12_laysTimes_101 ?_
          refine kr_iald dX12_laysTimes_102 kr_at_361 (fun v7 => ?_)
          refine kr_imul dX12_laysTimes_103 ?_
          refine kr_nmi (fun v8 => ?_)
          refine kr_istore (lv' := [(6, .int v8), (0, kr_r E 346), (1, .int l1), (3, .int l3), (4, .int l4), (5, .int l5)]) dX12_laysTimes_104 (by decide) rfl ?_
          refine kr_iconst (v := 0) dX12_laysTimes_106 (by decide) ?_
          refine kr_istore (lv' := [(7, .int (0 : Int32)), (6, .int v8), (0, kr_r E 346), (1, .int l1), (3, .int l3), (4, .int l4), (5, .int l5)]) dX12_laysTimes_107 (by decide) rfl ?_
          refine kr_sub [2, 3, 4, 5, 6, 1, 0] rfl ?_
          exact r_X12_laysTimes_109 E _ l1 l3 l5 v8 ih _ l4 (0 : Int32) M5
        · refine kr_goto (tgt := 194) dX12_laysTimes_84 (by decide) ?_
          refine kr_sub [0, 1, 2, 3, 4] rfl ?_
          exact r_X12_laysTimes_194 E _ l1 l3 l4 l5 ih M3
theorem r_X12_laysTimes_39 (E : kr_E)  (l1 : Int32) (l3 : Int32)  : ∀ (n : Nat) (l4 : Int32) (M : kr_M), kR kr_vv E Y_X12_laysTimes 3 39 [(0, kr_r E 346), (1, .int l1), (3, .int l3), (4, .int l4)] [] M (f_X12_laysTimes_39 l1 l3 n l4 M) := by
  intro n
  induction n with
  | zero => intro l4 M; exact kr_none
  | succ n ih =>
    intro l4 M
    rw [f_X12_laysTimes_39]
    refine kr_iload dX12_laysTimes_39 3 rfl ?_
    refine kr_if_eq (tgt := 203) dX12_laysTimes_41 (by decide) ?_ ?_
    · exact kr_vret dX12_laysTimes_203 rfl
    · refine kr_iconst (v := 0) dX12_laysTimes_44 (by decide) ?_
      refine kr_istore (lv' := [(4, .int (0 : Int32)), (0, kr_r E 346), (1, .int l1), (3, .int l3)]) dX12_laysTimes_45 (by decide) rfl ?_
      refine kr_iconst (v := 0) dX12_laysTimes_47 (by decide) ?_
      refine kr_istore (lv' := [(5, .int (0 : Int32)), (4, .int (0 : Int32)), (0, kr_r E 346), (1, .int l1), (3, .int l3)]) dX12_laysTimes_48 (by decide) rfl ?_
      refine kr_sub [2, 3, 4, 1, 0] rfl ?_
      exact r_X12_laysTimes_50 E _ l1 l3 ih _ (0 : Int32) (0 : Int32) M
theorem r_X12_laysTimes_36 (E : kr_E)  (l1 : Int32) (l3 : Int32)  (M : kr_M) : kR kr_vv E Y_X12_laysTimes 3 36 [(0, kr_r E 346), (1, .int l1), (3, .int l3)] [] M (f_X12_laysTimes_36 l1 l3 M) := by
  rw [f_X12_laysTimes_36]
  refine kr_iconst (v := 1) dX12_laysTimes_36 (by decide) ?_
  refine kr_istore (lv' := [(4, .int (1 : Int32)), (0, kr_r E 346), (1, .int l1), (3, .int l3)]) dX12_laysTimes_37 (by decide) rfl ?_
  refine kr_sub [1, 2, 3, 0] rfl ?_
  exact r_X12_laysTimes_39 E l1 l3 _ (1 : Int32) M
theorem r_X12_laysTimes_29 (E : kr_E) (k_3 : Int32 → kr_M → Option kr_M) (l1 : Int32) (l2 : Int32) (l3 : Int32) (l4 : Int32) (s0 : Int32) (s1 : Int32) (hk_3 : ∀ (x4 : Int32) (M : kr_M), kR kr_vv E Y_X12_laysTimes 3 3 [(0, kr_r E 346), (1, .int l1), (2, .int l2), (3, .int l3), (4, .int x4)] [] M (k_3 x4 M)) (M : kr_M) : kR kr_vv E Y_X12_laysTimes 3 29 [(0, kr_r E 346), (1, .int l1), (2, .int l2), (3, .int l3), (4, .int l4)] [.int s0, .int s1, kr_r E 381] M (f_X12_laysTimes_29 k_3 l4 s0 s1 M) := by
  rw [f_X12_laysTimes_29]
  refine kr_iast dX12_laysTimes_29 kr_at_381 (fun M1 => ?_)
  refine kr_iinc (j := 4) (v := (l4 + (1 : Int32))) (lv' := [(4, .int (l4 + (1 : Int32))), (0, kr_r E 346), (1, .int l1), (2, .int l2), (3, .int l3)]) dX12_laysTimes_30 rfl rfl (by decide) rfl ?_
  refine kr_goto (tgt := 3) dX12_laysTimes_33 (by decide) ?_
  refine kr_sub [1, 2, 3, 4, 0] rfl ?_
  exact hk_3 (l4 + (1 : Int32)) M1
theorem r_X12_laysTimes_3 (E : kr_E)  (l1 : Int32) (l2 : Int32) (l3 : Int32)  : ∀ (n : Nat) (l4 : Int32) (M : kr_M), kR kr_vv E Y_X12_laysTimes 3 3 [(0, kr_r E 346), (1, .int l1), (2, .int l2), (3, .int l3), (4, .int l4)] [] M (f_X12_laysTimes_3 l1 l2 l3 n l4 M) := by
  intro n
  induction n with
  | zero => intro l4 M; exact kr_none
  | succ n ih =>
    intro l4 M
    rw [f_X12_laysTimes_3]
    refine kr_iload dX12_laysTimes_3 4 rfl ?_
    refine kr_bipush (v := 6) dX12_laysTimes_5 (by decide) ?_
    refine kr_icmp_ge (tgt := 36) dX12_laysTimes_7 (by decide) ?_ ?_
    · refine kr_sub [0, 1, 3] rfl ?_
      exact r_X12_laysTimes_36 E l1 l3 M
    · refine kr_aload_n dX12_laysTimes_10 rfl 0 rfl ?_
      refine kr_getA (o := 35) (ci := 12) (j := 55) dX12_laysTimes_11 kr_at_346 fl_RX12_120 rfl ?_
      refine kr_iload dX12_laysTimes_14 4 rfl ?_
      refine kr_iload dX12_laysTimes_16 4 rfl ?_
      refine kr_iload_n dX12_laysTimes_18 rfl 2 rfl ?_
      refine kr_icmp_ne (tgt := 26) dX12_laysTimes_19 (by decide) ?_ ?_
      · refine kr_ldcw dX12_laysTimes_26 kc_RX12_354 ?_
        refine kr_sub [0, 1, 2, 3, 4] rfl ?_
        exact r_X12_laysTimes_29 E _ l1 l2 l3 l4 (100000000 : Int32) l4 ih M
      · refine kr_iconst (v := 0) dX12_laysTimes_22 (by decide) ?_
        refine kr_goto (tgt := 29) dX12_laysTimes_23 (by decide) ?_
        refine kr_sub [0, 1, 2, 3, 4] rfl ?_
        exact r_X12_laysTimes_29 E _ l1 l2 l3 l4 (0 : Int32) l4 ih M
theorem r_X12_laysTimes (E : kr_E) (p1 : Int32) (p2 : Int32) (p3 : Int32) (M : kr_M) : kR kr_vv E Y_X12_laysTimes 3 0 [(0, kr_r E 346), (1, .int p1), (2, .int p2), (3, .int p3)] [] M (f_X12_laysTimes p1 p2 p3 M) := by
  rw [f_X12_laysTimes]
  refine kr_iconst (v := 0) dX12_laysTimes_0 (by decide) ?_
  refine kr_istore (lv' := [(4, .int (0 : Int32)), (0, kr_r E 346), (1, .int p1), (2, .int p2), (3, .int p3)]) dX12_laysTimes_1 (by decide) rfl ?_
  refine kr_sub [1, 2, 3, 4, 0] rfl ?_
  exact r_X12_laysTimes_3 E p1 p2 p3 _ (0 : Int32) M
theorem dX12_isWay_0 : decode cX12_isWay 0 = .ok (.aload_n 0, 1) := by decide +kernel
theorem dX12_isWay_1 : decode cX12_isWay 1 = .ok (.iload_n 1, 1) := by decide +kernel
theorem dX12_isWay_2 : decode cX12_isWay 2 = .ok (.invokevirtual 346, 3) := by decide +kernel
theorem dX12_isWay_5 : decode cX12_isWay 5 = .ok (.ifCond .eq 23, 3) := by decide +kernel
theorem dX12_isWay_8 : decode cX12_isWay 8 = .ok (.aload_n 0, 1) := by decide +kernel
theorem dX12_isWay_9 : decode cX12_isWay 9 = .ok (.iload_n 2, 1) := by decide +kernel
theorem dX12_isWay_10 : decode cX12_isWay 10 = .ok (.invokevirtual 478, 3) := by decide +kernel
theorem dX12_isWay_13 : decode cX12_isWay 13 = .ok (.ifCond .eq 15, 3) := by decide +kernel
theorem dX12_isWay_16 : decode cX12_isWay 16 = .ok (.aload_n 0, 1) := by decide +kernel
theorem dX12_isWay_17 : decode cX12_isWay 17 = .ok (.iload_n 3, 1) := by decide +kernel
theorem dX12_isWay_18 : decode cX12_isWay 18 = .ok (.invokevirtual 478, 3) := by decide +kernel
theorem dX12_isWay_21 : decode cX12_isWay 21 = .ok (.ifCond .eq 7, 3) := by decide +kernel
theorem dX12_isWay_24 : decode cX12_isWay 24 = .ok (.iconst 1, 1) := by decide +kernel
theorem dX12_isWay_25 : decode cX12_isWay 25 = .ok (.goto 4, 3) := by decide +kernel
theorem dX12_isWay_28 : decode cX12_isWay 28 = .ok (.iconst 0, 1) := by decide +kernel
theorem dX12_isWay_29 : decode cX12_isWay 29 = .ok (.ireturn, 1) := by decide +kernel
theorem r_X12_isWay (E : kr_E) (p1 : Int32) (p2 : Int32) (p3 : Int32) (M : kr_M) : kR kr_vi E Y_X12_isWay 3 0 [(0, kr_r E 346), (1, .int p1), (2, .int p2), (3, .int p3)] [] M (f_X12_isWay p1 p2 p3 M) := by
  rw [f_X12_isWay]
  refine kr_aload_n dX12_isWay_0 rfl 0 rfl ?_
  refine kr_iload_n dX12_isWay_1 rfl 1 rfl ?_
  refine kr_Vi (As := [.int p1]) (st := []) zv_X12_isPerson dX12_isWay_2 ml_RX12_346 kr_at_346 (r_X12_isPerson E p1 M) rfl rfl (Nat.le_of_ble_eq_true rfl) rfl (by decide) (Nat.le_of_ble_eq_true rfl) (fun r2 M1 => ?_)
  refine kr_if_eq (tgt := 28) dX12_isWay_5 (by decide) ?_ ?_
  · refine kr_iconst (v := 0) dX12_isWay_28 (by decide) ?_
    exact kr_zret1 dX12_isWay_29 rfl rfl
  · refine kr_aload_n dX12_isWay_8 rfl 0 rfl ?_
    refine kr_iload_n dX12_isWay_9 rfl 2 rfl ?_
    refine kr_Vi (As := [.int p2]) (st := []) zv_X12_isPlace dX12_isWay_10 ml_RX12_478 kr_at_346 (r_X12_isPlace E p2 M1) rfl rfl (Nat.le_of_ble_eq_true rfl) rfl (by decide) (Nat.le_of_ble_eq_true rfl) (fun r4 M3 => ?_)
    refine kr_if_eq (tgt := 28) dX12_isWay_13 (by decide) ?_ ?_
    · refine kr_iconst (v := 0) dX12_isWay_28 (by decide) ?_
      exact kr_zret1 dX12_isWay_29 rfl rfl
    · refine kr_aload_n dX12_isWay_16 rfl 0 rfl ?_
      refine kr_iload_n dX12_isWay_17 rfl 3 rfl ?_
      refine kr_Vi (As := [.int p3]) (st := []) zv_X12_isPlace dX12_isWay_18 ml_RX12_478 kr_at_346 (r_X12_isPlace E p3 M3) rfl rfl (Nat.le_of_ble_eq_true rfl) rfl (by decide) (Nat.le_of_ble_eq_true rfl) (fun r6 M5 => ?_)
      refine kr_if_eq (tgt := 28) dX12_isWay_21 (by decide) ?_ ?_
      · refine kr_iconst (v := 0) dX12_isWay_28 (by decide) ?_
        exact kr_zret1 dX12_isWay_29 rfl rfl
      · refine kr_iconst (v := 1) dX12_isWay_24 (by decide) ?_
        refine kr_goto (tgt := 29) dX12_isWay_25 (by decide) ?_
        exact kr_zret1 dX12_isWay_29 rfl rfl
theorem dX12_way_0 : decode cX12_way 0 = .ok (.aload_n 0, 1) := by decide +kernel
theorem dX12_way_1 : decode cX12_way 1 = .ok (.iconst 0, 1) := by decide +kernel
theorem dX12_way_2 : decode cX12_way 2 = .ok (.putfield 138, 3) := by decide +kernel
theorem dX12_way_5 : decode cX12_way 5 = .ok (.aload_n 0, 1) := by decide +kernel
theorem dX12_way_6 : decode cX12_way 6 = .ok (.iload_n 1, 1) := by decide +kernel
theorem dX12_way_7 : decode cX12_way 7 = .ok (.iload_n 2, 1) := by decide +kernel
theorem dX12_way_8 : decode cX12_way 8 = .ok (.iload_n 3, 1) := by decide +kernel
theorem dX12_way_9 : decode cX12_way 9 = .ok (.invokevirtual 481, 3) := by decide +kernel
theorem dX12_way_12 : decode cX12_way 12 = .ok (.ifCond .ne 6, 3) := by decide +kernel
theorem dX12_way_15 : decode cX12_way 15 = .ok (.bipush (-2), 2) := by decide +kernel
theorem dX12_way_17 : decode cX12_way 17 = .ok (.ireturn, 1) := by decide +kernel
theorem dX12_way_18 : decode cX12_way 18 = .ok (.aload_n 0, 1) := by decide +kernel
theorem dX12_way_19 : decode cX12_way 19 = .ok (.invokevirtual 337, 3) := by decide +kernel
theorem dX12_way_22 : decode cX12_way 22 = .ok (.aload_n 0, 1) := by decide +kernel
theorem dX12_way_23 : decode cX12_way 23 = .ok (.iload_n 1, 1) := by decide +kernel
theorem dX12_way_24 : decode cX12_way 24 = .ok (.iload_n 3, 1) := by decide +kernel
theorem dX12_way_25 : decode cX12_way 25 = .ok (.iconst (-1), 1) := by decide +kernel
theorem dX12_way_26 : decode cX12_way 26 = .ok (.invokevirtual 484, 3) := by decide +kernel
theorem dX12_way_29 : decode cX12_way 29 = .ok (.aload_n 0, 1) := by decide +kernel
theorem dX12_way_30 : decode cX12_way 30 = .ok (.getfield 120, 3) := by decide +kernel
theorem dX12_way_33 : decode cX12_way 33 = .ok (.iload_n 2, 1) := by decide +kernel
theorem dX12_way_34 : decode cX12_way 34 = .ok (.iaload, 1) := by decide +kernel
theorem dX12_way_35 : decode cX12_way 35 = .ok (.ldc_w 354, 3) := by decide +kernel
theorem dX12_way_38 : decode cX12_way 38 = .ok (.if_icmp .lt 7, 3) := by decide +kernel
theorem dX12_way_41 : decode cX12_way 41 = .ok (.iconst (-1), 1) := by decide +kernel
theorem dX12_way_42 : decode cX12_way 42 = .ok (.goto 9, 3) := by decide +kernel
theorem dX12_way_45 : decode cX12_way 45 = .ok (.aload_n 0, 1) := by decide +kernel
theorem dX12_way_46 : decode cX12_way 46 = .ok (.getfield 120, 3) := by decide +kernel
theorem dX12_way_49 : decode cX12_way 49 = .ok (.iload_n 2, 1) := by decide +kernel
theorem dX12_way_50 : decode cX12_way 50 = .ok (.iaload, 1) := by decide +kernel
theorem dX12_way_51 : decode cX12_way 51 = .ok (.ireturn, 1) := by decide +kernel
theorem r_X12_way (E : kr_E) (p1 : Int32) (p2 : Int32) (p3 : Int32) (M : kr_M) : kR kr_vi E Y_X12_way 4 0 [(0, kr_r E 346), (1, .int p1), (2, .int p2), (3, .int p3)] [] M (f_X12_way p1 p2 p3 M) := by
  rw [f_X12_way]
  refine kr_aload_n dX12_way_0 rfl 0 rfl ?_
  refine kr_iconst (v := 0) dX12_way_1 (by decide) ?_
  refine kr_putI (ci := 12) (j := 0) dX12_way_2 kr_at_346 fl_RX12_138 rfl rfl (fun M1 => ?_)
  refine kr_aload_n dX12_way_5 rfl 0 rfl ?_
  refine kr_iload_n dX12_way_6 rfl 1 rfl ?_
  refine kr_iload_n dX12_way_7 rfl 2 rfl ?_
  refine kr_iload_n dX12_way_8 rfl 3 rfl ?_
  refine kr_Vi (As := [.int p1, .int p2, .int p3]) (st := []) zv_X12_isWay dX12_way_9 ml_RX12_481 kr_at_346 (r_X12_isWay E p1 p2 p3 M1) rfl rfl (Nat.le_of_ble_eq_true rfl) rfl (by decide) (Nat.le_of_ble_eq_true rfl) (fun r3 M2 => ?_)
  refine kr_if_ne (tgt := 18) dX12_way_12 (by decide) ?_ ?_
  · refine kr_aload_n dX12_way_18 rfl 0 rfl ?_
    refine kr_Vv (As := []) (st := []) zv_X12_lays dX12_way_19 ml_RX12_337 kr_at_346 (r_X12_lays E  M2) rfl rfl (Nat.le_of_ble_eq_true rfl) rfl (by decide) (Nat.le_of_ble_eq_true rfl) (fun M4 => ?_)
    refine kr_aload_n dX12_way_22 rfl 0 rfl ?_
    refine kr_iload_n dX12_way_23 rfl 1 rfl ?_
    refine kr_iload_n dX12_way_24 rfl 3 rfl ?_
    refine kr_iconst (v := -1) dX12_way_25 (by decide) ?_
    refine kr_Vv (As := [.int p1, .int p3, .int (-1 : Int32)]) (st := []) zv_X12_laysTimes dX12_way_26 ml_RX12_484 kr_at_346 (r_X12_laysTimes E p1 p3 (-1 : Int32) M4) rfl rfl (Nat.le_of_ble_eq_true rfl) rfl (by decide) (Nat.le_of_ble_eq_true rfl) (fun M6 => ?_)
    refine kr_aload_n dX12_way_29 rfl 0 rfl ?_
    refine kr_getA (o := 35) (ci := 12) (j := 55) dX12_way_30 kr_at_346 fl_RX12_120 rfl ?_
    refine kr_iload_n dX12_way_33 rfl 2 rfl ?_
    refine kr_iald dX12_way_34 kr_at_381 (fun v8 => ?_)
    refine kr_ldcw dX12_way_35 kc_RX12_354 ?_
    refine kr_icmp_lt (tgt := 45) dX12_way_38 (by decide) ?_ ?_
    · refine kr_aload_n dX12_way_45 rfl 0 rfl ?_
      refine kr_getA (o := 35) (ci := 12) (j := 55) dX12_way_46 kr_at_346 fl_RX12_120 rfl ?_
      refine kr_iload_n dX12_way_49 rfl 2 rfl ?_
      refine kr_iald dX12_way_50 kr_at_381 (fun v9 => ?_)
      exact kr_iret dX12_way_51 rfl
    · refine kr_iconst (v := -1) dX12_way_41 (by decide) ?_
      refine kr_goto (tgt := 51) dX12_way_42 (by decide) ?_
      exact kr_iret dX12_way_51 rfl
  · refine kr_bipush (v := -2) dX12_way_15 (by decide) ?_
    exact kr_iret dX12_way_17 rfl
theorem dX12_by_0 : decode cX12_by 0 = .ok (.aload_n 0, 1) := by decide +kernel
theorem dX12_by_1 : decode cX12_by 1 = .ok (.iconst 0, 1) := by decide +kernel
theorem dX12_by_2 : decode cX12_by 2 = .ok (.putfield 138, 3) := by decide +kernel
theorem dX12_by_5 : decode cX12_by 5 = .ok (.aload_n 0, 1) := by decide +kernel
theorem dX12_by_6 : decode cX12_by 6 = .ok (.iload_n 1, 1) := by decide +kernel
theorem dX12_by_7 : decode cX12_by 7 = .ok (.iload_n 2, 1) := by decide +kernel
theorem dX12_by_8 : decode cX12_by 8 = .ok (.iload_n 3, 1) := by decide +kernel
theorem dX12_by_9 : decode cX12_by 9 = .ok (.invokevirtual 481, 3) := by decide +kernel
theorem dX12_by_12 : decode cX12_by 12 = .ok (.ifCond .ne 6, 3) := by decide +kernel
theorem dX12_by_15 : decode cX12_by 15 = .ok (.bipush (-2), 2) := by decide +kernel
theorem dX12_by_17 : decode cX12_by 17 = .ok (.ireturn, 1) := by decide +kernel
theorem dX12_by_18 : decode cX12_by 18 = .ok (.aload_n 0, 1) := by decide +kernel
theorem dX12_by_19 : decode cX12_by 19 = .ok (.invokevirtual 337, 3) := by decide +kernel
theorem dX12_by_22 : decode cX12_by 22 = .ok (.aload_n 0, 1) := by decide +kernel
theorem dX12_by_23 : decode cX12_by 23 = .ok (.iload_n 1, 1) := by decide +kernel
theorem dX12_by_24 : decode cX12_by 24 = .ok (.iload_n 3, 1) := by decide +kernel
theorem dX12_by_25 : decode cX12_by 25 = .ok (.iconst (-1), 1) := by decide +kernel
theorem dX12_by_26 : decode cX12_by 26 = .ok (.invokevirtual 484, 3) := by decide +kernel
theorem dX12_by_29 : decode cX12_by 29 = .ok (.aload_n 0, 1) := by decide +kernel
theorem dX12_by_30 : decode cX12_by 30 = .ok (.getfield 120, 3) := by decide +kernel
theorem dX12_by_33 : decode cX12_by 33 = .ok (.iload_n 2, 1) := by decide +kernel
theorem dX12_by_34 : decode cX12_by 34 = .ok (.iaload, 1) := by decide +kernel
theorem dX12_by_35 : decode cX12_by 35 = .ok (.ldc_w 354, 3) := by decide +kernel
theorem dX12_by_38 : decode cX12_by 38 = .ok (.if_icmp .ge 8, 3) := by decide +kernel
theorem dX12_by_41 : decode cX12_by 41 = .ok (.iload 4, 2) := by decide +kernel
theorem dX12_by_43 : decode cX12_by 43 = .ok (.ifCond .ge 5, 3) := by decide +kernel
theorem dX12_by_46 : decode cX12_by 46 = .ok (.iconst (-1), 1) := by decide +kernel
theorem dX12_by_47 : decode cX12_by 47 = .ok (.ireturn, 1) := by decide +kernel
theorem dX12_by_48 : decode cX12_by 48 = .ok (.iload_n 2, 1) := by decide +kernel
theorem dX12_by_49 : decode cX12_by 49 = .ok (.istore 5, 2) := by decide +kernel
theorem dX12_by_51 : decode cX12_by 51 = .ok (.iconst 0, 1) := by decide +kernel
theorem dX12_by_52 : decode cX12_by 52 = .ok (.istore 6, 2) := by decide +kernel
theorem dX12_by_54 : decode cX12_by 54 = .ok (.iload 5, 2) := by decide +kernel
theorem dX12_by_56 : decode cX12_by 56 = .ok (.iload_n 3, 1) := by decide +kernel
theorem dX12_by_57 : decode cX12_by 57 = .ok (.if_icmp .eq 107, 3) := by decide +kernel
theorem dX12_by_60 : decode cX12_by 60 = .ok (.iconst 0, 1) := by decide +kernel
theorem dX12_by_61 : decode cX12_by 61 = .ok (.istore 7, 2) := by decide +kernel
theorem dX12_by_63 : decode cX12_by 63 = .ok (.aload_n 0, 1) := by decide +kernel
theorem dX12_by_64 : decode cX12_by 64 = .ok (.iload 7, 2) := by decide +kernel
theorem dX12_by_66 : decode cX12_by 66 = .ok (.iload 5, 2) := by decide +kernel
theorem dX12_by_68 : decode cX12_by 68 = .ok (.invokevirtual 487, 3) := by decide +kernel
theorem dX12_by_71 : decode cX12_by 71 = .ok (.ifCond .eq 61, 3) := by decide +kernel
theorem dX12_by_74 : decode cX12_by 74 = .ok (.aload_n 0, 1) := by decide +kernel
theorem dX12_by_75 : decode cX12_by 75 = .ok (.iload 7, 2) := by decide +kernel
theorem dX12_by_77 : decode cX12_by 77 = .ok (.aload_n 0, 1) := by decide +kernel
theorem dX12_by_78 : decode cX12_by 78 = .ok (.getfield 58, 3) := by decide +kernel
theorem dX12_by_81 : decode cX12_by 81 = .ok (.iconst 3, 1) := by decide +kernel
theorem dX12_by_82 : decode cX12_by 82 = .ok (.iload_n 1, 1) := by decide +kernel
theorem dX12_by_83 : decode cX12_by 83 = .ok (.imul, 1) := by decide +kernel
theorem dX12_by_84 : decode cX12_by 84 = .ok (.iaload, 1) := by decide +kernel
theorem dX12_by_85 : decode cX12_by 85 = .ok (.invokevirtual 475, 3) := by decide +kernel
theorem dX12_by_88 : decode cX12_by 88 = .ok (.ifCond .eq 44, 3) := by decide +kernel
theorem dX12_by_91 : decode cX12_by 91 = .ok (.aload_n 0, 1) := by decide +kernel
theorem dX12_by_92 : decode cX12_by 92 = .ok (.getfield 120, 3) := by decide +kernel
theorem dX12_by_95 : decode cX12_by 95 = .ok (.aload_n 0, 1) := by decide +kernel
theorem dX12_by_96 : decode cX12_by 96 = .ok (.iload 7, 2) := by decide +kernel
theorem dX12_by_98 : decode cX12_by 98 = .ok (.iload 5, 2) := by decide +kernel
theorem dX12_by_100 : decode cX12_by 100 = .ok (.invokevirtual 329, 3) := by decide +kernel
theorem dX12_by_103 : decode cX12_by 103 = .ok (.iaload, 1) := by decide +kernel
theorem dX12_by_104 : decode cX12_by 104 = .ok (.aload_n 0, 1) := by decide +kernel
theorem dX12_by_105 : decode cX12_by 105 = .ok (.iload 7, 2) := by decide +kernel
theorem dX12_by_107 : decode cX12_by 107 = .ok (.invokevirtual 340, 3) := by decide +kernel
theorem dX12_by_110 : decode cX12_by 110 = .ok (.aload_n 0, 1) := by decide +kernel
theorem dX12_by_111 : decode cX12_by 111 = .ok (.getfield 58, 3) := by decide +kernel
theorem dX12_by_114 : decode cX12_by 114 = .ok (.iconst 3, 1) := by decide +kernel
theorem dX12_by_115 : decode cX12_by 115 = .ok (.iload_n 1, 1) := by decide +kernel
theorem dX12_by_116 : decode cX12_by 116 = .ok (.imul, 1) := by decide +kernel
theorem dX12_by_117 : decode cX12_by 117 = .ok (.iconst 1, 1) := by decide +kernel
theorem dX12_by_118 : decode cX12_by 118 = .ok (.iadd, 1) := by decide +kernel
theorem dX12_by_119 : decode cX12_by 119 = .ok (.iaload, 1) := by decide +kernel
theorem dX12_by_120 : decode cX12_by 120 = .ok (.imul, 1) := by decide +kernel
theorem dX12_by_121 : decode cX12_by 121 = .ok (.iadd, 1) := by decide +kernel
theorem dX12_by_122 : decode cX12_by 122 = .ok (.aload_n 0, 1) := by decide +kernel
theorem dX12_by_123 : decode cX12_by 123 = .ok (.getfield 120, 3) := by decide +kernel
theorem dX12_by_126 : decode cX12_by 126 = .ok (.iload 5, 2) := by decide +kernel
theorem dX12_by_128 : decode cX12_by 128 = .ok (.iaload, 1) := by decide +kernel
theorem dX12_by_129 : decode cX12_by 129 = .ok (.if_icmp .eq 9, 3) := by decide +kernel
theorem dX12_by_132 : decode cX12_by 132 = .ok (.iinc 7 1, 3) := by decide +kernel
theorem dX12_by_135 : decode cX12_by 135 = .ok (.goto (-72), 3) := by decide +kernel
theorem dX12_by_138 : decode cX12_by 138 = .ok (.iload 6, 2) := by decide +kernel
theorem dX12_by_140 : decode cX12_by 140 = .ok (.iload 4, 2) := by decide +kernel
theorem dX12_by_142 : decode cX12_by 142 = .ok (.if_icmp .ne 6, 3) := by decide +kernel
theorem dX12_by_145 : decode cX12_by 145 = .ok (.iload 7, 2) := by decide +kernel
theorem dX12_by_147 : decode cX12_by 147 = .ok (.ireturn, 1) := by decide +kernel
theorem dX12_by_148 : decode cX12_by 148 = .ok (.aload_n 0, 1) := by decide +kernel
theorem dX12_by_149 : decode cX12_by 149 = .ok (.iload 7, 2) := by decide +kernel
theorem dX12_by_151 : decode cX12_by 151 = .ok (.iload 5, 2) := by decide +kernel
theorem dX12_by_153 : decode cX12_by 153 = .ok (.invokevirtual 329, 3) := by decide +kernel
theorem dX12_by_156 : decode cX12_by 156 = .ok (.istore 5, 2) := by decide +kernel
theorem dX12_by_158 : decode cX12_by 158 = .ok (.iinc 6 1, 3) := by decide +kernel
theorem dX12_by_161 : decode cX12_by 161 = .ok (.goto (-107), 3) := by decide +kernel
theorem dX12_by_164 : decode cX12_by 164 = .ok (.iconst (-1), 1) := by decide +kernel
theorem dX12_by_165 : decode cX12_by 165 = .ok (.ireturn, 1) := by decide +kernel
theorem r_X12_by_132 (E : kr_E) (k_63 : Int32 → kr_M → Option (Int32 × kr_M)) (l1 : Int32) (l3 : Int32) (l4 : Int32) (l5 : Int32) (l6 : Int32) (l7 : Int32) (hk_63 : ∀ (x7 : Int32) (M : kr_M), kR kr_vi E Y_X12_by 4 63 [(0, kr_r E 346), (1, .int l1), (3, .int l3), (4, .int l4), (5, .int l5), (6, .int l6), (7, .int x7)] [] M (k_63 x7 M)) (M : kr_M) : kR kr_vi E Y_X12_by 4 132 [(0, kr_r E 346), (1, .int l1), (3, .int l3), (4, .int l4), (5, .int l5), (6, .int l6), (7, .int l7)] [] M (f_X12_by_132 k_63 l7 M) := by
  rw [f_X12_by_132]
  refine kr_iinc (j := 6) (v := (l7 + (1 : Int32))) (lv' := [(7, .int (l7 + (1 : Int32))), (0, kr_r E 346), (1, .int l1), (3, .int l3), (4, .int l4), (5, .int l5), (6, .int l6)]) dX12_by_132 rfl rfl (by decide) rfl ?_
  refine kr_goto (tgt := 63) dX12_by_135 (by decide) ?_
  refine kr_sub [1, 2, 3, 4, 5, 6, 0] rfl ?_
  exact hk_63 (l7 + (1 : Int32)) M
theorem r_X12_by_138 (E : kr_E) (k_54 : Int32 → Int32 → kr_M → Option (Int32 × kr_M)) (l1 : Int32) (l3 : Int32) (l4 : Int32) (l5 : Int32) (l6 : Int32) (l7 : Int32) (hk_54 : ∀ (x5 : Int32) (x6 : Int32) (M : kr_M), kR kr_vi E Y_X12_by 4 54 [(0, kr_r E 346), (1, .int l1), (3, .int l3), (4, .int l4), (5, .int x5), (6, .int x6)] [] M (k_54 x5 x6 M)) (M : kr_M) : kR kr_vi E Y_X12_by 4 138 [(0, kr_r E 346), (1, .int l1), (3, .int l3), (4, .int l4), (5, .int l5), (6, .int l6), (7, .int l7)] [] M (f_X12_by_138 k_54 l4 l5 l6 l7 M) := by
  rw [f_X12_by_138]
  refine kr_iload dX12_by_138 5 rfl ?_
  refine kr_iload dX12_by_140 3 rfl ?_
  refine kr_icmp_ne (tgt := 148) dX12_by_142 (by decide) ?_ ?_
  · refine kr_aload_n dX12_by_148 rfl 0 rfl ?_
    refine kr_iload dX12_by_149 6 rfl ?_
    refine kr_iload dX12_by_151 4 rfl ?_
    refine kr_Vi (As := [.int l7, .int l5]) (st := []) zv_X12_otherEnd dX12_by_153 ml_RX12_329 kr_at_346 (r_X12_otherEnd E l7 l5 M) rfl rfl (Nat.le_of_ble_eq_true rfl) rfl (by decide) (Nat.le_of_ble_eq_true rfl) (fun r2 M1 => ?_)
    refine kr_istore (lv' := [(5, .int r2), (0, kr_r E 346), (1, .int l1), (3, .int l3), (4, .int l4), (6, .int l6), (7, .int l7)]) dX12_by_156 (by decide) rfl ?_
    refine kr_iinc (j := 5) (v := (l6 + (1 : Int32))) (lv' := [(6, .int (l6 + (1 : Int32))), (5, .int r2), (0, kr_r E 346), (1, .int l1), (3, .int l3), (4, .int l4), (7, .int l7)]) dX12_by_158 rfl rfl (by decide) rfl ?_
    refine kr_goto (tgt := 54) dX12_by_161 (by decide) ?_
    refine kr_sub [2, 3, 4, 5, 1, 0] rfl ?_
    exact hk_54 r2 (l6 + (1 : Int32)) M1
  · refine kr_iload dX12_by_145 6 rfl ?_
    exact kr_iret dX12_by_147 rfl
theorem r_X12_by_63 (E : kr_E) (k_54 : Int32 → Int32 → kr_M → Option (Int32 × kr_M)) (l1 : Int32) (l3 : Int32) (l4 : Int32) (l5 : Int32) (l6 : Int32) (hk_54 : ∀ (x5 : Int32) (x6 : Int32) (M : kr_M), kR kr_vi E Y_X12_by 4 54 [(0, kr_r E 346), (1, .int l1), (3, .int l3), (4, .int l4), (5, .int x5), (6, .int x6)] [] M (k_54 x5 x6 M)) : ∀ (n : Nat) (l7 : Int32) (M : kr_M), kR kr_vi E Y_X12_by 4 63 [(0, kr_r E 346), (1, .int l1), (3, .int l3), (4, .int l4), (5, .int l5), (6, .int l6), (7, .int l7)] [] M (f_X12_by_63 k_54 l1 l4 l5 l6 n l7 M) := by
  intro n
  induction n with
  | zero => intro l7 M; exact kr_none
  | succ n ih =>
    intro l7 M
    rw [f_X12_by_63]
    refine kr_aload_n dX12_by_63 rfl 0 rfl ?_
    refine kr_iload dX12_by_64 6 rfl ?_
    refine kr_iload dX12_by_66 4 rfl ?_
    refine kr_Vi (As := [.int l7, .int l5]) (st := []) zv_X12_isEnd dX12_by_68 ml_RX12_487 kr_at_346 (r_X12_isEnd E l7 l5 M) rfl rfl (Nat.le_of_ble_eq_true rfl) rfl (by decide) (Nat.le_of_ble_eq_true rfl) (fun r2 M1 => ?_)
    refine kr_if_eq (tgt := 132) dX12_by_71 (by decide) ?_ ?_
    · refine kr_sub [0, 1, 2, 3, 4, 5, 6] rfl ?_
      exact r_X12_by_132 E _ l1 l3 l4 l5 l6 l7 ih M1
    · refine kr_aload_n dX12_by_74 rfl 0 rfl ?_
      refine kr_iload dX12_by_75 6 rfl ?_
      refine kr_aload_n dX12_by_77 rfl 0 rfl ?_
      refine kr_getA (o := 15) (ci := 12) (j := 25) dX12_by_78 kr_at_346 fl_RX12_58 rfl ?_
      refine kr_iconst (v := 3) dX12_by_81 (by decide) ?_
      refine kr_iload_n dX12_by_82 rfl 1 rfl ?_
      refine kr_imul dX12_by_83 ?_
      refine kr_iald dX12_by_84 kr_at_361 (fun v3 => ?_)
      refine kr_Vi (As := [.int l7, .int v3]) (st := []) zv_X12_bearsIt dX12_by_85 ml_RX12_475 kr_at_346 (r_X12_bearsIt E l7 v3 M1) rfl rfl (Nat.le_of_ble_eq_true rfl) rfl (by decide) (Nat.le_of_ble_eq_true rfl) (fun r5 M4 => ?_)
      refine kr_if_eq (tgt := 132) dX12_by_88 (by decide) ?_ ?_
      · refine kr_sub [0, 1, 2, 3, 4, 5, 6] rfl ?_
        exact r_X12_by_132 E _ l1 l3 l4 l5 l6 l7 ih M4
      · refine kr_aload_n dX12_by_91 rfl 0 rfl ?_
        refine kr_getA (o := 35) (ci := 12) (j := 55) dX12_by_92 kr_at_346 fl_RX12_120 rfl ?_
        refine kr_aload_n dX12_by_95 rfl 0 rfl ?_
        refine kr_iload dX12_by_96 6 rfl ?_
        refine kr_iload dX12_by_98 4 rfl ?_
        refine kr_Vi (As := [.int l7, .int l5]) (st := [kr_r E 381]) zv_X12_otherEnd dX12_by_100 ml_RX12_329 kr_at_346 (r_X12_otherEnd E l7 l5 M4) rfl rfl (Nat.le_of_ble_eq_true rfl) rfl (by decide) (Nat.le_of_ble_eq_true rfl) (fun r7 M6 => ?_)
        refine kr_iald dX12_by_103 kr_at_381 (fun v8 => ?_)
        refine kr_aload_n dX12_by_104 rfl 0 rfl ?_
        refine kr_iload dX12_by_105 6 rfl ?_
        refine kr_Vi (As := [.int l7]) (st := [.int v8]) zv_X12_inchesOf dX12_by_107 ml_RX12_340 kr_at_346 (r_X12_inchesOf E l7 M6) rfl rfl (Nat.le_of_ble_eq_true rfl) rfl (by decide) (Nat.le_of_ble_eq_true rfl) (fun r10 M9 => ?_)
        refine kr_aload_n dX12_by_110 rfl 0 rfl ?_
        refine kr_getA (o := 15) (ci := 12) (j := 25) dX12_by_111 kr_at_346 fl_RX12_58 rfl ?_
        refine kr_iconst (v := 3) dX12_by_114 (by decide) ?_
        refine kr_iload_n dX12_by_115 rfl 1 rfl ?_
        refine kr_imul dX12_by_116 ?_
        refine kr_iconst (v := 1) dX12_by_117 (by decide) ?_
        refine kr_iadd dX12_by_118 ?_
        refine kr_iald dX12_by_119 kr_at_361 (fun v11 => ?_)
        refine kr_imul dX12_by_120 ?_
        refine kr_iadd dX12_by_121 ?_
        refine kr_aload_n dX12_by_122 rfl 0 rfl ?_
        refine kr_getA (o := 35) (ci := 12) (j := 55) dX12_by_123 kr_at_346 fl_RX12_120 rfl ?_
        refine kr_iload dX12_by_126 4 rfl ?_
        refine kr_iald dX12_by_128 kr_at_381 (fun v12 => ?_)
        refine kr_icmp_eq (tgt := 138) dX12_by_129 (by decide) ?_ ?_
        · refine kr_sub [0, 1, 2, 3, 4, 5, 6] rfl ?_
          exact r_X12_by_138 E _ l1 l3 l4 l5 l6 l7 hk_54 M9
        · refine kr_sub [0, 1, 2, 3, 4, 5, 6] rfl ?_
          exact r_X12_by_132 E _ l1 l3 l4 l5 l6 l7 ih M9
theorem r_X12_by_54 (E : kr_E)  (l1 : Int32) (l3 : Int32) (l4 : Int32)  : ∀ (n : Nat) (l5 : Int32) (l6 : Int32) (M : kr_M), kR kr_vi E Y_X12_by 4 54 [(0, kr_r E 346), (1, .int l1), (3, .int l3), (4, .int l4), (5, .int l5), (6, .int l6)] [] M (f_X12_by_54 l1 l3 l4 n l5 l6 M) := by
  intro n
  induction n with
  | zero => intro l5 l6 M; exact kr_none
  | succ n ih =>
    intro l5 l6 M
    rw [f_X12_by_54]
    refine kr_iload dX12_by_54 4 rfl ?_
    refine kr_iload_n dX12_by_56 rfl 2 rfl ?_
    refine kr_icmp_eq (tgt := 164) dX12_by_57 (by decide) ?_ ?_
    · refine kr_iconst (v := -1) dX12_by_164 (by decide) ?_
      exact kr_iret dX12_by_165 rfl
    · refine kr_iconst (v := 0) dX12_by_60 (by decide) ?_
      refine kr_istore (lv' := [(7, .int (0 : Int32)), (0, kr_r E 346), (1, .int l1), (3, .int l3), (4, .int l4), (5, .int l5), (6, .int l6)]) dX12_by_61 (by decide) rfl ?_
      refine kr_sub [1, 2, 3, 4, 5, 6, 0] rfl ?_
      exact r_X12_by_63 E _ l1 l3 l4 l5 l6 ih _ (0 : Int32) M
theorem r_X12_by (E : kr_E) (p1 : Int32) (p2 : Int32) (p3 : Int32) (p4 : Int32) (M : kr_M) : kR kr_vi E Y_X12_by 4 0 [(0, kr_r E 346), (1, .int p1), (2, .int p2), (3, .int p3), (4, .int p4)] [] M (f_X12_by p1 p2 p3 p4 M) := by
  rw [f_X12_by]
  refine kr_aload_n dX12_by_0 rfl 0 rfl ?_
  refine kr_iconst (v := 0) dX12_by_1 (by decide) ?_
  refine kr_putI (ci := 12) (j := 0) dX12_by_2 kr_at_346 fl_RX12_138 rfl rfl (fun M1 => ?_)
  refine kr_aload_n dX12_by_5 rfl 0 rfl ?_
  refine kr_iload_n dX12_by_6 rfl 1 rfl ?_
  refine kr_iload_n dX12_by_7 rfl 2 rfl ?_
  refine kr_iload_n dX12_by_8 rfl 3 rfl ?_
  refine kr_Vi (As := [.int p1, .int p2, .int p3]) (st := []) zv_X12_isWay dX12_by_9 ml_RX12_481 kr_at_346 (r_X12_isWay E p1 p2 p3 M1) rfl rfl (Nat.le_of_ble_eq_true rfl) rfl (by decide) (Nat.le_of_ble_eq_true rfl) (fun r3 M2 => ?_)
  refine kr_if_ne (tgt := 18) dX12_by_12 (by decide) ?_ ?_
  · refine kr_aload_n dX12_by_18 rfl 0 rfl ?_
    refine kr_Vv (As := []) (st := []) zv_X12_lays dX12_by_19 ml_RX12_337 kr_at_346 (r_X12_lays E  M2) rfl rfl (Nat.le_of_ble_eq_true rfl) rfl (by decide) (Nat.le_of_ble_eq_true rfl) (fun M4 => ?_)
    refine kr_aload_n dX12_by_22 rfl 0 rfl ?_
    refine kr_iload_n dX12_by_23 rfl 1 rfl ?_
    refine kr_iload_n dX12_by_24 rfl 3 rfl ?_
    refine kr_iconst (v := -1) dX12_by_25 (by decide) ?_
    refine kr_Vv (As := [.int p1, .int p3, .int (-1 : Int32)]) (st := []) zv_X12_laysTimes dX12_by_26 ml_RX12_484 kr_at_346 (r_X12_laysTimes E p1 p3 (-1 : Int32) M4) rfl rfl (Nat.le_of_ble_eq_true rfl) rfl (by decide) (Nat.le_of_ble_eq_true rfl) (fun M6 => ?_)
    refine kr_aload_n dX12_by_29 rfl 0 rfl ?_
    refine kr_getA (o := 35) (ci := 12) (j := 55) dX12_by_30 kr_at_346 fl_RX12_120 rfl ?_
    refine kr_iload_n dX12_by_33 rfl 2 rfl ?_
    refine kr_iald dX12_by_34 kr_at_381 (fun v8 => ?_)
    refine kr_ldcw dX12_by_35 kc_RX12_354 ?_
    refine kr_icmp_ge (tgt := 46) dX12_by_38 (by decide) ?_ ?_
    · refine kr_iconst (v := -1) dX12_by_46 (by decide) ?_
      exact kr_iret dX12_by_47 rfl
    · refine kr_iload dX12_by_41 4 rfl ?_
      refine kr_if_ge (tgt := 48) dX12_by_43 (by decide) ?_ ?_
      · refine kr_iload_n dX12_by_48 rfl 2 rfl ?_
        refine kr_istore (lv' := [(5, .int p2), (0, kr_r E 346), (1, .int p1), (2, .int p2), (3, .int p3), (4, .int p4)]) dX12_by_49 (by decide) rfl ?_
        refine kr_iconst (v := 0) dX12_by_51 (by decide) ?_
        refine kr_istore (lv' := [(6, .int (0 : Int32)), (5, .int p2), (0, kr_r E 346), (1, .int p1), (2, .int p2), (3, .int p3), (4, .int p4)]) dX12_by_52 (by decide) rfl ?_
        refine kr_sub [2, 3, 5, 6, 1, 0] rfl ?_
        exact r_X12_by_54 E p1 p3 p4 _ p2 (0 : Int32) M6
      · refine kr_iconst (v := -1) dX12_by_46 (by decide) ?_
        exact kr_iret dX12_by_47 rfl
  · refine kr_bipush (v := -2) dX12_by_15 (by decide) ?_
    exact kr_iret dX12_by_17 rfl
theorem dX12_learns_0 : decode cX12_learns 0 = .ok (.aload_n 0, 1) := by decide +kernel
theorem dX12_learns_1 : decode cX12_learns 1 = .ok (.iconst 0, 1) := by decide +kernel
theorem dX12_learns_2 : decode cX12_learns 2 = .ok (.putfield 138, 3) := by decide +kernel
theorem dX12_learns_5 : decode cX12_learns 5 = .ok (.aload_n 0, 1) := by decide +kernel
theorem dX12_learns_6 : decode cX12_learns 6 = .ok (.iload_n 1, 1) := by decide +kernel
theorem dX12_learns_7 : decode cX12_learns 7 = .ok (.iload_n 2, 1) := by decide +kernel
theorem dX12_learns_8 : decode cX12_learns 8 = .ok (.iload_n 3, 1) := by decide +kernel
theorem dX12_learns_9 : decode cX12_learns 9 = .ok (.invokevirtual 481, 3) := by decide +kernel
theorem dX12_learns_12 : decode cX12_learns 12 = .ok (.ifCond .eq 16, 3) := by decide +kernel
theorem dX12_learns_15 : decode cX12_learns 15 = .ok (.iload 4, 2) := by decide +kernel
theorem dX12_learns_17 : decode cX12_learns 17 = .ok (.i2l, 1) := by decide +kernel
theorem dX12_learns_18 : decode cX12_learns 18 = .ok (.lconst 0, 1) := by decide +kernel
theorem dX12_learns_19 : decode cX12_learns 19 = .ok (.ldc2_w 373, 3) := by decide +kernel
theorem dX12_learns_22 : decode cX12_learns 22 = .ok (.invokestatic 143, 3) := by decide +kernel
theorem dX12_learns_25 : decode cX12_learns 25 = .ok (.ifCond .ne 6, 3) := by decide +kernel
theorem dX12_learns_28 : decode cX12_learns 28 = .ok (.bipush (-2), 2) := by decide +kernel
theorem dX12_learns_30 : decode cX12_learns 30 = .ok (.ireturn, 1) := by decide +kernel
theorem dX12_learns_31 : decode cX12_learns 31 = .ok (.aload_n 0, 1) := by decide +kernel
theorem dX12_learns_32 : decode cX12_learns 32 = .ok (.invokevirtual 337, 3) := by decide +kernel
theorem dX12_learns_35 : decode cX12_learns 35 = .ok (.iconst 0, 1) := by decide +kernel
theorem dX12_learns_36 : decode cX12_learns 36 = .ok (.istore 5, 2) := by decide +kernel
theorem dX12_learns_38 : decode cX12_learns 38 = .ok (.iconst 0, 1) := by decide +kernel
theorem dX12_learns_39 : decode cX12_learns 39 = .ok (.istore 6, 2) := by decide +kernel
theorem dX12_learns_41 : decode cX12_learns 41 = .ok (.iload 6, 2) := by decide +kernel
theorem dX12_learns_43 : decode cX12_learns 43 = .ok (.aload_n 0, 1) := by decide +kernel
theorem dX12_learns_44 : decode cX12_learns 44 = .ok (.getfield 34, 3) := by decide +kernel
theorem dX12_learns_47 : decode cX12_learns 47 = .ok (.iconst 5, 1) := by decide +kernel
theorem dX12_learns_48 : decode cX12_learns 48 = .ok (.iaload, 1) := by decide +kernel
theorem dX12_learns_49 : decode cX12_learns 49 = .ok (.if_icmp .ge 55, 3) := by decide +kernel
theorem dX12_learns_52 : decode cX12_learns 52 = .ok (.iconst 0, 1) := by decide +kernel
theorem dX12_learns_53 : decode cX12_learns 53 = .ok (.istore 7, 2) := by decide +kernel
theorem dX12_learns_55 : decode cX12_learns 55 = .ok (.iload 7, 2) := by decide +kernel
theorem dX12_learns_57 : decode cX12_learns 57 = .ok (.iconst 2, 1) := by decide +kernel
theorem dX12_learns_58 : decode cX12_learns 58 = .ok (.if_icmp .ge 40, 3) := by decide +kernel
theorem dX12_learns_61 : decode cX12_learns 61 = .ok (.iload 5, 2) := by decide +kernel
theorem dX12_learns_63 : decode cX12_learns 63 = .ok (.aload_n 0, 1) := by decide +kernel
theorem dX12_learns_64 : decode cX12_learns 64 = .ok (.iload 6, 2) := by decide +kernel
theorem dX12_learns_66 : decode cX12_learns 66 = .ok (.iload 7, 2) := by decide +kernel
theorem dX12_learns_68 : decode cX12_learns 68 = .ok (.iload 4, 2) := by decide +kernel
theorem dX12_learns_70 : decode cX12_learns 70 = .ok (.invokevirtual 375, 3) := by decide +kernel
theorem dX12_learns_73 : decode cX12_learns 73 = .ok (.ifCond .eq 15, 3) := by decide +kernel
theorem dX12_learns_76 : decode cX12_learns 76 = .ok (.iconst 1, 1) := by decide +kernel
theorem dX12_learns_77 : decode cX12_learns 77 = .ok (.iconst 2, 1) := by decide +kernel
theorem dX12_learns_78 : decode cX12_learns 78 = .ok (.iload 6, 2) := by decide +kernel
theorem dX12_learns_80 : decode cX12_learns 80 = .ok (.imul, 1) := by decide +kernel
theorem dX12_learns_81 : decode cX12_learns 81 = .ok (.iload 7, 2) := by decide +kernel
theorem dX12_learns_83 : decode cX12_learns 83 = .ok (.iadd, 1) := by decide +kernel
theorem dX12_learns_84 : decode cX12_learns 84 = .ok (.ishl, 1) := by decide +kernel
theorem dX12_learns_85 : decode cX12_learns 85 = .ok (.goto 4, 3) := by decide +kernel
theorem dX12_learns_88 : decode cX12_learns 88 = .ok (.iconst 0, 1) := by decide +kernel
theorem dX12_learns_89 : decode cX12_learns 89 = .ok (.ior, 1) := by decide +kernel
theorem dX12_learns_90 : decode cX12_learns 90 = .ok (.istore 5, 2) := by decide +kernel
theorem dX12_learns_92 : decode cX12_learns 92 = .ok (.iinc 7 1, 3) := by decide +kernel
theorem dX12_learns_95 : decode cX12_learns 95 = .ok (.goto (-40), 3) := by decide +kernel
theorem dX12_learns_98 : decode cX12_learns 98 = .ok (.iinc 6 1, 3) := by decide +kernel
theorem dX12_learns_101 : decode cX12_learns 101 = .ok (.goto (-60), 3) := by decide +kernel
theorem dX12_learns_104 : decode cX12_learns 104 = .ok (.iconst 0, 1) := by decide +kernel
theorem dX12_learns_105 : decode cX12_learns 105 = .ok (.istore 6, 2) := by decide +kernel
theorem dX12_learns_107 : decode cX12_learns 107 = .ok (.iload 6, 2) := by decide +kernel
theorem dX12_learns_109 : decode cX12_learns 109 = .ok (.bipush 12, 2) := by decide +kernel
theorem dX12_learns_111 : decode cX12_learns 111 = .ok (.if_icmp .ge 29, 3) := by decide +kernel
theorem dX12_learns_114 : decode cX12_learns 114 = .ok (.aload_n 0, 1) := by decide +kernel
theorem dX12_learns_115 : decode cX12_learns 115 = .ok (.getfield 120, 3) := by decide +kernel
theorem dX12_learns_118 : decode cX12_learns 118 = .ok (.iload 6, 2) := by decide +kernel
theorem dX12_learns_120 : decode cX12_learns 120 = .ok (.iload 6, 2) := by decide +kernel
theorem dX12_learns_122 : decode cX12_learns 122 = .ok (.iload_n 2, 1) := by decide +kernel
theorem dX12_learns_123 : decode cX12_learns 123 = .ok (.if_icmp .ne 7, 3) := by decide +kernel
theorem dX12_learns_126 : decode cX12_learns 126 = .ok (.iconst 0, 1) := by decide +kernel
theorem dX12_learns_127 : decode cX12_learns 127 = .ok (.goto 6, 3) := by decide +kernel
theorem dX12_learns_130 : decode cX12_learns 130 = .ok (.ldc_w 354, 3) := by decide +kernel
theorem dX12_learns_133 : decode cX12_learns 133 = .ok (.iastore, 1) := by decide +kernel
theorem dX12_learns_134 : decode cX12_learns 134 = .ok (.iinc 6 1, 3) := by decide +kernel
theorem dX12_learns_137 : decode cX12_learns 137 = .ok (.goto (-30), 3) := by decide +kernel
theorem dX12_learns_140 : decode cX12_learns 140 = .ok (.iconst 1, 1) := by decide +kernel
theorem dX12_learns_141 : decode cX12_learns 141 = .ok (.istore 6, 2) := by decide +kernel
theorem dX12_learns_143 : decode cX12_learns 143 = .ok (.iload 6, 2) := by decide +kernel
theorem dX12_learns_145 : decode cX12_learns 145 = .ok (.ifCond .eq 219, 3) := by decide +kernel
theorem dX12_learns_148 : decode cX12_learns 148 = .ok (.iconst 0, 1) := by decide +kernel
theorem dX12_learns_149 : decode cX12_learns 149 = .ok (.istore 6, 2) := by decide +kernel
theorem dX12_learns_151 : decode cX12_learns 151 = .ok (.iconst 0, 1) := by decide +kernel
theorem dX12_learns_152 : decode cX12_learns 152 = .ok (.istore 7, 2) := by decide +kernel
theorem dX12_learns_154 : decode cX12_learns 154 = .ok (.iload 7, 2) := by decide +kernel
theorem dX12_learns_156 : decode cX12_learns 156 = .ok (.aload_n 0, 1) := by decide +kernel
theorem dX12_learns_157 : decode cX12_learns 157 = .ok (.getfield 34, 3) := by decide +kernel
theorem dX12_learns_160 : decode cX12_learns 160 = .ok (.iconst 5, 1) := by decide +kernel
theorem dX12_learns_161 : decode cX12_learns 161 = .ok (.iaload, 1) := by decide +kernel
theorem dX12_learns_162 : decode cX12_learns 162 = .ok (.if_icmp .ge 199, 3) := by decide +kernel
theorem dX12_learns_165 : decode cX12_learns 165 = .ok (.aload_n 0, 1) := by decide +kernel
theorem dX12_learns_166 : decode cX12_learns 166 = .ok (.iload 7, 2) := by decide +kernel
theorem dX12_learns_168 : decode cX12_learns 168 = .ok (.aload_n 0, 1) := by decide +kernel
theorem dX12_learns_169 : decode cX12_learns 169 = .ok (.getfield 58, 3) := by decide +kernel
theorem dX12_learns_172 : decode cX12_learns 172 = .ok (.iconst 3, 1) := by decide +kernel
theorem dX12_learns_173 : decode cX12_learns 173 = .ok (.iload_n 1, 1) := by decide +kernel
theorem dX12_learns_174 : decode cX12_learns 174 = .ok (.imul, 1) := by decide +kernel
theorem dX12_learns_175 : decode cX12_learns 175 = .ok (.iaload, 1) := by decide +kernel
theorem dX12_learns_176 : decode cX12_learns 176 = .ok (.invokevirtual 475, 3) := by decide +kernel
theorem dX12_learns_179 : decode cX12_learns 179 = .ok (.ifCond .ne 6, 3) := by decide +kernel
theorem dX12_learns_182 : decode cX12_learns 182 = .ok (.goto 173, 3) := by decide +kernel
theorem dX12_learns_185 : decode cX12_learns 185 = .ok (.aload_n 0, 1) := by decide +kernel
theorem dX12_learns_186 : decode cX12_learns 186 = .ok (.iload 7, 2) := by decide +kernel
theorem dX12_learns_188 : decode cX12_learns 188 = .ok (.invokevirtual 340, 3) := by decide +kernel
theorem dX12_learns_191 : decode cX12_learns 191 = .ok (.aload_n 0, 1) := by decide +kernel
theorem dX12_learns_192 : decode cX12_learns 192 = .ok (.getfield 58, 3) := by decide +kernel
theorem dX12_learns_195 : decode cX12_learns 195 = .ok (.iconst 3, 1) := by decide +kernel
theorem dX12_learns_196 : decode cX12_learns 196 = .ok (.iload_n 1, 1) := by decide +kernel
theorem dX12_learns_197 : decode cX12_learns 197 = .ok (.imul, 1) := by decide +kernel
theorem dX12_learns_198 : decode cX12_learns 198 = .ok (.iconst 1, 1) := by decide +kernel
theorem dX12_learns_199 : decode cX12_learns 199 = .ok (.iadd, 1) := by decide +kernel
theorem dX12_learns_200 : decode cX12_learns 200 = .ok (.iaload, 1) := by decide +kernel
theorem dX12_learns_201 : decode cX12_learns 201 = .ok (.imul, 1) := by decide +kernel
theorem dX12_learns_202 : decode cX12_learns 202 = .ok (.istore 8, 2) := by decide +kernel
theorem dX12_learns_204 : decode cX12_learns 204 = .ok (.iconst 0, 1) := by decide +kernel
theorem dX12_learns_205 : decode cX12_learns 205 = .ok (.istore 9, 2) := by decide +kernel
theorem dX12_learns_207 : decode cX12_learns 207 = .ok (.iload 9, 2) := by decide +kernel
theorem dX12_learns_209 : decode cX12_learns 209 = .ok (.iconst 4, 1) := by decide +kernel
theorem dX12_learns_210 : decode cX12_learns 210 = .ok (.if_icmp .ge 145, 3) := by decide +kernel
theorem dX12_learns_213 : decode cX12_learns 213 = .ok (.aload_n 0, 1) := by decide +kernel
theorem dX12_learns_214 : decode cX12_learns 214 = .ok (.getfield 52, 3) := by decide +kernel
theorem dX12_learns_217 : decode cX12_learns 217 = .ok (.iconst 4, 1) := by decide +kernel
theorem dX12_learns_218 : decode cX12_learns 218 = .ok (.iload 7, 2) := by decide +kernel
theorem dX12_learns_220 : decode cX12_learns 220 = .ok (.imul, 1) := by decide +kernel
theorem dX12_learns_221 : decode cX12_learns 221 = .ok (.iload 9, 2) := by decide +kernel
theorem dX12_learns_223 : decode cX12_learns 223 = .ok (.iconst 2, 1) := by decide +kernel
theorem dX12_learns_224 : decode cX12_learns 224 = .ok (.irem, 1) := by decide +kernel
theorem dX12_learns_225 : decode cX12_learns 225 = .ok (.iadd, 1) := by decide +kernel
theorem dX12_learns_226 : decode cX12_learns 226 = .ok (.iaload, 1) := by decide +kernel
theorem dX12_learns_227 : decode cX12_learns 227 = .ok (.bipush 6, 2) := by decide +kernel
theorem dX12_learns_229 : decode cX12_learns 229 = .ok (.iload 9, 2) := by decide +kernel
theorem dX12_learns_231 : decode cX12_learns 231 = .ok (.iconst 2, 1) := by decide +kernel
theorem dX12_learns_232 : decode cX12_learns 232 = .ok (.idiv, 1) := by decide +kernel
theorem dX12_learns_233 : decode cX12_learns 233 = .ok (.imul, 1) := by decide +kernel
theorem dX12_learns_234 : decode cX12_learns 234 = .ok (.iadd, 1) := by decide +kernel
theorem dX12_learns_235 : decode cX12_learns 235 = .ok (.istore 10, 2) := by decide +kernel
theorem dX12_learns_237 : decode cX12_learns 237 = .ok (.iload 9, 2) := by decide +kernel
theorem dX12_learns_239 : decode cX12_learns 239 = .ok (.iconst 2, 1) := by decide +kernel
theorem dX12_learns_240 : decode cX12_learns 240 = .ok (.idiv, 1) := by decide +kernel
theorem dX12_learns_241 : decode cX12_learns 241 = .ok (.iconst 1, 1) := by decide +kernel
theorem dX12_learns_242 : decode cX12_learns 242 = .ok (.if_icmp .eq 20, 3) := by decide +kernel
theorem dX12_learns_245 : decode cX12_learns 245 = .ok (.iload 5, 2) := by decide +kernel
theorem dX12_learns_247 : decode cX12_learns 247 = .ok (.iconst 2, 1) := by decide +kernel
theorem dX12_learns_248 : decode cX12_learns 248 = .ok (.iload 7, 2) := by decide +kernel
theorem dX12_learns_250 : decode cX12_learns 250 = .ok (.imul, 1) := by decide +kernel
theorem dX12_learns_251 : decode cX12_learns 251 = .ok (.iload 9, 2) := by decide +kernel
theorem dX12_learns_253 : decode cX12_learns 253 = .ok (.iconst 2, 1) := by decide +kernel
theorem dX12_learns_254 : decode cX12_learns 254 = .ok (.irem, 1) := by decide +kernel
theorem dX12_learns_255 : decode cX12_learns 255 = .ok (.iadd, 1) := by decide +kernel
theorem dX12_learns_256 : decode cX12_learns 256 = .ok (.invokestatic 446, 3) := by decide +kernel
theorem dX12_learns_259 : decode cX12_learns 259 = .ok (.ifCond .eq 7, 3) := by decide +kernel
theorem dX12_learns_262 : decode cX12_learns 262 = .ok (.iconst 1, 1) := by decide +kernel
theorem dX12_learns_263 : decode cX12_learns 263 = .ok (.goto 4, 3) := by decide +kernel
theorem dX12_learns_266 : decode cX12_learns 266 = .ok (.iconst 0, 1) := by decide +kernel
theorem dX12_learns_267 : decode cX12_learns 267 = .ok (.istore 11, 2) := by decide +kernel
theorem dX12_learns_269 : decode cX12_learns 269 = .ok (.aload_n 0, 1) := by decide +kernel
theorem dX12_learns_270 : decode cX12_learns 270 = .ok (.getfield 52, 3) := by decide +kernel
theorem dX12_learns_273 : decode cX12_learns 273 = .ok (.iconst 4, 1) := by decide +kernel
theorem dX12_learns_274 : decode cX12_learns 274 = .ok (.iload 7, 2) := by decide +kernel
theorem dX12_learns_276 : decode cX12_learns 276 = .ok (.imul, 1) := by decide +kernel
theorem dX12_learns_277 : decode cX12_learns 277 = .ok (.iconst 1, 1) := by decide +kernel
theorem dX12_learns_278 : decode cX12_learns 278 = .ok (.iadd, 1) := by decide +kernel
theorem dX12_learns_279 : decode cX12_learns 279 = .ok (.iload 9, 2) := by decide +kernel
theorem dX12_learns_281 : decode cX12_learns 281 = .ok (.iconst 2, 1) := by decide +kernel
theorem dX12_learns_282 : decode cX12_learns 282 = .ok (.irem, 1) := by decide +kernel
theorem dX12_learns_283 : decode cX12_learns 283 = .ok (.isub, 1) := by decide +kernel
theorem dX12_learns_284 : decode cX12_learns 284 = .ok (.iaload, 1) := by decide +kernel
theorem dX12_learns_285 : decode cX12_learns 285 = .ok (.bipush 6, 2) := by decide +kernel
theorem dX12_learns_287 : decode cX12_learns 287 = .ok (.iload 11, 2) := by decide +kernel
theorem dX12_learns_289 : decode cX12_learns 289 = .ok (.imul, 1) := by decide +kernel
theorem dX12_learns_290 : decode cX12_learns 290 = .ok (.iadd, 1) := by decide +kernel
theorem dX12_learns_291 : decode cX12_learns 291 = .ok (.istore 12, 2) := by decide +kernel
theorem dX12_learns_293 : decode cX12_learns 293 = .ok (.aload_n 0, 1) := by decide +kernel
theorem dX12_learns_294 : decode cX12_learns 294 = .ok (.getfield 120, 3) := by decide +kernel
theorem dX12_learns_297 : decode cX12_learns 297 = .ok (.iload 10, 2) := by decide +kernel
theorem dX12_learns_299 : decode cX12_learns 299 = .ok (.iaload, 1) := by decide +kernel
theorem dX12_learns_300 : decode cX12_learns 300 = .ok (.ldc_w 354, 3) := by decide +kernel
theorem dX12_learns_303 : decode cX12_learns 303 = .ok (.if_icmp .ge 46, 3) := by decide +kernel
theorem dX12_learns_306 : decode cX12_learns 306 = .ok (.aload_n 0, 1) := by decide +kernel
theorem dX12_learns_307 : decode cX12_learns 307 = .ok (.getfield 120, 3) := by decide +kernel
theorem dX12_learns_310 : decode cX12_learns 310 = .ok (.iload 10, 2) := by decide +kernel
theorem dX12_learns_312 : decode cX12_learns 312 = .ok (.iaload, 1) := by decide +kernel
theorem dX12_learns_313 : decode cX12_learns 313 = .ok (.iload 8, 2) := by decide +kernel
theorem dX12_learns_315 : decode cX12_learns 315 = .ok (.iadd, 1) := by decide +kernel
theorem dX12_learns_316 : decode cX12_learns 316 = .ok (.aload_n 0, 1) := by decide +kernel
theorem dX12_learns_317 : decode cX12_learns 317 = .ok (.getfield 120, 3) := by decide +kernel
theorem dX12_learns_320 : decode cX12_learns 320 = .ok (.iload 12, 2) := by decide +kernel
theorem dX12_learns_322 : decode cX12_learns 322 = .ok (.iaload, 1) := by decide +kernel
theorem dX12_learns_323 : decode cX12_learns 323 = .ok (.if_icmp .lt 6, 3) := by decide +kernel
theorem dX12_learns_326 : decode cX12_learns 326 = .ok (.goto 23, 3) := by decide +kernel
theorem dX12_learns_329 : decode cX12_learns 329 = .ok (.aload_n 0, 1) := by decide +kernel
theorem dX12_learns_330 : decode cX12_learns 330 = .ok (.getfield 120, 3) := by decide +kernel
theorem dX12_learns_333 : decode cX12_learns 333 = .ok (.iload 12, 2) := by decide +kernel
theorem dX12_learns_335 : decode cX12_learns 335 = .ok (.aload_n 0, 1) := by decide +kernel
theorem dX12_learns_336 : decode cX12_learns 336 = .ok (.getfield 120, 3) := by decide +kernel
theorem dX12_learns_339 : decode cX12_learns 339 = .ok (.iload 10, 2) := by decide +kernel
theorem dX12_learns_341 : decode cX12_learns 341 = .ok (.iaload, 1) := by decide +kernel
theorem dX12_learns_342 : decode cX12_learns 342 = .ok (.iload 8, 2) := by decide +kernel
theorem dX12_learns_344 : decode cX12_learns 344 = .ok (.iadd, 1) := by decide +kernel
theorem dX12_learns_345 : decode cX12_learns 345 = .ok (.iastore, 1) := by decide +kernel
theorem dX12_learns_346 : decode cX12_learns 346 = .ok (.iconst 1, 1) := by decide +kernel
theorem dX12_learns_347 : decode cX12_learns 347 = .ok (.istore 6, 2) := by decide +kernel
theorem dX12_learns_349 : decode cX12_learns 349 = .ok (.iinc 9 1, 3) := by decide +kernel
theorem dX12_learns_352 : decode cX12_learns 352 = .ok (.goto (-145), 3) := by decide +kernel
theorem dX12_learns_355 : decode cX12_learns 355 = .ok (.iinc 7 1, 3) := by decide +kernel
theorem dX12_learns_358 : decode cX12_learns 358 = .ok (.goto (-204), 3) := by decide +kernel
theorem dX12_learns_361 : decode cX12_learns 361 = .ok (.goto (-218), 3) := by decide +kernel
theorem dX12_learns_364 : decode cX12_learns 364 = .ok (.aload_n 0, 1) := by decide +kernel
theorem dX12_learns_365 : decode cX12_learns 365 = .ok (.getfield 120, 3) := by decide +kernel
theorem dX12_learns_368 : decode cX12_learns 368 = .ok (.bipush 6, 2) := by decide +kernel
theorem dX12_learns_370 : decode cX12_learns 370 = .ok (.iload_n 3, 1) := by decide +kernel
theorem dX12_learns_371 : decode cX12_learns 371 = .ok (.iadd, 1) := by decide +kernel
theorem dX12_learns_372 : decode cX12_learns 372 = .ok (.iaload, 1) := by decide +kernel
theorem dX12_learns_373 : decode cX12_learns 373 = .ok (.ldc_w 354, 3) := by decide +kernel
theorem dX12_learns_376 : decode cX12_learns 376 = .ok (.if_icmp .lt 7, 3) := by decide +kernel
theorem dX12_learns_379 : decode cX12_learns 379 = .ok (.iconst (-1), 1) := by decide +kernel
theorem dX12_learns_380 : decode cX12_learns 380 = .ok (.goto 12, 3) := by decide +kernel
theorem dX12_learns_383 : decode cX12_learns 383 = .ok (.aload_n 0, 1) := by decide +kernel
theorem dX12_learns_384 : decode cX12_learns 384 = .ok (.getfield 120, 3) := by decide +kernel
theorem dX12_learns_387 : decode cX12_learns 387 = .ok (.bipush 6, 2) := by decide +kernel
theorem dX12_learns_389 : decode cX12_learns 389 = .ok (.iload_n 3, 1) := by decide +kernel
theorem dX12_learns_390 : decode cX12_learns 390 = .ok (.iadd, 1) := by decide +kernel
theorem dX12_learns_391 : decode cX12_learns 391 = .ok (.iaload, 1) := by decide +kernel
theorem dX12_learns_392 : decode cX12_learns 392 = .ok (.ireturn, 1) := by decide +kernel
theorem r_X12_learns_364 (E : kr_E)  (l3 : Int32)  (M : kr_M) : kR kr_vi E Y_X12_learns 4 364 [(0, kr_r E 346), (3, .int l3)] [] M (f_X12_learns_364 l3 M) := by
  rw [f_X12_learns_364]
  refine kr_aload_n dX12_learns_364 rfl 0 rfl ?_
  refine kr_getA (o := 35) (ci := 12) (j := 55) dX12_learns_365 kr_at_346 fl_RX12_120 rfl ?_
  refine kr_bipush (v := 6) dX12_learns_368 (by decide) ?_
  refine kr_iload_n dX12_learns_370 rfl 1 rfl ?_
  refine kr_iadd dX12_learns_371 ?_
  refine kr_iald dX12_learns_372 kr_at_381 (fun v1 => ?_)
  refine kr_ldcw dX12_learns_373 kc_RX12_354 ?_
  refine kr_icmp_lt (tgt := 383) dX12_learns_376 (by decide) ?_ ?_
  · refine kr_aload_n dX12_learns_383 rfl 0 rfl ?_
    refine kr_getA (o := 35) (ci := 12) (j := 55) dX12_learns_384 kr_at_346 fl_RX12_120 rfl ?_
    refine kr_bipush (v := 6) dX12_learns_387 (by decide) ?_
    refine kr_iload_n dX12_learns_389 rfl 1 rfl ?_
    refine kr_iadd dX12_learns_390 ?_
    refine kr_iald dX12_learns_391 kr_at_381 (fun v2 => ?_)
    exact kr_iret dX12_learns_392 rfl
  · refine kr_iconst (v := -1) dX12_learns_379 (by decide) ?_
    refine kr_goto (tgt := 392) dX12_learns_380 (by decide) ?_
    exact kr_iret dX12_learns_392 rfl
theorem r_X12_learns_361 (E : kr_E) (k_143 : Int32 → kr_M → Option (Int32 × kr_M)) (l1 : Int32) (l3 : Int32) (l5 : Int32) (l6 : Int32) (hk_143 : ∀ (x6 : Int32) (M : kr_M), kR kr_vi E Y_X12_learns 4 143 [(0, kr_r E 346), (1, .int l1), (3, .int l3), (5, .int l5), (6, .int x6)] [] M (k_143 x6 M)) (M : kr_M) : kR kr_vi E Y_X12_learns 4 361 [(0, kr_r E 346), (1, .int l1), (3, .int l3), (5, .int l5), (6, .int l6)] [] M (f_X12_learns_361 k_143 l6 M) := by
  rw [f_X12_learns_361]
  refine kr_goto (tgt := 143) dX12_learns_361 (by decide) ?_
  refine kr_sub [0, 1, 2, 3, 4] rfl ?_
  exact hk_143 l6 M
theorem r_X12_learns_355 (E : kr_E) (k_154 : Int32 → Int32 → kr_M → Option (Int32 × kr_M)) (l1 : Int32) (l3 : Int32) (l5 : Int32) (l6 : Int32) (l7 : Int32) (hk_154 : ∀ (x6 : Int32) (x7 : Int32) (M : kr_M), kR kr_vi E Y_X12_learns 4 154 [(0, kr_r E 346), (1, .int l1), (3, .int l3), (5, .int l5), (6, .int x6), (7, .int x7)] [] M (k_154 x6 x7 M)) (M : kr_M) : kR kr_vi E Y_X12_learns 4 355 [(0, kr_r E 346), (1, .int l1), (3, .int l3), (5, .int l5), (6, .int l6), (7, .int l7)] [] M (f_X12_learns_355 k_154 l6 l7 M) := by
  rw [f_X12_learns_355]
  refine kr_iinc (j := 5) (v := (l7 + (1 : Int32))) (lv' := [(7, .int (l7 + (1 : Int32))), (0, kr_r E 346), (1, .int l1), (3, .int l3), (5, .int l5), (6, .int l6)]) dX12_learns_355 rfl rfl (by decide) rfl ?_
  refine kr_goto (tgt := 154) dX12_learns_358 (by decide) ?_
  refine kr_sub [1, 2, 3, 4, 5, 0] rfl ?_
  exact hk_154 l6 (l7 + (1 : Int32)) M
theorem r_X12_learns_349 (E : kr_E) (k_207 : Int32 → Int32 → kr_M → Option (Int32 × kr_M)) (l1 : Int32) (l3 : Int32) (l5 : Int32) (l6 : Int32) (l7 : Int32) (l8 : Int32) (l9 : Int32) (hk_207 : ∀ (x6 : Int32) (x9 : Int32) (M : kr_M), kR kr_vi E Y_X12_learns 4 207 [(0, kr_r E 346), (1, .int l1), (3, .int l3), (5, .int l5), (6, .int x6), (7, .int l7), (8, .int l8), (9, .int x9)] [] M (k_207 x6 x9 M)) (M : kr_M) : kR kr_vi E Y_X12_learns 4 349 [(0, kr_r E 346), (1, .int l1), (3, .int l3), (5, .int l5), (6, .int l6), (7, .int l7), (8, .int l8), (9, .int l9)] [] M (f_X12_learns_349 k_207 l6 l9 M) := by
  rw [f_X12_learns_349]
  refine kr_iinc (j := 7) (v := (l9 + (1 : Int32))) (lv' := [(9, .int (l9 + (1 : Int32))), (0, kr_r E 346), (1, .int l1), (3, .int l3), (5, .int l5), (6, .int l6), (7, .int l7), (8, .int l8)]) dX12_learns_349 rfl rfl (by decide) rfl ?_
  refine kr_goto (tgt := 207) dX12_learns_352 (by decide) ?_
  refine kr_sub [1, 2, 3, 4, 5, 6, 7, 0] rfl ?_
  exact hk_207 l6 (l9 + (1 : Int32)) M
theorem r_X12_learns_267 (E : kr_E) (k_207 : Int32 → Int32 → kr_M → Option (Int32 × kr_M)) (l1 : Int32) (l3 : Int32) (l5 : Int32) (l6 : Int32) (l7 : Int32) (l8 : Int32) (l9 : Int32) (l10 : Int32) (s0 : Int32) (hk_207 : ∀ (x6 : Int32) (x9 : Int32) (M : kr_M), kR kr_vi E Y_X12_learns 4 207 [(0, kr_r E 346), (1, .int l1), (3, .int l3), (5, .int l5), (6, .int x6), (7, .int l7), (8, .int l8), (9, .int x9)] [] M (k_207 x6 x9 M)) (M : kr_M) : kR kr_vi E Y_X12_learns 4 267 [(0, kr_r E 346), (1, .int l1), (3, .int l3), (5, .int l5), (6, .int l6), (7, .int l7), (8, .int l8), (9, .int l9), (10, .int l10)] [.int s0] M (f_X12_learns_267 k_207 l6 l7 l8 l9 l10 s0 M) := by
  rw [f_X12_learns_267]
  refine kr_istore (lv' := [(11, .int s0), (0, kr_r E 346), (1, .int l1), (3, .int l3), (5, .int l5), (6, .int l6), (7, .int l7), (8, .int l8), (9, .int l9), (10, .int l10)]) dX12_learns_267 (by decide) rfl ?_
  refine kr_aload_n dX12_learns_269 rfl 1 rfl ?_
  refine kr_getA (o := 13) (ci := 12) (j := 23) dX12_learns_270 kr_at_346 fl_RX12_52 rfl ?_
  refine kr_iconst (v := 4) dX12_learns_273 (by decide) ?_
  refine kr_iload dX12_learns_274 6 rfl ?_
  refine kr_imul dX12_learns_276 ?_
  refine kr_iconst (v := 1) dX12_learns_277 (by decide) ?_
  refine kr_iadd dX12_learns_278 ?_
  refine kr_iload dX12_learns_279 8 rfl ?_
  refine kr_iconst (v := 2) dX12_learns_281 (by decide) ?_
  refine kr_irem dX12_learns_282 (fun n1 => ?_)
  refine kr_isub dX12_learns_283 ?_
  refine kr_iald dX12_learns_284 kr_at_359 (fun v2 => ?_)
  refine kr_bipush (v := 6) dX12_learns_285 (by decide) ?_
  refine kr_iload dX12_learns_287 0 rfl ?_
  refine kr_imul dX12_learns_289 ?_
  refine kr_iadd dX12_learns_290 ?_
  refine kr_nmi (fun v3 => ?_)
  refine kr_istore (lv' := [(12, .int v3), (11, .int s0), (0, kr_r E 346), (1, .int l1), (3, .int l3), (5, .int l5), (6, .int l6), (7, .int l7), (8, .int l8), (9, .int l9), (10, .int l10)]) dX12_learns_291 (by decide) rfl ?_
  refine kr_aload_n dX12_learns_293 rfl 2 rfl ?_
  refine kr_getA (o := 35) (ci := 12) (j := 55) dX12_learns_294 kr_at_346 fl_RX12_120 rfl ?_
  refine kr_iload dX12_learns_297 10 rfl ?_
  refine kr_iald dX12_learns_299 kr_at_381 (fun v4 => ?_)
  refine kr_ldcw dX12_learns_300 kc_RX12_354 ?_
  refine kr_icmp_ge (tgt := 349) dX12_learns_303 (by decide) ?_ ?_
  · refine kr_sub [2, 3, 4, 5, 6, 7, 8, 9] rfl ?_
    exact r_X12_learns_349 E _ l1 l3 l5 l6 l7 l8 l9 hk_207 M
  · refine kr_aload_n dX12_learns_306 rfl 2 rfl ?_
    refine kr_getA (o := 35) (ci := 12) (j := 55) dX12_learns_307 kr_at_346 fl_RX12_120 rfl ?_
    refine kr_iload dX12_learns_310 10 rfl ?_
    refine kr_iald dX12_learns_312 kr_at_381 (fun v5 => ?_)
    refine kr_iload dX12_learns_313 8 rfl ?_
    refine kr_iadd dX12_learns_315 ?_
    refine kr_aload_n dX12_learns_316 rfl 2 rfl ?_
    refine kr_getA (o := 35) (ci := 12) (j := 55) dX12_learns_317 kr_at_346 fl_RX12_120 rfl ?_
    refine kr_iload dX12_learns_320 0 rfl ?_
    refine kr_iald dX12_learns_322 kr_at_381 (fun v6 => ?_)
    refine kr_icmp_lt (tgt := 329) dX12_learns_323 (by decide) ?_ ?_
    · refine kr_aload_n dX12_learns_329 rfl 2 rfl ?_
      refine kr_getA (o := 35) (ci := 12) (j := 55) dX12_learns_330 kr_at_346 fl_RX12_120 rfl ?_
      refine kr_iload dX12_learns_333 0 rfl ?_
      refine kr_aload_n dX12_learns_335 rfl 2 rfl ?_
      refine kr_getA (o := 35) (ci := 12) (j := 55) dX12_learns_336 kr_at_346 fl_RX12_120 rfl ?_
      refine kr_iload dX12_learns_339 10 rfl ?_
      refine kr_iald dX12_learns_341 kr_at_381 (fun v7 => ?_)
      refine kr_iload dX12_learns_342 8 rfl ?_
      refine kr_iadd dX12_learns_344 ?_
      refine kr_iast dX12_learns_345 kr_at_381 (fun M8 => ?_)
      refine kr_iconst (v := 1) dX12_learns_346 (by decide) ?_
      refine kr_istore (lv' := [(6, .int (1 : Int32)), (12, .int v3), (11, .int s0), (0, kr_r E 346), (1, .int l1), (3, .int l3), (5, .int l5), (7, .int l7), (8, .int l8), (9, .int l9), (10, .int l10)]) dX12_learns_347 (by decide) rfl ?_
      refine kr_sub [3, 4, 5, 6, 0, 7, 8, 9] rfl ?_
      exact r_X12_learns_349 E _ l1 l3 l5 (1 : Int32) l7 l8 l9 hk_207 M8
    · refine kr_goto (tgt := 349) dX12_learns_326 (by decide) ?_
      refine kr_sub [2, 3, 4, 5, 6, 7, 8, 9] rfl ?_
      exact r_X12_learns_349 E _ l1 l3 l5 l6 l7 l8 l9 hk_207 M
theorem r_X12_learns_262 (E : kr_E) (k_207 : Int32 → Int32 → kr_M → Option (Int32 × kr_M)) (l1 : Int32) (l3 : Int32) (l5 : Int32) (l6 : Int32) (l7 : Int32) (l8 : Int32) (l9 : Int32) (l10 : Int32) (hk_207 : ∀ (x6 : Int32) (x9 : Int32) (M : kr_M), kR kr_vi E Y_X12_learns 4 207 [(0, kr_r E 346), (1, .int l1), (3, .int l3), (5, .int l5), (6, .int x6), (7, .int l7), (8, .int l8), (9, .int x9)] [] M (k_207 x6 x9 M)) (M : kr_M) : kR kr_vi E Y_X12_learns 4 262 [(0, kr_r E 346), (1, .int l1), (3, .int l3), (5, .int l5), (6, .int l6), (7, .int l7), (8, .int l8), (9, .int l9), (10, .int l10)] [] M (f_X12_learns_262 k_207 l6 l7 l8 l9 l10 M) := by
  rw [f_X12_learns_262]
  refine kr_iconst (v := 1) dX12_learns_262 (by decide) ?_
  refine kr_goto (tgt := 267) dX12_learns_263 (by decide) ?_
  refine kr_sub [0, 1, 2, 3, 4, 5, 6, 7, 8] rfl ?_
  exact r_X12_learns_267 E _ l1 l3 l5 l6 l7 l8 l9 l10 (1 : Int32) hk_207 M
theorem r_X12_learns_207 (E : kr_E) (k_154 : Int32 → Int32 → kr_M → Option (Int32 × kr_M)) (l1 : Int32) (l3 : Int32) (l5 : Int32) (l7 : Int32) (l8 : Int32) (hk_154 : ∀ (x6 : Int32) (x7 : Int32) (M : kr_M), kR kr_vi E Y_X12_learns 4 154 [(0, kr_r E 346), (1, .int l1), (3, .int l3), (5, .int l5), (6, .int x6), (7, .int x7)] [] M (k_154 x6 x7 M)) : ∀ (n : Nat) (l6 : Int32) (l9 : Int32) (M : kr_M), kR kr_vi E Y_X12_learns 4 207 [(0, kr_r E 346), (1, .int l1), (3, .int l3), (5, .int l5), (6, .int l6), (7, .int l7), (8, .int l8), (9, .int l9)] [] M (f_X12_learns_207 k_154 l5 l7 l8 n l6 l9 M) := by
  intro n
  induction n with
  | zero => intro l6 l9 M; exact kr_none
  | succ n ih =>
    intro l6 l9 M
    rw [f_X12_learns_207]
    refine kr_iload dX12_learns_207 7 rfl ?_
    refine kr_iconst (v := 4) dX12_learns_209 (by decide) ?_
    refine kr_icmp_ge (tgt := 355) dX12_learns_210 (by decide) ?_ ?_
    · refine kr_sub [0, 1, 2, 3, 4, 5] rfl ?_
      exact r_X12_learns_355 E _ l1 l3 l5 l6 l7 hk_154 M
    · refine kr_aload_n dX12_learns_213 rfl 0 rfl ?_
      refine kr_getA (o := 13) (ci := 12) (j := 23) dX12_learns_214 kr_at_346 fl_RX12_52 rfl ?_
      refine kr_iconst (v := 4) dX12_learns_217 (by decide) ?_
      refine kr_iload dX12_learns_218 5 rfl ?_
      refine kr_imul dX12_learns_220 ?_
      refine kr_iload dX12_learns_221 7 rfl ?_
      refine kr_iconst (v := 2) dX12_learns_223 (by decide) ?_
      refine kr_irem dX12_learns_224 (fun n1 => ?_)
      refine kr_iadd dX12_learns_225 ?_
      refine kr_iald dX12_learns_226 kr_at_359 (fun v2 => ?_)
      refine kr_bipush (v := 6) dX12_learns_227 (by decide) ?_
      refine kr_iload dX12_learns_229 7 rfl ?_
      refine kr_iconst (v := 2) dX12_learns_231 (by decide) ?_
      refine kr_idiv dX12_learns_232 (fun n3 => ?_)
      refine kr_imul dX12_learns_233 ?_
      refine kr_iadd dX12_learns_234 ?_
      refine kr_nmi (fun v4 => ?_)
      refine kr_istore (lv' := [(10, .int v4), (0, kr_r E 346), (1, .int l1), (3, .int l3), (5, .int l5), (6, .int l6), (7, .int l7), (8, .int l8), (9, .int l9)]) dX12_learns_235 (by decide) rfl ?_
      refine kr_iload dX12_learns_237 8 rfl ?_
      refine kr_iconst (v := 2) dX12_learns_239 (by decide) ?_
      refine kr_idiv dX12_learns_240 (fun n5 => ?_)
      refine kr_iconst (v := 1) dX12_learns_241 (by decide) ?_
      refine kr_icmp_eq (tgt := 262) dX12_learns_242 (by decide) ?_ ?_
      · refine kr_sub [1, 2, 3, 4, 5, 6, 7, 8, 0] rfl ?_
        exact r_X12_learns_262 E _ l1 l3 l5 l6 l7 l8 l9 v4 ih M
      · refine kr_iload dX12_learns_245 4 rfl ?_
        refine kr_iconst (v := 2) dX12_learns_247 (by decide) ?_
        refine kr_iload dX12_learns_248 6 rfl ?_
        refine kr_imul dX12_learns_250 ?_
        refine kr_iload dX12_learns_251 8 rfl ?_
        refine kr_iconst (v := 2) dX12_learns_253 (by decide) ?_
        refine kr_irem dX12_learns_254 (fun n6 => ?_)
        refine kr_iadd dX12_learns_255 ?_
        refine kr_Si (As := [.int l5, .int (((2 : Int32) * l7) + (l9 - l9 / (2 : Int32) * (2 : Int32)))]) (st := []) zs_X12_isBit dX12_learns_256 ml_RX12_446 (r_X12_isBit E l5 (((2 : Int32) * l7) + (l9 - l9 / (2 : Int32) * (2 : Int32))) M) rfl rfl (Nat.le_of_ble_eq_true rfl) rfl (by decide) (Nat.le_of_ble_eq_true rfl) (fun r8 M7 => ?_)
        refine kr_if_eq (tgt := 266) dX12_learns_259 (by decide) ?_ ?_
        · refine kr_iconst (v := 0) dX12_learns_266 (by decide) ?_
          refine kr_sub [1, 2, 3, 4, 5, 6, 7, 8, 0] rfl ?_
          exact r_X12_learns_267 E _ l1 l3 l5 l6 l7 l8 l9 v4 (0 : Int32) ih M7
        · refine kr_sub [1, 2, 3, 4, 5, 6, 7, 8, 0] rfl ?_
          exact r_X12_learns_262 E _ l1 l3 l5 l6 l7 l8 l9 v4 ih M7
theorem r_X12_learns_154 (E : kr_E) (k_143 : Int32 → kr_M → Option (Int32 × kr_M)) (l1 : Int32) (l3 : Int32) (l5 : Int32) (hk_143 : ∀ (x6 : Int32) (M : kr_M), kR kr_vi E Y_X12_learns 4 143 [(0, kr_r E 346), (1, .int l1), (3, .int l3), (5, .int l5), (6, .int x6)] [] M (k_143 x6 M)) : ∀ (n : Nat) (l6 : Int32) (l7 : Int32) (M : kr_M), kR kr_vi E Y_X12_learns 4 154 [(0, kr_r E 346), (1, .int l1), (3, .int l3), (5, .int l5), (6, .int l6), (7, .int l7)] [] M (f_X12_learns_154 k_143 l1 l5 n l6 l7 M) := by
  intro n
  induction n with
  | zero => intro l6 l7 M; exact kr_none
  | succ n ih =>
    intro l6 l7 M
    rw [f_X12_learns_154]
    refine kr_iload dX12_learns_154 5 rfl ?_
    refine kr_aload_n dX12_learns_156 rfl 0 rfl ?_
    refine kr_getA (o := 7) (ci := 12) (j := 17) dX12_learns_157 kr_at_346 fl_RX12_34 rfl ?_
    refine kr_iconst (v := 5) dX12_learns_160 (by decide) ?_
    refine kr_iald dX12_learns_161 kr_at_353 (fun v1 => ?_)
    refine kr_icmp_ge (tgt := 361) dX12_learns_162 (by decide) ?_ ?_
    · refine kr_sub [0, 1, 2, 3, 4] rfl ?_
      exact r_X12_learns_361 E _ l1 l3 l5 l6 hk_143 M
    · refine kr_aload_n dX12_learns_165 rfl 0 rfl ?_
      refine kr_iload dX12_learns_166 5 rfl ?_
      refine kr_aload_n dX12_learns_168 rfl 0 rfl ?_
      refine kr_getA (o := 15) (ci := 12) (j := 25) dX12_learns_169 kr_at_346 fl_RX12_58 rfl ?_
      refine kr_iconst (v := 3) dX12_learns_172 (by decide) ?_
      refine kr_iload_n dX12_learns_173 rfl 1 rfl ?_
      refine kr_imul dX12_learns_174 ?_
      refine kr_iald dX12_learns_175 kr_at_361 (fun v2 => ?_)
      refine kr_Vi (As := [.int l7, .int v2]) (st := []) zv_X12_bearsIt dX12_learns_176 ml_RX12_475 kr_at_346 (r_X12_bearsIt E l7 v2 M) rfl rfl (Nat.le_of_ble_eq_true rfl) rfl (by decide) (Nat.le_of_ble_eq_true rfl) (fun r4 M3 => ?_)
      refine kr_if_ne (tgt := 185) dX12_learns_179 (by decide) ?_ ?_
      · refine kr_aload_n dX12_learns_185 rfl 0 rfl ?_
        refine kr_iload dX12_learns_186 5 rfl ?_
        refine kr_Vi (As := [.int l7]) (st := []) zv_X12_inchesOf dX12_learns_188 ml_RX12_340 kr_at_346 (r_X12_inchesOf E l7 M3) rfl rfl (Nat.le_of_ble_eq_true rfl) rfl (by decide) (Nat.le_of_ble_eq_true rfl) (fun r6 M5 => ?_)
        refine kr_aload_n dX12_learns_191 rfl 0 rfl ?_
        refine kr_getA (o := 15) (ci := 12) (j := 25) dX12_learns_192 kr_at_346 fl_RX12_58 rfl ?_
        refine kr_iconst (v := 3) dX12_learns_195 (by decide) ?_
        refine kr_iload_n dX12_learns_196 rfl 1 rfl ?_
        refine kr_imul dX12_learns_197 ?_
        refine kr_iconst (v := 1) dX12_learns_198 (by decide) ?_
        refine kr_iadd dX12_learns_199 ?_
        refine kr_iald dX12_learns_200 kr_at_361 (fun v7 => ?_)
        refine kr_imul dX12_learns_201 ?_
        refine kr_nmi (fun v8 => ?_)
        refine kr_istore (lv' := [(8, .int v8), (0, kr_r E 346), (1, .int l1), (3, .int l3), (5, .int l5), (6, .int l6), (7, .int l7)]) dX12_learns_202 (by decide) rfl ?_
        refine kr_iconst (v := 0) dX12_learns_204 (by decide) ?_
        refine kr_istore (lv' := [(9, .int (0 : Int32)), (8, .int v8), (0, kr_r E 346), (1, .int l1), (3, .int l3), (5, .int l5), (6, .int l6), (7, .int l7)]) dX12_learns_205 (by decide) rfl ?_
        refine kr_sub [2, 3, 4, 5, 6, 7, 1, 0] rfl ?_
        exact r_X12_learns_207 E _ l1 l3 l5 l7 v8 ih _ l6 (0 : Int32) M5
      · refine kr_goto (tgt := 355) dX12_learns_182 (by decide) ?_
        refine kr_sub [0, 1, 2, 3, 4, 5] rfl ?_
        exact r_X12_learns_355 E _ l1 l3 l5 l6 l7 ih M3
theorem r_X12_learns_143 (E : kr_E)  (l1 : Int32) (l3 : Int32) (l5 : Int32)  : ∀ (n : Nat) (l6 : Int32) (M : kr_M), kR kr_vi E Y_X12_learns 4 143 [(0, kr_r E 346), (1, .int l1), (3, .int l3), (5, .int l5), (6, .int l6)] [] M (f_X12_learns_143 l1 l3 l5 n l6 M) := by
  intro n
  induction n with
  | zero => intro l6 M; exact kr_none
  | succ n ih =>
    intro l6 M
    rw [f_X12_learns_143]
    refine kr_iload dX12_learns_143 4 rfl ?_
    refine kr_if_eq (tgt := 364) dX12_learns_145 (by decide) ?_ ?_
    · refine kr_sub [0, 2] rfl ?_
      exact r_X12_learns_364 E l3 M
    · refine kr_iconst (v := 0) dX12_learns_148 (by decide) ?_
      refine kr_istore (lv' := [(6, .int (0 : Int32)), (0, kr_r E 346), (1, .int l1), (3, .int l3), (5, .int l5)]) dX12_learns_149 (by decide) rfl ?_
      refine kr_iconst (v := 0) dX12_learns_151 (by decide) ?_
      refine kr_istore (lv' := [(7, .int (0 : Int32)), (6, .int (0 : Int32)), (0, kr_r E 346), (1, .int l1), (3, .int l3), (5, .int l5)]) dX12_learns_152 (by decide) rfl ?_
      refine kr_sub [2, 3, 4, 5, 1, 0] rfl ?_
      exact r_X12_learns_154 E _ l1 l3 l5 ih _ (0 : Int32) (0 : Int32) M
theorem r_X12_learns_140 (E : kr_E)  (l1 : Int32) (l3 : Int32) (l5 : Int32)  (M : kr_M) : kR kr_vi E Y_X12_learns 4 140 [(0, kr_r E 346), (1, .int l1), (3, .int l3), (5, .int l5)] [] M (f_X12_learns_140 l1 l3 l5 M) := by
  rw [f_X12_learns_140]
  refine kr_iconst (v := 1) dX12_learns_140 (by decide) ?_
  refine kr_istore (lv' := [(6, .int (1 : Int32)), (0, kr_r E 346), (1, .int l1), (3, .int l3), (5, .int l5)]) dX12_learns_141 (by decide) rfl ?_
  refine kr_sub [1, 2, 3, 4, 0] rfl ?_
  exact r_X12_learns_143 E l1 l3 l5 _ (1 : Int32) M
theorem r_X12_learns_133 (E : kr_E) (k_107 : Int32 → kr_M → Option (Int32 × kr_M)) (l1 : Int32) (l2 : Int32) (l3 : Int32) (l5 : Int32) (l6 : Int32) (s0 : Int32) (s1 : Int32) (hk_107 : ∀ (x6 : Int32) (M : kr_M), kR kr_vi E Y_X12_learns 4 107 [(0, kr_r E 346), (1, .int l1), (2, .int l2), (3, .int l3), (5, .int l5), (6, .int x6)] [] M (k_107 x6 M)) (M : kr_M) : kR kr_vi E Y_X12_learns 4 133 [(0, kr_r E 346), (1, .int l1), (2, .int l2), (3, .int l3), (5, .int l5), (6, .int l6)] [.int s0, .int s1, kr_r E 381] M (f_X12_learns_133 k_107 l6 s0 s1 M) := by
  rw [f_X12_learns_133]
  refine kr_iast dX12_learns_133 kr_at_381 (fun M1 => ?_)
  refine kr_iinc (j := 5) (v := (l6 + (1 : Int32))) (lv' := [(6, .int (l6 + (1 : Int32))), (0, kr_r E 346), (1, .int l1), (2, .int l2), (3, .int l3), (5, .int l5)]) dX12_learns_134 rfl rfl (by decide) rfl ?_
  refine kr_goto (tgt := 107) dX12_learns_137 (by decide) ?_
  refine kr_sub [1, 2, 3, 4, 5, 0] rfl ?_
  exact hk_107 (l6 + (1 : Int32)) M1
theorem r_X12_learns_107 (E : kr_E)  (l1 : Int32) (l2 : Int32) (l3 : Int32) (l5 : Int32)  : ∀ (n : Nat) (l6 : Int32) (M : kr_M), kR kr_vi E Y_X12_learns 4 107 [(0, kr_r E 346), (1, .int l1), (2, .int l2), (3, .int l3), (5, .int l5), (6, .int l6)] [] M (f_X12_learns_107 l1 l2 l3 l5 n l6 M) := by
  intro n
  induction n with
  | zero => intro l6 M; exact kr_none
  | succ n ih =>
    intro l6 M
    rw [f_X12_learns_107]
    refine kr_iload dX12_learns_107 5 rfl ?_
    refine kr_bipush (v := 12) dX12_learns_109 (by decide) ?_
    refine kr_icmp_ge (tgt := 140) dX12_learns_111 (by decide) ?_ ?_
    · refine kr_sub [0, 1, 3, 4] rfl ?_
      exact r_X12_learns_140 E l1 l3 l5 M
    · refine kr_aload_n dX12_learns_114 rfl 0 rfl ?_
      refine kr_getA (o := 35) (ci := 12) (j := 55) dX12_learns_115 kr_at_346 fl_RX12_120 rfl ?_
      refine kr_iload dX12_learns_118 5 rfl ?_
      refine kr_iload dX12_learns_120 5 rfl ?_
      refine kr_iload_n dX12_learns_122 rfl 2 rfl ?_
      refine kr_icmp_ne (tgt := 130) dX12_learns_123 (by decide) ?_ ?_
      · refine kr_ldcw dX12_learns_130 kc_RX12_354 ?_
        refine kr_sub [0, 1, 2, 3, 4, 5] rfl ?_
        exact r_X12_learns_133 E _ l1 l2 l3 l5 l6 (100000000 : Int32) l6 ih M
      · refine kr_iconst (v := 0) dX12_learns_126 (by decide) ?_
        refine kr_goto (tgt := 133) dX12_learns_127 (by decide) ?_
        refine kr_sub [0, 1, 2, 3, 4, 5] rfl ?_
        exact r_X12_learns_133 E _ l1 l2 l3 l5 l6 (0 : Int32) l6 ih M
theorem r_X12_learns_104 (E : kr_E)  (l1 : Int32) (l2 : Int32) (l3 : Int32) (l5 : Int32)  (M : kr_M) : kR kr_vi E Y_X12_learns 4 104 [(0, kr_r E 346), (1, .int l1), (2, .int l2), (3, .int l3), (5, .int l5)] [] M (f_X12_learns_104 l1 l2 l3 l5 M) := by
  rw [f_X12_learns_104]
  refine kr_iconst (v := 0) dX12_learns_104 (by decide) ?_
  refine kr_istore (lv' := [(6, .int (0 : Int32)), (0, kr_r E 346), (1, .int l1), (2, .int l2), (3, .int l3), (5, .int l5)]) dX12_learns_105 (by decide) rfl ?_
  refine kr_sub [1, 2, 3, 4, 5, 0] rfl ?_
  exact r_X12_learns_107 E l1 l2 l3 l5 _ (0 : Int32) M
theorem r_X12_learns_98 (E : kr_E) (k_41 : Int32 → Int32 → kr_M → Option (Int32 × kr_M)) (l1 : Int32) (l2 : Int32) (l3 : Int32) (l4 : Int32) (l5 : Int32) (l6 : Int32) (hk_41 : ∀ (x5 : Int32) (x6 : Int32) (M : kr_M), kR kr_vi E Y_X12_learns 4 41 [(0, kr_r E 346), (1, .int l1), (2, .int l2), (3, .int l3), (4, .int l4), (5, .int x5), (6, .int x6)] [] M (k_41 x5 x6 M)) (M : kr_M) : kR kr_vi E Y_X12_learns 4 98 [(0, kr_r E 346), (1, .int l1), (2, .int l2), (3, .int l3), (4, .int l4), (5, .int l5), (6, .int l6)] [] M (f_X12_learns_98 k_41 l5 l6 M) := by
  rw [f_X12_learns_98]
  refine kr_iinc (j := 6) (v := (l6 + (1 : Int32))) (lv' := [(6, .int (l6 + (1 : Int32))), (0, kr_r E 346), (1, .int l1), (2, .int l2), (3, .int l3), (4, .int l4), (5, .int l5)]) dX12_learns_98 rfl rfl (by decide) rfl ?_
  refine kr_goto (tgt := 41) dX12_learns_101 (by decide) ?_
  refine kr_sub [1, 2, 3, 4, 5, 6, 0] rfl ?_
  exact hk_41 l5 (l6 + (1 : Int32)) M
theorem r_X12_learns_89 (E : kr_E) (k_55 : Int32 → Int32 → kr_M → Option (Int32 × kr_M)) (l1 : Int32) (l2 : Int32) (l3 : Int32) (l4 : Int32) (l6 : Int32) (l7 : Int32) (s0 : Int32) (s1 : Int32) (hk_55 : ∀ (x5 : Int32) (x7 : Int32) (M : kr_M), kR kr_vi E Y_X12_learns 4 55 [(0, kr_r E 346), (1, .int l1), (2, .int l2), (3, .int l3), (4, .int l4), (5, .int x5), (6, .int l6), (7, .int x7)] [] M (k_55 x5 x7 M)) (M : kr_M) : kR kr_vi E Y_X12_learns 4 89 [(0, kr_r E 346), (1, .int l1), (2, .int l2), (3, .int l3), (4, .int l4), (6, .int l6), (7, .int l7)] [.int s0, .int s1] M (f_X12_learns_89 k_55 l7 s0 s1 M) := by
  rw [f_X12_learns_89]
  refine kr_ior dX12_learns_89 ?_
  refine kr_nmi (fun v1 => ?_)
  refine kr_istore (lv' := [(5, .int v1), (0, kr_r E 346), (1, .int l1), (2, .int l2), (3, .int l3), (4, .int l4), (6, .int l6), (7, .int l7)]) dX12_learns_90 (by decide) rfl ?_
  refine kr_iinc (j := 7) (v := (l7 + (1 : Int32))) (lv' := [(7, .int (l7 + (1 : Int32))), (5, .int v1), (0, kr_r E 346), (1, .int l1), (2, .int l2), (3, .int l3), (4, .int l4), (6, .int l6)]) dX12_learns_92 rfl rfl (by decide) rfl ?_
  refine kr_goto (tgt := 55) dX12_learns_95 (by decide) ?_
  refine kr_sub [2, 3, 4, 5, 6, 1, 7, 0] rfl ?_
  exact hk_55 v1 (l7 + (1 : Int32)) M
theorem r_X12_learns_55 (E : kr_E) (k_41 : Int32 → Int32 → kr_M → Option (Int32 × kr_M)) (l1 : Int32) (l2 : Int32) (l3 : Int32) (l4 : Int32) (l6 : Int32) (hk_41 : ∀ (x5 : Int32) (x6 : Int32) (M : kr_M), kR kr_vi E Y_X12_learns 4 41 [(0, kr_r E 346), (1, .int l1), (2, .int l2), (3, .int l3), (4, .int l4), (5, .int x5), (6, .int x6)] [] M (k_41 x5 x6 M)) : ∀ (n : Nat) (l5 : Int32) (l7 : Int32) (M : kr_M), kR kr_vi E Y_X12_learns 4 55 [(0, kr_r E 346), (1, .int l1), (2, .int l2), (3, .int l3), (4, .int l4), (5, .int l5), (6, .int l6), (7, .int l7)] [] M (f_X12_learns_55 k_41 l4 l6 n l5 l7 M) := by
  intro n
  induction n with
  | zero => intro l5 l7 M; exact kr_none
  | succ n ih =>
    intro l5 l7 M
    rw [f_X12_learns_55]
    refine kr_iload dX12_learns_55 7 rfl ?_
    refine kr_iconst (v := 2) dX12_learns_57 (by decide) ?_
    refine kr_icmp_ge (tgt := 98) dX12_learns_58 (by decide) ?_ ?_
    · refine kr_sub [0, 1, 2, 3, 4, 5, 6] rfl ?_
      exact r_X12_learns_98 E _ l1 l2 l3 l4 l5 l6 hk_41 M
    · refine kr_iload dX12_learns_61 5 rfl ?_
      refine kr_aload_n dX12_learns_63 rfl 0 rfl ?_
      refine kr_iload dX12_learns_64 6 rfl ?_
      refine kr_iload dX12_learns_66 7 rfl ?_
      refine kr_iload dX12_learns_68 4 rfl ?_
      refine kr_Vi (As := [.int l6, .int l7, .int l4]) (st := [.int l5]) zv_X12_hasSum dX12_learns_70 ml_RX12_375 kr_at_346 (r_X12_hasSum E l6 l7 l4 M) rfl rfl (Nat.le_of_ble_eq_true rfl) rfl (by decide) (Nat.le_of_ble_eq_true rfl) (fun r2 M1 => ?_)
      refine kr_if_eq (tgt := 88) dX12_learns_73 (by decide) ?_ ?_
      · refine kr_iconst (v := 0) dX12_learns_88 (by decide) ?_
        refine kr_sub [0, 1, 2, 3, 4, 6, 7] rfl ?_
        exact r_X12_learns_89 E _ l1 l2 l3 l4 l6 l7 (0 : Int32) l5 ih M1
      · refine kr_iconst (v := 1) dX12_learns_76 (by decide) ?_
        refine kr_iconst (v := 2) dX12_learns_77 (by decide) ?_
        refine kr_iload dX12_learns_78 6 rfl ?_
        refine kr_imul dX12_learns_80 ?_
        refine kr_iload dX12_learns_81 7 rfl ?_
        refine kr_iadd dX12_learns_83 ?_
        refine kr_ishl dX12_learns_84 ?_
        refine kr_goto (tgt := 89) dX12_learns_85 (by decide) ?_
        refine kr_sub [0, 1, 2, 3, 4, 6, 7] rfl ?_
        exact r_X12_learns_89 E _ l1 l2 l3 l4 l6 l7 ((1 : Int32) <<< ((((2 : Int32) * l6) + l7) &&& 31)) l5 ih M1
theorem r_X12_learns_41 (E : kr_E)  (l1 : Int32) (l2 : Int32) (l3 : Int32) (l4 : Int32)  : ∀ (n : Nat) (l5 : Int32) (l6 : Int32) (M : kr_M), kR kr_vi E Y_X12_learns 4 41 [(0, kr_r E 346), (1, .int l1), (2, .int l2), (3, .int l3), (4, .int l4), (5, .int l5), (6, .int l6)] [] M (f_X12_learns_41 l1 l2 l3 l4 n l5 l6 M) := by
  intro n
  induction n with
  | zero => intro l5 l6 M; exact kr_none
  | succ n ih =>
    intro l5 l6 M
    rw [f_X12_learns_41]
    refine kr_iload dX12_learns_41 6 rfl ?_
    refine kr_aload_n dX12_learns_43 rfl 0 rfl ?_
    refine kr_getA (o := 7) (ci := 12) (j := 17) dX12_learns_44 kr_at_346 fl_RX12_34 rfl ?_
    refine kr_iconst (v := 5) dX12_learns_47 (by decide) ?_
    refine kr_iald dX12_learns_48 kr_at_353 (fun v1 => ?_)
    refine kr_icmp_ge (tgt := 104) dX12_learns_49 (by decide) ?_ ?_
    · refine kr_sub [0, 1, 2, 3, 5] rfl ?_
      exact r_X12_learns_104 E l1 l2 l3 l5 M
    · refine kr_iconst (v := 0) dX12_learns_52 (by decide) ?_
      refine kr_istore (lv' := [(7, .int (0 : Int32)), (0, kr_r E 346), (1, .int l1), (2, .int l2), (3, .int l3), (4, .int l4), (5, .int l5), (6, .int l6)]) dX12_learns_53 (by decide) rfl ?_
      refine kr_sub [1, 2, 3, 4, 5, 6, 7, 0] rfl ?_
      exact r_X12_learns_55 E _ l1 l2 l3 l4 l6 ih _ l5 (0 : Int32) M
theorem r_X12_learns (E : kr_E) (p1 : Int32) (p2 : Int32) (p3 : Int32) (p4 : Int32) (M : kr_M) : kR kr_vi E Y_X12_learns 4 0 [(0, kr_r E 346), (1, .int p1), (2, .int p2), (3, .int p3), (4, .int p4)] [] M (f_X12_learns p1 p2 p3 p4 M) := by
  rw [f_X12_learns]
  refine kr_aload_n dX12_learns_0 rfl 0 rfl ?_
  refine kr_iconst (v := 0) dX12_learns_1 (by decide) ?_
  refine kr_putI (ci := 12) (j := 0) dX12_learns_2 kr_at_346 fl_RX12_138 rfl rfl (fun M1 => ?_)
  refine kr_aload_n dX12_learns_5 rfl 0 rfl ?_
  refine kr_iload_n dX12_learns_6 rfl 1 rfl ?_
  refine kr_iload_n dX12_learns_7 rfl 2 rfl ?_
  refine kr_iload_n dX12_learns_8 rfl 3 rfl ?_
  refine kr_Vi (As := [.int p1, .int p2, .int p3]) (st := []) zv_X12_isWay dX12_learns_9 ml_RX12_481 kr_at_346 (r_X12_isWay E p1 p2 p3 M1) rfl rfl (Nat.le_of_ble_eq_true rfl) rfl (by decide) (Nat.le_of_ble_eq_true rfl) (fun r3 M2 => ?_)
  refine kr_if_eq (tgt := 28) dX12_learns_12 (by decide) ?_ ?_
  · refine kr_bipush (v := -2) dX12_learns_28 (by decide) ?_
    exact kr_iret dX12_learns_30 rfl
  · refine kr_iload dX12_learns_15 4 rfl ?_
    refine kr_i2l dX12_learns_17 ?_
    refine kr_lconst (v := 0) dX12_learns_18 (by decide) ?_
    refine kr_ldc2 dX12_learns_19 kl_RX12_373 ?_
    refine kr_Si (As := [.long (p4.toInt64), .long (0 : Int64), .long (2400 : Int64)]) (st := []) zs_X12_in dX12_learns_22 ml_RX12_143 (r_X12_in E (p4.toInt64) (0 : Int64) (2400 : Int64) M2) rfl rfl (Nat.le_of_ble_eq_true rfl) rfl (by decide) (Nat.le_of_ble_eq_true rfl) (fun r5 M4 => ?_)
    refine kr_if_ne (tgt := 31) dX12_learns_25 (by decide) ?_ ?_
    · refine kr_aload_n dX12_learns_31 rfl 0 rfl ?_
      refine kr_Vv (As := []) (st := []) zv_X12_lays dX12_learns_32 ml_RX12_337 kr_at_346 (r_X12_lays E  M4) rfl rfl (Nat.le_of_ble_eq_true rfl) rfl (by decide) (Nat.le_of_ble_eq_true rfl) (fun M6 => ?_)
      refine kr_iconst (v := 0) dX12_learns_35 (by decide) ?_
      refine kr_istore (lv' := [(5, .int (0 : Int32)), (0, kr_r E 346), (1, .int p1), (2, .int p2), (3, .int p3), (4, .int p4)]) dX12_learns_36 (by decide) rfl ?_
      refine kr_iconst (v := 0) dX12_learns_38 (by decide) ?_
      refine kr_istore (lv' := [(6, .int (0 : Int32)), (5, .int (0 : Int32)), (0, kr_r E 346), (1, .int p1), (2, .int p2), (3, .int p3), (4, .int p4)]) dX12_learns_39 (by decide) rfl ?_
      refine kr_sub [2, 3, 4, 5, 6, 1, 0] rfl ?_
      exact r_X12_learns_41 E p1 p2 p3 p4 _ (0 : Int32) (0 : Int32) M6
    · refine kr_bipush (v := -2) dX12_learns_28 (by decide) ?_
      exact kr_iret dX12_learns_30 rfl
