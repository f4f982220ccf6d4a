theorem dX12_otherEnd_0 : decode cX12_otherEnd 0 = .ok (.aload_n 0, 1) := by decide +kernel
theorem dX12_otherEnd_1 : decode cX12_otherEnd 1 = .ok (.getfield 52, 3) := by decide +kernel
theorem dX12_otherEnd_4 : decode cX12_otherEnd 4 = .ok (.iconst 4, 1) := by decide +kernel
theorem dX12_otherEnd_5 : decode cX12_otherEnd 5 = .ok (.iload_n 1, 1) := by decide +kernel
theorem dX12_otherEnd_6 : decode cX12_otherEnd 6 = .ok (.imul, 1) := by decide +kernel
theorem dX12_otherEnd_7 : decode cX12_otherEnd 7 = .ok (.iaload, 1) := by decide +kernel
theorem dX12_otherEnd_8 : decode cX12_otherEnd 8 = .ok (.iload_n 2, 1) := by decide +kernel
theorem dX12_otherEnd_9 : decode cX12_otherEnd 9 = .ok (.if_icmp .ne 16, 3) := by decide +kernel
theorem dX12_otherEnd_12 : decode cX12_otherEnd 12 = .ok (.aload_n 0, 1) := by decide +kernel
theorem dX12_otherEnd_13 : decode cX12_otherEnd 13 = .ok (.getfield 52, 3) := by decide +kernel
theorem dX12_otherEnd_16 : decode cX12_otherEnd 16 = .ok (.iconst 4, 1) := by decide +kernel
theorem dX12_otherEnd_17 : decode cX12_otherEnd 17 = .ok (.iload_n 1, 1) := by decide +kernel
theorem dX12_otherEnd_18 : decode cX12_otherEnd 18 = .ok (.imul, 1) := by decide +kernel
theorem dX12_otherEnd_19 : decode cX12_otherEnd 19 = .ok (.iconst 1, 1) := by decide +kernel
theorem dX12_otherEnd_20 : decode cX12_otherEnd 20 = .ok (.iadd, 1) := by decide +kernel
theorem dX12_otherEnd_21 : decode cX12_otherEnd 21 = .ok (.iaload, 1) := by decide +kernel
theorem dX12_otherEnd_22 : decode cX12_otherEnd 22 = .ok (.goto 11, 3) := by decide +kernel
theorem dX12_otherEnd_25 : decode cX12_otherEnd 25 = .ok (.aload_n 0, 1) := by decide +kernel
theorem dX12_otherEnd_26 : decode cX12_otherEnd 26 = .ok (.getfield 52, 3) := by decide +kernel
theorem dX12_otherEnd_29 : decode cX12_otherEnd 29 = .ok (.iconst 4, 1) := by decide +kernel
theorem dX12_otherEnd_30 : decode cX12_otherEnd 30 = .ok (.iload_n 1, 1) := by decide +kernel
theorem dX12_otherEnd_31 : decode cX12_otherEnd 31 = .ok (.imul, 1) := by decide +kernel
theorem dX12_otherEnd_32 : decode cX12_otherEnd 32 = .ok (.iaload, 1) := by decide +kernel
theorem dX12_otherEnd_33 : decode cX12_otherEnd 33 = .ok (.ireturn, 1) := by decide +kernel
theorem r_X12_otherEnd (E : kr_E) (p1 : Int32) (p2 : Int32) (M : kr_M) : kR kr_vi E Y_X12_otherEnd 1 0 [(0, kr_r E 346), (1, .int p1), (2, .int p2)] [] M (f_X12_otherEnd p1 p2 M) := by
  rw [f_X12_otherEnd]
  refine kr_aload_n dX12_otherEnd_0 rfl 0 rfl ?_
  refine kr_getA (o := 13) (ci := 12) (j := 23) dX12_otherEnd_1 kr_at_346 fl_RX12_52 rfl ?_
  refine kr_iconst (v := 4) dX12_otherEnd_4 (by decide) ?_
  refine kr_iload_n dX12_otherEnd_5 rfl 1 rfl ?_
  refine kr_imul dX12_otherEnd_6 ?_
  refine kr_iald dX12_otherEnd_7 kr_at_359 (fun v1 => ?_)
  refine kr_iload_n dX12_otherEnd_8 rfl 2 rfl ?_
  refine kr_icmp_ne (tgt := 25) dX12_otherEnd_9 (by decide) ?_ ?_
  · refine kr_aload_n dX12_otherEnd_25 rfl 0 rfl ?_
    refine kr_getA (o := 13) (ci := 12) (j := 23) dX12_otherEnd_26 kr_at_346 fl_RX12_52 rfl ?_
    refine kr_iconst (v := 4) dX12_otherEnd_29 (by decide) ?_
    refine kr_iload_n dX12_otherEnd_30 rfl 1 rfl ?_
    refine kr_imul dX12_otherEnd_31 ?_
    refine kr_iald dX12_otherEnd_32 kr_at_359 (fun v2 => ?_)
    exact kr_iret dX12_otherEnd_33 rfl
  · refine kr_aload_n dX12_otherEnd_12 rfl 0 rfl ?_
    refine kr_getA (o := 13) (ci := 12) (j := 23) dX12_otherEnd_13 kr_at_346 fl_RX12_52 rfl ?_
    refine kr_iconst (v := 4) dX12_otherEnd_16 (by decide) ?_
    refine kr_iload_n dX12_otherEnd_17 rfl 1 rfl ?_
    refine kr_imul dX12_otherEnd_18 ?_
    refine kr_iconst (v := 1) dX12_otherEnd_19 (by decide) ?_
    refine kr_iadd dX12_otherEnd_20 ?_
    refine kr_iald dX12_otherEnd_21 kr_at_359 (fun v3 => ?_)
    refine kr_goto (tgt := 33) dX12_otherEnd_22 (by decide) ?_
    exact kr_iret dX12_otherEnd_33 rfl
theorem dX12_does_0 : decode cX12_does 0 = .ok (.iload_n 1, 1) := by decide +kernel
theorem dX12_does_1 : decode cX12_does 1 = .ok (.ifCond .ne 33, 3) := by decide +kernel
theorem dX12_does_4 : decode cX12_does 4 = .ok (.aload_n 0, 1) := by decide +kernel
theorem dX12_does_5 : decode cX12_does 5 = .ok (.getfield 77, 3) := by decide +kernel
theorem dX12_does_8 : decode cX12_does 8 = .ok (.iload_n 2, 1) := by decide +kernel
theorem dX12_does_9 : decode cX12_does 9 = .ok (.aload_n 0, 1) := by decide +kernel
theorem dX12_does_10 : decode cX12_does 10 = .ok (.iload_n 3, 1) := by decide +kernel
theorem dX12_does_11 : decode cX12_does 11 = .ok (.aload_n 0, 1) := by decide +kernel
theorem dX12_does_12 : decode cX12_does 12 = .ok (.getfield 77, 3) := by decide +kernel
theorem dX12_does_15 : decode cX12_does 15 = .ok (.iload_n 2, 1) := by decide +kernel
theorem dX12_does_16 : decode cX12_does 16 = .ok (.iaload, 1) := by decide +kernel
theorem dX12_does_17 : decode cX12_does 17 = .ok (.invokevirtual 329, 3) := by decide +kernel
theorem dX12_does_20 : decode cX12_does 20 = .ok (.iastore, 1) := by decide +kernel
theorem dX12_does_21 : decode cX12_does 21 = .ok (.aload_n 0, 1) := by decide +kernel
theorem dX12_does_22 : decode cX12_does 22 = .ok (.getfield 74, 3) := by decide +kernel
theorem dX12_does_25 : decode cX12_does 25 = .ok (.iload_n 3, 1) := by decide +kernel
theorem dX12_does_26 : decode cX12_does 26 = .ok (.dup2, 1) := by decide +kernel
theorem dX12_does_27 : decode cX12_does 27 = .ok (.iaload, 1) := by decide +kernel
theorem dX12_does_28 : decode cX12_does 28 = .ok (.iconst 1, 1) := by decide +kernel
theorem dX12_does_29 : decode cX12_does 29 = .ok (.iadd, 1) := by decide +kernel
theorem dX12_does_30 : decode cX12_does 30 = .ok (.iastore, 1) := by decide +kernel
theorem dX12_does_31 : decode cX12_does 31 = .ok (.goto 118, 3) := by decide +kernel
theorem dX12_does_34 : decode cX12_does 34 = .ok (.iload_n 1, 1) := by decide +kernel
theorem dX12_does_35 : decode cX12_does 35 = .ok (.iconst 1, 1) := by decide +kernel
theorem dX12_does_36 : decode cX12_does 36 = .ok (.if_icmp .ne 19, 3) := by decide +kernel
theorem dX12_does_39 : decode cX12_does 39 = .ok (.aload_n 0, 1) := by decide +kernel
theorem dX12_does_40 : decode cX12_does 40 = .ok (.getfield 68, 3) := by decide +kernel
theorem dX12_does_43 : decode cX12_does 43 = .ok (.bipush 24, 2) := by decide +kernel
theorem dX12_does_45 : decode cX12_does 45 = .ok (.iload_n 2, 1) := by decide +kernel
theorem dX12_does_46 : decode cX12_does 46 = .ok (.imul, 1) := by decide +kernel
theorem dX12_does_47 : decode cX12_does 47 = .ok (.iload_n 3, 1) := by decide +kernel
theorem dX12_does_48 : decode cX12_does 48 = .ok (.iadd, 1) := by decide +kernel
theorem dX12_does_49 : decode cX12_does 49 = .ok (.iload 4, 2) := by decide +kernel
theorem dX12_does_51 : decode cX12_does 51 = .ok (.iastore, 1) := by decide +kernel
theorem dX12_does_52 : decode cX12_does 52 = .ok (.goto 97, 3) := by decide +kernel
theorem dX12_does_55 : decode cX12_does 55 = .ok (.iload_n 1, 1) := by decide +kernel
theorem dX12_does_56 : decode cX12_does 56 = .ok (.iconst 2, 1) := by decide +kernel
theorem dX12_does_57 : decode cX12_does 57 = .ok (.if_icmp .ne 13, 3) := by decide +kernel
theorem dX12_does_60 : decode cX12_does 60 = .ok (.aload_n 0, 1) := by decide +kernel
theorem dX12_does_61 : decode cX12_does 61 = .ok (.getfield 71, 3) := by decide +kernel
theorem dX12_does_64 : decode cX12_does 64 = .ok (.iload_n 2, 1) := by decide +kernel
theorem dX12_does_65 : decode cX12_does 65 = .ok (.iload_n 3, 1) := by decide +kernel
theorem dX12_does_66 : decode cX12_does 66 = .ok (.iastore, 1) := by decide +kernel
theorem dX12_does_67 : decode cX12_does 67 = .ok (.goto 82, 3) := by decide +kernel
theorem dX12_does_70 : decode cX12_does 70 = .ok (.iload_n 1, 1) := by decide +kernel
theorem dX12_does_71 : decode cX12_does 71 = .ok (.iconst 3, 1) := by decide +kernel
theorem dX12_does_72 : decode cX12_does 72 = .ok (.if_icmp .ne 72, 3) := by decide +kernel
theorem dX12_does_75 : decode cX12_does 75 = .ok (.aload_n 0, 1) := by decide +kernel
theorem dX12_does_76 : decode cX12_does 76 = .ok (.getfield 71, 3) := by decide +kernel
theorem dX12_does_79 : decode cX12_does 79 = .ok (.iload_n 3, 1) := by decide +kernel
theorem dX12_does_80 : decode cX12_does 80 = .ok (.iaload, 1) := by decide +kernel
theorem dX12_does_81 : decode cX12_does 81 = .ok (.istore 5, 2) := by decide +kernel
theorem dX12_does_83 : decode cX12_does 83 = .ok (.iconst 0, 1) := by decide +kernel
theorem dX12_does_84 : decode cX12_does 84 = .ok (.istore 6, 2) := by decide +kernel
theorem dX12_does_86 : decode cX12_does 86 = .ok (.iload 6, 2) := by decide +kernel
theorem dX12_does_88 : decode cX12_does 88 = .ok (.iload 5, 2) := by decide +kernel
theorem dX12_does_90 : decode cX12_does 90 = .ok (.if_icmp .ge 40, 3) := by decide +kernel
theorem dX12_does_93 : decode cX12_does 93 = .ok (.aload_n 0, 1) := by decide +kernel
theorem dX12_does_94 : decode cX12_does 94 = .ok (.getfield 68, 3) := by decide +kernel
theorem dX12_does_97 : decode cX12_does 97 = .ok (.bipush 24, 2) := by decide +kernel
theorem dX12_does_99 : decode cX12_does 99 = .ok (.iload_n 2, 1) := by decide +kernel
theorem dX12_does_100 : decode cX12_does 100 = .ok (.imul, 1) := by decide +kernel
theorem dX12_does_101 : decode cX12_does 101 = .ok (.aload_n 0, 1) := by decide +kernel
theorem dX12_does_102 : decode cX12_does 102 = .ok (.getfield 71, 3) := by decide +kernel
theorem dX12_does_105 : decode cX12_does 105 = .ok (.iload_n 2, 1) := by decide +kernel
theorem dX12_does_106 : decode cX12_does 106 = .ok (.iaload, 1) := by decide +kernel
theorem dX12_does_107 : decode cX12_does 107 = .ok (.iadd, 1) := by decide +kernel
theorem dX12_does_108 : decode cX12_does 108 = .ok (.iload 6, 2) := by decide +kernel
theorem dX12_does_110 : decode cX12_does 110 = .ok (.iadd, 1) := by decide +kernel
theorem dX12_does_111 : decode cX12_does 111 = .ok (.aload_n 0, 1) := by decide +kernel
theorem dX12_does_112 : decode cX12_does 112 = .ok (.getfield 68, 3) := by decide +kernel
theorem dX12_does_115 : decode cX12_does 115 = .ok (.bipush 24, 2) := by decide +kernel
theorem dX12_does_117 : decode cX12_does 117 = .ok (.iload_n 3, 1) := by decide +kernel
theorem dX12_does_118 : decode cX12_does 118 = .ok (.imul, 1) := by decide +kernel
theorem dX12_does_119 : decode cX12_does 119 = .ok (.iload 6, 2) := by decide +kernel
theorem dX12_does_121 : decode cX12_does 121 = .ok (.iadd, 1) := by decide +kernel
theorem dX12_does_122 : decode cX12_does 122 = .ok (.iaload, 1) := by decide +kernel
theorem dX12_does_123 : decode cX12_does 123 = .ok (.iastore, 1) := by decide +kernel
theorem dX12_does_124 : decode cX12_does 124 = .ok (.iinc 6 1, 3) := by decide +kernel
theorem dX12_does_127 : decode cX12_does 127 = .ok (.goto (-41), 3) := by decide +kernel
theorem dX12_does_130 : decode cX12_does 130 = .ok (.aload_n 0, 1) := by decide +kernel
theorem dX12_does_131 : decode cX12_does 131 = .ok (.getfield 71, 3) := by decide +kernel
theorem dX12_does_134 : decode cX12_does 134 = .ok (.iload_n 2, 1) := by decide +kernel
theorem dX12_does_135 : decode cX12_does 135 = .ok (.dup2, 1) := by decide +kernel
theorem dX12_does_136 : decode cX12_does 136 = .ok (.iaload, 1) := by decide +kernel
theorem dX12_does_137 : decode cX12_does 137 = .ok (.iload 5, 2) := by decide +kernel
theorem dX12_does_139 : decode cX12_does 139 = .ok (.iadd, 1) := by decide +kernel
theorem dX12_does_140 : decode cX12_does 140 = .ok (.iastore, 1) := by decide +kernel
theorem dX12_does_141 : decode cX12_does 141 = .ok (.goto 8, 3) := by decide +kernel
theorem dX12_does_144 : decode cX12_does 144 = .ok (.aload_n 0, 1) := by decide +kernel
theorem dX12_does_145 : decode cX12_does 145 = .ok (.iload_n 2, 1) := by decide +kernel
theorem dX12_does_146 : decode cX12_does 146 = .ok (.putfield 322, 3) := by decide +kernel
theorem dX12_does_149 : decode cX12_does 149 = .ok (.return_, 1) := by decide +kernel
theorem r_X12_does_130 (E : kr_E)  (l2 : Int32) (l5 : Int32)  (M : kr_M) : kR kr_vv E Y_X12_does 2 130 [(0, kr_r E 346), (2, .int l2), (5, .int l5)] [] M (f_X12_does_130 l2 l5 M) := by
  rw [f_X12_does_130]
  refine kr_aload_n dX12_does_130 rfl 0 rfl ?_
  refine kr_getA (o := 19) (ci := 12) (j := 29) dX12_does_131 kr_at_346 fl_RX12_71 rfl ?_
  refine kr_iload_n dX12_does_134 rfl 1 rfl ?_
  refine kr_dup2 dX12_does_135 rfl rfl ?_
  refine kr_iald dX12_does_136 kr_at_365 (fun v1 => ?_)
  refine kr_iload dX12_does_137 2 rfl ?_
  refine kr_iadd dX12_does_139 ?_
  refine kr_iast dX12_does_140 kr_at_365 (fun M2 => ?_)
  refine kr_goto (tgt := 149) dX12_does_141 (by decide) ?_
  exact kr_vret dX12_does_149 rfl
theorem r_X12_does_86 (E : kr_E)  (l2 : Int32) (l3 : Int32) (l5 : Int32)  : ∀ (n : Nat) (l6 : Int32) (M : kr_M), kR kr_vv E Y_X12_does 2 86 [(0, kr_r E 346), (2, .int l2), (3, .int l3), (5, .int l5), (6, .int l6)] [] M (f_X12_does_86 l2 l3 l5 n l6 M) := by
  intro n
  induction n with
  | zero => intro l6 M; exact kr_none
  | succ n ih =>
    intro l6 M
    rw [f_X12_does_86]
    refine kr_iload dX12_does_86 4 rfl ?_
    refine kr_iload dX12_does_88 3 rfl ?_
    refine kr_icmp_ge (tgt := 130) dX12_does_90 (by decide) ?_ ?_
    · refine kr_sub [0, 1, 3] rfl ?_
      exact r_X12_does_130 E l2 l5 M
    · refine kr_aload_n dX12_does_93 rfl 0 rfl ?_
      refine kr_getA (o := 18) (ci := 12) (j := 28) dX12_does_94 kr_at_346 fl_RX12_68 rfl ?_
      refine kr_bipush (v := 24) dX12_does_97 (by decide) ?_
      refine kr_iload_n dX12_does_99 rfl 1 rfl ?_
      refine kr_imul dX12_does_100 ?_
      refine kr_aload_n dX12_does_101 rfl 0 rfl ?_
      refine kr_getA (o := 19) (ci := 12) (j := 29) dX12_does_102 kr_at_346 fl_RX12_71 rfl ?_
      refine kr_iload_n dX12_does_105 rfl 1 rfl ?_
      refine kr_iald dX12_does_106 kr_at_365 (fun v1 => ?_)
      refine kr_iadd dX12_does_107 ?_
      refine kr_iload dX12_does_108 4 rfl ?_
      refine kr_iadd dX12_does_110 ?_
      refine kr_aload_n dX12_does_111 rfl 0 rfl ?_
      refine kr_getA (o := 18) (ci := 12) (j := 28) dX12_does_112 kr_at_346 fl_RX12_68 rfl ?_
      refine kr_bipush (v := 24) dX12_does_115 (by decide) ?_
      refine kr_iload_n dX12_does_117 rfl 2 rfl ?_
      refine kr_imul dX12_does_118 ?_
      refine kr_iload dX12_does_119 4 rfl ?_
      refine kr_iadd dX12_does_121 ?_
      refine kr_iald dX12_does_122 kr_at_364 (fun v2 => ?_)
      refine kr_iast dX12_does_123 kr_at_364 (fun M3 => ?_)
      refine kr_iinc (j := 4) (v := (l6 + (1 : Int32))) (lv' := [(6, .int (l6 + (1 : Int32))), (0, kr_r E 346), (2, .int l2), (3, .int l3), (5, .int l5)]) dX12_does_124 rfl rfl (by decide) rfl ?_
      refine kr_goto (tgt := 86) dX12_does_127 (by decide) ?_
      refine kr_sub [1, 2, 3, 4, 0] rfl ?_
      exact ih (l6 + (1 : Int32)) M3
theorem r_X12_does (E : kr_E) (p1 : Int32) (p2 : Int32) (p3 : Int32) (p4 : Int32) (M : kr_M) : kR kr_vv E Y_X12_does 2 0 [(0, kr_r E 346), (1, .int p1), (2, .int p2), (3, .int p3), (4, .int p4)] [] M (f_X12_does p1 p2 p3 p4 M) := by
  rw [f_X12_does]
  refine kr_iload_n dX12_does_0 rfl 1 rfl ?_
  refine kr_if_ne (tgt := 34) dX12_does_1 (by decide) ?_ ?_
  · refine kr_iload_n dX12_does_34 rfl 1 rfl ?_
    refine kr_iconst (v := 1) dX12_does_35 (by decide) ?_
    refine kr_icmp_ne (tgt := 55) dX12_does_36 (by decide) ?_ ?_
    · refine kr_iload_n dX12_does_55 rfl 1 rfl ?_
      refine kr_iconst (v := 2) dX12_does_56 (by decide) ?_
      refine kr_icmp_ne (tgt := 70) dX12_does_57 (by decide) ?_ ?_
      · refine kr_iload_n dX12_does_70 rfl 1 rfl ?_
        refine kr_iconst (v := 3) dX12_does_71 (by decide) ?_
        refine kr_icmp_ne (tgt := 144) dX12_does_72 (by decide) ?_ ?_
        · refine kr_aload_n dX12_does_144 rfl 0 rfl ?_
          refine kr_iload_n dX12_does_145 rfl 2 rfl ?_
          refine kr_putI (ci := 12) (j := 32) dX12_does_146 kr_at_346 fl_RX12_322 rfl rfl (fun M1 => ?_)
          exact kr_vret dX12_does_149 rfl
        · refine kr_aload_n dX12_does_75 rfl 0 rfl ?_
          refine kr_getA (o := 19) (ci := 12) (j := 29) dX12_does_76 kr_at_346 fl_RX12_71 rfl ?_
          refine kr_iload_n dX12_does_79 rfl 3 rfl ?_
          refine kr_iald dX12_does_80 kr_at_365 (fun v2 => ?_)
          refine kr_istore (lv' := [(5, .int v2), (0, kr_r E 346), (1, .int p1), (2, .int p2), (3, .int p3), (4, .int p4)]) dX12_does_81 (by decide) rfl ?_
          refine kr_iconst (v := 0) dX12_does_83 (by decide) ?_
          refine kr_istore (lv' := [(6, .int (0 : Int32)), (5, .int v2), (0, kr_r E 346), (1, .int p1), (2, .int p2), (3, .int p3), (4, .int p4)]) dX12_does_84 (by decide) rfl ?_
          refine kr_sub [2, 4, 5, 1, 0] rfl ?_
          exact r_X12_does_86 E p2 p3 v2 _ (0 : Int32) M
      · refine kr_aload_n dX12_does_60 rfl 0 rfl ?_
        refine kr_getA (o := 19) (ci := 12) (j := 29) dX12_does_61 kr_at_346 fl_RX12_71 rfl ?_
        refine kr_iload_n dX12_does_64 rfl 2 rfl ?_
        refine kr_iload_n dX12_does_65 rfl 3 rfl ?_
        refine kr_iast dX12_does_66 kr_at_365 (fun M3 => ?_)
        refine kr_goto (tgt := 149) dX12_does_67 (by decide) ?_
        exact kr_vret dX12_does_149 rfl
    · refine kr_aload_n dX12_does_39 rfl 0 rfl ?_
      refine kr_getA (o := 18) (ci := 12) (j := 28) dX12_does_40 kr_at_346 fl_RX12_68 rfl ?_
      refine kr_bipush (v := 24) dX12_does_43 (by decide) ?_
      refine kr_iload_n dX12_does_45 rfl 2 rfl ?_
      refine kr_imul dX12_does_46 ?_
      refine kr_iload_n dX12_does_47 rfl 3 rfl ?_
      refine kr_iadd dX12_does_48 ?_
      refine kr_iload dX12_does_49 4 rfl ?_
      refine kr_iast dX12_does_51 kr_at_364 (fun M4 => ?_)
      refine kr_goto (tgt := 149) dX12_does_52 (by decide) ?_
      exact kr_vret dX12_does_149 rfl
  · refine kr_aload_n dX12_does_4 rfl 0 rfl ?_
    refine kr_getA (o := 21) (ci := 12) (j := 31) dX12_does_5 kr_at_346 fl_RX12_77 rfl ?_
    refine kr_iload_n dX12_does_8 rfl 2 rfl ?_
    refine kr_aload_n dX12_does_9 rfl 0 rfl ?_
    refine kr_iload_n dX12_does_10 rfl 3 rfl ?_
    refine kr_aload_n dX12_does_11 rfl 0 rfl ?_
    refine kr_getA (o := 21) (ci := 12) (j := 31) dX12_does_12 kr_at_346 fl_RX12_77 rfl ?_
    refine kr_iload_n dX12_does_15 rfl 2 rfl ?_
    refine kr_iald dX12_does_16 kr_at_367 (fun v5 => ?_)
    refine kr_Vi (As := [.int p3, .int v5]) (st := [.int p2, kr_r E 367]) zv_X12_otherEnd dX12_does_17 ml_RX12_329 kr_at_346 (r_X12_otherEnd E p3 v5 M) rfl rfl (Nat.le_of_ble_eq_true rfl) rfl (by decide) (Nat.le_of_ble_eq_true rfl) (fun r7 M6 => ?_)
    refine kr_iast dX12_does_20 kr_at_367 (fun M8 => ?_)
    refine kr_aload_n dX12_does_21 rfl 0 rfl ?_
    refine kr_getA (o := 20) (ci := 12) (j := 30) dX12_does_22 kr_at_346 fl_RX12_74 rfl ?_
    refine kr_iload_n dX12_does_25 rfl 3 rfl ?_
    refine kr_dup2 dX12_does_26 rfl rfl ?_
    refine kr_iald dX12_does_27 kr_at_366 (fun v9 => ?_)
    refine kr_iconst (v := 1) dX12_does_28 (by decide) ?_
    refine kr_iadd dX12_does_29 ?_
    refine kr_iast dX12_does_30 kr_at_366 (fun M10 => ?_)
    refine kr_goto (tgt := 149) dX12_does_31 (by decide) ?_
    exact kr_vret dX12_does_149 rfl
theorem dX12_lays_0 : decode cX12_lays 0 = .ok (.iconst 0, 1) := by decide +kernel
theorem dX12_lays_1 : decode cX12_lays 1 = .ok (.istore_n 1, 1) := by decide +kernel
theorem dX12_lays_2 : decode cX12_lays 2 = .ok (.iload_n 1, 1) := by decide +kernel
theorem dX12_lays_3 : decode cX12_lays 3 = .ok (.aload_n 0, 1) := by decide +kernel
theorem dX12_lays_4 : decode cX12_lays 4 = .ok (.getfield 34, 3) := by decide +kernel
theorem dX12_lays_7 : decode cX12_lays 7 = .ok (.iconst 5, 1) := by decide +kernel
theorem dX12_lays_8 : decode cX12_lays 8 = .ok (.iaload, 1) := by decide +kernel
theorem dX12_lays_9 : decode cX12_lays 9 = .ok (.if_icmp .ge 72, 3) := by decide +kernel
theorem dX12_lays_12 : decode cX12_lays 12 = .ok (.aload_n 0, 1) := by decide +kernel
theorem dX12_lays_13 : decode cX12_lays 13 = .ok (.getfield 71, 3) := by decide +kernel
theorem dX12_lays_16 : decode cX12_lays 16 = .ok (.iload_n 1, 1) := by decide +kernel
theorem dX12_lays_17 : decode cX12_lays 17 = .ok (.aload_n 0, 1) := by decide +kernel
theorem dX12_lays_18 : decode cX12_lays 18 = .ok (.getfield 52, 3) := by decide +kernel
theorem dX12_lays_21 : decode cX12_lays 21 = .ok (.iconst 4, 1) := by decide +kernel
theorem dX12_lays_22 : decode cX12_lays 22 = .ok (.iload_n 1, 1) := by decide +kernel
theorem dX12_lays_23 : decode cX12_lays 23 = .ok (.imul, 1) := by decide +kernel
theorem dX12_lays_24 : decode cX12_lays 24 = .ok (.iconst 3, 1) := by decide +kernel
theorem dX12_lays_25 : decode cX12_lays 25 = .ok (.iadd, 1) := by decide +kernel
theorem dX12_lays_26 : decode cX12_lays 26 = .ok (.iaload, 1) := by decide +kernel
theorem dX12_lays_27 : decode cX12_lays 27 = .ok (.iastore, 1) := by decide +kernel
theorem dX12_lays_28 : decode cX12_lays 28 = .ok (.aload_n 0, 1) := by decide +kernel
theorem dX12_lays_29 : decode cX12_lays 29 = .ok (.getfield 74, 3) := by decide +kernel
theorem dX12_lays_32 : decode cX12_lays 32 = .ok (.iload_n 1, 1) := by decide +kernel
theorem dX12_lays_33 : decode cX12_lays 33 = .ok (.iconst 0, 1) := by decide +kernel
theorem dX12_lays_34 : decode cX12_lays 34 = .ok (.iastore, 1) := by decide +kernel
theorem dX12_lays_35 : decode cX12_lays 35 = .ok (.iconst 0, 1) := by decide +kernel
theorem dX12_lays_36 : decode cX12_lays 36 = .ok (.istore_n 2, 1) := by decide +kernel
theorem dX12_lays_37 : decode cX12_lays 37 = .ok (.iload_n 2, 1) := by decide +kernel
theorem dX12_lays_38 : decode cX12_lays 38 = .ok (.aload_n 0, 1) := by decide +kernel
theorem dX12_lays_39 : decode cX12_lays 39 = .ok (.getfield 71, 3) := by decide +kernel
theorem dX12_lays_42 : decode cX12_lays 42 = .ok (.iload_n 1, 1) := by decide +kernel
theorem dX12_lays_43 : decode cX12_lays 43 = .ok (.iaload, 1) := by decide +kernel
theorem dX12_lays_44 : decode cX12_lays 44 = .ok (.if_icmp .ge 31, 3) := by decide +kernel
theorem dX12_lays_47 : decode cX12_lays 47 = .ok (.aload_n 0, 1) := by decide +kernel
theorem dX12_lays_48 : decode cX12_lays 48 = .ok (.getfield 68, 3) := by decide +kernel
theorem dX12_lays_51 : decode cX12_lays 51 = .ok (.bipush 24, 2) := by decide +kernel
theorem dX12_lays_53 : decode cX12_lays 53 = .ok (.iload_n 1, 1) := by decide +kernel
theorem dX12_lays_54 : decode cX12_lays 54 = .ok (.imul, 1) := by decide +kernel
theorem dX12_lays_55 : decode cX12_lays 55 = .ok (.iload_n 2, 1) := by decide +kernel
theorem dX12_lays_56 : decode cX12_lays 56 = .ok (.iadd, 1) := by decide +kernel
theorem dX12_lays_57 : decode cX12_lays 57 = .ok (.aload_n 0, 1) := by decide +kernel
theorem dX12_lays_58 : decode cX12_lays 58 = .ok (.getfield 55, 3) := by decide +kernel
theorem dX12_lays_61 : decode cX12_lays 61 = .ok (.bipush 12, 2) := by decide +kernel
theorem dX12_lays_63 : decode cX12_lays 63 = .ok (.iload_n 1, 1) := by decide +kernel
theorem dX12_lays_64 : decode cX12_lays 64 = .ok (.imul, 1) := by decide +kernel
theorem dX12_lays_65 : decode cX12_lays 65 = .ok (.iload_n 2, 1) := by decide +kernel
theorem dX12_lays_66 : decode cX12_lays 66 = .ok (.iadd, 1) := by decide +kernel
theorem dX12_lays_67 : decode cX12_lays 67 = .ok (.iaload, 1) := by decide +kernel
theorem dX12_lays_68 : decode cX12_lays 68 = .ok (.iastore, 1) := by decide +kernel
theorem dX12_lays_69 : decode cX12_lays 69 = .ok (.iinc 2 1, 3) := by decide +kernel
theorem dX12_lays_72 : decode cX12_lays 72 = .ok (.goto (-35), 3) := by decide +kernel
theorem dX12_lays_75 : decode cX12_lays 75 = .ok (.iinc 1 1, 3) := by decide +kernel
theorem dX12_lays_78 : decode cX12_lays 78 = .ok (.goto (-76), 3) := by decide +kernel
theorem dX12_lays_81 : decode cX12_lays 81 = .ok (.iconst 0, 1) := by decide +kernel
theorem dX12_lays_82 : decode cX12_lays 82 = .ok (.istore_n 1, 1) := by decide +kernel
theorem dX12_lays_83 : decode cX12_lays 83 = .ok (.iload_n 1, 1) := by decide +kernel
theorem dX12_lays_84 : decode cX12_lays 84 = .ok (.aload_n 0, 1) := by decide +kernel
theorem dX12_lays_85 : decode cX12_lays 85 = .ok (.getfield 34, 3) := by decide +kernel
theorem dX12_lays_88 : decode cX12_lays 88 = .ok (.bipush 6, 2) := by decide +kernel
theorem dX12_lays_90 : decode cX12_lays 90 = .ok (.iaload, 1) := by decide +kernel
theorem dX12_lays_91 : decode cX12_lays 91 = .ok (.if_icmp .ge 25, 3) := by decide +kernel
theorem dX12_lays_94 : decode cX12_lays 94 = .ok (.aload_n 0, 1) := by decide +kernel
theorem dX12_lays_95 : decode cX12_lays 95 = .ok (.getfield 77, 3) := by decide +kernel
theorem dX12_lays_98 : decode cX12_lays 98 = .ok (.iload_n 1, 1) := by decide +kernel
theorem dX12_lays_99 : decode cX12_lays 99 = .ok (.aload_n 0, 1) := by decide +kernel
theorem dX12_lays_100 : decode cX12_lays 100 = .ok (.getfield 58, 3) := by decide +kernel
theorem dX12_lays_103 : decode cX12_lays 103 = .ok (.iconst 3, 1) := by decide +kernel
theorem dX12_lays_104 : decode cX12_lays 104 = .ok (.iload_n 1, 1) := by decide +kernel
theorem dX12_lays_105 : decode cX12_lays 105 = .ok (.imul, 1) := by decide +kernel
theorem dX12_lays_106 : decode cX12_lays 106 = .ok (.iconst 2, 1) := by decide +kernel
theorem dX12_lays_107 : decode cX12_lays 107 = .ok (.iadd, 1) := by decide +kernel
theorem dX12_lays_108 : decode cX12_lays 108 = .ok (.iaload, 1) := by decide +kernel
theorem dX12_lays_109 : decode cX12_lays 109 = .ok (.iastore, 1) := by decide +kernel
theorem dX12_lays_110 : decode cX12_lays 110 = .ok (.iinc 1 1, 3) := by decide +kernel
theorem dX12_lays_113 : decode cX12_lays 113 = .ok (.goto (-30), 3) := by decide +kernel
theorem dX12_lays_116 : decode cX12_lays 116 = .ok (.aload_n 0, 1) := by decide +kernel
theorem dX12_lays_117 : decode cX12_lays 117 = .ok (.iconst 0, 1) := by decide +kernel
theorem dX12_lays_118 : decode cX12_lays 118 = .ok (.putfield 322, 3) := by decide +kernel
theorem dX12_lays_121 : decode cX12_lays 121 = .ok (.iconst 0, 1) := by decide +kernel
theorem dX12_lays_122 : decode cX12_lays 122 = .ok (.istore_n 1, 1) := by decide +kernel
theorem dX12_lays_123 : decode cX12_lays 123 = .ok (.iload_n 1, 1) := by decide +kernel
theorem dX12_lays_124 : decode cX12_lays 124 = .ok (.aload_n 0, 1) := by decide +kernel
theorem dX12_lays_125 : decode cX12_lays 125 = .ok (.getfield 34, 3) := by decide +kernel
theorem dX12_lays_128 : decode cX12_lays 128 = .ok (.bipush 7, 2) := by decide +kernel
theorem dX12_lays_130 : decode cX12_lays 130 = .ok (.iaload, 1) := by decide +kernel
theorem dX12_lays_131 : decode cX12_lays 131 = .ok (.if_icmp .ge 51, 3) := by decide +kernel
theorem dX12_lays_134 : decode cX12_lays 134 = .ok (.aload_n 0, 1) := by decide +kernel
theorem dX12_lays_135 : decode cX12_lays 135 = .ok (.aload_n 0, 1) := by decide +kernel
theorem dX12_lays_136 : decode cX12_lays 136 = .ok (.getfield 61, 3) := by decide +kernel
theorem dX12_lays_139 : decode cX12_lays 139 = .ok (.iconst 4, 1) := by decide +kernel
theorem dX12_lays_140 : decode cX12_lays 140 = .ok (.iload_n 1, 1) := by decide +kernel
theorem dX12_lays_141 : decode cX12_lays 141 = .ok (.imul, 1) := by decide +kernel
theorem dX12_lays_142 : decode cX12_lays 142 = .ok (.iaload, 1) := by decide +kernel
theorem dX12_lays_143 : decode cX12_lays 143 = .ok (.aload_n 0, 1) := by decide +kernel
theorem dX12_lays_144 : decode cX12_lays 144 = .ok (.getfield 61, 3) := by decide +kernel
theorem dX12_lays_147 : decode cX12_lays 147 = .ok (.iconst 4, 1) := by decide +kernel
theorem dX12_lays_148 : decode cX12_lays 148 = .ok (.iload_n 1, 1) := by decide +kernel
theorem dX12_lays_149 : decode cX12_lays 149 = .ok (.imul, 1) := by decide +kernel
theorem dX12_lays_150 : decode cX12_lays 150 = .ok (.iconst 1, 1) := by decide +kernel
theorem dX12_lays_151 : decode cX12_lays 151 = .ok (.iadd, 1) := by decide +kernel
theorem dX12_lays_152 : decode cX12_lays 152 = .ok (.iaload, 1) := by decide +kernel
theorem dX12_lays_153 : decode cX12_lays 153 = .ok (.aload_n 0, 1) := by decide +kernel
theorem dX12_lays_154 : decode cX12_lays 154 = .ok (.getfield 61, 3) := by decide +kernel
theorem dX12_lays_157 : decode cX12_lays 157 = .ok (.iconst 4, 1) := by decide +kernel
theorem dX12_lays_158 : decode cX12_lays 158 = .ok (.iload_n 1, 1) := by decide +kernel
theorem dX12_lays_159 : decode cX12_lays 159 = .ok (.imul, 1) := by decide +kernel
theorem dX12_lays_160 : decode cX12_lays 160 = .ok (.iconst 2, 1) := by decide +kernel
theorem dX12_lays_161 : decode cX12_lays 161 = .ok (.iadd, 1) := by decide +kernel
theorem dX12_lays_162 : decode cX12_lays 162 = .ok (.iaload, 1) := by decide +kernel
theorem dX12_lays_163 : decode cX12_lays 163 = .ok (.aload_n 0, 1) := by decide +kernel
theorem dX12_lays_164 : decode cX12_lays 164 = .ok (.getfield 61, 3) := by decide +kernel
theorem dX12_lays_167 : decode cX12_lays 167 = .ok (.iconst 4, 1) := by decide +kernel
theorem dX12_lays_168 : decode cX12_lays 168 = .ok (.iload_n 1, 1) := by decide +kernel
theorem dX12_lays_169 : decode cX12_lays 169 = .ok (.imul, 1) := by decide +kernel
theorem dX12_lays_170 : decode cX12_lays 170 = .ok (.iconst 3, 1) := by decide +kernel
theorem dX12_lays_171 : decode cX12_lays 171 = .ok (.iadd, 1) := by decide +kernel
theorem dX12_lays_172 : decode cX12_lays 172 = .ok (.iaload, 1) := by decide +kernel
theorem dX12_lays_173 : decode cX12_lays 173 = .ok (.invokevirtual 325, 3) := by decide +kernel
theorem dX12_lays_176 : decode cX12_lays 176 = .ok (.iinc 1 1, 3) := by decide +kernel
theorem dX12_lays_179 : decode cX12_lays 179 = .ok (.goto (-56), 3) := by decide +kernel
theorem dX12_lays_182 : decode cX12_lays 182 = .ok (.return_, 1) := by decide +kernel
theorem r_X12_lays_123 (E : kr_E)    : ∀ (n : Nat) (l1 : Int32) (M : kr_M), kR kr_vv E Y_X12_lays 3 123 [(0, kr_r E 346), (1, .int l1)] [] M (f_X12_lays_123 n l1 M) := by
  intro n
  induction n with
  | zero => intro l1 M; exact kr_none
  | succ n ih =>
    intro l1 M
    rw [f_X12_lays_123]
    refine kr_iload_n dX12_lays_123 rfl 1 rfl ?_
    refine kr_aload_n dX12_lays_124 rfl 0 rfl ?_
    refine kr_getA (o := 7) (ci := 12) (j := 17) dX12_lays_125 kr_at_346 fl_RX12_34 rfl ?_
    refine kr_bipush (v := 7) dX12_lays_128 (by decide) ?_
    refine kr_iald dX12_lays_130 kr_at_353 (fun v1 => ?_)
    refine kr_icmp_ge (tgt := 182) dX12_lays_131 (by decide) ?_ ?_
    · exact kr_vret dX12_lays_182 rfl
    · refine kr_aload_n dX12_lays_134 rfl 0 rfl ?_
      refine kr_aload_n dX12_lays_135 rfl 0 rfl ?_
      refine kr_getA (o := 16) (ci := 12) (j := 26) dX12_lays_136 kr_at_346 fl_RX12_61 rfl ?_
      refine kr_iconst (v := 4) dX12_lays_139 (by decide) ?_
      refine kr_iload_n dX12_lays_140 rfl 1 rfl ?_
      refine kr_imul dX12_lays_141 ?_
      refine kr_iald dX12_lays_142 kr_at_362 (fun v2 => ?_)
      refine kr_aload_n dX12_lays_143 rfl 0 rfl ?_
      refine kr_getA (o := 16) (ci := 12) (j := 26) dX12_lays_144 kr_at_346 fl_RX12_61 rfl ?_
      refine kr_iconst (v := 4) dX12_lays_147 (by decide) ?_
      refine kr_iload_n dX12_lays_148 rfl 1 rfl ?_
      refine kr_imul dX12_lays_149 ?_
      refine kr_iconst (v := 1) dX12_lays_150 (by decide) ?_
      refine kr_iadd dX12_lays_151 ?_
      refine kr_iald dX12_lays_152 kr_at_362 (fun v3 => ?_)
      refine kr_aload_n dX12_lays_153 rfl 0 rfl ?_
      refine kr_getA (o := 16) (ci := 12) (j := 26) dX12_lays_154 kr_at_346 fl_RX12_61 rfl ?_
      refine kr_iconst (v := 4) dX12_lays_157 (by decide) ?_
      refine kr_iload_n dX12_lays_158 rfl 1 rfl ?_
      refine kr_imul dX12_lays_159 ?_
      refine kr_iconst (v := 2) dX12_lays_160 (by decide) ?_
      refine kr_iadd dX12_lays_161 ?_
      refine kr_iald dX12_lays_162 kr_at_362 (fun v4 => ?_)
      refine kr_aload_n dX12_lays_163 rfl 0 rfl ?_
      refine kr_getA (o := 16) (ci := 12) (j := 26) dX12_lays_164 kr_at_346 fl_RX12_61 rfl ?_
      refine kr_iconst (v := 4) dX12_lays_167 (by decide) ?_
      refine kr_iload_n dX12_lays_168 rfl 1 rfl ?_
      refine kr_imul dX12_lays_169 ?_
      refine kr_iconst (v := 3) dX12_lays_170 (by decide) ?_
      refine kr_iadd dX12_lays_171 ?_
      refine kr_iald dX12_lays_172 kr_at_362 (fun v5 => ?_)
      refine kr_Vv (As := [.int v2, .int v3, .int v4, .int v5]) (st := []) zv_X12_does dX12_lays_173 ml_RX12_325 kr_at_346 (r_X12_does E v2 v3 v4 v5 M) rfl rfl (Nat.le_of_ble_eq_true rfl) rfl (by decide) (Nat.le_of_ble_eq_true rfl) (fun M6 => ?_)
      refine kr_iinc (j := 1) (v := (l1 + (1 : Int32))) (lv' := [(1, .int (l1 + (1 : Int32))), (0, kr_r E 346)]) dX12_lays_176 rfl rfl (by decide) rfl ?_
      refine kr_goto (tgt := 123) dX12_lays_179 (by decide) ?_
      refine kr_sub [1, 0] rfl ?_
      exact ih (l1 + (1 : Int32)) M6
theorem r_X12_lays_116 (E : kr_E)    (M : kr_M) : kR kr_vv E Y_X12_lays 3 116 [(0, kr_r E 346)] [] M (f_X12_lays_116 M) := by
  rw [f_X12_lays_116]
  refine kr_aload_n dX12_lays_116 rfl 0 rfl ?_
  refine kr_iconst (v := 0) dX12_lays_117 (by decide) ?_
  refine kr_putI (ci := 12) (j := 32) dX12_lays_118 kr_at_346 fl_RX12_322 rfl rfl (fun M1 => ?_)
  refine kr_iconst (v := 0) dX12_lays_121 (by decide) ?_
  refine kr_istore_n (lv' := [(1, .int (0 : Int32)), (0, kr_r E 346)]) dX12_lays_122 rfl (by decide) rfl ?_
  refine kr_sub [1, 0] rfl ?_
  exact r_X12_lays_123 E _ (0 : Int32) M1
theorem r_X12_lays_83 (E : kr_E)    : ∀ (n : Nat) (l1 : Int32) (M : kr_M), kR kr_vv E Y_X12_lays 3 83 [(0, kr_r E 346), (1, .int l1)] [] M (f_X12_lays_83 n l1 M) := by
  intro n
  induction n with
  | zero => intro l1 M; exact kr_none
  | succ n ih =>
    intro l1 M
    rw [f_X12_lays_83]
    refine kr_iload_n dX12_lays_83 rfl 1 rfl ?_
    refine kr_aload_n dX12_lays_84 rfl 0 rfl ?_
    refine kr_getA (o := 7) (ci := 12) (j := 17) dX12_lays_85 kr_at_346 fl_RX12_34 rfl ?_
    refine kr_bipush (v := 6) dX12_lays_88 (by decide) ?_
    refine kr_iald dX12_lays_90 kr_at_353 (fun v1 => ?_)
    refine kr_icmp_ge (tgt := 116) dX12_lays_91 (by decide) ?_ ?_
    · refine kr_sub [0] rfl ?_
      exact r_X12_lays_116 E M
    · refine kr_aload_n dX12_lays_94 rfl 0 rfl ?_
      refine kr_getA (o := 21) (ci := 12) (j := 31) dX12_lays_95 kr_at_346 fl_RX12_77 rfl ?_
      refine kr_iload_n dX12_lays_98 rfl 1 rfl ?_
      refine kr_aload_n dX12_lays_99 rfl 0 rfl ?_
      refine kr_getA (o := 15) (ci := 12) (j := 25) dX12_lays_100 kr_at_346 fl_RX12_58 rfl ?_
      refine kr_iconst (v := 3) dX12_lays_103 (by decide) ?_
      refine kr_iload_n dX12_lays_104 rfl 1 rfl ?_
      refine kr_imul dX12_lays_105 ?_
      refine kr_iconst (v := 2) dX12_lays_106 (by decide) ?_
      refine kr_iadd dX12_lays_107 ?_
      refine kr_iald dX12_lays_108 kr_at_361 (fun v2 => ?_)
      refine kr_iast dX12_lays_109 kr_at_367 (fun M3 => ?_)
      refine kr_iinc (j := 1) (v := (l1 + (1 : Int32))) (lv' := [(1, .int (l1 + (1 : Int32))), (0, kr_r E 346)]) dX12_lays_110 rfl rfl (by decide) rfl ?_
      refine kr_goto (tgt := 83) dX12_lays_113 (by decide) ?_
      refine kr_sub [1, 0] rfl ?_
      exact ih (l1 + (1 : Int32)) M3
theorem r_X12_lays_81 (E : kr_E)    (M : kr_M) : kR kr_vv E Y_X12_lays 3 81 [(0, kr_r E 346)] [] M (f_X12_lays_81 M) := by
  rw [f_X12_lays_81]
  refine kr_iconst (v := 0) dX12_lays_81 (by decide) ?_
  refine kr_istore_n (lv' := [(1, .int (0 : Int32)), (0, kr_r E 346)]) dX12_lays_82 rfl (by decide) rfl ?_
  refine kr_sub [1, 0] rfl ?_
  exact r_X12_lays_83 E _ (0 : Int32) M
theorem r_X12_lays_75 (E : kr_E) (k_2 : Int32 → kr_M → Option kr_M) (l1 : Int32) (hk_2 : ∀ (x1 : Int32) (M : kr_M), kR kr_vv E Y_X12_lays 3 2 [(0, kr_r E 346), (1, .int x1)] [] M (k_2 x1 M)) (M : kr_M) : kR kr_vv E Y_X12_lays 3 75 [(0, kr_r E 346), (1, .int l1)] [] M (f_X12_lays_75 k_2 l1 M) := by
  rw [f_X12_lays_75]
  refine kr_iinc (j := 1) (v := (l1 + (1 : Int32))) (lv' := [(1, .int (l1 + (1 : Int32))), (0, kr_r E 346)]) dX12_lays_75 rfl rfl (by decide) rfl ?_
  refine kr_goto (tgt := 2) dX12_lays_78 (by decide) ?_
  refine kr_sub [1, 0] rfl ?_
  exact hk_2 (l1 + (1 : Int32)) M
theorem r_X12_lays_37 (E : kr_E) (k_2 : Int32 → kr_M → Option kr_M) (l1 : Int32) (hk_2 : ∀ (x1 : Int32) (M : kr_M), kR kr_vv E Y_X12_lays 3 2 [(0, kr_r E 346), (1, .int x1)] [] M (k_2 x1 M)) : ∀ (n : Nat) (l2 : Int32) (M : kr_M), kR kr_vv E Y_X12_lays 3 37 [(0, kr_r E 346), (1, .int l1), (2, .int l2)] [] M (f_X12_lays_37 k_2 l1 n l2 M) := by
  intro n
  induction n with
  | zero => intro l2 M; exact kr_none
  | succ n ih =>
    intro l2 M
    rw [f_X12_lays_37]
    refine kr_iload_n dX12_lays_37 rfl 2 rfl ?_
    refine kr_aload_n dX12_lays_38 rfl 0 rfl ?_
    refine kr_getA (o := 19) (ci := 12) (j := 29) dX12_lays_39 kr_at_346 fl_RX12_71 rfl ?_
    refine kr_iload_n dX12_lays_42 rfl 1 rfl ?_
    refine kr_iald dX12_lays_43 kr_at_365 (fun v1 => ?_)
    refine kr_icmp_ge (tgt := 75) dX12_lays_44 (by decide) ?_ ?_
    · refine kr_sub [0, 1] rfl ?_
      exact r_X12_lays_75 E _ l1 hk_2 M
    · refine kr_aload_n dX12_lays_47 rfl 0 rfl ?_
      refine kr_getA (o := 18) (ci := 12) (j := 28) dX12_lays_48 kr_at_346 fl_RX12_68 rfl ?_
      refine kr_bipush (v := 24) dX12_lays_51 (by decide) ?_
      refine kr_iload_n dX12_lays_53 rfl 1 rfl ?_
      refine kr_imul dX12_lays_54 ?_
      refine kr_iload_n dX12_lays_55 rfl 2 rfl ?_
      refine kr_iadd dX12_lays_56 ?_
      refine kr_aload_n dX12_lays_57 rfl 0 rfl ?_
      refine kr_getA (o := 14) (ci := 12) (j := 24) dX12_lays_58 kr_at_346 fl_RX12_55 rfl ?_
      refine kr_bipush (v := 12) dX12_lays_61 (by decide) ?_
      refine kr_iload_n dX12_lays_63 rfl 1 rfl ?_
      refine kr_imul dX12_lays_64 ?_
      refine kr_iload_n dX12_lays_65 rfl 2 rfl ?_
      refine kr_iadd dX12_lays_66 ?_
      refine kr_iald dX12_lays_67 kr_at_360 (fun v2 => ?_)
      refine kr_iast dX12_lays_68 kr_at_364 (fun M3 => ?_)
      refine kr_iinc (j := 2) (v := (l2 + (1 : Int32))) (lv' := [(2, .int (l2 + (1 : Int32))), (0, kr_r E 346), (1, .int l1)]) dX12_lays_69 rfl rfl (by decide) rfl ?_
      refine kr_goto (tgt := 37) dX12_lays_72 (by decide) ?_
      refine kr_sub [1, 2, 0] rfl ?_
      exact ih (l2 + (1 : Int32)) M3
theorem r_X12_lays_2 (E : kr_E)    : ∀ (n : Nat) (l1 : Int32) (M : kr_M), kR kr_vv E Y_X12_lays 3 2 [(0, kr_r E 346), (1, .int l1)] [] M (f_X12_lays_2 n l1 M) := by
  intro n
  induction n with
  | zero => intro l1 M; exact kr_none
  | succ n ih =>
    intro l1 M
    rw [f_X12_lays_2]
    refine kr_iload_n dX12_lays_2 rfl 1 rfl ?_
    refine kr_aload_n dX12_lays_3 rfl 0 rfl ?_
    refine kr_getA (o := 7) (ci := 12) (j := 17) dX12_lays_4 kr_at_346 fl_RX12_34 rfl ?_
    refine kr_iconst (v := 5) dX12_lays_7 (by decide) ?_
    refine kr_iald dX12_lays_8 kr_at_353 (fun v1 => ?_)
    refine kr_icmp_ge (tgt := 81) dX12_lays_9 (by decide) ?_ ?_
    · refine kr_sub [0] rfl ?_
      exact r_X12_lays_81 E M
    · refine kr_aload_n dX12_lays_12 rfl 0 rfl ?_
      refine kr_getA (o := 19) (ci := 12) (j := 29) dX12_lays_13 kr_at_346 fl_RX12_71 rfl ?_
      refine kr_iload_n dX12_lays_16 rfl 1 rfl ?_
      refine kr_aload_n dX12_lays_17 rfl 0 rfl ?_
      refine kr_getA (o := 13) (ci := 12) (j := 23) dX12_lays_18 kr_at_346 fl_RX12_52 rfl ?_
      refine kr_iconst (v := 4) dX12_lays_21 (by decide) ?_
      refine kr_iload_n dX12_lays_22 rfl 1 rfl ?_
      refine kr_imul dX12_lays_23 ?_
      refine kr_iconst (v := 3) dX12_lays_24 (by decide) ?_
      refine kr_iadd dX12_lays_25 ?_
      refine kr_iald dX12_lays_26 kr_at_359 (fun v2 => ?_)
      refine kr_iast dX12_lays_27 kr_at_365 (fun M3 => ?_)
      refine kr_aload_n dX12_lays_28 rfl 0 rfl ?_
      refine kr_getA (o := 20) (ci := 12) (j := 30) dX12_lays_29 kr_at_346 fl_RX12_74 rfl ?_
      refine kr_iload_n dX12_lays_32 rfl 1 rfl ?_
      refine kr_iconst (v := 0) dX12_lays_33 (by decide) ?_
      refine kr_iast dX12_lays_34 kr_at_366 (fun M4 => ?_)
      refine kr_iconst (v := 0) dX12_lays_35 (by decide) ?_
      refine kr_istore_n (lv' := [(2, .int (0 : Int32)), (0, kr_r E 346), (1, .int l1)]) dX12_lays_36 rfl (by decide) rfl ?_
      refine kr_sub [1, 2, 0] rfl ?_
      exact r_X12_lays_37 E _ l1 ih _ (0 : Int32) M4
theorem r_X12_lays (E : kr_E)  (M : kr_M) : kR kr_vv E Y_X12_lays 3 0 [(0, kr_r E 346)] [] M (f_X12_lays M) := by
  rw [f_X12_lays]
  refine kr_iconst (v := 0) dX12_lays_0 (by decide) ?_
  refine kr_istore_n (lv' := [(1, .int (0 : Int32)), (0, kr_r E 346)]) dX12_lays_1 rfl (by decide) rfl ?_
  refine kr_sub [1, 0] rfl ?_
  exact r_X12_lays_2 E _ (0 : Int32) M
theorem dX12_inchesOf_0 : decode cX12_inchesOf 0 = .ok (.aload_n 0, 1) := by decide +kernel
theorem dX12_inchesOf_1 : decode cX12_inchesOf 1 = .ok (.getfield 71, 3) := by decide +kernel
theorem dX12_inchesOf_4 : decode cX12_inchesOf 4 = .ok (.iload_n 1, 1) := by decide +kernel
theorem dX12_inchesOf_5 : decode cX12_inchesOf 5 = .ok (.iaload, 1) := by decide +kernel
theorem dX12_inchesOf_6 : decode cX12_inchesOf 6 = .ok (.iconst 1, 1) := by decide +kernel
theorem dX12_inchesOf_7 : decode cX12_inchesOf 7 = .ok (.isub, 1) := by decide +kernel
theorem dX12_inchesOf_8 : decode cX12_inchesOf 8 = .ok (.istore_n 2, 1) := by decide +kernel
theorem dX12_inchesOf_9 : decode cX12_inchesOf 9 = .ok (.iconst 0, 1) := by decide +kernel
theorem dX12_inchesOf_10 : decode cX12_inchesOf 10 = .ok (.istore_n 3, 1) := by decide +kernel
theorem dX12_inchesOf_11 : decode cX12_inchesOf 11 = .ok (.iload_n 3, 1) := by decide +kernel
theorem dX12_inchesOf_12 : decode cX12_inchesOf 12 = .ok (.aload_n 0, 1) := by decide +kernel
theorem dX12_inchesOf_13 : decode cX12_inchesOf 13 = .ok (.getfield 71, 3) := by decide +kernel
theorem dX12_inchesOf_16 : decode cX12_inchesOf 16 = .ok (.iload_n 1, 1) := by decide +kernel
theorem dX12_inchesOf_17 : decode cX12_inchesOf 17 = .ok (.iaload, 1) := by decide +kernel
theorem dX12_inchesOf_18 : decode cX12_inchesOf 18 = .ok (.if_icmp .ge 28, 3) := by decide +kernel
theorem dX12_inchesOf_21 : decode cX12_inchesOf 21 = .ok (.iload_n 2, 1) := by decide +kernel
theorem dX12_inchesOf_22 : decode cX12_inchesOf 22 = .ok (.aload_n 0, 1) := by decide +kernel
theorem dX12_inchesOf_23 : decode cX12_inchesOf 23 = .ok (.getfield 37, 3) := by decide +kernel
theorem dX12_inchesOf_26 : decode cX12_inchesOf 26 = .ok (.aload_n 0, 1) := by decide +kernel
theorem dX12_inchesOf_27 : decode cX12_inchesOf 27 = .ok (.getfield 68, 3) := by decide +kernel
theorem dX12_inchesOf_30 : decode cX12_inchesOf 30 = .ok (.bipush 24, 2) := by decide +kernel
theorem dX12_inchesOf_32 : decode cX12_inchesOf 32 = .ok (.iload_n 1, 1) := by decide +kernel
theorem dX12_inchesOf_33 : decode cX12_inchesOf 33 = .ok (.imul, 1) := by decide +kernel
theorem dX12_inchesOf_34 : decode cX12_inchesOf 34 = .ok (.iload_n 3, 1) := by decide +kernel
theorem dX12_inchesOf_35 : decode cX12_inchesOf 35 = .ok (.iadd, 1) := by decide +kernel
theorem dX12_inchesOf_36 : decode cX12_inchesOf 36 = .ok (.iaload, 1) := by decide +kernel
theorem dX12_inchesOf_37 : decode cX12_inchesOf 37 = .ok (.iaload, 1) := by decide +kernel
theorem dX12_inchesOf_38 : decode cX12_inchesOf 38 = .ok (.iadd, 1) := by decide +kernel
theorem dX12_inchesOf_39 : decode cX12_inchesOf 39 = .ok (.istore_n 2, 1) := by decide +kernel
theorem dX12_inchesOf_40 : decode cX12_inchesOf 40 = .ok (.iinc 3 1, 3) := by decide +kernel
theorem dX12_inchesOf_43 : decode cX12_inchesOf 43 = .ok (.goto (-32), 3) := by decide +kernel
theorem dX12_inchesOf_46 : decode cX12_inchesOf 46 = .ok (.aload_n 0, 1) := by decide +kernel
theorem dX12_inchesOf_47 : decode cX12_inchesOf 47 = .ok (.getfield 322, 3) := by decide +kernel
theorem dX12_inchesOf_50 : decode cX12_inchesOf 50 = .ok (.iconst 1, 1) := by decide +kernel
theorem dX12_inchesOf_51 : decode cX12_inchesOf 51 = .ok (.if_icmp .ne 12, 3) := by decide +kernel
theorem dX12_inchesOf_54 : decode cX12_inchesOf 54 = .ok (.iload_n 2, 1) := by decide +kernel
theorem dX12_inchesOf_55 : decode cX12_inchesOf 55 = .ok (.iload_n 2, 1) := by decide +kernel
theorem dX12_inchesOf_56 : decode cX12_inchesOf 56 = .ok (.bipush 10, 2) := by decide +kernel
theorem dX12_inchesOf_58 : decode cX12_inchesOf 58 = .ok (.idiv, 1) := by decide +kernel
theorem dX12_inchesOf_59 : decode cX12_inchesOf 59 = .ok (.isub, 1) := by decide +kernel
theorem dX12_inchesOf_60 : decode cX12_inchesOf 60 = .ok (.goto 4, 3) := by decide +kernel
theorem dX12_inchesOf_63 : decode cX12_inchesOf 63 = .ok (.iload_n 2, 1) := by decide +kernel
theorem dX12_inchesOf_64 : decode cX12_inchesOf 64 = .ok (.ireturn, 1) := by decide +kernel
theorem r_X12_inchesOf_46 (E : kr_E)  (l2 : Int32)  (M : kr_M) : kR kr_vi E Y_X12_inchesOf 1 46 [(0, kr_r E 346), (2, .int l2)] [] M (f_X12_inchesOf_46 l2 M) := by
  rw [f_X12_inchesOf_46]
  refine kr_aload_n dX12_inchesOf_46 rfl 0 rfl ?_
  refine kr_getI (ci := 12) (j := 32) dX12_inchesOf_47 kr_at_346 fl_RX12_322 rfl (fun v1 => ?_)
  refine kr_iconst (v := 1) dX12_inchesOf_50 (by decide) ?_
  refine kr_icmp_ne (tgt := 63) dX12_inchesOf_51 (by decide) ?_ ?_
  · refine kr_iload_n dX12_inchesOf_63 rfl 1 rfl ?_
    exact kr_iret dX12_inchesOf_64 rfl
  · refine kr_iload_n dX12_inchesOf_54 rfl 1 rfl ?_
    refine kr_iload_n dX12_inchesOf_55 rfl 1 rfl ?_
    refine kr_bipush (v := 10) dX12_inchesOf_56 (by decide) ?_
    refine kr_idiv dX12_inchesOf_58 (fun n2 => ?_)
    refine kr_isub dX12_inchesOf_59 ?_
    refine kr_goto (tgt := 64) dX12_inchesOf_60 (by decide) ?_
    exact kr_iret dX12_inchesOf_64 rfl
theorem r_X12_inchesOf_11 (E : kr_E)  (l1 : Int32)  : ∀ (n : Nat) (l2 : Int32) (l3 : Int32) (M : kr_M), kR kr_vi E Y_X12_inchesOf 1 11 [(0, kr_r E 346), (1, .int l1), (2, .int l2), (3, .int l3)] [] M (f_X12_inchesOf_11 l1 n l2 l3 M) := by
  intro n
  induction n with
  | zero => intro l2 l3 M; exact kr_none
  | succ n ih =>
    intro l2 l3 M
    rw [f_X12_inchesOf_11]
    refine kr_iload_n dX12_inchesOf_11 rfl 3 rfl ?_
    refine kr_aload_n dX12_inchesOf_12 rfl 0 rfl ?_
    refine kr_getA (o := 19) (ci := 12) (j := 29) dX12_inchesOf_13 kr_at_346 fl_RX12_71 rfl ?_
    refine kr_iload_n dX12_inchesOf_16 rfl 1 rfl ?_
    refine kr_iald dX12_inchesOf_17 kr_at_365 (fun v1 => ?_)
    refine kr_icmp_ge (tgt := 46) dX12_inchesOf_18 (by decide) ?_ ?_
    · refine kr_sub [0, 2] rfl ?_
      exact r_X12_inchesOf_46 E l2 M
    · refine kr_iload_n dX12_inchesOf_21 rfl 2 rfl ?_
      refine kr_aload_n dX12_inchesOf_22 rfl 0 rfl ?_
      refine kr_getA (o := 8) (ci := 12) (j := 18) dX12_inchesOf_23 kr_at_346 fl_RX12_37 rfl ?_
      refine kr_aload_n dX12_inchesOf_26 rfl 0 rfl ?_
      refine kr_getA (o := 18) (ci := 12) (j := 28) dX12_inchesOf_27 kr_at_346 fl_RX12_68 rfl ?_
      refine kr_bipush (v := 24) dX12_inchesOf_30 (by decide) ?_
      refine kr_iload_n dX12_inchesOf_32 rfl 1 rfl ?_
      refine kr_imul dX12_inchesOf_33 ?_
      refine kr_iload_n dX12_inchesOf_34 rfl 3 rfl ?_
      refine kr_iadd dX12_inchesOf_35 ?_
      refine kr_iald dX12_inchesOf_36 kr_at_364 (fun v2 => ?_)
      refine kr_iald dX12_inchesOf_37 kr_at_354 (fun v3 => ?_)
      refine kr_iadd dX12_inchesOf_38 ?_
      refine kr_nmi (fun v4 => ?_)
      refine kr_istore_n (lv' := [(2, .int v4), (0, kr_r E 346), (1, .int l1), (3, .int l3)]) dX12_inchesOf_39 rfl (by decide) rfl ?_
      refine kr_iinc (j := 3) (v := (l3 + (1 : Int32))) (lv' := [(3, .int (l3 + (1 : Int32))), (2, .int v4), (0, kr_r E 346), (1, .int l1)]) dX12_inchesOf_40 rfl rfl (by decide) rfl ?_
      refine kr_goto (tgt := 11) dX12_inchesOf_43 (by decide) ?_
      refine kr_sub [2, 3, 1, 0] rfl ?_
      exact ih v4 (l3 + (1 : Int32)) M
theorem r_X12_inchesOf (E : kr_E) (p1 : Int32) (M : kr_M) : kR kr_vi E Y_X12_inchesOf 1 0 [(0, kr_r E 346), (1, .int p1)] [] M (f_X12_inchesOf p1 M) := by
  rw [f_X12_inchesOf]
  refine kr_aload_n dX12_inchesOf_0 rfl 0 rfl ?_
  refine kr_getA (o := 19) (ci := 12) (j := 29) dX12_inchesOf_1 kr_at_346 fl_RX12_71 rfl ?_
  refine kr_iload_n dX12_inchesOf_4 rfl 1 rfl ?_
  refine kr_iald dX12_inchesOf_5 kr_at_365 (fun v1 => ?_)
  refine kr_iconst (v := 1) dX12_inchesOf_6 (by decide) ?_
  refine kr_isub dX12_inchesOf_7 ?_
  refine kr_nmi (fun v2 => ?_)
  refine kr_istore_n (lv' := [(2, .int v2), (0, kr_r E 346), (1, .int p1)]) dX12_inchesOf_8 rfl (by decide) rfl ?_
  refine kr_iconst (v := 0) dX12_inchesOf_9 (by decide) ?_
  refine kr_istore_n (lv' := [(3, .int (0 : Int32)), (2, .int v2), (0, kr_r E 346), (1, .int p1)]) dX12_inchesOf_10 rfl (by decide) rfl ?_
  refine kr_sub [2, 3, 1, 0] rfl ?_
  exact r_X12_inchesOf_11 E p1 _ v2 (0 : Int32) M
theorem dX12_strengthOf_0 : decode cX12_strengthOf 0 = .ok (.iconst 0, 1) := by decide +kernel
theorem dX12_strengthOf_1 : decode cX12_strengthOf 1 = .ok (.istore_n 2, 1) := by decide +kernel
theorem dX12_strengthOf_2 : decode cX12_strengthOf 2 = .ok (.iconst 0, 1) := by decide +kernel
theorem dX12_strengthOf_3 : decode cX12_strengthOf 3 = .ok (.istore_n 3, 1) := by decide +kernel
theorem dX12_strengthOf_4 : decode cX12_strengthOf 4 = .ok (.iload_n 3, 1) := by decide +kernel
theorem dX12_strengthOf_5 : decode cX12_strengthOf 5 = .ok (.aload_n 0, 1) := by decide +kernel
theorem dX12_strengthOf_6 : decode cX12_strengthOf 6 = .ok (.getfield 71, 3) := by decide +kernel
theorem dX12_strengthOf_9 : decode cX12_strengthOf 9 = .ok (.iload_n 1, 1) := by decide +kernel
theorem dX12_strengthOf_10 : decode cX12_strengthOf 10 = .ok (.iaload, 1) := by decide +kernel
theorem dX12_strengthOf_11 : decode cX12_strengthOf 11 = .ok (.if_icmp .ge 46, 3) := by decide +kernel
theorem dX12_strengthOf_14 : decode cX12_strengthOf 14 = .ok (.aload_n 0, 1) := by decide +kernel
theorem dX12_strengthOf_15 : decode cX12_strengthOf 15 = .ok (.getfield 40, 3) := by decide +kernel
theorem dX12_strengthOf_18 : decode cX12_strengthOf 18 = .ok (.aload_n 0, 1) := by decide +kernel
theorem dX12_strengthOf_19 : decode cX12_strengthOf 19 = .ok (.getfield 68, 3) := by decide +kernel
theorem dX12_strengthOf_22 : decode cX12_strengthOf 22 = .ok (.bipush 24, 2) := by decide +kernel
theorem dX12_strengthOf_24 : decode cX12_strengthOf 24 = .ok (.iload_n 1, 1) := by decide +kernel
theorem dX12_strengthOf_25 : decode cX12_strengthOf 25 = .ok (.imul, 1) := by decide +kernel
theorem dX12_strengthOf_26 : decode cX12_strengthOf 26 = .ok (.iload_n 3, 1) := by decide +kernel
theorem dX12_strengthOf_27 : decode cX12_strengthOf 27 = .ok (.iadd, 1) := by decide +kernel
theorem dX12_strengthOf_28 : decode cX12_strengthOf 28 = .ok (.iaload, 1) := by decide +kernel
theorem dX12_strengthOf_29 : decode cX12_strengthOf 29 = .ok (.iaload, 1) := by decide +kernel
theorem dX12_strengthOf_30 : decode cX12_strengthOf 30 = .ok (.iload_n 2, 1) := by decide +kernel
theorem dX12_strengthOf_31 : decode cX12_strengthOf 31 = .ok (.if_icmp .le 20, 3) := by decide +kernel
theorem dX12_strengthOf_34 : decode cX12_strengthOf 34 = .ok (.aload_n 0, 1) := by decide +kernel
theorem dX12_strengthOf_35 : decode cX12_strengthOf 35 = .ok (.getfield 40, 3) := by decide +kernel
theorem dX12_strengthOf_38 : decode cX12_strengthOf 38 = .ok (.aload_n 0, 1) := by decide +kernel
theorem dX12_strengthOf_39 : decode cX12_strengthOf 39 = .ok (.getfield 68, 3) := by decide +kernel
theorem dX12_strengthOf_42 : decode cX12_strengthOf 42 = .ok (.bipush 24, 2) := by decide +kernel
theorem dX12_strengthOf_44 : decode cX12_strengthOf 44 = .ok (.iload_n 1, 1) := by decide +kernel
theorem dX12_strengthOf_45 : decode cX12_strengthOf 45 = .ok (.imul, 1) := by decide +kernel
theorem dX12_strengthOf_46 : decode cX12_strengthOf 46 = .ok (.iload_n 3, 1) := by decide +kernel
theorem dX12_strengthOf_47 : decode cX12_strengthOf 47 = .ok (.iadd, 1) := by decide +kernel
theorem dX12_strengthOf_48 : decode cX12_strengthOf 48 = .ok (.iaload, 1) := by decide +kernel
theorem dX12_strengthOf_49 : decode cX12_strengthOf 49 = .ok (.iaload, 1) := by decide +kernel
theorem dX12_strengthOf_50 : decode cX12_strengthOf 50 = .ok (.istore_n 2, 1) := by decide +kernel
theorem dX12_strengthOf_51 : decode cX12_strengthOf 51 = .ok (.iinc 3 1, 3) := by decide +kernel
theorem dX12_strengthOf_54 : decode cX12_strengthOf 54 = .ok (.goto (-50), 3) := by decide +kernel
theorem dX12_strengthOf_57 : decode cX12_strengthOf 57 = .ok (.aload_n 0, 1) := by decide +kernel
theorem dX12_strengthOf_58 : decode cX12_strengthOf 58 = .ok (.getfield 52, 3) := by decide +kernel
theorem dX12_strengthOf_61 : decode cX12_strengthOf 61 = .ok (.iconst 4, 1) := by decide +kernel
theorem dX12_strengthOf_62 : decode cX12_strengthOf 62 = .ok (.iload_n 1, 1) := by decide +kernel
theorem dX12_strengthOf_63 : decode cX12_strengthOf 63 = .ok (.imul, 1) := by decide +kernel
theorem dX12_strengthOf_64 : decode cX12_strengthOf 64 = .ok (.iconst 2, 1) := by decide +kernel
theorem dX12_strengthOf_65 : decode cX12_strengthOf 65 = .ok (.iadd, 1) := by decide +kernel
theorem dX12_strengthOf_66 : decode cX12_strengthOf 66 = .ok (.iaload, 1) := by decide +kernel
theorem dX12_strengthOf_67 : decode cX12_strengthOf 67 = .ok (.bipush 100, 2) := by decide +kernel
theorem dX12_strengthOf_69 : decode cX12_strengthOf 69 = .ok (.iload_n 2, 1) := by decide +kernel
theorem dX12_strengthOf_70 : decode cX12_strengthOf 70 = .ok (.isub, 1) := by decide +kernel
theorem dX12_strengthOf_71 : decode cX12_strengthOf 71 = .ok (.imul, 1) := by decide +kernel
theorem dX12_strengthOf_72 : decode cX12_strengthOf 72 = .ok (.bipush 100, 2) := by decide +kernel
theorem dX12_strengthOf_74 : decode cX12_strengthOf 74 = .ok (.idiv, 1) := by decide +kernel
theorem dX12_strengthOf_75 : decode cX12_strengthOf 75 = .ok (.aload_n 0, 1) := by decide +kernel
theorem dX12_strengthOf_76 : decode cX12_strengthOf 76 = .ok (.getfield 34, 3) := by decide +kernel
theorem dX12_strengthOf_79 : decode cX12_strengthOf 79 = .ok (.iconst 1, 1) := by decide +kernel
theorem dX12_strengthOf_80 : decode cX12_strengthOf 80 = .ok (.iaload, 1) := by decide +kernel
theorem dX12_strengthOf_81 : decode cX12_strengthOf 81 = .ok (.aload_n 0, 1) := by decide +kernel
theorem dX12_strengthOf_82 : decode cX12_strengthOf 82 = .ok (.getfield 74, 3) := by decide +kernel
theorem dX12_strengthOf_85 : decode cX12_strengthOf 85 = .ok (.iload_n 1, 1) := by decide +kernel
theorem dX12_strengthOf_86 : decode cX12_strengthOf 86 = .ok (.iaload, 1) := by decide +kernel
theorem dX12_strengthOf_87 : decode cX12_strengthOf 87 = .ok (.imul, 1) := by decide +kernel
theorem dX12_strengthOf_88 : decode cX12_strengthOf 88 = .ok (.isub, 1) := by decide +kernel
theorem dX12_strengthOf_89 : decode cX12_strengthOf 89 = .ok (.ireturn, 1) := by decide +kernel
theorem r_X12_strengthOf_57 (E : kr_E)  (l1 : Int32) (l2 : Int32)  (M : kr_M) : kR kr_vi E Y_X12_strengthOf 1 57 [(0, kr_r E 346), (1, .int l1), (2, .int l2)] [] M (f_X12_strengthOf_57 l1 l2 M) := by
  rw [f_X12_strengthOf_57]
  refine kr_aload_n dX12_strengthOf_57 rfl 0 rfl ?_
  refine kr_getA (o := 13) (ci := 12) (j := 23) dX12_strengthOf_58 kr_at_346 fl_RX12_52 rfl ?_
  refine kr_iconst (v := 4) dX12_strengthOf_61 (by decide) ?_
  refine kr_iload_n dX12_strengthOf_62 rfl 1 rfl ?_
  refine kr_imul dX12_strengthOf_63 ?_
  refine kr_iconst (v := 2) dX12_strengthOf_64 (by decide) ?_
  refine kr_iadd dX12_strengthOf_65 ?_
  refine kr_iald dX12_strengthOf_66 kr_at_359 (fun v1 => ?_)
  refine kr_bipush (v := 100) dX12_strengthOf_67 (by decide) ?_
  refine kr_iload_n dX12_strengthOf_69 rfl 2 rfl ?_
  refine kr_isub dX12_strengthOf_70 ?_
  refine kr_imul dX12_strengthOf_71 ?_
  refine kr_bipush (v := 100) dX12_strengthOf_72 (by decide) ?_
  refine kr_idiv dX12_strengthOf_74 (fun n2 => ?_)
  refine kr_aload_n dX12_strengthOf_75 rfl 0 rfl ?_
  refine kr_getA (o := 7) (ci := 12) (j := 17) dX12_strengthOf_76 kr_at_346 fl_RX12_34 rfl ?_
  refine kr_iconst (v := 1) dX12_strengthOf_79 (by decide) ?_
  refine kr_iald dX12_strengthOf_80 kr_at_353 (fun v3 => ?_)
  refine kr_aload_n dX12_strengthOf_81 rfl 0 rfl ?_
  refine kr_getA (o := 20) (ci := 12) (j := 30) dX12_strengthOf_82 kr_at_346 fl_RX12_74 rfl ?_
  refine kr_iload_n dX12_strengthOf_85 rfl 1 rfl ?_
  refine kr_iald dX12_strengthOf_86 kr_at_366 (fun v4 => ?_)
  refine kr_imul dX12_strengthOf_87 ?_
  refine kr_isub dX12_strengthOf_88 ?_
  exact kr_iret dX12_strengthOf_89 rfl
theorem r_X12_strengthOf_51 (E : kr_E) (k_4 : Int32 → Int32 → kr_M → Option (Int32 × kr_M)) (l1 : Int32) (l2 : Int32) (l3 : Int32) (hk_4 : ∀ (x2 : Int32) (x3 : Int32) (M : kr_M), kR kr_vi E Y_X12_strengthOf 1 4 [(0, kr_r E 346), (1, .int l1), (2, .int x2), (3, .int x3)] [] M (k_4 x2 x3 M)) (M : kr_M) : kR kr_vi E Y_X12_strengthOf 1 51 [(0, kr_r E 346), (1, .int l1), (2, .int l2), (3, .int l3)] [] M (f_X12_strengthOf_51 k_4 l2 l3 M) := by
  rw [f_X12_strengthOf_51]
  refine kr_iinc (j := 3) (v := (l3 + (1 : Int32))) (lv' := [(3, .int (l3 + (1 : Int32))), (0, kr_r E 346), (1, .int l1), (2, .int l2)]) dX12_strengthOf_51 rfl rfl (by decide) rfl ?_
  refine kr_goto (tgt := 4) dX12_strengthOf_54 (by decide) ?_
  refine kr_sub [1, 2, 3, 0] rfl ?_
  exact hk_4 l2 (l3 + (1 : Int32)) M
theorem r_X12_strengthOf_4 (E : kr_E)  (l1 : Int32)  : ∀ (n : Nat) (l2 : Int32) (l3 : Int32) (M : kr_M), kR kr_vi E Y_X12_strengthOf 1 4 [(0, kr_r E 346), (1, .int l1), (2, .int l2), (3, .int l3)] [] M (f_X12_strengthOf_4 l1 n l2 l3 M) := by
  intro n
  induction n with
  | zero => intro l2 l3 M; exact kr_none
  | succ n ih =>
    intro l2 l3 M
    rw [f_X12_strengthOf_4]
    refine kr_iload_n dX12_strengthOf_4 rfl 3 rfl ?_
    refine kr_aload_n dX12_strengthOf_5 rfl 0 rfl ?_
    refine kr_getA (o := 19) (ci := 12) (j := 29) dX12_strengthOf_6 kr_at_346 fl_RX12_71 rfl ?_
    refine kr_iload_n dX12_strengthOf_9 rfl 1 rfl ?_
    refine kr_iald dX12_strengthOf_10 kr_at_365 (fun v1 => ?_)
    refine kr_icmp_ge (tgt := 57) dX12_strengthOf_11 (by decide) ?_ ?_
    · refine kr_sub [0, 1, 2] rfl ?_
      exact r_X12_strengthOf_57 E l1 l2 M
    · refine kr_aload_n dX12_strengthOf_14 rfl 0 rfl ?_
      refine kr_getA (o := 9) (ci := 12) (j := 19) dX12_strengthOf_15 kr_at_346 fl_RX12_40 rfl ?_
      refine kr_aload_n dX12_strengthOf_18 rfl 0 rfl ?_
      refine kr_getA (o := 18) (ci := 12) (j := 28) dX12_strengthOf_19 kr_at_346 fl_RX12_68 rfl ?_
      refine kr_bipush (v := 24) dX12_strengthOf_22 (by decide) ?_
      refine kr_iload_n dX12_strengthOf_24 rfl 1 rfl ?_
      refine kr_imul dX12_strengthOf_25 ?_
      refine kr_iload_n dX12_strengthOf_26 rfl 3 rfl ?_
      refine kr_iadd dX12_strengthOf_27 ?_
      refine kr_iald dX12_strengthOf_28 kr_at_364 (fun v2 => ?_)
      refine kr_iald dX12_strengthOf_29 kr_at_355 (fun v3 => ?_)
      refine kr_iload_n dX12_strengthOf_30 rfl 2 rfl ?_
      refine kr_icmp_le (tgt := 51) dX12_strengthOf_31 (by decide) ?_ ?_
      · refine kr_sub [0, 1, 2, 3] rfl ?_
        exact r_X12_strengthOf_51 E _ l1 l2 l3 ih M
      · refine kr_aload_n dX12_strengthOf_34 rfl 0 rfl ?_
        refine kr_getA (o := 9) (ci := 12) (j := 19) dX12_strengthOf_35 kr_at_346 fl_RX12_40 rfl ?_
        refine kr_aload_n dX12_strengthOf_38 rfl 0 rfl ?_
        refine kr_getA (o := 18) (ci := 12) (j := 28) dX12_strengthOf_39 kr_at_346 fl_RX12_68 rfl ?_
        refine kr_bipush (v := 24) dX12_strengthOf_42 (by decide) ?_
        refine kr_iload_n dX12_strengthOf_44 rfl 1 rfl ?_
        refine kr_imul dX12_strengthOf_45 ?_
        refine kr_iload_n dX12_strengthOf_46 rfl 3 rfl ?_
        refine kr_iadd dX12_strengthOf_47 ?_
        refine kr_iald dX12_strengthOf_48 kr_at_364 (fun v4 => ?_)
        refine kr_iald dX12_strengthOf_49 kr_at_355 (fun v5 => ?_)
        refine kr_istore_n (lv' := [(2, .int v5), (0, kr_r E 346), (1, .int l1), (3, .int l3)]) dX12_strengthOf_50 rfl (by decide) rfl ?_
        refine kr_sub [1, 2, 0, 3] rfl ?_
        exact r_X12_strengthOf_51 E _ l1 v5 l3 ih M
theorem r_X12_strengthOf (E : kr_E) (p1 : Int32) (M : kr_M) : kR kr_vi E Y_X12_strengthOf 1 0 [(0, kr_r E 346), (1, .int p1)] [] M (f_X12_strengthOf p1 M) := by
  rw [f_X12_strengthOf]
  refine kr_iconst (v := 0) dX12_strengthOf_0 (by decide) ?_
  refine kr_istore_n (lv' := [(2, .int (0 : Int32)), (0, kr_r E 346), (1, .int p1)]) dX12_strengthOf_1 rfl (by decide) rfl ?_
  refine kr_iconst (v := 0) dX12_strengthOf_2 (by decide) ?_
  refine kr_istore_n (lv' := [(3, .int (0 : Int32)), (2, .int (0 : Int32)), (0, kr_r E 346), (1, .int p1)]) dX12_strengthOf_3 rfl (by decide) rfl ?_
  refine kr_sub [2, 3, 1, 0] rfl ?_
  exact r_X12_strengthOf_4 E p1 _ (0 : Int32) (0 : Int32) M
theorem dX12_knot_0 : decode cX12_knot 0 = .ok (.aload_n 0, 1) := by decide +kernel
theorem dX12_knot_1 : decode cX12_knot 1 = .ok (.iconst 0, 1) := by decide +kernel
theorem dX12_knot_2 : decode cX12_knot 2 = .ok (.putfield 138, 3) := by decide +kernel
theorem dX12_knot_5 : decode cX12_knot 5 = .ok (.iload_n 1, 1) := by decide +kernel
theorem dX12_knot_6 : decode cX12_knot 6 = .ok (.i2l, 1) := by decide +kernel
theorem dX12_knot_7 : decode cX12_knot 7 = .ok (.lconst 0, 1) := by decide +kernel
theorem dX12_knot_8 : decode cX12_knot 8 = .ok (.aload_n 0, 1) := by decide +kernel
theorem dX12_knot_9 : decode cX12_knot 9 = .ok (.getfield 34, 3) := by decide +kernel
theorem dX12_knot_12 : decode cX12_knot 12 = .ok (.iconst 3, 1) := by decide +kernel
theorem dX12_knot_13 : decode cX12_knot 13 = .ok (.iaload, 1) := by decide +kernel
theorem dX12_knot_14 : decode cX12_knot 14 = .ok (.iconst 1, 1) := by decide +kernel
theorem dX12_knot_15 : decode cX12_knot 15 = .ok (.isub, 1) := by decide +kernel
theorem dX12_knot_16 : decode cX12_knot 16 = .ok (.i2l, 1) := by decide +kernel
theorem dX12_knot_17 : decode cX12_knot 17 = .ok (.invokestatic 143, 3) := by decide +kernel
theorem dX12_knot_20 : decode cX12_knot 20 = .ok (.ifCond .eq 35, 3) := by decide +kernel
theorem dX12_knot_23 : decode cX12_knot 23 = .ok (.iload_n 2, 1) := by decide +kernel
theorem dX12_knot_24 : decode cX12_knot 24 = .ok (.i2l, 1) := by decide +kernel
theorem dX12_knot_25 : decode cX12_knot 25 = .ok (.lconst 0, 1) := by decide +kernel
theorem dX12_knot_26 : decode cX12_knot 26 = .ok (.lconst 1, 1) := by decide +kernel
theorem dX12_knot_27 : decode cX12_knot 27 = .ok (.invokestatic 143, 3) := by decide +kernel
theorem dX12_knot_30 : decode cX12_knot 30 = .ok (.ifCond .eq 25, 3) := by decide +kernel
theorem dX12_knot_33 : decode cX12_knot 33 = .ok (.iload_n 2, 1) := by decide +kernel
theorem dX12_knot_34 : decode cX12_knot 34 = .ok (.ifCond .ne 12, 3) := by decide +kernel
theorem dX12_knot_37 : decode cX12_knot 37 = .ok (.aload_n 0, 1) := by decide +kernel
theorem dX12_knot_38 : decode cX12_knot 38 = .ok (.getfield 37, 3) := by decide +kernel
theorem dX12_knot_41 : decode cX12_knot 41 = .ok (.iload_n 1, 1) := by decide +kernel
theorem dX12_knot_42 : decode cX12_knot 42 = .ok (.iaload, 1) := by decide +kernel
theorem dX12_knot_43 : decode cX12_knot 43 = .ok (.goto 14, 3) := by decide +kernel
theorem dX12_knot_46 : decode cX12_knot 46 = .ok (.aload_n 0, 1) := by decide +kernel
theorem dX12_knot_47 : decode cX12_knot 47 = .ok (.getfield 40, 3) := by decide +kernel
theorem dX12_knot_50 : decode cX12_knot 50 = .ok (.iload_n 1, 1) := by decide +kernel
theorem dX12_knot_51 : decode cX12_knot 51 = .ok (.iaload, 1) := by decide +kernel
theorem dX12_knot_52 : decode cX12_knot 52 = .ok (.goto 5, 3) := by decide +kernel
theorem dX12_knot_55 : decode cX12_knot 55 = .ok (.bipush (-2), 2) := by decide +kernel
theorem dX12_knot_57 : decode cX12_knot 57 = .ok (.ireturn, 1) := by decide +kernel
theorem r_X12_knot (E : kr_E) (p1 : Int32) (p2 : Int32) (M : kr_M) : kR kr_vi E Y_X12_knot 2 0 [(0, kr_r E 346), (1, .int p1), (2, .int p2)] [] M (f_X12_knot p1 p2 M) := by
  rw [f_X12_knot]
  refine kr_aload_n dX12_knot_0 rfl 0 rfl ?_
  refine kr_iconst (v := 0) dX12_knot_1 (by decide) ?_
  refine kr_putI (ci := 12) (j := 0) dX12_knot_2 kr_at_346 fl_RX12_138 rfl rfl (fun M1 => ?_)
  refine kr_iload_n dX12_knot_5 rfl 1 rfl ?_
  refine kr_i2l dX12_knot_6 ?_
  refine kr_lconst (v := 0) dX12_knot_7 (by decide) ?_
  refine kr_aload_n dX12_knot_8 rfl 0 rfl ?_
  refine kr_getA (o := 7) (ci := 12) (j := 17) dX12_knot_9 kr_at_346 fl_RX12_34 rfl ?_
  refine kr_iconst (v := 3) dX12_knot_12 (by decide) ?_
  refine kr_iald dX12_knot_13 kr_at_353 (fun v2 => ?_)
  refine kr_iconst (v := 1) dX12_knot_14 (by decide) ?_
  refine kr_isub dX12_knot_15 ?_
  refine kr_i2l dX12_knot_16 ?_
  refine kr_Si (As := [.long (p1.toInt64), .long (0 : Int64), .long ((v2 - (1 : Int32)).toInt64)]) (st := []) zs_X12_in dX12_knot_17 ml_RX12_143 (r_X12_in E (p1.toInt64) (0 : Int64) ((v2 - (1 : Int32)).toInt64) M1) rfl rfl (Nat.le_of_ble_eq_true rfl) rfl (by decide) (Nat.le_of_ble_eq_true rfl) (fun r4 M3 => ?_)
  refine kr_if_eq (tgt := 55) dX12_knot_20 (by decide) ?_ ?_
  · refine kr_bipush (v := -2) dX12_knot_55 (by decide) ?_
    exact kr_iret dX12_knot_57 rfl
  · refine kr_iload_n dX12_knot_23 rfl 2 rfl ?_
    refine kr_i2l dX12_knot_24 ?_
    refine kr_lconst (v := 0) dX12_knot_25 (by decide) ?_
    refine kr_lconst (v := 1) dX12_knot_26 (by decide) ?_
    refine kr_Si (As := [.long (p2.toInt64), .long (0 : Int64), .long (1 : Int64)]) (st := []) zs_X12_in dX12_knot_27 ml_RX12_143 (r_X12_in E (p2.toInt64) (0 : Int64) (1 : Int64) M3) rfl rfl (Nat.le_of_ble_eq_true rfl) rfl (by decide) (Nat.le_of_ble_eq_true rfl) (fun r6 M5 => ?_)
    refine kr_if_eq (tgt := 55) dX12_knot_30 (by decide) ?_ ?_
    · refine kr_bipush (v := -2) dX12_knot_55 (by decide) ?_
      exact kr_iret dX12_knot_57 rfl
    · refine kr_iload_n dX12_knot_33 rfl 2 rfl ?_
      refine kr_if_ne (tgt := 46) dX12_knot_34 (by decide) ?_ ?_
      · refine kr_aload_n dX12_knot_46 rfl 0 rfl ?_
        refine kr_getA (o := 9) (ci := 12) (j := 19) dX12_knot_47 kr_at_346 fl_RX12_40 rfl ?_
        refine kr_iload_n dX12_knot_50 rfl 1 rfl ?_
        refine kr_iald dX12_knot_51 kr_at_355 (fun v7 => ?_)
        refine kr_goto (tgt := 57) dX12_knot_52 (by decide) ?_
        exact kr_iret dX12_knot_57 rfl
      · refine kr_aload_n dX12_knot_37 rfl 0 rfl ?_
        refine kr_getA (o := 8) (ci := 12) (j := 18) dX12_knot_38 kr_at_346 fl_RX12_37 rfl ?_
        refine kr_iload_n dX12_knot_41 rfl 1 rfl ?_
        refine kr_iald dX12_knot_42 kr_at_354 (fun v8 => ?_)
        refine kr_goto (tgt := 57) dX12_knot_43 (by decide) ?_
        exact kr_iret dX12_knot_57 rfl
theorem dX12_isWord_0 : decode cX12_isWord 0 = .ok (.iload_n 1, 1) := by decide +kernel
theorem dX12_isWord_1 : decode cX12_isWord 1 = .ok (.i2l, 1) := by decide +kernel
theorem dX12_isWord_2 : decode cX12_isWord 2 = .ok (.lconst 0, 1) := by decide +kernel
theorem dX12_isWord_3 : decode cX12_isWord 3 = .ok (.aload_n 0, 1) := by decide +kernel
theorem dX12_isWord_4 : decode cX12_isWord 4 = .ok (.getfield 34, 3) := by decide +kernel
theorem dX12_isWord_7 : decode cX12_isWord 7 = .ok (.iconst 4, 1) := by decide +kernel
theorem dX12_isWord_8 : decode cX12_isWord 8 = .ok (.iaload, 1) := by decide +kernel
theorem dX12_isWord_9 : decode cX12_isWord 9 = .ok (.iconst 1, 1) := by decide +kernel
theorem dX12_isWord_10 : decode cX12_isWord 10 = .ok (.isub, 1) := by decide +kernel
theorem dX12_isWord_11 : decode cX12_isWord 11 = .ok (.i2l, 1) := by decide +kernel
theorem dX12_isWord_12 : decode cX12_isWord 12 = .ok (.invokestatic 143, 3) := by decide +kernel
theorem dX12_isWord_15 : decode cX12_isWord 15 = .ok (.ireturn, 1) := by decide +kernel
theorem r_X12_isWord (E : kr_E) (p1 : Int32) (M : kr_M) : kR kr_vi E Y_X12_isWord 2 0 [(0, kr_r E 346), (1, .int p1)] [] M (f_X12_isWord p1 M) := by
  rw [f_X12_isWord]
  refine kr_iload_n dX12_isWord_0 rfl 1 rfl ?_
  refine kr_i2l dX12_isWord_1 ?_
  refine kr_lconst (v := 0) dX12_isWord_2 (by decide) ?_
  refine kr_aload_n dX12_isWord_3 rfl 0 rfl ?_
  refine kr_getA (o := 7) (ci := 12) (j := 17) dX12_isWord_4 kr_at_346 fl_RX12_34 rfl ?_
  refine kr_iconst (v := 4) dX12_isWord_7 (by decide) ?_
  refine kr_iald dX12_isWord_8 kr_at_353 (fun v1 => ?_)
  refine kr_iconst (v := 1) dX12_isWord_9 (by decide) ?_
  refine kr_isub dX12_isWord_10 ?_
  refine kr_i2l dX12_isWord_11 ?_
  refine kr_Si (As := [.long (p1.toInt64), .long (0 : Int64), .long ((v1 - (1 : Int32)).toInt64)]) (st := []) zs_X12_in dX12_isWord_12 ml_RX12_143 (r_X12_in E (p1.toInt64) (0 : Int64) ((v1 - (1 : Int32)).toInt64) M) rfl rfl (Nat.le_of_ble_eq_true rfl) rfl (by decide) (Nat.le_of_ble_eq_true rfl) (fun r3 M2 => ?_)
  exact kr_zret dX12_isWord_15 rfl
theorem dX12_word_0 : decode cX12_word 0 = .ok (.aload_n 0, 1) := by decide +kernel
theorem dX12_word_1 : decode cX12_word 1 = .ok (.iconst 0, 1) := by decide +kernel
theorem dX12_word_2 : decode cX12_word 2 = .ok (.putfield 138, 3) := by decide +kernel
theorem dX12_word_5 : decode cX12_word 5 = .ok (.aload_n 0, 1) := by decide +kernel
theorem dX12_word_6 : decode cX12_word 6 = .ok (.iload_n 1, 1) := by decide +kernel
theorem dX12_word_7 : decode cX12_word 7 = .ok (.invokevirtual 332, 3) := by decide +kernel
theorem dX12_word_10 : decode cX12_word 10 = .ok (.ifCond .ne 8, 3) := by decide +kernel
theorem dX12_word_13 : decode cX12_word 13 = .ok (.bipush (-2), 2) := by decide +kernel
theorem dX12_word_15 : decode cX12_word 15 = .ok (.goto 35, 3) := by decide +kernel
theorem dX12_word_18 : decode cX12_word 18 = .ok (.iload_n 2, 1) := by decide +kernel
theorem dX12_word_19 : decode cX12_word 19 = .ok (.i2l, 1) := by decide +kernel
theorem dX12_word_20 : decode cX12_word 20 = .ok (.lconst 0, 1) := by decide +kernel
theorem dX12_word_21 : decode cX12_word 21 = .ok (.aload_n 0, 1) := by decide +kernel
theorem dX12_word_22 : decode cX12_word 22 = .ok (.getfield 43, 3) := by decide +kernel
theorem dX12_word_25 : decode cX12_word 25 = .ok (.iload_n 1, 1) := by decide +kernel
theorem dX12_word_26 : decode cX12_word 26 = .ok (.iaload, 1) := by decide +kernel
theorem dX12_word_27 : decode cX12_word 27 = .ok (.iconst 1, 1) := by decide +kernel
theorem dX12_word_28 : decode cX12_word 28 = .ok (.isub, 1) := by decide +kernel
theorem dX12_word_29 : decode cX12_word 29 = .ok (.i2l, 1) := by decide +kernel
theorem dX12_word_30 : decode cX12_word 30 = .ok (.invokestatic 143, 3) := by decide +kernel
theorem dX12_word_33 : decode cX12_word 33 = .ok (.ifCond .eq 16, 3) := by decide +kernel
theorem dX12_word_36 : decode cX12_word 36 = .ok (.aload_n 0, 1) := by decide +kernel
theorem dX12_word_37 : decode cX12_word 37 = .ok (.getfield 49, 3) := by decide +kernel
theorem dX12_word_40 : decode cX12_word 40 = .ok (.iconst 4, 1) := by decide +kernel
theorem dX12_word_41 : decode cX12_word 41 = .ok (.iload_n 1, 1) := by decide +kernel
theorem dX12_word_42 : decode cX12_word 42 = .ok (.imul, 1) := by decide +kernel
theorem dX12_word_43 : decode cX12_word 43 = .ok (.iload_n 2, 1) := by decide +kernel
theorem dX12_word_44 : decode cX12_word 44 = .ok (.iadd, 1) := by decide +kernel
theorem dX12_word_45 : decode cX12_word 45 = .ok (.iaload, 1) := by decide +kernel
theorem dX12_word_46 : decode cX12_word 46 = .ok (.goto 4, 3) := by decide +kernel
theorem dX12_word_49 : decode cX12_word 49 = .ok (.iconst (-1), 1) := by decide +kernel
theorem dX12_word_50 : decode cX12_word 50 = .ok (.ireturn, 1) := by decide +kernel
theorem r_X12_word (E : kr_E) (p1 : Int32) (p2 : Int32) (M : kr_M) : kR kr_vi E Y_X12_word 3 0 [(0, kr_r E 346), (1, .int p1), (2, .int p2)] [] M (f_X12_word p1 p2 M) := by
  rw [f_X12_word]
  refine kr_aload_n dX12_word_0 rfl 0 rfl ?_
  refine kr_iconst (v := 0) dX12_word_1 (by decide) ?_
  refine kr_putI (ci := 12) (j := 0) dX12_word_2 kr_at_346 fl_RX12_138 rfl rfl (fun M1 => ?_)
  refine kr_aload_n dX12_word_5 rfl 0 rfl ?_
  refine kr_iload_n dX12_word_6 rfl 1 rfl ?_
  refine kr_Vi (As := [.int p1]) (st := []) zv_X12_isWord dX12_word_7 ml_RX12_332 kr_at_346 (r_X12_isWord E p1 M1) rfl rfl (Nat.le_of_ble_eq_true rfl) rfl (by decide) (Nat.le_of_ble_eq_true rfl) (fun r3 M2 => ?_)
  refine kr_if_ne (tgt := 18) dX12_word_10 (by decide) ?_ ?_
  · refine kr_iload_n dX12_word_18 rfl 2 rfl ?_
    refine kr_i2l dX12_word_19 ?_
    refine kr_lconst (v := 0) dX12_word_20 (by decide) ?_
    refine kr_aload_n dX12_word_21 rfl 0 rfl ?_
    refine kr_getA (o := 10) (ci := 12) (j := 20) dX12_word_22 kr_at_346 fl_RX12_43 rfl ?_
    refine kr_iload_n dX12_word_25 rfl 1 rfl ?_
    refine kr_iald dX12_word_26 kr_at_356 (fun v4 => ?_)
    refine kr_iconst (v := 1) dX12_word_27 (by decide) ?_
    refine kr_isub dX12_word_28 ?_
    refine kr_i2l dX12_word_29 ?_
    refine kr_Si (As := [.long (p2.toInt64), .long (0 : Int64), .long ((v4 - (1 : Int32)).toInt64)]) (st := []) zs_X12_in dX12_word_30 ml_RX12_143 (r_X12_in E (p2.toInt64) (0 : Int64) ((v4 - (1 : Int32)).toInt64) M2) rfl rfl (Nat.le_of_ble_eq_true rfl) rfl (by decide) (Nat.le_of_ble_eq_true rfl) (fun r6 M5 => ?_)
    refine kr_if_eq (tgt := 49) dX12_word_33 (by decide) ?_ ?_
    · refine kr_iconst (v := -1) dX12_word_49 (by decide) ?_
      exact kr_iret dX12_word_50 rfl
    · refine kr_aload_n dX12_word_36 rfl 0 rfl ?_
      refine kr_getA (o := 12) (ci := 12) (j := 22) dX12_word_37 kr_at_346 fl_RX12_49 rfl ?_
      refine kr_iconst (v := 4) dX12_word_40 (by decide) ?_
      refine kr_iload_n dX12_word_41 rfl 1 rfl ?_
      refine kr_imul dX12_word_42 ?_
      refine kr_iload_n dX12_word_43 rfl 2 rfl ?_
      refine kr_iadd dX12_word_44 ?_
      refine kr_iald dX12_word_45 kr_at_358 (fun v7 => ?_)
      refine kr_goto (tgt := 50) dX12_word_46 (by decide) ?_
      exact kr_iret dX12_word_50 rfl
  · refine kr_bipush (v := -2) dX12_word_13 (by decide) ?_
    refine kr_goto (tgt := 50) dX12_word_15 (by decide) ?_
    exact kr_iret dX12_word_50 rfl
theorem dX12_means_0 : decode cX12_means 0 = .ok (.aload_n 0, 1) := by decide +kernel
theorem dX12_means_1 : decode cX12_means 1 = .ok (.iconst 0, 1) := by decide +kernel
theorem dX12_means_2 : decode cX12_means 2 = .ok (.putfield 138, 3) := by decide +kernel
theorem dX12_means_5 : decode cX12_means 5 = .ok (.aload_n 0, 1) := by decide +kernel
theorem dX12_means_6 : decode cX12_means 6 = .ok (.iload_n 1, 1) := by decide +kernel
theorem dX12_means_7 : decode cX12_means 7 = .ok (.invokevirtual 332, 3) := by decide +kernel
theorem dX12_means_10 : decode cX12_means 10 = .ok (.ifCond .eq 12, 3) := by decide +kernel
theorem dX12_means_13 : decode cX12_means 13 = .ok (.aload_n 0, 1) := by decide +kernel
theorem dX12_means_14 : decode cX12_means 14 = .ok (.getfield 46, 3) := by decide +kernel
theorem dX12_means_17 : decode cX12_means 17 = .ok (.iload_n 1, 1) := by decide +kernel
theorem dX12_means_18 : decode cX12_means 18 = .ok (.iaload, 1) := by decide +kernel
theorem dX12_means_19 : decode cX12_means 19 = .ok (.goto 5, 3) := by decide +kernel
theorem dX12_means_22 : decode cX12_means 22 = .ok (.bipush (-2), 2) := by decide +kernel
theorem dX12_means_24 : decode cX12_means 24 = .ok (.ireturn, 1) := by decide +kernel
theorem r_X12_means (E : kr_E) (p1 : Int32) (M : kr_M) : kR kr_vi E Y_X12_means 3 0 [(0, kr_r E 346), (1, .int p1)] [] M (f_X12_means p1 M) := by
  rw [f_X12_means]
  refine kr_aload_n dX12_means_0 rfl 0 rfl ?_
  refine kr_iconst (v := 0) dX12_means_1 (by decide) ?_
  refine kr_putI (ci := 12) (j := 0) dX12_means_2 kr_at_346 fl_RX12_138 rfl rfl (fun M1 => ?_)
  refine kr_aload_n dX12_means_5 rfl 0 rfl ?_
  refine kr_iload_n dX12_means_6 rfl 1 rfl ?_
  refine kr_Vi (As := [.int p1]) (st := []) zv_X12_isWord dX12_means_7 ml_RX12_332 kr_at_346 (r_X12_isWord E p1 M1) rfl rfl (Nat.le_of_ble_eq_true rfl) rfl (by decide) (Nat.le_of_ble_eq_true rfl) (fun r3 M2 => ?_)
  refine kr_if_eq (tgt := 22) dX12_means_10 (by decide) ?_ ?_
  · refine kr_bipush (v := -2) dX12_means_22 (by decide) ?_
    exact kr_iret dX12_means_24 rfl
  · refine kr_aload_n dX12_means_13 rfl 0 rfl ?_
    refine kr_getA (o := 11) (ci := 12) (j := 21) dX12_means_14 kr_at_346 fl_RX12_46 rfl ?_
    refine kr_iload_n dX12_means_17 rfl 1 rfl ?_
    refine kr_iald dX12_means_18 kr_at_357 (fun v4 => ?_)
    refine kr_goto (tgt := 24) dX12_means_19 (by decide) ?_
    exact kr_iret dX12_means_24 rfl
theorem dX12_rope_0 : decode cX12_rope 0 = .ok (.aload_n 0, 1) := by decide +kernel
theorem dX12_rope_1 : decode cX12_rope 1 = .ok (.iconst 0, 1) := by decide +kernel
theorem dX12_rope_2 : decode cX12_rope 2 = .ok (.putfield 138, 3) := by decide +kernel
theorem dX12_rope_5 : decode cX12_rope 5 = .ok (.aload_n 0, 1) := by decide +kernel
theorem dX12_rope_6 : decode cX12_rope 6 = .ok (.iload_n 1, 1) := by decide +kernel
theorem dX12_rope_7 : decode cX12_rope 7 = .ok (.invokevirtual 319, 3) := by decide +kernel
theorem dX12_rope_10 : decode cX12_rope 10 = .ok (.ifCond .eq 15, 3) := by decide +kernel
theorem dX12_rope_13 : decode cX12_rope 13 = .ok (.iload_n 2, 1) := by decide +kernel
theorem dX12_rope_14 : decode cX12_rope 14 = .ok (.i2l, 1) := by decide +kernel
theorem dX12_rope_15 : decode cX12_rope 15 = .ok (.lconst 0, 1) := by decide +kernel
theorem dX12_rope_16 : decode cX12_rope 16 = .ok (.ldc2_w 335, 3) := by decide +kernel
theorem dX12_rope_19 : decode cX12_rope 19 = .ok (.invokestatic 143, 3) := by decide +kernel
theorem dX12_rope_22 : decode cX12_rope 22 = .ok (.ifCond .ne 7, 3) := by decide +kernel
theorem dX12_rope_25 : decode cX12_rope 25 = .ok (.sipush (-1000), 3) := by decide +kernel
theorem dX12_rope_28 : decode cX12_rope 28 = .ok (.ireturn, 1) := by decide +kernel
theorem dX12_rope_29 : decode cX12_rope 29 = .ok (.aload_n 0, 1) := by decide +kernel
theorem dX12_rope_30 : decode cX12_rope 30 = .ok (.invokevirtual 337, 3) := by decide +kernel
theorem dX12_rope_33 : decode cX12_rope 33 = .ok (.iload_n 2, 1) := by decide +kernel
theorem dX12_rope_34 : decode cX12_rope 34 = .ok (.tableswitch 56 3 6 #[30, 37, 43, 49], 30) := by decide +kernel
theorem dX12_rope_64 : decode cX12_rope 64 = .ok (.aload_n 0, 1) := by decide +kernel
theorem dX12_rope_65 : decode cX12_rope 65 = .ok (.getfield 71, 3) := by decide +kernel
theorem dX12_rope_68 : decode cX12_rope 68 = .ok (.iload_n 1, 1) := by decide +kernel
theorem dX12_rope_69 : decode cX12_rope 69 = .ok (.iaload, 1) := by decide +kernel
theorem dX12_rope_70 : decode cX12_rope 70 = .ok (.ireturn, 1) := by decide +kernel
theorem dX12_rope_71 : decode cX12_rope 71 = .ok (.aload_n 0, 1) := by decide +kernel
theorem dX12_rope_72 : decode cX12_rope 72 = .ok (.iload_n 1, 1) := by decide +kernel
theorem dX12_rope_73 : decode cX12_rope 73 = .ok (.invokevirtual 340, 3) := by decide +kernel
theorem dX12_rope_76 : decode cX12_rope 76 = .ok (.ireturn, 1) := by decide +kernel
theorem dX12_rope_77 : decode cX12_rope 77 = .ok (.aload_n 0, 1) := by decide +kernel
theorem dX12_rope_78 : decode cX12_rope 78 = .ok (.iload_n 1, 1) := by decide +kernel
theorem dX12_rope_79 : decode cX12_rope 79 = .ok (.invokevirtual 343, 3) := by decide +kernel
theorem dX12_rope_82 : decode cX12_rope 82 = .ok (.ireturn, 1) := by decide +kernel
theorem dX12_rope_83 : decode cX12_rope 83 = .ok (.aload_n 0, 1) := by decide +kernel
theorem dX12_rope_84 : decode cX12_rope 84 = .ok (.getfield 74, 3) := by decide +kernel
theorem dX12_rope_87 : decode cX12_rope 87 = .ok (.iload_n 1, 1) := by decide +kernel
theorem dX12_rope_88 : decode cX12_rope 88 = .ok (.iaload, 1) := by decide +kernel
theorem dX12_rope_89 : decode cX12_rope 89 = .ok (.ireturn, 1) := by decide +kernel
theorem dX12_rope_90 : decode cX12_rope 90 = .ok (.aload_n 0, 1) := by decide +kernel
theorem dX12_rope_91 : decode cX12_rope 91 = .ok (.getfield 52, 3) := by decide +kernel
theorem dX12_rope_94 : decode cX12_rope 94 = .ok (.iconst 4, 1) := by decide +kernel
theorem dX12_rope_95 : decode cX12_rope 95 = .ok (.iload_n 1, 1) := by decide +kernel
theorem dX12_rope_96 : decode cX12_rope 96 = .ok (.imul, 1) := by decide +kernel
theorem dX12_rope_97 : decode cX12_rope 97 = .ok (.iload_n 2, 1) := by decide +kernel
theorem dX12_rope_98 : decode cX12_rope 98 = .ok (.iadd, 1) := by decide +kernel
theorem dX12_rope_99 : decode cX12_rope 99 = .ok (.iaload, 1) := by decide +kernel
theorem dX12_rope_100 : decode cX12_rope 100 = .ok (.ireturn, 1) := by decide +kernel
theorem r_X12_rope (E : kr_E) (p1 : Int32) (p2 : Int32) (M : kr_M) : kR kr_vi E Y_X12_rope 4 0 [(0, kr_r E 346), (1, .int p1), (2, .int p2)] [] M (f_X12_rope p1 p2 M) := by
  rw [f_X12_rope]
  refine kr_aload_n dX12_rope_0 rfl 0 rfl ?_
  refine kr_iconst (v := 0) dX12_rope_1 (by decide) ?_
  refine kr_putI (ci := 12) (j := 0) dX12_rope_2 kr_at_346 fl_RX12_138 rfl rfl (fun M1 => ?_)
  refine kr_aload_n dX12_rope_5 rfl 0 rfl ?_
  refine kr_iload_n dX12_rope_6 rfl 1 rfl ?_
  refine kr_Vi (As := [.int p1]) (st := []) zv_X12_isRope dX12_rope_7 ml_RX12_319 kr_at_346 (r_X12_isRope E p1 M1) rfl rfl (Nat.le_of_ble_eq_true rfl) rfl (by decide) (Nat.le_of_ble_eq_true rfl) (fun r3 M2 => ?_)
  refine kr_if_eq (tgt := 25) dX12_rope_10 (by decide) ?_ ?_
  · refine kr_sipush (v := -1000) dX12_rope_25 (by decide) ?_
    exact kr_iret dX12_rope_28 rfl
  · refine kr_iload_n dX12_rope_13 rfl 2 rfl ?_
    refine kr_i2l dX12_rope_14 ?_
    refine kr_lconst (v := 0) dX12_rope_15 (by decide) ?_
    refine kr_ldc2 dX12_rope_16 kl_RX12_335 ?_
    refine kr_Si (As := [.long (p2.toInt64), .long (0 : Int64), .long (6 : Int64)]) (st := []) zs_X12_in dX12_rope_19 ml_RX12_143 (r_X12_in E (p2.toInt64) (0 : Int64) (6 : Int64) M2) rfl rfl (Nat.le_of_ble_eq_true rfl) rfl (by decide) (Nat.le_of_ble_eq_true rfl) (fun r5 M4 => ?_)
    refine kr_if_ne (tgt := 29) dX12_rope_22 (by decide) ?_ ?_
    · refine kr_aload_n dX12_rope_29 rfl 0 rfl ?_
      refine kr_Vv (As := []) (st := []) zv_X12_lays dX12_rope_30 ml_RX12_337 kr_at_346 (r_X12_lays E  M4) rfl rfl (Nat.le_of_ble_eq_true rfl) rfl (by decide) (Nat.le_of_ble_eq_true rfl) (fun M6 => ?_)
      refine kr_iload_n dX12_rope_33 rfl 2 rfl ?_
      refine kr_case (3 : Int32) (fun c8 => ?_) (fun c8 => ?_)
      · refine kr_tin (v := 3) (off := 30) (tgt := 64) c8 dX12_rope_34 (by decide) (by decide) (by decide) (by decide) ?_
        refine kr_aload_n dX12_rope_64 rfl 0 rfl ?_
        refine kr_getA (o := 19) (ci := 12) (j := 29) dX12_rope_65 kr_at_346 fl_RX12_71 rfl ?_
        refine kr_iload_n dX12_rope_68 rfl 1 rfl ?_
        refine kr_iald dX12_rope_69 kr_at_365 (fun v9 => ?_)
        exact kr_iret dX12_rope_70 rfl
      refine kr_case (4 : Int32) (fun c10 => ?_) (fun c10 => ?_)
      · refine kr_tin (v := 4) (off := 37) (tgt := 71) c10 dX12_rope_34 (by decide) (by decide) (by decide) (by decide) ?_
        refine kr_aload_n dX12_rope_71 rfl 0 rfl ?_
        refine kr_iload_n dX12_rope_72 rfl 1 rfl ?_
        refine kr_Vi (As := [.int p1]) (st := []) zv_X12_inchesOf dX12_rope_73 ml_RX12_340 kr_at_346 (r_X12_inchesOf E p1 M6) rfl rfl (Nat.le_of_ble_eq_true rfl) rfl (by decide) (Nat.le_of_ble_eq_true rfl) (fun r12 M11 => ?_)
        exact kr_iret dX12_rope_76 rfl
      refine kr_case (5 : Int32) (fun c13 => ?_) (fun c13 => ?_)
      · refine kr_tin (v := 5) (off := 43) (tgt := 77) c13 dX12_rope_34 (by decide) (by decide) (by decide) (by decide) ?_
        refine kr_aload_n dX12_rope_77 rfl 0 rfl ?_
        refine kr_iload_n dX12_rope_78 rfl 1 rfl ?_
        refine kr_Vi (As := [.int p1]) (st := []) zv_X12_strengthOf dX12_rope_79 ml_RX12_343 kr_at_346 (r_X12_strengthOf E p1 M6) rfl rfl (Nat.le_of_ble_eq_true rfl) rfl (by decide) (Nat.le_of_ble_eq_true rfl) (fun r15 M14 => ?_)
        exact kr_iret dX12_rope_82 rfl
      refine kr_case (6 : Int32) (fun c16 => ?_) (fun c16 => ?_)
      · refine kr_tin (v := 6) (off := 49) (tgt := 83) c16 dX12_rope_34 (by decide) (by decide) (by decide) (by decide) ?_
        refine kr_aload_n dX12_rope_83 rfl 0 rfl ?_
        refine kr_getA (o := 20) (ci := 12) (j := 30) dX12_rope_84 kr_at_346 fl_RX12_74 rfl ?_
        refine kr_iload_n dX12_rope_87 rfl 1 rfl ?_
        refine kr_iald dX12_rope_88 kr_at_366 (fun v17 => ?_)
        exact kr_iret dX12_rope_89 rfl
      refine kr_tout (tgt := 90) dX12_rope_34 (by have zc8 := lv_neT c8 (show (3 : Int32).toInt = 3 by decide); have zc10 := lv_neT c10 (show (4 : Int32).toInt = 4 by decide); have zc13 := lv_neT c13 (show (5 : Int32).toInt = 5 by decide); have zc16 := lv_neT c16 (show (6 : Int32).toInt = 6 by decide); omega) (by decide) ?_
      refine kr_aload_n dX12_rope_90 rfl 0 rfl ?_
      refine kr_getA (o := 13) (ci := 12) (j := 23) dX12_rope_91 kr_at_346 fl_RX12_52 rfl ?_
      refine kr_iconst (v := 4) dX12_rope_94 (by decide) ?_
      refine kr_iload_n dX12_rope_95 rfl 1 rfl ?_
      refine kr_imul dX12_rope_96 ?_
      refine kr_iload_n dX12_rope_97 rfl 2 rfl ?_
      refine kr_iadd dX12_rope_98 ?_
      refine kr_iald dX12_rope_99 kr_at_359 (fun v18 => ?_)
      exact kr_iret dX12_rope_100 rfl
    · refine kr_sipush (v := -1000) dX12_rope_25 (by decide) ?_
      exact kr_iret dX12_rope_28 rfl
theorem dX12_at_0 : decode cX12_at 0 = .ok (.aload_n 0, 1) := by decide +kernel
theorem dX12_at_1 : decode cX12_at 1 = .ok (.iconst 0, 1) := by decide +kernel
theorem dX12_at_2 : decode cX12_at 2 = .ok (.putfield 138, 3) := by decide +kernel
theorem dX12_at_5 : decode cX12_at 5 = .ok (.aload_n 0, 1) := by decide +kernel
theorem dX12_at_6 : decode cX12_at 6 = .ok (.iload_n 1, 1) := by decide +kernel
theorem dX12_at_7 : decode cX12_at 7 = .ok (.invokevirtual 319, 3) := by decide +kernel
theorem dX12_at_10 : decode cX12_at 10 = .ok (.ifCond .ne 6, 3) := by decide +kernel
theorem dX12_at_13 : decode cX12_at 13 = .ok (.bipush (-2), 2) := by decide +kernel
theorem dX12_at_15 : decode cX12_at 15 = .ok (.ireturn, 1) := by decide +kernel
theorem dX12_at_16 : decode cX12_at 16 = .ok (.aload_n 0, 1) := by decide +kernel
theorem dX12_at_17 : decode cX12_at 17 = .ok (.invokevirtual 337, 3) := by decide +kernel
theorem dX12_at_20 : decode cX12_at 20 = .ok (.iload_n 2, 1) := by decide +kernel
theorem dX12_at_21 : decode cX12_at 21 = .ok (.i2l, 1) := by decide +kernel
theorem dX12_at_22 : decode cX12_at 22 = .ok (.lconst 0, 1) := by decide +kernel
theorem dX12_at_23 : decode cX12_at 23 = .ok (.aload_n 0, 1) := by decide +kernel
theorem dX12_at_24 : decode cX12_at 24 = .ok (.getfield 71, 3) := by decide +kernel
theorem dX12_at_27 : decode cX12_at 27 = .ok (.iload_n 1, 1) := by decide +kernel
theorem dX12_at_28 : decode cX12_at 28 = .ok (.iaload, 1) := by decide +kernel
theorem dX12_at_29 : decode cX12_at 29 = .ok (.iconst 1, 1) := by decide +kernel
theorem dX12_at_30 : decode cX12_at 30 = .ok (.isub, 1) := by decide +kernel
theorem dX12_at_31 : decode cX12_at 31 = .ok (.i2l, 1) := by decide +kernel
theorem dX12_at_32 : decode cX12_at 32 = .ok (.invokestatic 143, 3) := by decide +kernel
theorem dX12_at_35 : decode cX12_at 35 = .ok (.ifCond .eq 17, 3) := by decide +kernel
theorem dX12_at_38 : decode cX12_at 38 = .ok (.aload_n 0, 1) := by decide +kernel
theorem dX12_at_39 : decode cX12_at 39 = .ok (.getfield 68, 3) := by decide +kernel
theorem dX12_at_42 : decode cX12_at 42 = .ok (.bipush 24, 2) := by decide +kernel
theorem dX12_at_44 : decode cX12_at 44 = .ok (.iload_n 1, 1) := by decide +kernel
theorem dX12_at_45 : decode cX12_at 45 = .ok (.imul, 1) := by decide +kernel
theorem dX12_at_46 : decode cX12_at 46 = .ok (.iload_n 2, 1) := by decide +kernel
theorem dX12_at_47 : decode cX12_at 47 = .ok (.iadd, 1) := by decide +kernel
theorem dX12_at_48 : decode cX12_at 48 = .ok (.iaload, 1) := by decide +kernel
theorem dX12_at_49 : decode cX12_at 49 = .ok (.goto 4, 3) := by decide +kernel
theorem dX12_at_52 : decode cX12_at 52 = .ok (.iconst (-1), 1) := by decide +kernel
theorem dX12_at_53 : decode cX12_at 53 = .ok (.ireturn, 1) := by decide +kernel
theorem r_X12_at (E : kr_E) (p1 : Int32) (p2 : Int32) (M : kr_M) : kR kr_vi E Y_X12_at 4 0 [(0, kr_r E 346), (1, .int p1), (2, .int p2)] [] M (f_X12_at p1 p2 M) := by
  rw [f_X12_at]
  refine kr_aload_n dX12_at_0 rfl 0 rfl ?_
  refine kr_iconst (v := 0) dX12_at_1 (by decide) ?_
  refine kr_putI (ci := 12) (j := 0) dX12_at_2 kr_at_346 fl_RX12_138 rfl rfl (fun M1 => ?_)
  refine kr_aload_n dX12_at_5 rfl 0 rfl ?_
  refine kr_iload_n dX12_at_6 rfl 1 rfl ?_
  refine kr_Vi (As := [.int p1]) (st := []) zv_X12_isRope dX12_at_7 ml_RX12_319 kr_at_346 (r_X12_isRope E p1 M1) rfl rfl (Nat.le_of_ble_eq_true rfl) rfl (by decide) (Nat.le_of_ble_eq_true rfl) (fun r3 M2 => ?_)
  refine kr_if_ne (tgt := 16) dX12_at_10 (by decide) ?_ ?_
  · refine kr_aload_n dX12_at_16 rfl 0 rfl ?_
    refine kr_Vv (As := []) (st := []) zv_X12_lays dX12_at_17 ml_RX12_337 kr_at_346 (r_X12_lays E  M2) rfl rfl (Nat.le_of_ble_eq_true rfl) rfl (by decide) (Nat.le_of_ble_eq_true rfl) (fun M4 => ?_)
    refine kr_iload_n dX12_at_20 rfl 2 rfl ?_
    refine kr_i2l dX12_at_21 ?_
    refine kr_lconst (v := 0) dX12_at_22 (by decide) ?_
    refine kr_aload_n dX12_at_23 rfl 0 rfl ?_
    refine kr_getA (o := 19) (ci := 12) (j := 29) dX12_at_24 kr_at_346 fl_RX12_71 rfl ?_
    refine kr_iload_n dX12_at_27 rfl 1 rfl ?_
    refine kr_iald dX12_at_28 kr_at_365 (fun v6 => ?_)
    refine kr_iconst (v := 1) dX12_at_29 (by decide) ?_
    refine kr_isub dX12_at_30 ?_
    refine kr_i2l dX12_at_31 ?_
    refine kr_Si (As := [.long (p2.toInt64), .long (0 : Int64), .long ((v6 - (1 : Int32)).toInt64)]) (st := []) zs_X12_in dX12_at_32 ml_RX12_143 (r_X12_in E (p2.toInt64) (0 : Int64) ((v6 - (1 : Int32)).toInt64) M4) rfl rfl (Nat.le_of_ble_eq_true rfl) rfl (by decide) (Nat.le_of_ble_eq_true rfl) (fun r8 M7 => ?_)
    refine kr_if_eq (tgt := 52) dX12_at_35 (by decide) ?_ ?_
    · refine kr_iconst (v := -1) dX12_at_52 (by decide) ?_
      exact kr_iret dX12_at_53 rfl
    · refine kr_aload_n dX12_at_38 rfl 0 rfl ?_
      refine kr_getA (o := 18) (ci := 12) (j := 28) dX12_at_39 kr_at_346 fl_RX12_68 rfl ?_
      refine kr_bipush (v := 24) dX12_at_42 (by decide) ?_
      refine kr_iload_n dX12_at_44 rfl 1 rfl ?_
      refine kr_imul dX12_at_45 ?_
      refine kr_iload_n dX12_at_46 rfl 2 rfl ?_
      refine kr_iadd dX12_at_47 ?_
      refine kr_iald dX12_at_48 kr_at_364 (fun v9 => ?_)
      refine kr_goto (tgt := 53) dX12_at_49 (by decide) ?_
      exact kr_iret dX12_at_53 rfl
  · refine kr_bipush (v := -2) dX12_at_13 (by decide) ?_
    exact kr_iret dX12_at_15 rfl
theorem dX12_person_0 : decode cX12_person 0 = .ok (.aload_n 0, 1) := by decide +kernel
theorem dX12_person_1 : decode cX12_person 1 = .ok (.iconst 0, 1) := by decide +kernel
theorem dX12_person_2 : decode cX12_person 2 = .ok (.putfield 138, 3) := by decide +kernel
theorem dX12_person_5 : decode cX12_person 5 = .ok (.aload_n 0, 1) := by decide +kernel
theorem dX12_person_6 : decode cX12_person 6 = .ok (.iload_n 1, 1) := by decide +kernel
theorem dX12_person_7 : decode cX12_person 7 = .ok (.invokevirtual 346, 3) := by decide +kernel
theorem dX12_person_10 : decode cX12_person 10 = .ok (.ifCond .eq 15, 3) := by decide +kernel
theorem dX12_person_13 : decode cX12_person 13 = .ok (.iload_n 2, 1) := by decide +kernel
theorem dX12_person_14 : decode cX12_person 14 = .ok (.i2l, 1) := by decide +kernel
theorem dX12_person_15 : decode cX12_person 15 = .ok (.lconst 0, 1) := by decide +kernel
theorem dX12_person_16 : decode cX12_person 16 = .ok (.ldc2_w 349, 3) := by decide +kernel
theorem dX12_person_19 : decode cX12_person 19 = .ok (.invokestatic 143, 3) := by decide +kernel
theorem dX12_person_22 : decode cX12_person 22 = .ok (.ifCond .ne 6, 3) := by decide +kernel
theorem dX12_person_25 : decode cX12_person 25 = .ok (.bipush (-2), 2) := by decide +kernel
theorem dX12_person_27 : decode cX12_person 27 = .ok (.ireturn, 1) := by decide +kernel
theorem dX12_person_28 : decode cX12_person 28 = .ok (.aload_n 0, 1) := by decide +kernel
theorem dX12_person_29 : decode cX12_person 29 = .ok (.invokevirtual 337, 3) := by decide +kernel
theorem dX12_person_32 : decode cX12_person 32 = .ok (.iload_n 2, 1) := by decide +kernel
theorem dX12_person_33 : decode cX12_person 33 = .ok (.iconst 2, 1) := by decide +kernel
theorem dX12_person_34 : decode cX12_person 34 = .ok (.if_icmp .ge 16, 3) := by decide +kernel
theorem dX12_person_37 : decode cX12_person 37 = .ok (.aload_n 0, 1) := by decide +kernel
theorem dX12_person_38 : decode cX12_person 38 = .ok (.getfield 58, 3) := by decide +kernel
theorem dX12_person_41 : decode cX12_person 41 = .ok (.iconst 3, 1) := by decide +kernel
theorem dX12_person_42 : decode cX12_person 42 = .ok (.iload_n 1, 1) := by decide +kernel
theorem dX12_person_43 : decode cX12_person 43 = .ok (.imul, 1) := by decide +kernel
theorem dX12_person_44 : decode cX12_person 44 = .ok (.iload_n 2, 1) := by decide +kernel
theorem dX12_person_45 : decode cX12_person 45 = .ok (.iadd, 1) := by decide +kernel
theorem dX12_person_46 : decode cX12_person 46 = .ok (.iaload, 1) := by decide +kernel
theorem dX12_person_47 : decode cX12_person 47 = .ok (.goto 9, 3) := by decide +kernel
theorem dX12_person_50 : decode cX12_person 50 = .ok (.aload_n 0, 1) := by decide +kernel
theorem dX12_person_51 : decode cX12_person 51 = .ok (.getfield 77, 3) := by decide +kernel
theorem dX12_person_54 : decode cX12_person 54 = .ok (.iload_n 1, 1) := by decide +kernel
theorem dX12_person_55 : decode cX12_person 55 = .ok (.iaload, 1) := by decide +kernel
theorem dX12_person_56 : decode cX12_person 56 = .ok (.ireturn, 1) := by decide +kernel
theorem r_X12_person (E : kr_E) (p1 : Int32) (p2 : Int32) (M : kr_M) : kR kr_vi E Y_X12_person 4 0 [(0, kr_r E 346), (1, .int p1), (2, .int p2)] [] M (f_X12_person p1 p2 M) := by
  rw [f_X12_person]
  refine kr_aload_n dX12_person_0 rfl 0 rfl ?_
  refine kr_iconst (v := 0) dX12_person_1 (by decide) ?_
  refine kr_putI (ci := 12) (j := 0) dX12_person_2 kr_at_346 fl_RX12_138 rfl rfl (fun M1 => ?_)
  refine kr_aload_n dX12_person_5 rfl 0 rfl ?_
  refine kr_iload_n dX12_person_6 rfl 1 rfl ?_
  refine kr_Vi (As := [.int p1]) (st := []) zv_X12_isPerson dX12_person_7 ml_RX12_346 kr_at_346 (r_X12_isPerson E p1 M1) rfl rfl (Nat.le_of_ble_eq_true rfl) rfl (by decide) (Nat.le_of_ble_eq_true rfl) (fun r3 M2 => ?_)
  refine kr_if_eq (tgt := 25) dX12_person_10 (by decide) ?_ ?_
  · refine kr_bipush (v := -2) dX12_person_25 (by decide) ?_
    exact kr_iret dX12_person_27 rfl
  · refine kr_iload_n dX12_person_13 rfl 2 rfl ?_
    refine kr_i2l dX12_person_14 ?_
    refine kr_lconst (v := 0) dX12_person_15 (by decide) ?_
    refine kr_ldc2 dX12_person_16 kl_RX12_349 ?_
    refine kr_Si (As := [.long (p2.toInt64), .long (0 : Int64), .long (2 : Int64)]) (st := []) zs_X12_in dX12_person_19 ml_RX12_143 (r_X12_in E (p2.toInt64) (0 : Int64) (2 : Int64) M2) rfl rfl (Nat.le_of_ble_eq_true rfl) rfl (by decide) (Nat.le_of_ble_eq_true rfl) (fun r5 M4 => ?_)
    refine kr_if_ne (tgt := 28) dX12_person_22 (by decide) ?_ ?_
    · refine kr_aload_n dX12_person_28 rfl 0 rfl ?_
      refine kr_Vv (As := []) (st := []) zv_X12_lays dX12_person_29 ml_RX12_337 kr_at_346 (r_X12_lays E  M4) rfl rfl (Nat.le_of_ble_eq_true rfl) rfl (by decide) (Nat.le_of_ble_eq_true rfl) (fun M6 => ?_)
      refine kr_iload_n dX12_person_32 rfl 2 rfl ?_
      refine kr_iconst (v := 2) dX12_person_33 (by decide) ?_
      refine kr_icmp_ge (tgt := 50) dX12_person_34 (by decide) ?_ ?_
      · refine kr_aload_n dX12_person_50 rfl 0 rfl ?_
        refine kr_getA (o := 21) (ci := 12) (j := 31) dX12_person_51 kr_at_346 fl_RX12_77 rfl ?_
        refine kr_iload_n dX12_person_54 rfl 1 rfl ?_
        refine kr_iald dX12_person_55 kr_at_367 (fun v8 => ?_)
        exact kr_iret dX12_person_56 rfl
      · refine kr_aload_n dX12_person_37 rfl 0 rfl ?_
        refine kr_getA (o := 15) (ci := 12) (j := 25) dX12_person_38 kr_at_346 fl_RX12_58 rfl ?_
        refine kr_iconst (v := 3) dX12_person_41 (by decide) ?_
        refine kr_iload_n dX12_person_42 rfl 1 rfl ?_
        refine kr_imul dX12_person_43 ?_
        refine kr_iload_n dX12_person_44 rfl 2 rfl ?_
        refine kr_iadd dX12_person_45 ?_
        refine kr_iald dX12_person_46 kr_at_361 (fun v9 => ?_)
        refine kr_goto (tgt := 56) dX12_person_47 (by decide) ?_
        exact kr_iret dX12_person_56 rfl
    · refine kr_bipush (v := -2) dX12_person_25 (by decide) ?_
      exact kr_iret dX12_person_27 rfl
theorem dX12_lies_0 : decode cX12_lies 0 = .ok (.aload_n 0, 1) := by decide +kernel
theorem dX12_lies_1 : decode cX12_lies 1 = .ok (.aload_n 0, 1) := by decide +kernel
theorem dX12_lies_2 : decode cX12_lies 2 = .ok (.getfield 71, 3) := by decide +kernel
theorem dX12_lies_5 : decode cX12_lies 5 = .ok (.iload_n 1, 1) := by decide +kernel
theorem dX12_lies_6 : decode cX12_lies 6 = .ok (.iaload, 1) := by decide +kernel
theorem dX12_lies_7 : decode cX12_lies 7 = .ok (.putfield 351, 3) := by decide +kernel
theorem dX12_lies_10 : decode cX12_lies 10 = .ok (.iconst 0, 1) := by decide +kernel
theorem dX12_lies_11 : decode cX12_lies 11 = .ok (.istore_n 3, 1) := by decide +kernel
theorem dX12_lies_12 : decode cX12_lies 12 = .ok (.iload_n 3, 1) := by decide +kernel
theorem dX12_lies_13 : decode cX12_lies 13 = .ok (.aload_n 0, 1) := by decide +kernel
theorem dX12_lies_14 : decode cX12_lies 14 = .ok (.getfield 351, 3) := by decide +kernel
theorem dX12_lies_17 : decode cX12_lies 17 = .ok (.if_icmp .ge 42, 3) := by decide +kernel
theorem dX12_lies_20 : decode cX12_lies 20 = .ok (.aload_n 0, 1) := by decide +kernel
theorem dX12_lies_21 : decode cX12_lies 21 = .ok (.getfield 80, 3) := by decide +kernel
theorem dX12_lies_24 : decode cX12_lies 24 = .ok (.iload_n 3, 1) := by decide +kernel
theorem dX12_lies_25 : decode cX12_lies 25 = .ok (.aload_n 0, 1) := by decide +kernel
theorem dX12_lies_26 : decode cX12_lies 26 = .ok (.getfield 68, 3) := by decide +kernel
theorem dX12_lies_29 : decode cX12_lies 29 = .ok (.bipush 24, 2) := by decide +kernel
theorem dX12_lies_31 : decode cX12_lies 31 = .ok (.iload_n 1, 1) := by decide +kernel
theorem dX12_lies_32 : decode cX12_lies 32 = .ok (.imul, 1) := by decide +kernel
theorem dX12_lies_33 : decode cX12_lies 33 = .ok (.iload_n 2, 1) := by decide +kernel
theorem dX12_lies_34 : decode cX12_lies 34 = .ok (.iconst 1, 1) := by decide +kernel
theorem dX12_lies_35 : decode cX12_lies 35 = .ok (.if_icmp .ne 14, 3) := by decide +kernel
theorem dX12_lies_38 : decode cX12_lies 38 = .ok (.aload_n 0, 1) := by decide +kernel
theorem dX12_lies_39 : decode cX12_lies 39 = .ok (.getfield 351, 3) := by decide +kernel
theorem dX12_lies_42 : decode cX12_lies 42 = .ok (.iconst 1, 1) := by decide +kernel
theorem dX12_lies_43 : decode cX12_lies 43 = .ok (.isub, 1) := by decide +kernel
theorem dX12_lies_44 : decode cX12_lies 44 = .ok (.iload_n 3, 1) := by decide +kernel
theorem dX12_lies_45 : decode cX12_lies 45 = .ok (.isub, 1) := by decide +kernel
theorem dX12_lies_46 : decode cX12_lies 46 = .ok (.goto 4, 3) := by decide +kernel
theorem dX12_lies_49 : decode cX12_lies 49 = .ok (.iload_n 3, 1) := by decide +kernel
theorem dX12_lies_50 : decode cX12_lies 50 = .ok (.iadd, 1) := by decide +kernel
theorem dX12_lies_51 : decode cX12_lies 51 = .ok (.iaload, 1) := by decide +kernel
theorem dX12_lies_52 : decode cX12_lies 52 = .ok (.iastore, 1) := by decide +kernel
theorem dX12_lies_53 : decode cX12_lies 53 = .ok (.iinc 3 1, 3) := by decide +kernel
theorem dX12_lies_56 : decode cX12_lies 56 = .ok (.goto (-44), 3) := by decide +kernel
theorem dX12_lies_59 : decode cX12_lies 59 = .ok (.return_, 1) := by decide +kernel
theorem r_X12_lies_50 (E : kr_E) (k_12 : Int32 → kr_M → Option kr_M) (l1 : Int32) (l2 : Int32) (l3 : Int32) (s0 : Int32) (s1 : Int32) (s3 : Int32) (hk_12 : ∀ (x3 : Int32) (M : kr_M), kR kr_vv E Y_X12_lies 1 12 [(0, kr_r E 346), (1, .int l1), (2, .int l2), (3, .int x3)] [] M (k_12 x3 M)) (M : kr_M) : kR kr_vv E Y_X12_lies 1 50 [(0, kr_r E 346), (1, .int l1), (2, .int l2), (3, .int l3)] [.int s0, .int s1, kr_r E 364, .int s3, kr_r E 368] M (f_X12_lies_50 k_12 l3 s0 s1 s3 M) := by
  rw [f_X12_lies_50]
  refine kr_iadd dX12_lies_50 ?_
  refine kr_iald dX12_lies_51 kr_at_364 (fun v1 => ?_)
  refine kr_iast dX12_lies_52 kr_at_368 (fun M2 => ?_)
  refine kr_iinc (j := 3) (v := (l3 + (1 : Int32))) (lv' := [(3, .int (l3 + (1 : Int32))), (0, kr_r E 346), (1, .int l1), (2, .int l2)]) dX12_lies_53 rfl rfl (by decide) rfl ?_
  refine kr_goto (tgt := 12) dX12_lies_56 (by decide) ?_
  refine kr_sub [1, 2, 3, 0] rfl ?_
  exact hk_12 (l3 + (1 : Int32)) M2
theorem r_X12_lies_12 (E : kr_E)  (l1 : Int32) (l2 : Int32)  : ∀ (n : Nat) (l3 : Int32) (M : kr_M), kR kr_vv E Y_X12_lies 1 12 [(0, kr_r E 346), (1, .int l1), (2, .int l2), (3, .int l3)] [] M (f_X12_lies_12 l1 l2 n l3 M) := by
  intro n
  induction n with
  | zero => intro l3 M; exact kr_none
  | succ n ih =>
    intro l3 M
    rw [f_X12_lies_12]
    refine kr_iload_n dX12_lies_12 rfl 3 rfl ?_
    refine kr_aload_n dX12_lies_13 rfl 0 rfl ?_
    refine kr_getI (ci := 12) (j := 34) dX12_lies_14 kr_at_346 fl_RX12_351 rfl (fun v1 => ?_)
    refine kr_icmp_ge (tgt := 59) dX12_lies_17 (by decide) ?_ ?_
    · exact kr_vret dX12_lies_59 rfl
    · refine kr_aload_n dX12_lies_20 rfl 0 rfl ?_
      refine kr_getA (o := 22) (ci := 12) (j := 33) dX12_lies_21 kr_at_346 fl_RX12_80 rfl ?_
      refine kr_iload_n dX12_lies_24 rfl 3 rfl ?_
      refine kr_aload_n dX12_lies_25 rfl 0 rfl ?_
      refine kr_getA (o := 18) (ci := 12) (j := 28) dX12_lies_26 kr_at_346 fl_RX12_68 rfl ?_
      refine kr_bipush (v := 24) dX12_lies_29 (by decide) ?_
      refine kr_iload_n dX12_lies_31 rfl 1 rfl ?_
      refine kr_imul dX12_lies_32 ?_
      refine kr_iload_n dX12_lies_33 rfl 2 rfl ?_
      refine kr_iconst (v := 1) dX12_lies_34 (by decide) ?_
      refine kr_icmp_ne (tgt := 49) dX12_lies_35 (by decide) ?_ ?_
      · refine kr_iload_n dX12_lies_49 rfl 3 rfl ?_
        refine kr_sub [0, 1, 2, 3] rfl ?_
        exact r_X12_lies_50 E _ l1 l2 l3 l3 ((24 : Int32) * l1) l3 ih M
      · refine kr_aload_n dX12_lies_38 rfl 0 rfl ?_
        refine kr_getI (ci := 12) (j := 34) dX12_lies_39 kr_at_346 fl_RX12_351 rfl (fun v2 => ?_)
        refine kr_iconst (v := 1) dX12_lies_42 (by decide) ?_
        refine kr_isub dX12_lies_43 ?_
        refine kr_iload_n dX12_lies_44 rfl 3 rfl ?_
        refine kr_isub dX12_lies_45 ?_
        refine kr_goto (tgt := 50) dX12_lies_46 (by decide) ?_
        refine kr_sub [0, 1, 2, 3] rfl ?_
        exact r_X12_lies_50 E _ l1 l2 l3 ((v2 - (1 : Int32)) - l3) ((24 : Int32) * l1) l3 ih M
theorem r_X12_lies (E : kr_E) (p1 : Int32) (p2 : Int32) (M : kr_M) : kR kr_vv E Y_X12_lies 1 0 [(0, kr_r E 346), (1, .int p1), (2, .int p2)] [] M (f_X12_lies p1 p2 M) := by
  rw [f_X12_lies]
  refine kr_aload_n dX12_lies_0 rfl 0 rfl ?_
  refine kr_aload_n dX12_lies_1 rfl 0 rfl ?_
  refine kr_getA (o := 19) (ci := 12) (j := 29) dX12_lies_2 kr_at_346 fl_RX12_71 rfl ?_
  refine kr_iload_n dX12_lies_5 rfl 1 rfl ?_
  refine kr_iald dX12_lies_6 kr_at_365 (fun v1 => ?_)
  refine kr_putI (ci := 12) (j := 34) dX12_lies_7 kr_at_346 fl_RX12_351 rfl rfl (fun M2 => ?_)
  refine kr_iconst (v := 0) dX12_lies_10 (by decide) ?_
  refine kr_istore_n (lv' := [(3, .int (0 : Int32)), (0, kr_r E 346), (1, .int p1), (2, .int p2)]) dX12_lies_11 rfl (by decide) rfl ?_
  refine kr_sub [1, 2, 3, 0] rfl ?_
  exact r_X12_lies_12 E p1 p2 _ (0 : Int32) M2
theorem dX12_isHere_0 : decode cX12_isHere 0 = .ok (.iload_n 2, 1) := by decide +kernel
theorem dX12_isHere_1 : decode cX12_isHere 1 = .ok (.aload_n 0, 1) := by decide +kernel
theorem dX12_isHere_2 : decode cX12_isHere 2 = .ok (.getfield 43, 3) := by decide +kernel
theorem dX12_isHere_5 : decode cX12_isHere 5 = .ok (.iload_n 1, 1) := by decide +kernel
theorem dX12_isHere_6 : decode cX12_isHere 6 = .ok (.iaload, 1) := by decide +kernel
theorem dX12_isHere_7 : decode cX12_isHere 7 = .ok (.iadd, 1) := by decide +kernel
theorem dX12_isHere_8 : decode cX12_isHere 8 = .ok (.aload_n 0, 1) := by decide +kernel
theorem dX12_isHere_9 : decode cX12_isHere 9 = .ok (.getfield 351, 3) := by decide +kernel
theorem dX12_isHere_12 : decode cX12_isHere 12 = .ok (.if_icmp .gt 7, 3) := by decide +kernel
theorem dX12_isHere_15 : decode cX12_isHere 15 = .ok (.iconst 1, 1) := by decide +kernel
theorem dX12_isHere_16 : decode cX12_isHere 16 = .ok (.goto 4, 3) := by decide +kernel
theorem dX12_isHere_19 : decode cX12_isHere 19 = .ok (.iconst 0, 1) := by decide +kernel
theorem dX12_isHere_20 : decode cX12_isHere 20 = .ok (.istore_n 3, 1) := by decide +kernel
theorem dX12_isHere_21 : decode cX12_isHere 21 = .ok (.iconst 0, 1) := by decide +kernel
theorem dX12_isHere_22 : decode cX12_isHere 22 = .ok (.istore 4, 2) := by decide +kernel
theorem dX12_isHere_24 : decode cX12_isHere 24 = .ok (.iload 4, 2) := by decide +kernel
theorem dX12_isHere_26 : decode cX12_isHere 26 = .ok (.aload_n 0, 1) := by decide +kernel
theorem dX12_isHere_27 : decode cX12_isHere 27 = .ok (.getfield 43, 3) := by decide +kernel
theorem dX12_isHere_30 : decode cX12_isHere 30 = .ok (.iload_n 1, 1) := by decide +kernel
theorem dX12_isHere_31 : decode cX12_isHere 31 = .ok (.iaload, 1) := by decide +kernel
theorem dX12_isHere_32 : decode cX12_isHere 32 = .ok (.if_icmp .ge 42, 3) := by decide +kernel
theorem dX12_isHere_35 : decode cX12_isHere 35 = .ok (.iload_n 3, 1) := by decide +kernel
theorem dX12_isHere_36 : decode cX12_isHere 36 = .ok (.ifCond .eq 38, 3) := by decide +kernel
theorem dX12_isHere_39 : decode cX12_isHere 39 = .ok (.aload_n 0, 1) := by decide +kernel
theorem dX12_isHere_40 : decode cX12_isHere 40 = .ok (.getfield 49, 3) := by decide +kernel
theorem dX12_isHere_43 : decode cX12_isHere 43 = .ok (.iconst 4, 1) := by decide +kernel
theorem dX12_isHere_44 : decode cX12_isHere 44 = .ok (.iload_n 1, 1) := by decide +kernel
theorem dX12_isHere_45 : decode cX12_isHere 45 = .ok (.imul, 1) := by decide +kernel
theorem dX12_isHere_46 : decode cX12_isHere 46 = .ok (.iload 4, 2) := by decide +kernel
theorem dX12_isHere_48 : decode cX12_isHere 48 = .ok (.iadd, 1) := by decide +kernel
theorem dX12_isHere_49 : decode cX12_isHere 49 = .ok (.iaload, 1) := by decide +kernel
theorem dX12_isHere_50 : decode cX12_isHere 50 = .ok (.aload_n 0, 1) := by decide +kernel
theorem dX12_isHere_51 : decode cX12_isHere 51 = .ok (.getfield 80, 3) := by decide +kernel
theorem dX12_isHere_54 : decode cX12_isHere 54 = .ok (.iload_n 2, 1) := by decide +kernel
theorem dX12_isHere_55 : decode cX12_isHere 55 = .ok (.iload 4, 2) := by decide +kernel
theorem dX12_isHere_57 : decode cX12_isHere 57 = .ok (.iadd, 1) := by decide +kernel
theorem dX12_isHere_58 : decode cX12_isHere 58 = .ok (.iaload, 1) := by decide +kernel
theorem dX12_isHere_59 : decode cX12_isHere 59 = .ok (.if_icmp .ne 7, 3) := by decide +kernel
theorem dX12_isHere_62 : decode cX12_isHere 62 = .ok (.iconst 1, 1) := by decide +kernel
theorem dX12_isHere_63 : decode cX12_isHere 63 = .ok (.goto 4, 3) := by decide +kernel
theorem dX12_isHere_66 : decode cX12_isHere 66 = .ok (.iconst 0, 1) := by decide +kernel
theorem dX12_isHere_67 : decode cX12_isHere 67 = .ok (.istore_n 3, 1) := by decide +kernel
theorem dX12_isHere_68 : decode cX12_isHere 68 = .ok (.iinc 4 1, 3) := by decide +kernel
theorem dX12_isHere_71 : decode cX12_isHere 71 = .ok (.goto (-47), 3) := by decide +kernel
theorem dX12_isHere_74 : decode cX12_isHere 74 = .ok (.iload_n 3, 1) := by decide +kernel
theorem dX12_isHere_75 : decode cX12_isHere 75 = .ok (.ireturn, 1) := by decide +kernel
theorem r_X12_isHere_67 (E : kr_E) (k_24 : Int32 → Int32 → kr_M → Option (Int32 × kr_M)) (l1 : Int32) (l2 : Int32) (l4 : Int32) (s0 : Int32) (hk_24 : ∀ (x3 : Int32) (x4 : Int32) (M : kr_M), kR kr_vi E Y_X12_isHere 1 24 [(0, kr_r E 346), (1, .int l1), (2, .int l2), (3, .int x3), (4, .int x4)] [] M (k_24 x3 x4 M)) (M : kr_M) : kR kr_vi E Y_X12_isHere 1 67 [(0, kr_r E 346), (1, .int l1), (2, .int l2), (4, .int l4)] [.int s0] M (f_X12_isHere_67 k_24 l4 s0 M) := by
  rw [f_X12_isHere_67]
  refine kr_istore_n (lv' := [(3, .int s0), (0, kr_r E 346), (1, .int l1), (2, .int l2), (4, .int l4)]) dX12_isHere_67 rfl (by decide) rfl ?_
  refine kr_iinc (j := 4) (v := (l4 + (1 : Int32))) (lv' := [(4, .int (l4 + (1 : Int32))), (3, .int s0), (0, kr_r E 346), (1, .int l1), (2, .int l2)]) dX12_isHere_68 rfl rfl (by decide) rfl ?_
  refine kr_goto (tgt := 24) dX12_isHere_71 (by decide) ?_
  refine kr_sub [2, 3, 4, 1, 0] rfl ?_
  exact hk_24 s0 (l4 + (1 : Int32)) M
theorem r_X12_isHere_24 (E : kr_E)  (l1 : Int32) (l2 : Int32)  : ∀ (n : Nat) (l3 : Int32) (l4 : Int32) (M : kr_M), kR kr_vi E Y_X12_isHere 1 24 [(0, kr_r E 346), (1, .int l1), (2, .int l2), (3, .int l3), (4, .int l4)] [] M (f_X12_isHere_24 l1 l2 n l3 l4 M) := by
  intro n
  induction n with
  | zero => intro l3 l4 M; exact kr_none
  | succ n ih =>
    intro l3 l4 M
    rw [f_X12_isHere_24]
    refine kr_iload dX12_isHere_24 4 rfl ?_
    refine kr_aload_n dX12_isHere_26 rfl 0 rfl ?_
    refine kr_getA (o := 10) (ci := 12) (j := 20) dX12_isHere_27 kr_at_346 fl_RX12_43 rfl ?_
    refine kr_iload_n dX12_isHere_30 rfl 1 rfl ?_
    refine kr_iald dX12_isHere_31 kr_at_356 (fun v1 => ?_)
    refine kr_icmp_ge (tgt := 74) dX12_isHere_32 (by decide) ?_ ?_
    · refine kr_iload_n dX12_isHere_74 rfl 3 rfl ?_
      exact kr_zret dX12_isHere_75 rfl
    · refine kr_iload_n dX12_isHere_35 rfl 3 rfl ?_
      refine kr_if_eq (tgt := 74) dX12_isHere_36 (by decide) ?_ ?_
      · refine kr_iload_n dX12_isHere_74 rfl 3 rfl ?_
        exact kr_zret dX12_isHere_75 rfl
      · refine kr_aload_n dX12_isHere_39 rfl 0 rfl ?_
        refine kr_getA (o := 12) (ci := 12) (j := 22) dX12_isHere_40 kr_at_346 fl_RX12_49 rfl ?_
        refine kr_iconst (v := 4) dX12_isHere_43 (by decide) ?_
        refine kr_iload_n dX12_isHere_44 rfl 1 rfl ?_
        refine kr_imul dX12_isHere_45 ?_
        refine kr_iload dX12_isHere_46 4 rfl ?_
        refine kr_iadd dX12_isHere_48 ?_
        refine kr_iald dX12_isHere_49 kr_at_358 (fun v2 => ?_)
        refine kr_aload_n dX12_isHere_50 rfl 0 rfl ?_
        refine kr_getA (o := 22) (ci := 12) (j := 33) dX12_isHere_51 kr_at_346 fl_RX12_80 rfl ?_
        refine kr_iload_n dX12_isHere_54 rfl 2 rfl ?_
        refine kr_iload dX12_isHere_55 4 rfl ?_
        refine kr_iadd dX12_isHere_57 ?_
        refine kr_iald dX12_isHere_58 kr_at_368 (fun v3 => ?_)
        refine kr_icmp_ne (tgt := 66) dX12_isHere_59 (by decide) ?_ ?_
        · refine kr_iconst (v := 0) dX12_isHere_66 (by decide) ?_
          refine kr_sub [0, 1, 2, 4] rfl ?_
          exact r_X12_isHere_67 E _ l1 l2 l4 (0 : Int32) ih M
        · refine kr_iconst (v := 1) dX12_isHere_62 (by decide) ?_
          refine kr_goto (tgt := 67) dX12_isHere_63 (by decide) ?_
          refine kr_sub [0, 1, 2, 4] rfl ?_
          exact r_X12_isHere_67 E _ l1 l2 l4 (1 : Int32) ih M
theorem r_X12_isHere_20 (E : kr_E)  (l1 : Int32) (l2 : Int32) (s0 : Int32)  (M : kr_M) : kR kr_vi E Y_X12_isHere 1 20 [(0, kr_r E 346), (1, .int l1), (2, .int l2)] [.int s0] M (f_X12_isHere_20 l1 l2 s0 M) := by
  rw [f_X12_isHere_20]
  refine kr_istore_n (lv' := [(3, .int s0), (0, kr_r E 346), (1, .int l1), (2, .int l2)]) dX12_isHere_20 rfl (by decide) rfl ?_
  refine kr_iconst (v := 0) dX12_isHere_21 (by decide) ?_
  refine kr_istore (lv' := [(4, .int (0 : Int32)), (3, .int s0), (0, kr_r E 346), (1, .int l1), (2, .int l2)]) dX12_isHere_22 (by decide) rfl ?_
  refine kr_sub [2, 3, 4, 1, 0] rfl ?_
  exact r_X12_isHere_24 E l1 l2 _ s0 (0 : Int32) M
theorem r_X12_isHere (E : kr_E) (p1 : Int32) (p2 : Int32) (M : kr_M) : kR kr_vi E Y_X12_isHere 1 0 [(0, kr_r E 346), (1, .int p1), (2, .int p2)] [] M (f_X12_isHere p1 p2 M) := by
  rw [f_X12_isHere]
  refine kr_iload_n dX12_isHere_0 rfl 2 rfl ?_
  refine kr_aload_n dX12_isHere_1 rfl 0 rfl ?_
  refine kr_getA (o := 10) (ci := 12) (j := 20) dX12_isHere_2 kr_at_346 fl_RX12_43 rfl ?_
  refine kr_iload_n dX12_isHere_5 rfl 1 rfl ?_
  refine kr_iald dX12_isHere_6 kr_at_356 (fun v1 => ?_)
  refine kr_iadd dX12_isHere_7 ?_
  refine kr_aload_n dX12_isHere_8 rfl 0 rfl ?_
  refine kr_getI (ci := 12) (j := 34) dX12_isHere_9 kr_at_346 fl_RX12_351 rfl (fun v2 => ?_)
  refine kr_icmp_gt (tgt := 19) dX12_isHere_12 (by decide) ?_ ?_
  · refine kr_iconst (v := 0) dX12_isHere_19 (by decide) ?_
    refine kr_sub [0, 1, 2] rfl ?_
    exact r_X12_isHere_20 E p1 p2 (0 : Int32) M
  · refine kr_iconst (v := 1) dX12_isHere_15 (by decide) ?_
    refine kr_goto (tgt := 20) dX12_isHere_16 (by decide) ?_
    refine kr_sub [0, 1, 2] rfl ?_
    exact r_X12_isHere_20 E p1 p2 (1 : Int32) M
theorem dX12_readings_0 : decode cX12_readings 0 = .ok (.aload_n 0, 1) := by decide +kernel
theorem dX12_readings_1 : decode cX12_readings 1 = .ok (.getfield 83, 3) := by decide +kernel
theorem dX12_readings_4 : decode cX12_readings 4 = .ok (.aload_n 0, 1) := by decide +kernel
theorem dX12_readings_5 : decode cX12_readings 5 = .ok (.getfield 351, 3) := by decide +kernel
theorem dX12_readings_8 : decode cX12_readings 8 = .ok (.iconst 1, 1) := by decide +kernel
theorem dX12_readings_9 : decode cX12_readings 9 = .ok (.iastore, 1) := by decide +kernel
theorem dX12_readings_10 : decode cX12_readings 10 = .ok (.aload_n 0, 1) := by decide +kernel
theorem dX12_readings_11 : decode cX12_readings 11 = .ok (.getfield 86, 3) := by decide +kernel
theorem dX12_readings_14 : decode cX12_readings 14 = .ok (.aload_n 0, 1) := by decide +kernel
theorem dX12_readings_15 : decode cX12_readings 15 = .ok (.getfield 351, 3) := by decide +kernel
theorem dX12_readings_18 : decode cX12_readings 18 = .ok (.iconst 0, 1) := by decide +kernel
theorem dX12_readings_19 : decode cX12_readings 19 = .ok (.iastore, 1) := by decide +kernel
theorem dX12_readings_20 : decode cX12_readings 20 = .ok (.aload_n 0, 1) := by decide +kernel
theorem dX12_readings_21 : decode cX12_readings 21 = .ok (.getfield 89, 3) := by decide +kernel
theorem dX12_readings_24 : decode cX12_readings 24 = .ok (.aload_n 0, 1) := by decide +kernel
theorem dX12_readings_25 : decode cX12_readings 25 = .ok (.getfield 351, 3) := by decide +kernel
theorem dX12_readings_28 : decode cX12_readings 28 = .ok (.iconst 0, 1) := by decide +kernel
theorem dX12_readings_29 : decode cX12_readings 29 = .ok (.iastore, 1) := by decide +kernel
theorem dX12_readings_30 : decode cX12_readings 30 = .ok (.aload_n 0, 1) := by decide +kernel
theorem dX12_readings_31 : decode cX12_readings 31 = .ok (.getfield 351, 3) := by decide +kernel
theorem dX12_readings_34 : decode cX12_readings 34 = .ok (.iconst 1, 1) := by decide +kernel
theorem dX12_readings_35 : decode cX12_readings 35 = .ok (.isub, 1) := by decide +kernel
theorem dX12_readings_36 : decode cX12_readings 36 = .ok (.istore_n 1, 1) := by decide +kernel
theorem dX12_readings_37 : decode cX12_readings 37 = .ok (.iload_n 1, 1) := by decide +kernel
theorem dX12_readings_38 : decode cX12_readings 38 = .ok (.ifCond .lt 202, 3) := by decide +kernel
theorem dX12_readings_41 : decode cX12_readings 41 = .ok (.aload_n 0, 1) := by decide +kernel
theorem dX12_readings_42 : decode cX12_readings 42 = .ok (.getfield 83, 3) := by decide +kernel
theorem dX12_readings_45 : decode cX12_readings 45 = .ok (.iload_n 1, 1) := by decide +kernel
theorem dX12_readings_46 : decode cX12_readings 46 = .ok (.iconst 0, 1) := by decide +kernel
theorem dX12_readings_47 : decode cX12_readings 47 = .ok (.iastore, 1) := by decide +kernel
theorem dX12_readings_48 : decode cX12_readings 48 = .ok (.aload_n 0, 1) := by decide +kernel
theorem dX12_readings_49 : decode cX12_readings 49 = .ok (.getfield 86, 3) := by decide +kernel
theorem dX12_readings_52 : decode cX12_readings 52 = .ok (.iload_n 1, 1) := by decide +kernel
theorem dX12_readings_53 : decode cX12_readings 53 = .ok (.ldc_w 354, 3) := by decide +kernel
theorem dX12_readings_56 : decode cX12_readings 56 = .ok (.iastore, 1) := by decide +kernel
theorem dX12_readings_57 : decode cX12_readings 57 = .ok (.aload_n 0, 1) := by decide +kernel
theorem dX12_readings_58 : decode cX12_readings 58 = .ok (.getfield 89, 3) := by decide +kernel
theorem dX12_readings_61 : decode cX12_readings 61 = .ok (.iload_n 1, 1) := by decide +kernel
theorem dX12_readings_62 : decode cX12_readings 62 = .ok (.iconst (-1), 1) := by decide +kernel
theorem dX12_readings_63 : decode cX12_readings 63 = .ok (.iastore, 1) := by decide +kernel
theorem dX12_readings_64 : decode cX12_readings 64 = .ok (.iconst 0, 1) := by decide +kernel
theorem dX12_readings_65 : decode cX12_readings 65 = .ok (.istore_n 2, 1) := by decide +kernel
theorem dX12_readings_66 : decode cX12_readings 66 = .ok (.iload_n 2, 1) := by decide +kernel
theorem dX12_readings_67 : decode cX12_readings 67 = .ok (.aload_n 0, 1) := by decide +kernel
theorem dX12_readings_68 : decode cX12_readings 68 = .ok (.getfield 34, 3) := by decide +kernel
theorem dX12_readings_71 : decode cX12_readings 71 = .ok (.iconst 4, 1) := by decide +kernel
theorem dX12_readings_72 : decode cX12_readings 72 = .ok (.iaload, 1) := by decide +kernel
theorem dX12_readings_73 : decode cX12_readings 73 = .ok (.if_icmp .ge 161, 3) := by decide +kernel
theorem dX12_readings_76 : decode cX12_readings 76 = .ok (.aload_n 0, 1) := by decide +kernel
theorem dX12_readings_77 : decode cX12_readings 77 = .ok (.iload_n 2, 1) := by decide +kernel
theorem dX12_readings_78 : decode cX12_readings 78 = .ok (.iload_n 1, 1) := by decide +kernel
theorem dX12_readings_79 : decode cX12_readings 79 = .ok (.invokevirtual 355, 3) := by decide +kernel
theorem dX12_readings_82 : decode cX12_readings 82 = .ok (.ifCond .eq 146, 3) := by decide +kernel
theorem dX12_readings_85 : decode cX12_readings 85 = .ok (.aload_n 0, 1) := by decide +kernel
theorem dX12_readings_86 : decode cX12_readings 86 = .ok (.getfield 83, 3) := by decide +kernel
theorem dX12_readings_89 : decode cX12_readings 89 = .ok (.iload_n 1, 1) := by decide +kernel
theorem dX12_readings_90 : decode cX12_readings 90 = .ok (.aload_n 0, 1) := by decide +kernel
theorem dX12_readings_91 : decode cX12_readings 91 = .ok (.getfield 43, 3) := by decide +kernel
theorem dX12_readings_94 : decode cX12_readings 94 = .ok (.iload_n 2, 1) := by decide +kernel
theorem dX12_readings_95 : decode cX12_readings 95 = .ok (.iaload, 1) := by decide +kernel
theorem dX12_readings_96 : decode cX12_readings 96 = .ok (.iadd, 1) := by decide +kernel
theorem dX12_readings_97 : decode cX12_readings 97 = .ok (.iaload, 1) := by decide +kernel
theorem dX12_readings_98 : decode cX12_readings 98 = .ok (.ifCond .ne 6, 3) := by decide +kernel
theorem dX12_readings_101 : decode cX12_readings 101 = .ok (.goto 127, 3) := by decide +kernel
theorem dX12_readings_104 : decode cX12_readings 104 = .ok (.iload_n 1, 1) := by decide +kernel
theorem dX12_readings_105 : decode cX12_readings 105 = .ok (.aload_n 0, 1) := by decide +kernel
theorem dX12_readings_106 : decode cX12_readings 106 = .ok (.getfield 43, 3) := by decide +kernel
theorem dX12_readings_109 : decode cX12_readings 109 = .ok (.iload_n 2, 1) := by decide +kernel
theorem dX12_readings_110 : decode cX12_readings 110 = .ok (.iaload, 1) := by decide +kernel
theorem dX12_readings_111 : decode cX12_readings 111 = .ok (.iadd, 1) := by decide +kernel
theorem dX12_readings_112 : decode cX12_readings 112 = .ok (.istore_n 3, 1) := by decide +kernel
theorem dX12_readings_113 : decode cX12_readings 113 = .ok (.aload_n 0, 1) := by decide +kernel
theorem dX12_readings_114 : decode cX12_readings 114 = .ok (.getfield 83, 3) := by decide +kernel
theorem dX12_readings_117 : decode cX12_readings 117 = .ok (.iload_n 1, 1) := by decide +kernel
theorem dX12_readings_118 : decode cX12_readings 118 = .ok (.dup2, 1) := by decide +kernel
theorem dX12_readings_119 : decode cX12_readings 119 = .ok (.iaload, 1) := by decide +kernel
theorem dX12_readings_120 : decode cX12_readings 120 = .ok (.aload_n 0, 1) := by decide +kernel
theorem dX12_readings_121 : decode cX12_readings 121 = .ok (.getfield 83, 3) := by decide +kernel
theorem dX12_readings_124 : decode cX12_readings 124 = .ok (.iload_n 3, 1) := by decide +kernel
theorem dX12_readings_125 : decode cX12_readings 125 = .ok (.iaload, 1) := by decide +kernel
theorem dX12_readings_126 : decode cX12_readings 126 = .ok (.iadd, 1) := by decide +kernel
theorem dX12_readings_127 : decode cX12_readings 127 = .ok (.iastore, 1) := by decide +kernel
theorem dX12_readings_128 : decode cX12_readings 128 = .ok (.aload_n 0, 1) := by decide +kernel
theorem dX12_readings_129 : decode cX12_readings 129 = .ok (.getfield 86, 3) := by decide +kernel
theorem dX12_readings_132 : decode cX12_readings 132 = .ok (.iload_n 1, 1) := by decide +kernel
theorem dX12_readings_133 : decode cX12_readings 133 = .ok (.aload_n 0, 1) := by decide +kernel
theorem dX12_readings_134 : decode cX12_readings 134 = .ok (.getfield 86, 3) := by decide +kernel
theorem dX12_readings_137 : decode cX12_readings 137 = .ok (.iload_n 3, 1) := by decide +kernel
theorem dX12_readings_138 : decode cX12_readings 138 = .ok (.iaload, 1) := by decide +kernel
theorem dX12_readings_139 : decode cX12_readings 139 = .ok (.aload_n 0, 1) := by decide +kernel
theorem dX12_readings_140 : decode cX12_readings 140 = .ok (.getfield 46, 3) := by decide +kernel
theorem dX12_readings_143 : decode cX12_readings 143 = .ok (.iload_n 2, 1) := by decide +kernel
theorem dX12_readings_144 : decode cX12_readings 144 = .ok (.iaload, 1) := by decide +kernel
theorem dX12_readings_145 : decode cX12_readings 145 = .ok (.iadd, 1) := by decide +kernel
theorem dX12_readings_146 : decode cX12_readings 146 = .ok (.aload_n 0, 1) := by decide +kernel
theorem dX12_readings_147 : decode cX12_readings 147 = .ok (.getfield 86, 3) := by decide +kernel
theorem dX12_readings_150 : decode cX12_readings 150 = .ok (.iload_n 1, 1) := by decide +kernel
theorem dX12_readings_151 : decode cX12_readings 151 = .ok (.iaload, 1) := by decide +kernel
theorem dX12_readings_152 : decode cX12_readings 152 = .ok (.if_icmp .ge 19, 3) := by decide +kernel
theorem dX12_readings_155 : decode cX12_readings 155 = .ok (.aload_n 0, 1) := by decide +kernel
theorem dX12_readings_156 : decode cX12_readings 156 = .ok (.getfield 86, 3) := by decide +kernel
theorem dX12_readings_159 : decode cX12_readings 159 = .ok (.iload_n 3, 1) := by decide +kernel
theorem dX12_readings_160 : decode cX12_readings 160 = .ok (.iaload, 1) := by decide +kernel
theorem dX12_readings_161 : decode cX12_readings 161 = .ok (.aload_n 0, 1) := by decide +kernel
theorem dX12_readings_162 : decode cX12_readings 162 = .ok (.getfield 46, 3) := by decide +kernel
theorem dX12_readings_165 : decode cX12_readings 165 = .ok (.iload_n 2, 1) := by decide +kernel
theorem dX12_readings_166 : decode cX12_readings 166 = .ok (.iaload, 1) := by decide +kernel
theorem dX12_readings_167 : decode cX12_readings 167 = .ok (.iadd, 1) := by decide +kernel
theorem dX12_readings_168 : decode cX12_readings 168 = .ok (.goto 9, 3) := by decide +kernel
theorem dX12_readings_171 : decode cX12_readings 171 = .ok (.aload_n 0, 1) := by decide +kernel
theorem dX12_readings_172 : decode cX12_readings 172 = .ok (.getfield 86, 3) := by decide +kernel
theorem dX12_readings_175 : decode cX12_readings 175 = .ok (.iload_n 1, 1) := by decide +kernel
theorem dX12_readings_176 : decode cX12_readings 176 = .ok (.iaload, 1) := by decide +kernel
theorem dX12_readings_177 : decode cX12_readings 177 = .ok (.iastore, 1) := by decide +kernel
theorem dX12_readings_178 : decode cX12_readings 178 = .ok (.aload_n 0, 1) := by decide +kernel
theorem dX12_readings_179 : decode cX12_readings 179 = .ok (.getfield 89, 3) := by decide +kernel
theorem dX12_readings_182 : decode cX12_readings 182 = .ok (.iload_n 1, 1) := by decide +kernel
theorem dX12_readings_183 : decode cX12_readings 183 = .ok (.aload_n 0, 1) := by decide +kernel
theorem dX12_readings_184 : decode cX12_readings 184 = .ok (.getfield 89, 3) := by decide +kernel
theorem dX12_readings_187 : decode cX12_readings 187 = .ok (.iload_n 3, 1) := by decide +kernel
theorem dX12_readings_188 : decode cX12_readings 188 = .ok (.iaload, 1) := by decide +kernel
theorem dX12_readings_189 : decode cX12_readings 189 = .ok (.aload_n 0, 1) := by decide +kernel
theorem dX12_readings_190 : decode cX12_readings 190 = .ok (.getfield 46, 3) := by decide +kernel
theorem dX12_readings_193 : decode cX12_readings 193 = .ok (.iload_n 2, 1) := by decide +kernel
theorem dX12_readings_194 : decode cX12_readings 194 = .ok (.iaload, 1) := by decide +kernel
theorem dX12_readings_195 : decode cX12_readings 195 = .ok (.iadd, 1) := by decide +kernel
theorem dX12_readings_196 : decode cX12_readings 196 = .ok (.aload_n 0, 1) := by decide +kernel
theorem dX12_readings_197 : decode cX12_readings 197 = .ok (.getfield 89, 3) := by decide +kernel
theorem dX12_readings_200 : decode cX12_readings 200 = .ok (.iload_n 1, 1) := by decide +kernel
theorem dX12_readings_201 : decode cX12_readings 201 = .ok (.iaload, 1) := by decide +kernel
theorem dX12_readings_202 : decode cX12_readings 202 = .ok (.if_icmp .le 19, 3) := by decide +kernel
theorem dX12_readings_205 : decode cX12_readings 205 = .ok (.aload_n 0, 1) := by decide +kernel
theorem dX12_readings_206 : decode cX12_readings 206 = .ok (.getfield 89, 3) := by decide +kernel
theorem dX12_readings_209 : decode cX12_readings 209 = .ok (.iload_n 3, 1) := by decide +kernel
theorem dX12_readings_210 : decode cX12_readings 210 = .ok (.iaload, 1) := by decide +kernel
theorem dX12_readings_211 : decode cX12_readings 211 = .ok (.aload_n 0, 1) := by decide +kernel
theorem dX12_readings_212 : decode cX12_readings 212 = .ok (.getfield 46, 3) := by decide +kernel
theorem dX12_readings_215 : decode cX12_readings 215 = .ok (.iload_n 2, 1) := by decide +kernel
theorem dX12_readings_216 : decode cX12_readings 216 = .ok (.iaload, 1) := by decide +kernel
theorem dX12_readings_217 : decode cX12_readings 217 = .ok (.iadd, 1) := by decide +kernel
theorem dX12_readings_218 : decode cX12_readings 218 = .ok (.goto 9, 3) := by decide +kernel
theorem dX12_readings_221 : decode cX12_readings 221 = .ok (.aload_n 0, 1) := by decide +kernel
theorem dX12_readings_222 : decode cX12_readings 222 = .ok (.getfield 89, 3) := by decide +kernel
theorem dX12_readings_225 : decode cX12_readings 225 = .ok (.iload_n 1, 1) := by decide +kernel
theorem dX12_readings_226 : decode cX12_readings 226 = .ok (.iaload, 1) := by decide +kernel
theorem dX12_readings_227 : decode cX12_readings 227 = .ok (.iastore, 1) := by decide +kernel
theorem dX12_readings_228 : decode cX12_readings 228 = .ok (.iinc 2 1, 3) := by decide +kernel
theorem dX12_readings_231 : decode cX12_readings 231 = .ok (.goto (-165), 3) := by decide +kernel
theorem dX12_readings_234 : decode cX12_readings 234 = .ok (.iinc 1 (-1), 3) := by decide +kernel
theorem dX12_readings_237 : decode cX12_readings 237 = .ok (.goto (-200), 3) := by decide +kernel
theorem dX12_readings_240 : decode cX12_readings 240 = .ok (.return_, 1) := by decide +kernel
theorem r_X12_readings_234 (E : kr_E) (k_37 : Int32 → kr_M → Option kr_M) (l1 : Int32) (hk_37 : ∀ (x1 : Int32) (M : kr_M), kR kr_vv E Y_X12_readings 2 37 [(0, kr_r E 346), (1, .int x1)] [] M (k_37 x1 M)) (M : kr_M) : kR kr_vv E Y_X12_readings 2 234 [(0, kr_r E 346), (1, .int l1)] [] M (f_X12_readings_234 k_37 l1 M) := by
  rw [f_X12_readings_234]
  refine kr_iinc (j := 1) (v := (l1 + (-1 : Int32))) (lv' := [(1, .int (l1 + (-1 : Int32))), (0, kr_r E 346)]) dX12_readings_234 rfl rfl (by decide) rfl ?_
  refine kr_goto (tgt := 37) dX12_readings_237 (by decide) ?_
  refine kr_sub [1, 0] rfl ?_
  exact hk_37 (l1 + (-1 : Int32)) M
theorem r_X12_readings_228 (E : kr_E) (k_66 : Int32 → kr_M → Option kr_M) (l1 : Int32) (l2 : Int32) (hk_66 : ∀ (x2 : Int32) (M : kr_M), kR kr_vv E Y_X12_readings 2 66 [(0, kr_r E 346), (1, .int l1), (2, .int x2)] [] M (k_66 x2 M)) (M : kr_M) : kR kr_vv E Y_X12_readings 2 228 [(0, kr_r E 346), (1, .int l1), (2, .int l2)] [] M (f_X12_readings_228 k_66 l2 M) := by
  rw [f_X12_readings_228]
  refine kr_iinc (j := 2) (v := (l2 + (1 : Int32))) (lv' := [(2, .int (l2 + (1 : Int32))), (0, kr_r E 346), (1, .int l1)]) dX12_readings_228 rfl rfl (by decide) rfl ?_
  refine kr_goto (tgt := 66) dX12_readings_231 (by decide) ?_
  refine kr_sub [1, 2, 0] rfl ?_
  exact hk_66 (l2 + (1 : Int32)) M
theorem r_X12_readings_227 (E : kr_E) (k_66 : Int32 → kr_M → Option kr_M) (l1 : Int32) (l2 : Int32) (s0 : Int32) (s1 : Int32) (hk_66 : ∀ (x2 : Int32) (M : kr_M), kR kr_vv E Y_X12_readings 2 66 [(0, kr_r E 346), (1, .int l1), (2, .int x2)] [] M (k_66 x2 M)) (M : kr_M) : kR kr_vv E Y_X12_readings 2 227 [(0, kr_r E 346), (1, .int l1), (2, .int l2)] [.int s0, .int s1, kr_r E 371] M (f_X12_readings_227 k_66 l2 s0 s1 M) := by
  rw [f_X12_readings_227]
  refine kr_iast dX12_readings_227 kr_at_371 (fun M1 => ?_)
  refine kr_sub [0, 1, 2] rfl ?_
  exact r_X12_readings_228 E _ l1 l2 hk_66 M1
theorem r_X12_readings_177 (E : kr_E) (k_66 : Int32 → kr_M → Option kr_M) (l1 : Int32) (l2 : Int32) (l3 : Int32) (s0 : Int32) (s1 : Int32) (hk_66 : ∀ (x2 : Int32) (M : kr_M), kR kr_vv E Y_X12_readings 2 66 [(0, kr_r E 346), (1, .int l1), (2, .int x2)] [] M (k_66 x2 M)) (M : kr_M) : kR kr_vv E Y_X12_readings 2 177 [(0, kr_r E 346), (1, .int l1), (2, .int l2), (3, .int l3)] [.int s0, .int s1, kr_r E 370] M (f_X12_readings_177 k_66 l1 l2 l3 s0 s1 M) := by
  rw [f_X12_readings_177]
  refine kr_iast dX12_readings_177 kr_at_370 (fun M1 => ?_)
  refine kr_aload_n dX12_readings_178 rfl 0 rfl ?_
  refine kr_getA (o := 25) (ci := 12) (j := 37) dX12_readings_179 kr_at_346 fl_RX12_89 rfl ?_
  refine kr_iload_n dX12_readings_182 rfl 1 rfl ?_
  refine kr_aload_n dX12_readings_183 rfl 0 rfl ?_
  refine kr_getA (o := 25) (ci := 12) (j := 37) dX12_readings_184 kr_at_346 fl_RX12_89 rfl ?_
  refine kr_iload_n dX12_readings_187 rfl 3 rfl ?_
  refine kr_iald dX12_readings_188 kr_at_371 (fun v2 => ?_)
  refine kr_aload_n dX12_readings_189 rfl 0 rfl ?_
  refine kr_getA (o := 11) (ci := 12) (j := 21) dX12_readings_190 kr_at_346 fl_RX12_46 rfl ?_
  refine kr_iload_n dX12_readings_193 rfl 2 rfl ?_
  refine kr_iald dX12_readings_194 kr_at_357 (fun v3 => ?_)
  refine kr_iadd dX12_readings_195 ?_
  refine kr_aload_n dX12_readings_196 rfl 0 rfl ?_
  refine kr_getA (o := 25) (ci := 12) (j := 37) dX12_readings_197 kr_at_346 fl_RX12_89 rfl ?_
  refine kr_iload_n dX12_readings_200 rfl 1 rfl ?_
  refine kr_iald dX12_readings_201 kr_at_371 (fun v4 => ?_)
  refine kr_icmp_le (tgt := 221) dX12_readings_202 (by decide) ?_ ?_
  · refine kr_aload_n dX12_readings_221 rfl 0 rfl ?_
    refine kr_getA (o := 25) (ci := 12) (j := 37) dX12_readings_222 kr_at_346 fl_RX12_89 rfl ?_
    refine kr_iload_n dX12_readings_225 rfl 1 rfl ?_
    refine kr_iald dX12_readings_226 kr_at_371 (fun v5 => ?_)
    refine kr_sub [0, 1, 2] rfl ?_
    exact r_X12_readings_227 E _ l1 l2 v5 l1 hk_66 M1
  · refine kr_aload_n dX12_readings_205 rfl 0 rfl ?_
    refine kr_getA (o := 25) (ci := 12) (j := 37) dX12_readings_206 kr_at_346 fl_RX12_89 rfl ?_
    refine kr_iload_n dX12_readings_209 rfl 3 rfl ?_
    refine kr_iald dX12_readings_210 kr_at_371 (fun v6 => ?_)
    refine kr_aload_n dX12_readings_211 rfl 0 rfl ?_
    refine kr_getA (o := 11) (ci := 12) (j := 21) dX12_readings_212 kr_at_346 fl_RX12_46 rfl ?_
    refine kr_iload_n dX12_readings_215 rfl 2 rfl ?_
    refine kr_iald dX12_readings_216 kr_at_357 (fun v7 => ?_)
    refine kr_iadd dX12_readings_217 ?_
    refine kr_goto (tgt := 227) dX12_readings_218 (by decide) ?_
    refine kr_sub [0, 1, 2] rfl ?_
    exact r_X12_readings_227 E _ l1 l2 (v6 + v7) l1 hk_66 M1
theorem r_X12_readings_66 (E : kr_E) (k_37 : Int32 → kr_M → Option kr_M) (l1 : Int32) (hk_37 : ∀ (x1 : Int32) (M : kr_M), kR kr_vv E Y_X12_readings 2 37 [(0, kr_r E 346), (1, .int x1)] [] M (k_37 x1 M)) : ∀ (n : Nat) (l2 : Int32) (M : kr_M), kR kr_vv E Y_X12_readings 2 66 [(0, kr_r E 346), (1, .int l1), (2, .int l2)] [] M (f_X12_readings_66 k_37 l1 n l2 M) := by
  intro n
  induction n with
  | zero => intro l2 M; exact kr_none
  | succ n ih =>
    intro l2 M
    rw [f_X12_readings_66]
    refine kr_iload_n dX12_readings_66 rfl 2 rfl ?_
    refine kr_aload_n dX12_readings_67 rfl 0 rfl ?_
    refine kr_getA (o := 7) (ci := 12) (j := 17) dX12_readings_68 kr_at_346 fl_RX12_34 rfl ?_
    refine kr_iconst (v := 4) dX12_readings_71 (by decide) ?_
    refine kr_iald dX12_readings_72 kr_at_353 (fun v1 => ?_)
    refine kr_icmp_ge (tgt := 234) dX12_readings_73 (by decide) ?_ ?_
    · refine kr_sub [0, 1] rfl ?_
      exact r_X12_readings_234 E _ l1 hk_37 M
    · refine kr_aload_n dX12_readings_76 rfl 0 rfl ?_
      refine kr_iload_n dX12_readings_77 rfl 2 rfl ?_
      refine kr_iload_n dX12_readings_78 rfl 1 rfl ?_
      refine kr_Vi (As := [.int l2, .int l1]) (st := []) zv_X12_isHere dX12_readings_79 ml_RX12_355 kr_at_346 (r_X12_isHere E l2 l1 M) rfl rfl (Nat.le_of_ble_eq_true rfl) rfl (by decide) (Nat.le_of_ble_eq_true rfl) (fun r3 M2 => ?_)
      refine kr_if_eq (tgt := 228) dX12_readings_82 (by decide) ?_ ?_
      · refine kr_sub [0, 1, 2] rfl ?_
        exact r_X12_readings_228 E _ l1 l2 ih M2
      · refine kr_aload_n dX12_readings_85 rfl 0 rfl ?_
        refine kr_getA (o := 23) (ci := 12) (j := 35) dX12_readings_86 kr_at_346 fl_RX12_83 rfl ?_
        refine kr_iload_n dX12_readings_89 rfl 1 rfl ?_
        refine kr_aload_n dX12_readings_90 rfl 0 rfl ?_
        refine kr_getA (o := 10) (ci := 12) (j := 20) dX12_readings_91 kr_at_346 fl_RX12_43 rfl ?_
        refine kr_iload_n dX12_readings_94 rfl 2 rfl ?_
        refine kr_iald dX12_readings_95 kr_at_356 (fun v4 => ?_)
        refine kr_iadd dX12_readings_96 ?_
        refine kr_iald dX12_readings_97 kr_at_369 (fun v5 => ?_)
        refine kr_if_ne (tgt := 104) dX12_readings_98 (by decide) ?_ ?_
        · refine kr_iload_n dX12_readings_104 rfl 1 rfl ?_
          refine kr_aload_n dX12_readings_105 rfl 0 rfl ?_
          refine kr_getA (o := 10) (ci := 12) (j := 20) dX12_readings_106 kr_at_346 fl_RX12_43 rfl ?_
          refine kr_iload_n dX12_readings_109 rfl 2 rfl ?_
          refine kr_iald dX12_readings_110 kr_at_356 (fun v6 => ?_)
          refine kr_iadd dX12_readings_111 ?_
          refine kr_nmi (fun v7 => ?_)
          refine kr_istore_n (lv' := [(3, .int v7), (0, kr_r E 346), (1, .int l1), (2, .int l2)]) dX12_readings_112 rfl (by decide) rfl ?_
          refine kr_aload_n dX12_readings_113 rfl 1 rfl ?_
          refine kr_getA (o := 23) (ci := 12) (j := 35) dX12_readings_114 kr_at_346 fl_RX12_83 rfl ?_
          refine kr_iload_n dX12_readings_117 rfl 2 rfl ?_
          refine kr_dup2 dX12_readings_118 rfl rfl ?_
          refine kr_iald dX12_readings_119 kr_at_369 (fun v8 => ?_)
          refine kr_aload_n dX12_readings_120 rfl 1 rfl ?_
          refine kr_getA (o := 23) (ci := 12) (j := 35) dX12_readings_121 kr_at_346 fl_RX12_83 rfl ?_
          refine kr_iload_n dX12_readings_124 rfl 0 rfl ?_
          refine kr_iald dX12_readings_125 kr_at_369 (fun v9 => ?_)
          refine kr_iadd dX12_readings_126 ?_
          refine kr_iast dX12_readings_127 kr_at_369 (fun M10 => ?_)
          refine kr_aload_n dX12_readings_128 rfl 1 rfl ?_
          refine kr_getA (o := 24) (ci := 12) (j := 36) dX12_readings_129 kr_at_346 fl_RX12_86 rfl ?_
          refine kr_iload_n dX12_readings_132 rfl 2 rfl ?_
          refine kr_aload_n dX12_readings_133 rfl 1 rfl ?_
          refine kr_getA (o := 24) (ci := 12) (j := 36) dX12_readings_134 kr_at_346 fl_RX12_86 rfl ?_
          refine kr_iload_n dX12_readings_137 rfl 0 rfl ?_
          refine kr_iald dX12_readings_138 kr_at_370 (fun v11 => ?_)
          refine kr_aload_n dX12_readings_139 rfl 1 rfl ?_
          refine kr_getA (o := 11) (ci := 12) (j := 21) dX12_readings_140 kr_at_346 fl_RX12_46 rfl ?_
          refine kr_iload_n dX12_readings_143 rfl 3 rfl ?_
          refine kr_iald dX12_readings_144 kr_at_357 (fun v12 => ?_)
          refine kr_iadd dX12_readings_145 ?_
          refine kr_aload_n dX12_readings_146 rfl 1 rfl ?_
          refine kr_getA (o := 24) (ci := 12) (j := 36) dX12_readings_147 kr_at_346 fl_RX12_86 rfl ?_
          refine kr_iload_n dX12_readings_150 rfl 2 rfl ?_
          refine kr_iald dX12_readings_151 kr_at_370 (fun v13 => ?_)
          refine kr_icmp_ge (tgt := 171) dX12_readings_152 (by decide) ?_ ?_
          · refine kr_aload_n dX12_readings_171 rfl 1 rfl ?_
            refine kr_getA (o := 24) (ci := 12) (j := 36) dX12_readings_172 kr_at_346 fl_RX12_86 rfl ?_
            refine kr_iload_n dX12_readings_175 rfl 2 rfl ?_
            refine kr_iald dX12_readings_176 kr_at_370 (fun v14 => ?_)
            refine kr_sub [1, 2, 3, 0] rfl ?_
            exact r_X12_readings_177 E _ l1 l2 v7 v14 l1 ih M10
          · refine kr_aload_n dX12_readings_155 rfl 1 rfl ?_
            refine kr_getA (o := 24) (ci := 12) (j := 36) dX12_readings_156 kr_at_346 fl_RX12_86 rfl ?_
            refine kr_iload_n dX12_readings_159 rfl 0 rfl ?_
            refine kr_iald dX12_readings_160 kr_at_370 (fun v15 => ?_)
            refine kr_aload_n dX12_readings_161 rfl 1 rfl ?_
            refine kr_getA (o := 11) (ci := 12) (j := 21) dX12_readings_162 kr_at_346 fl_RX12_46 rfl ?_
            refine kr_iload_n dX12_readings_165 rfl 3 rfl ?_
            refine kr_iald dX12_readings_166 kr_at_357 (fun v16 => ?_)
            refine kr_iadd dX12_readings_167 ?_
            refine kr_goto (tgt := 177) dX12_readings_168 (by decide) ?_
            refine kr_sub [1, 2, 3, 0] rfl ?_
            exact r_X12_readings_177 E _ l1 l2 v7 (v15 + v16) l1 ih M10
        · refine kr_goto (tgt := 228) dX12_readings_101 (by decide) ?_
          refine kr_sub [0, 1, 2] rfl ?_
          exact r_X12_readings_228 E _ l1 l2 ih M2
theorem r_X12_readings_37 (E : kr_E)    : ∀ (n : Nat) (l1 : Int32) (M : kr_M), kR kr_vv E Y_X12_readings 2 37 [(0, kr_r E 346), (1, .int l1)] [] M (f_X12_readings_37 n l1 M) := by
  intro n
  induction n with
  | zero => intro l1 M; exact kr_none
  | succ n ih =>
    intro l1 M
    rw [f_X12_readings_37]
    refine kr_iload_n dX12_readings_37 rfl 1 rfl ?_
    refine kr_if_lt (tgt := 240) dX12_readings_38 (by decide) ?_ ?_
    · exact kr_vret dX12_readings_240 rfl
    · refine kr_aload_n dX12_readings_41 rfl 0 rfl ?_
      refine kr_getA (o := 23) (ci := 12) (j := 35) dX12_readings_42 kr_at_346 fl_RX12_83 rfl ?_
      refine kr_iload_n dX12_readings_45 rfl 1 rfl ?_
      refine kr_iconst (v := 0) dX12_readings_46 (by decide) ?_
      refine kr_iast dX12_readings_47 kr_at_369 (fun M1 => ?_)
      refine kr_aload_n dX12_readings_48 rfl 0 rfl ?_
      refine kr_getA (o := 24) (ci := 12) (j := 36) dX12_readings_49 kr_at_346 fl_RX12_86 rfl ?_
      refine kr_iload_n dX12_readings_52 rfl 1 rfl ?_
      refine kr_ldcw dX12_readings_53 kc_RX12_354 ?_
      refine kr_iast dX12_readings_56 kr_at_370 (fun M2 => ?_)
      refine kr_aload_n dX12_readings_57 rfl 0 rfl ?_
      refine kr_getA (o := 25) (ci := 12) (j := 37) dX12_readings_58 kr_at_346 fl_RX12_89 rfl ?_
      refine kr_iload_n dX12_readings_61 rfl 1 rfl ?_
      refine kr_iconst (v := -1) dX12_readings_62 (by decide) ?_
      refine kr_iast dX12_readings_63 kr_at_371 (fun M3 => ?_)
      refine kr_iconst (v := 0) dX12_readings_64 (by decide) ?_
      refine kr_istore_n (lv' := [(2, .int (0 : Int32)), (0, kr_r E 346), (1, .int l1)]) dX12_readings_65 rfl (by decide) rfl ?_
      refine kr_sub [1, 2, 0] rfl ?_
      exact r_X12_readings_66 E _ l1 ih _ (0 : Int32) M3
theorem r_X12_readings (E : kr_E)  (M : kr_M) : kR kr_vv E Y_X12_readings 2 0 [(0, kr_r E 346)] [] M (f_X12_readings M) := by
  rw [f_X12_readings]
  refine kr_aload_n dX12_readings_0 rfl 0 rfl ?_
  refine kr_getA (o := 23) (ci := 12) (j := 35) dX12_readings_1 kr_at_346 fl_RX12_83 rfl ?_
  refine kr_aload_n dX12_readings_4 rfl 0 rfl ?_
  refine kr_getI (ci := 12) (j := 34) dX12_readings_5 kr_at_346 fl_RX12_351 rfl (fun v1 => ?_)
  refine kr_iconst (v := 1) dX12_readings_8 (by decide) ?_
  refine kr_iast dX12_readings_9 kr_at_369 (fun M2 => ?_)
  refine kr_aload_n dX12_readings_10 rfl 0 rfl ?_
  refine kr_getA (o := 24) (ci := 12) (j := 36) dX12_readings_11 kr_at_346 fl_RX12_86 rfl ?_
  refine kr_aload_n dX12_readings_14 rfl 0 rfl ?_
  refine kr_getI (ci := 12) (j := 34) dX12_readings_15 kr_at_346 fl_RX12_351 rfl (fun v3 => ?_)
  refine kr_iconst (v := 0) dX12_readings_18 (by decide) ?_
  refine kr_iast dX12_readings_19 kr_at_370 (fun M4 => ?_)
  refine kr_aload_n dX12_readings_20 rfl 0 rfl ?_
  refine kr_getA (o := 25) (ci := 12) (j := 37) dX12_readings_21 kr_at_346 fl_RX12_89 rfl ?_
  refine kr_aload_n dX12_readings_24 rfl 0 rfl ?_
  refine kr_getI (ci := 12) (j := 34) dX12_readings_25 kr_at_346 fl_RX12_351 rfl (fun v5 => ?_)
  refine kr_iconst (v := 0) dX12_readings_28 (by decide) ?_
  refine kr_iast dX12_readings_29 kr_at_371 (fun M6 => ?_)
  refine kr_aload_n dX12_readings_30 rfl 0 rfl ?_
  refine kr_getI (ci := 12) (j := 34) dX12_readings_31 kr_at_346 fl_RX12_351 rfl (fun v7 => ?_)
  refine kr_iconst (v := 1) dX12_readings_34 (by decide) ?_
  refine kr_isub dX12_readings_35 ?_
  refine kr_nmi (fun v8 => ?_)
  refine kr_istore_n (lv' := [(1, .int v8), (0, kr_r E 346)]) dX12_readings_36 rfl (by decide) rfl ?_
  refine kr_sub [1, 0] rfl ?_
  exact r_X12_readings_37 E _ v8 M6
