theorem dX4_layOver_0 : decode cX4_layOver 0 = .ok (.aload_n 0, 1) := by decide +kernel
theorem dX4_layOver_1 : decode cX4_layOver 1 = .ok (.getfield 40, 3) := by decide +kernel
theorem dX4_layOver_4 : decode cX4_layOver 4 = .ok (.getfield 63, 3) := by decide +kernel
theorem dX4_layOver_7 : decode cX4_layOver 7 = .ok (.iload_n 2, 1) := by decide +kernel
theorem dX4_layOver_8 : decode cX4_layOver 8 = .ok (.aaload, 1) := by decide +kernel
theorem dX4_layOver_9 : decode cX4_layOver 9 = .ok (.astore_n 3, 1) := by decide +kernel
theorem dX4_layOver_10 : decode cX4_layOver 10 = .ok (.iconst 0, 1) := by decide +kernel
theorem dX4_layOver_11 : decode cX4_layOver 11 = .ok (.istore 4, 2) := by decide +kernel
theorem dX4_layOver_13 : decode cX4_layOver 13 = .ok (.iload 4, 2) := by decide +kernel
theorem dX4_layOver_15 : decode cX4_layOver 15 = .ok (.aload_n 3, 1) := by decide +kernel
theorem dX4_layOver_16 : decode cX4_layOver 16 = .ok (.getfield 51, 3) := by decide +kernel
theorem dX4_layOver_19 : decode cX4_layOver 19 = .ok (.if_icmp .ge 122, 3) := by decide +kernel
theorem dX4_layOver_22 : decode cX4_layOver 22 = .ok (.iload 4, 2) := by decide +kernel
theorem dX4_layOver_24 : decode cX4_layOver 24 = .ok (.iload_n 1, 1) := by decide +kernel
theorem dX4_layOver_25 : decode cX4_layOver 25 = .ok (.if_icmp .gt 116, 3) := by decide +kernel
theorem dX4_layOver_28 : decode cX4_layOver 28 = .ok (.iload_n 1, 1) := by decide +kernel
theorem dX4_layOver_29 : decode cX4_layOver 29 = .ok (.iload 4, 2) := by decide +kernel
theorem dX4_layOver_31 : decode cX4_layOver 31 = .ok (.isub, 1) := by decide +kernel
theorem dX4_layOver_32 : decode cX4_layOver 32 = .ok (.istore 5, 2) := by decide +kernel
theorem dX4_layOver_34 : decode cX4_layOver 34 = .ok (.iload 5, 2) := by decide +kernel
theorem dX4_layOver_36 : decode cX4_layOver 36 = .ok (.aload_n 3, 1) := by decide +kernel
theorem dX4_layOver_37 : decode cX4_layOver 37 = .ok (.getfield 51, 3) := by decide +kernel
theorem dX4_layOver_40 : decode cX4_layOver 40 = .ok (.iadd, 1) := by decide +kernel
theorem dX4_layOver_41 : decode cX4_layOver 41 = .ok (.istore 6, 2) := by decide +kernel
theorem dX4_layOver_43 : decode cX4_layOver 43 = .ok (.aload_n 0, 1) := by decide +kernel
theorem dX4_layOver_44 : decode cX4_layOver 44 = .ok (.getfield 14, 3) := by decide +kernel
theorem dX4_layOver_47 : decode cX4_layOver 47 = .ok (.aload_n 3, 1) := by decide +kernel
theorem dX4_layOver_48 : decode cX4_layOver 48 = .ok (.iload 5, 2) := by decide +kernel
theorem dX4_layOver_50 : decode cX4_layOver 50 = .ok (.iload_n 1, 1) := by decide +kernel
theorem dX4_layOver_51 : decode cX4_layOver 51 = .ok (.invokevirtual 111, 3) := by decide +kernel
theorem dX4_layOver_54 : decode cX4_layOver 54 = .ok (.ifCond .eq 81, 3) := by decide +kernel
theorem dX4_layOver_57 : decode cX4_layOver 57 = .ok (.aload_n 0, 1) := by decide +kernel
theorem dX4_layOver_58 : decode cX4_layOver 58 = .ok (.getfield 30, 3) := by decide +kernel
theorem dX4_layOver_61 : decode cX4_layOver 61 = .ok (.iload 5, 2) := by decide +kernel
theorem dX4_layOver_63 : decode cX4_layOver 63 = .ok (.iaload, 1) := by decide +kernel
theorem dX4_layOver_64 : decode cX4_layOver 64 = .ok (.iconst (-1), 1) := by decide +kernel
theorem dX4_layOver_65 : decode cX4_layOver 65 = .ok (.if_icmp .eq 70, 3) := by decide +kernel
theorem dX4_layOver_68 : decode cX4_layOver 68 = .ok (.aload_n 0, 1) := by decide +kernel
theorem dX4_layOver_69 : decode cX4_layOver 69 = .ok (.getfield 24, 3) := by decide +kernel
theorem dX4_layOver_72 : decode cX4_layOver 72 = .ok (.iload 6, 2) := by decide +kernel
theorem dX4_layOver_74 : decode cX4_layOver 74 = .ok (.iaload, 1) := by decide +kernel
theorem dX4_layOver_75 : decode cX4_layOver 75 = .ok (.iconst (-1), 1) := by decide +kernel
theorem dX4_layOver_76 : decode cX4_layOver 76 = .ok (.if_icmp .eq 59, 3) := by decide +kernel
theorem dX4_layOver_79 : decode cX4_layOver 79 = .ok (.iload_n 1, 1) := by decide +kernel
theorem dX4_layOver_80 : decode cX4_layOver 80 = .ok (.bipush 6, 2) := by decide +kernel
theorem dX4_layOver_82 : decode cX4_layOver 82 = .ok (.imul, 1) := by decide +kernel
theorem dX4_layOver_83 : decode cX4_layOver 83 = .ok (.aload_n 3, 1) := by decide +kernel
theorem dX4_layOver_84 : decode cX4_layOver 84 = .ok (.getfield 115, 3) := by decide +kernel
theorem dX4_layOver_87 : decode cX4_layOver 87 = .ok (.iload 4, 2) := by decide +kernel
theorem dX4_layOver_89 : decode cX4_layOver 89 = .ok (.iaload, 1) := by decide +kernel
theorem dX4_layOver_90 : decode cX4_layOver 90 = .ok (.iadd, 1) := by decide +kernel
theorem dX4_layOver_91 : decode cX4_layOver 91 = .ok (.istore 7, 2) := by decide +kernel
theorem dX4_layOver_93 : decode cX4_layOver 93 = .ok (.aload_n 0, 1) := by decide +kernel
theorem dX4_layOver_94 : decode cX4_layOver 94 = .ok (.getfield 33, 3) := by decide +kernel
theorem dX4_layOver_97 : decode cX4_layOver 97 = .ok (.iload 7, 2) := by decide +kernel
theorem dX4_layOver_99 : decode cX4_layOver 99 = .ok (.aload_n 0, 1) := by decide +kernel
theorem dX4_layOver_100 : decode cX4_layOver 100 = .ok (.getfield 33, 3) := by decide +kernel
theorem dX4_layOver_103 : decode cX4_layOver 103 = .ok (.iload 7, 2) := by decide +kernel
theorem dX4_layOver_105 : decode cX4_layOver 105 = .ok (.iaload, 1) := by decide +kernel
theorem dX4_layOver_106 : decode cX4_layOver 106 = .ok (.aload_n 0, 1) := by decide +kernel
theorem dX4_layOver_107 : decode cX4_layOver 107 = .ok (.getfield 30, 3) := by decide +kernel
theorem dX4_layOver_110 : decode cX4_layOver 110 = .ok (.iload 5, 2) := by decide +kernel
theorem dX4_layOver_112 : decode cX4_layOver 112 = .ok (.iaload, 1) := by decide +kernel
theorem dX4_layOver_113 : decode cX4_layOver 113 = .ok (.aload_n 0, 1) := by decide +kernel
theorem dX4_layOver_114 : decode cX4_layOver 114 = .ok (.getfield 40, 3) := by decide +kernel
theorem dX4_layOver_117 : decode cX4_layOver 117 = .ok (.getfield 71, 3) := by decide +kernel
theorem dX4_layOver_120 : decode cX4_layOver 120 = .ok (.iload_n 2, 1) := by decide +kernel
theorem dX4_layOver_121 : decode cX4_layOver 121 = .ok (.iaload, 1) := by decide +kernel
theorem dX4_layOver_122 : decode cX4_layOver 122 = .ok (.iadd, 1) := by decide +kernel
theorem dX4_layOver_123 : decode cX4_layOver 123 = .ok (.aload_n 0, 1) := by decide +kernel
theorem dX4_layOver_124 : decode cX4_layOver 124 = .ok (.getfield 24, 3) := by decide +kernel
theorem dX4_layOver_127 : decode cX4_layOver 127 = .ok (.iload 6, 2) := by decide +kernel
theorem dX4_layOver_129 : decode cX4_layOver 129 = .ok (.iaload, 1) := by decide +kernel
theorem dX4_layOver_130 : decode cX4_layOver 130 = .ok (.iadd, 1) := by decide +kernel
theorem dX4_layOver_131 : decode cX4_layOver 131 = .ok (.invokestatic 74, 3) := by decide +kernel
theorem dX4_layOver_134 : decode cX4_layOver 134 = .ok (.iastore, 1) := by decide +kernel
theorem dX4_layOver_135 : decode cX4_layOver 135 = .ok (.iinc 4 1, 3) := by decide +kernel
theorem dX4_layOver_138 : decode cX4_layOver 138 = .ok (.goto (-125), 3) := by decide +kernel
theorem dX4_layOver_141 : decode cX4_layOver 141 = .ok (.return_, 1) := by decide +kernel
theorem r_X4_layOver_135 (E : kr_E) (k_13 : Int32 → kr_M → Option kr_M) (l1 : Int32) (l2 : Int32) (l3 : Nat) (h_l3 : kr_sh l3 = (7, 0)) (l4 : Int32) (hk_13 : ∀ (x4 : Int32) (M : kr_M), kR kr_vv E Y_X4_layOver 3 13 [(0, kr_r E 315), (1, .int l1), (2, .int l2), (3, kr_r E l3), (4, .int x4)] [] M (k_13 x4 M)) (M : kr_M) : kR kr_vv E Y_X4_layOver 3 135 [(0, kr_r E 315), (1, .int l1), (2, .int l2), (3, kr_r E l3), (4, .int l4)] [] M (f_X4_layOver_135 k_13 l4 M) := by
  rw [f_X4_layOver_135]
  refine kr_iinc (j := 4) (v := (l4 + (1 : Int32))) (lv' := [(4, .int (l4 + (1 : Int32))), (0, kr_r E 315), (1, .int l1), (2, .int l2), (3, kr_r E l3)]) dX4_layOver_135 rfl rfl (by decide) rfl ?_
  refine kr_goto (tgt := 13) dX4_layOver_138 (by decide) ?_
  refine kr_sub [1, 2, 3, 4, 0] rfl ?_
  exact hk_13 (l4 + (1 : Int32)) M
theorem r_X4_layOver_13 (E : kr_E)  (l1 : Int32) (l2 : Int32) (l3 : Nat) (h_l3 : kr_sh l3 = (7, 0))  : ∀ (n : Nat) (l4 : Int32) (M : kr_M), kR kr_vv E Y_X4_layOver 3 13 [(0, kr_r E 315), (1, .int l1), (2, .int l2), (3, kr_r E l3), (4, .int l4)] [] M (f_X4_layOver_13 l1 l2 l3 n l4 M) := by
  intro n
  induction n with
  | zero => intro l4 M; exact kr_none
  | succ n ih =>
    intro l4 M
    rw [f_X4_layOver_13]
    refine kr_iload dX4_layOver_13 4 rfl ?_
    refine kr_aload_n dX4_layOver_15 rfl 3 rfl ?_
    refine kr_getI (ci := 7) (j := 1) dX4_layOver_16 h_l3 fl_RX4_51 rfl (fun v1 => ?_)
    refine kr_icmp_ge (tgt := 141) dX4_layOver_19 (by decide) ?_ ?_
    · exact kr_vret dX4_layOver_141 rfl
    · refine kr_iload dX4_layOver_22 4 rfl ?_
      refine kr_iload_n dX4_layOver_24 rfl 1 rfl ?_
      refine kr_icmp_gt (tgt := 141) dX4_layOver_25 (by decide) ?_ ?_
      · exact kr_vret dX4_layOver_141 rfl
      · refine kr_iload_n dX4_layOver_28 rfl 1 rfl ?_
        refine kr_iload dX4_layOver_29 4 rfl ?_
        refine kr_isub dX4_layOver_31 ?_
        refine kr_nmi (fun v2 => ?_)
        refine kr_istore (lv' := [(5, .int v2), (0, kr_r E 315), (1, .int l1), (2, .int l2), (3, kr_r E l3), (4, .int l4)]) dX4_layOver_32 (by decide) rfl ?_
        refine kr_iload dX4_layOver_34 0 rfl ?_
        refine kr_aload_n dX4_layOver_36 rfl 4 rfl ?_
        refine kr_getI (ci := 7) (j := 1) dX4_layOver_37 h_l3 fl_RX4_51 rfl (fun v3 => ?_)
        refine kr_iadd dX4_layOver_40 ?_
        refine kr_nmi (fun v4 => ?_)
        refine kr_istore (lv' := [(6, .int v4), (5, .int v2), (0, kr_r E 315), (1, .int l1), (2, .int l2), (3, kr_r E l3), (4, .int l4)]) dX4_layOver_41 (by decide) rfl ?_
        refine kr_aload_n dX4_layOver_43 rfl 2 rfl ?_
        refine kr_getA (o := 1) (ci := 4) (j := 1) dX4_layOver_44 kr_at_315 fl_RX4_14 rfl ?_
        refine kr_aload_n dX4_layOver_47 rfl 5 rfl ?_
        refine kr_iload dX4_layOver_48 1 rfl ?_
        refine kr_iload_n dX4_layOver_50 rfl 3 rfl ?_
        refine kr_Vi (As := [kr_r E l3, .int v2, .int l1]) (st := []) zv_X7_holdsBut dX4_layOver_51 ml_RX4_111 kr_at_316 (r_X7_holdsBut E 316 kr_at_316 l3 h_l3 v2 l1 M) rfl rfl (Nat.le_of_ble_eq_true rfl) rfl (by decide) (Nat.le_of_ble_eq_true rfl) (fun r6 M5 => ?_)
        refine kr_if_eq (tgt := 135) dX4_layOver_54 (by decide) ?_ ?_
        · refine kr_sub [2, 3, 4, 5, 6] rfl ?_
          exact r_X4_layOver_135 E _ l1 l2 l3 h_l3 l4 ih M5
        · refine kr_aload_n dX4_layOver_57 rfl 2 rfl ?_
          refine kr_getA (o := 6) (ci := 4) (j := 5) dX4_layOver_58 kr_at_315 fl_RX4_30 rfl ?_
          refine kr_iload dX4_layOver_61 1 rfl ?_
          refine kr_iald dX4_layOver_63 kr_at_321 (fun v7 => ?_)
          refine kr_iconst (v := -1) dX4_layOver_64 (by decide) ?_
          refine kr_icmp_eq (tgt := 135) dX4_layOver_65 (by decide) ?_ ?_
          · refine kr_sub [2, 3, 4, 5, 6] rfl ?_
            exact r_X4_layOver_135 E _ l1 l2 l3 h_l3 l4 ih M5
          · refine kr_aload_n dX4_layOver_68 rfl 2 rfl ?_
            refine kr_getA (o := 4) (ci := 4) (j := 3) dX4_layOver_69 kr_at_315 fl_RX4_24 rfl ?_
            refine kr_iload dX4_layOver_72 0 rfl ?_
            refine kr_iald dX4_layOver_74 kr_at_319 (fun v8 => ?_)
            refine kr_iconst (v := -1) dX4_layOver_75 (by decide) ?_
            refine kr_icmp_eq (tgt := 135) dX4_layOver_76 (by decide) ?_ ?_
            · refine kr_sub [2, 3, 4, 5, 6] rfl ?_
              exact r_X4_layOver_135 E _ l1 l2 l3 h_l3 l4 ih M5
            · refine kr_iload_n dX4_layOver_79 rfl 3 rfl ?_
              refine kr_bipush (v := 6) dX4_layOver_80 (by decide) ?_
              refine kr_imul dX4_layOver_82 ?_
              refine kr_aload_n dX4_layOver_83 rfl 5 rfl ?_
              refine kr_getA (o := 1) (ci := 7) (j := 0) dX4_layOver_84 h_l3 fl_RX4_115 rfl ?_
              refine kr_iload dX4_layOver_87 6 rfl ?_
              refine kr_iald dX4_layOver_89 (kr_shT1 _ h_l3) (fun v9 => ?_)
              refine kr_iadd dX4_layOver_90 ?_
              refine kr_nmi (fun v10 => ?_)
              refine kr_istore (lv' := [(7, .int v10), (6, .int v4), (5, .int v2), (0, kr_r E 315), (1, .int l1), (2, .int l2), (3, kr_r E l3), (4, .int l4)]) dX4_layOver_91 (by decide) rfl ?_
              refine kr_aload_n dX4_layOver_93 rfl 3 rfl ?_
              refine kr_getA (o := 7) (ci := 4) (j := 6) dX4_layOver_94 kr_at_315 fl_RX4_33 rfl ?_
              refine kr_iload dX4_layOver_97 0 rfl ?_
              refine kr_aload_n dX4_layOver_99 rfl 3 rfl ?_
              refine kr_getA (o := 7) (ci := 4) (j := 6) dX4_layOver_100 kr_at_315 fl_RX4_33 rfl ?_
              refine kr_iload dX4_layOver_103 0 rfl ?_
              refine kr_iald dX4_layOver_105 kr_at_322 (fun v11 => ?_)
              refine kr_aload_n dX4_layOver_106 rfl 3 rfl ?_
              refine kr_getA (o := 6) (ci := 4) (j := 5) dX4_layOver_107 kr_at_315 fl_RX4_30 rfl ?_
              refine kr_iload dX4_layOver_110 2 rfl ?_
              refine kr_iald dX4_layOver_112 kr_at_321 (fun v12 => ?_)
              refine kr_aload_n dX4_layOver_113 rfl 3 rfl ?_
              refine kr_getG (o := 2) (ci := 4) (j := 0) dX4_layOver_114 kr_at_315 fl_RX4_40 rfl (fun g13 h_g13 => ?_)
              refine kr_getA (o := 4) (ci := 2) (j := 13) dX4_layOver_117 h_g13 fl_RX4_71 rfl ?_
              refine kr_iload_n dX4_layOver_120 rfl 5 rfl ?_
              refine kr_iald dX4_layOver_121 (kr_shG4 _ h_g13) (fun v14 => ?_)
              refine kr_iadd dX4_layOver_122 ?_
              refine kr_aload_n dX4_layOver_123 rfl 3 rfl ?_
              refine kr_getA (o := 4) (ci := 4) (j := 3) dX4_layOver_124 kr_at_315 fl_RX4_24 rfl ?_
              refine kr_iload dX4_layOver_127 1 rfl ?_
              refine kr_iald dX4_layOver_129 kr_at_319 (fun v15 => ?_)
              refine kr_iadd dX4_layOver_130 ?_
              refine kr_Ni (As := [.int v11, .int ((v12 + v14) + v15)]) (st := [.int v10, kr_r E 322]) zs_X11_lesser dX4_layOver_131 rfl (by decide) (r_X11_lesser E v11 ((v12 + v14) + v15) M5) rfl rfl (Nat.le_of_ble_eq_true rfl) rfl (by decide) (Nat.le_of_ble_eq_true rfl) (fun r17 M16 => ?_)
              refine kr_iast dX4_layOver_134 kr_at_322 (fun M18 => ?_)
              refine kr_sub [3, 4, 5, 6, 7] rfl ?_
              exact r_X4_layOver_135 E _ l1 l2 l3 h_l3 l4 ih M18
theorem r_X4_layOver (E : kr_E) (p1 : Int32) (p2 : Int32) (M : kr_M) : kR kr_vv E Y_X4_layOver 3 0 [(0, kr_r E 315), (1, .int p1), (2, .int p2)] [] M (f_X4_layOver p1 p2 M) := by
  rw [f_X4_layOver]
  refine kr_aload_n dX4_layOver_0 rfl 0 rfl ?_
  refine kr_getG (o := 2) (ci := 4) (j := 0) dX4_layOver_1 kr_at_315 fl_RX4_40 rfl (fun g1 h_g1 => ?_)
  refine kr_getA (o := 3) (ci := 2) (j := 12) dX4_layOver_4 h_g1 fl_RX4_63 rfl ?_
  refine kr_iload_n dX4_layOver_7 rfl 2 rfl ?_
  refine kr_aaldT dX4_layOver_8 h_g1 (fun h2 => ?_)
  refine kr_astore_n (lv' := [(3, kr_r E (kr_tx g1 p2)), (0, kr_r E 315), (1, .int p1), (2, .int p2)]) dX4_layOver_9 rfl (by decide) rfl ?_
  refine kr_iconst (v := 0) dX4_layOver_10 (by decide) ?_
  refine kr_istore (lv' := [(4, .int (0 : Int32)), (3, kr_r E (kr_tx g1 p2)), (0, kr_r E 315), (1, .int p1), (2, .int p2)]) dX4_layOver_11 (by decide) rfl ?_
  refine kr_sub [2, 3, 4, 1, 0] rfl ?_
  exact r_X4_layOver_13 E p1 p2 (kr_tx g1 p2) h2 _ (0 : Int32) M
theorem dX4_studyAhead_0 : decode cX4_studyAhead 0 = .ok (.aload_n 0, 1) := by decide +kernel
theorem dX4_studyAhead_1 : decode cX4_studyAhead 1 = .ok (.getfield 30, 3) := by decide +kernel
theorem dX4_studyAhead_4 : decode cX4_studyAhead 4 = .ok (.iconst (-1), 1) := by decide +kernel
theorem dX4_studyAhead_5 : decode cX4_studyAhead 5 = .ok (.invokestatic 101, 3) := by decide +kernel
theorem dX4_studyAhead_8 : decode cX4_studyAhead 8 = .ok (.aload_n 0, 1) := by decide +kernel
theorem dX4_studyAhead_9 : decode cX4_studyAhead 9 = .ok (.getfield 30, 3) := by decide +kernel
theorem dX4_studyAhead_12 : decode cX4_studyAhead 12 = .ok (.iconst 0, 1) := by decide +kernel
theorem dX4_studyAhead_13 : decode cX4_studyAhead 13 = .ok (.iconst 0, 1) := by decide +kernel
theorem dX4_studyAhead_14 : decode cX4_studyAhead 14 = .ok (.iastore, 1) := by decide +kernel
theorem dX4_studyAhead_15 : decode cX4_studyAhead 15 = .ok (.iconst 0, 1) := by decide +kernel
theorem dX4_studyAhead_16 : decode cX4_studyAhead 16 = .ok (.istore_n 1, 1) := by decide +kernel
theorem dX4_studyAhead_17 : decode cX4_studyAhead 17 = .ok (.iload_n 1, 1) := by decide +kernel
theorem dX4_studyAhead_18 : decode cX4_studyAhead 18 = .ok (.aload_n 0, 1) := by decide +kernel
theorem dX4_studyAhead_19 : decode cX4_studyAhead 19 = .ok (.getfield 14, 3) := by decide +kernel
theorem dX4_studyAhead_22 : decode cX4_studyAhead 22 = .ok (.getfield 51, 3) := by decide +kernel
theorem dX4_studyAhead_25 : decode cX4_studyAhead 25 = .ok (.if_icmp .ge 104, 3) := by decide +kernel
theorem dX4_studyAhead_28 : decode cX4_studyAhead 28 = .ok (.iconst 0, 1) := by decide +kernel
theorem dX4_studyAhead_29 : decode cX4_studyAhead 29 = .ok (.istore_n 2, 1) := by decide +kernel
theorem dX4_studyAhead_30 : decode cX4_studyAhead 30 = .ok (.iload_n 2, 1) := by decide +kernel
theorem dX4_studyAhead_31 : decode cX4_studyAhead 31 = .ok (.aload_n 0, 1) := by decide +kernel
theorem dX4_studyAhead_32 : decode cX4_studyAhead 32 = .ok (.getfield 40, 3) := by decide +kernel
theorem dX4_studyAhead_35 : decode cX4_studyAhead 35 = .ok (.getfield 58, 3) := by decide +kernel
theorem dX4_studyAhead_38 : decode cX4_studyAhead 38 = .ok (.if_icmp .ge 85, 3) := by decide +kernel
theorem dX4_studyAhead_41 : decode cX4_studyAhead 41 = .ok (.aload_n 0, 1) := by decide +kernel
theorem dX4_studyAhead_42 : decode cX4_studyAhead 42 = .ok (.getfield 30, 3) := by decide +kernel
theorem dX4_studyAhead_45 : decode cX4_studyAhead 45 = .ok (.iload_n 1, 1) := by decide +kernel
theorem dX4_studyAhead_46 : decode cX4_studyAhead 46 = .ok (.iaload, 1) := by decide +kernel
theorem dX4_studyAhead_47 : decode cX4_studyAhead 47 = .ok (.iconst (-1), 1) := by decide +kernel
theorem dX4_studyAhead_48 : decode cX4_studyAhead 48 = .ok (.if_icmp .eq 75, 3) := by decide +kernel
theorem dX4_studyAhead_51 : decode cX4_studyAhead 51 = .ok (.aload_n 0, 1) := by decide +kernel
theorem dX4_studyAhead_52 : decode cX4_studyAhead 52 = .ok (.getfield 14, 3) := by decide +kernel
theorem dX4_studyAhead_55 : decode cX4_studyAhead 55 = .ok (.aload_n 0, 1) := by decide +kernel
theorem dX4_studyAhead_56 : decode cX4_studyAhead 56 = .ok (.getfield 40, 3) := by decide +kernel
theorem dX4_studyAhead_59 : decode cX4_studyAhead 59 = .ok (.getfield 63, 3) := by decide +kernel
theorem dX4_studyAhead_62 : decode cX4_studyAhead 62 = .ok (.iload_n 2, 1) := by decide +kernel
theorem dX4_studyAhead_63 : decode cX4_studyAhead 63 = .ok (.aaload, 1) := by decide +kernel
theorem dX4_studyAhead_64 : decode cX4_studyAhead 64 = .ok (.iload_n 1, 1) := by decide +kernel
theorem dX4_studyAhead_65 : decode cX4_studyAhead 65 = .ok (.invokevirtual 83, 3) := by decide +kernel
theorem dX4_studyAhead_68 : decode cX4_studyAhead 68 = .ok (.ifCond .eq 49, 3) := by decide +kernel
theorem dX4_studyAhead_71 : decode cX4_studyAhead 71 = .ok (.iload_n 1, 1) := by decide +kernel
theorem dX4_studyAhead_72 : decode cX4_studyAhead 72 = .ok (.aload_n 0, 1) := by decide +kernel
theorem dX4_studyAhead_73 : decode cX4_studyAhead 73 = .ok (.getfield 40, 3) := by decide +kernel
theorem dX4_studyAhead_76 : decode cX4_studyAhead 76 = .ok (.getfield 63, 3) := by decide +kernel
theorem dX4_studyAhead_79 : decode cX4_studyAhead 79 = .ok (.iload_n 2, 1) := by decide +kernel
theorem dX4_studyAhead_80 : decode cX4_studyAhead 80 = .ok (.aaload, 1) := by decide +kernel
theorem dX4_studyAhead_81 : decode cX4_studyAhead 81 = .ok (.getfield 51, 3) := by decide +kernel
theorem dX4_studyAhead_84 : decode cX4_studyAhead 84 = .ok (.iadd, 1) := by decide +kernel
theorem dX4_studyAhead_85 : decode cX4_studyAhead 85 = .ok (.istore_n 3, 1) := by decide +kernel
theorem dX4_studyAhead_86 : decode cX4_studyAhead 86 = .ok (.aload_n 0, 1) := by decide +kernel
theorem dX4_studyAhead_87 : decode cX4_studyAhead 87 = .ok (.getfield 30, 3) := by decide +kernel
theorem dX4_studyAhead_90 : decode cX4_studyAhead 90 = .ok (.iload_n 3, 1) := by decide +kernel
theorem dX4_studyAhead_91 : decode cX4_studyAhead 91 = .ok (.aload_n 0, 1) := by decide +kernel
theorem dX4_studyAhead_92 : decode cX4_studyAhead 92 = .ok (.getfield 30, 3) := by decide +kernel
theorem dX4_studyAhead_95 : decode cX4_studyAhead 95 = .ok (.iload_n 3, 1) := by decide +kernel
theorem dX4_studyAhead_96 : decode cX4_studyAhead 96 = .ok (.iaload, 1) := by decide +kernel
theorem dX4_studyAhead_97 : decode cX4_studyAhead 97 = .ok (.aload_n 0, 1) := by decide +kernel
theorem dX4_studyAhead_98 : decode cX4_studyAhead 98 = .ok (.getfield 30, 3) := by decide +kernel
theorem dX4_studyAhead_101 : decode cX4_studyAhead 101 = .ok (.iload_n 1, 1) := by decide +kernel
theorem dX4_studyAhead_102 : decode cX4_studyAhead 102 = .ok (.iaload, 1) := by decide +kernel
theorem dX4_studyAhead_103 : decode cX4_studyAhead 103 = .ok (.aload_n 0, 1) := by decide +kernel
theorem dX4_studyAhead_104 : decode cX4_studyAhead 104 = .ok (.getfield 40, 3) := by decide +kernel
theorem dX4_studyAhead_107 : decode cX4_studyAhead 107 = .ok (.getfield 71, 3) := by decide +kernel
theorem dX4_studyAhead_110 : decode cX4_studyAhead 110 = .ok (.iload_n 2, 1) := by decide +kernel
theorem dX4_studyAhead_111 : decode cX4_studyAhead 111 = .ok (.iaload, 1) := by decide +kernel
theorem dX4_studyAhead_112 : decode cX4_studyAhead 112 = .ok (.iadd, 1) := by decide +kernel
theorem dX4_studyAhead_113 : decode cX4_studyAhead 113 = .ok (.invokestatic 74, 3) := by decide +kernel
theorem dX4_studyAhead_116 : decode cX4_studyAhead 116 = .ok (.iastore, 1) := by decide +kernel
theorem dX4_studyAhead_117 : decode cX4_studyAhead 117 = .ok (.iinc 2 1, 3) := by decide +kernel
theorem dX4_studyAhead_120 : decode cX4_studyAhead 120 = .ok (.goto (-90), 3) := by decide +kernel
theorem dX4_studyAhead_123 : decode cX4_studyAhead 123 = .ok (.iinc 1 1, 3) := by decide +kernel
theorem dX4_studyAhead_126 : decode cX4_studyAhead 126 = .ok (.goto (-109), 3) := by decide +kernel
theorem dX4_studyAhead_129 : decode cX4_studyAhead 129 = .ok (.return_, 1) := by decide +kernel
theorem r_X4_studyAhead_123 (E : kr_E) (k_17 : Int32 → kr_M → Option kr_M) (l1 : Int32) (hk_17 : ∀ (x1 : Int32) (M : kr_M), kR kr_vv E Y_X4_studyAhead 3 17 [(0, kr_r E 315), (1, .int x1)] [] M (k_17 x1 M)) (M : kr_M) : kR kr_vv E Y_X4_studyAhead 3 123 [(0, kr_r E 315), (1, .int l1)] [] M (f_X4_studyAhead_123 k_17 l1 M) := by
  rw [f_X4_studyAhead_123]
  refine kr_iinc (j := 1) (v := (l1 + (1 : Int32))) (lv' := [(1, .int (l1 + (1 : Int32))), (0, kr_r E 315)]) dX4_studyAhead_123 rfl rfl (by decide) rfl ?_
  refine kr_goto (tgt := 17) dX4_studyAhead_126 (by decide) ?_
  refine kr_sub [1, 0] rfl ?_
  exact hk_17 (l1 + (1 : Int32)) M
theorem r_X4_studyAhead_117 (E : kr_E) (k_30 : Int32 → kr_M → Option kr_M) (l1 : Int32) (l2 : Int32) (hk_30 : ∀ (x2 : Int32) (M : kr_M), kR kr_vv E Y_X4_studyAhead 3 30 [(0, kr_r E 315), (1, .int l1), (2, .int x2)] [] M (k_30 x2 M)) (M : kr_M) : kR kr_vv E Y_X4_studyAhead 3 117 [(0, kr_r E 315), (1, .int l1), (2, .int l2)] [] M (f_X4_studyAhead_117 k_30 l2 M) := by
  rw [f_X4_studyAhead_117]
  refine kr_iinc (j := 2) (v := (l2 + (1 : Int32))) (lv' := [(2, .int (l2 + (1 : Int32))), (0, kr_r E 315), (1, .int l1)]) dX4_studyAhead_117 rfl rfl (by decide) rfl ?_
  refine kr_goto (tgt := 30) dX4_studyAhead_120 (by decide) ?_
  refine kr_sub [1, 2, 0] rfl ?_
  exact hk_30 (l2 + (1 : Int32)) M
theorem r_X4_studyAhead_30 (E : kr_E) (k_17 : Int32 → kr_M → Option kr_M) (l1 : Int32) (hk_17 : ∀ (x1 : Int32) (M : kr_M), kR kr_vv E Y_X4_studyAhead 3 17 [(0, kr_r E 315), (1, .int x1)] [] M (k_17 x1 M)) : ∀ (n : Nat) (l2 : Int32) (M : kr_M), kR kr_vv E Y_X4_studyAhead 3 30 [(0, kr_r E 315), (1, .int l1), (2, .int l2)] [] M (f_X4_studyAhead_30 k_17 l1 n l2 M) := by
  intro n
  induction n with
  | zero => intro l2 M; exact kr_none
  | succ n ih =>
    intro l2 M
    rw [f_X4_studyAhead_30]
    refine kr_iload_n dX4_studyAhead_30 rfl 2 rfl ?_
    refine kr_aload_n dX4_studyAhead_31 rfl 0 rfl ?_
    refine kr_getG (o := 2) (ci := 4) (j := 0) dX4_studyAhead_32 kr_at_315 fl_RX4_40 rfl (fun g1 h_g1 => ?_)
    refine kr_getI (ci := 2) (j := 5) dX4_studyAhead_35 h_g1 fl_RX4_58 rfl (fun v2 => ?_)
    refine kr_icmp_ge (tgt := 123) dX4_studyAhead_38 (by decide) ?_ ?_
    · refine kr_sub [0, 1] rfl ?_
      exact r_X4_studyAhead_123 E _ l1 hk_17 M
    · refine kr_aload_n dX4_studyAhead_41 rfl 0 rfl ?_
      refine kr_getA (o := 6) (ci := 4) (j := 5) dX4_studyAhead_42 kr_at_315 fl_RX4_30 rfl ?_
      refine kr_iload_n dX4_studyAhead_45 rfl 1 rfl ?_
      refine kr_iald dX4_studyAhead_46 kr_at_321 (fun v3 => ?_)
      refine kr_iconst (v := -1) dX4_studyAhead_47 (by decide) ?_
      refine kr_icmp_eq (tgt := 123) dX4_studyAhead_48 (by decide) ?_ ?_
      · refine kr_sub [0, 1] rfl ?_
        exact r_X4_studyAhead_123 E _ l1 hk_17 M
      · refine kr_aload_n dX4_studyAhead_51 rfl 0 rfl ?_
        refine kr_getA (o := 1) (ci := 4) (j := 1) dX4_studyAhead_52 kr_at_315 fl_RX4_14 rfl ?_
        refine kr_aload_n dX4_studyAhead_55 rfl 0 rfl ?_
        refine kr_getG (o := 2) (ci := 4) (j := 0) dX4_studyAhead_56 kr_at_315 fl_RX4_40 rfl (fun g4 h_g4 => ?_)
        refine kr_getA (o := 3) (ci := 2) (j := 12) dX4_studyAhead_59 h_g4 fl_RX4_63 rfl ?_
        refine kr_iload_n dX4_studyAhead_62 rfl 2 rfl ?_
        refine kr_aaldT dX4_studyAhead_63 h_g4 (fun h5 => ?_)
        refine kr_iload_n dX4_studyAhead_64 rfl 1 rfl ?_
        refine kr_Vi (As := [kr_r E (kr_tx g4 l2), .int l1]) (st := []) zv_X7_holds dX4_studyAhead_65 ml_RX4_83 kr_at_316 (r_X7_holds E 316 kr_at_316 (kr_tx g4 l2) h5 l1 M) rfl rfl (Nat.le_of_ble_eq_true rfl) rfl (by decide) (Nat.le_of_ble_eq_true rfl) (fun r7 M6 => ?_)
        refine kr_if_eq (tgt := 117) dX4_studyAhead_68 (by decide) ?_ ?_
        · refine kr_sub [0, 1, 2] rfl ?_
          exact r_X4_studyAhead_117 E _ l1 l2 ih M6
        · refine kr_iload_n dX4_studyAhead_71 rfl 1 rfl ?_
          refine kr_aload_n dX4_studyAhead_72 rfl 0 rfl ?_
          refine kr_getG (o := 2) (ci := 4) (j := 0) dX4_studyAhead_73 kr_at_315 fl_RX4_40 rfl (fun g8 h_g8 => ?_)
          refine kr_getA (o := 3) (ci := 2) (j := 12) dX4_studyAhead_76 h_g8 fl_RX4_63 rfl ?_
          refine kr_iload_n dX4_studyAhead_79 rfl 2 rfl ?_
          refine kr_aaldT dX4_studyAhead_80 h_g8 (fun h9 => ?_)
          refine kr_getI (ci := 7) (j := 1) dX4_studyAhead_81 h9 fl_RX4_51 rfl (fun v10 => ?_)
          refine kr_iadd dX4_studyAhead_84 ?_
          refine kr_nmi (fun v11 => ?_)
          refine kr_istore_n (lv' := [(3, .int v11), (0, kr_r E 315), (1, .int l1), (2, .int l2)]) dX4_studyAhead_85 rfl (by decide) rfl ?_
          refine kr_aload_n dX4_studyAhead_86 rfl 1 rfl ?_
          refine kr_getA (o := 6) (ci := 4) (j := 5) dX4_studyAhead_87 kr_at_315 fl_RX4_30 rfl ?_
          refine kr_iload_n dX4_studyAhead_90 rfl 0 rfl ?_
          refine kr_aload_n dX4_studyAhead_91 rfl 1 rfl ?_
          refine kr_getA (o := 6) (ci := 4) (j := 5) dX4_studyAhead_92 kr_at_315 fl_RX4_30 rfl ?_
          refine kr_iload_n dX4_studyAhead_95 rfl 0 rfl ?_
          refine kr_iald dX4_studyAhead_96 kr_at_321 (fun v12 => ?_)
          refine kr_aload_n dX4_studyAhead_97 rfl 1 rfl ?_
          refine kr_getA (o := 6) (ci := 4) (j := 5) dX4_studyAhead_98 kr_at_315 fl_RX4_30 rfl ?_
          refine kr_iload_n dX4_studyAhead_101 rfl 2 rfl ?_
          refine kr_iald dX4_studyAhead_102 kr_at_321 (fun v13 => ?_)
          refine kr_aload_n dX4_studyAhead_103 rfl 1 rfl ?_
          refine kr_getG (o := 2) (ci := 4) (j := 0) dX4_studyAhead_104 kr_at_315 fl_RX4_40 rfl (fun g14 h_g14 => ?_)
          refine kr_getA (o := 4) (ci := 2) (j := 13) dX4_studyAhead_107 h_g14 fl_RX4_71 rfl ?_
          refine kr_iload_n dX4_studyAhead_110 rfl 3 rfl ?_
          refine kr_iald dX4_studyAhead_111 (kr_shG4 _ h_g14) (fun v15 => ?_)
          refine kr_iadd dX4_studyAhead_112 ?_
          refine kr_Ni (As := [.int v12, .int (v13 + v15)]) (st := [.int v11, kr_r E 321]) zs_X11_lesser dX4_studyAhead_113 rfl (by decide) (r_X11_lesser E v12 (v13 + v15) M6) rfl rfl (Nat.le_of_ble_eq_true rfl) rfl (by decide) (Nat.le_of_ble_eq_true rfl) (fun r17 M16 => ?_)
          refine kr_iast dX4_studyAhead_116 kr_at_321 (fun M18 => ?_)
          refine kr_sub [1, 2, 3] rfl ?_
          exact r_X4_studyAhead_117 E _ l1 l2 ih M18
theorem r_X4_studyAhead_17 (E : kr_E)    : ∀ (n : Nat) (l1 : Int32) (M : kr_M), kR kr_vv E Y_X4_studyAhead 3 17 [(0, kr_r E 315), (1, .int l1)] [] M (f_X4_studyAhead_17 n l1 M) := by
  intro n
  induction n with
  | zero => intro l1 M; exact kr_none
  | succ n ih =>
    intro l1 M
    rw [f_X4_studyAhead_17]
    refine kr_iload_n dX4_studyAhead_17 rfl 1 rfl ?_
    refine kr_aload_n dX4_studyAhead_18 rfl 0 rfl ?_
    refine kr_getA (o := 1) (ci := 4) (j := 1) dX4_studyAhead_19 kr_at_315 fl_RX4_14 rfl ?_
    refine kr_getI (ci := 7) (j := 1) dX4_studyAhead_22 kr_at_316 fl_RX4_51 rfl (fun v1 => ?_)
    refine kr_icmp_ge (tgt := 129) dX4_studyAhead_25 (by decide) ?_ ?_
    · exact kr_vret dX4_studyAhead_129 rfl
    · refine kr_iconst (v := 0) dX4_studyAhead_28 (by decide) ?_
      refine kr_istore_n (lv' := [(2, .int (0 : Int32)), (0, kr_r E 315), (1, .int l1)]) dX4_studyAhead_29 rfl (by decide) rfl ?_
      refine kr_sub [1, 2, 0] rfl ?_
      exact r_X4_studyAhead_30 E _ l1 ih _ (0 : Int32) M
theorem r_X4_studyAhead (E : kr_E)  (M : kr_M) : kR kr_vv E Y_X4_studyAhead 3 0 [(0, kr_r E 315)] [] M (f_X4_studyAhead M) := by
  rw [f_X4_studyAhead]
  refine kr_aload_n dX4_studyAhead_0 rfl 0 rfl ?_
  refine kr_getA (o := 6) (ci := 4) (j := 5) dX4_studyAhead_1 kr_at_315 fl_RX4_30 rfl ?_
  refine kr_iconst (v := -1) dX4_studyAhead_4 (by decide) ?_
  refine kr_Sv (As := [kr_r E 321, .int (-1 : Int32)]) (st := []) zs_J7_fill_53178 dX4_studyAhead_5 ml_RX4_101 (r_J7_fill_53178 E 321 (kr_at_321) (-1 : Int32) M) rfl rfl (Nat.le_of_ble_eq_true rfl) rfl (by decide) (Nat.le_of_ble_eq_true rfl) (fun M1 => ?_)
  refine kr_aload_n dX4_studyAhead_8 rfl 0 rfl ?_
  refine kr_getA (o := 6) (ci := 4) (j := 5) dX4_studyAhead_9 kr_at_315 fl_RX4_30 rfl ?_
  refine kr_iconst (v := 0) dX4_studyAhead_12 (by decide) ?_
  refine kr_iconst (v := 0) dX4_studyAhead_13 (by decide) ?_
  refine kr_iast dX4_studyAhead_14 kr_at_321 (fun M3 => ?_)
  refine kr_iconst (v := 0) dX4_studyAhead_15 (by decide) ?_
  refine kr_istore_n (lv' := [(1, .int (0 : Int32)), (0, kr_r E 315)]) dX4_studyAhead_16 rfl (by decide) rfl ?_
  refine kr_sub [1, 0] rfl ?_
  exact r_X4_studyAhead_17 E _ (0 : Int32) M3
theorem dX4_studySlips_0 : decode cX4_studySlips 0 = .ok (.aload_n 0, 1) := by decide +kernel
theorem dX4_studySlips_1 : decode cX4_studySlips 1 = .ok (.invokevirtual 95, 3) := by decide +kernel
theorem dX4_studySlips_4 : decode cX4_studySlips 4 = .ok (.aload_n 0, 1) := by decide +kernel
theorem dX4_studySlips_5 : decode cX4_studySlips 5 = .ok (.invokevirtual 98, 3) := by decide +kernel
theorem dX4_studySlips_8 : decode cX4_studySlips 8 = .ok (.aload_n 0, 1) := by decide +kernel
theorem dX4_studySlips_9 : decode cX4_studySlips 9 = .ok (.getfield 33, 3) := by decide +kernel
theorem dX4_studySlips_12 : decode cX4_studySlips 12 = .ok (.iconst (-1), 1) := by decide +kernel
theorem dX4_studySlips_13 : decode cX4_studySlips 13 = .ok (.invokestatic 101, 3) := by decide +kernel
theorem dX4_studySlips_16 : decode cX4_studySlips 16 = .ok (.iconst 0, 1) := by decide +kernel
theorem dX4_studySlips_17 : decode cX4_studySlips 17 = .ok (.istore_n 1, 1) := by decide +kernel
theorem dX4_studySlips_18 : decode cX4_studySlips 18 = .ok (.iload_n 1, 1) := by decide +kernel
theorem dX4_studySlips_19 : decode cX4_studySlips 19 = .ok (.aload_n 0, 1) := by decide +kernel
theorem dX4_studySlips_20 : decode cX4_studySlips 20 = .ok (.getfield 14, 3) := by decide +kernel
theorem dX4_studySlips_23 : decode cX4_studySlips 23 = .ok (.getfield 51, 3) := by decide +kernel
theorem dX4_studySlips_26 : decode cX4_studySlips 26 = .ok (.if_icmp .ge 34, 3) := by decide +kernel
theorem dX4_studySlips_29 : decode cX4_studySlips 29 = .ok (.iconst 0, 1) := by decide +kernel
theorem dX4_studySlips_30 : decode cX4_studySlips 30 = .ok (.istore_n 2, 1) := by decide +kernel
theorem dX4_studySlips_31 : decode cX4_studySlips 31 = .ok (.iload_n 2, 1) := by decide +kernel
theorem dX4_studySlips_32 : decode cX4_studySlips 32 = .ok (.aload_n 0, 1) := by decide +kernel
theorem dX4_studySlips_33 : decode cX4_studySlips 33 = .ok (.getfield 40, 3) := by decide +kernel
theorem dX4_studySlips_36 : decode cX4_studySlips 36 = .ok (.getfield 58, 3) := by decide +kernel
theorem dX4_studySlips_39 : decode cX4_studySlips 39 = .ok (.if_icmp .ge 15, 3) := by decide +kernel
theorem dX4_studySlips_42 : decode cX4_studySlips 42 = .ok (.aload_n 0, 1) := by decide +kernel
theorem dX4_studySlips_43 : decode cX4_studySlips 43 = .ok (.iload_n 1, 1) := by decide +kernel
theorem dX4_studySlips_44 : decode cX4_studySlips 44 = .ok (.iload_n 2, 1) := by decide +kernel
theorem dX4_studySlips_45 : decode cX4_studySlips 45 = .ok (.invokevirtual 107, 3) := by decide +kernel
theorem dX4_studySlips_48 : decode cX4_studySlips 48 = .ok (.iinc 2 1, 3) := by decide +kernel
theorem dX4_studySlips_51 : decode cX4_studySlips 51 = .ok (.goto (-20), 3) := by decide +kernel
theorem dX4_studySlips_54 : decode cX4_studySlips 54 = .ok (.iinc 1 1, 3) := by decide +kernel
theorem dX4_studySlips_57 : decode cX4_studySlips 57 = .ok (.goto (-39), 3) := by decide +kernel
theorem dX4_studySlips_60 : decode cX4_studySlips 60 = .ok (.return_, 1) := by decide +kernel
theorem r_X4_studySlips_54 (E : kr_E) (k_18 : Int32 → kr_M → Option kr_M) (l1 : Int32) (hk_18 : ∀ (x1 : Int32) (M : kr_M), kR kr_vv E Y_X4_studySlips 6 18 [(0, kr_r E 315), (1, .int x1)] [] M (k_18 x1 M)) (M : kr_M) : kR kr_vv E Y_X4_studySlips 6 54 [(0, kr_r E 315), (1, .int l1)] [] M (f_X4_studySlips_54 k_18 l1 M) := by
  rw [f_X4_studySlips_54]
  refine kr_iinc (j := 1) (v := (l1 + (1 : Int32))) (lv' := [(1, .int (l1 + (1 : Int32))), (0, kr_r E 315)]) dX4_studySlips_54 rfl rfl (by decide) rfl ?_
  refine kr_goto (tgt := 18) dX4_studySlips_57 (by decide) ?_
  refine kr_sub [1, 0] rfl ?_
  exact hk_18 (l1 + (1 : Int32)) M
theorem r_X4_studySlips_31 (E : kr_E) (k_18 : Int32 → kr_M → Option kr_M) (l1 : Int32) (hk_18 : ∀ (x1 : Int32) (M : kr_M), kR kr_vv E Y_X4_studySlips 6 18 [(0, kr_r E 315), (1, .int x1)] [] M (k_18 x1 M)) : ∀ (n : Nat) (l2 : Int32) (M : kr_M), kR kr_vv E Y_X4_studySlips 6 31 [(0, kr_r E 315), (1, .int l1), (2, .int l2)] [] M (f_X4_studySlips_31 k_18 l1 n l2 M) := by
  intro n
  induction n with
  | zero => intro l2 M; exact kr_none
  | succ n ih =>
    intro l2 M
    rw [f_X4_studySlips_31]
    refine kr_iload_n dX4_studySlips_31 rfl 2 rfl ?_
    refine kr_aload_n dX4_studySlips_32 rfl 0 rfl ?_
    refine kr_getG (o := 2) (ci := 4) (j := 0) dX4_studySlips_33 kr_at_315 fl_RX4_40 rfl (fun g1 h_g1 => ?_)
    refine kr_getI (ci := 2) (j := 5) dX4_studySlips_36 h_g1 fl_RX4_58 rfl (fun v2 => ?_)
    refine kr_icmp_ge (tgt := 54) dX4_studySlips_39 (by decide) ?_ ?_
    · refine kr_sub [0, 1] rfl ?_
      exact r_X4_studySlips_54 E _ l1 hk_18 M
    · refine kr_aload_n dX4_studySlips_42 rfl 0 rfl ?_
      refine kr_iload_n dX4_studySlips_43 rfl 1 rfl ?_
      refine kr_iload_n dX4_studySlips_44 rfl 2 rfl ?_
      refine kr_Vv (As := [.int l1, .int l2]) (st := []) zv_X4_layOver dX4_studySlips_45 ml_RX4_107 kr_at_315 (r_X4_layOver E l1 l2 M) rfl rfl (Nat.le_of_ble_eq_true rfl) rfl (by decide) (Nat.le_of_ble_eq_true rfl) (fun M3 => ?_)
      refine kr_iinc (j := 2) (v := (l2 + (1 : Int32))) (lv' := [(2, .int (l2 + (1 : Int32))), (0, kr_r E 315), (1, .int l1)]) dX4_studySlips_48 rfl rfl (by decide) rfl ?_
      refine kr_goto (tgt := 31) dX4_studySlips_51 (by decide) ?_
      refine kr_sub [1, 2, 0] rfl ?_
      exact ih (l2 + (1 : Int32)) M3
theorem r_X4_studySlips_18 (E : kr_E)    : ∀ (n : Nat) (l1 : Int32) (M : kr_M), kR kr_vv E Y_X4_studySlips 6 18 [(0, kr_r E 315), (1, .int l1)] [] M (f_X4_studySlips_18 n l1 M) := by
  intro n
  induction n with
  | zero => intro l1 M; exact kr_none
  | succ n ih =>
    intro l1 M
    rw [f_X4_studySlips_18]
    refine kr_iload_n dX4_studySlips_18 rfl 1 rfl ?_
    refine kr_aload_n dX4_studySlips_19 rfl 0 rfl ?_
    refine kr_getA (o := 1) (ci := 4) (j := 1) dX4_studySlips_20 kr_at_315 fl_RX4_14 rfl ?_
    refine kr_getI (ci := 7) (j := 1) dX4_studySlips_23 kr_at_316 fl_RX4_51 rfl (fun v1 => ?_)
    refine kr_icmp_ge (tgt := 60) dX4_studySlips_26 (by decide) ?_ ?_
    · exact kr_vret dX4_studySlips_60 rfl
    · refine kr_iconst (v := 0) dX4_studySlips_29 (by decide) ?_
      refine kr_istore_n (lv' := [(2, .int (0 : Int32)), (0, kr_r E 315), (1, .int l1)]) dX4_studySlips_30 rfl (by decide) rfl ?_
      refine kr_sub [1, 2, 0] rfl ?_
      exact r_X4_studySlips_31 E _ l1 ih _ (0 : Int32) M
theorem r_X4_studySlips (E : kr_E)  (M : kr_M) : kR kr_vv E Y_X4_studySlips 6 0 [(0, kr_r E 315)] [] M (f_X4_studySlips M) := by
  rw [f_X4_studySlips]
  refine kr_aload_n dX4_studySlips_0 rfl 0 rfl ?_
  refine kr_Vv (As := []) (st := []) zv_X4_study dX4_studySlips_1 ml_RX4_95 kr_at_315 (r_X4_study E  M) rfl rfl (Nat.le_of_ble_eq_true rfl) rfl (by decide) (Nat.le_of_ble_eq_true rfl) (fun M1 => ?_)
  refine kr_aload_n dX4_studySlips_4 rfl 0 rfl ?_
  refine kr_Vv (As := []) (st := []) zv_X4_studyAhead dX4_studySlips_5 ml_RX4_98 kr_at_315 (r_X4_studyAhead E  M1) rfl rfl (Nat.le_of_ble_eq_true rfl) rfl (by decide) (Nat.le_of_ble_eq_true rfl) (fun M3 => ?_)
  refine kr_aload_n dX4_studySlips_8 rfl 0 rfl ?_
  refine kr_getA (o := 7) (ci := 4) (j := 6) dX4_studySlips_9 kr_at_315 fl_RX4_33 rfl ?_
  refine kr_iconst (v := -1) dX4_studySlips_12 (by decide) ?_
  refine kr_Sv (As := [kr_r E 322, .int (-1 : Int32)]) (st := []) zs_J7_fill_53178 dX4_studySlips_13 ml_RX4_101 (r_J7_fill_53178 E 322 (kr_at_322) (-1 : Int32) M3) rfl rfl (Nat.le_of_ble_eq_true rfl) rfl (by decide) (Nat.le_of_ble_eq_true rfl) (fun M5 => ?_)
  refine kr_iconst (v := 0) dX4_studySlips_16 (by decide) ?_
  refine kr_istore_n (lv' := [(1, .int (0 : Int32)), (0, kr_r E 315)]) dX4_studySlips_17 rfl (by decide) rfl ?_
  refine kr_sub [1, 0] rfl ?_
  exact r_X4_studySlips_18 E _ (0 : Int32) M5
theorem dX4_canSlip_0 : decode cX4_canSlip 0 = .ok (.iload_n 2, 1) := by decide +kernel
theorem dX4_canSlip_1 : decode cX4_canSlip 1 = .ok (.aload_n 0, 1) := by decide +kernel
theorem dX4_canSlip_2 : decode cX4_canSlip 2 = .ok (.getfield 14, 3) := by decide +kernel
theorem dX4_canSlip_5 : decode cX4_canSlip 5 = .ok (.getfield 115, 3) := by decide +kernel
theorem dX4_canSlip_8 : decode cX4_canSlip 8 = .ok (.iload_n 1, 1) := by decide +kernel
theorem dX4_canSlip_9 : decode cX4_canSlip 9 = .ok (.iaload, 1) := by decide +kernel
theorem dX4_canSlip_10 : decode cX4_canSlip 10 = .ok (.if_icmp .eq 22, 3) := by decide +kernel
theorem dX4_canSlip_13 : decode cX4_canSlip 13 = .ok (.aload_n 0, 1) := by decide +kernel
theorem dX4_canSlip_14 : decode cX4_canSlip 14 = .ok (.getfield 33, 3) := by decide +kernel
theorem dX4_canSlip_17 : decode cX4_canSlip 17 = .ok (.iload_n 1, 1) := by decide +kernel
theorem dX4_canSlip_18 : decode cX4_canSlip 18 = .ok (.bipush 6, 2) := by decide +kernel
theorem dX4_canSlip_20 : decode cX4_canSlip 20 = .ok (.imul, 1) := by decide +kernel
theorem dX4_canSlip_21 : decode cX4_canSlip 21 = .ok (.iload_n 2, 1) := by decide +kernel
theorem dX4_canSlip_22 : decode cX4_canSlip 22 = .ok (.iadd, 1) := by decide +kernel
theorem dX4_canSlip_23 : decode cX4_canSlip 23 = .ok (.iaload, 1) := by decide +kernel
theorem dX4_canSlip_24 : decode cX4_canSlip 24 = .ok (.iconst (-1), 1) := by decide +kernel
theorem dX4_canSlip_25 : decode cX4_canSlip 25 = .ok (.if_icmp .eq 7, 3) := by decide +kernel
theorem dX4_canSlip_28 : decode cX4_canSlip 28 = .ok (.iconst 1, 1) := by decide +kernel
theorem dX4_canSlip_29 : decode cX4_canSlip 29 = .ok (.goto 4, 3) := by decide +kernel
theorem dX4_canSlip_32 : decode cX4_canSlip 32 = .ok (.iconst 0, 1) := by decide +kernel
theorem dX4_canSlip_33 : decode cX4_canSlip 33 = .ok (.ireturn, 1) := by decide +kernel
theorem r_X4_canSlip (E : kr_E) (p1 : Int32) (p2 : Int32) (M : kr_M) : kR kr_vi E Y_X4_canSlip 1 0 [(0, kr_r E 315), (1, .int p1), (2, .int p2)] [] M (f_X4_canSlip p1 p2 M) := by
  rw [f_X4_canSlip]
  refine kr_iload_n dX4_canSlip_0 rfl 2 rfl ?_
  refine kr_aload_n dX4_canSlip_1 rfl 0 rfl ?_
  refine kr_getA (o := 1) (ci := 4) (j := 1) dX4_canSlip_2 kr_at_315 fl_RX4_14 rfl ?_
  refine kr_getA (o := 1) (ci := 7) (j := 0) dX4_canSlip_5 kr_at_316 fl_RX4_115 rfl ?_
  refine kr_iload_n dX4_canSlip_8 rfl 1 rfl ?_
  refine kr_iald dX4_canSlip_9 kr_at_317 (fun v1 => ?_)
  refine kr_icmp_eq (tgt := 32) dX4_canSlip_10 (by decide) ?_ ?_
  · refine kr_iconst (v := 0) dX4_canSlip_32 (by decide) ?_
    exact kr_zret1 dX4_canSlip_33 rfl rfl
  · refine kr_aload_n dX4_canSlip_13 rfl 0 rfl ?_
    refine kr_getA (o := 7) (ci := 4) (j := 6) dX4_canSlip_14 kr_at_315 fl_RX4_33 rfl ?_
    refine kr_iload_n dX4_canSlip_17 rfl 1 rfl ?_
    refine kr_bipush (v := 6) dX4_canSlip_18 (by decide) ?_
    refine kr_imul dX4_canSlip_20 ?_
    refine kr_iload_n dX4_canSlip_21 rfl 2 rfl ?_
    refine kr_iadd dX4_canSlip_22 ?_
    refine kr_iald dX4_canSlip_23 kr_at_322 (fun v2 => ?_)
    refine kr_iconst (v := -1) dX4_canSlip_24 (by decide) ?_
    refine kr_icmp_eq (tgt := 32) dX4_canSlip_25 (by decide) ?_ ?_
    · refine kr_iconst (v := 0) dX4_canSlip_32 (by decide) ?_
      exact kr_zret1 dX4_canSlip_33 rfl rfl
    · refine kr_iconst (v := 1) dX4_canSlip_28 (by decide) ?_
      refine kr_goto (tgt := 33) dX4_canSlip_29 (by decide) ?_
      exact kr_zret1 dX4_canSlip_33 rfl rfl
theorem dX4_slipsAt_0 : decode cX4_slipsAt 0 = .ok (.iconst 0, 1) := by decide +kernel
theorem dX4_slipsAt_1 : decode cX4_slipsAt 1 = .ok (.istore_n 2, 1) := by decide +kernel
theorem dX4_slipsAt_2 : decode cX4_slipsAt 2 = .ok (.iconst 0, 1) := by decide +kernel
theorem dX4_slipsAt_3 : decode cX4_slipsAt 3 = .ok (.istore_n 3, 1) := by decide +kernel
theorem dX4_slipsAt_4 : decode cX4_slipsAt 4 = .ok (.iload_n 3, 1) := by decide +kernel
theorem dX4_slipsAt_5 : decode cX4_slipsAt 5 = .ok (.aload_n 0, 1) := by decide +kernel
theorem dX4_slipsAt_6 : decode cX4_slipsAt 6 = .ok (.getfield 40, 3) := by decide +kernel
theorem dX4_slipsAt_9 : decode cX4_slipsAt 9 = .ok (.getfield 118, 3) := by decide +kernel
theorem dX4_slipsAt_12 : decode cX4_slipsAt 12 = .ok (.if_icmp .ge 21, 3) := by decide +kernel
theorem dX4_slipsAt_15 : decode cX4_slipsAt 15 = .ok (.aload_n 0, 1) := by decide +kernel
theorem dX4_slipsAt_16 : decode cX4_slipsAt 16 = .ok (.iload_n 1, 1) := by decide +kernel
theorem dX4_slipsAt_17 : decode cX4_slipsAt 17 = .ok (.iload_n 3, 1) := by decide +kernel
theorem dX4_slipsAt_18 : decode cX4_slipsAt 18 = .ok (.invokevirtual 120, 3) := by decide +kernel
theorem dX4_slipsAt_21 : decode cX4_slipsAt 21 = .ok (.ifCond .eq 6, 3) := by decide +kernel
theorem dX4_slipsAt_24 : decode cX4_slipsAt 24 = .ok (.iinc 2 1, 3) := by decide +kernel
theorem dX4_slipsAt_27 : decode cX4_slipsAt 27 = .ok (.iinc 3 1, 3) := by decide +kernel
theorem dX4_slipsAt_30 : decode cX4_slipsAt 30 = .ok (.goto (-26), 3) := by decide +kernel
theorem dX4_slipsAt_33 : decode cX4_slipsAt 33 = .ok (.iload_n 2, 1) := by decide +kernel
theorem dX4_slipsAt_34 : decode cX4_slipsAt 34 = .ok (.ireturn, 1) := by decide +kernel
theorem r_X4_slipsAt_27 (E : kr_E) (k_4 : Int32 → Int32 → kr_M → Option (Int32 × kr_M)) (l1 : Int32) (l2 : Int32) (l3 : Int32) (hk_4 : ∀ (x2 : Int32) (x3 : Int32) (M : kr_M), kR kr_vi E Y_X4_slipsAt 2 4 [(0, kr_r E 315), (1, .int l1), (2, .int x2), (3, .int x3)] [] M (k_4 x2 x3 M)) (M : kr_M) : kR kr_vi E Y_X4_slipsAt 2 27 [(0, kr_r E 315), (1, .int l1), (2, .int l2), (3, .int l3)] [] M (f_X4_slipsAt_27 k_4 l2 l3 M) := by
  rw [f_X4_slipsAt_27]
  refine kr_iinc (j := 3) (v := (l3 + (1 : Int32))) (lv' := [(3, .int (l3 + (1 : Int32))), (0, kr_r E 315), (1, .int l1), (2, .int l2)]) dX4_slipsAt_27 rfl rfl (by decide) rfl ?_
  refine kr_goto (tgt := 4) dX4_slipsAt_30 (by decide) ?_
  refine kr_sub [1, 2, 3, 0] rfl ?_
  exact hk_4 l2 (l3 + (1 : Int32)) M
theorem r_X4_slipsAt_4 (E : kr_E)  (l1 : Int32)  : ∀ (n : Nat) (l2 : Int32) (l3 : Int32) (M : kr_M), kR kr_vi E Y_X4_slipsAt 2 4 [(0, kr_r E 315), (1, .int l1), (2, .int l2), (3, .int l3)] [] M (f_X4_slipsAt_4 l1 n l2 l3 M) := by
  intro n
  induction n with
  | zero => intro l2 l3 M; exact kr_none
  | succ n ih =>
    intro l2 l3 M
    rw [f_X4_slipsAt_4]
    refine kr_iload_n dX4_slipsAt_4 rfl 3 rfl ?_
    refine kr_aload_n dX4_slipsAt_5 rfl 0 rfl ?_
    refine kr_getG (o := 2) (ci := 4) (j := 0) dX4_slipsAt_6 kr_at_315 fl_RX4_40 rfl (fun g1 h_g1 => ?_)
    refine kr_getI (ci := 2) (j := 4) dX4_slipsAt_9 h_g1 fl_RX4_118 rfl (fun v2 => ?_)
    refine kr_icmp_ge (tgt := 33) dX4_slipsAt_12 (by decide) ?_ ?_
    · refine kr_iload_n dX4_slipsAt_33 rfl 2 rfl ?_
      exact kr_iret dX4_slipsAt_34 rfl
    · refine kr_aload_n dX4_slipsAt_15 rfl 0 rfl ?_
      refine kr_iload_n dX4_slipsAt_16 rfl 1 rfl ?_
      refine kr_iload_n dX4_slipsAt_17 rfl 3 rfl ?_
      refine kr_Vi (As := [.int l1, .int l3]) (st := []) zv_X4_canSlip dX4_slipsAt_18 ml_RX4_120 kr_at_315 (r_X4_canSlip E l1 l3 M) rfl rfl (Nat.le_of_ble_eq_true rfl) rfl (by decide) (Nat.le_of_ble_eq_true rfl) (fun r4 M3 => ?_)
      refine kr_if_eq (tgt := 27) dX4_slipsAt_21 (by decide) ?_ ?_
      · refine kr_sub [0, 1, 2, 3] rfl ?_
        exact r_X4_slipsAt_27 E _ l1 l2 l3 ih M3
      · refine kr_iinc (j := 2) (v := (l2 + (1 : Int32))) (lv' := [(2, .int (l2 + (1 : Int32))), (0, kr_r E 315), (1, .int l1), (3, .int l3)]) dX4_slipsAt_24 rfl rfl (by decide) rfl ?_
        refine kr_sub [1, 2, 0, 3] rfl ?_
        exact r_X4_slipsAt_27 E _ l1 (l2 + (1 : Int32)) l3 ih M3
theorem r_X4_slipsAt (E : kr_E) (p1 : Int32) (M : kr_M) : kR kr_vi E Y_X4_slipsAt 2 0 [(0, kr_r E 315), (1, .int p1)] [] M (f_X4_slipsAt p1 M) := by
  rw [f_X4_slipsAt]
  refine kr_iconst (v := 0) dX4_slipsAt_0 (by decide) ?_
  refine kr_istore_n (lv' := [(2, .int (0 : Int32)), (0, kr_r E 315), (1, .int p1)]) dX4_slipsAt_1 rfl (by decide) rfl ?_
  refine kr_iconst (v := 0) dX4_slipsAt_2 (by decide) ?_
  refine kr_istore_n (lv' := [(3, .int (0 : Int32)), (2, .int (0 : Int32)), (0, kr_r E 315), (1, .int p1)]) dX4_slipsAt_3 rfl (by decide) rfl ?_
  refine kr_sub [2, 3, 1, 0] rfl ?_
  exact r_X4_slipsAt_4 E p1 _ (0 : Int32) (0 : Int32) M
theorem dX4_slipsInAll_0 : decode cX4_slipsInAll 0 = .ok (.iconst 0, 1) := by decide +kernel
theorem dX4_slipsInAll_1 : decode cX4_slipsInAll 1 = .ok (.istore_n 1, 1) := by decide +kernel
theorem dX4_slipsInAll_2 : decode cX4_slipsInAll 2 = .ok (.iconst 0, 1) := by decide +kernel
theorem dX4_slipsInAll_3 : decode cX4_slipsInAll 3 = .ok (.istore_n 2, 1) := by decide +kernel
theorem dX4_slipsInAll_4 : decode cX4_slipsInAll 4 = .ok (.iload_n 2, 1) := by decide +kernel
theorem dX4_slipsInAll_5 : decode cX4_slipsInAll 5 = .ok (.aload_n 0, 1) := by decide +kernel
theorem dX4_slipsInAll_6 : decode cX4_slipsInAll 6 = .ok (.getfield 14, 3) := by decide +kernel
theorem dX4_slipsInAll_9 : decode cX4_slipsInAll 9 = .ok (.getfield 51, 3) := by decide +kernel
theorem dX4_slipsInAll_12 : decode cX4_slipsInAll 12 = .ok (.if_icmp .ge 17, 3) := by decide +kernel
theorem dX4_slipsInAll_15 : decode cX4_slipsInAll 15 = .ok (.iload_n 1, 1) := by decide +kernel
theorem dX4_slipsInAll_16 : decode cX4_slipsInAll 16 = .ok (.aload_n 0, 1) := by decide +kernel
theorem dX4_slipsInAll_17 : decode cX4_slipsInAll 17 = .ok (.iload_n 2, 1) := by decide +kernel
theorem dX4_slipsInAll_18 : decode cX4_slipsInAll 18 = .ok (.invokevirtual 123, 3) := by decide +kernel
theorem dX4_slipsInAll_21 : decode cX4_slipsInAll 21 = .ok (.iadd, 1) := by decide +kernel
theorem dX4_slipsInAll_22 : decode cX4_slipsInAll 22 = .ok (.istore_n 1, 1) := by decide +kernel
theorem dX4_slipsInAll_23 : decode cX4_slipsInAll 23 = .ok (.iinc 2 1, 3) := by decide +kernel
theorem dX4_slipsInAll_26 : decode cX4_slipsInAll 26 = .ok (.goto (-22), 3) := by decide +kernel
theorem dX4_slipsInAll_29 : decode cX4_slipsInAll 29 = .ok (.iload_n 1, 1) := by decide +kernel
theorem dX4_slipsInAll_30 : decode cX4_slipsInAll 30 = .ok (.ireturn, 1) := by decide +kernel
theorem r_X4_slipsInAll_4 (E : kr_E)    : ∀ (n : Nat) (l1 : Int32) (l2 : Int32) (M : kr_M), kR kr_vi E Y_X4_slipsInAll 3 4 [(0, kr_r E 315), (1, .int l1), (2, .int l2)] [] M (f_X4_slipsInAll_4 n l1 l2 M) := by
  intro n
  induction n with
  | zero => intro l1 l2 M; exact kr_none
  | succ n ih =>
    intro l1 l2 M
    rw [f_X4_slipsInAll_4]
    refine kr_iload_n dX4_slipsInAll_4 rfl 2 rfl ?_
    refine kr_aload_n dX4_slipsInAll_5 rfl 0 rfl ?_
    refine kr_getA (o := 1) (ci := 4) (j := 1) dX4_slipsInAll_6 kr_at_315 fl_RX4_14 rfl ?_
    refine kr_getI (ci := 7) (j := 1) dX4_slipsInAll_9 kr_at_316 fl_RX4_51 rfl (fun v1 => ?_)
    refine kr_icmp_ge (tgt := 29) dX4_slipsInAll_12 (by decide) ?_ ?_
    · refine kr_iload_n dX4_slipsInAll_29 rfl 1 rfl ?_
      exact kr_iret dX4_slipsInAll_30 rfl
    · refine kr_iload_n dX4_slipsInAll_15 rfl 1 rfl ?_
      refine kr_aload_n dX4_slipsInAll_16 rfl 0 rfl ?_
      refine kr_iload_n dX4_slipsInAll_17 rfl 2 rfl ?_
      refine kr_Vi (As := [.int l2]) (st := [.int l1]) zv_X4_slipsAt dX4_slipsInAll_18 ml_RX4_123 kr_at_315 (r_X4_slipsAt E l2 M) rfl rfl (Nat.le_of_ble_eq_true rfl) rfl (by decide) (Nat.le_of_ble_eq_true rfl) (fun r3 M2 => ?_)
      refine kr_iadd dX4_slipsInAll_21 ?_
      refine kr_nmi (fun v4 => ?_)
      refine kr_istore_n (lv' := [(1, .int v4), (0, kr_r E 315), (2, .int l2)]) dX4_slipsInAll_22 rfl (by decide) rfl ?_
      refine kr_iinc (j := 2) (v := (l2 + (1 : Int32))) (lv' := [(2, .int (l2 + (1 : Int32))), (1, .int v4), (0, kr_r E 315)]) dX4_slipsInAll_23 rfl rfl (by decide) rfl ?_
      refine kr_goto (tgt := 4) dX4_slipsInAll_26 (by decide) ?_
      refine kr_sub [2, 1, 0] rfl ?_
      exact ih v4 (l2 + (1 : Int32)) M2
theorem r_X4_slipsInAll (E : kr_E)  (M : kr_M) : kR kr_vi E Y_X4_slipsInAll 3 0 [(0, kr_r E 315)] [] M (f_X4_slipsInAll M) := by
  rw [f_X4_slipsInAll]
  refine kr_iconst (v := 0) dX4_slipsInAll_0 (by decide) ?_
  refine kr_istore_n (lv' := [(1, .int (0 : Int32)), (0, kr_r E 315)]) dX4_slipsInAll_1 rfl (by decide) rfl ?_
  refine kr_iconst (v := 0) dX4_slipsInAll_2 (by decide) ?_
  refine kr_istore_n (lv' := [(2, .int (0 : Int32)), (1, .int (0 : Int32)), (0, kr_r E 315)]) dX4_slipsInAll_3 rfl (by decide) rfl ?_
  refine kr_sub [2, 1, 0] rfl ?_
  exact r_X4_slipsInAll_4 E _ (0 : Int32) (0 : Int32) M
theorem dX4_studyFeel_0 : decode cX4_studyFeel 0 = .ok (.aload_n 0, 1) := by decide +kernel
theorem dX4_studyFeel_1 : decode cX4_studyFeel 1 = .ok (.invokevirtual 126, 3) := by decide +kernel
theorem dX4_studyFeel_4 : decode cX4_studyFeel 4 = .ok (.aload_n 0, 1) := by decide +kernel
theorem dX4_studyFeel_5 : decode cX4_studyFeel 5 = .ok (.getfield 20, 3) := by decide +kernel
theorem dX4_studyFeel_8 : decode cX4_studyFeel 8 = .ok (.iconst 0, 1) := by decide +kernel
theorem dX4_studyFeel_9 : decode cX4_studyFeel 9 = .ok (.iaload, 1) := by decide +kernel
theorem dX4_studyFeel_10 : decode cX4_studyFeel 10 = .ok (.ifCond .le 7, 3) := by decide +kernel
theorem dX4_studyFeel_13 : decode cX4_studyFeel 13 = .ok (.iconst 1, 1) := by decide +kernel
theorem dX4_studyFeel_14 : decode cX4_studyFeel 14 = .ok (.goto 4, 3) := by decide +kernel
theorem dX4_studyFeel_17 : decode cX4_studyFeel 17 = .ok (.iconst 0, 1) := by decide +kernel
theorem dX4_studyFeel_18 : decode cX4_studyFeel 18 = .ok (.iadd, 1) := by decide +kernel
theorem dX4_studyFeel_19 : decode cX4_studyFeel 19 = .ok (.istore_n 1, 1) := by decide +kernel
theorem dX4_studyFeel_20 : decode cX4_studyFeel 20 = .ok (.aload_n 0, 1) := by decide +kernel
theorem dX4_studyFeel_21 : decode cX4_studyFeel 21 = .ok (.iconst (-1), 1) := by decide +kernel
theorem dX4_studyFeel_22 : decode cX4_studyFeel 22 = .ok (.putfield 130, 3) := by decide +kernel
theorem dX4_studyFeel_25 : decode cX4_studyFeel 25 = .ok (.aload_n 0, 1) := by decide +kernel
theorem dX4_studyFeel_26 : decode cX4_studyFeel 26 = .ok (.iload_n 1, 1) := by decide +kernel
theorem dX4_studyFeel_27 : decode cX4_studyFeel 27 = .ok (.putfield 133, 3) := by decide +kernel
theorem dX4_studyFeel_30 : decode cX4_studyFeel 30 = .ok (.iconst 0, 1) := by decide +kernel
theorem dX4_studyFeel_31 : decode cX4_studyFeel 31 = .ok (.istore_n 2, 1) := by decide +kernel
theorem dX4_studyFeel_32 : decode cX4_studyFeel 32 = .ok (.iload_n 2, 1) := by decide +kernel
theorem dX4_studyFeel_33 : decode cX4_studyFeel 33 = .ok (.aload_n 0, 1) := by decide +kernel
theorem dX4_studyFeel_34 : decode cX4_studyFeel 34 = .ok (.getfield 14, 3) := by decide +kernel
theorem dX4_studyFeel_37 : decode cX4_studyFeel 37 = .ok (.getfield 51, 3) := by decide +kernel
theorem dX4_studyFeel_40 : decode cX4_studyFeel 40 = .ok (.if_icmp .ge 48, 3) := by decide +kernel
theorem dX4_studyFeel_43 : decode cX4_studyFeel 43 = .ok (.aload_n 0, 1) := by decide +kernel
theorem dX4_studyFeel_44 : decode cX4_studyFeel 44 = .ok (.iload_n 2, 1) := by decide +kernel
theorem dX4_studyFeel_45 : decode cX4_studyFeel 45 = .ok (.invokevirtual 123, 3) := by decide +kernel
theorem dX4_studyFeel_48 : decode cX4_studyFeel 48 = .ok (.istore_n 3, 1) := by decide +kernel
theorem dX4_studyFeel_49 : decode cX4_studyFeel 49 = .ok (.iload_n 3, 1) := by decide +kernel
theorem dX4_studyFeel_50 : decode cX4_studyFeel 50 = .ok (.iconst 1, 1) := by decide +kernel
theorem dX4_studyFeel_51 : decode cX4_studyFeel 51 = .ok (.invokestatic 136, 3) := by decide +kernel
theorem dX4_studyFeel_54 : decode cX4_studyFeel 54 = .ok (.iload_n 1, 1) := by decide +kernel
theorem dX4_studyFeel_55 : decode cX4_studyFeel 55 = .ok (.iload_n 3, 1) := by decide +kernel
theorem dX4_studyFeel_56 : decode cX4_studyFeel 56 = .ok (.isub, 1) := by decide +kernel
theorem dX4_studyFeel_57 : decode cX4_studyFeel 57 = .ok (.invokestatic 78, 3) := by decide +kernel
theorem dX4_studyFeel_60 : decode cX4_studyFeel 60 = .ok (.istore 4, 2) := by decide +kernel
theorem dX4_studyFeel_62 : decode cX4_studyFeel 62 = .ok (.iload 4, 2) := by decide +kernel
theorem dX4_studyFeel_64 : decode cX4_studyFeel 64 = .ok (.aload_n 0, 1) := by decide +kernel
theorem dX4_studyFeel_65 : decode cX4_studyFeel 65 = .ok (.getfield 133, 3) := by decide +kernel
theorem dX4_studyFeel_68 : decode cX4_studyFeel 68 = .ok (.if_icmp .ge 14, 3) := by decide +kernel
theorem dX4_studyFeel_71 : decode cX4_studyFeel 71 = .ok (.aload_n 0, 1) := by decide +kernel
theorem dX4_studyFeel_72 : decode cX4_studyFeel 72 = .ok (.iload 4, 2) := by decide +kernel
theorem dX4_studyFeel_74 : decode cX4_studyFeel 74 = .ok (.putfield 133, 3) := by decide +kernel
theorem dX4_studyFeel_77 : decode cX4_studyFeel 77 = .ok (.aload_n 0, 1) := by decide +kernel
theorem dX4_studyFeel_78 : decode cX4_studyFeel 78 = .ok (.iload_n 2, 1) := by decide +kernel
theorem dX4_studyFeel_79 : decode cX4_studyFeel 79 = .ok (.putfield 130, 3) := by decide +kernel
theorem dX4_studyFeel_82 : decode cX4_studyFeel 82 = .ok (.iinc 2 1, 3) := by decide +kernel
theorem dX4_studyFeel_85 : decode cX4_studyFeel 85 = .ok (.goto (-53), 3) := by decide +kernel
theorem dX4_studyFeel_88 : decode cX4_studyFeel 88 = .ok (.return_, 1) := by decide +kernel
theorem r_X4_studyFeel_82 (E : kr_E) (k_32 : Int32 → kr_M → Option kr_M) (l1 : Int32) (l2 : Int32) (hk_32 : ∀ (x2 : Int32) (M : kr_M), kR kr_vv E Y_X4_studyFeel 4 32 [(0, kr_r E 315), (1, .int l1), (2, .int x2)] [] M (k_32 x2 M)) (M : kr_M) : kR kr_vv E Y_X4_studyFeel 4 82 [(0, kr_r E 315), (1, .int l1), (2, .int l2)] [] M (f_X4_studyFeel_82 k_32 l2 M) := by
  rw [f_X4_studyFeel_82]
  refine kr_iinc (j := 2) (v := (l2 + (1 : Int32))) (lv' := [(2, .int (l2 + (1 : Int32))), (0, kr_r E 315), (1, .int l1)]) dX4_studyFeel_82 rfl rfl (by decide) rfl ?_
  refine kr_goto (tgt := 32) dX4_studyFeel_85 (by decide) ?_
  refine kr_sub [1, 2, 0] rfl ?_
  exact hk_32 (l2 + (1 : Int32)) M
theorem r_X4_studyFeel_32 (E : kr_E)  (l1 : Int32)  : ∀ (n : Nat) (l2 : Int32) (M : kr_M), kR kr_vv E Y_X4_studyFeel 4 32 [(0, kr_r E 315), (1, .int l1), (2, .int l2)] [] M (f_X4_studyFeel_32 l1 n l2 M) := by
  intro n
  induction n with
  | zero => intro l2 M; exact kr_none
  | succ n ih =>
    intro l2 M
    rw [f_X4_studyFeel_32]
    refine kr_iload_n dX4_studyFeel_32 rfl 2 rfl ?_
    refine kr_aload_n dX4_studyFeel_33 rfl 0 rfl ?_
    refine kr_getA (o := 1) (ci := 4) (j := 1) dX4_studyFeel_34 kr_at_315 fl_RX4_14 rfl ?_
    refine kr_getI (ci := 7) (j := 1) dX4_studyFeel_37 kr_at_316 fl_RX4_51 rfl (fun v1 => ?_)
    refine kr_icmp_ge (tgt := 88) dX4_studyFeel_40 (by decide) ?_ ?_
    · exact kr_vret dX4_studyFeel_88 rfl
    · refine kr_aload_n dX4_studyFeel_43 rfl 0 rfl ?_
      refine kr_iload_n dX4_studyFeel_44 rfl 2 rfl ?_
      refine kr_Vi (As := [.int l2]) (st := []) zv_X4_slipsAt dX4_studyFeel_45 ml_RX4_123 kr_at_315 (r_X4_slipsAt E l2 M) rfl rfl (Nat.le_of_ble_eq_true rfl) rfl (by decide) (Nat.le_of_ble_eq_true rfl) (fun r3 M2 => ?_)
      refine kr_istore_n (lv' := [(3, .int r3), (0, kr_r E 315), (1, .int l1), (2, .int l2)]) dX4_studyFeel_48 rfl (by decide) rfl ?_
      refine kr_iload_n dX4_studyFeel_49 rfl 0 rfl ?_
      refine kr_iconst (v := 1) dX4_studyFeel_50 (by decide) ?_
      refine kr_mmin dX4_studyFeel_51 ml_RX4_136 (by decide) (Nat.le_of_ble_eq_true rfl) ?_
      refine kr_iload_n dX4_studyFeel_54 rfl 2 rfl ?_
      refine kr_iload_n dX4_studyFeel_55 rfl 0 rfl ?_
      refine kr_isub dX4_studyFeel_56 ?_
      refine kr_mmax dX4_studyFeel_57 ml_RX4_78 (by decide) (Nat.le_of_ble_eq_true rfl) ?_
      refine kr_nmi (fun v4 => ?_)
      refine kr_istore (lv' := [(4, .int v4), (3, .int r3), (0, kr_r E 315), (1, .int l1), (2, .int l2)]) dX4_studyFeel_60 (by decide) rfl ?_
      refine kr_iload dX4_studyFeel_62 0 rfl ?_
      refine kr_aload_n dX4_studyFeel_64 rfl 2 rfl ?_
      refine kr_getI (ci := 4) (j := 9) dX4_studyFeel_65 kr_at_315 fl_RX4_133 rfl (fun v5 => ?_)
      refine kr_icmp_ge (tgt := 82) dX4_studyFeel_68 (by decide) ?_ ?_
      · refine kr_sub [2, 3, 4] rfl ?_
        exact r_X4_studyFeel_82 E _ l1 l2 ih M2
      · refine kr_aload_n dX4_studyFeel_71 rfl 2 rfl ?_
        refine kr_iload dX4_studyFeel_72 0 rfl ?_
        refine kr_putI (ci := 4) (j := 9) dX4_studyFeel_74 kr_at_315 fl_RX4_133 rfl rfl (fun M6 => ?_)
        refine kr_aload_n dX4_studyFeel_77 rfl 2 rfl ?_
        refine kr_iload_n dX4_studyFeel_78 rfl 4 rfl ?_
        refine kr_putI (ci := 4) (j := 8) dX4_studyFeel_79 kr_at_315 fl_RX4_130 rfl rfl (fun M7 => ?_)
        refine kr_sub [2, 3, 4] rfl ?_
        exact r_X4_studyFeel_82 E _ l1 l2 ih M7
theorem r_X4_studyFeel_18 (E : kr_E)  (s0 : Int32) (s1 : Int32)  (M : kr_M) : kR kr_vv E Y_X4_studyFeel 4 18 [(0, kr_r E 315)] [.int s0, .int s1] M (f_X4_studyFeel_18 s0 s1 M) := by
  rw [f_X4_studyFeel_18]
  refine kr_iadd dX4_studyFeel_18 ?_
  refine kr_nmi (fun v1 => ?_)
  refine kr_istore_n (lv' := [(1, .int v1), (0, kr_r E 315)]) dX4_studyFeel_19 rfl (by decide) rfl ?_
  refine kr_aload_n dX4_studyFeel_20 rfl 1 rfl ?_
  refine kr_iconst (v := -1) dX4_studyFeel_21 (by decide) ?_
  refine kr_putI (ci := 4) (j := 8) dX4_studyFeel_22 kr_at_315 fl_RX4_130 rfl rfl (fun M2 => ?_)
  refine kr_aload_n dX4_studyFeel_25 rfl 1 rfl ?_
  refine kr_iload_n dX4_studyFeel_26 rfl 0 rfl ?_
  refine kr_putI (ci := 4) (j := 9) dX4_studyFeel_27 kr_at_315 fl_RX4_133 rfl rfl (fun M3 => ?_)
  refine kr_iconst (v := 0) dX4_studyFeel_30 (by decide) ?_
  refine kr_istore_n (lv' := [(2, .int (0 : Int32)), (1, .int v1), (0, kr_r E 315)]) dX4_studyFeel_31 rfl (by decide) rfl ?_
  refine kr_sub [2, 1, 0] rfl ?_
  exact r_X4_studyFeel_32 E v1 _ (0 : Int32) M3
theorem r_X4_studyFeel (E : kr_E)  (M : kr_M) : kR kr_vv E Y_X4_studyFeel 4 0 [(0, kr_r E 315)] [] M (f_X4_studyFeel M) := by
  rw [f_X4_studyFeel]
  refine kr_aload_n dX4_studyFeel_0 rfl 0 rfl ?_
  refine kr_Vi (As := []) (st := []) zv_X4_slipsInAll dX4_studyFeel_1 ml_RX4_126 kr_at_315 (r_X4_slipsInAll E  M) rfl rfl (Nat.le_of_ble_eq_true rfl) rfl (by decide) (Nat.le_of_ble_eq_true rfl) (fun r2 M1 => ?_)
  refine kr_aload_n dX4_studyFeel_4 rfl 0 rfl ?_
  refine kr_getA (o := 3) (ci := 4) (j := 2) dX4_studyFeel_5 kr_at_315 fl_RX4_20 rfl ?_
  refine kr_iconst (v := 0) dX4_studyFeel_8 (by decide) ?_
  refine kr_iald dX4_studyFeel_9 kr_at_318 (fun v3 => ?_)
  refine kr_if_le (tgt := 17) dX4_studyFeel_10 (by decide) ?_ ?_
  · refine kr_iconst (v := 0) dX4_studyFeel_17 (by decide) ?_
    refine kr_sub [0] rfl ?_
    exact r_X4_studyFeel_18 E (0 : Int32) r2 M1
  · refine kr_iconst (v := 1) dX4_studyFeel_13 (by decide) ?_
    refine kr_goto (tgt := 18) dX4_studyFeel_14 (by decide) ?_
    refine kr_sub [0] rfl ?_
    exact r_X4_studyFeel_18 E (1 : Int32) r2 M1
theorem dX4_studyForgery_0 : decode cX4_studyForgery 0 = .ok (.aload_n 0, 1) := by decide +kernel
theorem dX4_studyForgery_1 : decode cX4_studyForgery 1 = .ok (.iconst (-1), 1) := by decide +kernel
theorem dX4_studyForgery_2 : decode cX4_studyForgery 2 = .ok (.putfield 139, 3) := by decide +kernel
theorem dX4_studyForgery_5 : decode cX4_studyForgery 5 = .ok (.aload_n 0, 1) := by decide +kernel
theorem dX4_studyForgery_6 : decode cX4_studyForgery 6 = .ok (.iconst (-1), 1) := by decide +kernel
theorem dX4_studyForgery_7 : decode cX4_studyForgery 7 = .ok (.putfield 142, 3) := by decide +kernel
theorem dX4_studyForgery_10 : decode cX4_studyForgery 10 = .ok (.aload_n 0, 1) := by decide +kernel
theorem dX4_studyForgery_11 : decode cX4_studyForgery 11 = .ok (.iconst (-1), 1) := by decide +kernel
theorem dX4_studyForgery_12 : decode cX4_studyForgery 12 = .ok (.putfield 145, 3) := by decide +kernel
theorem dX4_studyForgery_15 : decode cX4_studyForgery 15 = .ok (.iconst 0, 1) := by decide +kernel
theorem dX4_studyForgery_16 : decode cX4_studyForgery 16 = .ok (.istore_n 1, 1) := by decide +kernel
theorem dX4_studyForgery_17 : decode cX4_studyForgery 17 = .ok (.iload_n 1, 1) := by decide +kernel
theorem dX4_studyForgery_18 : decode cX4_studyForgery 18 = .ok (.aload_n 0, 1) := by decide +kernel
theorem dX4_studyForgery_19 : decode cX4_studyForgery 19 = .ok (.getfield 14, 3) := by decide +kernel
theorem dX4_studyForgery_22 : decode cX4_studyForgery 22 = .ok (.getfield 51, 3) := by decide +kernel
theorem dX4_studyForgery_25 : decode cX4_studyForgery 25 = .ok (.if_icmp .ge 91, 3) := by decide +kernel
theorem dX4_studyForgery_28 : decode cX4_studyForgery 28 = .ok (.aload_n 0, 1) := by decide +kernel
theorem dX4_studyForgery_29 : decode cX4_studyForgery 29 = .ok (.getfield 20, 3) := by decide +kernel
theorem dX4_studyForgery_32 : decode cX4_studyForgery 32 = .ok (.iconst 0, 1) := by decide +kernel
theorem dX4_studyForgery_33 : decode cX4_studyForgery 33 = .ok (.iaload, 1) := by decide +kernel
theorem dX4_studyForgery_34 : decode cX4_studyForgery 34 = .ok (.ifCond .le 82, 3) := by decide +kernel
theorem dX4_studyForgery_37 : decode cX4_studyForgery 37 = .ok (.iconst 0, 1) := by decide +kernel
theorem dX4_studyForgery_38 : decode cX4_studyForgery 38 = .ok (.istore_n 2, 1) := by decide +kernel
theorem dX4_studyForgery_39 : decode cX4_studyForgery 39 = .ok (.iload_n 2, 1) := by decide +kernel
theorem dX4_studyForgery_40 : decode cX4_studyForgery 40 = .ok (.aload_n 0, 1) := by decide +kernel
theorem dX4_studyForgery_41 : decode cX4_studyForgery 41 = .ok (.getfield 40, 3) := by decide +kernel
theorem dX4_studyForgery_44 : decode cX4_studyForgery 44 = .ok (.getfield 118, 3) := by decide +kernel
theorem dX4_studyForgery_47 : decode cX4_studyForgery 47 = .ok (.if_icmp .ge 63, 3) := by decide +kernel
theorem dX4_studyForgery_50 : decode cX4_studyForgery 50 = .ok (.aload_n 0, 1) := by decide +kernel
theorem dX4_studyForgery_51 : decode cX4_studyForgery 51 = .ok (.getfield 33, 3) := by decide +kernel
theorem dX4_studyForgery_54 : decode cX4_studyForgery 54 = .ok (.iload_n 1, 1) := by decide +kernel
theorem dX4_studyForgery_55 : decode cX4_studyForgery 55 = .ok (.bipush 6, 2) := by decide +kernel
theorem dX4_studyForgery_57 : decode cX4_studyForgery 57 = .ok (.imul, 1) := by decide +kernel
theorem dX4_studyForgery_58 : decode cX4_studyForgery 58 = .ok (.iload_n 2, 1) := by decide +kernel
theorem dX4_studyForgery_59 : decode cX4_studyForgery 59 = .ok (.iadd, 1) := by decide +kernel
theorem dX4_studyForgery_60 : decode cX4_studyForgery 60 = .ok (.iaload, 1) := by decide +kernel
theorem dX4_studyForgery_61 : decode cX4_studyForgery 61 = .ok (.aload_n 0, 1) := by decide +kernel
theorem dX4_studyForgery_62 : decode cX4_studyForgery 62 = .ok (.getfield 24, 3) := by decide +kernel
theorem dX4_studyForgery_65 : decode cX4_studyForgery 65 = .ok (.iconst 0, 1) := by decide +kernel
theorem dX4_studyForgery_66 : decode cX4_studyForgery 66 = .ok (.iaload, 1) := by decide +kernel
theorem dX4_studyForgery_67 : decode cX4_studyForgery 67 = .ok (.isub, 1) := by decide +kernel
theorem dX4_studyForgery_68 : decode cX4_studyForgery 68 = .ok (.invokestatic 148, 3) := by decide +kernel
theorem dX4_studyForgery_71 : decode cX4_studyForgery 71 = .ok (.istore_n 3, 1) := by decide +kernel
theorem dX4_studyForgery_72 : decode cX4_studyForgery 72 = .ok (.aload_n 0, 1) := by decide +kernel
theorem dX4_studyForgery_73 : decode cX4_studyForgery 73 = .ok (.iload_n 1, 1) := by decide +kernel
theorem dX4_studyForgery_74 : decode cX4_studyForgery 74 = .ok (.iload_n 2, 1) := by decide +kernel
theorem dX4_studyForgery_75 : decode cX4_studyForgery 75 = .ok (.invokevirtual 120, 3) := by decide +kernel
theorem dX4_studyForgery_78 : decode cX4_studyForgery 78 = .ok (.ifCond .eq 26, 3) := by decide +kernel
theorem dX4_studyForgery_81 : decode cX4_studyForgery 81 = .ok (.iload_n 3, 1) := by decide +kernel
theorem dX4_studyForgery_82 : decode cX4_studyForgery 82 = .ok (.aload_n 0, 1) := by decide +kernel
theorem dX4_studyForgery_83 : decode cX4_studyForgery 83 = .ok (.getfield 139, 3) := by decide +kernel
theorem dX4_studyForgery_86 : decode cX4_studyForgery 86 = .ok (.if_icmp .le 18, 3) := by decide +kernel
theorem dX4_studyForgery_89 : decode cX4_studyForgery 89 = .ok (.aload_n 0, 1) := by decide +kernel
theorem dX4_studyForgery_90 : decode cX4_studyForgery 90 = .ok (.iload_n 3, 1) := by decide +kernel
theorem dX4_studyForgery_91 : decode cX4_studyForgery 91 = .ok (.putfield 139, 3) := by decide +kernel
theorem dX4_studyForgery_94 : decode cX4_studyForgery 94 = .ok (.aload_n 0, 1) := by decide +kernel
theorem dX4_studyForgery_95 : decode cX4_studyForgery 95 = .ok (.iload_n 1, 1) := by decide +kernel
theorem dX4_studyForgery_96 : decode cX4_studyForgery 96 = .ok (.putfield 142, 3) := by decide +kernel
theorem dX4_studyForgery_99 : decode cX4_studyForgery 99 = .ok (.aload_n 0, 1) := by decide +kernel
theorem dX4_studyForgery_100 : decode cX4_studyForgery 100 = .ok (.iload_n 2, 1) := by decide +kernel
theorem dX4_studyForgery_101 : decode cX4_studyForgery 101 = .ok (.putfield 145, 3) := by decide +kernel
theorem dX4_studyForgery_104 : decode cX4_studyForgery 104 = .ok (.iinc 2 1, 3) := by decide +kernel
theorem dX4_studyForgery_107 : decode cX4_studyForgery 107 = .ok (.goto (-68), 3) := by decide +kernel
theorem dX4_studyForgery_110 : decode cX4_studyForgery 110 = .ok (.iinc 1 1, 3) := by decide +kernel
theorem dX4_studyForgery_113 : decode cX4_studyForgery 113 = .ok (.goto (-96), 3) := by decide +kernel
theorem dX4_studyForgery_116 : decode cX4_studyForgery 116 = .ok (.return_, 1) := by decide +kernel
theorem r_X4_studyForgery_110 (E : kr_E) (k_17 : Int32 → kr_M → Option kr_M) (l1 : Int32) (hk_17 : ∀ (x1 : Int32) (M : kr_M), kR kr_vv E Y_X4_studyForgery 2 17 [(0, kr_r E 315), (1, .int x1)] [] M (k_17 x1 M)) (M : kr_M) : kR kr_vv E Y_X4_studyForgery 2 110 [(0, kr_r E 315), (1, .int l1)] [] M (f_X4_studyForgery_110 k_17 l1 M) := by
  rw [f_X4_studyForgery_110]
  refine kr_iinc (j := 1) (v := (l1 + (1 : Int32))) (lv' := [(1, .int (l1 + (1 : Int32))), (0, kr_r E 315)]) dX4_studyForgery_110 rfl rfl (by decide) rfl ?_
  refine kr_goto (tgt := 17) dX4_studyForgery_113 (by decide) ?_
  refine kr_sub [1, 0] rfl ?_
  exact hk_17 (l1 + (1 : Int32)) M
theorem r_X4_studyForgery_104 (E : kr_E) (k_39 : Int32 → kr_M → Option kr_M) (l1 : Int32) (l2 : Int32) (hk_39 : ∀ (x2 : Int32) (M : kr_M), kR kr_vv E Y_X4_studyForgery 2 39 [(0, kr_r E 315), (1, .int l1), (2, .int x2)] [] M (k_39 x2 M)) (M : kr_M) : kR kr_vv E Y_X4_studyForgery 2 104 [(0, kr_r E 315), (1, .int l1), (2, .int l2)] [] M (f_X4_studyForgery_104 k_39 l2 M) := by
  rw [f_X4_studyForgery_104]
  refine kr_iinc (j := 2) (v := (l2 + (1 : Int32))) (lv' := [(2, .int (l2 + (1 : Int32))), (0, kr_r E 315), (1, .int l1)]) dX4_studyForgery_104 rfl rfl (by decide) rfl ?_
  refine kr_goto (tgt := 39) dX4_studyForgery_107 (by decide) ?_
  refine kr_sub [1, 2, 0] rfl ?_
  exact hk_39 (l2 + (1 : Int32)) M
theorem r_X4_studyForgery_39 (E : kr_E) (k_17 : Int32 → kr_M → Option kr_M) (l1 : Int32) (hk_17 : ∀ (x1 : Int32) (M : kr_M), kR kr_vv E Y_X4_studyForgery 2 17 [(0, kr_r E 315), (1, .int x1)] [] M (k_17 x1 M)) : ∀ (n : Nat) (l2 : Int32) (M : kr_M), kR kr_vv E Y_X4_studyForgery 2 39 [(0, kr_r E 315), (1, .int l1), (2, .int l2)] [] M (f_X4_studyForgery_39 k_17 l1 n l2 M) := by
  intro n
  induction n with
  | zero => intro l2 M; exact kr_none
  | succ n ih =>
    intro l2 M
    rw [f_X4_studyForgery_39]
    refine kr_iload_n dX4_studyForgery_39 rfl 2 rfl ?_
    refine kr_aload_n dX4_studyForgery_40 rfl 0 rfl ?_
    refine kr_getG (o := 2) (ci := 4) (j := 0) dX4_studyForgery_41 kr_at_315 fl_RX4_40 rfl (fun g1 h_g1 => ?_)
    refine kr_getI (ci := 2) (j := 4) dX4_studyForgery_44 h_g1 fl_RX4_118 rfl (fun v2 => ?_)
    refine kr_icmp_ge (tgt := 110) dX4_studyForgery_47 (by decide) ?_ ?_
    · refine kr_sub [0, 1] rfl ?_
      exact r_X4_studyForgery_110 E _ l1 hk_17 M
    · refine kr_aload_n dX4_studyForgery_50 rfl 0 rfl ?_
      refine kr_getA (o := 7) (ci := 4) (j := 6) dX4_studyForgery_51 kr_at_315 fl_RX4_33 rfl ?_
      refine kr_iload_n dX4_studyForgery_54 rfl 1 rfl ?_
      refine kr_bipush (v := 6) dX4_studyForgery_55 (by decide) ?_
      refine kr_imul dX4_studyForgery_57 ?_
      refine kr_iload_n dX4_studyForgery_58 rfl 2 rfl ?_
      refine kr_iadd dX4_studyForgery_59 ?_
      refine kr_iald dX4_studyForgery_60 kr_at_322 (fun v3 => ?_)
      refine kr_aload_n dX4_studyForgery_61 rfl 0 rfl ?_
      refine kr_getA (o := 4) (ci := 4) (j := 3) dX4_studyForgery_62 kr_at_315 fl_RX4_24 rfl ?_
      refine kr_iconst (v := 0) dX4_studyForgery_65 (by decide) ?_
      refine kr_iald dX4_studyForgery_66 kr_at_319 (fun v4 => ?_)
      refine kr_isub dX4_studyForgery_67 ?_
      refine kr_mabs dX4_studyForgery_68 ml_RX4_148 (by decide) (Nat.le_of_ble_eq_true rfl) ?_
      refine kr_nmi (fun v5 => ?_)
      refine kr_istore_n (lv' := [(3, .int v5), (0, kr_r E 315), (1, .int l1), (2, .int l2)]) dX4_studyForgery_71 rfl (by decide) rfl ?_
      refine kr_aload_n dX4_studyForgery_72 rfl 1 rfl ?_
      refine kr_iload_n dX4_studyForgery_73 rfl 2 rfl ?_
      refine kr_iload_n dX4_studyForgery_74 rfl 3 rfl ?_
      refine kr_Vi (As := [.int l1, .int l2]) (st := []) zv_X4_canSlip dX4_studyForgery_75 ml_RX4_120 kr_at_315 (r_X4_canSlip E l1 l2 M) rfl rfl (Nat.le_of_ble_eq_true rfl) rfl (by decide) (Nat.le_of_ble_eq_true rfl) (fun r7 M6 => ?_)
      refine kr_if_eq (tgt := 104) dX4_studyForgery_78 (by decide) ?_ ?_
      · refine kr_sub [1, 2, 3] rfl ?_
        exact r_X4_studyForgery_104 E _ l1 l2 ih M6
      · refine kr_iload_n dX4_studyForgery_81 rfl 0 rfl ?_
        refine kr_aload_n dX4_studyForgery_82 rfl 1 rfl ?_
        refine kr_getI (ci := 4) (j := 10) dX4_studyForgery_83 kr_at_315 fl_RX4_139 rfl (fun v8 => ?_)
        refine kr_icmp_le (tgt := 104) dX4_studyForgery_86 (by decide) ?_ ?_
        · refine kr_sub [1, 2, 3] rfl ?_
          exact r_X4_studyForgery_104 E _ l1 l2 ih M6
        · refine kr_aload_n dX4_studyForgery_89 rfl 1 rfl ?_
          refine kr_iload_n dX4_studyForgery_90 rfl 0 rfl ?_
          refine kr_putI (ci := 4) (j := 10) dX4_studyForgery_91 kr_at_315 fl_RX4_139 rfl rfl (fun M9 => ?_)
          refine kr_aload_n dX4_studyForgery_94 rfl 1 rfl ?_
          refine kr_iload_n dX4_studyForgery_95 rfl 2 rfl ?_
          refine kr_putI (ci := 4) (j := 11) dX4_studyForgery_96 kr_at_315 fl_RX4_142 rfl rfl (fun M10 => ?_)
          refine kr_aload_n dX4_studyForgery_99 rfl 1 rfl ?_
          refine kr_iload_n dX4_studyForgery_100 rfl 3 rfl ?_
          refine kr_putI (ci := 4) (j := 12) dX4_studyForgery_101 kr_at_315 fl_RX4_145 rfl rfl (fun M11 => ?_)
          refine kr_sub [1, 2, 3] rfl ?_
          exact r_X4_studyForgery_104 E _ l1 l2 ih M11
theorem r_X4_studyForgery_17 (E : kr_E)    : ∀ (n : Nat) (l1 : Int32) (M : kr_M), kR kr_vv E Y_X4_studyForgery 2 17 [(0, kr_r E 315), (1, .int l1)] [] M (f_X4_studyForgery_17 n l1 M) := by
  intro n
  induction n with
  | zero => intro l1 M; exact kr_none
  | succ n ih =>
    intro l1 M
    rw [f_X4_studyForgery_17]
    refine kr_iload_n dX4_studyForgery_17 rfl 1 rfl ?_
    refine kr_aload_n dX4_studyForgery_18 rfl 0 rfl ?_
    refine kr_getA (o := 1) (ci := 4) (j := 1) dX4_studyForgery_19 kr_at_315 fl_RX4_14 rfl ?_
    refine kr_getI (ci := 7) (j := 1) dX4_studyForgery_22 kr_at_316 fl_RX4_51 rfl (fun v1 => ?_)
    refine kr_icmp_ge (tgt := 116) dX4_studyForgery_25 (by decide) ?_ ?_
    · exact kr_vret dX4_studyForgery_116 rfl
    · refine kr_aload_n dX4_studyForgery_28 rfl 0 rfl ?_
      refine kr_getA (o := 3) (ci := 4) (j := 2) dX4_studyForgery_29 kr_at_315 fl_RX4_20 rfl ?_
      refine kr_iconst (v := 0) dX4_studyForgery_32 (by decide) ?_
      refine kr_iald dX4_studyForgery_33 kr_at_318 (fun v2 => ?_)
      refine kr_if_le (tgt := 116) dX4_studyForgery_34 (by decide) ?_ ?_
      · exact kr_vret dX4_studyForgery_116 rfl
      · refine kr_iconst (v := 0) dX4_studyForgery_37 (by decide) ?_
        refine kr_istore_n (lv' := [(2, .int (0 : Int32)), (0, kr_r E 315), (1, .int l1)]) dX4_studyForgery_38 rfl (by decide) rfl ?_
        refine kr_sub [1, 2, 0] rfl ?_
        exact r_X4_studyForgery_39 E _ l1 ih _ (0 : Int32) M
theorem r_X4_studyForgery (E : kr_E)  (M : kr_M) : kR kr_vv E Y_X4_studyForgery 2 0 [(0, kr_r E 315)] [] M (f_X4_studyForgery M) := by
  rw [f_X4_studyForgery]
  refine kr_aload_n dX4_studyForgery_0 rfl 0 rfl ?_
  refine kr_iconst (v := -1) dX4_studyForgery_1 (by decide) ?_
  refine kr_putI (ci := 4) (j := 10) dX4_studyForgery_2 kr_at_315 fl_RX4_139 rfl rfl (fun M1 => ?_)
  refine kr_aload_n dX4_studyForgery_5 rfl 0 rfl ?_
  refine kr_iconst (v := -1) dX4_studyForgery_6 (by decide) ?_
  refine kr_putI (ci := 4) (j := 11) dX4_studyForgery_7 kr_at_315 fl_RX4_142 rfl rfl (fun M2 => ?_)
  refine kr_aload_n dX4_studyForgery_10 rfl 0 rfl ?_
  refine kr_iconst (v := -1) dX4_studyForgery_11 (by decide) ?_
  refine kr_putI (ci := 4) (j := 12) dX4_studyForgery_12 kr_at_315 fl_RX4_145 rfl rfl (fun M3 => ?_)
  refine kr_iconst (v := 0) dX4_studyForgery_15 (by decide) ?_
  refine kr_istore_n (lv' := [(1, .int (0 : Int32)), (0, kr_r E 315)]) dX4_studyForgery_16 rfl (by decide) rfl ?_
  refine kr_sub [1, 0] rfl ?_
  exact r_X4_studyForgery_17 E _ (0 : Int32) M3
theorem dX6_putFour_0 : decode cX6_putFour 0 = .ok (.bipush 24, 2) := by decide +kernel
theorem dX6_putFour_2 : decode cX6_putFour 2 = .ok (.istore_n 2, 1) := by decide +kernel
theorem dX6_putFour_3 : decode cX6_putFour 3 = .ok (.iload_n 2, 1) := by decide +kernel
theorem dX6_putFour_4 : decode cX6_putFour 4 = .ok (.ifCond .lt 42, 3) := by decide +kernel
theorem dX6_putFour_7 : decode cX6_putFour 7 = .ok (.aload_n 0, 1) := by decide +kernel
theorem dX6_putFour_8 : decode cX6_putFour 8 = .ok (.getfield 19, 3) := by decide +kernel
theorem dX6_putFour_11 : decode cX6_putFour 11 = .ok (.sipush 1400, 3) := by decide +kernel
theorem dX6_putFour_14 : decode cX6_putFour 14 = .ok (.if_icmp .ge 32, 3) := by decide +kernel
theorem dX6_putFour_17 : decode cX6_putFour 17 = .ok (.aload_n 0, 1) := by decide +kernel
theorem dX6_putFour_18 : decode cX6_putFour 18 = .ok (.getfield 9, 3) := by decide +kernel
theorem dX6_putFour_21 : decode cX6_putFour 21 = .ok (.aload_n 0, 1) := by decide +kernel
theorem dX6_putFour_22 : decode cX6_putFour 22 = .ok (.getfield 19, 3) := by decide +kernel
theorem dX6_putFour_25 : decode cX6_putFour 25 = .ok (.iload_n 1, 1) := by decide +kernel
theorem dX6_putFour_26 : decode cX6_putFour 26 = .ok (.iload_n 2, 1) := by decide +kernel
theorem dX6_putFour_27 : decode cX6_putFour 27 = .ok (.iushr, 1) := by decide +kernel
theorem dX6_putFour_28 : decode cX6_putFour 28 = .ok (.i2b, 1) := by decide +kernel
theorem dX6_putFour_29 : decode cX6_putFour 29 = .ok (.bastore, 1) := by decide +kernel
theorem dX6_putFour_30 : decode cX6_putFour 30 = .ok (.aload_n 0, 1) := by decide +kernel
theorem dX6_putFour_31 : decode cX6_putFour 31 = .ok (.dup, 1) := by decide +kernel
theorem dX6_putFour_32 : decode cX6_putFour 32 = .ok (.getfield 19, 3) := by decide +kernel
theorem dX6_putFour_35 : decode cX6_putFour 35 = .ok (.iconst 1, 1) := by decide +kernel
theorem dX6_putFour_36 : decode cX6_putFour 36 = .ok (.iadd, 1) := by decide +kernel
theorem dX6_putFour_37 : decode cX6_putFour 37 = .ok (.putfield 19, 3) := by decide +kernel
theorem dX6_putFour_40 : decode cX6_putFour 40 = .ok (.iinc 2 (-8), 3) := by decide +kernel
theorem dX6_putFour_43 : decode cX6_putFour 43 = .ok (.goto (-40), 3) := by decide +kernel
theorem dX6_putFour_46 : decode cX6_putFour 46 = .ok (.return_, 1) := by decide +kernel
theorem r_X6_putFour_3 (E : kr_E)  (l1 : Int32)  : ∀ (n : Nat) (l2 : Int32) (M : kr_M), kR kr_vv E Y_X6_putFour 1 3 [(0, kr_r E 1), (1, .int l1), (2, .int l2)] [] M (f_X6_putFour_3 l1 n l2 M) := by
  intro n
  induction n with
  | zero => intro l2 M; exact kr_none
  | succ n ih =>
    intro l2 M
    rw [f_X6_putFour_3]
    refine kr_iload_n dX6_putFour_3 rfl 2 rfl ?_
    refine kr_if_lt (tgt := 46) dX6_putFour_4 (by decide) ?_ ?_
    · exact kr_vret dX6_putFour_46 rfl
    · refine kr_aload_n dX6_putFour_7 rfl 0 rfl ?_
      refine kr_getI (ci := 6) (j := 1) dX6_putFour_8 kr_at_1 fl_RX6_19 rfl (fun v1 => ?_)
      refine kr_sipush (v := 1400) dX6_putFour_11 (by decide) ?_
      refine kr_icmp_ge (tgt := 46) dX6_putFour_14 (by decide) ?_ ?_
      · exact kr_vret dX6_putFour_46 rfl
      · refine kr_aload_n dX6_putFour_17 rfl 0 rfl ?_
        refine kr_getA (o := 1) (ci := 6) (j := 0) dX6_putFour_18 kr_at_1 fl_RX6_9 rfl ?_
        refine kr_aload_n dX6_putFour_21 rfl 0 rfl ?_
        refine kr_getI (ci := 6) (j := 1) dX6_putFour_22 kr_at_1 fl_RX6_19 rfl (fun v2 => ?_)
        refine kr_iload_n dX6_putFour_25 rfl 1 rfl ?_
        refine kr_iload_n dX6_putFour_26 rfl 2 rfl ?_
        refine kr_iushr dX6_putFour_27 ?_
        refine kr_i2b dX6_putFour_28 ?_
        refine kr_bast dX6_putFour_29 kr_at_2 (fun M3 => ?_)
        refine kr_aload_n dX6_putFour_30 rfl 0 rfl ?_
        refine kr_dup dX6_putFour_31 rfl ?_
        refine kr_getI (ci := 6) (j := 1) dX6_putFour_32 kr_at_1 fl_RX6_19 rfl (fun v4 => ?_)
        refine kr_iconst (v := 1) dX6_putFour_35 (by decide) ?_
        refine kr_iadd dX6_putFour_36 ?_
        refine kr_putI (ci := 6) (j := 1) dX6_putFour_37 kr_at_1 fl_RX6_19 rfl rfl (fun M5 => ?_)
        refine kr_iinc (j := 2) (v := (l2 + (-8 : Int32))) (lv' := [(2, .int (l2 + (-8 : Int32))), (0, kr_r E 1), (1, .int l1)]) dX6_putFour_40 rfl rfl (by decide) rfl ?_
        refine kr_goto (tgt := 3) dX6_putFour_43 (by decide) ?_
        refine kr_sub [1, 2, 0] rfl ?_
        exact ih (l2 + (-8 : Int32)) M5
theorem r_X6_putFour (E : kr_E) (p1 : Int32) (M : kr_M) : kR kr_vv E Y_X6_putFour 1 0 [(0, kr_r E 1), (1, .int p1)] [] M (f_X6_putFour p1 M) := by
  rw [f_X6_putFour]
  refine kr_bipush (v := 24) dX6_putFour_0 (by decide) ?_
  refine kr_istore_n (lv' := [(2, .int (24 : Int32)), (0, kr_r E 1), (1, .int p1)]) dX6_putFour_2 rfl (by decide) rfl ?_
  refine kr_sub [1, 2, 0] rfl ?_
  exact r_X6_putFour_3 E p1 _ (24 : Int32) M
theorem dX6_blame_0 : decode cX6_blame 0 = .ok (.aload_n 0, 1) := by decide +kernel
theorem dX6_blame_1 : decode cX6_blame 1 = .ok (.getfield 27, 3) := by decide +kernel
theorem dX6_blame_4 : decode cX6_blame 4 = .ok (.ifCond .ne 16, 3) := by decide +kernel
theorem dX6_blame_7 : decode cX6_blame 7 = .ok (.aload_n 0, 1) := by decide +kernel
theorem dX6_blame_8 : decode cX6_blame 8 = .ok (.iload_n 1, 1) := by decide +kernel
theorem dX6_blame_9 : decode cX6_blame 9 = .ok (.putfield 27, 3) := by decide +kernel
theorem dX6_blame_12 : decode cX6_blame 12 = .ok (.aload_n 0, 1) := by decide +kernel
theorem dX6_blame_13 : decode cX6_blame 13 = .ok (.aload_n 0, 1) := by decide +kernel
theorem dX6_blame_14 : decode cX6_blame 14 = .ok (.getfield 196, 3) := by decide +kernel
theorem dX6_blame_17 : decode cX6_blame 17 = .ok (.putfield 15, 3) := by decide +kernel
theorem dX6_blame_20 : decode cX6_blame 20 = .ok (.return_, 1) := by decide +kernel
theorem r_X6_blame (E : kr_E) (p1 : Int32) (M : kr_M) : kR kr_vv E Y_X6_blame 1 0 [(0, kr_r E 1), (1, .int p1)] [] M (f_X6_blame p1 M) := by
  rw [f_X6_blame]
  refine kr_aload_n dX6_blame_0 rfl 0 rfl ?_
  refine kr_getI (ci := 6) (j := 2) dX6_blame_1 kr_at_1 fl_RX6_27 rfl (fun v1 => ?_)
  refine kr_if_ne (tgt := 20) dX6_blame_4 (by decide) ?_ ?_
  · exact kr_vret dX6_blame_20 rfl
  · refine kr_aload_n dX6_blame_7 rfl 0 rfl ?_
    refine kr_iload_n dX6_blame_8 rfl 1 rfl ?_
    refine kr_putI (ci := 6) (j := 2) dX6_blame_9 kr_at_1 fl_RX6_27 rfl rfl (fun M2 => ?_)
    refine kr_aload_n dX6_blame_12 rfl 0 rfl ?_
    refine kr_aload_n dX6_blame_13 rfl 0 rfl ?_
    refine kr_getI (ci := 6) (j := 5) dX6_blame_14 kr_at_1 fl_RX6_196 rfl (fun v3 => ?_)
    refine kr_putI (ci := 6) (j := 3) dX6_blame_17 kr_at_1 fl_RX6_15 rfl rfl (fun M4 => ?_)
    exact kr_vret dX6_blame_20 rfl
theorem dX6_isWord_0 : decode cX6_isWord 0 = .ok (.aload_n 0, 1) := by decide +kernel
theorem dX6_isWord_1 : decode cX6_isWord 1 = .ok (.getfield 36, 3) := by decide +kernel
theorem dX6_isWord_4 : decode cX6_isWord 4 = .ok (.iconst 1, 1) := by decide +kernel
theorem dX6_isWord_5 : decode cX6_isWord 5 = .ok (.if_icmp .ne 19, 3) := by decide +kernel
theorem dX6_isWord_8 : decode cX6_isWord 8 = .ok (.aload_n 0, 1) := by decide +kernel
theorem dX6_isWord_9 : decode cX6_isWord 9 = .ok (.getfield 30, 3) := by decide +kernel
theorem dX6_isWord_12 : decode cX6_isWord 12 = .ok (.aload_n 0, 1) := by decide +kernel
theorem dX6_isWord_13 : decode cX6_isWord 13 = .ok (.getfield 196, 3) := by decide +kernel
theorem dX6_isWord_16 : decode cX6_isWord 16 = .ok (.isub, 1) := by decide +kernel
theorem dX6_isWord_17 : decode cX6_isWord 17 = .ok (.aload_n 1, 1) := by decide +kernel
theorem dX6_isWord_18 : decode cX6_isWord 18 = .ok (.invokevirtual 199, 3) := by decide +kernel
theorem dX6_isWord_21 : decode cX6_isWord 21 = .ok (.if_icmp .eq 5, 3) := by decide +kernel
theorem dX6_isWord_24 : decode cX6_isWord 24 = .ok (.iconst 0, 1) := by decide +kernel
theorem dX6_isWord_25 : decode cX6_isWord 25 = .ok (.ireturn, 1) := by decide +kernel
theorem dX6_isWord_26 : decode cX6_isWord 26 = .ok (.iconst 0, 1) := by decide +kernel
theorem dX6_isWord_27 : decode cX6_isWord 27 = .ok (.istore_n 2, 1) := by decide +kernel
theorem dX6_isWord_28 : decode cX6_isWord 28 = .ok (.iload_n 2, 1) := by decide +kernel
theorem dX6_isWord_29 : decode cX6_isWord 29 = .ok (.aload_n 1, 1) := by decide +kernel
theorem dX6_isWord_30 : decode cX6_isWord 30 = .ok (.invokevirtual 199, 3) := by decide +kernel
theorem dX6_isWord_33 : decode cX6_isWord 33 = .ok (.if_icmp .ge 30, 3) := by decide +kernel
theorem dX6_isWord_36 : decode cX6_isWord 36 = .ok (.aload_n 0, 1) := by decide +kernel
theorem dX6_isWord_37 : decode cX6_isWord 37 = .ok (.getfield 9, 3) := by decide +kernel
theorem dX6_isWord_40 : decode cX6_isWord 40 = .ok (.aload_n 0, 1) := by decide +kernel
theorem dX6_isWord_41 : decode cX6_isWord 41 = .ok (.getfield 196, 3) := by decide +kernel
theorem dX6_isWord_44 : decode cX6_isWord 44 = .ok (.iload_n 2, 1) := by decide +kernel
theorem dX6_isWord_45 : decode cX6_isWord 45 = .ok (.iadd, 1) := by decide +kernel
theorem dX6_isWord_46 : decode cX6_isWord 46 = .ok (.baload, 1) := by decide +kernel
theorem dX6_isWord_47 : decode cX6_isWord 47 = .ok (.aload_n 1, 1) := by decide +kernel
theorem dX6_isWord_48 : decode cX6_isWord 48 = .ok (.iload_n 2, 1) := by decide +kernel
theorem dX6_isWord_49 : decode cX6_isWord 49 = .ok (.invokevirtual 205, 3) := by decide +kernel
theorem dX6_isWord_52 : decode cX6_isWord 52 = .ok (.if_icmp .eq 5, 3) := by decide +kernel
theorem dX6_isWord_55 : decode cX6_isWord 55 = .ok (.iconst 0, 1) := by decide +kernel
theorem dX6_isWord_56 : decode cX6_isWord 56 = .ok (.ireturn, 1) := by decide +kernel
theorem dX6_isWord_57 : decode cX6_isWord 57 = .ok (.iinc 2 1, 3) := by decide +kernel
theorem dX6_isWord_60 : decode cX6_isWord 60 = .ok (.goto (-32), 3) := by decide +kernel
theorem dX6_isWord_63 : decode cX6_isWord 63 = .ok (.iconst 1, 1) := by decide +kernel
theorem dX6_isWord_64 : decode cX6_isWord 64 = .ok (.ireturn, 1) := by decide +kernel
theorem r_X6_isWord_28 (E : kr_E)  (l1 : Nat) (h_l1 : l1 < 17)  : ∀ (n : Nat) (l2 : Int32) (M : kr_M), kR kr_vi E Y_X6_isWord 5 28 [(0, kr_r E 1), (1, .ref (E.2.2.2.2.1 l1)), (2, .int l2)] [] M (f_X6_isWord_28 l1 n l2 M) := by
  intro n
  induction n with
  | zero => intro l2 M; exact kr_none
  | succ n ih =>
    intro l2 M
    rw [f_X6_isWord_28]
    refine kr_iload_n dX6_isWord_28 rfl 2 rfl ?_
    refine kr_aload_n dX6_isWord_29 rfl 1 rfl ?_
    refine kr_strlen dX6_isWord_30 ml_RX6_199 h_l1 (by decide) (Nat.le_of_ble_eq_true rfl) (fun v1 => ?_)
    refine kr_icmp_ge (tgt := 63) dX6_isWord_33 (by decide) ?_ ?_
    · refine kr_iconst (v := 1) dX6_isWord_63 (by decide) ?_
      exact kr_zret1 dX6_isWord_64 rfl rfl
    · refine kr_aload_n dX6_isWord_36 rfl 0 rfl ?_
      refine kr_getA (o := 1) (ci := 6) (j := 0) dX6_isWord_37 kr_at_1 fl_RX6_9 rfl ?_
      refine kr_aload_n dX6_isWord_40 rfl 0 rfl ?_
      refine kr_getI (ci := 6) (j := 5) dX6_isWord_41 kr_at_1 fl_RX6_196 rfl (fun v2 => ?_)
      refine kr_iload_n dX6_isWord_44 rfl 2 rfl ?_
      refine kr_iadd dX6_isWord_45 ?_
      refine kr_bald dX6_isWord_46 kr_at_2 (fun v3 => ?_)
      refine kr_aload_n dX6_isWord_47 rfl 1 rfl ?_
      refine kr_iload_n dX6_isWord_48 rfl 2 rfl ?_
      refine kr_strchr dX6_isWord_49 ml_RX6_205 h_l1 (by decide) (Nat.le_of_ble_eq_true rfl) (fun v4 => ?_)
      refine kr_icmp_eq (tgt := 57) dX6_isWord_52 (by decide) ?_ ?_
      · refine kr_iinc (j := 2) (v := (l2 + (1 : Int32))) (lv' := [(2, .int (l2 + (1 : Int32))), (0, kr_r E 1), (1, .ref (E.2.2.2.2.1 l1))]) dX6_isWord_57 rfl rfl (by decide) rfl ?_
        refine kr_goto (tgt := 28) dX6_isWord_60 (by decide) ?_
        refine kr_sub [1, 2, 0] rfl ?_
        exact ih (l2 + (1 : Int32)) M
      · refine kr_iconst (v := 0) dX6_isWord_55 (by decide) ?_
        exact kr_zret1 dX6_isWord_56 rfl rfl
theorem r_X6_isWord (E : kr_E) (p1 : Nat) (h_p1 : p1 < 17) (M : kr_M) : kR kr_vi E Y_X6_isWord 5 0 [(0, kr_r E 1), (1, .ref (E.2.2.2.2.1 p1))] [] M (f_X6_isWord p1 M) := by
  rw [f_X6_isWord]
  refine kr_aload_n dX6_isWord_0 rfl 0 rfl ?_
  refine kr_getI (ci := 6) (j := 4) dX6_isWord_1 kr_at_1 fl_RX6_36 rfl (fun v1 => ?_)
  refine kr_iconst (v := 1) dX6_isWord_4 (by decide) ?_
  refine kr_icmp_ne (tgt := 24) dX6_isWord_5 (by decide) ?_ ?_
  · refine kr_iconst (v := 0) dX6_isWord_24 (by decide) ?_
    exact kr_zret1 dX6_isWord_25 rfl rfl
  · refine kr_aload_n dX6_isWord_8 rfl 0 rfl ?_
    refine kr_getI (ci := 6) (j := 6) dX6_isWord_9 kr_at_1 fl_RX6_30 rfl (fun v2 => ?_)
    refine kr_aload_n dX6_isWord_12 rfl 0 rfl ?_
    refine kr_getI (ci := 6) (j := 5) dX6_isWord_13 kr_at_1 fl_RX6_196 rfl (fun v3 => ?_)
    refine kr_isub dX6_isWord_16 ?_
    refine kr_aload_n dX6_isWord_17 rfl 1 rfl ?_
    refine kr_strlen dX6_isWord_18 ml_RX6_199 h_p1 (by decide) (Nat.le_of_ble_eq_true rfl) (fun v4 => ?_)
    refine kr_icmp_eq (tgt := 26) dX6_isWord_21 (by decide) ?_ ?_
    · refine kr_iconst (v := 0) dX6_isWord_26 (by decide) ?_
      refine kr_istore_n (lv' := [(2, .int (0 : Int32)), (0, kr_r E 1), (1, .ref (E.2.2.2.2.1 p1))]) dX6_isWord_27 rfl (by decide) rfl ?_
      refine kr_sub [1, 2, 0] rfl ?_
      exact r_X6_isWord_28 E p1 h_p1 _ (0 : Int32) M
    · refine kr_iconst (v := 0) dX6_isWord_24 (by decide) ?_
      exact kr_zret1 dX6_isWord_25 rfl rfl
theorem dX6_isDigit_0 : decode cX6_isDigit 0 = .ok (.iload_n 0, 1) := by decide +kernel
theorem dX6_isDigit_1 : decode cX6_isDigit 1 = .ok (.bipush 48, 2) := by decide +kernel
theorem dX6_isDigit_3 : decode cX6_isDigit 3 = .ok (.if_icmp .lt 13, 3) := by decide +kernel
theorem dX6_isDigit_6 : decode cX6_isDigit 6 = .ok (.iload_n 0, 1) := by decide +kernel
theorem dX6_isDigit_7 : decode cX6_isDigit 7 = .ok (.bipush 57, 2) := by decide +kernel
theorem dX6_isDigit_9 : decode cX6_isDigit 9 = .ok (.if_icmp .gt 7, 3) := by decide +kernel
theorem dX6_isDigit_12 : decode cX6_isDigit 12 = .ok (.iconst 1, 1) := by decide +kernel
theorem dX6_isDigit_13 : decode cX6_isDigit 13 = .ok (.goto 4, 3) := by decide +kernel
theorem dX6_isDigit_16 : decode cX6_isDigit 16 = .ok (.iconst 0, 1) := by decide +kernel
theorem dX6_isDigit_17 : decode cX6_isDigit 17 = .ok (.ireturn, 1) := by decide +kernel
theorem r_X6_isDigit (E : kr_E) (p0 : Int32) (M : kr_M) : kR kr_vi E Y_X6_isDigit 1 0 [(0, .int p0)] [] M (f_X6_isDigit p0 M) := by
  rw [f_X6_isDigit]
  refine kr_iload_n dX6_isDigit_0 rfl 0 rfl ?_
  refine kr_bipush (v := 48) dX6_isDigit_1 (by decide) ?_
  refine kr_icmp_lt (tgt := 16) dX6_isDigit_3 (by decide) ?_ ?_
  · refine kr_iconst (v := 0) dX6_isDigit_16 (by decide) ?_
    exact kr_zret1 dX6_isDigit_17 rfl rfl
  · refine kr_iload_n dX6_isDigit_6 rfl 0 rfl ?_
    refine kr_bipush (v := 57) dX6_isDigit_7 (by decide) ?_
    refine kr_icmp_gt (tgt := 16) dX6_isDigit_9 (by decide) ?_ ?_
    · refine kr_iconst (v := 0) dX6_isDigit_16 (by decide) ?_
      exact kr_zret1 dX6_isDigit_17 rfl rfl
    · refine kr_iconst (v := 1) dX6_isDigit_12 (by decide) ?_
      refine kr_goto (tgt := 17) dX6_isDigit_13 (by decide) ?_
      exact kr_zret1 dX6_isDigit_17 rfl rfl
theorem dX6_isLetter_0 : decode cX6_isLetter 0 = .ok (.iload_n 0, 1) := by decide +kernel
theorem dX6_isLetter_1 : decode cX6_isLetter 1 = .ok (.bipush 97, 2) := by decide +kernel
theorem dX6_isLetter_3 : decode cX6_isLetter 3 = .ok (.if_icmp .lt 13, 3) := by decide +kernel
theorem dX6_isLetter_6 : decode cX6_isLetter 6 = .ok (.iload_n 0, 1) := by decide +kernel
theorem dX6_isLetter_7 : decode cX6_isLetter 7 = .ok (.bipush 122, 2) := by decide +kernel
theorem dX6_isLetter_9 : decode cX6_isLetter 9 = .ok (.if_icmp .gt 7, 3) := by decide +kernel
theorem dX6_isLetter_12 : decode cX6_isLetter 12 = .ok (.iconst 1, 1) := by decide +kernel
theorem dX6_isLetter_13 : decode cX6_isLetter 13 = .ok (.goto 4, 3) := by decide +kernel
theorem dX6_isLetter_16 : decode cX6_isLetter 16 = .ok (.iconst 0, 1) := by decide +kernel
theorem dX6_isLetter_17 : decode cX6_isLetter 17 = .ok (.ireturn, 1) := by decide +kernel
theorem r_X6_isLetter (E : kr_E) (p0 : Int32) (M : kr_M) : kR kr_vi E Y_X6_isLetter 1 0 [(0, .int p0)] [] M (f_X6_isLetter p0 M) := by
  rw [f_X6_isLetter]
  refine kr_iload_n dX6_isLetter_0 rfl 0 rfl ?_
  refine kr_bipush (v := 97) dX6_isLetter_1 (by decide) ?_
  refine kr_icmp_lt (tgt := 16) dX6_isLetter_3 (by decide) ?_ ?_
  · refine kr_iconst (v := 0) dX6_isLetter_16 (by decide) ?_
    exact kr_zret1 dX6_isLetter_17 rfl rfl
  · refine kr_iload_n dX6_isLetter_6 rfl 0 rfl ?_
    refine kr_bipush (v := 122) dX6_isLetter_7 (by decide) ?_
    refine kr_icmp_gt (tgt := 16) dX6_isLetter_9 (by decide) ?_ ?_
    · refine kr_iconst (v := 0) dX6_isLetter_16 (by decide) ?_
      exact kr_zret1 dX6_isLetter_17 rfl rfl
    · refine kr_iconst (v := 1) dX6_isLetter_12 (by decide) ?_
      refine kr_goto (tgt := 17) dX6_isLetter_13 (by decide) ?_
      exact kr_zret1 dX6_isLetter_17 rfl rfl
theorem dX6_next_0 : decode cX6_next 0 = .ok (.aload_n 0, 1) := by decide +kernel
theorem dX6_next_1 : decode cX6_next 1 = .ok (.getfield 27, 3) := by decide +kernel
theorem dX6_next_4 : decode cX6_next 4 = .ok (.ifCond .eq 9, 3) := by decide +kernel
theorem dX6_next_7 : decode cX6_next 7 = .ok (.aload_n 0, 1) := by decide +kernel
theorem dX6_next_8 : decode cX6_next 8 = .ok (.iconst 0, 1) := by decide +kernel
theorem dX6_next_9 : decode cX6_next 9 = .ok (.putfield 36, 3) := by decide +kernel
theorem dX6_next_12 : decode cX6_next 12 = .ok (.return_, 1) := by decide +kernel
theorem dX6_next_13 : decode cX6_next 13 = .ok (.aload_n 0, 1) := by decide +kernel
theorem dX6_next_14 : decode cX6_next 14 = .ok (.aload_n 0, 1) := by decide +kernel
theorem dX6_next_15 : decode cX6_next 15 = .ok (.getfield 30, 3) := by decide +kernel
theorem dX6_next_18 : decode cX6_next 18 = .ok (.putfield 196, 3) := by decide +kernel
theorem dX6_next_21 : decode cX6_next 21 = .ok (.aload_n 0, 1) := by decide +kernel
theorem dX6_next_22 : decode cX6_next 22 = .ok (.getfield 196, 3) := by decide +kernel
theorem dX6_next_25 : decode cX6_next 25 = .ok (.aload_n 0, 1) := by decide +kernel
theorem dX6_next_26 : decode cX6_next 26 = .ok (.getfield 19, 3) := by decide +kernel
theorem dX6_next_29 : decode cX6_next 29 = .ok (.if_icmp .ge 44, 3) := by decide +kernel
theorem dX6_next_32 : decode cX6_next 32 = .ok (.aload_n 0, 1) := by decide +kernel
theorem dX6_next_33 : decode cX6_next 33 = .ok (.getfield 9, 3) := by decide +kernel
theorem dX6_next_36 : decode cX6_next 36 = .ok (.aload_n 0, 1) := by decide +kernel
theorem dX6_next_37 : decode cX6_next 37 = .ok (.getfield 196, 3) := by decide +kernel
theorem dX6_next_40 : decode cX6_next 40 = .ok (.baload, 1) := by decide +kernel
theorem dX6_next_41 : decode cX6_next 41 = .ok (.bipush 32, 2) := by decide +kernel
theorem dX6_next_43 : decode cX6_next 43 = .ok (.if_icmp .eq 17, 3) := by decide +kernel
theorem dX6_next_46 : decode cX6_next 46 = .ok (.aload_n 0, 1) := by decide +kernel
theorem dX6_next_47 : decode cX6_next 47 = .ok (.getfield 9, 3) := by decide +kernel
theorem dX6_next_50 : decode cX6_next 50 = .ok (.aload_n 0, 1) := by decide +kernel
theorem dX6_next_51 : decode cX6_next 51 = .ok (.getfield 196, 3) := by decide +kernel
theorem dX6_next_54 : decode cX6_next 54 = .ok (.baload, 1) := by decide +kernel
theorem dX6_next_55 : decode cX6_next 55 = .ok (.bipush 10, 2) := by decide +kernel
theorem dX6_next_57 : decode cX6_next 57 = .ok (.if_icmp .ne 16, 3) := by decide +kernel
theorem dX6_next_60 : decode cX6_next 60 = .ok (.aload_n 0, 1) := by decide +kernel
theorem dX6_next_61 : decode cX6_next 61 = .ok (.dup, 1) := by decide +kernel
theorem dX6_next_62 : decode cX6_next 62 = .ok (.getfield 196, 3) := by decide +kernel
theorem dX6_next_65 : decode cX6_next 65 = .ok (.iconst 1, 1) := by decide +kernel
theorem dX6_next_66 : decode cX6_next 66 = .ok (.iadd, 1) := by decide +kernel
theorem dX6_next_67 : decode cX6_next 67 = .ok (.putfield 196, 3) := by decide +kernel
theorem dX6_next_70 : decode cX6_next 70 = .ok (.goto (-49), 3) := by decide +kernel
theorem dX6_next_73 : decode cX6_next 73 = .ok (.aload_n 0, 1) := by decide +kernel
theorem dX6_next_74 : decode cX6_next 74 = .ok (.aload_n 0, 1) := by decide +kernel
theorem dX6_next_75 : decode cX6_next 75 = .ok (.getfield 196, 3) := by decide +kernel
theorem dX6_next_78 : decode cX6_next 78 = .ok (.putfield 30, 3) := by decide +kernel
theorem dX6_next_81 : decode cX6_next 81 = .ok (.aload_n 0, 1) := by decide +kernel
theorem dX6_next_82 : decode cX6_next 82 = .ok (.iconst 0, 1) := by decide +kernel
theorem dX6_next_83 : decode cX6_next 83 = .ok (.putfield 155, 3) := by decide +kernel
theorem dX6_next_86 : decode cX6_next 86 = .ok (.aload_n 0, 1) := by decide +kernel
theorem dX6_next_87 : decode cX6_next 87 = .ok (.getfield 196, 3) := by decide +kernel
theorem dX6_next_90 : decode cX6_next 90 = .ok (.aload_n 0, 1) := by decide +kernel
theorem dX6_next_91 : decode cX6_next 91 = .ok (.getfield 19, 3) := by decide +kernel
theorem dX6_next_94 : decode cX6_next 94 = .ok (.if_icmp .lt 11, 3) := by decide +kernel
theorem dX6_next_97 : decode cX6_next 97 = .ok (.aload_n 0, 1) := by decide +kernel
theorem dX6_next_98 : decode cX6_next 98 = .ok (.iconst 0, 1) := by decide +kernel
theorem dX6_next_99 : decode cX6_next 99 = .ok (.putfield 36, 3) := by decide +kernel
theorem dX6_next_102 : decode cX6_next 102 = .ok (.goto 183, 3) := by decide +kernel
theorem dX6_next_105 : decode cX6_next 105 = .ok (.aload_n 0, 1) := by decide +kernel
theorem dX6_next_106 : decode cX6_next 106 = .ok (.getfield 9, 3) := by decide +kernel
theorem dX6_next_109 : decode cX6_next 109 = .ok (.aload_n 0, 1) := by decide +kernel
theorem dX6_next_110 : decode cX6_next 110 = .ok (.getfield 196, 3) := by decide +kernel
theorem dX6_next_113 : decode cX6_next 113 = .ok (.baload, 1) := by decide +kernel
theorem dX6_next_114 : decode cX6_next 114 = .ok (.invokestatic 209, 3) := by decide +kernel
theorem dX6_next_117 : decode cX6_next 117 = .ok (.ifCond .eq 47, 3) := by decide +kernel
theorem dX6_next_120 : decode cX6_next 120 = .ok (.aload_n 0, 1) := by decide +kernel
theorem dX6_next_121 : decode cX6_next 121 = .ok (.iconst 1, 1) := by decide +kernel
theorem dX6_next_122 : decode cX6_next 122 = .ok (.putfield 36, 3) := by decide +kernel
theorem dX6_next_125 : decode cX6_next 125 = .ok (.aload_n 0, 1) := by decide +kernel
theorem dX6_next_126 : decode cX6_next 126 = .ok (.getfield 30, 3) := by decide +kernel
theorem dX6_next_129 : decode cX6_next 129 = .ok (.aload_n 0, 1) := by decide +kernel
theorem dX6_next_130 : decode cX6_next 130 = .ok (.getfield 19, 3) := by decide +kernel
theorem dX6_next_133 : decode cX6_next 133 = .ok (.if_icmp .ge 152, 3) := by decide +kernel
theorem dX6_next_136 : decode cX6_next 136 = .ok (.aload_n 0, 1) := by decide +kernel
theorem dX6_next_137 : decode cX6_next 137 = .ok (.getfield 9, 3) := by decide +kernel
theorem dX6_next_140 : decode cX6_next 140 = .ok (.aload_n 0, 1) := by decide +kernel
theorem dX6_next_141 : decode cX6_next 141 = .ok (.getfield 30, 3) := by decide +kernel
theorem dX6_next_144 : decode cX6_next 144 = .ok (.baload, 1) := by decide +kernel
theorem dX6_next_145 : decode cX6_next 145 = .ok (.invokestatic 209, 3) := by decide +kernel
theorem dX6_next_148 : decode cX6_next 148 = .ok (.ifCond .eq 137, 3) := by decide +kernel
theorem dX6_next_151 : decode cX6_next 151 = .ok (.aload_n 0, 1) := by decide +kernel
theorem dX6_next_152 : decode cX6_next 152 = .ok (.dup, 1) := by decide +kernel
theorem dX6_next_153 : decode cX6_next 153 = .ok (.getfield 30, 3) := by decide +kernel
theorem dX6_next_156 : decode cX6_next 156 = .ok (.iconst 1, 1) := by decide +kernel
theorem dX6_next_157 : decode cX6_next 157 = .ok (.iadd, 1) := by decide +kernel
theorem dX6_next_158 : decode cX6_next 158 = .ok (.putfield 30, 3) := by decide +kernel
theorem dX6_next_161 : decode cX6_next 161 = .ok (.goto (-36), 3) := by decide +kernel
theorem dX6_next_164 : decode cX6_next 164 = .ok (.aload_n 0, 1) := by decide +kernel
theorem dX6_next_165 : decode cX6_next 165 = .ok (.getfield 9, 3) := by decide +kernel
theorem dX6_next_168 : decode cX6_next 168 = .ok (.aload_n 0, 1) := by decide +kernel
theorem dX6_next_169 : decode cX6_next 169 = .ok (.getfield 196, 3) := by decide +kernel
theorem dX6_next_172 : decode cX6_next 172 = .ok (.baload, 1) := by decide +kernel
theorem dX6_next_173 : decode cX6_next 173 = .ok (.invokestatic 213, 3) := by decide +kernel
theorem dX6_next_176 : decode cX6_next 176 = .ok (.ifCond .eq 76, 3) := by decide +kernel
theorem dX6_next_179 : decode cX6_next 179 = .ok (.aload_n 0, 1) := by decide +kernel
theorem dX6_next_180 : decode cX6_next 180 = .ok (.iconst 2, 1) := by decide +kernel
theorem dX6_next_181 : decode cX6_next 181 = .ok (.putfield 36, 3) := by decide +kernel
theorem dX6_next_184 : decode cX6_next 184 = .ok (.aload_n 0, 1) := by decide +kernel
theorem dX6_next_185 : decode cX6_next 185 = .ok (.getfield 30, 3) := by decide +kernel
theorem dX6_next_188 : decode cX6_next 188 = .ok (.aload_n 0, 1) := by decide +kernel
theorem dX6_next_189 : decode cX6_next 189 = .ok (.getfield 19, 3) := by decide +kernel
theorem dX6_next_192 : decode cX6_next 192 = .ok (.if_icmp .ge 93, 3) := by decide +kernel
theorem dX6_next_195 : decode cX6_next 195 = .ok (.aload_n 0, 1) := by decide +kernel
theorem dX6_next_196 : decode cX6_next 196 = .ok (.getfield 9, 3) := by decide +kernel
theorem dX6_next_199 : decode cX6_next 199 = .ok (.aload_n 0, 1) := by decide +kernel
theorem dX6_next_200 : decode cX6_next 200 = .ok (.getfield 30, 3) := by decide +kernel
theorem dX6_next_203 : decode cX6_next 203 = .ok (.baload, 1) := by decide +kernel
theorem dX6_next_204 : decode cX6_next 204 = .ok (.invokestatic 213, 3) := by decide +kernel
theorem dX6_next_207 : decode cX6_next 207 = .ok (.ifCond .eq 78, 3) := by decide +kernel
theorem dX6_next_210 : decode cX6_next 210 = .ok (.aload_n 0, 1) := by decide +kernel
theorem dX6_next_211 : decode cX6_next 211 = .ok (.bipush 10, 2) := by decide +kernel
theorem dX6_next_213 : decode cX6_next 213 = .ok (.aload_n 0, 1) := by decide +kernel
theorem dX6_next_214 : decode cX6_next 214 = .ok (.getfield 155, 3) := by decide +kernel
theorem dX6_next_217 : decode cX6_next 217 = .ok (.imul, 1) := by decide +kernel
theorem dX6_next_218 : decode cX6_next 218 = .ok (.aload_n 0, 1) := by decide +kernel
theorem dX6_next_219 : decode cX6_next 219 = .ok (.getfield 9, 3) := by decide +kernel
theorem dX6_next_222 : decode cX6_next 222 = .ok (.aload_n 0, 1) := by decide +kernel
theorem dX6_next_223 : decode cX6_next 223 = .ok (.getfield 30, 3) := by decide +kernel
theorem dX6_next_226 : decode cX6_next 226 = .ok (.baload, 1) := by decide +kernel
theorem dX6_next_227 : decode cX6_next 227 = .ok (.iadd, 1) := by decide +kernel
theorem dX6_next_228 : decode cX6_next 228 = .ok (.bipush 48, 2) := by decide +kernel
theorem dX6_next_230 : decode cX6_next 230 = .ok (.isub, 1) := by decide +kernel
theorem dX6_next_231 : decode cX6_next 231 = .ok (.ldc 216, 2) := by decide +kernel
theorem dX6_next_233 : decode cX6_next 233 = .ok (.invokestatic 217, 3) := by decide +kernel
theorem dX6_next_236 : decode cX6_next 236 = .ok (.putfield 155, 3) := by decide +kernel
theorem dX6_next_239 : decode cX6_next 239 = .ok (.aload_n 0, 1) := by decide +kernel
theorem dX6_next_240 : decode cX6_next 240 = .ok (.dup, 1) := by decide +kernel
theorem dX6_next_241 : decode cX6_next 241 = .ok (.getfield 30, 3) := by decide +kernel
theorem dX6_next_244 : decode cX6_next 244 = .ok (.iconst 1, 1) := by decide +kernel
theorem dX6_next_245 : decode cX6_next 245 = .ok (.iadd, 1) := by decide +kernel
theorem dX6_next_246 : decode cX6_next 246 = .ok (.putfield 30, 3) := by decide +kernel
theorem dX6_next_249 : decode cX6_next 249 = .ok (.goto (-65), 3) := by decide +kernel
theorem dX6_next_252 : decode cX6_next 252 = .ok (.aload_n 0, 1) := by decide +kernel
theorem dX6_next_253 : decode cX6_next 253 = .ok (.aload_n 0, 1) := by decide +kernel
theorem dX6_next_254 : decode cX6_next 254 = .ok (.getfield 9, 3) := by decide +kernel
theorem dX6_next_257 : decode cX6_next 257 = .ok (.aload_n 0, 1) := by decide +kernel
theorem dX6_next_258 : decode cX6_next 258 = .ok (.getfield 196, 3) := by decide +kernel
theorem dX6_next_261 : decode cX6_next 261 = .ok (.baload, 1) := by decide +kernel
theorem dX6_next_262 : decode cX6_next 262 = .ok (.bipush 59, 2) := by decide +kernel
theorem dX6_next_264 : decode cX6_next 264 = .ok (.if_icmp .ne 7, 3) := by decide +kernel
theorem dX6_next_267 : decode cX6_next 267 = .ok (.iconst 3, 1) := by decide +kernel
theorem dX6_next_268 : decode cX6_next 268 = .ok (.goto 4, 3) := by decide +kernel
theorem dX6_next_271 : decode cX6_next 271 = .ok (.iconst 4, 1) := by decide +kernel
theorem dX6_next_272 : decode cX6_next 272 = .ok (.putfield 36, 3) := by decide +kernel
theorem dX6_next_275 : decode cX6_next 275 = .ok (.aload_n 0, 1) := by decide +kernel
theorem dX6_next_276 : decode cX6_next 276 = .ok (.dup, 1) := by decide +kernel
theorem dX6_next_277 : decode cX6_next 277 = .ok (.getfield 30, 3) := by decide +kernel
theorem dX6_next_280 : decode cX6_next 280 = .ok (.iconst 1, 1) := by decide +kernel
theorem dX6_next_281 : decode cX6_next 281 = .ok (.iadd, 1) := by decide +kernel
theorem dX6_next_282 : decode cX6_next 282 = .ok (.putfield 30, 3) := by decide +kernel
theorem dX6_next_285 : decode cX6_next 285 = .ok (.return_, 1) := by decide +kernel
theorem r_X6_next_272 (E : kr_E)  (s0 : Int32)  (M : kr_M) : kR kr_vv E Y_X6_next 2 272 [(0, kr_r E 1)] [.int s0, kr_r E 1] M (f_X6_next_272 s0 M) := by
  rw [f_X6_next_272]
  refine kr_putI (ci := 6) (j := 4) dX6_next_272 kr_at_1 fl_RX6_36 rfl rfl (fun M1 => ?_)
  refine kr_aload_n dX6_next_275 rfl 0 rfl ?_
  refine kr_dup dX6_next_276 rfl ?_
  refine kr_getI (ci := 6) (j := 6) dX6_next_277 kr_at_1 fl_RX6_30 rfl (fun v2 => ?_)
  refine kr_iconst (v := 1) dX6_next_280 (by decide) ?_
  refine kr_iadd dX6_next_281 ?_
  refine kr_putI (ci := 6) (j := 6) dX6_next_282 kr_at_1 fl_RX6_30 rfl rfl (fun M3 => ?_)
  exact kr_vret dX6_next_285 rfl
theorem r_X6_next_184 (E : kr_E)    : ∀ (n : Nat)  (M : kr_M), kR kr_vv E Y_X6_next 2 184 [(0, kr_r E 1)] [] M (f_X6_next_184 n M) := by
  intro n
  induction n with
  | zero => intro  M; exact kr_none
  | succ n ih =>
    intro  M
    rw [f_X6_next_184]
    refine kr_aload_n dX6_next_184 rfl 0 rfl ?_
    refine kr_getI (ci := 6) (j := 6) dX6_next_185 kr_at_1 fl_RX6_30 rfl (fun v1 => ?_)
    refine kr_aload_n dX6_next_188 rfl 0 rfl ?_
    refine kr_getI (ci := 6) (j := 1) dX6_next_189 kr_at_1 fl_RX6_19 rfl (fun v2 => ?_)
    refine kr_icmp_ge (tgt := 285) dX6_next_192 (by decide) ?_ ?_
    · exact kr_vret dX6_next_285 rfl
    · refine kr_aload_n dX6_next_195 rfl 0 rfl ?_
      refine kr_getA (o := 1) (ci := 6) (j := 0) dX6_next_196 kr_at_1 fl_RX6_9 rfl ?_
      refine kr_aload_n dX6_next_199 rfl 0 rfl ?_
      refine kr_getI (ci := 6) (j := 6) dX6_next_200 kr_at_1 fl_RX6_30 rfl (fun v3 => ?_)
      refine kr_bald dX6_next_203 kr_at_2 (fun v4 => ?_)
      refine kr_Si (As := [.int v4]) (st := []) zs_X6_isDigit dX6_next_204 ml_RX6_213 (r_X6_isDigit E v4 M) rfl rfl (Nat.le_of_ble_eq_true rfl) rfl (by decide) (Nat.le_of_ble_eq_true rfl) (fun r6 M5 => ?_)
      refine kr_if_eq (tgt := 285) dX6_next_207 (by decide) ?_ ?_
      · exact kr_vret dX6_next_285 rfl
      · refine kr_aload_n dX6_next_210 rfl 0 rfl ?_
        refine kr_bipush (v := 10) dX6_next_211 (by decide) ?_
        refine kr_aload_n dX6_next_213 rfl 0 rfl ?_
        refine kr_getI (ci := 6) (j := 7) dX6_next_214 kr_at_1 fl_RX6_155 rfl (fun v7 => ?_)
        refine kr_imul dX6_next_217 ?_
        refine kr_aload_n dX6_next_218 rfl 0 rfl ?_
        refine kr_getA (o := 1) (ci := 6) (j := 0) dX6_next_219 kr_at_1 fl_RX6_9 rfl ?_
        refine kr_aload_n dX6_next_222 rfl 0 rfl ?_
        refine kr_getI (ci := 6) (j := 6) dX6_next_223 kr_at_1 fl_RX6_30 rfl (fun v8 => ?_)
        refine kr_bald dX6_next_226 kr_at_2 (fun v9 => ?_)
        refine kr_iadd dX6_next_227 ?_
        refine kr_bipush (v := 48) dX6_next_228 (by decide) ?_
        refine kr_isub dX6_next_230 ?_
        refine kr_ldc dX6_next_231 kc_RX6_216 ?_
        refine kr_mmin dX6_next_233 ml_RX6_217 (by decide) (Nat.le_of_ble_eq_true rfl) ?_
        refine kr_putI (ci := 6) (j := 7) dX6_next_236 kr_at_1 fl_RX6_155 rfl rfl (fun M10 => ?_)
        refine kr_aload_n dX6_next_239 rfl 0 rfl ?_
        refine kr_dup dX6_next_240 rfl ?_
        refine kr_getI (ci := 6) (j := 6) dX6_next_241 kr_at_1 fl_RX6_30 rfl (fun v11 => ?_)
        refine kr_iconst (v := 1) dX6_next_244 (by decide) ?_
        refine kr_iadd dX6_next_245 ?_
        refine kr_putI (ci := 6) (j := 6) dX6_next_246 kr_at_1 fl_RX6_30 rfl rfl (fun M12 => ?_)
        refine kr_goto (tgt := 184) dX6_next_249 (by decide) ?_
        refine kr_sub [0] rfl ?_
        exact ih M12
theorem r_X6_next_125 (E : kr_E)    : ∀ (n : Nat)  (M : kr_M), kR kr_vv E Y_X6_next 2 125 [(0, kr_r E 1)] [] M (f_X6_next_125 n M) := by
  intro n
  induction n with
  | zero => intro  M; exact kr_none
  | succ n ih =>
    intro  M
    rw [f_X6_next_125]
    refine kr_aload_n dX6_next_125 rfl 0 rfl ?_
    refine kr_getI (ci := 6) (j := 6) dX6_next_126 kr_at_1 fl_RX6_30 rfl (fun v1 => ?_)
    refine kr_aload_n dX6_next_129 rfl 0 rfl ?_
    refine kr_getI (ci := 6) (j := 1) dX6_next_130 kr_at_1 fl_RX6_19 rfl (fun v2 => ?_)
    refine kr_icmp_ge (tgt := 285) dX6_next_133 (by decide) ?_ ?_
    · exact kr_vret dX6_next_285 rfl
    · refine kr_aload_n dX6_next_136 rfl 0 rfl ?_
      refine kr_getA (o := 1) (ci := 6) (j := 0) dX6_next_137 kr_at_1 fl_RX6_9 rfl ?_
      refine kr_aload_n dX6_next_140 rfl 0 rfl ?_
      refine kr_getI (ci := 6) (j := 6) dX6_next_141 kr_at_1 fl_RX6_30 rfl (fun v3 => ?_)
      refine kr_bald dX6_next_144 kr_at_2 (fun v4 => ?_)
      refine kr_Si (As := [.int v4]) (st := []) zs_X6_isLetter dX6_next_145 ml_RX6_209 (r_X6_isLetter E v4 M) rfl rfl (Nat.le_of_ble_eq_true rfl) rfl (by decide) (Nat.le_of_ble_eq_true rfl) (fun r6 M5 => ?_)
      refine kr_if_eq (tgt := 285) dX6_next_148 (by decide) ?_ ?_
      · exact kr_vret dX6_next_285 rfl
      · refine kr_aload_n dX6_next_151 rfl 0 rfl ?_
        refine kr_dup dX6_next_152 rfl ?_
        refine kr_getI (ci := 6) (j := 6) dX6_next_153 kr_at_1 fl_RX6_30 rfl (fun v7 => ?_)
        refine kr_iconst (v := 1) dX6_next_156 (by decide) ?_
        refine kr_iadd dX6_next_157 ?_
        refine kr_putI (ci := 6) (j := 6) dX6_next_158 kr_at_1 fl_RX6_30 rfl rfl (fun M8 => ?_)
        refine kr_goto (tgt := 125) dX6_next_161 (by decide) ?_
        refine kr_sub [0] rfl ?_
        exact ih M8
theorem r_X6_next_73 (E : kr_E)    (M : kr_M) : kR kr_vv E Y_X6_next 2 73 [(0, kr_r E 1)] [] M (f_X6_next_73 M) := by
  rw [f_X6_next_73]
  refine kr_aload_n dX6_next_73 rfl 0 rfl ?_
  refine kr_aload_n dX6_next_74 rfl 0 rfl ?_
  refine kr_getI (ci := 6) (j := 5) dX6_next_75 kr_at_1 fl_RX6_196 rfl (fun v1 => ?_)
  refine kr_putI (ci := 6) (j := 6) dX6_next_78 kr_at_1 fl_RX6_30 rfl rfl (fun M2 => ?_)
  refine kr_aload_n dX6_next_81 rfl 0 rfl ?_
  refine kr_iconst (v := 0) dX6_next_82 (by decide) ?_
  refine kr_putI (ci := 6) (j := 7) dX6_next_83 kr_at_1 fl_RX6_155 rfl rfl (fun M3 => ?_)
  refine kr_aload_n dX6_next_86 rfl 0 rfl ?_
  refine kr_getI (ci := 6) (j := 5) dX6_next_87 kr_at_1 fl_RX6_196 rfl (fun v4 => ?_)
  refine kr_aload_n dX6_next_90 rfl 0 rfl ?_
  refine kr_getI (ci := 6) (j := 1) dX6_next_91 kr_at_1 fl_RX6_19 rfl (fun v5 => ?_)
  refine kr_icmp_lt (tgt := 105) dX6_next_94 (by decide) ?_ ?_
  · refine kr_aload_n dX6_next_105 rfl 0 rfl ?_
    refine kr_getA (o := 1) (ci := 6) (j := 0) dX6_next_106 kr_at_1 fl_RX6_9 rfl ?_
    refine kr_aload_n dX6_next_109 rfl 0 rfl ?_
    refine kr_getI (ci := 6) (j := 5) dX6_next_110 kr_at_1 fl_RX6_196 rfl (fun v6 => ?_)
    refine kr_bald dX6_next_113 kr_at_2 (fun v7 => ?_)
    refine kr_Si (As := [.int v7]) (st := []) zs_X6_isLetter dX6_next_114 ml_RX6_209 (r_X6_isLetter E v7 M3) rfl rfl (Nat.le_of_ble_eq_true rfl) rfl (by decide) (Nat.le_of_ble_eq_true rfl) (fun r9 M8 => ?_)
    refine kr_if_eq (tgt := 164) dX6_next_117 (by decide) ?_ ?_
    · refine kr_aload_n dX6_next_164 rfl 0 rfl ?_
      refine kr_getA (o := 1) (ci := 6) (j := 0) dX6_next_165 kr_at_1 fl_RX6_9 rfl ?_
      refine kr_aload_n dX6_next_168 rfl 0 rfl ?_
      refine kr_getI (ci := 6) (j := 5) dX6_next_169 kr_at_1 fl_RX6_196 rfl (fun v10 => ?_)
      refine kr_bald dX6_next_172 kr_at_2 (fun v11 => ?_)
      refine kr_Si (As := [.int v11]) (st := []) zs_X6_isDigit dX6_next_173 ml_RX6_213 (r_X6_isDigit E v11 M8) rfl rfl (Nat.le_of_ble_eq_true rfl) rfl (by decide) (Nat.le_of_ble_eq_true rfl) (fun r13 M12 => ?_)
      refine kr_if_eq (tgt := 252) dX6_next_176 (by decide) ?_ ?_
      · refine kr_aload_n dX6_next_252 rfl 0 rfl ?_
        refine kr_aload_n dX6_next_253 rfl 0 rfl ?_
        refine kr_getA (o := 1) (ci := 6) (j := 0) dX6_next_254 kr_at_1 fl_RX6_9 rfl ?_
        refine kr_aload_n dX6_next_257 rfl 0 rfl ?_
        refine kr_getI (ci := 6) (j := 5) dX6_next_258 kr_at_1 fl_RX6_196 rfl (fun v14 => ?_)
        refine kr_bald dX6_next_261 kr_at_2 (fun v15 => ?_)
        refine kr_bipush (v := 59) dX6_next_262 (by decide) ?_
        refine kr_icmp_ne (tgt := 271) dX6_next_264 (by decide) ?_ ?_
        · refine kr_iconst (v := 4) dX6_next_271 (by decide) ?_
          refine kr_sub [0] rfl ?_
          exact r_X6_next_272 E (4 : Int32) M12
        · refine kr_iconst (v := 3) dX6_next_267 (by decide) ?_
          refine kr_goto (tgt := 272) dX6_next_268 (by decide) ?_
          refine kr_sub [0] rfl ?_
          exact r_X6_next_272 E (3 : Int32) M12
      · refine kr_aload_n dX6_next_179 rfl 0 rfl ?_
        refine kr_iconst (v := 2) dX6_next_180 (by decide) ?_
        refine kr_putI (ci := 6) (j := 4) dX6_next_181 kr_at_1 fl_RX6_36 rfl rfl (fun M16 => ?_)
        refine kr_sub [0] rfl ?_
        exact r_X6_next_184 E _ M16
    · refine kr_aload_n dX6_next_120 rfl 0 rfl ?_
      refine kr_iconst (v := 1) dX6_next_121 (by decide) ?_
      refine kr_putI (ci := 6) (j := 4) dX6_next_122 kr_at_1 fl_RX6_36 rfl rfl (fun M17 => ?_)
      refine kr_sub [0] rfl ?_
      exact r_X6_next_125 E _ M17
  · refine kr_aload_n dX6_next_97 rfl 0 rfl ?_
    refine kr_iconst (v := 0) dX6_next_98 (by decide) ?_
    refine kr_putI (ci := 6) (j := 4) dX6_next_99 kr_at_1 fl_RX6_36 rfl rfl (fun M18 => ?_)
    refine kr_goto (tgt := 285) dX6_next_102 (by decide) ?_
    exact kr_vret dX6_next_285 rfl
theorem r_X6_next_60 (E : kr_E) (k_21 : kr_M → Option kr_M)  (hk_21 : ∀  (M : kr_M), kR kr_vv E Y_X6_next 2 21 [(0, kr_r E 1)] [] M (k_21  M)) (M : kr_M) : kR kr_vv E Y_X6_next 2 60 [(0, kr_r E 1)] [] M (f_X6_next_60 k_21 M) := by
  rw [f_X6_next_60]
  refine kr_aload_n dX6_next_60 rfl 0 rfl ?_
  refine kr_dup dX6_next_61 rfl ?_
  refine kr_getI (ci := 6) (j := 5) dX6_next_62 kr_at_1 fl_RX6_196 rfl (fun v1 => ?_)
  refine kr_iconst (v := 1) dX6_next_65 (by decide) ?_
  refine kr_iadd dX6_next_66 ?_
  refine kr_putI (ci := 6) (j := 5) dX6_next_67 kr_at_1 fl_RX6_196 rfl rfl (fun M2 => ?_)
  refine kr_goto (tgt := 21) dX6_next_70 (by decide) ?_
  refine kr_sub [0] rfl ?_
  exact hk_21 M2
theorem r_X6_next_21 (E : kr_E)    : ∀ (n : Nat)  (M : kr_M), kR kr_vv E Y_X6_next 2 21 [(0, kr_r E 1)] [] M (f_X6_next_21 n M) := by
  intro n
  induction n with
  | zero => intro  M; exact kr_none
  | succ n ih =>
    intro  M
    rw [f_X6_next_21]
    refine kr_aload_n dX6_next_21 rfl 0 rfl ?_
    refine kr_getI (ci := 6) (j := 5) dX6_next_22 kr_at_1 fl_RX6_196 rfl (fun v1 => ?_)
    refine kr_aload_n dX6_next_25 rfl 0 rfl ?_
    refine kr_getI (ci := 6) (j := 1) dX6_next_26 kr_at_1 fl_RX6_19 rfl (fun v2 => ?_)
    refine kr_icmp_ge (tgt := 73) dX6_next_29 (by decide) ?_ ?_
    · refine kr_sub [0] rfl ?_
      exact r_X6_next_73 E M
    · refine kr_aload_n dX6_next_32 rfl 0 rfl ?_
      refine kr_getA (o := 1) (ci := 6) (j := 0) dX6_next_33 kr_at_1 fl_RX6_9 rfl ?_
      refine kr_aload_n dX6_next_36 rfl 0 rfl ?_
      refine kr_getI (ci := 6) (j := 5) dX6_next_37 kr_at_1 fl_RX6_196 rfl (fun v3 => ?_)
      refine kr_bald dX6_next_40 kr_at_2 (fun v4 => ?_)
      refine kr_bipush (v := 32) dX6_next_41 (by decide) ?_
      refine kr_icmp_eq (tgt := 60) dX6_next_43 (by decide) ?_ ?_
      · refine kr_sub [0] rfl ?_
        exact r_X6_next_60 E _ ih M
      · refine kr_aload_n dX6_next_46 rfl 0 rfl ?_
        refine kr_getA (o := 1) (ci := 6) (j := 0) dX6_next_47 kr_at_1 fl_RX6_9 rfl ?_
        refine kr_aload_n dX6_next_50 rfl 0 rfl ?_
        refine kr_getI (ci := 6) (j := 5) dX6_next_51 kr_at_1 fl_RX6_196 rfl (fun v5 => ?_)
        refine kr_bald dX6_next_54 kr_at_2 (fun v6 => ?_)
        refine kr_bipush (v := 10) dX6_next_55 (by decide) ?_
        refine kr_icmp_ne (tgt := 73) dX6_next_57 (by decide) ?_ ?_
        · refine kr_sub [0] rfl ?_
          exact r_X6_next_73 E M
        · refine kr_sub [0] rfl ?_
          exact r_X6_next_60 E _ ih M
theorem r_X6_next (E : kr_E)  (M : kr_M) : kR kr_vv E Y_X6_next 2 0 [(0, kr_r E 1)] [] M (f_X6_next M) := by
  rw [f_X6_next]
  refine kr_aload_n dX6_next_0 rfl 0 rfl ?_
  refine kr_getI (ci := 6) (j := 2) dX6_next_1 kr_at_1 fl_RX6_27 rfl (fun v1 => ?_)
  refine kr_if_eq (tgt := 13) dX6_next_4 (by decide) ?_ ?_
  · refine kr_aload_n dX6_next_13 rfl 0 rfl ?_
    refine kr_aload_n dX6_next_14 rfl 0 rfl ?_
    refine kr_getI (ci := 6) (j := 6) dX6_next_15 kr_at_1 fl_RX6_30 rfl (fun v2 => ?_)
    refine kr_putI (ci := 6) (j := 5) dX6_next_18 kr_at_1 fl_RX6_196 rfl rfl (fun M3 => ?_)
    refine kr_sub [0] rfl ?_
    exact r_X6_next_21 E _ M3
  · refine kr_aload_n dX6_next_7 rfl 0 rfl ?_
    refine kr_iconst (v := 0) dX6_next_8 (by decide) ?_
    refine kr_putI (ci := 6) (j := 4) dX6_next_9 kr_at_1 fl_RX6_36 rfl rfl (fun M4 => ?_)
    exact kr_vret dX6_next_12 rfl
theorem dX6_name_0 : decode cX6_name 0 = .ok (.aload_n 0, 1) := by decide +kernel
theorem dX6_name_1 : decode cX6_name 1 = .ok (.aload_n 1, 1) := by decide +kernel
theorem dX6_name_2 : decode cX6_name 2 = .ok (.invokevirtual 54, 3) := by decide +kernel
theorem dX6_name_5 : decode cX6_name 5 = .ok (.ifCond .eq 10, 3) := by decide +kernel
theorem dX6_name_8 : decode cX6_name 8 = .ok (.aload_n 0, 1) := by decide +kernel
theorem dX6_name_9 : decode cX6_name 9 = .ok (.invokevirtual 33, 3) := by decide +kernel
theorem dX6_name_12 : decode cX6_name 12 = .ok (.goto 8, 3) := by decide +kernel
theorem dX6_name_15 : decode cX6_name 15 = .ok (.aload_n 0, 1) := by decide +kernel
theorem dX6_name_16 : decode cX6_name 16 = .ok (.iconst 1, 1) := by decide +kernel
theorem dX6_name_17 : decode cX6_name 17 = .ok (.invokevirtual 58, 3) := by decide +kernel
theorem dX6_name_20 : decode cX6_name 20 = .ok (.return_, 1) := by decide +kernel
theorem r_X6_name (E : kr_E) (p1 : Nat) (h_p1 : p1 < 17) (M : kr_M) : kR kr_vv E Y_X6_name 6 0 [(0, kr_r E 1), (1, .ref (E.2.2.2.2.1 p1))] [] M (f_X6_name p1 M) := by
  rw [f_X6_name]
  refine kr_aload_n dX6_name_0 rfl 0 rfl ?_
  refine kr_aload_n dX6_name_1 rfl 1 rfl ?_
  refine kr_Vi (As := [.ref (E.2.2.2.2.1 p1)]) (st := []) zv_X6_isWord dX6_name_2 ml_RX6_54 kr_at_1 (r_X6_isWord E p1 h_p1 M) rfl rfl (Nat.le_of_ble_eq_true rfl) rfl (by decide) (Nat.le_of_ble_eq_true rfl) (fun r2 M1 => ?_)
  refine kr_if_eq (tgt := 15) dX6_name_5 (by decide) ?_ ?_
  · refine kr_aload_n dX6_name_15 rfl 0 rfl ?_
    refine kr_iconst (v := 1) dX6_name_16 (by decide) ?_
    refine kr_Vv (As := [.int (1 : Int32)]) (st := []) zv_X6_blame dX6_name_17 ml_RX6_58 kr_at_1 (r_X6_blame E (1 : Int32) M1) rfl rfl (Nat.le_of_ble_eq_true rfl) rfl (by decide) (Nat.le_of_ble_eq_true rfl) (fun M3 => ?_)
    exact kr_vret dX6_name_20 rfl
  · refine kr_aload_n dX6_name_8 rfl 0 rfl ?_
    refine kr_Vv (As := []) (st := []) zv_X6_next dX6_name_9 ml_RX6_33 kr_at_1 (r_X6_next E  M1) rfl rfl (Nat.le_of_ble_eq_true rfl) rfl (by decide) (Nat.le_of_ble_eq_true rfl) (fun M5 => ?_)
    refine kr_goto (tgt := 20) dX6_name_12 (by decide) ?_
    exact kr_vret dX6_name_20 rfl
theorem dX6_number_0 : decode cX6_number 0 = .ok (.aload_n 0, 1) := by decide +kernel
theorem dX6_number_1 : decode cX6_number 1 = .ok (.getfield 36, 3) := by decide +kernel
theorem dX6_number_4 : decode cX6_number 4 = .ok (.iconst 2, 1) := by decide +kernel
theorem dX6_number_5 : decode cX6_number 5 = .ok (.if_icmp .eq 11, 3) := by decide +kernel
theorem dX6_number_8 : decode cX6_number 8 = .ok (.aload_n 0, 1) := by decide +kernel
theorem dX6_number_9 : decode cX6_number 9 = .ok (.iconst 1, 1) := by decide +kernel
theorem dX6_number_10 : decode cX6_number 10 = .ok (.invokevirtual 58, 3) := by decide +kernel
theorem dX6_number_13 : decode cX6_number 13 = .ok (.goto 24, 3) := by decide +kernel
theorem dX6_number_16 : decode cX6_number 16 = .ok (.aload_n 0, 1) := by decide +kernel
theorem dX6_number_17 : decode cX6_number 17 = .ok (.getfield 155, 3) := by decide +kernel
theorem dX6_number_20 : decode cX6_number 20 = .ok (.iload_n 1, 1) := by decide +kernel
theorem dX6_number_21 : decode cX6_number 21 = .ok (.if_icmp .lt 11, 3) := by decide +kernel
theorem dX6_number_24 : decode cX6_number 24 = .ok (.aload_n 0, 1) := by decide +kernel
theorem dX6_number_25 : decode cX6_number 25 = .ok (.getfield 155, 3) := by decide +kernel
theorem dX6_number_28 : decode cX6_number 28 = .ok (.iload_n 2, 1) := by decide +kernel
theorem dX6_number_29 : decode cX6_number 29 = .ok (.if_icmp .le 8, 3) := by decide +kernel
theorem dX6_number_32 : decode cX6_number 32 = .ok (.aload_n 0, 1) := by decide +kernel
theorem dX6_number_33 : decode cX6_number 33 = .ok (.iconst 2, 1) := by decide +kernel
theorem dX6_number_34 : decode cX6_number 34 = .ok (.invokevirtual 58, 3) := by decide +kernel
theorem dX6_number_37 : decode cX6_number 37 = .ok (.aload_n 0, 1) := by decide +kernel
theorem dX6_number_38 : decode cX6_number 38 = .ok (.getfield 155, 3) := by decide +kernel
theorem dX6_number_41 : decode cX6_number 41 = .ok (.istore_n 3, 1) := by decide +kernel
theorem dX6_number_42 : decode cX6_number 42 = .ok (.aload_n 0, 1) := by decide +kernel
theorem dX6_number_43 : decode cX6_number 43 = .ok (.invokevirtual 33, 3) := by decide +kernel
theorem dX6_number_46 : decode cX6_number 46 = .ok (.iload_n 3, 1) := by decide +kernel
theorem dX6_number_47 : decode cX6_number 47 = .ok (.ireturn, 1) := by decide +kernel
theorem r_X6_number_37 (E : kr_E)    (M : kr_M) : kR kr_vi E Y_X6_number 3 37 [(0, kr_r E 1)] [] M (f_X6_number_37 M) := by
  rw [f_X6_number_37]
  refine kr_aload_n dX6_number_37 rfl 0 rfl ?_
  refine kr_getI (ci := 6) (j := 7) dX6_number_38 kr_at_1 fl_RX6_155 rfl (fun v1 => ?_)
  refine kr_istore_n (lv' := [(3, .int v1), (0, kr_r E 1)]) dX6_number_41 rfl (by decide) rfl ?_
  refine kr_aload_n dX6_number_42 rfl 1 rfl ?_
  refine kr_Vv (As := []) (st := []) zv_X6_next dX6_number_43 ml_RX6_33 kr_at_1 (r_X6_next E  M) rfl rfl (Nat.le_of_ble_eq_true rfl) rfl (by decide) (Nat.le_of_ble_eq_true rfl) (fun M2 => ?_)
  refine kr_iload_n dX6_number_46 rfl 0 rfl ?_
  exact kr_iret dX6_number_47 rfl
theorem r_X6_number_32 (E : kr_E)    (M : kr_M) : kR kr_vi E Y_X6_number 3 32 [(0, kr_r E 1)] [] M (f_X6_number_32 M) := by
  rw [f_X6_number_32]
  refine kr_aload_n dX6_number_32 rfl 0 rfl ?_
  refine kr_iconst (v := 2) dX6_number_33 (by decide) ?_
  refine kr_Vv (As := [.int (2 : Int32)]) (st := []) zv_X6_blame dX6_number_34 ml_RX6_58 kr_at_1 (r_X6_blame E (2 : Int32) M) rfl rfl (Nat.le_of_ble_eq_true rfl) rfl (by decide) (Nat.le_of_ble_eq_true rfl) (fun M1 => ?_)
  refine kr_sub [0] rfl ?_
  exact r_X6_number_37 E M1
theorem r_X6_number (E : kr_E) (p1 : Int32) (p2 : Int32) (M : kr_M) : kR kr_vi E Y_X6_number 3 0 [(0, kr_r E 1), (1, .int p1), (2, .int p2)] [] M (f_X6_number p1 p2 M) := by
  rw [f_X6_number]
  refine kr_aload_n dX6_number_0 rfl 0 rfl ?_
  refine kr_getI (ci := 6) (j := 4) dX6_number_1 kr_at_1 fl_RX6_36 rfl (fun v1 => ?_)
  refine kr_iconst (v := 2) dX6_number_4 (by decide) ?_
  refine kr_icmp_eq (tgt := 16) dX6_number_5 (by decide) ?_ ?_
  · refine kr_aload_n dX6_number_16 rfl 0 rfl ?_
    refine kr_getI (ci := 6) (j := 7) dX6_number_17 kr_at_1 fl_RX6_155 rfl (fun v2 => ?_)
    refine kr_iload_n dX6_number_20 rfl 1 rfl ?_
    refine kr_icmp_lt (tgt := 32) dX6_number_21 (by decide) ?_ ?_
    · refine kr_sub [0] rfl ?_
      exact r_X6_number_32 E M
    · refine kr_aload_n dX6_number_24 rfl 0 rfl ?_
      refine kr_getI (ci := 6) (j := 7) dX6_number_25 kr_at_1 fl_RX6_155 rfl (fun v3 => ?_)
      refine kr_iload_n dX6_number_28 rfl 2 rfl ?_
      refine kr_icmp_le (tgt := 37) dX6_number_29 (by decide) ?_ ?_
      · refine kr_sub [0] rfl ?_
        exact r_X6_number_37 E M
      · refine kr_sub [0] rfl ?_
        exact r_X6_number_32 E M
  · refine kr_aload_n dX6_number_8 rfl 0 rfl ?_
    refine kr_iconst (v := 1) dX6_number_9 (by decide) ?_
    refine kr_Vv (As := [.int (1 : Int32)]) (st := []) zv_X6_blame dX6_number_10 ml_RX6_58 kr_at_1 (r_X6_blame E (1 : Int32) M) rfl rfl (Nat.le_of_ble_eq_true rfl) rfl (by decide) (Nat.le_of_ble_eq_true rfl) (fun M4 => ?_)
    refine kr_goto (tgt := 37) dX6_number_13 (by decide) ?_
    refine kr_sub [0] rfl ?_
    exact r_X6_number_37 E M4
theorem dX6_named_0 : decode cX6_named 0 = .ok (.aload_n 0, 1) := by decide +kernel
theorem dX6_named_1 : decode cX6_named 1 = .ok (.aload_n 1, 1) := by decide +kernel
theorem dX6_named_2 : decode cX6_named 2 = .ok (.invokevirtual 151, 3) := by decide +kernel
theorem dX6_named_5 : decode cX6_named 5 = .ok (.aload_n 0, 1) := by decide +kernel
theorem dX6_named_6 : decode cX6_named 6 = .ok (.iload_n 2, 1) := by decide +kernel
theorem dX6_named_7 : decode cX6_named 7 = .ok (.iload_n 3, 1) := by decide +kernel
theorem dX6_named_8 : decode cX6_named 8 = .ok (.invokevirtual 140, 3) := by decide +kernel
theorem dX6_named_11 : decode cX6_named 11 = .ok (.ireturn, 1) := by decide +kernel
theorem r_X6_named (E : kr_E) (p1 : Nat) (h_p1 : p1 < 17) (p2 : Int32) (p3 : Int32) (M : kr_M) : kR kr_vi E Y_X6_named 7 0 [(0, kr_r E 1), (1, .ref (E.2.2.2.2.1 p1)), (2, .int p2), (3, .int p3)] [] M (f_X6_named p1 p2 p3 M) := by
  rw [f_X6_named]
  refine kr_aload_n dX6_named_0 rfl 0 rfl ?_
  refine kr_aload_n dX6_named_1 rfl 1 rfl ?_
  refine kr_Vv (As := [.ref (E.2.2.2.2.1 p1)]) (st := []) zv_X6_name dX6_named_2 ml_RX6_151 kr_at_1 (r_X6_name E p1 h_p1 M) rfl rfl (Nat.le_of_ble_eq_true rfl) rfl (by decide) (Nat.le_of_ble_eq_true rfl) (fun M1 => ?_)
  refine kr_aload_n dX6_named_5 rfl 0 rfl ?_
  refine kr_iload_n dX6_named_6 rfl 2 rfl ?_
  refine kr_iload_n dX6_named_7 rfl 3 rfl ?_
  refine kr_Vi (As := [.int p2, .int p3]) (st := []) zv_X6_number dX6_named_8 ml_RX6_140 kr_at_1 (r_X6_number E p2 p3 M1) rfl rfl (Nat.le_of_ble_eq_true rfl) rfl (by decide) (Nat.le_of_ble_eq_true rfl) (fun r4 M3 => ?_)
  exact kr_iret dX6_named_11 rfl
theorem dX6_gorgeLine_0 : decode cX6_gorgeLine 0 = .ok (.aload_n 0, 1) := by decide +kernel
theorem dX6_gorgeLine_1 : decode cX6_gorgeLine 1 = .ok (.invokevirtual 33, 3) := by decide +kernel
theorem dX6_gorgeLine_4 : decode cX6_gorgeLine 4 = .ok (.aload_n 1, 1) := by decide +kernel
theorem dX6_gorgeLine_5 : decode cX6_gorgeLine 5 = .ok (.aload_n 0, 1) := by decide +kernel
theorem dX6_gorgeLine_6 : decode cX6_gorgeLine 6 = .ok (.ldc 85, 2) := by decide +kernel
theorem dX6_gorgeLine_8 : decode cX6_gorgeLine 8 = .ok (.iconst 2, 1) := by decide +kernel
theorem dX6_gorgeLine_9 : decode cX6_gorgeLine 9 = .ok (.bipush 6, 2) := by decide +kernel
theorem dX6_gorgeLine_11 : decode cX6_gorgeLine 11 = .ok (.invokevirtual 87, 3) := by decide +kernel
theorem dX6_gorgeLine_14 : decode cX6_gorgeLine 14 = .ok (.putfield 91, 3) := by decide +kernel
theorem dX6_gorgeLine_17 : decode cX6_gorgeLine 17 = .ok (.aload_n 1, 1) := by decide +kernel
theorem dX6_gorgeLine_18 : decode cX6_gorgeLine 18 = .ok (.aload_n 0, 1) := by decide +kernel
theorem dX6_gorgeLine_19 : decode cX6_gorgeLine 19 = .ok (.ldc 93, 2) := by decide +kernel
theorem dX6_gorgeLine_21 : decode cX6_gorgeLine 21 = .ok (.iconst 0, 1) := by decide +kernel
theorem dX6_gorgeLine_22 : decode cX6_gorgeLine 22 = .ok (.bipush 99, 2) := by decide +kernel
theorem dX6_gorgeLine_24 : decode cX6_gorgeLine 24 = .ok (.invokevirtual 87, 3) := by decide +kernel
theorem dX6_gorgeLine_27 : decode cX6_gorgeLine 27 = .ok (.putfield 95, 3) := by decide +kernel
theorem dX6_gorgeLine_30 : decode cX6_gorgeLine 30 = .ok (.aload_n 1, 1) := by decide +kernel
theorem dX6_gorgeLine_31 : decode cX6_gorgeLine 31 = .ok (.aload_n 0, 1) := by decide +kernel
theorem dX6_gorgeLine_32 : decode cX6_gorgeLine 32 = .ok (.ldc 97, 2) := by decide +kernel
theorem dX6_gorgeLine_34 : decode cX6_gorgeLine 34 = .ok (.iconst 0, 1) := by decide +kernel
theorem dX6_gorgeLine_35 : decode cX6_gorgeLine 35 = .ok (.bipush 100, 2) := by decide +kernel
theorem dX6_gorgeLine_37 : decode cX6_gorgeLine 37 = .ok (.invokevirtual 87, 3) := by decide +kernel
theorem dX6_gorgeLine_40 : decode cX6_gorgeLine 40 = .ok (.putfield 99, 3) := by decide +kernel
theorem dX6_gorgeLine_43 : decode cX6_gorgeLine 43 = .ok (.return_, 1) := by decide +kernel
theorem r_X6_gorgeLine (E : kr_E) (p1 : Nat) (h_p1 : kr_sh p1 = (2, 0)) (M : kr_M) : kR kr_vv E Y_X6_gorgeLine 8 0 [(0, kr_r E 1), (1, kr_r E p1)] [] M (f_X6_gorgeLine p1 M) := by
  rw [f_X6_gorgeLine]
  refine kr_aload_n dX6_gorgeLine_0 rfl 0 rfl ?_
  refine kr_Vv (As := []) (st := []) zv_X6_next dX6_gorgeLine_1 ml_RX6_33 kr_at_1 (r_X6_next E  M) rfl rfl (Nat.le_of_ble_eq_true rfl) rfl (by decide) (Nat.le_of_ble_eq_true rfl) (fun M1 => ?_)
  refine kr_aload_n dX6_gorgeLine_4 rfl 1 rfl ?_
  refine kr_aload_n dX6_gorgeLine_5 rfl 0 rfl ?_
  refine kr_ldcS (i := 1) dX6_gorgeLine_6 rfl rfl ?_
  refine kr_iconst (v := 2) dX6_gorgeLine_8 (by decide) ?_
  refine kr_bipush (v := 6) dX6_gorgeLine_9 (by decide) ?_
  refine kr_Vi (As := [.ref (E.2.2.2.2.1 1), .int (2 : Int32), .int (6 : Int32)]) (st := [kr_r E p1]) zv_X6_named dX6_gorgeLine_11 ml_RX6_87 kr_at_1 (r_X6_named E 1 (by decide) (2 : Int32) (6 : Int32) M1) rfl rfl (Nat.le_of_ble_eq_true rfl) rfl (by decide) (Nat.le_of_ble_eq_true rfl) (fun r4 M3 => ?_)
  refine kr_putI (ci := 2) (j := 1) dX6_gorgeLine_14 h_p1 fl_RX6_91 rfl rfl (fun M5 => ?_)
  refine kr_aload_n dX6_gorgeLine_17 rfl 1 rfl ?_
  refine kr_aload_n dX6_gorgeLine_18 rfl 0 rfl ?_
  refine kr_ldcS (i := 2) dX6_gorgeLine_19 rfl rfl ?_
  refine kr_iconst (v := 0) dX6_gorgeLine_21 (by decide) ?_
  refine kr_bipush (v := 99) dX6_gorgeLine_22 (by decide) ?_
  refine kr_Vi (As := [.ref (E.2.2.2.2.1 2), .int (0 : Int32), .int (99 : Int32)]) (st := [kr_r E p1]) zv_X6_named dX6_gorgeLine_24 ml_RX6_87 kr_at_1 (r_X6_named E 2 (by decide) (0 : Int32) (99 : Int32) M5) rfl rfl (Nat.le_of_ble_eq_true rfl) rfl (by decide) (Nat.le_of_ble_eq_true rfl) (fun r7 M6 => ?_)
  refine kr_putI (ci := 2) (j := 2) dX6_gorgeLine_27 h_p1 fl_RX6_95 rfl rfl (fun M8 => ?_)
  refine kr_aload_n dX6_gorgeLine_30 rfl 1 rfl ?_
  refine kr_aload_n dX6_gorgeLine_31 rfl 0 rfl ?_
  refine kr_ldcS (i := 3) dX6_gorgeLine_32 rfl rfl ?_
  refine kr_iconst (v := 0) dX6_gorgeLine_34 (by decide) ?_
  refine kr_bipush (v := 100) dX6_gorgeLine_35 (by decide) ?_
  refine kr_Vi (As := [.ref (E.2.2.2.2.1 3), .int (0 : Int32), .int (100 : Int32)]) (st := [kr_r E p1]) zv_X6_named dX6_gorgeLine_37 ml_RX6_87 kr_at_1 (r_X6_named E 3 (by decide) (0 : Int32) (100 : Int32) M8) rfl rfl (Nat.le_of_ble_eq_true rfl) rfl (by decide) (Nat.le_of_ble_eq_true rfl) (fun r10 M9 => ?_)
  refine kr_putI (ci := 2) (j := 3) dX6_gorgeLine_40 h_p1 fl_RX6_99 rfl rfl (fun M11 => ?_)
  exact kr_vret dX6_gorgeLine_43 rfl
theorem dX6_knotLine_0 : decode cX6_knotLine 0 = .ok (.aload_n 1, 1) := by decide +kernel
theorem dX6_knotLine_1 : decode cX6_knotLine 1 = .ok (.getfield 101, 3) := by decide +kernel
theorem dX6_knotLine_4 : decode cX6_knotLine 4 = .ok (.bipush 6, 2) := by decide +kernel
theorem dX6_knotLine_6 : decode cX6_knotLine 6 = .ok (.if_icmp .lt 9, 3) := by decide +kernel
theorem dX6_knotLine_9 : decode cX6_knotLine 9 = .ok (.aload_n 0, 1) := by decide +kernel
theorem dX6_knotLine_10 : decode cX6_knotLine 10 = .ok (.iconst 3, 1) := by decide +kernel
theorem dX6_knotLine_11 : decode cX6_knotLine 11 = .ok (.invokevirtual 58, 3) := by decide +kernel
theorem dX6_knotLine_14 : decode cX6_knotLine 14 = .ok (.return_, 1) := by decide +kernel
theorem dX6_knotLine_15 : decode cX6_knotLine 15 = .ok (.aload_n 0, 1) := by decide +kernel
theorem dX6_knotLine_16 : decode cX6_knotLine 16 = .ok (.invokevirtual 33, 3) := by decide +kernel
theorem dX6_knotLine_19 : decode cX6_knotLine 19 = .ok (.aload_n 1, 1) := by decide +kernel
theorem dX6_knotLine_20 : decode cX6_knotLine 20 = .ok (.getfield 104, 3) := by decide +kernel
theorem dX6_knotLine_23 : decode cX6_knotLine 23 = .ok (.aload_n 1, 1) := by decide +kernel
theorem dX6_knotLine_24 : decode cX6_knotLine 24 = .ok (.getfield 101, 3) := by decide +kernel
theorem dX6_knotLine_27 : decode cX6_knotLine 27 = .ok (.aload_n 0, 1) := by decide +kernel
theorem dX6_knotLine_28 : decode cX6_knotLine 28 = .ok (.ldc 108, 2) := by decide +kernel
theorem dX6_knotLine_30 : decode cX6_knotLine 30 = .ok (.iconst 1, 1) := by decide +kernel
theorem dX6_knotLine_31 : decode cX6_knotLine 31 = .ok (.bipush 9, 2) := by decide +kernel
theorem dX6_knotLine_33 : decode cX6_knotLine 33 = .ok (.invokevirtual 87, 3) := by decide +kernel
theorem dX6_knotLine_36 : decode cX6_knotLine 36 = .ok (.iastore, 1) := by decide +kernel
theorem dX6_knotLine_37 : decode cX6_knotLine 37 = .ok (.aload_n 1, 1) := by decide +kernel
theorem dX6_knotLine_38 : decode cX6_knotLine 38 = .ok (.getfield 109, 3) := by decide +kernel
theorem dX6_knotLine_41 : decode cX6_knotLine 41 = .ok (.aload_n 1, 1) := by decide +kernel
theorem dX6_knotLine_42 : decode cX6_knotLine 42 = .ok (.getfield 101, 3) := by decide +kernel
theorem dX6_knotLine_45 : decode cX6_knotLine 45 = .ok (.aload_n 0, 1) := by decide +kernel
theorem dX6_knotLine_46 : decode cX6_knotLine 46 = .ok (.ldc 112, 2) := by decide +kernel
theorem dX6_knotLine_48 : decode cX6_knotLine 48 = .ok (.iconst 0, 1) := by decide +kernel
theorem dX6_knotLine_49 : decode cX6_knotLine 49 = .ok (.bipush 50, 2) := by decide +kernel
theorem dX6_knotLine_51 : decode cX6_knotLine 51 = .ok (.invokevirtual 87, 3) := by decide +kernel
theorem dX6_knotLine_54 : decode cX6_knotLine 54 = .ok (.iastore, 1) := by decide +kernel
theorem dX6_knotLine_55 : decode cX6_knotLine 55 = .ok (.aload_n 1, 1) := by decide +kernel
theorem dX6_knotLine_56 : decode cX6_knotLine 56 = .ok (.dup, 1) := by decide +kernel
theorem dX6_knotLine_57 : decode cX6_knotLine 57 = .ok (.getfield 101, 3) := by decide +kernel
theorem dX6_knotLine_60 : decode cX6_knotLine 60 = .ok (.iconst 1, 1) := by decide +kernel
theorem dX6_knotLine_61 : decode cX6_knotLine 61 = .ok (.iadd, 1) := by decide +kernel
theorem dX6_knotLine_62 : decode cX6_knotLine 62 = .ok (.putfield 101, 3) := by decide +kernel
theorem dX6_knotLine_65 : decode cX6_knotLine 65 = .ok (.return_, 1) := by decide +kernel
theorem r_X6_knotLine (E : kr_E) (p1 : Nat) (h_p1 : kr_sh p1 = (2, 0)) (M : kr_M) : kR kr_vv E Y_X6_knotLine 8 0 [(0, kr_r E 1), (1, kr_r E p1)] [] M (f_X6_knotLine p1 M) := by
  rw [f_X6_knotLine]
  refine kr_aload_n dX6_knotLine_0 rfl 1 rfl ?_
  refine kr_getI (ci := 2) (j := 4) dX6_knotLine_1 h_p1 fl_RX6_101 rfl (fun v1 => ?_)
  refine kr_bipush (v := 6) dX6_knotLine_4 (by decide) ?_
  refine kr_icmp_lt (tgt := 15) dX6_knotLine_6 (by decide) ?_ ?_
  · refine kr_aload_n dX6_knotLine_15 rfl 0 rfl ?_
    refine kr_Vv (As := []) (st := []) zv_X6_next dX6_knotLine_16 ml_RX6_33 kr_at_1 (r_X6_next E  M) rfl rfl (Nat.le_of_ble_eq_true rfl) rfl (by decide) (Nat.le_of_ble_eq_true rfl) (fun M2 => ?_)
    refine kr_aload_n dX6_knotLine_19 rfl 1 rfl ?_
    refine kr_getA (o := 1) (ci := 2) (j := 10) dX6_knotLine_20 h_p1 fl_RX6_104 rfl ?_
    refine kr_aload_n dX6_knotLine_23 rfl 1 rfl ?_
    refine kr_getI (ci := 2) (j := 4) dX6_knotLine_24 h_p1 fl_RX6_101 rfl (fun v4 => ?_)
    refine kr_aload_n dX6_knotLine_27 rfl 0 rfl ?_
    refine kr_ldcS (i := 5) dX6_knotLine_28 rfl rfl ?_
    refine kr_iconst (v := 1) dX6_knotLine_30 (by decide) ?_
    refine kr_bipush (v := 9) dX6_knotLine_31 (by decide) ?_
    refine kr_Vi (As := [.ref (E.2.2.2.2.1 5), .int (1 : Int32), .int (9 : Int32)]) (st := [.int v4, kr_r E (p1 + 1)]) zv_X6_named dX6_knotLine_33 ml_RX6_87 kr_at_1 (r_X6_named E 5 (by decide) (1 : Int32) (9 : Int32) M2) rfl rfl (Nat.le_of_ble_eq_true rfl) rfl (by decide) (Nat.le_of_ble_eq_true rfl) (fun r6 M5 => ?_)
    refine kr_iast dX6_knotLine_36 (kr_shG1 _ h_p1) (fun M7 => ?_)
    refine kr_aload_n dX6_knotLine_37 rfl 1 rfl ?_
    refine kr_getA (o := 2) (ci := 2) (j := 11) dX6_knotLine_38 h_p1 fl_RX6_109 rfl ?_
    refine kr_aload_n dX6_knotLine_41 rfl 1 rfl ?_
    refine kr_getI (ci := 2) (j := 4) dX6_knotLine_42 h_p1 fl_RX6_101 rfl (fun v8 => ?_)
    refine kr_aload_n dX6_knotLine_45 rfl 0 rfl ?_
    refine kr_ldcS (i := 6) dX6_knotLine_46 rfl rfl ?_
    refine kr_iconst (v := 0) dX6_knotLine_48 (by decide) ?_
    refine kr_bipush (v := 50) dX6_knotLine_49 (by decide) ?_
    refine kr_Vi (As := [.ref (E.2.2.2.2.1 6), .int (0 : Int32), .int (50 : Int32)]) (st := [.int v8, kr_r E (p1 + 2)]) zv_X6_named dX6_knotLine_51 ml_RX6_87 kr_at_1 (r_X6_named E 6 (by decide) (0 : Int32) (50 : Int32) M7) rfl rfl (Nat.le_of_ble_eq_true rfl) rfl (by decide) (Nat.le_of_ble_eq_true rfl) (fun r10 M9 => ?_)
    refine kr_iast dX6_knotLine_54 (kr_shG2 _ h_p1) (fun M11 => ?_)
    refine kr_aload_n dX6_knotLine_55 rfl 1 rfl ?_
    refine kr_dup dX6_knotLine_56 rfl ?_
    refine kr_getI (ci := 2) (j := 4) dX6_knotLine_57 h_p1 fl_RX6_101 rfl (fun v12 => ?_)
    refine kr_iconst (v := 1) dX6_knotLine_60 (by decide) ?_
    refine kr_iadd dX6_knotLine_61 ?_
    refine kr_putI (ci := 2) (j := 4) dX6_knotLine_62 h_p1 fl_RX6_101 rfl rfl (fun M13 => ?_)
    exact kr_vret dX6_knotLine_65 rfl
  · refine kr_aload_n dX6_knotLine_9 rfl 0 rfl ?_
    refine kr_iconst (v := 3) dX6_knotLine_10 (by decide) ?_
    refine kr_Vv (As := [.int (3 : Int32)]) (st := []) zv_X6_blame dX6_knotLine_11 ml_RX6_58 kr_at_1 (r_X6_blame E (3 : Int32) M) rfl rfl (Nat.le_of_ble_eq_true rfl) rfl (by decide) (Nat.le_of_ble_eq_true rfl) (fun M14 => ?_)
    exact kr_vret dX6_knotLine_14 rfl
