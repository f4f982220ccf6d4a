theorem dX1_study_0 : decode cX1_study 0 = .ok (.aload_n 0, 1) := by decide +kernel
theorem dX1_study_1 : decode cX1_study 1 = .ok (.iload_n 2, 1) := by decide +kernel
theorem dX1_study_2 : decode cX1_study 2 = .ok (.putfield 24, 3) := by decide +kernel
theorem dX1_study_5 : decode cX1_study 5 = .ok (.aload_n 0, 1) := by decide +kernel
theorem dX1_study_6 : decode cX1_study 6 = .ok (.iconst 1, 1) := by decide +kernel
theorem dX1_study_7 : decode cX1_study 7 = .ok (.aload_n 1, 1) := by decide +kernel
theorem dX1_study_8 : decode cX1_study 8 = .ok (.getfield 28, 3) := by decide +kernel
theorem dX1_study_11 : decode cX1_study 11 = .ok (.ishl, 1) := by decide +kernel
theorem dX1_study_12 : decode cX1_study 12 = .ok (.iconst 1, 1) := by decide +kernel
theorem dX1_study_13 : decode cX1_study 13 = .ok (.isub, 1) := by decide +kernel
theorem dX1_study_14 : decode cX1_study 14 = .ok (.putfield 33, 3) := by decide +kernel
theorem dX1_study_17 : decode cX1_study 17 = .ok (.aload_n 0, 1) := by decide +kernel
theorem dX1_study_18 : decode cX1_study 18 = .ok (.getfield 9, 3) := by decide +kernel
theorem dX1_study_21 : decode cX1_study 21 = .ok (.iconst 0, 1) := by decide +kernel
theorem dX1_study_22 : decode cX1_study 22 = .ok (.iconst 0, 1) := by decide +kernel
theorem dX1_study_23 : decode cX1_study 23 = .ok (.iastore, 1) := by decide +kernel
theorem dX1_study_24 : decode cX1_study 24 = .ok (.aload_n 0, 1) := by decide +kernel
theorem dX1_study_25 : decode cX1_study 25 = .ok (.getfield 15, 3) := by decide +kernel
theorem dX1_study_28 : decode cX1_study 28 = .ok (.iconst 0, 1) := by decide +kernel
theorem dX1_study_29 : decode cX1_study 29 = .ok (.iconst 0, 1) := by decide +kernel
theorem dX1_study_30 : decode cX1_study 30 = .ok (.iastore, 1) := by decide +kernel
theorem dX1_study_31 : decode cX1_study 31 = .ok (.iconst 0, 1) := by decide +kernel
theorem dX1_study_32 : decode cX1_study 32 = .ok (.istore_n 3, 1) := by decide +kernel
theorem dX1_study_33 : decode cX1_study 33 = .ok (.iload_n 3, 1) := by decide +kernel
theorem dX1_study_34 : decode cX1_study 34 = .ok (.aload_n 1, 1) := by decide +kernel
theorem dX1_study_35 : decode cX1_study 35 = .ok (.getfield 28, 3) := by decide +kernel
theorem dX1_study_38 : decode cX1_study 38 = .ok (.if_icmp .ge 80, 3) := by decide +kernel
theorem dX1_study_41 : decode cX1_study 41 = .ok (.iconst 1, 1) := by decide +kernel
theorem dX1_study_42 : decode cX1_study 42 = .ok (.iload_n 3, 1) := by decide +kernel
theorem dX1_study_43 : decode cX1_study 43 = .ok (.ishl, 1) := by decide +kernel
theorem dX1_study_44 : decode cX1_study 44 = .ok (.istore 4, 2) := by decide +kernel
theorem dX1_study_46 : decode cX1_study 46 = .ok (.iconst 0, 1) := by decide +kernel
theorem dX1_study_47 : decode cX1_study 47 = .ok (.istore 5, 2) := by decide +kernel
theorem dX1_study_49 : decode cX1_study 49 = .ok (.iload 5, 2) := by decide +kernel
theorem dX1_study_51 : decode cX1_study 51 = .ok (.iload 4, 2) := by decide +kernel
theorem dX1_study_53 : decode cX1_study 53 = .ok (.if_icmp .ge 59, 3) := by decide +kernel
theorem dX1_study_56 : decode cX1_study 56 = .ok (.aload_n 0, 1) := by decide +kernel
theorem dX1_study_57 : decode cX1_study 57 = .ok (.getfield 9, 3) := by decide +kernel
theorem dX1_study_60 : decode cX1_study 60 = .ok (.iload 4, 2) := by decide +kernel
theorem dX1_study_62 : decode cX1_study 62 = .ok (.iload 5, 2) := by decide +kernel
theorem dX1_study_64 : decode cX1_study 64 = .ok (.ior, 1) := by decide +kernel
theorem dX1_study_65 : decode cX1_study 65 = .ok (.aload_n 0, 1) := by decide +kernel
theorem dX1_study_66 : decode cX1_study 66 = .ok (.getfield 9, 3) := by decide +kernel
theorem dX1_study_69 : decode cX1_study 69 = .ok (.iload 5, 2) := by decide +kernel
theorem dX1_study_71 : decode cX1_study 71 = .ok (.iaload, 1) := by decide +kernel
theorem dX1_study_72 : decode cX1_study 72 = .ok (.aload_n 1, 1) := by decide +kernel
theorem dX1_study_73 : decode cX1_study 73 = .ok (.getfield 36, 3) := by decide +kernel
theorem dX1_study_76 : decode cX1_study 76 = .ok (.iload_n 3, 1) := by decide +kernel
theorem dX1_study_77 : decode cX1_study 77 = .ok (.iaload, 1) := by decide +kernel
theorem dX1_study_78 : decode cX1_study 78 = .ok (.iadd, 1) := by decide +kernel
theorem dX1_study_79 : decode cX1_study 79 = .ok (.iastore, 1) := by decide +kernel
theorem dX1_study_80 : decode cX1_study 80 = .ok (.aload_n 0, 1) := by decide +kernel
theorem dX1_study_81 : decode cX1_study 81 = .ok (.getfield 15, 3) := by decide +kernel
theorem dX1_study_84 : decode cX1_study 84 = .ok (.iload 4, 2) := by decide +kernel
theorem dX1_study_86 : decode cX1_study 86 = .ok (.iload 5, 2) := by decide +kernel
theorem dX1_study_88 : decode cX1_study 88 = .ok (.ior, 1) := by decide +kernel
theorem dX1_study_89 : decode cX1_study 89 = .ok (.aload_n 0, 1) := by decide +kernel
theorem dX1_study_90 : decode cX1_study 90 = .ok (.getfield 15, 3) := by decide +kernel
theorem dX1_study_93 : decode cX1_study 93 = .ok (.iload 5, 2) := by decide +kernel
theorem dX1_study_95 : decode cX1_study 95 = .ok (.iaload, 1) := by decide +kernel
theorem dX1_study_96 : decode cX1_study 96 = .ok (.aload_n 1, 1) := by decide +kernel
theorem dX1_study_97 : decode cX1_study 97 = .ok (.getfield 37, 3) := by decide +kernel
theorem dX1_study_100 : decode cX1_study 100 = .ok (.iload_n 3, 1) := by decide +kernel
theorem dX1_study_101 : decode cX1_study 101 = .ok (.iaload, 1) := by decide +kernel
theorem dX1_study_102 : decode cX1_study 102 = .ok (.invokestatic 38, 3) := by decide +kernel
theorem dX1_study_105 : decode cX1_study 105 = .ok (.iastore, 1) := by decide +kernel
theorem dX1_study_106 : decode cX1_study 106 = .ok (.iinc 5 1, 3) := by decide +kernel
theorem dX1_study_109 : decode cX1_study 109 = .ok (.goto (-60), 3) := by decide +kernel
theorem dX1_study_112 : decode cX1_study 112 = .ok (.iinc 3 1, 3) := by decide +kernel
theorem dX1_study_115 : decode cX1_study 115 = .ok (.goto (-82), 3) := by decide +kernel
theorem dX1_study_118 : decode cX1_study 118 = .ok (.aload_n 0, 1) := by decide +kernel
theorem dX1_study_119 : decode cX1_study 119 = .ok (.getfield 18, 3) := by decide +kernel
theorem dX1_study_122 : decode cX1_study 122 = .ok (.iconst 0, 1) := by decide +kernel
theorem dX1_study_123 : decode cX1_study 123 = .ok (.iconst 0, 1) := by decide +kernel
theorem dX1_study_124 : decode cX1_study 124 = .ok (.iastore, 1) := by decide +kernel
theorem dX1_study_125 : decode cX1_study 125 = .ok (.aload_n 0, 1) := by decide +kernel
theorem dX1_study_126 : decode cX1_study 126 = .ok (.getfield 21, 3) := by decide +kernel
theorem dX1_study_129 : decode cX1_study 129 = .ok (.iconst 0, 1) := by decide +kernel
theorem dX1_study_130 : decode cX1_study 130 = .ok (.iconst 0, 1) := by decide +kernel
theorem dX1_study_131 : decode cX1_study 131 = .ok (.iastore, 1) := by decide +kernel
theorem dX1_study_132 : decode cX1_study 132 = .ok (.iconst 1, 1) := by decide +kernel
theorem dX1_study_133 : decode cX1_study 133 = .ok (.istore_n 3, 1) := by decide +kernel
theorem dX1_study_134 : decode cX1_study 134 = .ok (.iload_n 3, 1) := by decide +kernel
theorem dX1_study_135 : decode cX1_study 135 = .ok (.aload_n 0, 1) := by decide +kernel
theorem dX1_study_136 : decode cX1_study 136 = .ok (.getfield 33, 3) := by decide +kernel
theorem dX1_study_139 : decode cX1_study 139 = .ok (.if_icmp .gt 14, 3) := by decide +kernel
theorem dX1_study_142 : decode cX1_study 142 = .ok (.aload_n 0, 1) := by decide +kernel
theorem dX1_study_143 : decode cX1_study 143 = .ok (.iload_n 3, 1) := by decide +kernel
theorem dX1_study_144 : decode cX1_study 144 = .ok (.invokevirtual 44, 3) := by decide +kernel
theorem dX1_study_147 : decode cX1_study 147 = .ok (.iinc 3 1, 3) := by decide +kernel
theorem dX1_study_150 : decode cX1_study 150 = .ok (.goto (-16), 3) := by decide +kernel
theorem dX1_study_153 : decode cX1_study 153 = .ok (.return_, 1) := by decide +kernel
theorem r_X1_study_134 (E : kr_E)    : ∀ (n : Nat) (l3 : Int32) (M : kr_M), kR kr_vv E Y_X1_study 4 134 [(0, kr_r E 341), (3, .int l3)] [] M (f_X1_study_134 n l3 M) := by
  intro n
  induction n with
  | zero => intro l3 M; exact kr_none
  | succ n ih =>
    intro l3 M
    rw [f_X1_study_134]
    refine kr_iload_n dX1_study_134 rfl 1 rfl ?_
    refine kr_aload_n dX1_study_135 rfl 0 rfl ?_
    refine kr_getI (ci := 1) (j := 0) dX1_study_136 kr_at_341 fl_RX1_33 rfl (fun v1 => ?_)
    refine kr_icmp_gt (tgt := 153) dX1_study_139 (by decide) ?_ ?_
    · exact kr_vret dX1_study_153 rfl
    · refine kr_aload_n dX1_study_142 rfl 0 rfl ?_
      refine kr_iload_n dX1_study_143 rfl 1 rfl ?_
      refine kr_Vv (As := [.int l3]) (st := []) zv_X1_studySet dX1_study_144 ml_RX1_44 kr_at_341 (r_X1_studySet E l3 M) rfl rfl (Nat.le_of_ble_eq_true rfl) rfl (by decide) (Nat.le_of_ble_eq_true rfl) (fun M2 => ?_)
      refine kr_iinc (j := 1) (v := (l3 + (1 : Int32))) (lv' := [(3, .int (l3 + (1 : Int32))), (0, kr_r E 341)]) dX1_study_147 rfl rfl (by decide) rfl ?_
      refine kr_goto (tgt := 134) dX1_study_150 (by decide) ?_
      refine kr_sub [1, 0] rfl ?_
      exact ih (l3 + (1 : Int32)) M2
theorem r_X1_study_118 (E : kr_E)    (M : kr_M) : kR kr_vv E Y_X1_study 4 118 [(0, kr_r E 341)] [] M (f_X1_study_118 M) := by
  rw [f_X1_study_118]
  refine kr_aload_n dX1_study_118 rfl 0 rfl ?_
  refine kr_getA (o := 3) (ci := 1) (j := 3) dX1_study_119 kr_at_341 fl_RX1_18 rfl ?_
  refine kr_iconst (v := 0) dX1_study_122 (by decide) ?_
  refine kr_iconst (v := 0) dX1_study_123 (by decide) ?_
  refine kr_iast dX1_study_124 kr_at_344 (fun M1 => ?_)
  refine kr_aload_n dX1_study_125 rfl 0 rfl ?_
  refine kr_getA (o := 4) (ci := 1) (j := 4) dX1_study_126 kr_at_341 fl_RX1_21 rfl ?_
  refine kr_iconst (v := 0) dX1_study_129 (by decide) ?_
  refine kr_iconst (v := 0) dX1_study_130 (by decide) ?_
  refine kr_iast dX1_study_131 kr_at_345 (fun M2 => ?_)
  refine kr_iconst (v := 1) dX1_study_132 (by decide) ?_
  refine kr_istore_n (lv' := [(3, .int (1 : Int32)), (0, kr_r E 341)]) dX1_study_133 rfl (by decide) rfl ?_
  refine kr_sub [1, 0] rfl ?_
  exact r_X1_study_134 E _ (1 : Int32) M2
theorem r_X1_study_112 (E : kr_E) (k_33 : Int32 → kr_M → Option kr_M) (l1 : Nat) (h_l1 : kr_sh l1 = (2, 0)) (l3 : Int32) (hk_33 : ∀ (x3 : Int32) (M : kr_M), kR kr_vv E Y_X1_study 4 33 [(0, kr_r E 341), (1, kr_r E l1), (3, .int x3)] [] M (k_33 x3 M)) (M : kr_M) : kR kr_vv E Y_X1_study 4 112 [(0, kr_r E 341), (1, kr_r E l1), (3, .int l3)] [] M (f_X1_study_112 k_33 l3 M) := by
  rw [f_X1_study_112]
  refine kr_iinc (j := 2) (v := (l3 + (1 : Int32))) (lv' := [(3, .int (l3 + (1 : Int32))), (0, kr_r E 341), (1, kr_r E l1)]) dX1_study_112 rfl rfl (by decide) rfl ?_
  refine kr_goto (tgt := 33) dX1_study_115 (by decide) ?_
  refine kr_sub [1, 2, 0] rfl ?_
  exact hk_33 (l3 + (1 : Int32)) M
theorem r_X1_study_49 (E : kr_E) (k_33 : Int32 → kr_M → Option kr_M) (l1 : Nat) (h_l1 : kr_sh l1 = (2, 0)) (l3 : Int32) (l4 : Int32) (hk_33 : ∀ (x3 : Int32) (M : kr_M), kR kr_vv E Y_X1_study 4 33 [(0, kr_r E 341), (1, kr_r E l1), (3, .int x3)] [] M (k_33 x3 M)) : ∀ (n : Nat) (l5 : Int32) (M : kr_M), kR kr_vv E Y_X1_study 4 49 [(0, kr_r E 341), (1, kr_r E l1), (3, .int l3), (4, .int l4), (5, .int l5)] [] M (f_X1_study_49 k_33 l1 l3 l4 n l5 M) := by
  intro n
  induction n with
  | zero => intro l5 M; exact kr_none
  | succ n ih =>
    intro l5 M
    rw [f_X1_study_49]
    refine kr_iload dX1_study_49 4 rfl ?_
    refine kr_iload dX1_study_51 3 rfl ?_
    refine kr_icmp_ge (tgt := 112) dX1_study_53 (by decide) ?_ ?_
    · refine kr_sub [0, 1, 2] rfl ?_
      exact r_X1_study_112 E _ l1 h_l1 l3 hk_33 M
    · refine kr_aload_n dX1_study_56 rfl 0 rfl ?_
      refine kr_getA (o := 1) (ci := 1) (j := 1) dX1_study_57 kr_at_341 fl_RX1_9 rfl ?_
      refine kr_iload dX1_study_60 3 rfl ?_
      refine kr_iload dX1_study_62 4 rfl ?_
      refine kr_ior dX1_study_64 ?_
      refine kr_aload_n dX1_study_65 rfl 0 rfl ?_
      refine kr_getA (o := 1) (ci := 1) (j := 1) dX1_study_66 kr_at_341 fl_RX1_9 rfl ?_
      refine kr_iload dX1_study_69 4 rfl ?_
      refine kr_iald dX1_study_71 kr_at_342 (fun v1 => ?_)
      refine kr_aload_n dX1_study_72 rfl 1 rfl ?_
      refine kr_getA (o := 6) (ci := 2) (j := 15) dX1_study_73 h_l1 fl_RX1_36 rfl ?_
      refine kr_iload_n dX1_study_76 rfl 2 rfl ?_
      refine kr_iald dX1_study_77 (kr_shG6 _ h_l1) (fun v2 => ?_)
      refine kr_iadd dX1_study_78 ?_
      refine kr_iast dX1_study_79 kr_at_342 (fun M3 => ?_)
      refine kr_aload_n dX1_study_80 rfl 0 rfl ?_
      refine kr_getA (o := 2) (ci := 1) (j := 2) dX1_study_81 kr_at_341 fl_RX1_15 rfl ?_
      refine kr_iload dX1_study_84 3 rfl ?_
      refine kr_iload dX1_study_86 4 rfl ?_
      refine kr_ior dX1_study_88 ?_
      refine kr_aload_n dX1_study_89 rfl 0 rfl ?_
      refine kr_getA (o := 2) (ci := 1) (j := 2) dX1_study_90 kr_at_341 fl_RX1_15 rfl ?_
      refine kr_iload dX1_study_93 4 rfl ?_
      refine kr_iald dX1_study_95 kr_at_343 (fun v4 => ?_)
      refine kr_aload_n dX1_study_96 rfl 1 rfl ?_
      refine kr_getA (o := 7) (ci := 2) (j := 16) dX1_study_97 h_l1 fl_RX1_37 rfl ?_
      refine kr_iload_n dX1_study_100 rfl 2 rfl ?_
      refine kr_iald dX1_study_101 (kr_shG7 _ h_l1) (fun v5 => ?_)
      refine kr_mmax dX1_study_102 ml_RX1_38 (by decide) (Nat.le_of_ble_eq_true rfl) ?_
      refine kr_iast dX1_study_105 kr_at_343 (fun M6 => ?_)
      refine kr_iinc (j := 4) (v := (l5 + (1 : Int32))) (lv' := [(5, .int (l5 + (1 : Int32))), (0, kr_r E 341), (1, kr_r E l1), (3, .int l3), (4, .int l4)]) dX1_study_106 rfl rfl (by decide) rfl ?_
      refine kr_goto (tgt := 49) dX1_study_109 (by decide) ?_
      refine kr_sub [1, 2, 3, 4, 0] rfl ?_
      exact ih (l5 + (1 : Int32)) M6
theorem r_X1_study_33 (E : kr_E)  (l1 : Nat) (h_l1 : kr_sh l1 = (2, 0))  : ∀ (n : Nat) (l3 : Int32) (M : kr_M), kR kr_vv E Y_X1_study 4 33 [(0, kr_r E 341), (1, kr_r E l1), (3, .int l3)] [] M (f_X1_study_33 l1 n l3 M) := by
  intro n
  induction n with
  | zero => intro l3 M; exact kr_none
  | succ n ih =>
    intro l3 M
    rw [f_X1_study_33]
    refine kr_iload_n dX1_study_33 rfl 2 rfl ?_
    refine kr_aload_n dX1_study_34 rfl 1 rfl ?_
    refine kr_getI (ci := 2) (j := 7) dX1_study_35 h_l1 fl_RX1_28 rfl (fun v1 => ?_)
    refine kr_icmp_ge (tgt := 118) dX1_study_38 (by decide) ?_ ?_
    · refine kr_sub [0] rfl ?_
      exact r_X1_study_118 E M
    · refine kr_iconst (v := 1) dX1_study_41 (by decide) ?_
      refine kr_iload_n dX1_study_42 rfl 2 rfl ?_
      refine kr_ishl dX1_study_43 ?_
      refine kr_nmi (fun v2 => ?_)
      refine kr_istore (lv' := [(4, .int v2), (0, kr_r E 341), (1, kr_r E l1), (3, .int l3)]) dX1_study_44 (by decide) rfl ?_
      refine kr_iconst (v := 0) dX1_study_46 (by decide) ?_
      refine kr_istore (lv' := [(5, .int (0 : Int32)), (4, .int v2), (0, kr_r E 341), (1, kr_r E l1), (3, .int l3)]) dX1_study_47 (by decide) rfl ?_
      refine kr_sub [2, 3, 4, 1, 0] rfl ?_
      exact r_X1_study_49 E _ l1 h_l1 l3 v2 ih _ (0 : Int32) M
theorem r_X1_study (E : kr_E) (p1 : Nat) (h_p1 : kr_sh p1 = (2, 0)) (p2 : Int32) (M : kr_M) : kR kr_vv E Y_X1_study 4 0 [(0, kr_r E 341), (1, kr_r E p1), (2, .int p2)] [] M (f_X1_study p1 p2 M) := by
  rw [f_X1_study]
  refine kr_aload_n dX1_study_0 rfl 0 rfl ?_
  refine kr_iload_n dX1_study_1 rfl 2 rfl ?_
  refine kr_putI (ci := 1) (j := 5) dX1_study_2 kr_at_341 fl_RX1_24 rfl rfl (fun M1 => ?_)
  refine kr_aload_n dX1_study_5 rfl 0 rfl ?_
  refine kr_iconst (v := 1) dX1_study_6 (by decide) ?_
  refine kr_aload_n dX1_study_7 rfl 1 rfl ?_
  refine kr_getI (ci := 2) (j := 7) dX1_study_8 h_p1 fl_RX1_28 rfl (fun v2 => ?_)
  refine kr_ishl dX1_study_11 ?_
  refine kr_iconst (v := 1) dX1_study_12 (by decide) ?_
  refine kr_isub dX1_study_13 ?_
  refine kr_putI (ci := 1) (j := 0) dX1_study_14 kr_at_341 fl_RX1_33 rfl rfl (fun M3 => ?_)
  refine kr_aload_n dX1_study_17 rfl 0 rfl ?_
  refine kr_getA (o := 1) (ci := 1) (j := 1) dX1_study_18 kr_at_341 fl_RX1_9 rfl ?_
  refine kr_iconst (v := 0) dX1_study_21 (by decide) ?_
  refine kr_iconst (v := 0) dX1_study_22 (by decide) ?_
  refine kr_iast dX1_study_23 kr_at_342 (fun M4 => ?_)
  refine kr_aload_n dX1_study_24 rfl 0 rfl ?_
  refine kr_getA (o := 2) (ci := 1) (j := 2) dX1_study_25 kr_at_341 fl_RX1_15 rfl ?_
  refine kr_iconst (v := 0) dX1_study_28 (by decide) ?_
  refine kr_iconst (v := 0) dX1_study_29 (by decide) ?_
  refine kr_iast dX1_study_30 kr_at_343 (fun M5 => ?_)
  refine kr_iconst (v := 0) dX1_study_31 (by decide) ?_
  refine kr_istore_n (lv' := [(3, .int (0 : Int32)), (0, kr_r E 341), (1, kr_r E p1), (2, .int p2)]) dX1_study_32 rfl (by decide) rfl ?_
  refine kr_sub [1, 2, 0] rfl ?_
  exact r_X1_study_33 E p1 h_p1 _ (0 : Int32) M5
theorem dX1_leastPaces_0 : decode cX1_leastPaces 0 = .ok (.aload_n 0, 1) := by decide +kernel
theorem dX1_leastPaces_1 : decode cX1_leastPaces 1 = .ok (.getfield 18, 3) := by decide +kernel
theorem dX1_leastPaces_4 : decode cX1_leastPaces 4 = .ok (.aload_n 0, 1) := by decide +kernel
theorem dX1_leastPaces_5 : decode cX1_leastPaces 5 = .ok (.getfield 33, 3) := by decide +kernel
theorem dX1_leastPaces_8 : decode cX1_leastPaces 8 = .ok (.iaload, 1) := by decide +kernel
theorem dX1_leastPaces_9 : decode cX1_leastPaces 9 = .ok (.ireturn, 1) := by decide +kernel
theorem r_X1_leastPaces (E : kr_E)  (M : kr_M) : kR kr_vi E Y_X1_leastPaces 1 0 [(0, kr_r E 341)] [] M (f_X1_leastPaces M) := by
  rw [f_X1_leastPaces]
  refine kr_aload_n dX1_leastPaces_0 rfl 0 rfl ?_
  refine kr_getA (o := 3) (ci := 1) (j := 3) dX1_leastPaces_1 kr_at_341 fl_RX1_18 rfl ?_
  refine kr_aload_n dX1_leastPaces_4 rfl 0 rfl ?_
  refine kr_getI (ci := 1) (j := 0) dX1_leastPaces_5 kr_at_341 fl_RX1_33 rfl (fun v1 => ?_)
  refine kr_iald dX1_leastPaces_8 kr_at_344 (fun v2 => ?_)
  exact kr_iret dX1_leastPaces_9 rfl
theorem dX1_fewestGroups_0 : decode cX1_fewestGroups 0 = .ok (.aload_n 0, 1) := by decide +kernel
theorem dX1_fewestGroups_1 : decode cX1_fewestGroups 1 = .ok (.getfield 21, 3) := by decide +kernel
theorem dX1_fewestGroups_4 : decode cX1_fewestGroups 4 = .ok (.aload_n 0, 1) := by decide +kernel
theorem dX1_fewestGroups_5 : decode cX1_fewestGroups 5 = .ok (.getfield 33, 3) := by decide +kernel
theorem dX1_fewestGroups_8 : decode cX1_fewestGroups 8 = .ok (.iaload, 1) := by decide +kernel
theorem dX1_fewestGroups_9 : decode cX1_fewestGroups 9 = .ok (.ireturn, 1) := by decide +kernel
theorem r_X1_fewestGroups (E : kr_E)  (M : kr_M) : kR kr_vi E Y_X1_fewestGroups 1 0 [(0, kr_r E 341)] [] M (f_X1_fewestGroups M) := by
  rw [f_X1_fewestGroups]
  refine kr_aload_n dX1_fewestGroups_0 rfl 0 rfl ?_
  refine kr_getA (o := 4) (ci := 1) (j := 4) dX1_fewestGroups_1 kr_at_341 fl_RX1_21 rfl ?_
  refine kr_aload_n dX1_fewestGroups_4 rfl 0 rfl ?_
  refine kr_getI (ci := 1) (j := 0) dX1_fewestGroups_5 kr_at_341 fl_RX1_33 rfl (fun v1 => ?_)
  refine kr_iald dX1_fewestGroups_8 kr_at_345 (fun v2 => ?_)
  exact kr_iret dX1_fewestGroups_9 rfl
theorem dX1_groupOfFirst_0 : decode cX1_groupOfFirst 0 = .ok (.iconst 1, 1) := by decide +kernel
theorem dX1_groupOfFirst_1 : decode cX1_groupOfFirst 1 = .ok (.istore_n 1, 1) := by decide +kernel
theorem dX1_groupOfFirst_2 : decode cX1_groupOfFirst 2 = .ok (.iload_n 1, 1) := by decide +kernel
theorem dX1_groupOfFirst_3 : decode cX1_groupOfFirst 3 = .ok (.aload_n 0, 1) := by decide +kernel
theorem dX1_groupOfFirst_4 : decode cX1_groupOfFirst 4 = .ok (.getfield 33, 3) := by decide +kernel
theorem dX1_groupOfFirst_7 : decode cX1_groupOfFirst 7 = .ok (.if_icmp .gt 56, 3) := by decide +kernel
theorem dX1_groupOfFirst_10 : decode cX1_groupOfFirst 10 = .ok (.aload_n 0, 1) := by decide +kernel
theorem dX1_groupOfFirst_11 : decode cX1_groupOfFirst 11 = .ok (.iload_n 1, 1) := by decide +kernel
theorem dX1_groupOfFirst_12 : decode cX1_groupOfFirst 12 = .ok (.aload_n 0, 1) := by decide +kernel
theorem dX1_groupOfFirst_13 : decode cX1_groupOfFirst 13 = .ok (.getfield 33, 3) := by decide +kernel
theorem dX1_groupOfFirst_16 : decode cX1_groupOfFirst 16 = .ok (.iconst 1, 1) := by decide +kernel
theorem dX1_groupOfFirst_17 : decode cX1_groupOfFirst 17 = .ok (.invokevirtual 48, 3) := by decide +kernel
theorem dX1_groupOfFirst_20 : decode cX1_groupOfFirst 20 = .ok (.ifCond .eq 37, 3) := by decide +kernel
theorem dX1_groupOfFirst_23 : decode cX1_groupOfFirst 23 = .ok (.aload_n 0, 1) := by decide +kernel
theorem dX1_groupOfFirst_24 : decode cX1_groupOfFirst 24 = .ok (.getfield 15, 3) := by decide +kernel
theorem dX1_groupOfFirst_27 : decode cX1_groupOfFirst 27 = .ok (.iload_n 1, 1) := by decide +kernel
theorem dX1_groupOfFirst_28 : decode cX1_groupOfFirst 28 = .ok (.iaload, 1) := by decide +kernel
theorem dX1_groupOfFirst_29 : decode cX1_groupOfFirst 29 = .ok (.aload_n 0, 1) := by decide +kernel
theorem dX1_groupOfFirst_30 : decode cX1_groupOfFirst 30 = .ok (.getfield 18, 3) := by decide +kernel
theorem dX1_groupOfFirst_33 : decode cX1_groupOfFirst 33 = .ok (.aload_n 0, 1) := by decide +kernel
theorem dX1_groupOfFirst_34 : decode cX1_groupOfFirst 34 = .ok (.getfield 33, 3) := by decide +kernel
theorem dX1_groupOfFirst_37 : decode cX1_groupOfFirst 37 = .ok (.iload_n 1, 1) := by decide +kernel
theorem dX1_groupOfFirst_38 : decode cX1_groupOfFirst 38 = .ok (.iconst (-1), 1) := by decide +kernel
theorem dX1_groupOfFirst_39 : decode cX1_groupOfFirst 39 = .ok (.ixor, 1) := by decide +kernel
theorem dX1_groupOfFirst_40 : decode cX1_groupOfFirst 40 = .ok (.iand, 1) := by decide +kernel
theorem dX1_groupOfFirst_41 : decode cX1_groupOfFirst 41 = .ok (.iaload, 1) := by decide +kernel
theorem dX1_groupOfFirst_42 : decode cX1_groupOfFirst 42 = .ok (.iadd, 1) := by decide +kernel
theorem dX1_groupOfFirst_43 : decode cX1_groupOfFirst 43 = .ok (.aload_n 0, 1) := by decide +kernel
theorem dX1_groupOfFirst_44 : decode cX1_groupOfFirst 44 = .ok (.getfield 18, 3) := by decide +kernel
theorem dX1_groupOfFirst_47 : decode cX1_groupOfFirst 47 = .ok (.aload_n 0, 1) := by decide +kernel
theorem dX1_groupOfFirst_48 : decode cX1_groupOfFirst 48 = .ok (.getfield 33, 3) := by decide +kernel
theorem dX1_groupOfFirst_51 : decode cX1_groupOfFirst 51 = .ok (.iaload, 1) := by decide +kernel
theorem dX1_groupOfFirst_52 : decode cX1_groupOfFirst 52 = .ok (.if_icmp .ne 5, 3) := by decide +kernel
theorem dX1_groupOfFirst_55 : decode cX1_groupOfFirst 55 = .ok (.iload_n 1, 1) := by decide +kernel
theorem dX1_groupOfFirst_56 : decode cX1_groupOfFirst 56 = .ok (.ireturn, 1) := by decide +kernel
theorem dX1_groupOfFirst_57 : decode cX1_groupOfFirst 57 = .ok (.iinc 1 1, 3) := by decide +kernel
theorem dX1_groupOfFirst_60 : decode cX1_groupOfFirst 60 = .ok (.goto (-58), 3) := by decide +kernel
theorem dX1_groupOfFirst_63 : decode cX1_groupOfFirst 63 = .ok (.iconst (-1), 1) := by decide +kernel
theorem dX1_groupOfFirst_64 : decode cX1_groupOfFirst 64 = .ok (.ireturn, 1) := by decide +kernel
theorem r_X1_groupOfFirst_57 (E : kr_E) (k_2 : Int32 → kr_M → Option (Int32 × kr_M)) (l1 : Int32) (hk_2 : ∀ (x1 : Int32) (M : kr_M), kR kr_vi E Y_X1_groupOfFirst 2 2 [(0, kr_r E 341), (1, .int x1)] [] M (k_2 x1 M)) (M : kr_M) : kR kr_vi E Y_X1_groupOfFirst 2 57 [(0, kr_r E 341), (1, .int l1)] [] M (f_X1_groupOfFirst_57 k_2 l1 M) := by
  rw [f_X1_groupOfFirst_57]
  refine kr_iinc (j := 1) (v := (l1 + (1 : Int32))) (lv' := [(1, .int (l1 + (1 : Int32))), (0, kr_r E 341)]) dX1_groupOfFirst_57 rfl rfl (by decide) rfl ?_
  refine kr_goto (tgt := 2) dX1_groupOfFirst_60 (by decide) ?_
  refine kr_sub [1, 0] rfl ?_
  exact hk_2 (l1 + (1 : Int32)) M
theorem r_X1_groupOfFirst_2 (E : kr_E)    : ∀ (n : Nat) (l1 : Int32) (M : kr_M), kR kr_vi E Y_X1_groupOfFirst 2 2 [(0, kr_r E 341), (1, .int l1)] [] M (f_X1_groupOfFirst_2 n l1 M) := by
  intro n
  induction n with
  | zero => intro l1 M; exact kr_none
  | succ n ih =>
    intro l1 M
    rw [f_X1_groupOfFirst_2]
    refine kr_iload_n dX1_groupOfFirst_2 rfl 1 rfl ?_
    refine kr_aload_n dX1_groupOfFirst_3 rfl 0 rfl ?_
    refine kr_getI (ci := 1) (j := 0) dX1_groupOfFirst_4 kr_at_341 fl_RX1_33 rfl (fun v1 => ?_)
    refine kr_icmp_gt (tgt := 63) dX1_groupOfFirst_7 (by decide) ?_ ?_
    · refine kr_iconst (v := -1) dX1_groupOfFirst_63 (by decide) ?_
      exact kr_iret dX1_groupOfFirst_64 rfl
    · refine kr_aload_n dX1_groupOfFirst_10 rfl 0 rfl ?_
      refine kr_iload_n dX1_groupOfFirst_11 rfl 1 rfl ?_
      refine kr_aload_n dX1_groupOfFirst_12 rfl 0 rfl ?_
      refine kr_getI (ci := 1) (j := 0) dX1_groupOfFirst_13 kr_at_341 fl_RX1_33 rfl (fun v2 => ?_)
      refine kr_iconst (v := 1) dX1_groupOfFirst_16 (by decide) ?_
      refine kr_Vi (As := [.int l1, .int v2, .int (1 : Int32)]) (st := []) zv_X1_isParty dX1_groupOfFirst_17 ml_RX1_48 kr_at_341 (r_X1_isParty E l1 v2 (1 : Int32) M) rfl rfl (Nat.le_of_ble_eq_true rfl) rfl (by decide) (Nat.le_of_ble_eq_true rfl) (fun r4 M3 => ?_)
      refine kr_if_eq (tgt := 57) dX1_groupOfFirst_20 (by decide) ?_ ?_
      · refine kr_sub [0, 1] rfl ?_
        exact r_X1_groupOfFirst_57 E _ l1 ih M3
      · refine kr_aload_n dX1_groupOfFirst_23 rfl 0 rfl ?_
        refine kr_getA (o := 2) (ci := 1) (j := 2) dX1_groupOfFirst_24 kr_at_341 fl_RX1_15 rfl ?_
        refine kr_iload_n dX1_groupOfFirst_27 rfl 1 rfl ?_
        refine kr_iald dX1_groupOfFirst_28 kr_at_343 (fun v5 => ?_)
        refine kr_aload_n dX1_groupOfFirst_29 rfl 0 rfl ?_
        refine kr_getA (o := 3) (ci := 1) (j := 3) dX1_groupOfFirst_30 kr_at_341 fl_RX1_18 rfl ?_
        refine kr_aload_n dX1_groupOfFirst_33 rfl 0 rfl ?_
        refine kr_getI (ci := 1) (j := 0) dX1_groupOfFirst_34 kr_at_341 fl_RX1_33 rfl (fun v6 => ?_)
        refine kr_iload_n dX1_groupOfFirst_37 rfl 1 rfl ?_
        refine kr_iconst (v := -1) dX1_groupOfFirst_38 (by decide) ?_
        refine kr_ixor dX1_groupOfFirst_39 ?_
        refine kr_iand dX1_groupOfFirst_40 ?_
        refine kr_iald dX1_groupOfFirst_41 kr_at_344 (fun v7 => ?_)
        refine kr_iadd dX1_groupOfFirst_42 ?_
        refine kr_aload_n dX1_groupOfFirst_43 rfl 0 rfl ?_
        refine kr_getA (o := 3) (ci := 1) (j := 3) dX1_groupOfFirst_44 kr_at_341 fl_RX1_18 rfl ?_
        refine kr_aload_n dX1_groupOfFirst_47 rfl 0 rfl ?_
        refine kr_getI (ci := 1) (j := 0) dX1_groupOfFirst_48 kr_at_341 fl_RX1_33 rfl (fun v8 => ?_)
        refine kr_iald dX1_groupOfFirst_51 kr_at_344 (fun v9 => ?_)
        refine kr_icmp_ne (tgt := 57) dX1_groupOfFirst_52 (by decide) ?_ ?_
        · refine kr_sub [0, 1] rfl ?_
          exact r_X1_groupOfFirst_57 E _ l1 ih M3
        · refine kr_iload_n dX1_groupOfFirst_55 rfl 1 rfl ?_
          exact kr_iret dX1_groupOfFirst_56 rfl
theorem r_X1_groupOfFirst (E : kr_E)  (M : kr_M) : kR kr_vi E Y_X1_groupOfFirst 2 0 [(0, kr_r E 341)] [] M (f_X1_groupOfFirst M) := by
  rw [f_X1_groupOfFirst]
  refine kr_iconst (v := 1) dX1_groupOfFirst_0 (by decide) ?_
  refine kr_istore_n (lv' := [(1, .int (1 : Int32)), (0, kr_r E 341)]) dX1_groupOfFirst_1 rfl (by decide) rfl ?_
  refine kr_sub [1, 0] rfl ?_
  exact r_X1_groupOfFirst_2 E _ (1 : Int32) M
theorem dJ6_bitCount_0f7a4_0 : decode cJ6_bitCount_0f7a4 0 = .ok (.iload_n 0, 1) := by decide +kernel
theorem dJ6_bitCount_0f7a4_1 : decode cJ6_bitCount_0f7a4 1 = .ok (.iload_n 0, 1) := by decide +kernel
theorem dJ6_bitCount_0f7a4_2 : decode cJ6_bitCount_0f7a4 2 = .ok (.iconst 1, 1) := by decide +kernel
theorem dJ6_bitCount_0f7a4_3 : decode cJ6_bitCount_0f7a4 3 = .ok (.iushr, 1) := by decide +kernel
theorem dJ6_bitCount_0f7a4_4 : decode cJ6_bitCount_0f7a4 4 = .ok (.ldc_w 265, 3) := by decide +kernel
theorem dJ6_bitCount_0f7a4_7 : decode cJ6_bitCount_0f7a4 7 = .ok (.iand, 1) := by decide +kernel
theorem dJ6_bitCount_0f7a4_8 : decode cJ6_bitCount_0f7a4 8 = .ok (.isub, 1) := by decide +kernel
theorem dJ6_bitCount_0f7a4_9 : decode cJ6_bitCount_0f7a4 9 = .ok (.istore_n 0, 1) := by decide +kernel
theorem dJ6_bitCount_0f7a4_10 : decode cJ6_bitCount_0f7a4 10 = .ok (.iload_n 0, 1) := by decide +kernel
theorem dJ6_bitCount_0f7a4_11 : decode cJ6_bitCount_0f7a4 11 = .ok (.ldc_w 266, 3) := by decide +kernel
theorem dJ6_bitCount_0f7a4_14 : decode cJ6_bitCount_0f7a4 14 = .ok (.iand, 1) := by decide +kernel
theorem dJ6_bitCount_0f7a4_15 : decode cJ6_bitCount_0f7a4 15 = .ok (.iload_n 0, 1) := by decide +kernel
theorem dJ6_bitCount_0f7a4_16 : decode cJ6_bitCount_0f7a4 16 = .ok (.iconst 2, 1) := by decide +kernel
theorem dJ6_bitCount_0f7a4_17 : decode cJ6_bitCount_0f7a4 17 = .ok (.iushr, 1) := by decide +kernel
theorem dJ6_bitCount_0f7a4_18 : decode cJ6_bitCount_0f7a4 18 = .ok (.ldc_w 266, 3) := by decide +kernel
theorem dJ6_bitCount_0f7a4_21 : decode cJ6_bitCount_0f7a4 21 = .ok (.iand, 1) := by decide +kernel
theorem dJ6_bitCount_0f7a4_22 : decode cJ6_bitCount_0f7a4 22 = .ok (.iadd, 1) := by decide +kernel
theorem dJ6_bitCount_0f7a4_23 : decode cJ6_bitCount_0f7a4 23 = .ok (.istore_n 0, 1) := by decide +kernel
theorem dJ6_bitCount_0f7a4_24 : decode cJ6_bitCount_0f7a4 24 = .ok (.iload_n 0, 1) := by decide +kernel
theorem dJ6_bitCount_0f7a4_25 : decode cJ6_bitCount_0f7a4 25 = .ok (.iload_n 0, 1) := by decide +kernel
theorem dJ6_bitCount_0f7a4_26 : decode cJ6_bitCount_0f7a4 26 = .ok (.iconst 4, 1) := by decide +kernel
theorem dJ6_bitCount_0f7a4_27 : decode cJ6_bitCount_0f7a4 27 = .ok (.iushr, 1) := by decide +kernel
theorem dJ6_bitCount_0f7a4_28 : decode cJ6_bitCount_0f7a4 28 = .ok (.iadd, 1) := by decide +kernel
theorem dJ6_bitCount_0f7a4_29 : decode cJ6_bitCount_0f7a4 29 = .ok (.ldc_w 267, 3) := by decide +kernel
theorem dJ6_bitCount_0f7a4_32 : decode cJ6_bitCount_0f7a4 32 = .ok (.iand, 1) := by decide +kernel
theorem dJ6_bitCount_0f7a4_33 : decode cJ6_bitCount_0f7a4 33 = .ok (.istore_n 0, 1) := by decide +kernel
theorem dJ6_bitCount_0f7a4_34 : decode cJ6_bitCount_0f7a4 34 = .ok (.iload_n 0, 1) := by decide +kernel
theorem dJ6_bitCount_0f7a4_35 : decode cJ6_bitCount_0f7a4 35 = .ok (.iload_n 0, 1) := by decide +kernel
theorem dJ6_bitCount_0f7a4_36 : decode cJ6_bitCount_0f7a4 36 = .ok (.bipush 8, 2) := by decide +kernel
theorem dJ6_bitCount_0f7a4_38 : decode cJ6_bitCount_0f7a4 38 = .ok (.iushr, 1) := by decide +kernel
theorem dJ6_bitCount_0f7a4_39 : decode cJ6_bitCount_0f7a4 39 = .ok (.iadd, 1) := by decide +kernel
theorem dJ6_bitCount_0f7a4_40 : decode cJ6_bitCount_0f7a4 40 = .ok (.istore_n 0, 1) := by decide +kernel
theorem dJ6_bitCount_0f7a4_41 : decode cJ6_bitCount_0f7a4 41 = .ok (.iload_n 0, 1) := by decide +kernel
theorem dJ6_bitCount_0f7a4_42 : decode cJ6_bitCount_0f7a4 42 = .ok (.iload_n 0, 1) := by decide +kernel
theorem dJ6_bitCount_0f7a4_43 : decode cJ6_bitCount_0f7a4 43 = .ok (.bipush 16, 2) := by decide +kernel
theorem dJ6_bitCount_0f7a4_45 : decode cJ6_bitCount_0f7a4 45 = .ok (.iushr, 1) := by decide +kernel
theorem dJ6_bitCount_0f7a4_46 : decode cJ6_bitCount_0f7a4 46 = .ok (.iadd, 1) := by decide +kernel
theorem dJ6_bitCount_0f7a4_47 : decode cJ6_bitCount_0f7a4 47 = .ok (.istore_n 0, 1) := by decide +kernel
theorem dJ6_bitCount_0f7a4_48 : decode cJ6_bitCount_0f7a4 48 = .ok (.iload_n 0, 1) := by decide +kernel
theorem dJ6_bitCount_0f7a4_49 : decode cJ6_bitCount_0f7a4 49 = .ok (.bipush 63, 2) := by decide +kernel
theorem dJ6_bitCount_0f7a4_51 : decode cJ6_bitCount_0f7a4 51 = .ok (.iand, 1) := by decide +kernel
theorem dJ6_bitCount_0f7a4_52 : decode cJ6_bitCount_0f7a4 52 = .ok (.ireturn, 1) := by decide +kernel
theorem r_J6_bitCount_0f7a4 (E : kr_E) (p0 : Int32) (M : kr_M) : kR kr_vi E Y_J6_bitCount_0f7a4 1 0 [(0, .int p0)] [] M (f_J6_bitCount_0f7a4 p0 M) := by
  rw [f_J6_bitCount_0f7a4]
  refine kr_iload_n dJ6_bitCount_0f7a4_0 rfl 0 rfl ?_
  refine kr_iload_n dJ6_bitCount_0f7a4_1 rfl 0 rfl ?_
  refine kr_iconst (v := 1) dJ6_bitCount_0f7a4_2 (by decide) ?_
  refine kr_iushr dJ6_bitCount_0f7a4_3 ?_
  refine kr_ldcw dJ6_bitCount_0f7a4_4 kc_RJ6_265 ?_
  refine kr_iand dJ6_bitCount_0f7a4_7 ?_
  refine kr_isub dJ6_bitCount_0f7a4_8 ?_
  refine kr_nmi (fun v1 => ?_)
  refine kr_istore_n (lv' := [(0, .int v1)]) dJ6_bitCount_0f7a4_9 rfl (by decide) rfl ?_
  refine kr_iload_n dJ6_bitCount_0f7a4_10 rfl 0 rfl ?_
  refine kr_ldcw dJ6_bitCount_0f7a4_11 kc_RJ6_266 ?_
  refine kr_iand dJ6_bitCount_0f7a4_14 ?_
  refine kr_iload_n dJ6_bitCount_0f7a4_15 rfl 0 rfl ?_
  refine kr_iconst (v := 2) dJ6_bitCount_0f7a4_16 (by decide) ?_
  refine kr_iushr dJ6_bitCount_0f7a4_17 ?_
  refine kr_ldcw dJ6_bitCount_0f7a4_18 kc_RJ6_266 ?_
  refine kr_iand dJ6_bitCount_0f7a4_21 ?_
  refine kr_iadd dJ6_bitCount_0f7a4_22 ?_
  refine kr_nmi (fun v2 => ?_)
  refine kr_istore_n (lv' := [(0, .int v2)]) dJ6_bitCount_0f7a4_23 rfl (by decide) rfl ?_
  refine kr_iload_n dJ6_bitCount_0f7a4_24 rfl 0 rfl ?_
  refine kr_iload_n dJ6_bitCount_0f7a4_25 rfl 0 rfl ?_
  refine kr_iconst (v := 4) dJ6_bitCount_0f7a4_26 (by decide) ?_
  refine kr_iushr dJ6_bitCount_0f7a4_27 ?_
  refine kr_iadd dJ6_bitCount_0f7a4_28 ?_
  refine kr_ldcw dJ6_bitCount_0f7a4_29 kc_RJ6_267 ?_
  refine kr_iand dJ6_bitCount_0f7a4_32 ?_
  refine kr_nmi (fun v3 => ?_)
  refine kr_istore_n (lv' := [(0, .int v3)]) dJ6_bitCount_0f7a4_33 rfl (by decide) rfl ?_
  refine kr_iload_n dJ6_bitCount_0f7a4_34 rfl 0 rfl ?_
  refine kr_iload_n dJ6_bitCount_0f7a4_35 rfl 0 rfl ?_
  refine kr_bipush (v := 8) dJ6_bitCount_0f7a4_36 (by decide) ?_
  refine kr_iushr dJ6_bitCount_0f7a4_38 ?_
  refine kr_iadd dJ6_bitCount_0f7a4_39 ?_
  refine kr_nmi (fun v4 => ?_)
  refine kr_istore_n (lv' := [(0, .int v4)]) dJ6_bitCount_0f7a4_40 rfl (by decide) rfl ?_
  refine kr_iload_n dJ6_bitCount_0f7a4_41 rfl 0 rfl ?_
  refine kr_iload_n dJ6_bitCount_0f7a4_42 rfl 0 rfl ?_
  refine kr_bipush (v := 16) dJ6_bitCount_0f7a4_43 (by decide) ?_
  refine kr_iushr dJ6_bitCount_0f7a4_45 ?_
  refine kr_iadd dJ6_bitCount_0f7a4_46 ?_
  refine kr_nmi (fun v5 => ?_)
  refine kr_istore_n (lv' := [(0, .int v5)]) dJ6_bitCount_0f7a4_47 rfl (by decide) rfl ?_
  refine kr_iload_n dJ6_bitCount_0f7a4_48 rfl 0 rfl ?_
  refine kr_bipush (v := 63) dJ6_bitCount_0f7a4_49 (by decide) ?_
  refine kr_iand dJ6_bitCount_0f7a4_51 ?_
  exact kr_iret dJ6_bitCount_0f7a4_52 rfl
theorem dX1_mostAtOnce_0 : decode cX1_mostAtOnce 0 = .ok (.iconst 0, 1) := by decide +kernel
theorem dX1_mostAtOnce_1 : decode cX1_mostAtOnce 1 = .ok (.istore_n 1, 1) := by decide +kernel
theorem dX1_mostAtOnce_2 : decode cX1_mostAtOnce 2 = .ok (.iconst 1, 1) := by decide +kernel
theorem dX1_mostAtOnce_3 : decode cX1_mostAtOnce 3 = .ok (.istore_n 2, 1) := by decide +kernel
theorem dX1_mostAtOnce_4 : decode cX1_mostAtOnce 4 = .ok (.iload_n 2, 1) := by decide +kernel
theorem dX1_mostAtOnce_5 : decode cX1_mostAtOnce 5 = .ok (.aload_n 0, 1) := by decide +kernel
theorem dX1_mostAtOnce_6 : decode cX1_mostAtOnce 6 = .ok (.getfield 33, 3) := by decide +kernel
theorem dX1_mostAtOnce_9 : decode cX1_mostAtOnce 9 = .ok (.if_icmp .gt 31, 3) := by decide +kernel
theorem dX1_mostAtOnce_12 : decode cX1_mostAtOnce 12 = .ok (.aload_n 0, 1) := by decide +kernel
theorem dX1_mostAtOnce_13 : decode cX1_mostAtOnce 13 = .ok (.getfield 9, 3) := by decide +kernel
theorem dX1_mostAtOnce_16 : decode cX1_mostAtOnce 16 = .ok (.iload_n 2, 1) := by decide +kernel
theorem dX1_mostAtOnce_17 : decode cX1_mostAtOnce 17 = .ok (.iaload, 1) := by decide +kernel
theorem dX1_mostAtOnce_18 : decode cX1_mostAtOnce 18 = .ok (.aload_n 0, 1) := by decide +kernel
theorem dX1_mostAtOnce_19 : decode cX1_mostAtOnce 19 = .ok (.getfield 24, 3) := by decide +kernel
theorem dX1_mostAtOnce_22 : decode cX1_mostAtOnce 22 = .ok (.if_icmp .gt 12, 3) := by decide +kernel
theorem dX1_mostAtOnce_25 : decode cX1_mostAtOnce 25 = .ok (.iload_n 1, 1) := by decide +kernel
theorem dX1_mostAtOnce_26 : decode cX1_mostAtOnce 26 = .ok (.iload_n 2, 1) := by decide +kernel
theorem dX1_mostAtOnce_27 : decode cX1_mostAtOnce 27 = .ok (.invokestatic 55, 3) := by decide +kernel
theorem dX1_mostAtOnce_30 : decode cX1_mostAtOnce 30 = .ok (.invokestatic 38, 3) := by decide +kernel
theorem dX1_mostAtOnce_33 : decode cX1_mostAtOnce 33 = .ok (.istore_n 1, 1) := by decide +kernel
theorem dX1_mostAtOnce_34 : decode cX1_mostAtOnce 34 = .ok (.iinc 2 1, 3) := by decide +kernel
theorem dX1_mostAtOnce_37 : decode cX1_mostAtOnce 37 = .ok (.goto (-33), 3) := by decide +kernel
theorem dX1_mostAtOnce_40 : decode cX1_mostAtOnce 40 = .ok (.iload_n 1, 1) := by decide +kernel
theorem dX1_mostAtOnce_41 : decode cX1_mostAtOnce 41 = .ok (.ireturn, 1) := by decide +kernel
theorem r_X1_mostAtOnce_34 (E : kr_E) (k_4 : Int32 → Int32 → kr_M → Option (Int32 × kr_M)) (l1 : Int32) (l2 : Int32) (hk_4 : ∀ (x1 : Int32) (x2 : Int32) (M : kr_M), kR kr_vi E Y_X1_mostAtOnce 2 4 [(0, kr_r E 341), (1, .int x1), (2, .int x2)] [] M (k_4 x1 x2 M)) (M : kr_M) : kR kr_vi E Y_X1_mostAtOnce 2 34 [(0, kr_r E 341), (1, .int l1), (2, .int l2)] [] M (f_X1_mostAtOnce_34 k_4 l1 l2 M) := by
  rw [f_X1_mostAtOnce_34]
  refine kr_iinc (j := 2) (v := (l2 + (1 : Int32))) (lv' := [(2, .int (l2 + (1 : Int32))), (0, kr_r E 341), (1, .int l1)]) dX1_mostAtOnce_34 rfl rfl (by decide) rfl ?_
  refine kr_goto (tgt := 4) dX1_mostAtOnce_37 (by decide) ?_
  refine kr_sub [1, 2, 0] rfl ?_
  exact hk_4 l1 (l2 + (1 : Int32)) M
theorem r_X1_mostAtOnce_4 (E : kr_E)    : ∀ (n : Nat) (l1 : Int32) (l2 : Int32) (M : kr_M), kR kr_vi E Y_X1_mostAtOnce 2 4 [(0, kr_r E 341), (1, .int l1), (2, .int l2)] [] M (f_X1_mostAtOnce_4 n l1 l2 M) := by
  intro n
  induction n with
  | zero => intro l1 l2 M; exact kr_none
  | succ n ih =>
    intro l1 l2 M
    rw [f_X1_mostAtOnce_4]
    refine kr_iload_n dX1_mostAtOnce_4 rfl 2 rfl ?_
    refine kr_aload_n dX1_mostAtOnce_5 rfl 0 rfl ?_
    refine kr_getI (ci := 1) (j := 0) dX1_mostAtOnce_6 kr_at_341 fl_RX1_33 rfl (fun v1 => ?_)
    refine kr_icmp_gt (tgt := 40) dX1_mostAtOnce_9 (by decide) ?_ ?_
    · refine kr_iload_n dX1_mostAtOnce_40 rfl 1 rfl ?_
      exact kr_iret dX1_mostAtOnce_41 rfl
    · refine kr_aload_n dX1_mostAtOnce_12 rfl 0 rfl ?_
      refine kr_getA (o := 1) (ci := 1) (j := 1) dX1_mostAtOnce_13 kr_at_341 fl_RX1_9 rfl ?_
      refine kr_iload_n dX1_mostAtOnce_16 rfl 2 rfl ?_
      refine kr_iald dX1_mostAtOnce_17 kr_at_342 (fun v2 => ?_)
      refine kr_aload_n dX1_mostAtOnce_18 rfl 0 rfl ?_
      refine kr_getI (ci := 1) (j := 5) dX1_mostAtOnce_19 kr_at_341 fl_RX1_24 rfl (fun v3 => ?_)
      refine kr_icmp_gt (tgt := 34) dX1_mostAtOnce_22 (by decide) ?_ ?_
      · refine kr_sub [0, 1, 2] rfl ?_
        exact r_X1_mostAtOnce_34 E _ l1 l2 ih M
      · refine kr_iload_n dX1_mostAtOnce_25 rfl 1 rfl ?_
        refine kr_iload_n dX1_mostAtOnce_26 rfl 2 rfl ?_
        refine kr_Si (As := [.int l2]) (st := [.int l1]) zs_J6_bitCount_0f7a4 dX1_mostAtOnce_27 ml_RX1_55 (r_J6_bitCount_0f7a4 E l2 M) rfl rfl (Nat.le_of_ble_eq_true rfl) rfl (by decide) (Nat.le_of_ble_eq_true rfl) (fun r5 M4 => ?_)
        refine kr_mmax dX1_mostAtOnce_30 ml_RX1_38 (by decide) (Nat.le_of_ble_eq_true rfl) ?_
        refine kr_nmi (fun v6 => ?_)
        refine kr_istore_n (lv' := [(1, .int v6), (0, kr_r E 341), (2, .int l2)]) dX1_mostAtOnce_33 rfl (by decide) rfl ?_
        refine kr_sub [1, 0, 2] rfl ?_
        exact r_X1_mostAtOnce_34 E _ v6 l2 ih M4
theorem r_X1_mostAtOnce (E : kr_E)  (M : kr_M) : kR kr_vi E Y_X1_mostAtOnce 2 0 [(0, kr_r E 341)] [] M (f_X1_mostAtOnce M) := by
  rw [f_X1_mostAtOnce]
  refine kr_iconst (v := 0) dX1_mostAtOnce_0 (by decide) ?_
  refine kr_istore_n (lv' := [(1, .int (0 : Int32)), (0, kr_r E 341)]) dX1_mostAtOnce_1 rfl (by decide) rfl ?_
  refine kr_iconst (v := 1) dX1_mostAtOnce_2 (by decide) ?_
  refine kr_istore_n (lv' := [(2, .int (1 : Int32)), (1, .int (0 : Int32)), (0, kr_r E 341)]) dX1_mostAtOnce_3 rfl (by decide) rfl ?_
  refine kr_sub [2, 1, 0] rfl ?_
  exact r_X1_mostAtOnce_4 E _ (0 : Int32) (1 : Int32) M
theorem dX2_forget_0 : decode cX2_forget 0 = .ok (.aload_n 0, 1) := by decide +kernel
theorem dX2_forget_1 : decode cX2_forget 1 = .ok (.iconst 0, 1) := by decide +kernel
theorem dX2_forget_2 : decode cX2_forget 2 = .ok (.putfield 52, 3) := by decide +kernel
theorem dX2_forget_5 : decode cX2_forget 5 = .ok (.aload_n 0, 1) := by decide +kernel
theorem dX2_forget_6 : decode cX2_forget 6 = .ok (.iconst 0, 1) := by decide +kernel
theorem dX2_forget_7 : decode cX2_forget 7 = .ok (.putfield 56, 3) := by decide +kernel
theorem dX2_forget_10 : decode cX2_forget 10 = .ok (.aload_n 0, 1) := by decide +kernel
theorem dX2_forget_11 : decode cX2_forget 11 = .ok (.iconst 0, 1) := by decide +kernel
theorem dX2_forget_12 : decode cX2_forget 12 = .ok (.putfield 59, 3) := by decide +kernel
theorem dX2_forget_15 : decode cX2_forget 15 = .ok (.aload_n 0, 1) := by decide +kernel
theorem dX2_forget_16 : decode cX2_forget 16 = .ok (.iconst 0, 1) := by decide +kernel
theorem dX2_forget_17 : decode cX2_forget 17 = .ok (.putfield 62, 3) := by decide +kernel
theorem dX2_forget_20 : decode cX2_forget 20 = .ok (.aload_n 0, 1) := by decide +kernel
theorem dX2_forget_21 : decode cX2_forget 21 = .ok (.iconst 0, 1) := by decide +kernel
theorem dX2_forget_22 : decode cX2_forget 22 = .ok (.putfield 65, 3) := by decide +kernel
theorem dX2_forget_25 : decode cX2_forget 25 = .ok (.aload_n 0, 1) := by decide +kernel
theorem dX2_forget_26 : decode cX2_forget 26 = .ok (.iconst 0, 1) := by decide +kernel
theorem dX2_forget_27 : decode cX2_forget 27 = .ok (.putfield 68, 3) := by decide +kernel
theorem dX2_forget_30 : decode cX2_forget 30 = .ok (.aload_n 0, 1) := by decide +kernel
theorem dX2_forget_31 : decode cX2_forget 31 = .ok (.iconst 0, 1) := by decide +kernel
theorem dX2_forget_32 : decode cX2_forget 32 = .ok (.putfield 71, 3) := by decide +kernel
theorem dX2_forget_35 : decode cX2_forget 35 = .ok (.aload_n 0, 1) := by decide +kernel
theorem dX2_forget_36 : decode cX2_forget 36 = .ok (.iconst 0, 1) := by decide +kernel
theorem dX2_forget_37 : decode cX2_forget 37 = .ok (.putfield 74, 3) := by decide +kernel
theorem dX2_forget_40 : decode cX2_forget 40 = .ok (.aload_n 0, 1) := by decide +kernel
theorem dX2_forget_41 : decode cX2_forget 41 = .ok (.iconst 0, 1) := by decide +kernel
theorem dX2_forget_42 : decode cX2_forget 42 = .ok (.putfield 77, 3) := by decide +kernel
theorem dX2_forget_45 : decode cX2_forget 45 = .ok (.aload_n 0, 1) := by decide +kernel
theorem dX2_forget_46 : decode cX2_forget 46 = .ok (.iconst 0, 1) := by decide +kernel
theorem dX2_forget_47 : decode cX2_forget 47 = .ok (.putfield 80, 3) := by decide +kernel
theorem dX2_forget_50 : decode cX2_forget 50 = .ok (.return_, 1) := by decide +kernel
theorem r_X2_forget (E : kr_E) (g0 : Nat) (h_g0 : kr_sh g0 = (2, 0)) (M : kr_M) : kR kr_vv E Y_X2_forget 1 0 [(0, kr_r E g0)] [] M (f_X2_forget g0 M) := by
  rw [f_X2_forget]
  refine kr_aload_n dX2_forget_0 rfl 0 rfl ?_
  refine kr_iconst (v := 0) dX2_forget_1 (by decide) ?_
  refine kr_putI (ci := 2) (j := 0) dX2_forget_2 h_g0 fl_RX2_52 rfl rfl (fun M1 => ?_)
  refine kr_aload_n dX2_forget_5 rfl 0 rfl ?_
  refine kr_iconst (v := 0) dX2_forget_6 (by decide) ?_
  refine kr_putI (ci := 2) (j := 1) dX2_forget_7 h_g0 fl_RX2_56 rfl rfl (fun M2 => ?_)
  refine kr_aload_n dX2_forget_10 rfl 0 rfl ?_
  refine kr_iconst (v := 0) dX2_forget_11 (by decide) ?_
  refine kr_putI (ci := 2) (j := 2) dX2_forget_12 h_g0 fl_RX2_59 rfl rfl (fun M3 => ?_)
  refine kr_aload_n dX2_forget_15 rfl 0 rfl ?_
  refine kr_iconst (v := 0) dX2_forget_16 (by decide) ?_
  refine kr_putI (ci := 2) (j := 3) dX2_forget_17 h_g0 fl_RX2_62 rfl rfl (fun M4 => ?_)
  refine kr_aload_n dX2_forget_20 rfl 0 rfl ?_
  refine kr_iconst (v := 0) dX2_forget_21 (by decide) ?_
  refine kr_putI (ci := 2) (j := 4) dX2_forget_22 h_g0 fl_RX2_65 rfl rfl (fun M5 => ?_)
  refine kr_aload_n dX2_forget_25 rfl 0 rfl ?_
  refine kr_iconst (v := 0) dX2_forget_26 (by decide) ?_
  refine kr_putI (ci := 2) (j := 5) dX2_forget_27 h_g0 fl_RX2_68 rfl rfl (fun M6 => ?_)
  refine kr_aload_n dX2_forget_30 rfl 0 rfl ?_
  refine kr_iconst (v := 0) dX2_forget_31 (by decide) ?_
  refine kr_putI (ci := 2) (j := 6) dX2_forget_32 h_g0 fl_RX2_71 rfl rfl (fun M7 => ?_)
  refine kr_aload_n dX2_forget_35 rfl 0 rfl ?_
  refine kr_iconst (v := 0) dX2_forget_36 (by decide) ?_
  refine kr_putI (ci := 2) (j := 7) dX2_forget_37 h_g0 fl_RX2_74 rfl rfl (fun M8 => ?_)
  refine kr_aload_n dX2_forget_40 rfl 0 rfl ?_
  refine kr_iconst (v := 0) dX2_forget_41 (by decide) ?_
  refine kr_putI (ci := 2) (j := 8) dX2_forget_42 h_g0 fl_RX2_77 rfl rfl (fun M9 => ?_)
  refine kr_aload_n dX2_forget_45 rfl 0 rfl ?_
  refine kr_iconst (v := 0) dX2_forget_46 (by decide) ?_
  refine kr_putI (ci := 2) (j := 9) dX2_forget_47 h_g0 fl_RX2_80 rfl rfl (fun M10 => ?_)
  exact kr_vret dX2_forget_50 rfl
theorem dX7_put_0 : decode cX7_put 0 = .ok (.aload_n 0, 1) := by decide +kernel
theorem dX7_put_1 : decode cX7_put 1 = .ok (.getfield 21, 3) := by decide +kernel
theorem dX7_put_4 : decode cX7_put 4 = .ok (.aload_n 0, 1) := by decide +kernel
theorem dX7_put_5 : decode cX7_put 5 = .ok (.getfield 15, 3) := by decide +kernel
theorem dX7_put_8 : decode cX7_put 8 = .ok (.arraylength, 1) := by decide +kernel
theorem dX7_put_9 : decode cX7_put 9 = .ok (.if_icmp .ge 23, 3) := by decide +kernel
theorem dX7_put_12 : decode cX7_put 12 = .ok (.aload_n 0, 1) := by decide +kernel
theorem dX7_put_13 : decode cX7_put 13 = .ok (.getfield 15, 3) := by decide +kernel
theorem dX7_put_16 : decode cX7_put 16 = .ok (.aload_n 0, 1) := by decide +kernel
theorem dX7_put_17 : decode cX7_put 17 = .ok (.getfield 21, 3) := by decide +kernel
theorem dX7_put_20 : decode cX7_put 20 = .ok (.iload_n 1, 1) := by decide +kernel
theorem dX7_put_21 : decode cX7_put 21 = .ok (.iastore, 1) := by decide +kernel
theorem dX7_put_22 : decode cX7_put 22 = .ok (.aload_n 0, 1) := by decide +kernel
theorem dX7_put_23 : decode cX7_put 23 = .ok (.dup, 1) := by decide +kernel
theorem dX7_put_24 : decode cX7_put 24 = .ok (.getfield 21, 3) := by decide +kernel
theorem dX7_put_27 : decode cX7_put 27 = .ok (.iconst 1, 1) := by decide +kernel
theorem dX7_put_28 : decode cX7_put 28 = .ok (.iadd, 1) := by decide +kernel
theorem dX7_put_29 : decode cX7_put 29 = .ok (.putfield 21, 3) := by decide +kernel
theorem dX7_put_32 : decode cX7_put 32 = .ok (.return_, 1) := by decide +kernel
theorem r_X7_put (E : kr_E) (g0 : Nat) (h_g0 : kr_sh g0 = (7, 0)) (p1 : Int32) (M : kr_M) : kR kr_vv E Y_X7_put 1 0 [(0, kr_r E g0), (1, .int p1)] [] M (f_X7_put g0 p1 M) := by
  rw [f_X7_put]
  refine kr_aload_n dX7_put_0 rfl 0 rfl ?_
  refine kr_getI (ci := 7) (j := 1) dX7_put_1 h_g0 fl_RX7_21 rfl (fun v1 => ?_)
  refine kr_aload_n dX7_put_4 rfl 0 rfl ?_
  refine kr_getA (o := 1) (ci := 7) (j := 0) dX7_put_5 h_g0 fl_RX7_15 rfl ?_
  refine kr_alen dX7_put_8 (kr_shT1 _ h_g0) ?_
  refine kr_icmp_ge (tgt := 32) dX7_put_9 (by decide) ?_ ?_
  · exact kr_vret dX7_put_32 rfl
  · refine kr_aload_n dX7_put_12 rfl 0 rfl ?_
    refine kr_getA (o := 1) (ci := 7) (j := 0) dX7_put_13 h_g0 fl_RX7_15 rfl ?_
    refine kr_aload_n dX7_put_16 rfl 0 rfl ?_
    refine kr_getI (ci := 7) (j := 1) dX7_put_17 h_g0 fl_RX7_21 rfl (fun v2 => ?_)
    refine kr_iload_n dX7_put_20 rfl 1 rfl ?_
    refine kr_iast dX7_put_21 (kr_shT1 _ h_g0) (fun M3 => ?_)
    refine kr_aload_n dX7_put_22 rfl 0 rfl ?_
    refine kr_dup dX7_put_23 rfl ?_
    refine kr_getI (ci := 7) (j := 1) dX7_put_24 h_g0 fl_RX7_21 rfl (fun v4 => ?_)
    refine kr_iconst (v := 1) dX7_put_27 (by decide) ?_
    refine kr_iadd dX7_put_28 ?_
    refine kr_putI (ci := 7) (j := 1) dX7_put_29 h_g0 fl_RX7_21 rfl rfl (fun M5 => ?_)
    exact kr_vret dX7_put_32 rfl
theorem dX7_putAll_0 : decode cX7_putAll 0 = .ok (.aload_n 1, 1) := by decide +kernel
theorem dX7_putAll_1 : decode cX7_putAll 1 = .ok (.getfield 21, 3) := by decide +kernel
theorem dX7_putAll_4 : decode cX7_putAll 4 = .ok (.istore_n 2, 1) := by decide +kernel
theorem dX7_putAll_5 : decode cX7_putAll 5 = .ok (.iconst 0, 1) := by decide +kernel
theorem dX7_putAll_6 : decode cX7_putAll 6 = .ok (.istore_n 3, 1) := by decide +kernel
theorem dX7_putAll_7 : decode cX7_putAll 7 = .ok (.iload_n 3, 1) := by decide +kernel
theorem dX7_putAll_8 : decode cX7_putAll 8 = .ok (.iload_n 2, 1) := by decide +kernel
theorem dX7_putAll_9 : decode cX7_putAll 9 = .ok (.if_icmp .ge 19, 3) := by decide +kernel
theorem dX7_putAll_12 : decode cX7_putAll 12 = .ok (.aload_n 0, 1) := by decide +kernel
theorem dX7_putAll_13 : decode cX7_putAll 13 = .ok (.aload_n 1, 1) := by decide +kernel
theorem dX7_putAll_14 : decode cX7_putAll 14 = .ok (.getfield 15, 3) := by decide +kernel
theorem dX7_putAll_17 : decode cX7_putAll 17 = .ok (.iload_n 3, 1) := by decide +kernel
theorem dX7_putAll_18 : decode cX7_putAll 18 = .ok (.iaload, 1) := by decide +kernel
theorem dX7_putAll_19 : decode cX7_putAll 19 = .ok (.invokevirtual 29, 3) := by decide +kernel
theorem dX7_putAll_22 : decode cX7_putAll 22 = .ok (.iinc 3 1, 3) := by decide +kernel
theorem dX7_putAll_25 : decode cX7_putAll 25 = .ok (.goto (-18), 3) := by decide +kernel
theorem dX7_putAll_28 : decode cX7_putAll 28 = .ok (.return_, 1) := by decide +kernel
theorem r_X7_putAll_7 (E : kr_E)  (l0 : Nat) (h_l0 : kr_sh l0 = (7, 0)) (l1 : Nat) (h_l1 : kr_sh l1 = (7, 0)) (l2 : Int32)  : ∀ (n : Nat) (l3 : Int32) (M : kr_M), kR kr_vv E Y_X7_putAll 2 7 [(0, kr_r E l0), (1, kr_r E l1), (2, .int l2), (3, .int l3)] [] M (f_X7_putAll_7 l0 l1 l2 n l3 M) := by
  intro n
  induction n with
  | zero => intro l3 M; exact kr_none
  | succ n ih =>
    intro l3 M
    rw [f_X7_putAll_7]
    refine kr_iload_n dX7_putAll_7 rfl 3 rfl ?_
    refine kr_iload_n dX7_putAll_8 rfl 2 rfl ?_
    refine kr_icmp_ge (tgt := 28) dX7_putAll_9 (by decide) ?_ ?_
    · exact kr_vret dX7_putAll_28 rfl
    · refine kr_aload_n dX7_putAll_12 rfl 0 rfl ?_
      refine kr_aload_n dX7_putAll_13 rfl 1 rfl ?_
      refine kr_getA (o := 1) (ci := 7) (j := 0) dX7_putAll_14 h_l1 fl_RX7_15 rfl ?_
      refine kr_iload_n dX7_putAll_17 rfl 3 rfl ?_
      refine kr_iald dX7_putAll_18 (kr_shT1 _ h_l1) (fun v1 => ?_)
      refine kr_Vv (As := [.int v1]) (st := []) zv_X7_put dX7_putAll_19 ml_RX7_29 h_l0 (r_X7_put E l0 h_l0 v1 M) rfl rfl (Nat.le_of_ble_eq_true rfl) rfl (by decide) (Nat.le_of_ble_eq_true rfl) (fun M2 => ?_)
      refine kr_iinc (j := 3) (v := (l3 + (1 : Int32))) (lv' := [(3, .int (l3 + (1 : Int32))), (0, kr_r E l0), (1, kr_r E l1), (2, .int l2)]) dX7_putAll_22 rfl rfl (by decide) rfl ?_
      refine kr_goto (tgt := 7) dX7_putAll_25 (by decide) ?_
      refine kr_sub [1, 2, 3, 0] rfl ?_
      exact ih (l3 + (1 : Int32)) M2
theorem r_X7_putAll (E : kr_E) (g0 : Nat) (h_g0 : kr_sh g0 = (7, 0)) (p1 : Nat) (h_p1 : kr_sh p1 = (7, 0)) (M : kr_M) : kR kr_vv E Y_X7_putAll 2 0 [(0, kr_r E g0), (1, kr_r E p1)] [] M (f_X7_putAll g0 p1 M) := by
  rw [f_X7_putAll]
  refine kr_aload_n dX7_putAll_0 rfl 1 rfl ?_
  refine kr_getI (ci := 7) (j := 1) dX7_putAll_1 h_p1 fl_RX7_21 rfl (fun v1 => ?_)
  refine kr_istore_n (lv' := [(2, .int v1), (0, kr_r E g0), (1, kr_r E p1)]) dX7_putAll_4 rfl (by decide) rfl ?_
  refine kr_iconst (v := 0) dX7_putAll_5 (by decide) ?_
  refine kr_istore_n (lv' := [(3, .int (0 : Int32)), (2, .int v1), (0, kr_r E g0), (1, kr_r E p1)]) dX7_putAll_6 rfl (by decide) rfl ?_
  refine kr_sub [2, 3, 1, 0] rfl ?_
  exact r_X7_putAll_7 E g0 h_g0 p1 h_p1 v1 _ (0 : Int32) M
theorem dX7_take_0 : decode cX7_take 0 = .ok (.aload_n 0, 1) := by decide +kernel
theorem dX7_take_1 : decode cX7_take 1 = .ok (.iconst 0, 1) := by decide +kernel
theorem dX7_take_2 : decode cX7_take 2 = .ok (.putfield 21, 3) := by decide +kernel
theorem dX7_take_5 : decode cX7_take 5 = .ok (.aload_n 0, 1) := by decide +kernel
theorem dX7_take_6 : decode cX7_take 6 = .ok (.aload_n 1, 1) := by decide +kernel
theorem dX7_take_7 : decode cX7_take 7 = .ok (.invokevirtual 25, 3) := by decide +kernel
theorem dX7_take_10 : decode cX7_take 10 = .ok (.return_, 1) := by decide +kernel
theorem r_X7_take (E : kr_E) (g0 : Nat) (h_g0 : kr_sh g0 = (7, 0)) (p1 : Nat) (h_p1 : kr_sh p1 = (7, 0)) (M : kr_M) : kR kr_vv E Y_X7_take 3 0 [(0, kr_r E g0), (1, kr_r E p1)] [] M (f_X7_take g0 p1 M) := by
  rw [f_X7_take]
  refine kr_aload_n dX7_take_0 rfl 0 rfl ?_
  refine kr_iconst (v := 0) dX7_take_1 (by decide) ?_
  refine kr_putI (ci := 7) (j := 1) dX7_take_2 h_g0 fl_RX7_21 rfl rfl (fun M1 => ?_)
  refine kr_aload_n dX7_take_5 rfl 0 rfl ?_
  refine kr_aload_n dX7_take_6 rfl 1 rfl ?_
  refine kr_Vv (As := [kr_r E p1]) (st := []) zv_X7_putAll dX7_take_7 ml_RX7_25 h_g0 (r_X7_putAll E g0 h_g0 p1 h_p1 M1) rfl rfl (Nat.le_of_ble_eq_true rfl) rfl (by decide) (Nat.le_of_ble_eq_true rfl) (fun M2 => ?_)
  exact kr_vret dX7_take_10 rfl
theorem dX5_take_0 : decode cX5_take 0 = .ok (.aload_n 0, 1) := by decide +kernel
theorem dX5_take_1 : decode cX5_take 1 = .ok (.aload_n 1, 1) := by decide +kernel
theorem dX5_take_2 : decode cX5_take 2 = .ok (.getfield 23, 3) := by decide +kernel
theorem dX5_take_5 : decode cX5_take 5 = .ok (.putfield 23, 3) := by decide +kernel
theorem dX5_take_8 : decode cX5_take 8 = .ok (.aload_n 0, 1) := by decide +kernel
theorem dX5_take_9 : decode cX5_take 9 = .ok (.aload_n 1, 1) := by decide +kernel
theorem dX5_take_10 : decode cX5_take 10 = .ok (.getfield 27, 3) := by decide +kernel
theorem dX5_take_13 : decode cX5_take 13 = .ok (.putfield 27, 3) := by decide +kernel
theorem dX5_take_16 : decode cX5_take 16 = .ok (.aload_n 0, 1) := by decide +kernel
theorem dX5_take_17 : decode cX5_take 17 = .ok (.aload_n 1, 1) := by decide +kernel
theorem dX5_take_18 : decode cX5_take 18 = .ok (.getfield 30, 3) := by decide +kernel
theorem dX5_take_21 : decode cX5_take 21 = .ok (.putfield 30, 3) := by decide +kernel
theorem dX5_take_24 : decode cX5_take 24 = .ok (.aload_n 0, 1) := by decide +kernel
theorem dX5_take_25 : decode cX5_take 25 = .ok (.aload_n 1, 1) := by decide +kernel
theorem dX5_take_26 : decode cX5_take 26 = .ok (.getfield 33, 3) := by decide +kernel
theorem dX5_take_29 : decode cX5_take 29 = .ok (.putfield 33, 3) := by decide +kernel
theorem dX5_take_32 : decode cX5_take 32 = .ok (.aload_n 0, 1) := by decide +kernel
theorem dX5_take_33 : decode cX5_take 33 = .ok (.getfield 14, 3) := by decide +kernel
theorem dX5_take_36 : decode cX5_take 36 = .ok (.aload_n 1, 1) := by decide +kernel
theorem dX5_take_37 : decode cX5_take 37 = .ok (.getfield 14, 3) := by decide +kernel
theorem dX5_take_40 : decode cX5_take 40 = .ok (.invokevirtual 36, 3) := by decide +kernel
theorem dX5_take_43 : decode cX5_take 43 = .ok (.aload_n 0, 1) := by decide +kernel
theorem dX5_take_44 : decode cX5_take 44 = .ok (.getfield 20, 3) := by decide +kernel
theorem dX5_take_47 : decode cX5_take 47 = .ok (.aload_n 1, 1) := by decide +kernel
theorem dX5_take_48 : decode cX5_take 48 = .ok (.getfield 20, 3) := by decide +kernel
theorem dX5_take_51 : decode cX5_take 51 = .ok (.invokevirtual 36, 3) := by decide +kernel
theorem dX5_take_54 : decode cX5_take 54 = .ok (.return_, 1) := by decide +kernel
theorem r_X5_take (E : kr_E) (g0 : Nat) (h_g0 : kr_sh g0 = (5, 0)) (p1 : Nat) (h_p1 : kr_sh p1 = (5, 0)) (M : kr_M) : kR kr_vv E Y_X5_take 4 0 [(0, kr_r E g0), (1, kr_r E p1)] [] M (f_X5_take g0 p1 M) := by
  rw [f_X5_take]
  refine kr_aload_n dX5_take_0 rfl 0 rfl ?_
  refine kr_aload_n dX5_take_1 rfl 1 rfl ?_
  refine kr_getI (ci := 5) (j := 0) dX5_take_2 h_p1 fl_RX5_23 rfl (fun v1 => ?_)
  refine kr_putI (ci := 5) (j := 0) dX5_take_5 h_g0 fl_RX5_23 rfl rfl (fun M2 => ?_)
  refine kr_aload_n dX5_take_8 rfl 0 rfl ?_
  refine kr_aload_n dX5_take_9 rfl 1 rfl ?_
  refine kr_getI (ci := 5) (j := 1) dX5_take_10 h_p1 fl_RX5_27 rfl (fun v3 => ?_)
  refine kr_putI (ci := 5) (j := 1) dX5_take_13 h_g0 fl_RX5_27 rfl rfl (fun M4 => ?_)
  refine kr_aload_n dX5_take_16 rfl 0 rfl ?_
  refine kr_aload_n dX5_take_17 rfl 1 rfl ?_
  refine kr_getI (ci := 5) (j := 2) dX5_take_18 h_p1 fl_RX5_30 rfl (fun v5 => ?_)
  refine kr_putI (ci := 5) (j := 2) dX5_take_21 h_g0 fl_RX5_30 rfl rfl (fun M6 => ?_)
  refine kr_aload_n dX5_take_24 rfl 0 rfl ?_
  refine kr_aload_n dX5_take_25 rfl 1 rfl ?_
  refine kr_getI (ci := 5) (j := 3) dX5_take_26 h_p1 fl_RX5_33 rfl (fun v7 => ?_)
  refine kr_putI (ci := 5) (j := 3) dX5_take_29 h_g0 fl_RX5_33 rfl rfl (fun M8 => ?_)
  refine kr_aload_n dX5_take_32 rfl 0 rfl ?_
  refine kr_getA (o := 1) (ci := 5) (j := 4) dX5_take_33 h_g0 fl_RX5_14 rfl ?_
  refine kr_aload_n dX5_take_36 rfl 1 rfl ?_
  refine kr_getA (o := 1) (ci := 5) (j := 4) dX5_take_37 h_p1 fl_RX5_14 rfl ?_
  refine kr_Vv (As := [kr_r E (p1 + 1)]) (st := []) zv_X7_take dX5_take_40 ml_RX5_36 (kr_shR1 _ h_g0) (r_X7_take E (g0 + 1) (kr_shR1 _ h_g0) (p1 + 1) (kr_shR1 _ h_p1) M8) rfl rfl (Nat.le_of_ble_eq_true rfl) rfl (by decide) (Nat.le_of_ble_eq_true rfl) (fun M9 => ?_)
  refine kr_aload_n dX5_take_43 rfl 0 rfl ?_
  refine kr_getA (o := 3) (ci := 5) (j := 5) dX5_take_44 h_g0 fl_RX5_20 rfl ?_
  refine kr_aload_n dX5_take_47 rfl 1 rfl ?_
  refine kr_getA (o := 3) (ci := 5) (j := 5) dX5_take_48 h_p1 fl_RX5_20 rfl ?_
  refine kr_Vv (As := [kr_r E (p1 + 3)]) (st := []) zv_X7_take dX5_take_51 ml_RX5_36 (kr_shR3 _ h_g0) (r_X7_take E (g0 + 3) (kr_shR3 _ h_g0) (p1 + 3) (kr_shR3 _ h_p1) M9) rfl rfl (Nat.le_of_ble_eq_true rfl) rfl (by decide) (Nat.le_of_ble_eq_true rfl) (fun M11 => ?_)
  exact kr_vret dX5_take_54 rfl
theorem dX2_take_0 : decode cX2_take 0 = .ok (.aload_n 0, 1) := by decide +kernel
theorem dX2_take_1 : decode cX2_take 1 = .ok (.aload_n 1, 1) := by decide +kernel
theorem dX2_take_2 : decode cX2_take 2 = .ok (.getfield 52, 3) := by decide +kernel
theorem dX2_take_5 : decode cX2_take 5 = .ok (.putfield 52, 3) := by decide +kernel
theorem dX2_take_8 : decode cX2_take 8 = .ok (.aload_n 0, 1) := by decide +kernel
theorem dX2_take_9 : decode cX2_take 9 = .ok (.aload_n 1, 1) := by decide +kernel
theorem dX2_take_10 : decode cX2_take 10 = .ok (.getfield 56, 3) := by decide +kernel
theorem dX2_take_13 : decode cX2_take 13 = .ok (.putfield 56, 3) := by decide +kernel
theorem dX2_take_16 : decode cX2_take 16 = .ok (.aload_n 0, 1) := by decide +kernel
theorem dX2_take_17 : decode cX2_take 17 = .ok (.aload_n 1, 1) := by decide +kernel
theorem dX2_take_18 : decode cX2_take 18 = .ok (.getfield 59, 3) := by decide +kernel
theorem dX2_take_21 : decode cX2_take 21 = .ok (.putfield 59, 3) := by decide +kernel
theorem dX2_take_24 : decode cX2_take 24 = .ok (.aload_n 0, 1) := by decide +kernel
theorem dX2_take_25 : decode cX2_take 25 = .ok (.aload_n 1, 1) := by decide +kernel
theorem dX2_take_26 : decode cX2_take 26 = .ok (.getfield 62, 3) := by decide +kernel
theorem dX2_take_29 : decode cX2_take 29 = .ok (.putfield 62, 3) := by decide +kernel
theorem dX2_take_32 : decode cX2_take 32 = .ok (.aload_n 0, 1) := by decide +kernel
theorem dX2_take_33 : decode cX2_take 33 = .ok (.aload_n 1, 1) := by decide +kernel
theorem dX2_take_34 : decode cX2_take 34 = .ok (.getfield 65, 3) := by decide +kernel
theorem dX2_take_37 : decode cX2_take 37 = .ok (.putfield 65, 3) := by decide +kernel
theorem dX2_take_40 : decode cX2_take 40 = .ok (.aload_n 0, 1) := by decide +kernel
theorem dX2_take_41 : decode cX2_take 41 = .ok (.aload_n 1, 1) := by decide +kernel
theorem dX2_take_42 : decode cX2_take 42 = .ok (.getfield 68, 3) := by decide +kernel
theorem dX2_take_45 : decode cX2_take 45 = .ok (.putfield 68, 3) := by decide +kernel
theorem dX2_take_48 : decode cX2_take 48 = .ok (.aload_n 0, 1) := by decide +kernel
theorem dX2_take_49 : decode cX2_take 49 = .ok (.aload_n 1, 1) := by decide +kernel
theorem dX2_take_50 : decode cX2_take 50 = .ok (.getfield 71, 3) := by decide +kernel
theorem dX2_take_53 : decode cX2_take 53 = .ok (.putfield 71, 3) := by decide +kernel
theorem dX2_take_56 : decode cX2_take 56 = .ok (.aload_n 0, 1) := by decide +kernel
theorem dX2_take_57 : decode cX2_take 57 = .ok (.aload_n 1, 1) := by decide +kernel
theorem dX2_take_58 : decode cX2_take 58 = .ok (.getfield 74, 3) := by decide +kernel
theorem dX2_take_61 : decode cX2_take 61 = .ok (.putfield 74, 3) := by decide +kernel
theorem dX2_take_64 : decode cX2_take 64 = .ok (.aload_n 0, 1) := by decide +kernel
theorem dX2_take_65 : decode cX2_take 65 = .ok (.aload_n 1, 1) := by decide +kernel
theorem dX2_take_66 : decode cX2_take 66 = .ok (.getfield 77, 3) := by decide +kernel
theorem dX2_take_69 : decode cX2_take 69 = .ok (.putfield 77, 3) := by decide +kernel
theorem dX2_take_72 : decode cX2_take 72 = .ok (.aload_n 0, 1) := by decide +kernel
theorem dX2_take_73 : decode cX2_take 73 = .ok (.aload_n 1, 1) := by decide +kernel
theorem dX2_take_74 : decode cX2_take 74 = .ok (.getfield 80, 3) := by decide +kernel
theorem dX2_take_77 : decode cX2_take 77 = .ok (.putfield 80, 3) := by decide +kernel
theorem dX2_take_80 : decode cX2_take 80 = .ok (.aload_n 1, 1) := by decide +kernel
theorem dX2_take_81 : decode cX2_take 81 = .ok (.getfield 9, 3) := by decide +kernel
theorem dX2_take_84 : decode cX2_take 84 = .ok (.iconst 0, 1) := by decide +kernel
theorem dX2_take_85 : decode cX2_take 85 = .ok (.aload_n 0, 1) := by decide +kernel
theorem dX2_take_86 : decode cX2_take 86 = .ok (.getfield 9, 3) := by decide +kernel
theorem dX2_take_89 : decode cX2_take 89 = .ok (.iconst 0, 1) := by decide +kernel
theorem dX2_take_90 : decode cX2_take 90 = .ok (.bipush 6, 2) := by decide +kernel
theorem dX2_take_92 : decode cX2_take 92 = .ok (.invokestatic 83, 3) := by decide +kernel
theorem dX2_take_95 : decode cX2_take 95 = .ok (.aload_n 1, 1) := by decide +kernel
theorem dX2_take_96 : decode cX2_take 96 = .ok (.getfield 15, 3) := by decide +kernel
theorem dX2_take_99 : decode cX2_take 99 = .ok (.iconst 0, 1) := by decide +kernel
theorem dX2_take_100 : decode cX2_take 100 = .ok (.aload_n 0, 1) := by decide +kernel
theorem dX2_take_101 : decode cX2_take 101 = .ok (.getfield 15, 3) := by decide +kernel
theorem dX2_take_104 : decode cX2_take 104 = .ok (.iconst 0, 1) := by decide +kernel
theorem dX2_take_105 : decode cX2_take 105 = .ok (.bipush 6, 2) := by decide +kernel
theorem dX2_take_107 : decode cX2_take 107 = .ok (.invokestatic 83, 3) := by decide +kernel
theorem dX2_take_110 : decode cX2_take 110 = .ok (.aload_n 1, 1) := by decide +kernel
theorem dX2_take_111 : decode cX2_take 111 = .ok (.getfield 24, 3) := by decide +kernel
theorem dX2_take_114 : decode cX2_take 114 = .ok (.iconst 0, 1) := by decide +kernel
theorem dX2_take_115 : decode cX2_take 115 = .ok (.aload_n 0, 1) := by decide +kernel
theorem dX2_take_116 : decode cX2_take 116 = .ok (.getfield 24, 3) := by decide +kernel
theorem dX2_take_119 : decode cX2_take 119 = .ok (.iconst 0, 1) := by decide +kernel
theorem dX2_take_120 : decode cX2_take 120 = .ok (.bipush 10, 2) := by decide +kernel
theorem dX2_take_122 : decode cX2_take 122 = .ok (.invokestatic 83, 3) := by decide +kernel
theorem dX2_take_125 : decode cX2_take 125 = .ok (.aload_n 1, 1) := by decide +kernel
theorem dX2_take_126 : decode cX2_take 126 = .ok (.getfield 33, 3) := by decide +kernel
theorem dX2_take_129 : decode cX2_take 129 = .ok (.iconst 0, 1) := by decide +kernel
theorem dX2_take_130 : decode cX2_take 130 = .ok (.aload_n 0, 1) := by decide +kernel
theorem dX2_take_131 : decode cX2_take 131 = .ok (.getfield 33, 3) := by decide +kernel
theorem dX2_take_134 : decode cX2_take 134 = .ok (.iconst 0, 1) := by decide +kernel
theorem dX2_take_135 : decode cX2_take 135 = .ok (.bipush 6, 2) := by decide +kernel
theorem dX2_take_137 : decode cX2_take 137 = .ok (.invokestatic 83, 3) := by decide +kernel
theorem dX2_take_140 : decode cX2_take 140 = .ok (.aload_n 1, 1) := by decide +kernel
theorem dX2_take_141 : decode cX2_take 141 = .ok (.getfield 36, 3) := by decide +kernel
theorem dX2_take_144 : decode cX2_take 144 = .ok (.iconst 0, 1) := by decide +kernel
theorem dX2_take_145 : decode cX2_take 145 = .ok (.aload_n 0, 1) := by decide +kernel
theorem dX2_take_146 : decode cX2_take 146 = .ok (.getfield 36, 3) := by decide +kernel
theorem dX2_take_149 : decode cX2_take 149 = .ok (.iconst 0, 1) := by decide +kernel
theorem dX2_take_150 : decode cX2_take 150 = .ok (.bipush 6, 2) := by decide +kernel
theorem dX2_take_152 : decode cX2_take 152 = .ok (.invokestatic 83, 3) := by decide +kernel
theorem dX2_take_155 : decode cX2_take 155 = .ok (.aload_n 1, 1) := by decide +kernel
theorem dX2_take_156 : decode cX2_take 156 = .ok (.getfield 39, 3) := by decide +kernel
theorem dX2_take_159 : decode cX2_take 159 = .ok (.iconst 0, 1) := by decide +kernel
theorem dX2_take_160 : decode cX2_take 160 = .ok (.aload_n 0, 1) := by decide +kernel
theorem dX2_take_161 : decode cX2_take 161 = .ok (.getfield 39, 3) := by decide +kernel
theorem dX2_take_164 : decode cX2_take 164 = .ok (.iconst 0, 1) := by decide +kernel
theorem dX2_take_165 : decode cX2_take 165 = .ok (.bipush 6, 2) := by decide +kernel
theorem dX2_take_167 : decode cX2_take 167 = .ok (.invokestatic 83, 3) := by decide +kernel
theorem dX2_take_170 : decode cX2_take 170 = .ok (.aload_n 1, 1) := by decide +kernel
theorem dX2_take_171 : decode cX2_take 171 = .ok (.getfield 42, 3) := by decide +kernel
theorem dX2_take_174 : decode cX2_take 174 = .ok (.iconst 0, 1) := by decide +kernel
theorem dX2_take_175 : decode cX2_take 175 = .ok (.aload_n 0, 1) := by decide +kernel
theorem dX2_take_176 : decode cX2_take 176 = .ok (.getfield 42, 3) := by decide +kernel
theorem dX2_take_179 : decode cX2_take 179 = .ok (.iconst 0, 1) := by decide +kernel
theorem dX2_take_180 : decode cX2_take 180 = .ok (.bipush 6, 2) := by decide +kernel
theorem dX2_take_182 : decode cX2_take 182 = .ok (.invokestatic 83, 3) := by decide +kernel
theorem dX2_take_185 : decode cX2_take 185 = .ok (.aload_n 1, 1) := by decide +kernel
theorem dX2_take_186 : decode cX2_take 186 = .ok (.getfield 45, 3) := by decide +kernel
theorem dX2_take_189 : decode cX2_take 189 = .ok (.iconst 0, 1) := by decide +kernel
theorem dX2_take_190 : decode cX2_take 190 = .ok (.aload_n 0, 1) := by decide +kernel
theorem dX2_take_191 : decode cX2_take 191 = .ok (.getfield 45, 3) := by decide +kernel
theorem dX2_take_194 : decode cX2_take 194 = .ok (.iconst 0, 1) := by decide +kernel
theorem dX2_take_195 : decode cX2_take 195 = .ok (.sipush 160, 3) := by decide +kernel
theorem dX2_take_198 : decode cX2_take 198 = .ok (.invokestatic 83, 3) := by decide +kernel
theorem dX2_take_201 : decode cX2_take 201 = .ok (.iconst 0, 1) := by decide +kernel
theorem dX2_take_202 : decode cX2_take 202 = .ok (.istore_n 2, 1) := by decide +kernel
theorem dX2_take_203 : decode cX2_take 203 = .ok (.iload_n 2, 1) := by decide +kernel
theorem dX2_take_204 : decode cX2_take 204 = .ok (.aload_n 0, 1) := by decide +kernel
theorem dX2_take_205 : decode cX2_take 205 = .ok (.getfield 68, 3) := by decide +kernel
theorem dX2_take_208 : decode cX2_take 208 = .ok (.if_icmp .ge 24, 3) := by decide +kernel
theorem dX2_take_211 : decode cX2_take 211 = .ok (.aload_n 0, 1) := by decide +kernel
theorem dX2_take_212 : decode cX2_take 212 = .ok (.getfield 20, 3) := by decide +kernel
theorem dX2_take_215 : decode cX2_take 215 = .ok (.iload_n 2, 1) := by decide +kernel
theorem dX2_take_216 : decode cX2_take 216 = .ok (.aaload, 1) := by decide +kernel
theorem dX2_take_217 : decode cX2_take 217 = .ok (.aload_n 1, 1) := by decide +kernel
theorem dX2_take_218 : decode cX2_take 218 = .ok (.getfield 20, 3) := by decide +kernel
theorem dX2_take_221 : decode cX2_take 221 = .ok (.iload_n 2, 1) := by decide +kernel
theorem dX2_take_222 : decode cX2_take 222 = .ok (.aaload, 1) := by decide +kernel
theorem dX2_take_223 : decode cX2_take 223 = .ok (.invokevirtual 89, 3) := by decide +kernel
theorem dX2_take_226 : decode cX2_take 226 = .ok (.iinc 2 1, 3) := by decide +kernel
theorem dX2_take_229 : decode cX2_take 229 = .ok (.goto (-26), 3) := by decide +kernel
theorem dX2_take_232 : decode cX2_take 232 = .ok (.iconst 0, 1) := by decide +kernel
theorem dX2_take_233 : decode cX2_take 233 = .ok (.istore_n 2, 1) := by decide +kernel
theorem dX2_take_234 : decode cX2_take 234 = .ok (.iload_n 2, 1) := by decide +kernel
theorem dX2_take_235 : decode cX2_take 235 = .ok (.aload_n 0, 1) := by decide +kernel
theorem dX2_take_236 : decode cX2_take 236 = .ok (.getfield 71, 3) := by decide +kernel
theorem dX2_take_239 : decode cX2_take 239 = .ok (.if_icmp .ge 24, 3) := by decide +kernel
theorem dX2_take_242 : decode cX2_take 242 = .ok (.aload_n 0, 1) := by decide +kernel
theorem dX2_take_243 : decode cX2_take 243 = .ok (.getfield 29, 3) := by decide +kernel
theorem dX2_take_246 : decode cX2_take 246 = .ok (.iload_n 2, 1) := by decide +kernel
theorem dX2_take_247 : decode cX2_take 247 = .ok (.aaload, 1) := by decide +kernel
theorem dX2_take_248 : decode cX2_take 248 = .ok (.aload_n 1, 1) := by decide +kernel
theorem dX2_take_249 : decode cX2_take 249 = .ok (.getfield 29, 3) := by decide +kernel
theorem dX2_take_252 : decode cX2_take 252 = .ok (.iload_n 2, 1) := by decide +kernel
theorem dX2_take_253 : decode cX2_take 253 = .ok (.aaload, 1) := by decide +kernel
theorem dX2_take_254 : decode cX2_take 254 = .ok (.invokevirtual 93, 3) := by decide +kernel
theorem dX2_take_257 : decode cX2_take 257 = .ok (.iinc 2 1, 3) := by decide +kernel
theorem dX2_take_260 : decode cX2_take 260 = .ok (.goto (-26), 3) := by decide +kernel
theorem dX2_take_263 : decode cX2_take 263 = .ok (.return_, 1) := by decide +kernel
theorem r_X2_take_234 (E : kr_E)  (l0 : Nat) (h_l0 : kr_sh l0 = (2, 0)) (l1 : Nat) (h_l1 : kr_sh l1 = (2, 0))  : ∀ (n : Nat) (l2 : Int32) (M : kr_M), kR kr_vv E Y_X2_take 5 234 [(0, kr_r E l0), (1, kr_r E l1), (2, .int l2)] [] M (f_X2_take_234 l0 l1 n l2 M) := by
  intro n
  induction n with
  | zero => intro l2 M; exact kr_none
  | succ n ih =>
    intro l2 M
    rw [f_X2_take_234]
    refine kr_iload_n dX2_take_234 rfl 2 rfl ?_
    refine kr_aload_n dX2_take_235 rfl 0 rfl ?_
    refine kr_getI (ci := 2) (j := 6) dX2_take_236 h_l0 fl_RX2_71 rfl (fun v1 => ?_)
    refine kr_icmp_ge (tgt := 263) dX2_take_239 (by decide) ?_ ?_
    · exact kr_vret dX2_take_263 rfl
    · refine kr_aload_n dX2_take_242 rfl 0 rfl ?_
      refine kr_getA (o := 5) (ci := 2) (j := 14) dX2_take_243 h_l0 fl_RX2_29 rfl ?_
      refine kr_iload_n dX2_take_246 rfl 2 rfl ?_
      refine kr_aaldR dX2_take_247 h_l0 (fun h2 => ?_)
      refine kr_aload_n dX2_take_248 rfl 1 rfl ?_
      refine kr_getA (o := 5) (ci := 2) (j := 14) dX2_take_249 h_l1 fl_RX2_29 rfl ?_
      refine kr_iload_n dX2_take_252 rfl 2 rfl ?_
      refine kr_aaldR dX2_take_253 h_l1 (fun h3 => ?_)
      refine kr_Vv (As := [kr_r E (kr_rp l1 l2)]) (st := []) zv_X5_take dX2_take_254 ml_RX2_93 h2 (r_X5_take E (kr_rp l0 l2) h2 (kr_rp l1 l2) h3 M) rfl rfl (Nat.le_of_ble_eq_true rfl) rfl (by decide) (Nat.le_of_ble_eq_true rfl) (fun M4 => ?_)
      refine kr_iinc (j := 2) (v := (l2 + (1 : Int32))) (lv' := [(2, .int (l2 + (1 : Int32))), (0, kr_r E l0), (1, kr_r E l1)]) dX2_take_257 rfl rfl (by decide) rfl ?_
      refine kr_goto (tgt := 234) dX2_take_260 (by decide) ?_
      refine kr_sub [1, 2, 0] rfl ?_
      exact ih (l2 + (1 : Int32)) M4
theorem r_X2_take_232 (E : kr_E)  (l0 : Nat) (h_l0 : kr_sh l0 = (2, 0)) (l1 : Nat) (h_l1 : kr_sh l1 = (2, 0))  (M : kr_M) : kR kr_vv E Y_X2_take 5 232 [(0, kr_r E l0), (1, kr_r E l1)] [] M (f_X2_take_232 l0 l1 M) := by
  rw [f_X2_take_232]
  refine kr_iconst (v := 0) dX2_take_232 (by decide) ?_
  refine kr_istore_n (lv' := [(2, .int (0 : Int32)), (0, kr_r E l0), (1, kr_r E l1)]) dX2_take_233 rfl (by decide) rfl ?_
  refine kr_sub [1, 2, 0] rfl ?_
  exact r_X2_take_234 E l0 h_l0 l1 h_l1 _ (0 : Int32) M
theorem r_X2_take_203 (E : kr_E)  (l0 : Nat) (h_l0 : kr_sh l0 = (2, 0)) (l1 : Nat) (h_l1 : kr_sh l1 = (2, 0))  : ∀ (n : Nat) (l2 : Int32) (M : kr_M), kR kr_vv E Y_X2_take 5 203 [(0, kr_r E l0), (1, kr_r E l1), (2, .int l2)] [] M (f_X2_take_203 l0 l1 n l2 M) := by
  intro n
  induction n with
  | zero => intro l2 M; exact kr_none
  | succ n ih =>
    intro l2 M
    rw [f_X2_take_203]
    refine kr_iload_n dX2_take_203 rfl 2 rfl ?_
    refine kr_aload_n dX2_take_204 rfl 0 rfl ?_
    refine kr_getI (ci := 2) (j := 5) dX2_take_205 h_l0 fl_RX2_68 rfl (fun v1 => ?_)
    refine kr_icmp_ge (tgt := 232) dX2_take_208 (by decide) ?_ ?_
    · refine kr_sub [0, 1] rfl ?_
      exact r_X2_take_232 E l0 h_l0 l1 h_l1 M
    · refine kr_aload_n dX2_take_211 rfl 0 rfl ?_
      refine kr_getA (o := 3) (ci := 2) (j := 12) dX2_take_212 h_l0 fl_RX2_20 rfl ?_
      refine kr_iload_n dX2_take_215 rfl 2 rfl ?_
      refine kr_aaldT dX2_take_216 h_l0 (fun h2 => ?_)
      refine kr_aload_n dX2_take_217 rfl 1 rfl ?_
      refine kr_getA (o := 3) (ci := 2) (j := 12) dX2_take_218 h_l1 fl_RX2_20 rfl ?_
      refine kr_iload_n dX2_take_221 rfl 2 rfl ?_
      refine kr_aaldT dX2_take_222 h_l1 (fun h3 => ?_)
      refine kr_Vv (As := [kr_r E (kr_tx l1 l2)]) (st := []) zv_X7_take dX2_take_223 ml_RX2_89 h2 (r_X7_take E (kr_tx l0 l2) h2 (kr_tx l1 l2) h3 M) rfl rfl (Nat.le_of_ble_eq_true rfl) rfl (by decide) (Nat.le_of_ble_eq_true rfl) (fun M4 => ?_)
      refine kr_iinc (j := 2) (v := (l2 + (1 : Int32))) (lv' := [(2, .int (l2 + (1 : Int32))), (0, kr_r E l0), (1, kr_r E l1)]) dX2_take_226 rfl rfl (by decide) rfl ?_
      refine kr_goto (tgt := 203) dX2_take_229 (by decide) ?_
      refine kr_sub [1, 2, 0] rfl ?_
      exact ih (l2 + (1 : Int32)) M4
theorem r_X2_take (E : kr_E) (g0 : Nat) (h_g0 : kr_sh g0 = (2, 0)) (p1 : Nat) (h_p1 : kr_sh p1 = (2, 0)) (M : kr_M) : kR kr_vv E Y_X2_take 5 0 [(0, kr_r E g0), (1, kr_r E p1)] [] M (f_X2_take g0 p1 M) := by
  rw [f_X2_take]
  refine kr_aload_n dX2_take_0 rfl 0 rfl ?_
  refine kr_aload_n dX2_take_1 rfl 1 rfl ?_
  refine kr_getI (ci := 2) (j := 0) dX2_take_2 h_p1 fl_RX2_52 rfl (fun v1 => ?_)
  refine kr_putI (ci := 2) (j := 0) dX2_take_5 h_g0 fl_RX2_52 rfl rfl (fun M2 => ?_)
  refine kr_aload_n dX2_take_8 rfl 0 rfl ?_
  refine kr_aload_n dX2_take_9 rfl 1 rfl ?_
  refine kr_getI (ci := 2) (j := 1) dX2_take_10 h_p1 fl_RX2_56 rfl (fun v3 => ?_)
  refine kr_putI (ci := 2) (j := 1) dX2_take_13 h_g0 fl_RX2_56 rfl rfl (fun M4 => ?_)
  refine kr_aload_n dX2_take_16 rfl 0 rfl ?_
  refine kr_aload_n dX2_take_17 rfl 1 rfl ?_
  refine kr_getI (ci := 2) (j := 2) dX2_take_18 h_p1 fl_RX2_59 rfl (fun v5 => ?_)
  refine kr_putI (ci := 2) (j := 2) dX2_take_21 h_g0 fl_RX2_59 rfl rfl (fun M6 => ?_)
  refine kr_aload_n dX2_take_24 rfl 0 rfl ?_
  refine kr_aload_n dX2_take_25 rfl 1 rfl ?_
  refine kr_getI (ci := 2) (j := 3) dX2_take_26 h_p1 fl_RX2_62 rfl (fun v7 => ?_)
  refine kr_putI (ci := 2) (j := 3) dX2_take_29 h_g0 fl_RX2_62 rfl rfl (fun M8 => ?_)
  refine kr_aload_n dX2_take_32 rfl 0 rfl ?_
  refine kr_aload_n dX2_take_33 rfl 1 rfl ?_
  refine kr_getI (ci := 2) (j := 4) dX2_take_34 h_p1 fl_RX2_65 rfl (fun v9 => ?_)
  refine kr_putI (ci := 2) (j := 4) dX2_take_37 h_g0 fl_RX2_65 rfl rfl (fun M10 => ?_)
  refine kr_aload_n dX2_take_40 rfl 0 rfl ?_
  refine kr_aload_n dX2_take_41 rfl 1 rfl ?_
  refine kr_getI (ci := 2) (j := 5) dX2_take_42 h_p1 fl_RX2_68 rfl (fun v11 => ?_)
  refine kr_putI (ci := 2) (j := 5) dX2_take_45 h_g0 fl_RX2_68 rfl rfl (fun M12 => ?_)
  refine kr_aload_n dX2_take_48 rfl 0 rfl ?_
  refine kr_aload_n dX2_take_49 rfl 1 rfl ?_
  refine kr_getI (ci := 2) (j := 6) dX2_take_50 h_p1 fl_RX2_71 rfl (fun v13 => ?_)
  refine kr_putI (ci := 2) (j := 6) dX2_take_53 h_g0 fl_RX2_71 rfl rfl (fun M14 => ?_)
  refine kr_aload_n dX2_take_56 rfl 0 rfl ?_
  refine kr_aload_n dX2_take_57 rfl 1 rfl ?_
  refine kr_getI (ci := 2) (j := 7) dX2_take_58 h_p1 fl_RX2_74 rfl (fun v15 => ?_)
  refine kr_putI (ci := 2) (j := 7) dX2_take_61 h_g0 fl_RX2_74 rfl rfl (fun M16 => ?_)
  refine kr_aload_n dX2_take_64 rfl 0 rfl ?_
  refine kr_aload_n dX2_take_65 rfl 1 rfl ?_
  refine kr_getI (ci := 2) (j := 8) dX2_take_66 h_p1 fl_RX2_77 rfl (fun v17 => ?_)
  refine kr_putI (ci := 2) (j := 8) dX2_take_69 h_g0 fl_RX2_77 rfl rfl (fun M18 => ?_)
  refine kr_aload_n dX2_take_72 rfl 0 rfl ?_
  refine kr_aload_n dX2_take_73 rfl 1 rfl ?_
  refine kr_getI (ci := 2) (j := 9) dX2_take_74 h_p1 fl_RX2_80 rfl (fun v19 => ?_)
  refine kr_putI (ci := 2) (j := 9) dX2_take_77 h_g0 fl_RX2_80 rfl rfl (fun M20 => ?_)
  refine kr_aload_n dX2_take_80 rfl 1 rfl ?_
  refine kr_getA (o := 1) (ci := 2) (j := 10) dX2_take_81 h_p1 fl_RX2_9 rfl ?_
  refine kr_iconst (v := 0) dX2_take_84 (by decide) ?_
  refine kr_aload_n dX2_take_85 rfl 0 rfl ?_
  refine kr_getA (o := 1) (ci := 2) (j := 10) dX2_take_86 h_g0 fl_RX2_9 rfl ?_
  refine kr_iconst (v := 0) dX2_take_89 (by decide) ?_
  refine kr_bipush (v := 6) dX2_take_90 (by decide) ?_
  refine kr_copyI dX2_take_92 ml_RX2_83 (kr_shG1 _ h_p1) (kr_shG1 _ h_g0) (by decide) (Nat.le_of_ble_eq_true rfl) (fun M21 => ?_)
  refine kr_aload_n dX2_take_95 rfl 1 rfl ?_
  refine kr_getA (o := 2) (ci := 2) (j := 11) dX2_take_96 h_p1 fl_RX2_15 rfl ?_
  refine kr_iconst (v := 0) dX2_take_99 (by decide) ?_
  refine kr_aload_n dX2_take_100 rfl 0 rfl ?_
  refine kr_getA (o := 2) (ci := 2) (j := 11) dX2_take_101 h_g0 fl_RX2_15 rfl ?_
  refine kr_iconst (v := 0) dX2_take_104 (by decide) ?_
  refine kr_bipush (v := 6) dX2_take_105 (by decide) ?_
  refine kr_copyI dX2_take_107 ml_RX2_83 (kr_shG2 _ h_p1) (kr_shG2 _ h_g0) (by decide) (Nat.le_of_ble_eq_true rfl) (fun M22 => ?_)
  refine kr_aload_n dX2_take_110 rfl 1 rfl ?_
  refine kr_getA (o := 4) (ci := 2) (j := 13) dX2_take_111 h_p1 fl_RX2_24 rfl ?_
  refine kr_iconst (v := 0) dX2_take_114 (by decide) ?_
  refine kr_aload_n dX2_take_115 rfl 0 rfl ?_
  refine kr_getA (o := 4) (ci := 2) (j := 13) dX2_take_116 h_g0 fl_RX2_24 rfl ?_
  refine kr_iconst (v := 0) dX2_take_119 (by decide) ?_
  refine kr_bipush (v := 10) dX2_take_120 (by decide) ?_
  refine kr_copyI dX2_take_122 ml_RX2_83 (kr_shG4 _ h_p1) (kr_shG4 _ h_g0) (by decide) (Nat.le_of_ble_eq_true rfl) (fun M23 => ?_)
  refine kr_aload_n dX2_take_125 rfl 1 rfl ?_
  refine kr_getA (o := 6) (ci := 2) (j := 15) dX2_take_126 h_p1 fl_RX2_33 rfl ?_
  refine kr_iconst (v := 0) dX2_take_129 (by decide) ?_
  refine kr_aload_n dX2_take_130 rfl 0 rfl ?_
  refine kr_getA (o := 6) (ci := 2) (j := 15) dX2_take_131 h_g0 fl_RX2_33 rfl ?_
  refine kr_iconst (v := 0) dX2_take_134 (by decide) ?_
  refine kr_bipush (v := 6) dX2_take_135 (by decide) ?_
  refine kr_copyI dX2_take_137 ml_RX2_83 (kr_shG6 _ h_p1) (kr_shG6 _ h_g0) (by decide) (Nat.le_of_ble_eq_true rfl) (fun M24 => ?_)
  refine kr_aload_n dX2_take_140 rfl 1 rfl ?_
  refine kr_getA (o := 7) (ci := 2) (j := 16) dX2_take_141 h_p1 fl_RX2_36 rfl ?_
  refine kr_iconst (v := 0) dX2_take_144 (by decide) ?_
  refine kr_aload_n dX2_take_145 rfl 0 rfl ?_
  refine kr_getA (o := 7) (ci := 2) (j := 16) dX2_take_146 h_g0 fl_RX2_36 rfl ?_
  refine kr_iconst (v := 0) dX2_take_149 (by decide) ?_
  refine kr_bipush (v := 6) dX2_take_150 (by decide) ?_
  refine kr_copyI dX2_take_152 ml_RX2_83 (kr_shG7 _ h_p1) (kr_shG7 _ h_g0) (by decide) (Nat.le_of_ble_eq_true rfl) (fun M25 => ?_)
  refine kr_aload_n dX2_take_155 rfl 1 rfl ?_
  refine kr_getA (o := 8) (ci := 2) (j := 17) dX2_take_156 h_p1 fl_RX2_39 rfl ?_
  refine kr_iconst (v := 0) dX2_take_159 (by decide) ?_
  refine kr_aload_n dX2_take_160 rfl 0 rfl ?_
  refine kr_getA (o := 8) (ci := 2) (j := 17) dX2_take_161 h_g0 fl_RX2_39 rfl ?_
  refine kr_iconst (v := 0) dX2_take_164 (by decide) ?_
  refine kr_bipush (v := 6) dX2_take_165 (by decide) ?_
  refine kr_copyI dX2_take_167 ml_RX2_83 (kr_shG8 _ h_p1) (kr_shG8 _ h_g0) (by decide) (Nat.le_of_ble_eq_true rfl) (fun M26 => ?_)
  refine kr_aload_n dX2_take_170 rfl 1 rfl ?_
  refine kr_getA (o := 9) (ci := 2) (j := 18) dX2_take_171 h_p1 fl_RX2_42 rfl ?_
  refine kr_iconst (v := 0) dX2_take_174 (by decide) ?_
  refine kr_aload_n dX2_take_175 rfl 0 rfl ?_
  refine kr_getA (o := 9) (ci := 2) (j := 18) dX2_take_176 h_g0 fl_RX2_42 rfl ?_
  refine kr_iconst (v := 0) dX2_take_179 (by decide) ?_
  refine kr_bipush (v := 6) dX2_take_180 (by decide) ?_
  refine kr_copyI dX2_take_182 ml_RX2_83 (kr_shG9 _ h_p1) (kr_shG9 _ h_g0) (by decide) (Nat.le_of_ble_eq_true rfl) (fun M27 => ?_)
  refine kr_aload_n dX2_take_185 rfl 1 rfl ?_
  refine kr_getA (o := 10) (ci := 2) (j := 19) dX2_take_186 h_p1 fl_RX2_45 rfl ?_
  refine kr_iconst (v := 0) dX2_take_189 (by decide) ?_
  refine kr_aload_n dX2_take_190 rfl 0 rfl ?_
  refine kr_getA (o := 10) (ci := 2) (j := 19) dX2_take_191 h_g0 fl_RX2_45 rfl ?_
  refine kr_iconst (v := 0) dX2_take_194 (by decide) ?_
  refine kr_sipush (v := 160) dX2_take_195 (by decide) ?_
  refine kr_copyI dX2_take_198 ml_RX2_83 (kr_shG10 _ h_p1) (kr_shG10 _ h_g0) (by decide) (Nat.le_of_ble_eq_true rfl) (fun M28 => ?_)
  refine kr_iconst (v := 0) dX2_take_201 (by decide) ?_
  refine kr_istore_n (lv' := [(2, .int (0 : Int32)), (0, kr_r E g0), (1, kr_r E p1)]) dX2_take_202 rfl (by decide) rfl ?_
  refine kr_sub [1, 2, 0] rfl ?_
  exact r_X2_take_203 E g0 h_g0 p1 h_p1 _ (0 : Int32) M28
theorem dX2_isTold_0 : decode cX2_isTold 0 = .ok (.aload_n 0, 1) := by decide +kernel
theorem dX2_isTold_1 : decode cX2_isTold 1 = .ok (.getfield 52, 3) := by decide +kernel
theorem dX2_isTold_4 : decode cX2_isTold 4 = .ok (.ifCond .le 7, 3) := by decide +kernel
theorem dX2_isTold_7 : decode cX2_isTold 7 = .ok (.iconst 1, 1) := by decide +kernel
theorem dX2_isTold_8 : decode cX2_isTold 8 = .ok (.goto 4, 3) := by decide +kernel
theorem dX2_isTold_11 : decode cX2_isTold 11 = .ok (.iconst 0, 1) := by decide +kernel
theorem dX2_isTold_12 : decode cX2_isTold 12 = .ok (.ireturn, 1) := by decide +kernel
theorem r_X2_isTold (E : kr_E) (g0 : Nat) (h_g0 : kr_sh g0 = (2, 0)) (M : kr_M) : kR kr_vi E Y_X2_isTold 1 0 [(0, kr_r E g0)] [] M (f_X2_isTold g0 M) := by
  rw [f_X2_isTold]
  refine kr_aload_n dX2_isTold_0 rfl 0 rfl ?_
  refine kr_getI (ci := 2) (j := 0) dX2_isTold_1 h_g0 fl_RX2_52 rfl (fun v1 => ?_)
  refine kr_if_le (tgt := 11) dX2_isTold_4 (by decide) ?_ ?_
  · refine kr_iconst (v := 0) dX2_isTold_11 (by decide) ?_
    exact kr_zret1 dX2_isTold_12 rfl rfl
  · refine kr_iconst (v := 1) dX2_isTold_7 (by decide) ?_
    refine kr_goto (tgt := 12) dX2_isTold_8 (by decide) ?_
    exact kr_zret1 dX2_isTold_12 rfl rfl
theorem dX2_isTired_0 : decode cX2_isTired 0 = .ok (.aload_n 0, 1) := by decide +kernel
theorem dX2_isTired_1 : decode cX2_isTired 1 = .ok (.getfield 80, 3) := by decide +kernel
theorem dX2_isTired_4 : decode cX2_isTired 4 = .ok (.bipush 40, 2) := by decide +kernel
theorem dX2_isTired_6 : decode cX2_isTired 6 = .ok (.if_icmp .lt 7, 3) := by decide +kernel
theorem dX2_isTired_9 : decode cX2_isTired 9 = .ok (.iconst 1, 1) := by decide +kernel
theorem dX2_isTired_10 : decode cX2_isTired 10 = .ok (.goto 4, 3) := by decide +kernel
theorem dX2_isTired_13 : decode cX2_isTired 13 = .ok (.iconst 0, 1) := by decide +kernel
theorem dX2_isTired_14 : decode cX2_isTired 14 = .ok (.ireturn, 1) := by decide +kernel
theorem r_X2_isTired (E : kr_E) (g0 : Nat) (h_g0 : kr_sh g0 = (2, 0)) (M : kr_M) : kR kr_vi E Y_X2_isTired 1 0 [(0, kr_r E g0)] [] M (f_X2_isTired g0 M) := by
  rw [f_X2_isTired]
  refine kr_aload_n dX2_isTired_0 rfl 0 rfl ?_
  refine kr_getI (ci := 2) (j := 9) dX2_isTired_1 h_g0 fl_RX2_80 rfl (fun v1 => ?_)
  refine kr_bipush (v := 40) dX2_isTired_4 (by decide) ?_
  refine kr_icmp_lt (tgt := 13) dX2_isTired_6 (by decide) ?_ ?_
  · refine kr_iconst (v := 0) dX2_isTired_13 (by decide) ?_
    exact kr_zret1 dX2_isTired_14 rfl rfl
  · refine kr_iconst (v := 1) dX2_isTired_9 (by decide) ?_
    refine kr_goto (tgt := 14) dX2_isTired_10 (by decide) ?_
    exact kr_zret1 dX2_isTired_14 rfl rfl
theorem dX2_hasPlace_0 : decode cX2_hasPlace 0 = .ok (.iload_n 1, 1) := by decide +kernel
theorem dX2_hasPlace_1 : decode cX2_hasPlace 1 = .ok (.ifCond .lt 15, 3) := by decide +kernel
theorem dX2_hasPlace_4 : decode cX2_hasPlace 4 = .ok (.iload_n 1, 1) := by decide +kernel
theorem dX2_hasPlace_5 : decode cX2_hasPlace 5 = .ok (.aload_n 0, 1) := by decide +kernel
theorem dX2_hasPlace_6 : decode cX2_hasPlace 6 = .ok (.getfield 56, 3) := by decide +kernel
theorem dX2_hasPlace_9 : decode cX2_hasPlace 9 = .ok (.if_icmp .ge 7, 3) := by decide +kernel
theorem dX2_hasPlace_12 : decode cX2_hasPlace 12 = .ok (.iconst 1, 1) := by decide +kernel
theorem dX2_hasPlace_13 : decode cX2_hasPlace 13 = .ok (.goto 4, 3) := by decide +kernel
theorem dX2_hasPlace_16 : decode cX2_hasPlace 16 = .ok (.iconst 0, 1) := by decide +kernel
theorem dX2_hasPlace_17 : decode cX2_hasPlace 17 = .ok (.ireturn, 1) := by decide +kernel
theorem r_X2_hasPlace (E : kr_E) (g0 : Nat) (h_g0 : kr_sh g0 = (2, 0)) (p1 : Int32) (M : kr_M) : kR kr_vi E Y_X2_hasPlace 1 0 [(0, kr_r E g0), (1, .int p1)] [] M (f_X2_hasPlace g0 p1 M) := by
  rw [f_X2_hasPlace]
  refine kr_iload_n dX2_hasPlace_0 rfl 1 rfl ?_
  refine kr_if_lt (tgt := 16) dX2_hasPlace_1 (by decide) ?_ ?_
  · refine kr_iconst (v := 0) dX2_hasPlace_16 (by decide) ?_
    exact kr_zret1 dX2_hasPlace_17 rfl rfl
  · refine kr_iload_n dX2_hasPlace_4 rfl 1 rfl ?_
    refine kr_aload_n dX2_hasPlace_5 rfl 0 rfl ?_
    refine kr_getI (ci := 2) (j := 1) dX2_hasPlace_6 h_g0 fl_RX2_56 rfl (fun v1 => ?_)
    refine kr_icmp_ge (tgt := 16) dX2_hasPlace_9 (by decide) ?_ ?_
    · refine kr_iconst (v := 0) dX2_hasPlace_16 (by decide) ?_
      exact kr_zret1 dX2_hasPlace_17 rfl rfl
    · refine kr_iconst (v := 1) dX2_hasPlace_12 (by decide) ?_
      refine kr_goto (tgt := 17) dX2_hasPlace_13 (by decide) ?_
      exact kr_zret1 dX2_hasPlace_17 rfl rfl
theorem dX2_hasKind_0 : decode cX2_hasKind 0 = .ok (.iload_n 1, 1) := by decide +kernel
theorem dX2_hasKind_1 : decode cX2_hasKind 1 = .ok (.ifCond .lt 15, 3) := by decide +kernel
theorem dX2_hasKind_4 : decode cX2_hasKind 4 = .ok (.iload_n 1, 1) := by decide +kernel
theorem dX2_hasKind_5 : decode cX2_hasKind 5 = .ok (.aload_n 0, 1) := by decide +kernel
theorem dX2_hasKind_6 : decode cX2_hasKind 6 = .ok (.getfield 65, 3) := by decide +kernel
theorem dX2_hasKind_9 : decode cX2_hasKind 9 = .ok (.if_icmp .ge 7, 3) := by decide +kernel
theorem dX2_hasKind_12 : decode cX2_hasKind 12 = .ok (.iconst 1, 1) := by decide +kernel
theorem dX2_hasKind_13 : decode cX2_hasKind 13 = .ok (.goto 4, 3) := by decide +kernel
theorem dX2_hasKind_16 : decode cX2_hasKind 16 = .ok (.iconst 0, 1) := by decide +kernel
theorem dX2_hasKind_17 : decode cX2_hasKind 17 = .ok (.ireturn, 1) := by decide +kernel
theorem r_X2_hasKind (E : kr_E) (g0 : Nat) (h_g0 : kr_sh g0 = (2, 0)) (p1 : Int32) (M : kr_M) : kR kr_vi E Y_X2_hasKind 1 0 [(0, kr_r E g0), (1, .int p1)] [] M (f_X2_hasKind g0 p1 M) := by
  rw [f_X2_hasKind]
  refine kr_iload_n dX2_hasKind_0 rfl 1 rfl ?_
  refine kr_if_lt (tgt := 16) dX2_hasKind_1 (by decide) ?_ ?_
  · refine kr_iconst (v := 0) dX2_hasKind_16 (by decide) ?_
    exact kr_zret1 dX2_hasKind_17 rfl rfl
  · refine kr_iload_n dX2_hasKind_4 rfl 1 rfl ?_
    refine kr_aload_n dX2_hasKind_5 rfl 0 rfl ?_
    refine kr_getI (ci := 2) (j := 4) dX2_hasKind_6 h_g0 fl_RX2_65 rfl (fun v1 => ?_)
    refine kr_icmp_ge (tgt := 16) dX2_hasKind_9 (by decide) ?_ ?_
    · refine kr_iconst (v := 0) dX2_hasKind_16 (by decide) ?_
      exact kr_zret1 dX2_hasKind_17 rfl rfl
    · refine kr_iconst (v := 1) dX2_hasKind_12 (by decide) ?_
      refine kr_goto (tgt := 17) dX2_hasKind_13 (by decide) ?_
      exact kr_zret1 dX2_hasKind_17 rfl rfl
theorem dX2_hasWord_0 : decode cX2_hasWord 0 = .ok (.iload_n 1, 1) := by decide +kernel
theorem dX2_hasWord_1 : decode cX2_hasWord 1 = .ok (.ifCond .lt 15, 3) := by decide +kernel
theorem dX2_hasWord_4 : decode cX2_hasWord 4 = .ok (.iload_n 1, 1) := by decide +kernel
theorem dX2_hasWord_5 : decode cX2_hasWord 5 = .ok (.aload_n 0, 1) := by decide +kernel
theorem dX2_hasWord_6 : decode cX2_hasWord 6 = .ok (.getfield 68, 3) := by decide +kernel
theorem dX2_hasWord_9 : decode cX2_hasWord 9 = .ok (.if_icmp .ge 7, 3) := by decide +kernel
theorem dX2_hasWord_12 : decode cX2_hasWord 12 = .ok (.iconst 1, 1) := by decide +kernel
theorem dX2_hasWord_13 : decode cX2_hasWord 13 = .ok (.goto 4, 3) := by decide +kernel
theorem dX2_hasWord_16 : decode cX2_hasWord 16 = .ok (.iconst 0, 1) := by decide +kernel
theorem dX2_hasWord_17 : decode cX2_hasWord 17 = .ok (.ireturn, 1) := by decide +kernel
theorem r_X2_hasWord (E : kr_E) (g0 : Nat) (h_g0 : kr_sh g0 = (2, 0)) (p1 : Int32) (M : kr_M) : kR kr_vi E Y_X2_hasWord 1 0 [(0, kr_r E g0), (1, .int p1)] [] M (f_X2_hasWord g0 p1 M) := by
  rw [f_X2_hasWord]
  refine kr_iload_n dX2_hasWord_0 rfl 1 rfl ?_
  refine kr_if_lt (tgt := 16) dX2_hasWord_1 (by decide) ?_ ?_
  · refine kr_iconst (v := 0) dX2_hasWord_16 (by decide) ?_
    exact kr_zret1 dX2_hasWord_17 rfl rfl
  · refine kr_iload_n dX2_hasWord_4 rfl 1 rfl ?_
    refine kr_aload_n dX2_hasWord_5 rfl 0 rfl ?_
    refine kr_getI (ci := 2) (j := 5) dX2_hasWord_6 h_g0 fl_RX2_68 rfl (fun v1 => ?_)
    refine kr_icmp_ge (tgt := 16) dX2_hasWord_9 (by decide) ?_ ?_
    · refine kr_iconst (v := 0) dX2_hasWord_16 (by decide) ?_
      exact kr_zret1 dX2_hasWord_17 rfl rfl
    · refine kr_iconst (v := 1) dX2_hasWord_12 (by decide) ?_
      refine kr_goto (tgt := 17) dX2_hasWord_13 (by decide) ?_
      exact kr_zret1 dX2_hasWord_17 rfl rfl
theorem dX2_hasRope_0 : decode cX2_hasRope 0 = .ok (.iload_n 1, 1) := by decide +kernel
theorem dX2_hasRope_1 : decode cX2_hasRope 1 = .ok (.ifCond .lt 15, 3) := by decide +kernel
theorem dX2_hasRope_4 : decode cX2_hasRope 4 = .ok (.iload_n 1, 1) := by decide +kernel
theorem dX2_hasRope_5 : decode cX2_hasRope 5 = .ok (.aload_n 0, 1) := by decide +kernel
theorem dX2_hasRope_6 : decode cX2_hasRope 6 = .ok (.getfield 71, 3) := by decide +kernel
theorem dX2_hasRope_9 : decode cX2_hasRope 9 = .ok (.if_icmp .ge 7, 3) := by decide +kernel
theorem dX2_hasRope_12 : decode cX2_hasRope 12 = .ok (.iconst 1, 1) := by decide +kernel
theorem dX2_hasRope_13 : decode cX2_hasRope 13 = .ok (.goto 4, 3) := by decide +kernel
theorem dX2_hasRope_16 : decode cX2_hasRope 16 = .ok (.iconst 0, 1) := by decide +kernel
theorem dX2_hasRope_17 : decode cX2_hasRope 17 = .ok (.ireturn, 1) := by decide +kernel
theorem r_X2_hasRope (E : kr_E) (g0 : Nat) (h_g0 : kr_sh g0 = (2, 0)) (p1 : Int32) (M : kr_M) : kR kr_vi E Y_X2_hasRope 1 0 [(0, kr_r E g0), (1, .int p1)] [] M (f_X2_hasRope g0 p1 M) := by
  rw [f_X2_hasRope]
  refine kr_iload_n dX2_hasRope_0 rfl 1 rfl ?_
  refine kr_if_lt (tgt := 16) dX2_hasRope_1 (by decide) ?_ ?_
  · refine kr_iconst (v := 0) dX2_hasRope_16 (by decide) ?_
    exact kr_zret1 dX2_hasRope_17 rfl rfl
  · refine kr_iload_n dX2_hasRope_4 rfl 1 rfl ?_
    refine kr_aload_n dX2_hasRope_5 rfl 0 rfl ?_
    refine kr_getI (ci := 2) (j := 6) dX2_hasRope_6 h_g0 fl_RX2_71 rfl (fun v1 => ?_)
    refine kr_icmp_ge (tgt := 16) dX2_hasRope_9 (by decide) ?_ ?_
    · refine kr_iconst (v := 0) dX2_hasRope_16 (by decide) ?_
      exact kr_zret1 dX2_hasRope_17 rfl rfl
    · refine kr_iconst (v := 1) dX2_hasRope_12 (by decide) ?_
      refine kr_goto (tgt := 17) dX2_hasRope_13 (by decide) ?_
      exact kr_zret1 dX2_hasRope_17 rfl rfl
theorem dX2_hasRopeSet_0 : decode cX2_hasRopeSet 0 = .ok (.iload_n 1, 1) := by decide +kernel
theorem dX2_hasRopeSet_1 : decode cX2_hasRopeSet 1 = .ok (.iconst 1, 1) := by decide +kernel
theorem dX2_hasRopeSet_2 : decode cX2_hasRopeSet 2 = .ok (.if_icmp .lt 17, 3) := by decide +kernel
theorem dX2_hasRopeSet_5 : decode cX2_hasRopeSet 5 = .ok (.iload_n 1, 1) := by decide +kernel
theorem dX2_hasRopeSet_6 : decode cX2_hasRopeSet 6 = .ok (.iconst 1, 1) := by decide +kernel
theorem dX2_hasRopeSet_7 : decode cX2_hasRopeSet 7 = .ok (.aload_n 0, 1) := by decide +kernel
theorem dX2_hasRopeSet_8 : decode cX2_hasRopeSet 8 = .ok (.getfield 71, 3) := by decide +kernel
theorem dX2_hasRopeSet_11 : decode cX2_hasRopeSet 11 = .ok (.ishl, 1) := by decide +kernel
theorem dX2_hasRopeSet_12 : decode cX2_hasRopeSet 12 = .ok (.if_icmp .ge 7, 3) := by decide +kernel
theorem dX2_hasRopeSet_15 : decode cX2_hasRopeSet 15 = .ok (.iconst 1, 1) := by decide +kernel
theorem dX2_hasRopeSet_16 : decode cX2_hasRopeSet 16 = .ok (.goto 4, 3) := by decide +kernel
theorem dX2_hasRopeSet_19 : decode cX2_hasRopeSet 19 = .ok (.iconst 0, 1) := by decide +kernel
theorem dX2_hasRopeSet_20 : decode cX2_hasRopeSet 20 = .ok (.ireturn, 1) := by decide +kernel
theorem r_X2_hasRopeSet (E : kr_E) (g0 : Nat) (h_g0 : kr_sh g0 = (2, 0)) (p1 : Int32) (M : kr_M) : kR kr_vi E Y_X2_hasRopeSet 1 0 [(0, kr_r E g0), (1, .int p1)] [] M (f_X2_hasRopeSet g0 p1 M) := by
  rw [f_X2_hasRopeSet]
  refine kr_iload_n dX2_hasRopeSet_0 rfl 1 rfl ?_
  refine kr_iconst (v := 1) dX2_hasRopeSet_1 (by decide) ?_
  refine kr_icmp_lt (tgt := 19) dX2_hasRopeSet_2 (by decide) ?_ ?_
  · refine kr_iconst (v := 0) dX2_hasRopeSet_19 (by decide) ?_
    exact kr_zret1 dX2_hasRopeSet_20 rfl rfl
  · refine kr_iload_n dX2_hasRopeSet_5 rfl 1 rfl ?_
    refine kr_iconst (v := 1) dX2_hasRopeSet_6 (by decide) ?_
    refine kr_aload_n dX2_hasRopeSet_7 rfl 0 rfl ?_
    refine kr_getI (ci := 2) (j := 6) dX2_hasRopeSet_8 h_g0 fl_RX2_71 rfl (fun v1 => ?_)
    refine kr_ishl dX2_hasRopeSet_11 ?_
    refine kr_icmp_ge (tgt := 19) dX2_hasRopeSet_12 (by decide) ?_ ?_
    · refine kr_iconst (v := 0) dX2_hasRopeSet_19 (by decide) ?_
      exact kr_zret1 dX2_hasRopeSet_20 rfl rfl
    · refine kr_iconst (v := 1) dX2_hasRopeSet_15 (by decide) ?_
      refine kr_goto (tgt := 20) dX2_hasRopeSet_16 (by decide) ?_
      exact kr_zret1 dX2_hasRopeSet_20 rfl rfl
theorem dX2_hasPerson_0 : decode cX2_hasPerson 0 = .ok (.iload_n 1, 1) := by decide +kernel
theorem dX2_hasPerson_1 : decode cX2_hasPerson 1 = .ok (.ifCond .lt 15, 3) := by decide +kernel
theorem dX2_hasPerson_4 : decode cX2_hasPerson 4 = .ok (.iload_n 1, 1) := by decide +kernel
theorem dX2_hasPerson_5 : decode cX2_hasPerson 5 = .ok (.aload_n 0, 1) := by decide +kernel
theorem dX2_hasPerson_6 : decode cX2_hasPerson 6 = .ok (.getfield 74, 3) := by decide +kernel
theorem dX2_hasPerson_9 : decode cX2_hasPerson 9 = .ok (.if_icmp .ge 7, 3) := by decide +kernel
theorem dX2_hasPerson_12 : decode cX2_hasPerson 12 = .ok (.iconst 1, 1) := by decide +kernel
theorem dX2_hasPerson_13 : decode cX2_hasPerson 13 = .ok (.goto 4, 3) := by decide +kernel
theorem dX2_hasPerson_16 : decode cX2_hasPerson 16 = .ok (.iconst 0, 1) := by decide +kernel
theorem dX2_hasPerson_17 : decode cX2_hasPerson 17 = .ok (.ireturn, 1) := by decide +kernel
theorem r_X2_hasPerson (E : kr_E) (g0 : Nat) (h_g0 : kr_sh g0 = (2, 0)) (p1 : Int32) (M : kr_M) : kR kr_vi E Y_X2_hasPerson 1 0 [(0, kr_r E g0), (1, .int p1)] [] M (f_X2_hasPerson g0 p1 M) := by
  rw [f_X2_hasPerson]
  refine kr_iload_n dX2_hasPerson_0 rfl 1 rfl ?_
  refine kr_if_lt (tgt := 16) dX2_hasPerson_1 (by decide) ?_ ?_
  · refine kr_iconst (v := 0) dX2_hasPerson_16 (by decide) ?_
    exact kr_zret1 dX2_hasPerson_17 rfl rfl
  · refine kr_iload_n dX2_hasPerson_4 rfl 1 rfl ?_
    refine kr_aload_n dX2_hasPerson_5 rfl 0 rfl ?_
    refine kr_getI (ci := 2) (j := 7) dX2_hasPerson_6 h_g0 fl_RX2_74 rfl (fun v1 => ?_)
    refine kr_icmp_ge (tgt := 16) dX2_hasPerson_9 (by decide) ?_ ?_
    · refine kr_iconst (v := 0) dX2_hasPerson_16 (by decide) ?_
      exact kr_zret1 dX2_hasPerson_17 rfl rfl
    · refine kr_iconst (v := 1) dX2_hasPerson_12 (by decide) ?_
      refine kr_goto (tgt := 17) dX2_hasPerson_13 (by decide) ?_
      exact kr_zret1 dX2_hasPerson_17 rfl rfl
theorem dX2_countTold_0 : decode cX2_countTold 0 = .ok (.iload_n 1, 1) := by decide +kernel
theorem dX2_countTold_1 : decode cX2_countTold 1 = .ok (.tableswitch 78 0 6 #[43, 48, 53, 58, 63, 68, 73], 43) := by decide +kernel
theorem dX2_countTold_44 : decode cX2_countTold 44 = .ok (.aload_n 0, 1) := by decide +kernel
theorem dX2_countTold_45 : decode cX2_countTold 45 = .ok (.getfield 56, 3) := by decide +kernel
theorem dX2_countTold_48 : decode cX2_countTold 48 = .ok (.ireturn, 1) := by decide +kernel
theorem dX2_countTold_49 : decode cX2_countTold 49 = .ok (.aload_n 0, 1) := by decide +kernel
theorem dX2_countTold_50 : decode cX2_countTold 50 = .ok (.getfield 59, 3) := by decide +kernel
theorem dX2_countTold_53 : decode cX2_countTold 53 = .ok (.ireturn, 1) := by decide +kernel
theorem dX2_countTold_54 : decode cX2_countTold 54 = .ok (.aload_n 0, 1) := by decide +kernel
theorem dX2_countTold_55 : decode cX2_countTold 55 = .ok (.getfield 62, 3) := by decide +kernel
theorem dX2_countTold_58 : decode cX2_countTold 58 = .ok (.ireturn, 1) := by decide +kernel
theorem dX2_countTold_59 : decode cX2_countTold 59 = .ok (.aload_n 0, 1) := by decide +kernel
theorem dX2_countTold_60 : decode cX2_countTold 60 = .ok (.getfield 65, 3) := by decide +kernel
theorem dX2_countTold_63 : decode cX2_countTold 63 = .ok (.ireturn, 1) := by decide +kernel
theorem dX2_countTold_64 : decode cX2_countTold 64 = .ok (.aload_n 0, 1) := by decide +kernel
theorem dX2_countTold_65 : decode cX2_countTold 65 = .ok (.getfield 68, 3) := by decide +kernel
theorem dX2_countTold_68 : decode cX2_countTold 68 = .ok (.ireturn, 1) := by decide +kernel
theorem dX2_countTold_69 : decode cX2_countTold 69 = .ok (.aload_n 0, 1) := by decide +kernel
theorem dX2_countTold_70 : decode cX2_countTold 70 = .ok (.getfield 71, 3) := by decide +kernel
theorem dX2_countTold_73 : decode cX2_countTold 73 = .ok (.ireturn, 1) := by decide +kernel
theorem dX2_countTold_74 : decode cX2_countTold 74 = .ok (.aload_n 0, 1) := by decide +kernel
theorem dX2_countTold_75 : decode cX2_countTold 75 = .ok (.getfield 74, 3) := by decide +kernel
theorem dX2_countTold_78 : decode cX2_countTold 78 = .ok (.ireturn, 1) := by decide +kernel
theorem dX2_countTold_79 : decode cX2_countTold 79 = .ok (.iconst (-1), 1) := by decide +kernel
theorem dX2_countTold_80 : decode cX2_countTold 80 = .ok (.ireturn, 1) := by decide +kernel
theorem r_X2_countTold (E : kr_E) (g0 : Nat) (h_g0 : kr_sh g0 = (2, 0)) (p1 : Int32) (M : kr_M) : kR kr_vi E Y_X2_countTold 1 0 [(0, kr_r E g0), (1, .int p1)] [] M (f_X2_countTold g0 p1 M) := by
  rw [f_X2_countTold]
  refine kr_iload_n dX2_countTold_0 rfl 1 rfl ?_
  refine kr_case (0 : Int32) (fun c1 => ?_) (fun c1 => ?_)
  · refine kr_tin (v := 0) (off := 43) (tgt := 44) c1 dX2_countTold_1 (by decide) (by decide) (by decide) (by decide) ?_
    refine kr_aload_n dX2_countTold_44 rfl 0 rfl ?_
    refine kr_getI (ci := 2) (j := 1) dX2_countTold_45 h_g0 fl_RX2_56 rfl (fun v2 => ?_)
    exact kr_iret dX2_countTold_48 rfl
  refine kr_case (1 : Int32) (fun c3 => ?_) (fun c3 => ?_)
  · refine kr_tin (v := 1) (off := 48) (tgt := 49) c3 dX2_countTold_1 (by decide) (by decide) (by decide) (by decide) ?_
    refine kr_aload_n dX2_countTold_49 rfl 0 rfl ?_
    refine kr_getI (ci := 2) (j := 2) dX2_countTold_50 h_g0 fl_RX2_59 rfl (fun v4 => ?_)
    exact kr_iret dX2_countTold_53 rfl
  refine kr_case (2 : Int32) (fun c5 => ?_) (fun c5 => ?_)
  · refine kr_tin (v := 2) (off := 53) (tgt := 54) c5 dX2_countTold_1 (by decide) (by decide) (by decide) (by decide) ?_
    refine kr_aload_n dX2_countTold_54 rfl 0 rfl ?_
    refine kr_getI (ci := 2) (j := 3) dX2_countTold_55 h_g0 fl_RX2_62 rfl (fun v6 => ?_)
    exact kr_iret dX2_countTold_58 rfl
  refine kr_case (3 : Int32) (fun c7 => ?_) (fun c7 => ?_)
  · refine kr_tin (v := 3) (off := 58) (tgt := 59) c7 dX2_countTold_1 (by decide) (by decide) (by decide) (by decide) ?_
    refine kr_aload_n dX2_countTold_59 rfl 0 rfl ?_
    refine kr_getI (ci := 2) (j := 4) dX2_countTold_60 h_g0 fl_RX2_65 rfl (fun v8 => ?_)
    exact kr_iret dX2_countTold_63 rfl
  refine kr_case (4 : Int32) (fun c9 => ?_) (fun c9 => ?_)
  · refine kr_tin (v := 4) (off := 63) (tgt := 64) c9 dX2_countTold_1 (by decide) (by decide) (by decide) (by decide) ?_
    refine kr_aload_n dX2_countTold_64 rfl 0 rfl ?_
    refine kr_getI (ci := 2) (j := 5) dX2_countTold_65 h_g0 fl_RX2_68 rfl (fun v10 => ?_)
    exact kr_iret dX2_countTold_68 rfl
  refine kr_case (5 : Int32) (fun c11 => ?_) (fun c11 => ?_)
  · refine kr_tin (v := 5) (off := 68) (tgt := 69) c11 dX2_countTold_1 (by decide) (by decide) (by decide) (by decide) ?_
    refine kr_aload_n dX2_countTold_69 rfl 0 rfl ?_
    refine kr_getI (ci := 2) (j := 6) dX2_countTold_70 h_g0 fl_RX2_71 rfl (fun v12 => ?_)
    exact kr_iret dX2_countTold_73 rfl
  refine kr_case (6 : Int32) (fun c13 => ?_) (fun c13 => ?_)
  · refine kr_tin (v := 6) (off := 73) (tgt := 74) c13 dX2_countTold_1 (by decide) (by decide) (by decide) (by decide) ?_
    refine kr_aload_n dX2_countTold_74 rfl 0 rfl ?_
    refine kr_getI (ci := 2) (j := 7) dX2_countTold_75 h_g0 fl_RX2_74 rfl (fun v14 => ?_)
    exact kr_iret dX2_countTold_78 rfl
  refine kr_tout (tgt := 79) dX2_countTold_1 (by have zc1 := lv_neT c1 (show (0 : Int32).toInt = 0 by decide); have zc3 := lv_neT c3 (show (1 : Int32).toInt = 1 by decide); have zc5 := lv_neT c5 (show (2 : Int32).toInt = 2 by decide); have zc7 := lv_neT c7 (show (3 : Int32).toInt = 3 by decide); have zc9 := lv_neT c9 (show (4 : Int32).toInt = 4 by decide); have zc11 := lv_neT c11 (show (5 : Int32).toInt = 5 by decide); have zc13 := lv_neT c13 (show (6 : Int32).toInt = 6 by decide); omega) (by decide) ?_
  refine kr_iconst (v := -1) dX2_countTold_79 (by decide) ?_
  exact kr_iret dX2_countTold_80 rfl
theorem dX2_inchesOf_0 : decode cX2_inchesOf 0 = .ok (.aload_n 0, 1) := by decide +kernel
theorem dX2_inchesOf_1 : decode cX2_inchesOf 1 = .ok (.getfield 29, 3) := by decide +kernel
theorem dX2_inchesOf_4 : decode cX2_inchesOf 4 = .ok (.iload_n 1, 1) := by decide +kernel
theorem dX2_inchesOf_5 : decode cX2_inchesOf 5 = .ok (.aaload, 1) := by decide +kernel
theorem dX2_inchesOf_6 : decode cX2_inchesOf 6 = .ok (.getfield 96, 3) := by decide +kernel
theorem dX2_inchesOf_9 : decode cX2_inchesOf 9 = .ok (.astore_n 2, 1) := by decide +kernel
theorem dX2_inchesOf_10 : decode cX2_inchesOf 10 = .ok (.aload_n 2, 1) := by decide +kernel
theorem dX2_inchesOf_11 : decode cX2_inchesOf 11 = .ok (.getfield 100, 3) := by decide +kernel
theorem dX2_inchesOf_14 : decode cX2_inchesOf 14 = .ok (.iconst 1, 1) := by decide +kernel
theorem dX2_inchesOf_15 : decode cX2_inchesOf 15 = .ok (.isub, 1) := by decide +kernel
theorem dX2_inchesOf_16 : decode cX2_inchesOf 16 = .ok (.iconst 0, 1) := by decide +kernel
theorem dX2_inchesOf_17 : decode cX2_inchesOf 17 = .ok (.invokestatic 103, 3) := by decide +kernel
theorem dX2_inchesOf_20 : decode cX2_inchesOf 20 = .ok (.istore_n 3, 1) := by decide +kernel
theorem dX2_inchesOf_21 : decode cX2_inchesOf 21 = .ok (.iconst 0, 1) := by decide +kernel
theorem dX2_inchesOf_22 : decode cX2_inchesOf 22 = .ok (.istore 4, 2) := by decide +kernel
theorem dX2_inchesOf_24 : decode cX2_inchesOf 24 = .ok (.iload 4, 2) := by decide +kernel
theorem dX2_inchesOf_26 : decode cX2_inchesOf 26 = .ok (.aload_n 2, 1) := by decide +kernel
theorem dX2_inchesOf_27 : decode cX2_inchesOf 27 = .ok (.getfield 100, 3) := by decide +kernel
theorem dX2_inchesOf_30 : decode cX2_inchesOf 30 = .ok (.if_icmp .ge 24, 3) := by decide +kernel
theorem dX2_inchesOf_33 : decode cX2_inchesOf 33 = .ok (.iload_n 3, 1) := by decide +kernel
theorem dX2_inchesOf_34 : decode cX2_inchesOf 34 = .ok (.aload_n 0, 1) := by decide +kernel
theorem dX2_inchesOf_35 : decode cX2_inchesOf 35 = .ok (.getfield 9, 3) := by decide +kernel
theorem dX2_inchesOf_38 : decode cX2_inchesOf 38 = .ok (.aload_n 2, 1) := by decide +kernel
theorem dX2_inchesOf_39 : decode cX2_inchesOf 39 = .ok (.getfield 109, 3) := by decide +kernel
theorem dX2_inchesOf_42 : decode cX2_inchesOf 42 = .ok (.iload 4, 2) := by decide +kernel
theorem dX2_inchesOf_44 : decode cX2_inchesOf 44 = .ok (.iaload, 1) := by decide +kernel
theorem dX2_inchesOf_45 : decode cX2_inchesOf 45 = .ok (.iaload, 1) := by decide +kernel
theorem dX2_inchesOf_46 : decode cX2_inchesOf 46 = .ok (.iadd, 1) := by decide +kernel
theorem dX2_inchesOf_47 : decode cX2_inchesOf 47 = .ok (.istore_n 3, 1) := by decide +kernel
theorem dX2_inchesOf_48 : decode cX2_inchesOf 48 = .ok (.iinc 4 1, 3) := by decide +kernel
theorem dX2_inchesOf_51 : decode cX2_inchesOf 51 = .ok (.goto (-27), 3) := by decide +kernel
theorem dX2_inchesOf_54 : decode cX2_inchesOf 54 = .ok (.aload_n 0, 1) := by decide +kernel
theorem dX2_inchesOf_55 : decode cX2_inchesOf 55 = .ok (.getfield 77, 3) := by decide +kernel
theorem dX2_inchesOf_58 : decode cX2_inchesOf 58 = .ok (.iconst 1, 1) := by decide +kernel
theorem dX2_inchesOf_59 : decode cX2_inchesOf 59 = .ok (.if_icmp .ne 12, 3) := by decide +kernel
theorem dX2_inchesOf_62 : decode cX2_inchesOf 62 = .ok (.iload_n 3, 1) := by decide +kernel
theorem dX2_inchesOf_63 : decode cX2_inchesOf 63 = .ok (.iload_n 3, 1) := by decide +kernel
theorem dX2_inchesOf_64 : decode cX2_inchesOf 64 = .ok (.bipush 10, 2) := by decide +kernel
theorem dX2_inchesOf_66 : decode cX2_inchesOf 66 = .ok (.idiv, 1) := by decide +kernel
theorem dX2_inchesOf_67 : decode cX2_inchesOf 67 = .ok (.isub, 1) := by decide +kernel
theorem dX2_inchesOf_68 : decode cX2_inchesOf 68 = .ok (.goto 4, 3) := by decide +kernel
theorem dX2_inchesOf_71 : decode cX2_inchesOf 71 = .ok (.iload_n 3, 1) := by decide +kernel
theorem dX2_inchesOf_72 : decode cX2_inchesOf 72 = .ok (.ireturn, 1) := by decide +kernel
theorem r_X2_inchesOf_54 (E : kr_E)  (l0 : Nat) (h_l0 : kr_sh l0 = (2, 0)) (l3 : Int32)  (M : kr_M) : kR kr_vi E Y_X2_inchesOf 2 54 [(0, kr_r E l0), (3, .int l3)] [] M (f_X2_inchesOf_54 l0 l3 M) := by
  rw [f_X2_inchesOf_54]
  refine kr_aload_n dX2_inchesOf_54 rfl 0 rfl ?_
  refine kr_getI (ci := 2) (j := 8) dX2_inchesOf_55 h_l0 fl_RX2_77 rfl (fun v1 => ?_)
  refine kr_iconst (v := 1) dX2_inchesOf_58 (by decide) ?_
  refine kr_icmp_ne (tgt := 71) dX2_inchesOf_59 (by decide) ?_ ?_
  · refine kr_iload_n dX2_inchesOf_71 rfl 1 rfl ?_
    exact kr_iret dX2_inchesOf_72 rfl
  · refine kr_iload_n dX2_inchesOf_62 rfl 1 rfl ?_
    refine kr_iload_n dX2_inchesOf_63 rfl 1 rfl ?_
    refine kr_bipush (v := 10) dX2_inchesOf_64 (by decide) ?_
    refine kr_idiv dX2_inchesOf_66 (fun n2 => ?_)
    refine kr_isub dX2_inchesOf_67 ?_
    refine kr_goto (tgt := 72) dX2_inchesOf_68 (by decide) ?_
    exact kr_iret dX2_inchesOf_72 rfl
theorem r_X2_inchesOf_24 (E : kr_E)  (l0 : Nat) (h_l0 : kr_sh l0 = (2, 0)) (l2 : Nat) (h_l2 : kr_sh l2 = (7, 0))  : ∀ (n : Nat) (l3 : Int32) (l4 : Int32) (M : kr_M), kR kr_vi E Y_X2_inchesOf 2 24 [(0, kr_r E l0), (2, kr_r E l2), (3, .int l3), (4, .int l4)] [] M (f_X2_inchesOf_24 l0 l2 n l3 l4 M) := by
  intro n
  induction n with
  | zero => intro l3 l4 M; exact kr_none
  | succ n ih =>
    intro l3 l4 M
    rw [f_X2_inchesOf_24]
    refine kr_iload dX2_inchesOf_24 3 rfl ?_
    refine kr_aload_n dX2_inchesOf_26 rfl 1 rfl ?_
    refine kr_getI (ci := 7) (j := 1) dX2_inchesOf_27 h_l2 fl_RX2_100 rfl (fun v1 => ?_)
    refine kr_icmp_ge (tgt := 54) dX2_inchesOf_30 (by decide) ?_ ?_
    · refine kr_sub [0, 2] rfl ?_
      exact r_X2_inchesOf_54 E l0 h_l0 l3 M
    · refine kr_iload_n dX2_inchesOf_33 rfl 2 rfl ?_
      refine kr_aload_n dX2_inchesOf_34 rfl 0 rfl ?_
      refine kr_getA (o := 1) (ci := 2) (j := 10) dX2_inchesOf_35 h_l0 fl_RX2_9 rfl ?_
      refine kr_aload_n dX2_inchesOf_38 rfl 1 rfl ?_
      refine kr_getA (o := 1) (ci := 7) (j := 0) dX2_inchesOf_39 h_l2 fl_RX2_109 rfl ?_
      refine kr_iload dX2_inchesOf_42 3 rfl ?_
      refine kr_iald dX2_inchesOf_44 (kr_shT1 _ h_l2) (fun v2 => ?_)
      refine kr_iald dX2_inchesOf_45 (kr_shG1 _ h_l0) (fun v3 => ?_)
      refine kr_iadd dX2_inchesOf_46 ?_
      refine kr_nmi (fun v4 => ?_)
      refine kr_istore_n (lv' := [(3, .int v4), (0, kr_r E l0), (2, kr_r E l2), (4, .int l4)]) dX2_inchesOf_47 rfl (by decide) rfl ?_
      refine kr_iinc (j := 3) (v := (l4 + (1 : Int32))) (lv' := [(4, .int (l4 + (1 : Int32))), (3, .int v4), (0, kr_r E l0), (2, kr_r E l2)]) dX2_inchesOf_48 rfl rfl (by decide) rfl ?_
      refine kr_goto (tgt := 24) dX2_inchesOf_51 (by decide) ?_
      refine kr_sub [2, 3, 1, 0] rfl ?_
      exact ih v4 (l4 + (1 : Int32)) M
theorem r_X2_inchesOf (E : kr_E) (g0 : Nat) (h_g0 : kr_sh g0 = (2, 0)) (p1 : Int32) (M : kr_M) : kR kr_vi E Y_X2_inchesOf 2 0 [(0, kr_r E g0), (1, .int p1)] [] M (f_X2_inchesOf g0 p1 M) := by
  rw [f_X2_inchesOf]
  refine kr_aload_n dX2_inchesOf_0 rfl 0 rfl ?_
  refine kr_getA (o := 5) (ci := 2) (j := 14) dX2_inchesOf_1 h_g0 fl_RX2_29 rfl ?_
  refine kr_iload_n dX2_inchesOf_4 rfl 1 rfl ?_
  refine kr_aaldR dX2_inchesOf_5 h_g0 (fun h1 => ?_)
  refine kr_getA (o := 3) (ci := 5) (j := 5) dX2_inchesOf_6 h1 fl_RX2_96 rfl ?_
  refine kr_astore_n (lv' := [(2, kr_r E ((kr_rp g0 p1) + 3)), (0, kr_r E g0), (1, .int p1)]) dX2_inchesOf_9 rfl (by decide) rfl ?_
  refine kr_aload_n dX2_inchesOf_10 rfl 0 rfl ?_
  refine kr_getI (ci := 7) (j := 1) dX2_inchesOf_11 (kr_shR3 _ h1) fl_RX2_100 rfl (fun v2 => ?_)
  refine kr_iconst (v := 1) dX2_inchesOf_14 (by decide) ?_
  refine kr_isub dX2_inchesOf_15 ?_
  refine kr_iconst (v := 0) dX2_inchesOf_16 (by decide) ?_
  refine kr_mmax dX2_inchesOf_17 ml_RX2_103 (by decide) (Nat.le_of_ble_eq_true rfl) ?_
  refine kr_nmi (fun v3 => ?_)
  refine kr_istore_n (lv' := [(3, .int v3), (2, kr_r E ((kr_rp g0 p1) + 3)), (0, kr_r E g0), (1, .int p1)]) dX2_inchesOf_20 rfl (by decide) rfl ?_
  refine kr_iconst (v := 0) dX2_inchesOf_21 (by decide) ?_
  refine kr_istore (lv' := [(4, .int (0 : Int32)), (3, .int v3), (2, kr_r E ((kr_rp g0 p1) + 3)), (0, kr_r E g0), (1, .int p1)]) dX2_inchesOf_22 (by decide) rfl ?_
  refine kr_sub [3, 2, 1, 0] rfl ?_
  exact r_X2_inchesOf_24 E g0 h_g0 ((kr_rp g0 p1) + 3) (kr_shR3 _ h1) _ v3 (0 : Int32) M
theorem dX2_strengthOf_0 : decode cX2_strengthOf 0 = .ok (.aload_n 0, 1) := by decide +kernel
theorem dX2_strengthOf_1 : decode cX2_strengthOf 1 = .ok (.getfield 29, 3) := by decide +kernel
theorem dX2_strengthOf_4 : decode cX2_strengthOf 4 = .ok (.iload_n 1, 1) := by decide +kernel
theorem dX2_strengthOf_5 : decode cX2_strengthOf 5 = .ok (.aaload, 1) := by decide +kernel
theorem dX2_strengthOf_6 : decode cX2_strengthOf 6 = .ok (.astore_n 2, 1) := by decide +kernel
theorem dX2_strengthOf_7 : decode cX2_strengthOf 7 = .ok (.iconst 0, 1) := by decide +kernel
theorem dX2_strengthOf_8 : decode cX2_strengthOf 8 = .ok (.istore_n 3, 1) := by decide +kernel
theorem dX2_strengthOf_9 : decode cX2_strengthOf 9 = .ok (.iconst 0, 1) := by decide +kernel
theorem dX2_strengthOf_10 : decode cX2_strengthOf 10 = .ok (.istore 4, 2) := by decide +kernel
theorem dX2_strengthOf_12 : decode cX2_strengthOf 12 = .ok (.iload 4, 2) := by decide +kernel
theorem dX2_strengthOf_14 : decode cX2_strengthOf 14 = .ok (.aload_n 2, 1) := by decide +kernel
theorem dX2_strengthOf_15 : decode cX2_strengthOf 15 = .ok (.getfield 96, 3) := by decide +kernel
theorem dX2_strengthOf_18 : decode cX2_strengthOf 18 = .ok (.getfield 100, 3) := by decide +kernel
theorem dX2_strengthOf_21 : decode cX2_strengthOf 21 = .ok (.if_icmp .ge 29, 3) := by decide +kernel
theorem dX2_strengthOf_24 : decode cX2_strengthOf 24 = .ok (.iload_n 3, 1) := by decide +kernel
theorem dX2_strengthOf_25 : decode cX2_strengthOf 25 = .ok (.aload_n 0, 1) := by decide +kernel
theorem dX2_strengthOf_26 : decode cX2_strengthOf 26 = .ok (.getfield 15, 3) := by decide +kernel
theorem dX2_strengthOf_29 : decode cX2_strengthOf 29 = .ok (.aload_n 2, 1) := by decide +kernel
theorem dX2_strengthOf_30 : decode cX2_strengthOf 30 = .ok (.getfield 96, 3) := by decide +kernel
theorem dX2_strengthOf_33 : decode cX2_strengthOf 33 = .ok (.getfield 109, 3) := by decide +kernel
theorem dX2_strengthOf_36 : decode cX2_strengthOf 36 = .ok (.iload 4, 2) := by decide +kernel
theorem dX2_strengthOf_38 : decode cX2_strengthOf 38 = .ok (.iaload, 1) := by decide +kernel
theorem dX2_strengthOf_39 : decode cX2_strengthOf 39 = .ok (.iaload, 1) := by decide +kernel
theorem dX2_strengthOf_40 : decode cX2_strengthOf 40 = .ok (.invokestatic 103, 3) := by decide +kernel
theorem dX2_strengthOf_43 : decode cX2_strengthOf 43 = .ok (.istore_n 3, 1) := by decide +kernel
theorem dX2_strengthOf_44 : decode cX2_strengthOf 44 = .ok (.iinc 4 1, 3) := by decide +kernel
theorem dX2_strengthOf_47 : decode cX2_strengthOf 47 = .ok (.goto (-35), 3) := by decide +kernel
theorem dX2_strengthOf_50 : decode cX2_strengthOf 50 = .ok (.aload_n 2, 1) := by decide +kernel
theorem dX2_strengthOf_51 : decode cX2_strengthOf 51 = .ok (.getfield 111, 3) := by decide +kernel
theorem dX2_strengthOf_54 : decode cX2_strengthOf 54 = .ok (.bipush 100, 2) := by decide +kernel
theorem dX2_strengthOf_56 : decode cX2_strengthOf 56 = .ok (.iload_n 3, 1) := by decide +kernel
theorem dX2_strengthOf_57 : decode cX2_strengthOf 57 = .ok (.isub, 1) := by decide +kernel
theorem dX2_strengthOf_58 : decode cX2_strengthOf 58 = .ok (.imul, 1) := by decide +kernel
theorem dX2_strengthOf_59 : decode cX2_strengthOf 59 = .ok (.bipush 100, 2) := by decide +kernel
theorem dX2_strengthOf_61 : decode cX2_strengthOf 61 = .ok (.idiv, 1) := by decide +kernel
theorem dX2_strengthOf_62 : decode cX2_strengthOf 62 = .ok (.aload_n 0, 1) := by decide +kernel
theorem dX2_strengthOf_63 : decode cX2_strengthOf 63 = .ok (.getfield 59, 3) := by decide +kernel
theorem dX2_strengthOf_66 : decode cX2_strengthOf 66 = .ok (.aload_n 2, 1) := by decide +kernel
theorem dX2_strengthOf_67 : decode cX2_strengthOf 67 = .ok (.getfield 114, 3) := by decide +kernel
theorem dX2_strengthOf_70 : decode cX2_strengthOf 70 = .ok (.imul, 1) := by decide +kernel
theorem dX2_strengthOf_71 : decode cX2_strengthOf 71 = .ok (.isub, 1) := by decide +kernel
theorem dX2_strengthOf_72 : decode cX2_strengthOf 72 = .ok (.ireturn, 1) := by decide +kernel
theorem r_X2_strengthOf_50 (E : kr_E)  (l0 : Nat) (h_l0 : kr_sh l0 = (2, 0)) (l2 : Nat) (h_l2 : kr_sh l2 = (5, 0)) (l3 : Int32)  (M : kr_M) : kR kr_vi E Y_X2_strengthOf 2 50 [(0, kr_r E l0), (2, kr_r E l2), (3, .int l3)] [] M (f_X2_strengthOf_50 l0 l2 l3 M) := by
  rw [f_X2_strengthOf_50]
  refine kr_aload_n dX2_strengthOf_50 rfl 1 rfl ?_
  refine kr_getI (ci := 5) (j := 2) dX2_strengthOf_51 h_l2 fl_RX2_111 rfl (fun v1 => ?_)
  refine kr_bipush (v := 100) dX2_strengthOf_54 (by decide) ?_
  refine kr_iload_n dX2_strengthOf_56 rfl 2 rfl ?_
  refine kr_isub dX2_strengthOf_57 ?_
  refine kr_imul dX2_strengthOf_58 ?_
  refine kr_bipush (v := 100) dX2_strengthOf_59 (by decide) ?_
  refine kr_idiv dX2_strengthOf_61 (fun n2 => ?_)
  refine kr_aload_n dX2_strengthOf_62 rfl 0 rfl ?_
  refine kr_getI (ci := 2) (j := 2) dX2_strengthOf_63 h_l0 fl_RX2_59 rfl (fun v3 => ?_)
  refine kr_aload_n dX2_strengthOf_66 rfl 1 rfl ?_
  refine kr_getI (ci := 5) (j := 3) dX2_strengthOf_67 h_l2 fl_RX2_114 rfl (fun v4 => ?_)
  refine kr_imul dX2_strengthOf_70 ?_
  refine kr_isub dX2_strengthOf_71 ?_
  exact kr_iret dX2_strengthOf_72 rfl
theorem r_X2_strengthOf_12 (E : kr_E)  (l0 : Nat) (h_l0 : kr_sh l0 = (2, 0)) (l2 : Nat) (h_l2 : kr_sh l2 = (5, 0))  : ∀ (n : Nat) (l3 : Int32) (l4 : Int32) (M : kr_M), kR kr_vi E Y_X2_strengthOf 2 12 [(0, kr_r E l0), (2, kr_r E l2), (3, .int l3), (4, .int l4)] [] M (f_X2_strengthOf_12 l0 l2 n l3 l4 M) := by
  intro n
  induction n with
  | zero => intro l3 l4 M; exact kr_none
  | succ n ih =>
    intro l3 l4 M
    rw [f_X2_strengthOf_12]
    refine kr_iload dX2_strengthOf_12 3 rfl ?_
    refine kr_aload_n dX2_strengthOf_14 rfl 1 rfl ?_
    refine kr_getA (o := 3) (ci := 5) (j := 5) dX2_strengthOf_15 h_l2 fl_RX2_96 rfl ?_
    refine kr_getI (ci := 7) (j := 1) dX2_strengthOf_18 (kr_shR3 _ h_l2) fl_RX2_100 rfl (fun v1 => ?_)
    refine kr_icmp_ge (tgt := 50) dX2_strengthOf_21 (by decide) ?_ ?_
    · refine kr_sub [0, 1, 2] rfl ?_
      exact r_X2_strengthOf_50 E l0 h_l0 l2 h_l2 l3 M
    · refine kr_iload_n dX2_strengthOf_24 rfl 2 rfl ?_
      refine kr_aload_n dX2_strengthOf_25 rfl 0 rfl ?_
      refine kr_getA (o := 2) (ci := 2) (j := 11) dX2_strengthOf_26 h_l0 fl_RX2_15 rfl ?_
      refine kr_aload_n dX2_strengthOf_29 rfl 1 rfl ?_
      refine kr_getA (o := 3) (ci := 5) (j := 5) dX2_strengthOf_30 h_l2 fl_RX2_96 rfl ?_
      refine kr_getA (o := 1) (ci := 7) (j := 0) dX2_strengthOf_33 (kr_shR3 _ h_l2) fl_RX2_109 rfl ?_
      refine kr_iload dX2_strengthOf_36 3 rfl ?_
      refine kr_iald dX2_strengthOf_38 (kr_shT1 _ (kr_shR3 _ h_l2)) (fun v2 => ?_)
      refine kr_iald dX2_strengthOf_39 (kr_shG2 _ h_l0) (fun v3 => ?_)
      refine kr_mmax dX2_strengthOf_40 ml_RX2_103 (by decide) (Nat.le_of_ble_eq_true rfl) ?_
      refine kr_nmi (fun v4 => ?_)
      refine kr_istore_n (lv' := [(3, .int v4), (0, kr_r E l0), (2, kr_r E l2), (4, .int l4)]) dX2_strengthOf_43 rfl (by decide) rfl ?_
      refine kr_iinc (j := 3) (v := (l4 + (1 : Int32))) (lv' := [(4, .int (l4 + (1 : Int32))), (3, .int v4), (0, kr_r E l0), (2, kr_r E l2)]) dX2_strengthOf_44 rfl rfl (by decide) rfl ?_
      refine kr_goto (tgt := 12) dX2_strengthOf_47 (by decide) ?_
      refine kr_sub [2, 3, 1, 0] rfl ?_
      exact ih v4 (l4 + (1 : Int32)) M
theorem r_X2_strengthOf (E : kr_E) (g0 : Nat) (h_g0 : kr_sh g0 = (2, 0)) (p1 : Int32) (M : kr_M) : kR kr_vi E Y_X2_strengthOf 2 0 [(0, kr_r E g0), (1, .int p1)] [] M (f_X2_strengthOf g0 p1 M) := by
  rw [f_X2_strengthOf]
  refine kr_aload_n dX2_strengthOf_0 rfl 0 rfl ?_
  refine kr_getA (o := 5) (ci := 2) (j := 14) dX2_strengthOf_1 h_g0 fl_RX2_29 rfl ?_
  refine kr_iload_n dX2_strengthOf_4 rfl 1 rfl ?_
  refine kr_aaldR dX2_strengthOf_5 h_g0 (fun h1 => ?_)
  refine kr_astore_n (lv' := [(2, kr_r E (kr_rp g0 p1)), (0, kr_r E g0), (1, .int p1)]) dX2_strengthOf_6 rfl (by decide) rfl ?_
  refine kr_iconst (v := 0) dX2_strengthOf_7 (by decide) ?_
  refine kr_istore_n (lv' := [(3, .int (0 : Int32)), (2, kr_r E (kr_rp g0 p1)), (0, kr_r E g0), (1, .int p1)]) dX2_strengthOf_8 rfl (by decide) rfl ?_
  refine kr_iconst (v := 0) dX2_strengthOf_9 (by decide) ?_
  refine kr_istore (lv' := [(4, .int (0 : Int32)), (3, .int (0 : Int32)), (2, kr_r E (kr_rp g0 p1)), (0, kr_r E g0), (1, .int p1)]) dX2_strengthOf_10 (by decide) rfl ?_
  refine kr_sub [3, 2, 1, 0] rfl ?_
  exact r_X2_strengthOf_12 E g0 h_g0 (kr_rp g0 p1) h1 _ (0 : Int32) (0 : Int32) M
theorem dX7_isLike_0 : decode cX7_isLike 0 = .ok (.aload_n 0, 1) := by decide +kernel
theorem dX7_isLike_1 : decode cX7_isLike 1 = .ok (.getfield 21, 3) := by decide +kernel
theorem dX7_isLike_4 : decode cX7_isLike 4 = .ok (.aload_n 1, 1) := by decide +kernel
theorem dX7_isLike_5 : decode cX7_isLike 5 = .ok (.getfield 21, 3) := by decide +kernel
theorem dX7_isLike_8 : decode cX7_isLike 8 = .ok (.if_icmp .ne 16, 3) := by decide +kernel
theorem dX7_isLike_11 : decode cX7_isLike 11 = .ok (.aload_n 0, 1) := by decide +kernel
theorem dX7_isLike_12 : decode cX7_isLike 12 = .ok (.aload_n 1, 1) := by decide +kernel
theorem dX7_isLike_13 : decode cX7_isLike 13 = .ok (.iconst 0, 1) := by decide +kernel
theorem dX7_isLike_14 : decode cX7_isLike 14 = .ok (.invokevirtual 37, 3) := by decide +kernel
theorem dX7_isLike_17 : decode cX7_isLike 17 = .ok (.ifCond .eq 7, 3) := by decide +kernel
theorem dX7_isLike_20 : decode cX7_isLike 20 = .ok (.iconst 1, 1) := by decide +kernel
theorem dX7_isLike_21 : decode cX7_isLike 21 = .ok (.goto 4, 3) := by decide +kernel
theorem dX7_isLike_24 : decode cX7_isLike 24 = .ok (.iconst 0, 1) := by decide +kernel
theorem dX7_isLike_25 : decode cX7_isLike 25 = .ok (.ireturn, 1) := by decide +kernel
theorem r_X7_isLike (E : kr_E) (g0 : Nat) (h_g0 : kr_sh g0 = (7, 0)) (p1 : Nat) (h_p1 : kr_sh p1 = (7, 0)) (M : kr_M) : kR kr_vi E Y_X7_isLike 3 0 [(0, kr_r E g0), (1, kr_r E p1)] [] M (f_X7_isLike g0 p1 M) := by
  rw [f_X7_isLike]
  refine kr_aload_n dX7_isLike_0 rfl 0 rfl ?_
  refine kr_getI (ci := 7) (j := 1) dX7_isLike_1 h_g0 fl_RX7_21 rfl (fun v1 => ?_)
  refine kr_aload_n dX7_isLike_4 rfl 1 rfl ?_
  refine kr_getI (ci := 7) (j := 1) dX7_isLike_5 h_p1 fl_RX7_21 rfl (fun v2 => ?_)
  refine kr_icmp_ne (tgt := 24) dX7_isLike_8 (by decide) ?_ ?_
  · refine kr_iconst (v := 0) dX7_isLike_24 (by decide) ?_
    exact kr_zret1 dX7_isLike_25 rfl rfl
  · refine kr_aload_n dX7_isLike_11 rfl 0 rfl ?_
    refine kr_aload_n dX7_isLike_12 rfl 1 rfl ?_
    refine kr_iconst (v := 0) dX7_isLike_13 (by decide) ?_
    refine kr_Vi (As := [kr_r E p1, .int (0 : Int32)]) (st := []) zv_X7_holds dX7_isLike_14 ml_RX7_37 h_g0 (r_X7_holds E g0 h_g0 p1 h_p1 (0 : Int32) M) rfl rfl (Nat.le_of_ble_eq_true rfl) rfl (by decide) (Nat.le_of_ble_eq_true rfl) (fun r4 M3 => ?_)
    refine kr_if_eq (tgt := 24) dX7_isLike_17 (by decide) ?_ ?_
    · refine kr_iconst (v := 0) dX7_isLike_24 (by decide) ?_
      exact kr_zret1 dX7_isLike_25 rfl rfl
    · refine kr_iconst (v := 1) dX7_isLike_20 (by decide) ?_
      refine kr_goto (tgt := 25) dX7_isLike_21 (by decide) ?_
      exact kr_zret1 dX7_isLike_25 rfl rfl
theorem dX2_isSpelledAhead_0 : decode cX2_isSpelledAhead 0 = .ok (.iconst 0, 1) := by decide +kernel
theorem dX2_isSpelledAhead_1 : decode cX2_isSpelledAhead 1 = .ok (.istore_n 2, 1) := by decide +kernel
theorem dX2_isSpelledAhead_2 : decode cX2_isSpelledAhead 2 = .ok (.iload_n 2, 1) := by decide +kernel
theorem dX2_isSpelledAhead_3 : decode cX2_isSpelledAhead 3 = .ok (.aload_n 0, 1) := by decide +kernel
theorem dX2_isSpelledAhead_4 : decode cX2_isSpelledAhead 4 = .ok (.getfield 68, 3) := by decide +kernel
theorem dX2_isSpelledAhead_7 : decode cX2_isSpelledAhead 7 = .ok (.if_icmp .ge 24, 3) := by decide +kernel
theorem dX2_isSpelledAhead_10 : decode cX2_isSpelledAhead 10 = .ok (.aload_n 0, 1) := by decide +kernel
theorem dX2_isSpelledAhead_11 : decode cX2_isSpelledAhead 11 = .ok (.getfield 20, 3) := by decide +kernel
theorem dX2_isSpelledAhead_14 : decode cX2_isSpelledAhead 14 = .ok (.iload_n 2, 1) := by decide +kernel
theorem dX2_isSpelledAhead_15 : decode cX2_isSpelledAhead 15 = .ok (.aaload, 1) := by decide +kernel
theorem dX2_isSpelledAhead_16 : decode cX2_isSpelledAhead 16 = .ok (.aload_n 1, 1) := by decide +kernel
theorem dX2_isSpelledAhead_17 : decode cX2_isSpelledAhead 17 = .ok (.invokevirtual 117, 3) := by decide +kernel
theorem dX2_isSpelledAhead_20 : decode cX2_isSpelledAhead 20 = .ok (.ifCond .eq 5, 3) := by decide +kernel
theorem dX2_isSpelledAhead_23 : decode cX2_isSpelledAhead 23 = .ok (.iconst 1, 1) := by decide +kernel
theorem dX2_isSpelledAhead_24 : decode cX2_isSpelledAhead 24 = .ok (.ireturn, 1) := by decide +kernel
theorem dX2_isSpelledAhead_25 : decode cX2_isSpelledAhead 25 = .ok (.iinc 2 1, 3) := by decide +kernel
theorem dX2_isSpelledAhead_28 : decode cX2_isSpelledAhead 28 = .ok (.goto (-26), 3) := by decide +kernel
theorem dX2_isSpelledAhead_31 : decode cX2_isSpelledAhead 31 = .ok (.iconst 0, 1) := by decide +kernel
theorem dX2_isSpelledAhead_32 : decode cX2_isSpelledAhead 32 = .ok (.ireturn, 1) := by decide +kernel
theorem r_X2_isSpelledAhead_2 (E : kr_E)  (l0 : Nat) (h_l0 : kr_sh l0 = (2, 0)) (l1 : Nat) (h_l1 : kr_sh l1 = (7, 0))  : ∀ (n : Nat) (l2 : Int32) (M : kr_M), kR kr_vi E Y_X2_isSpelledAhead 4 2 [(0, kr_r E l0), (1, kr_r E l1), (2, .int l2)] [] M (f_X2_isSpelledAhead_2 l0 l1 n l2 M) := by
  intro n
  induction n with
  | zero => intro l2 M; exact kr_none
  | succ n ih =>
    intro l2 M
    rw [f_X2_isSpelledAhead_2]
    refine kr_iload_n dX2_isSpelledAhead_2 rfl 2 rfl ?_
    refine kr_aload_n dX2_isSpelledAhead_3 rfl 0 rfl ?_
    refine kr_getI (ci := 2) (j := 5) dX2_isSpelledAhead_4 h_l0 fl_RX2_68 rfl (fun v1 => ?_)
    refine kr_icmp_ge (tgt := 31) dX2_isSpelledAhead_7 (by decide) ?_ ?_
    · refine kr_iconst (v := 0) dX2_isSpelledAhead_31 (by decide) ?_
      exact kr_zret1 dX2_isSpelledAhead_32 rfl rfl
    · refine kr_aload_n dX2_isSpelledAhead_10 rfl 0 rfl ?_
      refine kr_getA (o := 3) (ci := 2) (j := 12) dX2_isSpelledAhead_11 h_l0 fl_RX2_20 rfl ?_
      refine kr_iload_n dX2_isSpelledAhead_14 rfl 2 rfl ?_
      refine kr_aaldT dX2_isSpelledAhead_15 h_l0 (fun h2 => ?_)
      refine kr_aload_n dX2_isSpelledAhead_16 rfl 1 rfl ?_
      refine kr_Vi (As := [kr_r E l1]) (st := []) zv_X7_isLike dX2_isSpelledAhead_17 ml_RX2_117 h2 (r_X7_isLike E (kr_tx l0 l2) h2 l1 h_l1 M) rfl rfl (Nat.le_of_ble_eq_true rfl) rfl (by decide) (Nat.le_of_ble_eq_true rfl) (fun r4 M3 => ?_)
      refine kr_if_eq (tgt := 25) dX2_isSpelledAhead_20 (by decide) ?_ ?_
      · refine kr_iinc (j := 2) (v := (l2 + (1 : Int32))) (lv' := [(2, .int (l2 + (1 : Int32))), (0, kr_r E l0), (1, kr_r E l1)]) dX2_isSpelledAhead_25 rfl rfl (by decide) rfl ?_
        refine kr_goto (tgt := 2) dX2_isSpelledAhead_28 (by decide) ?_
        refine kr_sub [1, 2, 0] rfl ?_
        exact ih (l2 + (1 : Int32)) M3
      · refine kr_iconst (v := 1) dX2_isSpelledAhead_23 (by decide) ?_
        exact kr_zret1 dX2_isSpelledAhead_24 rfl rfl
theorem r_X2_isSpelledAhead (E : kr_E) (g0 : Nat) (h_g0 : kr_sh g0 = (2, 0)) (p1 : Nat) (h_p1 : kr_sh p1 = (7, 0)) (M : kr_M) : kR kr_vi E Y_X2_isSpelledAhead 4 0 [(0, kr_r E g0), (1, kr_r E p1)] [] M (f_X2_isSpelledAhead g0 p1 M) := by
  rw [f_X2_isSpelledAhead]
  refine kr_iconst (v := 0) dX2_isSpelledAhead_0 (by decide) ?_
  refine kr_istore_n (lv' := [(2, .int (0 : Int32)), (0, kr_r E g0), (1, kr_r E p1)]) dX2_isSpelledAhead_1 rfl (by decide) rfl ?_
  refine kr_sub [1, 2, 0] rfl ?_
  exact r_X2_isSpelledAhead_2 E g0 h_g0 p1 h_p1 _ (0 : Int32) M
theorem dX5_otherEnd_0 : decode cX5_otherEnd 0 = .ok (.iload_n 1, 1) := by decide +kernel
theorem dX5_otherEnd_1 : decode cX5_otherEnd 1 = .ok (.aload_n 0, 1) := by decide +kernel
theorem dX5_otherEnd_2 : decode cX5_otherEnd 2 = .ok (.getfield 23, 3) := by decide +kernel
theorem dX5_otherEnd_5 : decode cX5_otherEnd 5 = .ok (.if_icmp .ne 8, 3) := by decide +kernel
theorem dX5_otherEnd_8 : decode cX5_otherEnd 8 = .ok (.aload_n 0, 1) := by decide +kernel
theorem dX5_otherEnd_9 : decode cX5_otherEnd 9 = .ok (.getfield 27, 3) := by decide +kernel
theorem dX5_otherEnd_12 : decode cX5_otherEnd 12 = .ok (.ireturn, 1) := by decide +kernel
theorem dX5_otherEnd_13 : decode cX5_otherEnd 13 = .ok (.iload_n 1, 1) := by decide +kernel
theorem dX5_otherEnd_14 : decode cX5_otherEnd 14 = .ok (.aload_n 0, 1) := by decide +kernel
theorem dX5_otherEnd_15 : decode cX5_otherEnd 15 = .ok (.getfield 27, 3) := by decide +kernel
theorem dX5_otherEnd_18 : decode cX5_otherEnd 18 = .ok (.if_icmp .ne 10, 3) := by decide +kernel
theorem dX5_otherEnd_21 : decode cX5_otherEnd 21 = .ok (.aload_n 0, 1) := by decide +kernel
theorem dX5_otherEnd_22 : decode cX5_otherEnd 22 = .ok (.getfield 23, 3) := by decide +kernel
theorem dX5_otherEnd_25 : decode cX5_otherEnd 25 = .ok (.goto 4, 3) := by decide +kernel
theorem dX5_otherEnd_28 : decode cX5_otherEnd 28 = .ok (.iconst (-1), 1) := by decide +kernel
theorem dX5_otherEnd_29 : decode cX5_otherEnd 29 = .ok (.ireturn, 1) := by decide +kernel
theorem r_X5_otherEnd (E : kr_E) (g0 : Nat) (h_g0 : kr_sh g0 = (5, 0)) (p1 : Int32) (M : kr_M) : kR kr_vi E Y_X5_otherEnd 1 0 [(0, kr_r E g0), (1, .int p1)] [] M (f_X5_otherEnd g0 p1 M) := by
  rw [f_X5_otherEnd]
  refine kr_iload_n dX5_otherEnd_0 rfl 1 rfl ?_
  refine kr_aload_n dX5_otherEnd_1 rfl 0 rfl ?_
  refine kr_getI (ci := 5) (j := 0) dX5_otherEnd_2 h_g0 fl_RX5_23 rfl (fun v1 => ?_)
  refine kr_icmp_ne (tgt := 13) dX5_otherEnd_5 (by decide) ?_ ?_
  · refine kr_iload_n dX5_otherEnd_13 rfl 1 rfl ?_
    refine kr_aload_n dX5_otherEnd_14 rfl 0 rfl ?_
    refine kr_getI (ci := 5) (j := 1) dX5_otherEnd_15 h_g0 fl_RX5_27 rfl (fun v2 => ?_)
    refine kr_icmp_ne (tgt := 28) dX5_otherEnd_18 (by decide) ?_ ?_
    · refine kr_iconst (v := -1) dX5_otherEnd_28 (by decide) ?_
      exact kr_iret dX5_otherEnd_29 rfl
    · refine kr_aload_n dX5_otherEnd_21 rfl 0 rfl ?_
      refine kr_getI (ci := 5) (j := 0) dX5_otherEnd_22 h_g0 fl_RX5_23 rfl (fun v3 => ?_)
      refine kr_goto (tgt := 29) dX5_otherEnd_25 (by decide) ?_
      exact kr_iret dX5_otherEnd_29 rfl
  · refine kr_aload_n dX5_otherEnd_8 rfl 0 rfl ?_
    refine kr_getI (ci := 5) (j := 1) dX5_otherEnd_9 h_g0 fl_RX5_27 rfl (fun v4 => ?_)
    exact kr_iret dX5_otherEnd_12 rfl
theorem dX2_carryOut_0 : decode cX2_carryOut 0 = .ok (.aload_n 0, 1) := by decide +kernel
theorem dX2_carryOut_1 : decode cX2_carryOut 1 = .ok (.getfield 45, 3) := by decide +kernel
theorem dX2_carryOut_4 : decode cX2_carryOut 4 = .ok (.iload_n 1, 1) := by decide +kernel
theorem dX2_carryOut_5 : decode cX2_carryOut 5 = .ok (.iconst 1, 1) := by decide +kernel
theorem dX2_carryOut_6 : decode cX2_carryOut 6 = .ok (.iadd, 1) := by decide +kernel
theorem dX2_carryOut_7 : decode cX2_carryOut 7 = .ok (.iaload, 1) := by decide +kernel
theorem dX2_carryOut_8 : decode cX2_carryOut 8 = .ok (.istore_n 2, 1) := by decide +kernel
theorem dX2_carryOut_9 : decode cX2_carryOut 9 = .ok (.aload_n 0, 1) := by decide +kernel
theorem dX2_carryOut_10 : decode cX2_carryOut 10 = .ok (.getfield 45, 3) := by decide +kernel
theorem dX2_carryOut_13 : decode cX2_carryOut 13 = .ok (.iload_n 1, 1) := by decide +kernel
theorem dX2_carryOut_14 : decode cX2_carryOut 14 = .ok (.iconst 2, 1) := by decide +kernel
theorem dX2_carryOut_15 : decode cX2_carryOut 15 = .ok (.iadd, 1) := by decide +kernel
theorem dX2_carryOut_16 : decode cX2_carryOut 16 = .ok (.iaload, 1) := by decide +kernel
theorem dX2_carryOut_17 : decode cX2_carryOut 17 = .ok (.istore_n 3, 1) := by decide +kernel
theorem dX2_carryOut_18 : decode cX2_carryOut 18 = .ok (.aload_n 0, 1) := by decide +kernel
theorem dX2_carryOut_19 : decode cX2_carryOut 19 = .ok (.getfield 45, 3) := by decide +kernel
theorem dX2_carryOut_22 : decode cX2_carryOut 22 = .ok (.iload_n 1, 1) := by decide +kernel
theorem dX2_carryOut_23 : decode cX2_carryOut 23 = .ok (.iaload, 1) := by decide +kernel
theorem dX2_carryOut_24 : decode cX2_carryOut 24 = .ok (.tableswitch 136 0 3 #[32, 71, 96, 112], 32) := by decide +kernel
theorem dX2_carryOut_56 : decode cX2_carryOut 56 = .ok (.aload_n 0, 1) := by decide +kernel
theorem dX2_carryOut_57 : decode cX2_carryOut 57 = .ok (.getfield 42, 3) := by decide +kernel
theorem dX2_carryOut_60 : decode cX2_carryOut 60 = .ok (.iload_n 2, 1) := by decide +kernel
theorem dX2_carryOut_61 : decode cX2_carryOut 61 = .ok (.aload_n 0, 1) := by decide +kernel
theorem dX2_carryOut_62 : decode cX2_carryOut 62 = .ok (.getfield 29, 3) := by decide +kernel
theorem dX2_carryOut_65 : decode cX2_carryOut 65 = .ok (.iload_n 3, 1) := by decide +kernel
theorem dX2_carryOut_66 : decode cX2_carryOut 66 = .ok (.aaload, 1) := by decide +kernel
theorem dX2_carryOut_67 : decode cX2_carryOut 67 = .ok (.aload_n 0, 1) := by decide +kernel
theorem dX2_carryOut_68 : decode cX2_carryOut 68 = .ok (.getfield 42, 3) := by decide +kernel
theorem dX2_carryOut_71 : decode cX2_carryOut 71 = .ok (.iload_n 2, 1) := by decide +kernel
theorem dX2_carryOut_72 : decode cX2_carryOut 72 = .ok (.iaload, 1) := by decide +kernel
theorem dX2_carryOut_73 : decode cX2_carryOut 73 = .ok (.invokevirtual 128, 3) := by decide +kernel
theorem dX2_carryOut_76 : decode cX2_carryOut 76 = .ok (.iastore, 1) := by decide +kernel
theorem dX2_carryOut_77 : decode cX2_carryOut 77 = .ok (.aload_n 0, 1) := by decide +kernel
theorem dX2_carryOut_78 : decode cX2_carryOut 78 = .ok (.getfield 29, 3) := by decide +kernel
theorem dX2_carryOut_81 : decode cX2_carryOut 81 = .ok (.iload_n 3, 1) := by decide +kernel
theorem dX2_carryOut_82 : decode cX2_carryOut 82 = .ok (.aaload, 1) := by decide +kernel
theorem dX2_carryOut_83 : decode cX2_carryOut 83 = .ok (.dup, 1) := by decide +kernel
theorem dX2_carryOut_84 : decode cX2_carryOut 84 = .ok (.getfield 114, 3) := by decide +kernel
theorem dX2_carryOut_87 : decode cX2_carryOut 87 = .ok (.iconst 1, 1) := by decide +kernel
theorem dX2_carryOut_88 : decode cX2_carryOut 88 = .ok (.iadd, 1) := by decide +kernel
theorem dX2_carryOut_89 : decode cX2_carryOut 89 = .ok (.putfield 114, 3) := by decide +kernel
theorem dX2_carryOut_92 : decode cX2_carryOut 92 = .ok (.goto 73, 3) := by decide +kernel
theorem dX2_carryOut_95 : decode cX2_carryOut 95 = .ok (.aload_n 0, 1) := by decide +kernel
theorem dX2_carryOut_96 : decode cX2_carryOut 96 = .ok (.getfield 29, 3) := by decide +kernel
theorem dX2_carryOut_99 : decode cX2_carryOut 99 = .ok (.iload_n 2, 1) := by decide +kernel
theorem dX2_carryOut_100 : decode cX2_carryOut 100 = .ok (.aaload, 1) := by decide +kernel
theorem dX2_carryOut_101 : decode cX2_carryOut 101 = .ok (.getfield 96, 3) := by decide +kernel
theorem dX2_carryOut_104 : decode cX2_carryOut 104 = .ok (.getfield 109, 3) := by decide +kernel
theorem dX2_carryOut_107 : decode cX2_carryOut 107 = .ok (.iload_n 3, 1) := by decide +kernel
theorem dX2_carryOut_108 : decode cX2_carryOut 108 = .ok (.aload_n 0, 1) := by decide +kernel
theorem dX2_carryOut_109 : decode cX2_carryOut 109 = .ok (.getfield 45, 3) := by decide +kernel
theorem dX2_carryOut_112 : decode cX2_carryOut 112 = .ok (.iload_n 1, 1) := by decide +kernel
theorem dX2_carryOut_113 : decode cX2_carryOut 113 = .ok (.iconst 3, 1) := by decide +kernel
theorem dX2_carryOut_114 : decode cX2_carryOut 114 = .ok (.iadd, 1) := by decide +kernel
theorem dX2_carryOut_115 : decode cX2_carryOut 115 = .ok (.iaload, 1) := by decide +kernel
theorem dX2_carryOut_116 : decode cX2_carryOut 116 = .ok (.iastore, 1) := by decide +kernel
theorem dX2_carryOut_117 : decode cX2_carryOut 117 = .ok (.goto 48, 3) := by decide +kernel
theorem dX2_carryOut_120 : decode cX2_carryOut 120 = .ok (.aload_n 0, 1) := by decide +kernel
theorem dX2_carryOut_121 : decode cX2_carryOut 121 = .ok (.getfield 29, 3) := by decide +kernel
theorem dX2_carryOut_124 : decode cX2_carryOut 124 = .ok (.iload_n 2, 1) := by decide +kernel
theorem dX2_carryOut_125 : decode cX2_carryOut 125 = .ok (.aaload, 1) := by decide +kernel
theorem dX2_carryOut_126 : decode cX2_carryOut 126 = .ok (.getfield 96, 3) := by decide +kernel
theorem dX2_carryOut_129 : decode cX2_carryOut 129 = .ok (.iload_n 3, 1) := by decide +kernel
theorem dX2_carryOut_130 : decode cX2_carryOut 130 = .ok (.putfield 100, 3) := by decide +kernel
theorem dX2_carryOut_133 : decode cX2_carryOut 133 = .ok (.goto 32, 3) := by decide +kernel
theorem dX2_carryOut_136 : decode cX2_carryOut 136 = .ok (.aload_n 0, 1) := by decide +kernel
theorem dX2_carryOut_137 : decode cX2_carryOut 137 = .ok (.getfield 29, 3) := by decide +kernel
theorem dX2_carryOut_140 : decode cX2_carryOut 140 = .ok (.iload_n 2, 1) := by decide +kernel
theorem dX2_carryOut_141 : decode cX2_carryOut 141 = .ok (.aaload, 1) := by decide +kernel
theorem dX2_carryOut_142 : decode cX2_carryOut 142 = .ok (.getfield 96, 3) := by decide +kernel
theorem dX2_carryOut_145 : decode cX2_carryOut 145 = .ok (.aload_n 0, 1) := by decide +kernel
theorem dX2_carryOut_146 : decode cX2_carryOut 146 = .ok (.getfield 29, 3) := by decide +kernel
theorem dX2_carryOut_149 : decode cX2_carryOut 149 = .ok (.iload_n 3, 1) := by decide +kernel
theorem dX2_carryOut_150 : decode cX2_carryOut 150 = .ok (.aaload, 1) := by decide +kernel
theorem dX2_carryOut_151 : decode cX2_carryOut 151 = .ok (.getfield 96, 3) := by decide +kernel
theorem dX2_carryOut_154 : decode cX2_carryOut 154 = .ok (.invokevirtual 132, 3) := by decide +kernel
theorem dX2_carryOut_157 : decode cX2_carryOut 157 = .ok (.goto 8, 3) := by decide +kernel
theorem dX2_carryOut_160 : decode cX2_carryOut 160 = .ok (.aload_n 0, 1) := by decide +kernel
theorem dX2_carryOut_161 : decode cX2_carryOut 161 = .ok (.iload_n 2, 1) := by decide +kernel
theorem dX2_carryOut_162 : decode cX2_carryOut 162 = .ok (.putfield 77, 3) := by decide +kernel
theorem dX2_carryOut_165 : decode cX2_carryOut 165 = .ok (.return_, 1) := by decide +kernel
theorem r_X2_carryOut (E : kr_E) (g0 : Nat) (h_g0 : kr_sh g0 = (2, 0)) (p1 : Int32) (M : kr_M) : kR kr_vv E Y_X2_carryOut 3 0 [(0, kr_r E g0), (1, .int p1)] [] M (f_X2_carryOut g0 p1 M) := by
  rw [f_X2_carryOut]
  refine kr_aload_n dX2_carryOut_0 rfl 0 rfl ?_
  refine kr_getA (o := 10) (ci := 2) (j := 19) dX2_carryOut_1 h_g0 fl_RX2_45 rfl ?_
  refine kr_iload_n dX2_carryOut_4 rfl 1 rfl ?_
  refine kr_iconst (v := 1) dX2_carryOut_5 (by decide) ?_
  refine kr_iadd dX2_carryOut_6 ?_
  refine kr_iald dX2_carryOut_7 (kr_shG10 _ h_g0) (fun v1 => ?_)
  refine kr_istore_n (lv' := [(2, .int v1), (0, kr_r E g0), (1, .int p1)]) dX2_carryOut_8 rfl (by decide) rfl ?_
  refine kr_aload_n dX2_carryOut_9 rfl 1 rfl ?_
  refine kr_getA (o := 10) (ci := 2) (j := 19) dX2_carryOut_10 h_g0 fl_RX2_45 rfl ?_
  refine kr_iload_n dX2_carryOut_13 rfl 2 rfl ?_
  refine kr_iconst (v := 2) dX2_carryOut_14 (by decide) ?_
  refine kr_iadd dX2_carryOut_15 ?_
  refine kr_iald dX2_carryOut_16 (kr_shG10 _ h_g0) (fun v2 => ?_)
  refine kr_istore_n (lv' := [(3, .int v2), (2, .int v1), (0, kr_r E g0), (1, .int p1)]) dX2_carryOut_17 rfl (by decide) rfl ?_
  refine kr_aload_n dX2_carryOut_18 rfl 2 rfl ?_
  refine kr_getA (o := 10) (ci := 2) (j := 19) dX2_carryOut_19 h_g0 fl_RX2_45 rfl ?_
  refine kr_iload_n dX2_carryOut_22 rfl 3 rfl ?_
  refine kr_iald dX2_carryOut_23 (kr_shG10 _ h_g0) (fun v3 => ?_)
  refine kr_case (0 : Int32) (fun c4 => ?_) (fun c4 => ?_)
  · refine kr_tin (v := 0) (off := 32) (tgt := 56) c4 dX2_carryOut_24 (by decide) (by decide) (by decide) (by decide) ?_
    refine kr_aload_n dX2_carryOut_56 rfl 2 rfl ?_
    refine kr_getA (o := 9) (ci := 2) (j := 18) dX2_carryOut_57 h_g0 fl_RX2_42 rfl ?_
    refine kr_iload_n dX2_carryOut_60 rfl 1 rfl ?_
    refine kr_aload_n dX2_carryOut_61 rfl 2 rfl ?_
    refine kr_getA (o := 5) (ci := 2) (j := 14) dX2_carryOut_62 h_g0 fl_RX2_29 rfl ?_
    refine kr_iload_n dX2_carryOut_65 rfl 0 rfl ?_
    refine kr_aaldR dX2_carryOut_66 h_g0 (fun h5 => ?_)
    refine kr_aload_n dX2_carryOut_67 rfl 2 rfl ?_
    refine kr_getA (o := 9) (ci := 2) (j := 18) dX2_carryOut_68 h_g0 fl_RX2_42 rfl ?_
    refine kr_iload_n dX2_carryOut_71 rfl 1 rfl ?_
    refine kr_iald dX2_carryOut_72 (kr_shG9 _ h_g0) (fun v6 => ?_)
    refine kr_Vi (As := [.int v6]) (st := [.int v1, kr_r E (g0 + 9)]) zv_X5_otherEnd dX2_carryOut_73 ml_RX2_128 h5 (r_X5_otherEnd E (kr_rp g0 v2) h5 v6 M) rfl rfl (Nat.le_of_ble_eq_true rfl) rfl (by decide) (Nat.le_of_ble_eq_true rfl) (fun r8 M7 => ?_)
    refine kr_iast dX2_carryOut_76 (kr_shG9 _ h_g0) (fun M9 => ?_)
    refine kr_aload_n dX2_carryOut_77 rfl 2 rfl ?_
    refine kr_getA (o := 5) (ci := 2) (j := 14) dX2_carryOut_78 h_g0 fl_RX2_29 rfl ?_
    refine kr_iload_n dX2_carryOut_81 rfl 0 rfl ?_
    refine kr_aaldR dX2_carryOut_82 h_g0 (fun h10 => ?_)
    refine kr_dup dX2_carryOut_83 rfl ?_
    refine kr_getI (ci := 5) (j := 3) dX2_carryOut_84 h10 fl_RX2_114 rfl (fun v11 => ?_)
    refine kr_iconst (v := 1) dX2_carryOut_87 (by decide) ?_
    refine kr_iadd dX2_carryOut_88 ?_
    refine kr_putI (ci := 5) (j := 3) dX2_carryOut_89 h10 fl_RX2_114 rfl rfl (fun M12 => ?_)
    refine kr_goto (tgt := 165) dX2_carryOut_92 (by decide) ?_
    exact kr_vret dX2_carryOut_165 rfl
  refine kr_case (1 : Int32) (fun c13 => ?_) (fun c13 => ?_)
  · refine kr_tin (v := 1) (off := 71) (tgt := 95) c13 dX2_carryOut_24 (by decide) (by decide) (by decide) (by decide) ?_
    refine kr_aload_n dX2_carryOut_95 rfl 2 rfl ?_
    refine kr_getA (o := 5) (ci := 2) (j := 14) dX2_carryOut_96 h_g0 fl_RX2_29 rfl ?_
    refine kr_iload_n dX2_carryOut_99 rfl 1 rfl ?_
    refine kr_aaldR dX2_carryOut_100 h_g0 (fun h14 => ?_)
    refine kr_getA (o := 3) (ci := 5) (j := 5) dX2_carryOut_101 h14 fl_RX2_96 rfl ?_
    refine kr_getA (o := 1) (ci := 7) (j := 0) dX2_carryOut_104 (kr_shR3 _ h14) fl_RX2_109 rfl ?_
    refine kr_iload_n dX2_carryOut_107 rfl 0 rfl ?_
    refine kr_aload_n dX2_carryOut_108 rfl 2 rfl ?_
    refine kr_getA (o := 10) (ci := 2) (j := 19) dX2_carryOut_109 h_g0 fl_RX2_45 rfl ?_
    refine kr_iload_n dX2_carryOut_112 rfl 3 rfl ?_
    refine kr_iconst (v := 3) dX2_carryOut_113 (by decide) ?_
    refine kr_iadd dX2_carryOut_114 ?_
    refine kr_iald dX2_carryOut_115 (kr_shG10 _ h_g0) (fun v15 => ?_)
    refine kr_iast dX2_carryOut_116 (kr_shT1 _ (kr_shR3 _ h14)) (fun M16 => ?_)
    refine kr_goto (tgt := 165) dX2_carryOut_117 (by decide) ?_
    exact kr_vret dX2_carryOut_165 rfl
  refine kr_case (2 : Int32) (fun c17 => ?_) (fun c17 => ?_)
  · refine kr_tin (v := 2) (off := 96) (tgt := 120) c17 dX2_carryOut_24 (by decide) (by decide) (by decide) (by decide) ?_
    refine kr_aload_n dX2_carryOut_120 rfl 2 rfl ?_
    refine kr_getA (o := 5) (ci := 2) (j := 14) dX2_carryOut_121 h_g0 fl_RX2_29 rfl ?_
    refine kr_iload_n dX2_carryOut_124 rfl 1 rfl ?_
    refine kr_aaldR dX2_carryOut_125 h_g0 (fun h18 => ?_)
    refine kr_getA (o := 3) (ci := 5) (j := 5) dX2_carryOut_126 h18 fl_RX2_96 rfl ?_
    refine kr_iload_n dX2_carryOut_129 rfl 0 rfl ?_
    refine kr_putI (ci := 7) (j := 1) dX2_carryOut_130 (kr_shR3 _ h18) fl_RX2_100 rfl rfl (fun M19 => ?_)
    refine kr_goto (tgt := 165) dX2_carryOut_133 (by decide) ?_
    exact kr_vret dX2_carryOut_165 rfl
  refine kr_case (3 : Int32) (fun c20 => ?_) (fun c20 => ?_)
  · refine kr_tin (v := 3) (off := 112) (tgt := 136) c20 dX2_carryOut_24 (by decide) (by decide) (by decide) (by decide) ?_
    refine kr_aload_n dX2_carryOut_136 rfl 2 rfl ?_
    refine kr_getA (o := 5) (ci := 2) (j := 14) dX2_carryOut_137 h_g0 fl_RX2_29 rfl ?_
    refine kr_iload_n dX2_carryOut_140 rfl 1 rfl ?_
    refine kr_aaldR dX2_carryOut_141 h_g0 (fun h21 => ?_)
    refine kr_getA (o := 3) (ci := 5) (j := 5) dX2_carryOut_142 h21 fl_RX2_96 rfl ?_
    refine kr_aload_n dX2_carryOut_145 rfl 2 rfl ?_
    refine kr_getA (o := 5) (ci := 2) (j := 14) dX2_carryOut_146 h_g0 fl_RX2_29 rfl ?_
    refine kr_iload_n dX2_carryOut_149 rfl 0 rfl ?_
    refine kr_aaldR dX2_carryOut_150 h_g0 (fun h22 => ?_)
    refine kr_getA (o := 3) (ci := 5) (j := 5) dX2_carryOut_151 h22 fl_RX2_96 rfl ?_
    refine kr_Vv (As := [kr_r E ((kr_rp g0 v2) + 3)]) (st := []) zv_X7_putAll dX2_carryOut_154 ml_RX2_132 (kr_shR3 _ h21) (r_X7_putAll E ((kr_rp g0 v1) + 3) (kr_shR3 _ h21) ((kr_rp g0 v2) + 3) (kr_shR3 _ h22) M) rfl rfl (Nat.le_of_ble_eq_true rfl) rfl (by decide) (Nat.le_of_ble_eq_true rfl) (fun M23 => ?_)
    refine kr_goto (tgt := 165) dX2_carryOut_157 (by decide) ?_
    exact kr_vret dX2_carryOut_165 rfl
  refine kr_tout (tgt := 160) dX2_carryOut_24 (by have zc4 := lv_neT c4 (show (0 : Int32).toInt = 0 by decide); have zc13 := lv_neT c13 (show (1 : Int32).toInt = 1 by decide); have zc17 := lv_neT c17 (show (2 : Int32).toInt = 2 by decide); have zc20 := lv_neT c20 (show (3 : Int32).toInt = 3 by decide); omega) (by decide) ?_
  refine kr_aload_n dX2_carryOut_160 rfl 2 rfl ?_
  refine kr_iload_n dX2_carryOut_161 rfl 1 rfl ?_
  refine kr_putI (ci := 2) (j := 8) dX2_carryOut_162 h_g0 fl_RX2_77 rfl rfl (fun M25 => ?_)
  exact kr_vret dX2_carryOut_165 rfl
