theorem dX9_timeOver_0 : decode cX9_timeOver 0 = .ok (.aload_n 1, 1) := by decide +kernel
theorem dX9_timeOver_1 : decode cX9_timeOver 1 = .ok (.getfield 43, 3) := by decide +kernel
theorem dX9_timeOver_4 : decode cX9_timeOver 4 = .ok (.iload_n 2, 1) := by decide +kernel
theorem dX9_timeOver_5 : decode cX9_timeOver 5 = .ok (.aaload, 1) := by decide +kernel
theorem dX9_timeOver_6 : decode cX9_timeOver 6 = .ok (.astore 6, 2) := by decide +kernel
theorem dX9_timeOver_8 : decode cX9_timeOver 8 = .ok (.iload_n 3, 1) := by decide +kernel
theorem dX9_timeOver_9 : decode cX9_timeOver 9 = .ok (.ifCond .ne 11, 3) := by decide +kernel
theorem dX9_timeOver_12 : decode cX9_timeOver 12 = .ok (.aload 6, 2) := by decide +kernel
theorem dX9_timeOver_14 : decode cX9_timeOver 14 = .ok (.getfield 47, 3) := by decide +kernel
theorem dX9_timeOver_17 : decode cX9_timeOver 17 = .ok (.goto 8, 3) := by decide +kernel
theorem dX9_timeOver_20 : decode cX9_timeOver 20 = .ok (.aload 6, 2) := by decide +kernel
theorem dX9_timeOver_22 : decode cX9_timeOver 22 = .ok (.getfield 52, 3) := by decide +kernel
theorem dX9_timeOver_25 : decode cX9_timeOver 25 = .ok (.istore 7, 2) := by decide +kernel
theorem dX9_timeOver_27 : decode cX9_timeOver 27 = .ok (.iload_n 3, 1) := by decide +kernel
theorem dX9_timeOver_28 : decode cX9_timeOver 28 = .ok (.ifCond .ne 11, 3) := by decide +kernel
theorem dX9_timeOver_31 : decode cX9_timeOver 31 = .ok (.aload 6, 2) := by decide +kernel
theorem dX9_timeOver_33 : decode cX9_timeOver 33 = .ok (.getfield 52, 3) := by decide +kernel
theorem dX9_timeOver_36 : decode cX9_timeOver 36 = .ok (.goto 8, 3) := by decide +kernel
theorem dX9_timeOver_39 : decode cX9_timeOver 39 = .ok (.aload 6, 2) := by decide +kernel
theorem dX9_timeOver_41 : decode cX9_timeOver 41 = .ok (.getfield 47, 3) := by decide +kernel
theorem dX9_timeOver_44 : decode cX9_timeOver 44 = .ok (.istore 8, 2) := by decide +kernel
theorem dX9_timeOver_46 : decode cX9_timeOver 46 = .ok (.aload_n 0, 1) := by decide +kernel
theorem dX9_timeOver_47 : decode cX9_timeOver 47 = .ok (.iload 4, 2) := by decide +kernel
theorem dX9_timeOver_49 : decode cX9_timeOver 49 = .ok (.iload 7, 2) := by decide +kernel
theorem dX9_timeOver_51 : decode cX9_timeOver 51 = .ok (.invokevirtual 66, 3) := by decide +kernel
theorem dX9_timeOver_54 : decode cX9_timeOver 54 = .ok (.aload_n 0, 1) := by decide +kernel
theorem dX9_timeOver_55 : decode cX9_timeOver 55 = .ok (.getfield 9, 3) := by decide +kernel
theorem dX9_timeOver_58 : decode cX9_timeOver 58 = .ok (.iload_n 2, 1) := by decide +kernel
theorem dX9_timeOver_59 : decode cX9_timeOver 59 = .ok (.iaload, 1) := by decide +kernel
theorem dX9_timeOver_60 : decode cX9_timeOver 60 = .ok (.invokestatic 70, 3) := by decide +kernel
theorem dX9_timeOver_63 : decode cX9_timeOver 63 = .ok (.aload_n 0, 1) := by decide +kernel
theorem dX9_timeOver_64 : decode cX9_timeOver 64 = .ok (.iload 8, 2) := by decide +kernel
theorem dX9_timeOver_66 : decode cX9_timeOver 66 = .ok (.iload 5, 2) := by decide +kernel
theorem dX9_timeOver_68 : decode cX9_timeOver 68 = .ok (.invokevirtual 66, 3) := by decide +kernel
theorem dX9_timeOver_71 : decode cX9_timeOver 71 = .ok (.invokestatic 70, 3) := by decide +kernel
theorem dX9_timeOver_74 : decode cX9_timeOver 74 = .ok (.ireturn, 1) := by decide +kernel
theorem r_X9_timeOver_44 (E : kr_E)  (l2 : Int32) (l4 : Int32) (l5 : Int32) (l7 : Int32) (s0 : Int32)  (M : kr_M) : kR kr_vi E Y_X9_timeOver 2 44 [(0, kr_r E 338), (2, .int l2), (4, .int l4), (5, .int l5), (7, .int l7)] [.int s0] M (f_X9_timeOver_44 l2 l4 l5 l7 s0 M) := by
  rw [f_X9_timeOver_44]
  refine kr_istore (lv' := [(8, .int s0), (0, kr_r E 338), (2, .int l2), (4, .int l4), (5, .int l5), (7, .int l7)]) dX9_timeOver_44 (by decide) rfl ?_
  refine kr_aload_n dX9_timeOver_46 rfl 1 rfl ?_
  refine kr_iload dX9_timeOver_47 3 rfl ?_
  refine kr_iload dX9_timeOver_49 5 rfl ?_
  refine kr_Vi (As := [.int l4, .int l7]) (st := []) zv_X9_timeFrom dX9_timeOver_51 ml_RX9_66 kr_at_338 (r_X9_timeFrom E l4 l7 M) rfl rfl (Nat.le_of_ble_eq_true rfl) rfl (by decide) (Nat.le_of_ble_eq_true rfl) (fun r2 M1 => ?_)
  refine kr_aload_n dX9_timeOver_54 rfl 1 rfl ?_
  refine kr_getA (o := 1) (ci := 9) (j := 0) dX9_timeOver_55 kr_at_338 fl_RX9_9 rfl ?_
  refine kr_iload_n dX9_timeOver_58 rfl 2 rfl ?_
  refine kr_iald dX9_timeOver_59 kr_at_339 (fun v3 => ?_)
  refine kr_Si (As := [.int r2, .int v3]) (st := []) zs_X9_together dX9_timeOver_60 ml_RX9_70 (r_X9_together E r2 v3 M1) rfl rfl (Nat.le_of_ble_eq_true rfl) rfl (by decide) (Nat.le_of_ble_eq_true rfl) (fun r5 M4 => ?_)
  refine kr_aload_n dX9_timeOver_63 rfl 1 rfl ?_
  refine kr_iload dX9_timeOver_64 0 rfl ?_
  refine kr_iload dX9_timeOver_66 4 rfl ?_
  refine kr_Vi (As := [.int s0, .int l5]) (st := [.int r5]) zv_X9_timeFrom dX9_timeOver_68 ml_RX9_66 kr_at_338 (r_X9_timeFrom E s0 l5 M4) rfl rfl (Nat.le_of_ble_eq_true rfl) rfl (by decide) (Nat.le_of_ble_eq_true rfl) (fun r7 M6 => ?_)
  refine kr_Si (As := [.int r5, .int r7]) (st := []) zs_X9_together dX9_timeOver_71 ml_RX9_70 (r_X9_together E r5 r7 M6) rfl rfl (Nat.le_of_ble_eq_true rfl) rfl (by decide) (Nat.le_of_ble_eq_true rfl) (fun r9 M8 => ?_)
  exact kr_iret dX9_timeOver_74 rfl
theorem r_X9_timeOver_25 (E : kr_E)  (l2 : Int32) (l3 : Int32) (l4 : Int32) (l5 : Int32) (l6 : Nat) (h_l6 : kr_sh l6 = (5, 0)) (s0 : Int32)  (M : kr_M) : kR kr_vi E Y_X9_timeOver 2 25 [(0, kr_r E 338), (2, .int l2), (3, .int l3), (4, .int l4), (5, .int l5), (6, kr_r E l6)] [.int s0] M (f_X9_timeOver_25 l2 l3 l4 l5 l6 s0 M) := by
  rw [f_X9_timeOver_25]
  refine kr_istore (lv' := [(7, .int s0), (0, kr_r E 338), (2, .int l2), (3, .int l3), (4, .int l4), (5, .int l5), (6, kr_r E l6)]) dX9_timeOver_25 (by decide) rfl ?_
  refine kr_iload_n dX9_timeOver_27 rfl 3 rfl ?_
  refine kr_if_ne (tgt := 39) dX9_timeOver_28 (by decide) ?_ ?_
  · refine kr_aload dX9_timeOver_39 6 rfl ?_
    refine kr_getI (ci := 5) (j := 0) dX9_timeOver_41 h_l6 fl_RX9_47 rfl (fun v1 => ?_)
    refine kr_sub [1, 2, 4, 5, 0] rfl ?_
    exact r_X9_timeOver_44 E l2 l4 l5 s0 v1 M
  · refine kr_aload dX9_timeOver_31 6 rfl ?_
    refine kr_getI (ci := 5) (j := 1) dX9_timeOver_33 h_l6 fl_RX9_52 rfl (fun v2 => ?_)
    refine kr_goto (tgt := 44) dX9_timeOver_36 (by decide) ?_
    refine kr_sub [1, 2, 4, 5, 0] rfl ?_
    exact r_X9_timeOver_44 E l2 l4 l5 s0 v2 M
theorem r_X9_timeOver (E : kr_E) (p1 : Nat) (h_p1 : kr_sh p1 = (2, 0)) (p2 : Int32) (p3 : Int32) (p4 : Int32) (p5 : Int32) (M : kr_M) : kR kr_vi E Y_X9_timeOver 2 0 [(0, kr_r E 338), (1, kr_r E p1), (2, .int p2), (3, .int p3), (4, .int p4), (5, .int p5)] [] M (f_X9_timeOver p1 p2 p3 p4 p5 M) := by
  rw [f_X9_timeOver]
  refine kr_aload_n dX9_timeOver_0 rfl 1 rfl ?_
  refine kr_getA (o := 5) (ci := 2) (j := 14) dX9_timeOver_1 h_p1 fl_RX9_43 rfl ?_
  refine kr_iload_n dX9_timeOver_4 rfl 2 rfl ?_
  refine kr_aaldR dX9_timeOver_5 h_p1 (fun h1 => ?_)
  refine kr_astore (lv' := [(6, kr_r E (kr_rp p1 p2)), (0, kr_r E 338), (1, kr_r E p1), (2, .int p2), (3, .int p3), (4, .int p4), (5, .int p5)]) dX9_timeOver_6 (by decide) rfl ?_
  refine kr_iload_n dX9_timeOver_8 rfl 4 rfl ?_
  refine kr_if_ne (tgt := 20) dX9_timeOver_9 (by decide) ?_ ?_
  · refine kr_aload dX9_timeOver_20 0 rfl ?_
    refine kr_getI (ci := 5) (j := 1) dX9_timeOver_22 h1 fl_RX9_52 rfl (fun v2 => ?_)
    refine kr_sub [1, 3, 4, 5, 6, 0] rfl ?_
    exact r_X9_timeOver_25 E p2 p3 p4 p5 (kr_rp p1 p2) h1 v2 M
  · refine kr_aload dX9_timeOver_12 0 rfl ?_
    refine kr_getI (ci := 5) (j := 0) dX9_timeOver_14 h1 fl_RX9_47 rfl (fun v3 => ?_)
    refine kr_goto (tgt := 25) dX9_timeOver_17 (by decide) ?_
    refine kr_sub [1, 3, 4, 5, 6, 0] rfl ?_
    exact r_X9_timeOver_25 E p2 p3 p4 p5 (kr_rp p1 p2) h1 v3 M
theorem dX9_firstRopeFrom_0 : decode cX9_firstRopeFrom 0 = .ok (.iconst 0, 1) := by decide +kernel
theorem dX9_firstRopeFrom_1 : decode cX9_firstRopeFrom 1 = .ok (.istore 4, 2) := by decide +kernel
theorem dX9_firstRopeFrom_3 : decode cX9_firstRopeFrom 3 = .ok (.iload 4, 2) := by decide +kernel
theorem dX9_firstRopeFrom_5 : decode cX9_firstRopeFrom 5 = .ok (.aload_n 1, 1) := by decide +kernel
theorem dX9_firstRopeFrom_6 : decode cX9_firstRopeFrom 6 = .ok (.getfield 24, 3) := by decide +kernel
theorem dX9_firstRopeFrom_9 : decode cX9_firstRopeFrom 9 = .ok (.if_icmp .ge 67, 3) := by decide +kernel
theorem dX9_firstRopeFrom_12 : decode cX9_firstRopeFrom 12 = .ok (.aload_n 1, 1) := by decide +kernel
theorem dX9_firstRopeFrom_13 : decode cX9_firstRopeFrom 13 = .ok (.getfield 43, 3) := by decide +kernel
theorem dX9_firstRopeFrom_16 : decode cX9_firstRopeFrom 16 = .ok (.iload 4, 2) := by decide +kernel
theorem dX9_firstRopeFrom_18 : decode cX9_firstRopeFrom 18 = .ok (.aaload, 1) := by decide +kernel
theorem dX9_firstRopeFrom_19 : decode cX9_firstRopeFrom 19 = .ok (.iload_n 2, 1) := by decide +kernel
theorem dX9_firstRopeFrom_20 : decode cX9_firstRopeFrom 20 = .ok (.invokevirtual 80, 3) := by decide +kernel
theorem dX9_firstRopeFrom_23 : decode cX9_firstRopeFrom 23 = .ok (.istore 5, 2) := by decide +kernel
theorem dX9_firstRopeFrom_25 : decode cX9_firstRopeFrom 25 = .ok (.iload 5, 2) := by decide +kernel
theorem dX9_firstRopeFrom_27 : decode cX9_firstRopeFrom 27 = .ok (.iconst (-1), 1) := by decide +kernel
theorem dX9_firstRopeFrom_28 : decode cX9_firstRopeFrom 28 = .ok (.if_icmp .eq 42, 3) := by decide +kernel
theorem dX9_firstRopeFrom_31 : decode cX9_firstRopeFrom 31 = .ok (.aload_n 0, 1) := by decide +kernel
theorem dX9_firstRopeFrom_32 : decode cX9_firstRopeFrom 32 = .ok (.getfield 9, 3) := by decide +kernel
theorem dX9_firstRopeFrom_35 : decode cX9_firstRopeFrom 35 = .ok (.iload 4, 2) := by decide +kernel
theorem dX9_firstRopeFrom_37 : decode cX9_firstRopeFrom 37 = .ok (.iaload, 1) := by decide +kernel
theorem dX9_firstRopeFrom_38 : decode cX9_firstRopeFrom 38 = .ok (.aload_n 0, 1) := by decide +kernel
theorem dX9_firstRopeFrom_39 : decode cX9_firstRopeFrom 39 = .ok (.iload 5, 2) := by decide +kernel
theorem dX9_firstRopeFrom_41 : decode cX9_firstRopeFrom 41 = .ok (.iload_n 3, 1) := by decide +kernel
theorem dX9_firstRopeFrom_42 : decode cX9_firstRopeFrom 42 = .ok (.invokevirtual 66, 3) := by decide +kernel
theorem dX9_firstRopeFrom_45 : decode cX9_firstRopeFrom 45 = .ok (.invokestatic 70, 3) := by decide +kernel
theorem dX9_firstRopeFrom_48 : decode cX9_firstRopeFrom 48 = .ok (.istore 6, 2) := by decide +kernel
theorem dX9_firstRopeFrom_50 : decode cX9_firstRopeFrom 50 = .ok (.iload 6, 2) := by decide +kernel
theorem dX9_firstRopeFrom_52 : decode cX9_firstRopeFrom 52 = .ok (.iconst (-1), 1) := by decide +kernel
theorem dX9_firstRopeFrom_53 : decode cX9_firstRopeFrom 53 = .ok (.if_icmp .eq 17, 3) := by decide +kernel
theorem dX9_firstRopeFrom_56 : decode cX9_firstRopeFrom 56 = .ok (.iload 6, 2) := by decide +kernel
theorem dX9_firstRopeFrom_58 : decode cX9_firstRopeFrom 58 = .ok (.aload_n 0, 1) := by decide +kernel
theorem dX9_firstRopeFrom_59 : decode cX9_firstRopeFrom 59 = .ok (.iload_n 2, 1) := by decide +kernel
theorem dX9_firstRopeFrom_60 : decode cX9_firstRopeFrom 60 = .ok (.iload_n 3, 1) := by decide +kernel
theorem dX9_firstRopeFrom_61 : decode cX9_firstRopeFrom 61 = .ok (.invokevirtual 66, 3) := by decide +kernel
theorem dX9_firstRopeFrom_64 : decode cX9_firstRopeFrom 64 = .ok (.if_icmp .ne 6, 3) := by decide +kernel
theorem dX9_firstRopeFrom_67 : decode cX9_firstRopeFrom 67 = .ok (.iload 4, 2) := by decide +kernel
theorem dX9_firstRopeFrom_69 : decode cX9_firstRopeFrom 69 = .ok (.ireturn, 1) := by decide +kernel
theorem dX9_firstRopeFrom_70 : decode cX9_firstRopeFrom 70 = .ok (.iinc 4 1, 3) := by decide +kernel
theorem dX9_firstRopeFrom_73 : decode cX9_firstRopeFrom 73 = .ok (.goto (-70), 3) := by decide +kernel
theorem dX9_firstRopeFrom_76 : decode cX9_firstRopeFrom 76 = .ok (.iconst (-1), 1) := by decide +kernel
theorem dX9_firstRopeFrom_77 : decode cX9_firstRopeFrom 77 = .ok (.ireturn, 1) := by decide +kernel
theorem r_X9_firstRopeFrom_70 (E : kr_E) (k_3 : Int32 → kr_M → Option (Int32 × kr_M)) (l1 : Nat) (h_l1 : kr_sh l1 = (2, 0)) (l2 : Int32) (l3 : Int32) (l4 : Int32) (hk_3 : ∀ (x4 : Int32) (M : kr_M), kR kr_vi E Y_X9_firstRopeFrom 2 3 [(0, kr_r E 338), (1, kr_r E l1), (2, .int l2), (3, .int l3), (4, .int x4)] [] M (k_3 x4 M)) (M : kr_M) : kR kr_vi E Y_X9_firstRopeFrom 2 70 [(0, kr_r E 338), (1, kr_r E l1), (2, .int l2), (3, .int l3), (4, .int l4)] [] M (f_X9_firstRopeFrom_70 k_3 l4 M) := by
  rw [f_X9_firstRopeFrom_70]
  refine kr_iinc (j := 4) (v := (l4 + (1 : Int32))) (lv' := [(4, .int (l4 + (1 : Int32))), (0, kr_r E 338), (1, kr_r E l1), (2, .int l2), (3, .int l3)]) dX9_firstRopeFrom_70 rfl rfl (by decide) rfl ?_
  refine kr_goto (tgt := 3) dX9_firstRopeFrom_73 (by decide) ?_
  refine kr_sub [1, 2, 3, 4, 0] rfl ?_
  exact hk_3 (l4 + (1 : Int32)) M
theorem r_X9_firstRopeFrom_3 (E : kr_E)  (l1 : Nat) (h_l1 : kr_sh l1 = (2, 0)) (l2 : Int32) (l3 : Int32)  : ∀ (n : Nat) (l4 : Int32) (M : kr_M), kR kr_vi E Y_X9_firstRopeFrom 2 3 [(0, kr_r E 338), (1, kr_r E l1), (2, .int l2), (3, .int l3), (4, .int l4)] [] M (f_X9_firstRopeFrom_3 l1 l2 l3 n l4 M) := by
  intro n
  induction n with
  | zero => intro l4 M; exact kr_none
  | succ n ih =>
    intro l4 M
    rw [f_X9_firstRopeFrom_3]
    refine kr_iload dX9_firstRopeFrom_3 4 rfl ?_
    refine kr_aload_n dX9_firstRopeFrom_5 rfl 1 rfl ?_
    refine kr_getI (ci := 2) (j := 6) dX9_firstRopeFrom_6 h_l1 fl_RX9_24 rfl (fun v1 => ?_)
    refine kr_icmp_ge (tgt := 76) dX9_firstRopeFrom_9 (by decide) ?_ ?_
    · refine kr_iconst (v := -1) dX9_firstRopeFrom_76 (by decide) ?_
      exact kr_iret dX9_firstRopeFrom_77 rfl
    · refine kr_aload_n dX9_firstRopeFrom_12 rfl 1 rfl ?_
      refine kr_getA (o := 5) (ci := 2) (j := 14) dX9_firstRopeFrom_13 h_l1 fl_RX9_43 rfl ?_
      refine kr_iload dX9_firstRopeFrom_16 4 rfl ?_
      refine kr_aaldR dX9_firstRopeFrom_18 h_l1 (fun h2 => ?_)
      refine kr_iload_n dX9_firstRopeFrom_19 rfl 2 rfl ?_
      refine kr_Vi (As := [.int l2]) (st := []) zv_X5_otherEnd dX9_firstRopeFrom_20 ml_RX9_80 h2 (r_X5_otherEnd E (kr_rp l1 l4) h2 l2 M) rfl rfl (Nat.le_of_ble_eq_true rfl) rfl (by decide) (Nat.le_of_ble_eq_true rfl) (fun r4 M3 => ?_)
      refine kr_istore (lv' := [(5, .int r4), (0, kr_r E 338), (1, kr_r E l1), (2, .int l2), (3, .int l3), (4, .int l4)]) dX9_firstRopeFrom_23 (by decide) rfl ?_
      refine kr_iload dX9_firstRopeFrom_25 0 rfl ?_
      refine kr_iconst (v := -1) dX9_firstRopeFrom_27 (by decide) ?_
      refine kr_icmp_eq (tgt := 70) dX9_firstRopeFrom_28 (by decide) ?_ ?_
      · refine kr_sub [1, 2, 3, 4, 5] rfl ?_
        exact r_X9_firstRopeFrom_70 E _ l1 h_l1 l2 l3 l4 ih M3
      · refine kr_aload_n dX9_firstRopeFrom_31 rfl 1 rfl ?_
        refine kr_getA (o := 1) (ci := 9) (j := 0) dX9_firstRopeFrom_32 kr_at_338 fl_RX9_9 rfl ?_
        refine kr_iload dX9_firstRopeFrom_35 5 rfl ?_
        refine kr_iald dX9_firstRopeFrom_37 kr_at_339 (fun v5 => ?_)
        refine kr_aload_n dX9_firstRopeFrom_38 rfl 1 rfl ?_
        refine kr_iload dX9_firstRopeFrom_39 0 rfl ?_
        refine kr_iload_n dX9_firstRopeFrom_41 rfl 4 rfl ?_
        refine kr_Vi (As := [.int r4, .int l3]) (st := [.int v5]) zv_X9_timeFrom dX9_firstRopeFrom_42 ml_RX9_66 kr_at_338 (r_X9_timeFrom E r4 l3 M3) rfl rfl (Nat.le_of_ble_eq_true rfl) rfl (by decide) (Nat.le_of_ble_eq_true rfl) (fun r7 M6 => ?_)
        refine kr_Si (As := [.int v5, .int r7]) (st := []) zs_X9_together dX9_firstRopeFrom_45 ml_RX9_70 (r_X9_together E v5 r7 M6) rfl rfl (Nat.le_of_ble_eq_true rfl) rfl (by decide) (Nat.le_of_ble_eq_true rfl) (fun r9 M8 => ?_)
        refine kr_istore (lv' := [(6, .int r9), (5, .int r4), (0, kr_r E 338), (1, kr_r E l1), (2, .int l2), (3, .int l3), (4, .int l4)]) dX9_firstRopeFrom_48 (by decide) rfl ?_
        refine kr_iload dX9_firstRopeFrom_50 0 rfl ?_
        refine kr_iconst (v := -1) dX9_firstRopeFrom_52 (by decide) ?_
        refine kr_icmp_eq (tgt := 70) dX9_firstRopeFrom_53 (by decide) ?_ ?_
        · refine kr_sub [2, 3, 4, 5, 6] rfl ?_
          exact r_X9_firstRopeFrom_70 E _ l1 h_l1 l2 l3 l4 ih M8
        · refine kr_iload dX9_firstRopeFrom_56 0 rfl ?_
          refine kr_aload_n dX9_firstRopeFrom_58 rfl 2 rfl ?_
          refine kr_iload_n dX9_firstRopeFrom_59 rfl 4 rfl ?_
          refine kr_iload_n dX9_firstRopeFrom_60 rfl 5 rfl ?_
          refine kr_Vi (As := [.int l2, .int l3]) (st := [.int r9]) zv_X9_timeFrom dX9_firstRopeFrom_61 ml_RX9_66 kr_at_338 (r_X9_timeFrom E l2 l3 M8) rfl rfl (Nat.le_of_ble_eq_true rfl) rfl (by decide) (Nat.le_of_ble_eq_true rfl) (fun r11 M10 => ?_)
          refine kr_icmp_ne (tgt := 70) dX9_firstRopeFrom_64 (by decide) ?_ ?_
          · refine kr_sub [2, 3, 4, 5, 6] rfl ?_
            exact r_X9_firstRopeFrom_70 E _ l1 h_l1 l2 l3 l4 ih M10
          · refine kr_iload dX9_firstRopeFrom_67 6 rfl ?_
            exact kr_iret dX9_firstRopeFrom_69 rfl
theorem r_X9_firstRopeFrom (E : kr_E) (p1 : Nat) (h_p1 : kr_sh p1 = (2, 0)) (p2 : Int32) (p3 : Int32) (M : kr_M) : kR kr_vi E Y_X9_firstRopeFrom 2 0 [(0, kr_r E 338), (1, kr_r E p1), (2, .int p2), (3, .int p3)] [] M (f_X9_firstRopeFrom p1 p2 p3 M) := by
  rw [f_X9_firstRopeFrom]
  refine kr_iconst (v := 0) dX9_firstRopeFrom_0 (by decide) ?_
  refine kr_istore (lv' := [(4, .int (0 : Int32)), (0, kr_r E 338), (1, kr_r E p1), (2, .int p2), (3, .int p3)]) dX9_firstRopeFrom_1 (by decide) rfl ?_
  refine kr_sub [1, 2, 3, 4, 0] rfl ?_
  exact r_X9_firstRopeFrom_3 E p1 h_p1 p2 p3 _ (0 : Int32) M
theorem dX9_ropeOfFirst_0 : decode cX9_ropeOfFirst 0 = .ok (.iload_n 2, 1) := by decide +kernel
theorem dX9_ropeOfFirst_1 : decode cX9_ropeOfFirst 1 = .ok (.istore 5, 2) := by decide +kernel
theorem dX9_ropeOfFirst_3 : decode cX9_ropeOfFirst 3 = .ok (.iconst 0, 1) := by decide +kernel
theorem dX9_ropeOfFirst_4 : decode cX9_ropeOfFirst 4 = .ok (.istore 6, 2) := by decide +kernel
theorem dX9_ropeOfFirst_6 : decode cX9_ropeOfFirst 6 = .ok (.iload 6, 2) := by decide +kernel
theorem dX9_ropeOfFirst_8 : decode cX9_ropeOfFirst 8 = .ok (.bipush 6, 2) := by decide +kernel
theorem dX9_ropeOfFirst_10 : decode cX9_ropeOfFirst 10 = .ok (.if_icmp .ge 55, 3) := by decide +kernel
theorem dX9_ropeOfFirst_13 : decode cX9_ropeOfFirst 13 = .ok (.iload 5, 2) := by decide +kernel
theorem dX9_ropeOfFirst_15 : decode cX9_ropeOfFirst 15 = .ok (.iload_n 3, 1) := by decide +kernel
theorem dX9_ropeOfFirst_16 : decode cX9_ropeOfFirst 16 = .ok (.if_icmp .eq 49, 3) := by decide +kernel
theorem dX9_ropeOfFirst_19 : decode cX9_ropeOfFirst 19 = .ok (.aload_n 0, 1) := by decide +kernel
theorem dX9_ropeOfFirst_20 : decode cX9_ropeOfFirst 20 = .ok (.aload_n 1, 1) := by decide +kernel
theorem dX9_ropeOfFirst_21 : decode cX9_ropeOfFirst 21 = .ok (.iload 5, 2) := by decide +kernel
theorem dX9_ropeOfFirst_23 : decode cX9_ropeOfFirst 23 = .ok (.iload_n 3, 1) := by decide +kernel
theorem dX9_ropeOfFirst_24 : decode cX9_ropeOfFirst 24 = .ok (.invokevirtual 76, 3) := by decide +kernel
theorem dX9_ropeOfFirst_27 : decode cX9_ropeOfFirst 27 = .ok (.istore 7, 2) := by decide +kernel
theorem dX9_ropeOfFirst_29 : decode cX9_ropeOfFirst 29 = .ok (.iload 7, 2) := by decide +kernel
theorem dX9_ropeOfFirst_31 : decode cX9_ropeOfFirst 31 = .ok (.iconst (-1), 1) := by decide +kernel
theorem dX9_ropeOfFirst_32 : decode cX9_ropeOfFirst 32 = .ok (.if_icmp .eq 10, 3) := by decide +kernel
theorem dX9_ropeOfFirst_35 : decode cX9_ropeOfFirst 35 = .ok (.iload 6, 2) := by decide +kernel
theorem dX9_ropeOfFirst_37 : decode cX9_ropeOfFirst 37 = .ok (.iload 4, 2) := by decide +kernel
theorem dX9_ropeOfFirst_39 : decode cX9_ropeOfFirst 39 = .ok (.if_icmp .ne 6, 3) := by decide +kernel
theorem dX9_ropeOfFirst_42 : decode cX9_ropeOfFirst 42 = .ok (.iload 7, 2) := by decide +kernel
theorem dX9_ropeOfFirst_44 : decode cX9_ropeOfFirst 44 = .ok (.ireturn, 1) := by decide +kernel
theorem dX9_ropeOfFirst_45 : decode cX9_ropeOfFirst 45 = .ok (.aload_n 1, 1) := by decide +kernel
theorem dX9_ropeOfFirst_46 : decode cX9_ropeOfFirst 46 = .ok (.getfield 43, 3) := by decide +kernel
theorem dX9_ropeOfFirst_49 : decode cX9_ropeOfFirst 49 = .ok (.iload 7, 2) := by decide +kernel
theorem dX9_ropeOfFirst_51 : decode cX9_ropeOfFirst 51 = .ok (.aaload, 1) := by decide +kernel
theorem dX9_ropeOfFirst_52 : decode cX9_ropeOfFirst 52 = .ok (.iload 5, 2) := by decide +kernel
theorem dX9_ropeOfFirst_54 : decode cX9_ropeOfFirst 54 = .ok (.invokevirtual 80, 3) := by decide +kernel
theorem dX9_ropeOfFirst_57 : decode cX9_ropeOfFirst 57 = .ok (.istore 5, 2) := by decide +kernel
theorem dX9_ropeOfFirst_59 : decode cX9_ropeOfFirst 59 = .ok (.iinc 6 1, 3) := by decide +kernel
theorem dX9_ropeOfFirst_62 : decode cX9_ropeOfFirst 62 = .ok (.goto (-56), 3) := by decide +kernel
theorem dX9_ropeOfFirst_65 : decode cX9_ropeOfFirst 65 = .ok (.iconst (-1), 1) := by decide +kernel
theorem dX9_ropeOfFirst_66 : decode cX9_ropeOfFirst 66 = .ok (.ireturn, 1) := by decide +kernel
theorem r_X9_ropeOfFirst_6 (E : kr_E)  (l1 : Nat) (h_l1 : kr_sh l1 = (2, 0)) (l3 : Int32) (l4 : Int32)  : ∀ (n : Nat) (l5 : Int32) (l6 : Int32) (M : kr_M), kR kr_vi E Y_X9_ropeOfFirst 3 6 [(0, kr_r E 338), (1, kr_r E l1), (3, .int l3), (4, .int l4), (5, .int l5), (6, .int l6)] [] M (f_X9_ropeOfFirst_6 l1 l3 l4 n l5 l6 M) := by
  intro n
  induction n with
  | zero => intro l5 l6 M; exact kr_none
  | succ n ih =>
    intro l5 l6 M
    rw [f_X9_ropeOfFirst_6]
    refine kr_iload dX9_ropeOfFirst_6 5 rfl ?_
    refine kr_bipush (v := 6) dX9_ropeOfFirst_8 (by decide) ?_
    refine kr_icmp_ge (tgt := 65) dX9_ropeOfFirst_10 (by decide) ?_ ?_
    · refine kr_iconst (v := -1) dX9_ropeOfFirst_65 (by decide) ?_
      exact kr_iret dX9_ropeOfFirst_66 rfl
    · refine kr_iload dX9_ropeOfFirst_13 4 rfl ?_
      refine kr_iload_n dX9_ropeOfFirst_15 rfl 2 rfl ?_
      refine kr_icmp_eq (tgt := 65) dX9_ropeOfFirst_16 (by decide) ?_ ?_
      · refine kr_iconst (v := -1) dX9_ropeOfFirst_65 (by decide) ?_
        exact kr_iret dX9_ropeOfFirst_66 rfl
      · refine kr_aload_n dX9_ropeOfFirst_19 rfl 0 rfl ?_
        refine kr_aload_n dX9_ropeOfFirst_20 rfl 1 rfl ?_
        refine kr_iload dX9_ropeOfFirst_21 4 rfl ?_
        refine kr_iload_n dX9_ropeOfFirst_23 rfl 2 rfl ?_
        refine kr_Vi (As := [kr_r E l1, .int l5, .int l3]) (st := []) zv_X9_firstRopeFrom dX9_ropeOfFirst_24 ml_RX9_76 kr_at_338 (r_X9_firstRopeFrom E l1 h_l1 l5 l3 M) rfl rfl (Nat.le_of_ble_eq_true rfl) rfl (by decide) (Nat.le_of_ble_eq_true rfl) (fun r2 M1 => ?_)
        refine kr_istore (lv' := [(7, .int r2), (0, kr_r E 338), (1, kr_r E l1), (3, .int l3), (4, .int l4), (5, .int l5), (6, .int l6)]) dX9_ropeOfFirst_27 (by decide) rfl ?_
        refine kr_iload dX9_ropeOfFirst_29 0 rfl ?_
        refine kr_iconst (v := -1) dX9_ropeOfFirst_31 (by decide) ?_
        refine kr_icmp_eq (tgt := 42) dX9_ropeOfFirst_32 (by decide) ?_ ?_
        · refine kr_iload dX9_ropeOfFirst_42 0 rfl ?_
          exact kr_iret dX9_ropeOfFirst_44 rfl
        · refine kr_iload dX9_ropeOfFirst_35 6 rfl ?_
          refine kr_iload dX9_ropeOfFirst_37 4 rfl ?_
          refine kr_icmp_ne (tgt := 45) dX9_ropeOfFirst_39 (by decide) ?_ ?_
          · refine kr_aload_n dX9_ropeOfFirst_45 rfl 2 rfl ?_
            refine kr_getA (o := 5) (ci := 2) (j := 14) dX9_ropeOfFirst_46 h_l1 fl_RX9_43 rfl ?_
            refine kr_iload dX9_ropeOfFirst_49 0 rfl ?_
            refine kr_aaldR dX9_ropeOfFirst_51 h_l1 (fun h3 => ?_)
            refine kr_iload dX9_ropeOfFirst_52 5 rfl ?_
            refine kr_Vi (As := [.int l5]) (st := []) zv_X5_otherEnd dX9_ropeOfFirst_54 ml_RX9_80 h3 (r_X5_otherEnd E (kr_rp l1 r2) h3 l5 M1) rfl rfl (Nat.le_of_ble_eq_true rfl) rfl (by decide) (Nat.le_of_ble_eq_true rfl) (fun r5 M4 => ?_)
            refine kr_istore (lv' := [(5, .int r5), (7, .int r2), (0, kr_r E 338), (1, kr_r E l1), (3, .int l3), (4, .int l4), (6, .int l6)]) dX9_ropeOfFirst_57 (by decide) rfl ?_
            refine kr_iinc (j := 6) (v := (l6 + (1 : Int32))) (lv' := [(6, .int (l6 + (1 : Int32))), (5, .int r5), (7, .int r2), (0, kr_r E 338), (1, kr_r E l1), (3, .int l3), (4, .int l4)]) dX9_ropeOfFirst_59 rfl rfl (by decide) rfl ?_
            refine kr_goto (tgt := 6) dX9_ropeOfFirst_62 (by decide) ?_
            refine kr_sub [3, 4, 5, 6, 1, 0] rfl ?_
            exact ih r5 (l6 + (1 : Int32)) M4
          · refine kr_iload dX9_ropeOfFirst_42 0 rfl ?_
            exact kr_iret dX9_ropeOfFirst_44 rfl
theorem r_X9_ropeOfFirst (E : kr_E) (p1 : Nat) (h_p1 : kr_sh p1 = (2, 0)) (p2 : Int32) (p3 : Int32) (p4 : Int32) (M : kr_M) : kR kr_vi E Y_X9_ropeOfFirst 3 0 [(0, kr_r E 338), (1, kr_r E p1), (2, .int p2), (3, .int p3), (4, .int p4)] [] M (f_X9_ropeOfFirst p1 p2 p3 p4 M) := by
  rw [f_X9_ropeOfFirst]
  refine kr_iload_n dX9_ropeOfFirst_0 rfl 2 rfl ?_
  refine kr_istore (lv' := [(5, .int p2), (0, kr_r E 338), (1, kr_r E p1), (2, .int p2), (3, .int p3), (4, .int p4)]) dX9_ropeOfFirst_1 (by decide) rfl ?_
  refine kr_iconst (v := 0) dX9_ropeOfFirst_3 (by decide) ?_
  refine kr_istore (lv' := [(6, .int (0 : Int32)), (5, .int p2), (0, kr_r E 338), (1, kr_r E p1), (2, .int p2), (3, .int p3), (4, .int p4)]) dX9_ropeOfFirst_4 (by decide) rfl ?_
  refine kr_sub [2, 3, 5, 6, 1, 0] rfl ?_
  exact r_X9_ropeOfFirst_6 E p1 h_p1 p3 p4 _ p2 (0 : Int32) M
theorem dX9_ropesOnAll_0 : decode cX9_ropesOnAll 0 = .ok (.aload_n 0, 1) := by decide +kernel
theorem dX9_ropesOnAll_1 : decode cX9_ropesOnAll 1 = .ok (.iload_n 3, 1) := by decide +kernel
theorem dX9_ropesOnAll_2 : decode cX9_ropesOnAll 2 = .ok (.iload 4, 2) := by decide +kernel
theorem dX9_ropesOnAll_4 : decode cX9_ropesOnAll 4 = .ok (.invokevirtual 66, 3) := by decide +kernel
theorem dX9_ropesOnAll_7 : decode cX9_ropesOnAll 7 = .ok (.iconst (-1), 1) := by decide +kernel
theorem dX9_ropesOnAll_8 : decode cX9_ropesOnAll 8 = .ok (.if_icmp .ne 5, 3) := by decide +kernel
theorem dX9_ropesOnAll_11 : decode cX9_ropesOnAll 11 = .ok (.iconst 0, 1) := by decide +kernel
theorem dX9_ropesOnAll_12 : decode cX9_ropesOnAll 12 = .ok (.ireturn, 1) := by decide +kernel
theorem dX9_ropesOnAll_13 : decode cX9_ropesOnAll 13 = .ok (.iconst 0, 1) := by decide +kernel
theorem dX9_ropesOnAll_14 : decode cX9_ropesOnAll 14 = .ok (.istore 5, 2) := by decide +kernel
theorem dX9_ropesOnAll_16 : decode cX9_ropesOnAll 16 = .ok (.iconst 0, 1) := by decide +kernel
theorem dX9_ropesOnAll_17 : decode cX9_ropesOnAll 17 = .ok (.istore 6, 2) := by decide +kernel
theorem dX9_ropesOnAll_19 : decode cX9_ropesOnAll 19 = .ok (.iload 6, 2) := by decide +kernel
theorem dX9_ropesOnAll_21 : decode cX9_ropesOnAll 21 = .ok (.aload_n 1, 1) := by decide +kernel
theorem dX9_ropesOnAll_22 : decode cX9_ropesOnAll 22 = .ok (.getfield 24, 3) := by decide +kernel
theorem dX9_ropesOnAll_25 : decode cX9_ropesOnAll 25 = .ok (.if_icmp .ge 37, 3) := by decide +kernel
theorem dX9_ropesOnAll_28 : decode cX9_ropesOnAll 28 = .ok (.aload_n 0, 1) := by decide +kernel
theorem dX9_ropesOnAll_29 : decode cX9_ropesOnAll 29 = .ok (.aload_n 1, 1) := by decide +kernel
theorem dX9_ropesOnAll_30 : decode cX9_ropesOnAll 30 = .ok (.iload_n 2, 1) := by decide +kernel
theorem dX9_ropesOnAll_31 : decode cX9_ropesOnAll 31 = .ok (.iload 6, 2) := by decide +kernel
theorem dX9_ropesOnAll_33 : decode cX9_ropesOnAll 33 = .ok (.invokevirtual 83, 3) := by decide +kernel
theorem dX9_ropesOnAll_36 : decode cX9_ropesOnAll 36 = .ok (.aload_n 0, 1) := by decide +kernel
theorem dX9_ropesOnAll_37 : decode cX9_ropesOnAll 37 = .ok (.iload_n 3, 1) := by decide +kernel
theorem dX9_ropesOnAll_38 : decode cX9_ropesOnAll 38 = .ok (.iload 4, 2) := by decide +kernel
theorem dX9_ropesOnAll_40 : decode cX9_ropesOnAll 40 = .ok (.invokevirtual 66, 3) := by decide +kernel
theorem dX9_ropesOnAll_43 : decode cX9_ropesOnAll 43 = .ok (.iconst (-1), 1) := by decide +kernel
theorem dX9_ropesOnAll_44 : decode cX9_ropesOnAll 44 = .ok (.if_icmp .ne 12, 3) := by decide +kernel
theorem dX9_ropesOnAll_47 : decode cX9_ropesOnAll 47 = .ok (.iload 5, 2) := by decide +kernel
theorem dX9_ropesOnAll_49 : decode cX9_ropesOnAll 49 = .ok (.iconst 1, 1) := by decide +kernel
theorem dX9_ropesOnAll_50 : decode cX9_ropesOnAll 50 = .ok (.iload 6, 2) := by decide +kernel
theorem dX9_ropesOnAll_52 : decode cX9_ropesOnAll 52 = .ok (.ishl, 1) := by decide +kernel
theorem dX9_ropesOnAll_53 : decode cX9_ropesOnAll 53 = .ok (.ior, 1) := by decide +kernel
theorem dX9_ropesOnAll_54 : decode cX9_ropesOnAll 54 = .ok (.istore 5, 2) := by decide +kernel
theorem dX9_ropesOnAll_56 : decode cX9_ropesOnAll 56 = .ok (.iinc 6 1, 3) := by decide +kernel
theorem dX9_ropesOnAll_59 : decode cX9_ropesOnAll 59 = .ok (.goto (-40), 3) := by decide +kernel
theorem dX9_ropesOnAll_62 : decode cX9_ropesOnAll 62 = .ok (.iload 5, 2) := by decide +kernel
theorem dX9_ropesOnAll_64 : decode cX9_ropesOnAll 64 = .ok (.ireturn, 1) := by decide +kernel
theorem r_X9_ropesOnAll_56 (E : kr_E) (k_19 : Int32 → Int32 → kr_M → Option (Int32 × kr_M)) (l1 : Nat) (h_l1 : kr_sh l1 = (2, 0)) (l2 : Int32) (l3 : Int32) (l4 : Int32) (l5 : Int32) (l6 : Int32) (hk_19 : ∀ (x5 : Int32) (x6 : Int32) (M : kr_M), kR kr_vi E Y_X9_ropesOnAll 6 19 [(0, kr_r E 338), (1, kr_r E l1), (2, .int l2), (3, .int l3), (4, .int l4), (5, .int x5), (6, .int x6)] [] M (k_19 x5 x6 M)) (M : kr_M) : kR kr_vi E Y_X9_ropesOnAll 6 56 [(0, kr_r E 338), (1, kr_r E l1), (2, .int l2), (3, .int l3), (4, .int l4), (5, .int l5), (6, .int l6)] [] M (f_X9_ropesOnAll_56 k_19 l5 l6 M) := by
  rw [f_X9_ropesOnAll_56]
  refine kr_iinc (j := 6) (v := (l6 + (1 : Int32))) (lv' := [(6, .int (l6 + (1 : Int32))), (0, kr_r E 338), (1, kr_r E l1), (2, .int l2), (3, .int l3), (4, .int l4), (5, .int l5)]) dX9_ropesOnAll_56 rfl rfl (by decide) rfl ?_
  refine kr_goto (tgt := 19) dX9_ropesOnAll_59 (by decide) ?_
  refine kr_sub [1, 2, 3, 4, 5, 6, 0] rfl ?_
  exact hk_19 l5 (l6 + (1 : Int32)) M
theorem r_X9_ropesOnAll_19 (E : kr_E)  (l1 : Nat) (h_l1 : kr_sh l1 = (2, 0)) (l2 : Int32) (l3 : Int32) (l4 : Int32)  : ∀ (n : Nat) (l5 : Int32) (l6 : Int32) (M : kr_M), kR kr_vi E Y_X9_ropesOnAll 6 19 [(0, kr_r E 338), (1, kr_r E l1), (2, .int l2), (3, .int l3), (4, .int l4), (5, .int l5), (6, .int l6)] [] M (f_X9_ropesOnAll_19 l1 l2 l3 l4 n l5 l6 M) := by
  intro n
  induction n with
  | zero => intro l5 l6 M; exact kr_none
  | succ n ih =>
    intro l5 l6 M
    rw [f_X9_ropesOnAll_19]
    refine kr_iload dX9_ropesOnAll_19 6 rfl ?_
    refine kr_aload_n dX9_ropesOnAll_21 rfl 1 rfl ?_
    refine kr_getI (ci := 2) (j := 6) dX9_ropesOnAll_22 h_l1 fl_RX9_24 rfl (fun v1 => ?_)
    refine kr_icmp_ge (tgt := 62) dX9_ropesOnAll_25 (by decide) ?_ ?_
    · refine kr_iload dX9_ropesOnAll_62 5 rfl ?_
      exact kr_iret dX9_ropesOnAll_64 rfl
    · refine kr_aload_n dX9_ropesOnAll_28 rfl 0 rfl ?_
      refine kr_aload_n dX9_ropesOnAll_29 rfl 1 rfl ?_
      refine kr_iload_n dX9_ropesOnAll_30 rfl 2 rfl ?_
      refine kr_iload dX9_ropesOnAll_31 6 rfl ?_
      refine kr_Vv (As := [kr_r E l1, .int l2, .int l6]) (st := []) zv_X9_study dX9_ropesOnAll_33 ml_RX9_83 kr_at_338 (r_X9_study E l1 h_l1 l2 l6 M) rfl rfl (Nat.le_of_ble_eq_true rfl) rfl (by decide) (Nat.le_of_ble_eq_true rfl) (fun M2 => ?_)
      refine kr_aload_n dX9_ropesOnAll_36 rfl 0 rfl ?_
      refine kr_iload_n dX9_ropesOnAll_37 rfl 3 rfl ?_
      refine kr_iload dX9_ropesOnAll_38 4 rfl ?_
      refine kr_Vi (As := [.int l3, .int l4]) (st := []) zv_X9_timeFrom dX9_ropesOnAll_40 ml_RX9_66 kr_at_338 (r_X9_timeFrom E l3 l4 M2) rfl rfl (Nat.le_of_ble_eq_true rfl) rfl (by decide) (Nat.le_of_ble_eq_true rfl) (fun r5 M4 => ?_)
      refine kr_iconst (v := -1) dX9_ropesOnAll_43 (by decide) ?_
      refine kr_icmp_ne (tgt := 56) dX9_ropesOnAll_44 (by decide) ?_ ?_
      · refine kr_sub [0, 1, 2, 3, 4, 5, 6] rfl ?_
        exact r_X9_ropesOnAll_56 E _ l1 h_l1 l2 l3 l4 l5 l6 ih M4
      · refine kr_iload dX9_ropesOnAll_47 5 rfl ?_
        refine kr_iconst (v := 1) dX9_ropesOnAll_49 (by decide) ?_
        refine kr_iload dX9_ropesOnAll_50 6 rfl ?_
        refine kr_ishl dX9_ropesOnAll_52 ?_
        refine kr_ior dX9_ropesOnAll_53 ?_
        refine kr_nmi (fun v6 => ?_)
        refine kr_istore (lv' := [(5, .int v6), (0, kr_r E 338), (1, kr_r E l1), (2, .int l2), (3, .int l3), (4, .int l4), (6, .int l6)]) dX9_ropesOnAll_54 (by decide) rfl ?_
        refine kr_sub [1, 2, 3, 4, 5, 0, 6] rfl ?_
        exact r_X9_ropesOnAll_56 E _ l1 h_l1 l2 l3 l4 v6 l6 ih M4
theorem r_X9_ropesOnAll (E : kr_E) (p1 : Nat) (h_p1 : kr_sh p1 = (2, 0)) (p2 : Int32) (p3 : Int32) (p4 : Int32) (M : kr_M) : kR kr_vi E Y_X9_ropesOnAll 6 0 [(0, kr_r E 338), (1, kr_r E p1), (2, .int p2), (3, .int p3), (4, .int p4)] [] M (f_X9_ropesOnAll p1 p2 p3 p4 M) := by
  rw [f_X9_ropesOnAll]
  refine kr_aload_n dX9_ropesOnAll_0 rfl 0 rfl ?_
  refine kr_iload_n dX9_ropesOnAll_1 rfl 3 rfl ?_
  refine kr_iload dX9_ropesOnAll_2 4 rfl ?_
  refine kr_Vi (As := [.int p3, .int p4]) (st := []) zv_X9_timeFrom dX9_ropesOnAll_4 ml_RX9_66 kr_at_338 (r_X9_timeFrom E p3 p4 M) rfl rfl (Nat.le_of_ble_eq_true rfl) rfl (by decide) (Nat.le_of_ble_eq_true rfl) (fun r2 M1 => ?_)
  refine kr_iconst (v := -1) dX9_ropesOnAll_7 (by decide) ?_
  refine kr_icmp_ne (tgt := 13) dX9_ropesOnAll_8 (by decide) ?_ ?_
  · refine kr_iconst (v := 0) dX9_ropesOnAll_13 (by decide) ?_
    refine kr_istore (lv' := [(5, .int (0 : Int32)), (0, kr_r E 338), (1, kr_r E p1), (2, .int p2), (3, .int p3), (4, .int p4)]) dX9_ropesOnAll_14 (by decide) rfl ?_
    refine kr_iconst (v := 0) dX9_ropesOnAll_16 (by decide) ?_
    refine kr_istore (lv' := [(6, .int (0 : Int32)), (5, .int (0 : Int32)), (0, kr_r E 338), (1, kr_r E p1), (2, .int p2), (3, .int p3), (4, .int p4)]) dX9_ropesOnAll_17 (by decide) rfl ?_
    refine kr_sub [2, 3, 4, 5, 6, 1, 0] rfl ?_
    exact r_X9_ropesOnAll_19 E p1 h_p1 p2 p3 p4 _ (0 : Int32) (0 : Int32) M1
  · refine kr_iconst (v := 0) dX9_ropesOnAll_11 (by decide) ?_
    exact kr_iret dX9_ropesOnAll_12 rfl
theorem dX10_inchesBy_0 : decode cX10_inchesBy 0 = .ok (.iload_n 2, 1) := by decide +kernel
theorem dX10_inchesBy_1 : decode cX10_inchesBy 1 = .ok (.aload_n 1, 1) := by decide +kernel
theorem dX10_inchesBy_2 : decode cX10_inchesBy 2 = .ok (.getfield 53, 3) := by decide +kernel
theorem dX10_inchesBy_5 : decode cX10_inchesBy 5 = .ok (.iload_n 3, 1) := by decide +kernel
theorem dX10_inchesBy_6 : decode cX10_inchesBy 6 = .ok (.iaload, 1) := by decide +kernel
theorem dX10_inchesBy_7 : decode cX10_inchesBy 7 = .ok (.isub, 1) := by decide +kernel
theorem dX10_inchesBy_8 : decode cX10_inchesBy 8 = .ok (.istore 4, 2) := by decide +kernel
theorem dX10_inchesBy_10 : decode cX10_inchesBy 10 = .ok (.aload_n 0, 1) := by decide +kernel
theorem dX10_inchesBy_11 : decode cX10_inchesBy 11 = .ok (.getfield 9, 3) := by decide +kernel
theorem dX10_inchesBy_14 : decode cX10_inchesBy 14 = .ok (.iload_n 3, 1) := by decide +kernel
theorem dX10_inchesBy_15 : decode cX10_inchesBy 15 = .ok (.iaload, 1) := by decide +kernel
theorem dX10_inchesBy_16 : decode cX10_inchesBy 16 = .ok (.iconst (-1), 1) := by decide +kernel
theorem dX10_inchesBy_17 : decode cX10_inchesBy 17 = .ok (.if_icmp .eq 19, 3) := by decide +kernel
theorem dX10_inchesBy_20 : decode cX10_inchesBy 20 = .ok (.iload 4, 2) := by decide +kernel
theorem dX10_inchesBy_22 : decode cX10_inchesBy 22 = .ok (.ifCond .lt 14, 3) := by decide +kernel
theorem dX10_inchesBy_25 : decode cX10_inchesBy 25 = .ok (.aload_n 0, 1) := by decide +kernel
theorem dX10_inchesBy_26 : decode cX10_inchesBy 26 = .ok (.getfield 15, 3) := by decide +kernel
theorem dX10_inchesBy_29 : decode cX10_inchesBy 29 = .ok (.iload 4, 2) := by decide +kernel
theorem dX10_inchesBy_31 : decode cX10_inchesBy 31 = .ok (.iaload, 1) := by decide +kernel
theorem dX10_inchesBy_32 : decode cX10_inchesBy 32 = .ok (.iconst (-1), 1) := by decide +kernel
theorem dX10_inchesBy_33 : decode cX10_inchesBy 33 = .ok (.if_icmp .ne 5, 3) := by decide +kernel
theorem dX10_inchesBy_36 : decode cX10_inchesBy 36 = .ok (.iconst (-1), 1) := by decide +kernel
theorem dX10_inchesBy_37 : decode cX10_inchesBy 37 = .ok (.ireturn, 1) := by decide +kernel
theorem dX10_inchesBy_38 : decode cX10_inchesBy 38 = .ok (.aload_n 0, 1) := by decide +kernel
theorem dX10_inchesBy_39 : decode cX10_inchesBy 39 = .ok (.getfield 15, 3) := by decide +kernel
theorem dX10_inchesBy_42 : decode cX10_inchesBy 42 = .ok (.iload 4, 2) := by decide +kernel
theorem dX10_inchesBy_44 : decode cX10_inchesBy 44 = .ok (.iaload, 1) := by decide +kernel
theorem dX10_inchesBy_45 : decode cX10_inchesBy 45 = .ok (.aload_n 0, 1) := by decide +kernel
theorem dX10_inchesBy_46 : decode cX10_inchesBy 46 = .ok (.getfield 9, 3) := by decide +kernel
theorem dX10_inchesBy_49 : decode cX10_inchesBy 49 = .ok (.iload_n 3, 1) := by decide +kernel
theorem dX10_inchesBy_50 : decode cX10_inchesBy 50 = .ok (.iaload, 1) := by decide +kernel
theorem dX10_inchesBy_51 : decode cX10_inchesBy 51 = .ok (.iadd, 1) := by decide +kernel
theorem dX10_inchesBy_52 : decode cX10_inchesBy 52 = .ok (.ireturn, 1) := by decide +kernel
theorem r_X10_inchesBy (E : kr_E) (p1 : Nat) (h_p1 : kr_sh p1 = (2, 0)) (p2 : Int32) (p3 : Int32) (M : kr_M) : kR kr_vi E Y_X10_inchesBy 1 0 [(0, kr_r E 327), (1, kr_r E p1), (2, .int p2), (3, .int p3)] [] M (f_X10_inchesBy p1 p2 p3 M) := by
  rw [f_X10_inchesBy]
  refine kr_iload_n dX10_inchesBy_0 rfl 2 rfl ?_
  refine kr_aload_n dX10_inchesBy_1 rfl 1 rfl ?_
  refine kr_getA (o := 4) (ci := 2) (j := 13) dX10_inchesBy_2 h_p1 fl_RX10_53 rfl ?_
  refine kr_iload_n dX10_inchesBy_5 rfl 3 rfl ?_
  refine kr_iald dX10_inchesBy_6 (kr_shG4 _ h_p1) (fun v1 => ?_)
  refine kr_isub dX10_inchesBy_7 ?_
  refine kr_nmi (fun v2 => ?_)
  refine kr_istore (lv' := [(4, .int v2), (0, kr_r E 327), (1, kr_r E p1), (2, .int p2), (3, .int p3)]) dX10_inchesBy_8 (by decide) rfl ?_
  refine kr_aload_n dX10_inchesBy_10 rfl 1 rfl ?_
  refine kr_getA (o := 1) (ci := 10) (j := 0) dX10_inchesBy_11 kr_at_327 fl_RX10_9 rfl ?_
  refine kr_iload_n dX10_inchesBy_14 rfl 4 rfl ?_
  refine kr_iald dX10_inchesBy_15 kr_at_328 (fun v3 => ?_)
  refine kr_iconst (v := -1) dX10_inchesBy_16 (by decide) ?_
  refine kr_icmp_eq (tgt := 36) dX10_inchesBy_17 (by decide) ?_ ?_
  · refine kr_iconst (v := -1) dX10_inchesBy_36 (by decide) ?_
    exact kr_iret dX10_inchesBy_37 rfl
  · refine kr_iload dX10_inchesBy_20 0 rfl ?_
    refine kr_if_lt (tgt := 36) dX10_inchesBy_22 (by decide) ?_ ?_
    · refine kr_iconst (v := -1) dX10_inchesBy_36 (by decide) ?_
      exact kr_iret dX10_inchesBy_37 rfl
    · refine kr_aload_n dX10_inchesBy_25 rfl 1 rfl ?_
      refine kr_getA (o := 2) (ci := 10) (j := 1) dX10_inchesBy_26 kr_at_327 fl_RX10_15 rfl ?_
      refine kr_iload dX10_inchesBy_29 0 rfl ?_
      refine kr_iald dX10_inchesBy_31 kr_at_329 (fun v4 => ?_)
      refine kr_iconst (v := -1) dX10_inchesBy_32 (by decide) ?_
      refine kr_icmp_ne (tgt := 38) dX10_inchesBy_33 (by decide) ?_ ?_
      · refine kr_aload_n dX10_inchesBy_38 rfl 1 rfl ?_
        refine kr_getA (o := 2) (ci := 10) (j := 1) dX10_inchesBy_39 kr_at_327 fl_RX10_15 rfl ?_
        refine kr_iload dX10_inchesBy_42 0 rfl ?_
        refine kr_iald dX10_inchesBy_44 kr_at_329 (fun v5 => ?_)
        refine kr_aload_n dX10_inchesBy_45 rfl 1 rfl ?_
        refine kr_getA (o := 1) (ci := 10) (j := 0) dX10_inchesBy_46 kr_at_327 fl_RX10_9 rfl ?_
        refine kr_iload_n dX10_inchesBy_49 rfl 4 rfl ?_
        refine kr_iald dX10_inchesBy_50 kr_at_328 (fun v6 => ?_)
        refine kr_iadd dX10_inchesBy_51 ?_
        exact kr_iret dX10_inchesBy_52 rfl
      · refine kr_iconst (v := -1) dX10_inchesBy_36 (by decide) ?_
        exact kr_iret dX10_inchesBy_37 rfl
theorem dX10_inchesTaken_0 : decode cX10_inchesTaken 0 = .ok (.aload_n 1, 1) := by decide +kernel
theorem dX10_inchesTaken_1 : decode cX10_inchesTaken 1 = .ok (.getfield 35, 3) := by decide +kernel
theorem dX10_inchesTaken_4 : decode cX10_inchesTaken 4 = .ok (.iload_n 2, 1) := by decide +kernel
theorem dX10_inchesTaken_5 : decode cX10_inchesTaken 5 = .ok (.aaload, 1) := by decide +kernel
theorem dX10_inchesTaken_6 : decode cX10_inchesTaken 6 = .ok (.astore 4, 2) := by decide +kernel
theorem dX10_inchesTaken_8 : decode cX10_inchesTaken 8 = .ok (.aload 4, 2) := by decide +kernel
theorem dX10_inchesTaken_10 : decode cX10_inchesTaken 10 = .ok (.getfield 39, 3) := by decide +kernel
theorem dX10_inchesTaken_13 : decode cX10_inchesTaken 13 = .ok (.istore 5, 2) := by decide +kernel
theorem dX10_inchesTaken_15 : decode cX10_inchesTaken 15 = .ok (.iconst 0, 1) := by decide +kernel
theorem dX10_inchesTaken_16 : decode cX10_inchesTaken 16 = .ok (.istore 6, 2) := by decide +kernel
theorem dX10_inchesTaken_18 : decode cX10_inchesTaken 18 = .ok (.iload 6, 2) := by decide +kernel
theorem dX10_inchesTaken_20 : decode cX10_inchesTaken 20 = .ok (.aload 4, 2) := by decide +kernel
theorem dX10_inchesTaken_22 : decode cX10_inchesTaken 22 = .ok (.getfield 39, 3) := by decide +kernel
theorem dX10_inchesTaken_25 : decode cX10_inchesTaken 25 = .ok (.if_icmp .ge 46, 3) := by decide +kernel
theorem dX10_inchesTaken_28 : decode cX10_inchesTaken 28 = .ok (.aload_n 1, 1) := by decide +kernel
theorem dX10_inchesTaken_29 : decode cX10_inchesTaken 29 = .ok (.getfield 44, 3) := by decide +kernel
theorem dX10_inchesTaken_32 : decode cX10_inchesTaken 32 = .ok (.aload 4, 2) := by decide +kernel
theorem dX10_inchesTaken_34 : decode cX10_inchesTaken 34 = .ok (.getfield 47, 3) := by decide +kernel
theorem dX10_inchesTaken_37 : decode cX10_inchesTaken 37 = .ok (.iload 6, 2) := by decide +kernel
theorem dX10_inchesTaken_39 : decode cX10_inchesTaken 39 = .ok (.iaload, 1) := by decide +kernel
theorem dX10_inchesTaken_40 : decode cX10_inchesTaken 40 = .ok (.iaload, 1) := by decide +kernel
theorem dX10_inchesTaken_41 : decode cX10_inchesTaken 41 = .ok (.iload_n 3, 1) := by decide +kernel
theorem dX10_inchesTaken_42 : decode cX10_inchesTaken 42 = .ok (.if_icmp .le 5, 3) := by decide +kernel
theorem dX10_inchesTaken_45 : decode cX10_inchesTaken 45 = .ok (.iconst (-1), 1) := by decide +kernel
theorem dX10_inchesTaken_46 : decode cX10_inchesTaken 46 = .ok (.ireturn, 1) := by decide +kernel
theorem dX10_inchesTaken_47 : decode cX10_inchesTaken 47 = .ok (.iload 5, 2) := by decide +kernel
theorem dX10_inchesTaken_49 : decode cX10_inchesTaken 49 = .ok (.aload_n 1, 1) := by decide +kernel
theorem dX10_inchesTaken_50 : decode cX10_inchesTaken 50 = .ok (.getfield 50, 3) := by decide +kernel
theorem dX10_inchesTaken_53 : decode cX10_inchesTaken 53 = .ok (.aload 4, 2) := by decide +kernel
theorem dX10_inchesTaken_55 : decode cX10_inchesTaken 55 = .ok (.getfield 47, 3) := by decide +kernel
theorem dX10_inchesTaken_58 : decode cX10_inchesTaken 58 = .ok (.iload 6, 2) := by decide +kernel
theorem dX10_inchesTaken_60 : decode cX10_inchesTaken 60 = .ok (.iaload, 1) := by decide +kernel
theorem dX10_inchesTaken_61 : decode cX10_inchesTaken 61 = .ok (.iaload, 1) := by decide +kernel
theorem dX10_inchesTaken_62 : decode cX10_inchesTaken 62 = .ok (.iadd, 1) := by decide +kernel
theorem dX10_inchesTaken_63 : decode cX10_inchesTaken 63 = .ok (.istore 5, 2) := by decide +kernel
theorem dX10_inchesTaken_65 : decode cX10_inchesTaken 65 = .ok (.iinc 6 1, 3) := by decide +kernel
theorem dX10_inchesTaken_68 : decode cX10_inchesTaken 68 = .ok (.goto (-50), 3) := by decide +kernel
theorem dX10_inchesTaken_71 : decode cX10_inchesTaken 71 = .ok (.aload_n 1, 1) := by decide +kernel
theorem dX10_inchesTaken_72 : decode cX10_inchesTaken 72 = .ok (.getfield 53, 3) := by decide +kernel
theorem dX10_inchesTaken_75 : decode cX10_inchesTaken 75 = .ok (.iload_n 2, 1) := by decide +kernel
theorem dX10_inchesTaken_76 : decode cX10_inchesTaken 76 = .ok (.iaload, 1) := by decide +kernel
theorem dX10_inchesTaken_77 : decode cX10_inchesTaken 77 = .ok (.ifCond .ne 7, 3) := by decide +kernel
theorem dX10_inchesTaken_80 : decode cX10_inchesTaken 80 = .ok (.iconst (-1), 1) := by decide +kernel
theorem dX10_inchesTaken_81 : decode cX10_inchesTaken 81 = .ok (.goto 5, 3) := by decide +kernel
theorem dX10_inchesTaken_84 : decode cX10_inchesTaken 84 = .ok (.iload 5, 2) := by decide +kernel
theorem dX10_inchesTaken_86 : decode cX10_inchesTaken 86 = .ok (.ireturn, 1) := by decide +kernel
theorem r_X10_inchesTaken_71 (E : kr_E)  (l1 : Nat) (h_l1 : kr_sh l1 = (2, 0)) (l2 : Int32) (l5 : Int32)  (M : kr_M) : kR kr_vi E Y_X10_inchesTaken 1 71 [(1, kr_r E l1), (2, .int l2), (5, .int l5)] [] M (f_X10_inchesTaken_71 l1 l2 l5 M) := by
  rw [f_X10_inchesTaken_71]
  refine kr_aload_n dX10_inchesTaken_71 rfl 0 rfl ?_
  refine kr_getA (o := 4) (ci := 2) (j := 13) dX10_inchesTaken_72 h_l1 fl_RX10_53 rfl ?_
  refine kr_iload_n dX10_inchesTaken_75 rfl 1 rfl ?_
  refine kr_iald dX10_inchesTaken_76 (kr_shG4 _ h_l1) (fun v1 => ?_)
  refine kr_if_ne (tgt := 84) dX10_inchesTaken_77 (by decide) ?_ ?_
  · refine kr_iload dX10_inchesTaken_84 2 rfl ?_
    exact kr_iret dX10_inchesTaken_86 rfl
  · refine kr_iconst (v := -1) dX10_inchesTaken_80 (by decide) ?_
    refine kr_goto (tgt := 86) dX10_inchesTaken_81 (by decide) ?_
    exact kr_iret dX10_inchesTaken_86 rfl
theorem r_X10_inchesTaken_18 (E : kr_E)  (l1 : Nat) (h_l1 : kr_sh l1 = (2, 0)) (l2 : Int32) (l3 : Int32) (l4 : Nat) (h_l4 : kr_sh l4 = (7, 0))  : ∀ (n : Nat) (l5 : Int32) (l6 : Int32) (M : kr_M), kR kr_vi E Y_X10_inchesTaken 1 18 [(1, kr_r E l1), (2, .int l2), (3, .int l3), (4, kr_r E l4), (5, .int l5), (6, .int l6)] [] M (f_X10_inchesTaken_18 l1 l2 l3 l4 n l5 l6 M) := by
  intro n
  induction n with
  | zero => intro l5 l6 M; exact kr_none
  | succ n ih =>
    intro l5 l6 M
    rw [f_X10_inchesTaken_18]
    refine kr_iload dX10_inchesTaken_18 5 rfl ?_
    refine kr_aload dX10_inchesTaken_20 3 rfl ?_
    refine kr_getI (ci := 7) (j := 1) dX10_inchesTaken_22 h_l4 fl_RX10_39 rfl (fun v1 => ?_)
    refine kr_icmp_ge (tgt := 71) dX10_inchesTaken_25 (by decide) ?_ ?_
    · refine kr_sub [0, 1, 4] rfl ?_
      exact r_X10_inchesTaken_71 E l1 h_l1 l2 l5 M
    · refine kr_aload_n dX10_inchesTaken_28 rfl 0 rfl ?_
      refine kr_getA (o := 2) (ci := 2) (j := 11) dX10_inchesTaken_29 h_l1 fl_RX10_44 rfl ?_
      refine kr_aload dX10_inchesTaken_32 3 rfl ?_
      refine kr_getA (o := 1) (ci := 7) (j := 0) dX10_inchesTaken_34 h_l4 fl_RX10_47 rfl ?_
      refine kr_iload dX10_inchesTaken_37 5 rfl ?_
      refine kr_iald dX10_inchesTaken_39 (kr_shT1 _ h_l4) (fun v2 => ?_)
      refine kr_iald dX10_inchesTaken_40 (kr_shG2 _ h_l1) (fun v3 => ?_)
      refine kr_iload_n dX10_inchesTaken_41 rfl 2 rfl ?_
      refine kr_icmp_le (tgt := 47) dX10_inchesTaken_42 (by decide) ?_ ?_
      · refine kr_iload dX10_inchesTaken_47 4 rfl ?_
        refine kr_aload_n dX10_inchesTaken_49 rfl 0 rfl ?_
        refine kr_getA (o := 1) (ci := 2) (j := 10) dX10_inchesTaken_50 h_l1 fl_RX10_50 rfl ?_
        refine kr_aload dX10_inchesTaken_53 3 rfl ?_
        refine kr_getA (o := 1) (ci := 7) (j := 0) dX10_inchesTaken_55 h_l4 fl_RX10_47 rfl ?_
        refine kr_iload dX10_inchesTaken_58 5 rfl ?_
        refine kr_iald dX10_inchesTaken_60 (kr_shT1 _ h_l4) (fun v4 => ?_)
        refine kr_iald dX10_inchesTaken_61 (kr_shG1 _ h_l1) (fun v5 => ?_)
        refine kr_iadd dX10_inchesTaken_62 ?_
        refine kr_nmi (fun v6 => ?_)
        refine kr_istore (lv' := [(5, .int v6), (1, kr_r E l1), (2, .int l2), (3, .int l3), (4, kr_r E l4), (6, .int l6)]) dX10_inchesTaken_63 (by decide) rfl ?_
        refine kr_iinc (j := 5) (v := (l6 + (1 : Int32))) (lv' := [(6, .int (l6 + (1 : Int32))), (5, .int v6), (1, kr_r E l1), (2, .int l2), (3, .int l3), (4, kr_r E l4)]) dX10_inchesTaken_65 rfl rfl (by decide) rfl ?_
        refine kr_goto (tgt := 18) dX10_inchesTaken_68 (by decide) ?_
        refine kr_sub [2, 3, 4, 5, 1, 0] rfl ?_
        exact ih v6 (l6 + (1 : Int32)) M
      · refine kr_iconst (v := -1) dX10_inchesTaken_45 (by decide) ?_
        exact kr_iret dX10_inchesTaken_46 rfl
theorem r_X10_inchesTaken (E : kr_E) (p1 : Nat) (h_p1 : kr_sh p1 = (2, 0)) (p2 : Int32) (p3 : Int32) (M : kr_M) : kR kr_vi E Y_X10_inchesTaken 1 0 [(0, kr_r E 327), (1, kr_r E p1), (2, .int p2), (3, .int p3)] [] M (f_X10_inchesTaken p1 p2 p3 M) := by
  rw [f_X10_inchesTaken]
  refine kr_aload_n dX10_inchesTaken_0 rfl 1 rfl ?_
  refine kr_getA (o := 3) (ci := 2) (j := 12) dX10_inchesTaken_1 h_p1 fl_RX10_35 rfl ?_
  refine kr_iload_n dX10_inchesTaken_4 rfl 2 rfl ?_
  refine kr_aaldT dX10_inchesTaken_5 h_p1 (fun h1 => ?_)
  refine kr_astore (lv' := [(4, kr_r E (kr_tx p1 p2)), (0, kr_r E 327), (1, kr_r E p1), (2, .int p2), (3, .int p3)]) dX10_inchesTaken_6 (by decide) rfl ?_
  refine kr_aload dX10_inchesTaken_8 0 rfl ?_
  refine kr_getI (ci := 7) (j := 1) dX10_inchesTaken_10 h1 fl_RX10_39 rfl (fun v2 => ?_)
  refine kr_istore (lv' := [(5, .int v2), (4, kr_r E (kr_tx p1 p2)), (0, kr_r E 327), (1, kr_r E p1), (2, .int p2), (3, .int p3)]) dX10_inchesTaken_13 (by decide) rfl ?_
  refine kr_iconst (v := 0) dX10_inchesTaken_15 (by decide) ?_
  refine kr_istore (lv' := [(6, .int (0 : Int32)), (5, .int v2), (4, kr_r E (kr_tx p1 p2)), (0, kr_r E 327), (1, kr_r E p1), (2, .int p2), (3, .int p3)]) dX10_inchesTaken_16 (by decide) rfl ?_
  refine kr_sub [4, 5, 6, 2, 1, 0] rfl ?_
  exact r_X10_inchesTaken_18 E p1 h_p1 p2 p3 (kr_tx p1 p2) h1 _ v2 (0 : Int32) M
theorem dX10_study_0 : decode cX10_study 0 = .ok (.iconst 0, 1) := by decide +kernel
theorem dX10_study_1 : decode cX10_study 1 = .ok (.istore 4, 2) := by decide +kernel
theorem dX10_study_3 : decode cX10_study 3 = .ok (.iload 4, 2) := by decide +kernel
theorem dX10_study_5 : decode cX10_study 5 = .ok (.aload_n 1, 1) := by decide +kernel
theorem dX10_study_6 : decode cX10_study 6 = .ok (.getfield 18, 3) := by decide +kernel
theorem dX10_study_9 : decode cX10_study 9 = .ok (.if_icmp .ge 24, 3) := by decide +kernel
theorem dX10_study_12 : decode cX10_study 12 = .ok (.aload_n 0, 1) := by decide +kernel
theorem dX10_study_13 : decode cX10_study 13 = .ok (.getfield 9, 3) := by decide +kernel
theorem dX10_study_16 : decode cX10_study 16 = .ok (.iload 4, 2) := by decide +kernel
theorem dX10_study_18 : decode cX10_study 18 = .ok (.aload_n 0, 1) := by decide +kernel
theorem dX10_study_19 : decode cX10_study 19 = .ok (.aload_n 1, 1) := by decide +kernel
theorem dX10_study_20 : decode cX10_study 20 = .ok (.iload 4, 2) := by decide +kernel
theorem dX10_study_22 : decode cX10_study 22 = .ok (.iload_n 3, 1) := by decide +kernel
theorem dX10_study_23 : decode cX10_study 23 = .ok (.invokevirtual 24, 3) := by decide +kernel
theorem dX10_study_26 : decode cX10_study 26 = .ok (.iastore, 1) := by decide +kernel
theorem dX10_study_27 : decode cX10_study 27 = .ok (.iinc 4 1, 3) := by decide +kernel
theorem dX10_study_30 : decode cX10_study 30 = .ok (.goto (-27), 3) := by decide +kernel
theorem dX10_study_33 : decode cX10_study 33 = .ok (.aload_n 0, 1) := by decide +kernel
theorem dX10_study_34 : decode cX10_study 34 = .ok (.getfield 15, 3) := by decide +kernel
theorem dX10_study_37 : decode cX10_study 37 = .ok (.iconst 0, 1) := by decide +kernel
theorem dX10_study_38 : decode cX10_study 38 = .ok (.iconst 0, 1) := by decide +kernel
theorem dX10_study_39 : decode cX10_study 39 = .ok (.iastore, 1) := by decide +kernel
theorem dX10_study_40 : decode cX10_study 40 = .ok (.iconst 1, 1) := by decide +kernel
theorem dX10_study_41 : decode cX10_study 41 = .ok (.istore 4, 2) := by decide +kernel
theorem dX10_study_43 : decode cX10_study 43 = .ok (.iload 4, 2) := by decide +kernel
theorem dX10_study_45 : decode cX10_study 45 = .ok (.iload_n 2, 1) := by decide +kernel
theorem dX10_study_46 : decode cX10_study 46 = .ok (.if_icmp .gt 61, 3) := by decide +kernel
theorem dX10_study_49 : decode cX10_study 49 = .ok (.aload_n 0, 1) := by decide +kernel
theorem dX10_study_50 : decode cX10_study 50 = .ok (.getfield 15, 3) := by decide +kernel
theorem dX10_study_53 : decode cX10_study 53 = .ok (.iload 4, 2) := by decide +kernel
theorem dX10_study_55 : decode cX10_study 55 = .ok (.iconst (-1), 1) := by decide +kernel
theorem dX10_study_56 : decode cX10_study 56 = .ok (.iastore, 1) := by decide +kernel
theorem dX10_study_57 : decode cX10_study 57 = .ok (.iconst 0, 1) := by decide +kernel
theorem dX10_study_58 : decode cX10_study 58 = .ok (.istore 5, 2) := by decide +kernel
theorem dX10_study_60 : decode cX10_study 60 = .ok (.iload 5, 2) := by decide +kernel
theorem dX10_study_62 : decode cX10_study 62 = .ok (.aload_n 1, 1) := by decide +kernel
theorem dX10_study_63 : decode cX10_study 63 = .ok (.getfield 18, 3) := by decide +kernel
theorem dX10_study_66 : decode cX10_study 66 = .ok (.if_icmp .ge 35, 3) := by decide +kernel
theorem dX10_study_69 : decode cX10_study 69 = .ok (.aload_n 0, 1) := by decide +kernel
theorem dX10_study_70 : decode cX10_study 70 = .ok (.getfield 15, 3) := by decide +kernel
theorem dX10_study_73 : decode cX10_study 73 = .ok (.iload 4, 2) := by decide +kernel
theorem dX10_study_75 : decode cX10_study 75 = .ok (.aload_n 0, 1) := by decide +kernel
theorem dX10_study_76 : decode cX10_study 76 = .ok (.getfield 15, 3) := by decide +kernel
theorem dX10_study_79 : decode cX10_study 79 = .ok (.iload 4, 2) := by decide +kernel
theorem dX10_study_81 : decode cX10_study 81 = .ok (.iaload, 1) := by decide +kernel
theorem dX10_study_82 : decode cX10_study 82 = .ok (.aload_n 0, 1) := by decide +kernel
theorem dX10_study_83 : decode cX10_study 83 = .ok (.aload_n 1, 1) := by decide +kernel
theorem dX10_study_84 : decode cX10_study 84 = .ok (.iload 4, 2) := by decide +kernel
theorem dX10_study_86 : decode cX10_study 86 = .ok (.iload 5, 2) := by decide +kernel
theorem dX10_study_88 : decode cX10_study 88 = .ok (.invokevirtual 28, 3) := by decide +kernel
theorem dX10_study_91 : decode cX10_study 91 = .ok (.invokestatic 31, 3) := by decide +kernel
theorem dX10_study_94 : decode cX10_study 94 = .ok (.iastore, 1) := by decide +kernel
theorem dX10_study_95 : decode cX10_study 95 = .ok (.iinc 5 1, 3) := by decide +kernel
theorem dX10_study_98 : decode cX10_study 98 = .ok (.goto (-38), 3) := by decide +kernel
theorem dX10_study_101 : decode cX10_study 101 = .ok (.iinc 4 1, 3) := by decide +kernel
theorem dX10_study_104 : decode cX10_study 104 = .ok (.goto (-61), 3) := by decide +kernel
theorem dX10_study_107 : decode cX10_study 107 = .ok (.return_, 1) := by decide +kernel
theorem r_X10_study_101 (E : kr_E) (k_43 : Int32 → kr_M → Option kr_M) (l1 : Nat) (h_l1 : kr_sh l1 = (2, 0)) (l2 : Int32) (l4 : Int32) (hk_43 : ∀ (x4 : Int32) (M : kr_M), kR kr_vv E Y_X10_study 3 43 [(0, kr_r E 327), (1, kr_r E l1), (2, .int l2), (4, .int x4)] [] M (k_43 x4 M)) (M : kr_M) : kR kr_vv E Y_X10_study 3 101 [(0, kr_r E 327), (1, kr_r E l1), (2, .int l2), (4, .int l4)] [] M (f_X10_study_101 k_43 l4 M) := by
  rw [f_X10_study_101]
  refine kr_iinc (j := 3) (v := (l4 + (1 : Int32))) (lv' := [(4, .int (l4 + (1 : Int32))), (0, kr_r E 327), (1, kr_r E l1), (2, .int l2)]) dX10_study_101 rfl rfl (by decide) rfl ?_
  refine kr_goto (tgt := 43) dX10_study_104 (by decide) ?_
  refine kr_sub [1, 2, 3, 0] rfl ?_
  exact hk_43 (l4 + (1 : Int32)) M
theorem r_X10_study_60 (E : kr_E) (k_43 : Int32 → kr_M → Option kr_M) (l1 : Nat) (h_l1 : kr_sh l1 = (2, 0)) (l2 : Int32) (l4 : Int32) (hk_43 : ∀ (x4 : Int32) (M : kr_M), kR kr_vv E Y_X10_study 3 43 [(0, kr_r E 327), (1, kr_r E l1), (2, .int l2), (4, .int x4)] [] M (k_43 x4 M)) : ∀ (n : Nat) (l5 : Int32) (M : kr_M), kR kr_vv E Y_X10_study 3 60 [(0, kr_r E 327), (1, kr_r E l1), (2, .int l2), (4, .int l4), (5, .int l5)] [] M (f_X10_study_60 k_43 l1 l4 n l5 M) := by
  intro n
  induction n with
  | zero => intro l5 M; exact kr_none
  | succ n ih =>
    intro l5 M
    rw [f_X10_study_60]
    refine kr_iload dX10_study_60 4 rfl ?_
    refine kr_aload_n dX10_study_62 rfl 1 rfl ?_
    refine kr_getI (ci := 2) (j := 5) dX10_study_63 h_l1 fl_RX10_18 rfl (fun v1 => ?_)
    refine kr_icmp_ge (tgt := 101) dX10_study_66 (by decide) ?_ ?_
    · refine kr_sub [0, 1, 2, 3] rfl ?_
      exact r_X10_study_101 E _ l1 h_l1 l2 l4 hk_43 M
    · refine kr_aload_n dX10_study_69 rfl 0 rfl ?_
      refine kr_getA (o := 2) (ci := 10) (j := 1) dX10_study_70 kr_at_327 fl_RX10_15 rfl ?_
      refine kr_iload dX10_study_73 3 rfl ?_
      refine kr_aload_n dX10_study_75 rfl 0 rfl ?_
      refine kr_getA (o := 2) (ci := 10) (j := 1) dX10_study_76 kr_at_327 fl_RX10_15 rfl ?_
      refine kr_iload dX10_study_79 3 rfl ?_
      refine kr_iald dX10_study_81 kr_at_329 (fun v2 => ?_)
      refine kr_aload_n dX10_study_82 rfl 0 rfl ?_
      refine kr_aload_n dX10_study_83 rfl 1 rfl ?_
      refine kr_iload dX10_study_84 3 rfl ?_
      refine kr_iload dX10_study_86 4 rfl ?_
      refine kr_Vi (As := [kr_r E l1, .int l4, .int l5]) (st := [.int v2, .int l4, kr_r E 329]) zv_X10_inchesBy dX10_study_88 ml_RX10_28 kr_at_327 (r_X10_inchesBy E l1 h_l1 l4 l5 M) rfl rfl (Nat.le_of_ble_eq_true rfl) rfl (by decide) (Nat.le_of_ble_eq_true rfl) (fun r4 M3 => ?_)
      refine kr_Ni (As := [.int v2, .int r4]) (st := [.int l4, kr_r E 329]) zs_X11_lesser dX10_study_91 rfl (by decide) (r_X11_lesser E v2 r4 M3) rfl rfl (Nat.le_of_ble_eq_true rfl) rfl (by decide) (Nat.le_of_ble_eq_true rfl) (fun r6 M5 => ?_)
      refine kr_iast dX10_study_94 kr_at_329 (fun M7 => ?_)
      refine kr_iinc (j := 4) (v := (l5 + (1 : Int32))) (lv' := [(5, .int (l5 + (1 : Int32))), (0, kr_r E 327), (1, kr_r E l1), (2, .int l2), (4, .int l4)]) dX10_study_95 rfl rfl (by decide) rfl ?_
      refine kr_goto (tgt := 60) dX10_study_98 (by decide) ?_
      refine kr_sub [1, 2, 3, 4, 0] rfl ?_
      exact ih (l5 + (1 : Int32)) M7
theorem r_X10_study_43 (E : kr_E)  (l1 : Nat) (h_l1 : kr_sh l1 = (2, 0)) (l2 : Int32)  : ∀ (n : Nat) (l4 : Int32) (M : kr_M), kR kr_vv E Y_X10_study 3 43 [(0, kr_r E 327), (1, kr_r E l1), (2, .int l2), (4, .int l4)] [] M (f_X10_study_43 l1 l2 n l4 M) := by
  intro n
  induction n with
  | zero => intro l4 M; exact kr_none
  | succ n ih =>
    intro l4 M
    rw [f_X10_study_43]
    refine kr_iload dX10_study_43 3 rfl ?_
    refine kr_iload_n dX10_study_45 rfl 2 rfl ?_
    refine kr_icmp_gt (tgt := 107) dX10_study_46 (by decide) ?_ ?_
    · exact kr_vret dX10_study_107 rfl
    · refine kr_aload_n dX10_study_49 rfl 0 rfl ?_
      refine kr_getA (o := 2) (ci := 10) (j := 1) dX10_study_50 kr_at_327 fl_RX10_15 rfl ?_
      refine kr_iload dX10_study_53 3 rfl ?_
      refine kr_iconst (v := -1) dX10_study_55 (by decide) ?_
      refine kr_iast dX10_study_56 kr_at_329 (fun M1 => ?_)
      refine kr_iconst (v := 0) dX10_study_57 (by decide) ?_
      refine kr_istore (lv' := [(5, .int (0 : Int32)), (0, kr_r E 327), (1, kr_r E l1), (2, .int l2), (4, .int l4)]) dX10_study_58 (by decide) rfl ?_
      refine kr_sub [1, 2, 3, 4, 0] rfl ?_
      exact r_X10_study_60 E _ l1 h_l1 l2 l4 ih _ (0 : Int32) M1
theorem r_X10_study_33 (E : kr_E)  (l1 : Nat) (h_l1 : kr_sh l1 = (2, 0)) (l2 : Int32)  (M : kr_M) : kR kr_vv E Y_X10_study 3 33 [(0, kr_r E 327), (1, kr_r E l1), (2, .int l2)] [] M (f_X10_study_33 l1 l2 M) := by
  rw [f_X10_study_33]
  refine kr_aload_n dX10_study_33 rfl 0 rfl ?_
  refine kr_getA (o := 2) (ci := 10) (j := 1) dX10_study_34 kr_at_327 fl_RX10_15 rfl ?_
  refine kr_iconst (v := 0) dX10_study_37 (by decide) ?_
  refine kr_iconst (v := 0) dX10_study_38 (by decide) ?_
  refine kr_iast dX10_study_39 kr_at_329 (fun M1 => ?_)
  refine kr_iconst (v := 1) dX10_study_40 (by decide) ?_
  refine kr_istore (lv' := [(4, .int (1 : Int32)), (0, kr_r E 327), (1, kr_r E l1), (2, .int l2)]) dX10_study_41 (by decide) rfl ?_
  refine kr_sub [1, 2, 3, 0] rfl ?_
  exact r_X10_study_43 E l1 h_l1 l2 _ (1 : Int32) M1
theorem r_X10_study_3 (E : kr_E)  (l1 : Nat) (h_l1 : kr_sh l1 = (2, 0)) (l2 : Int32) (l3 : Int32)  : ∀ (n : Nat) (l4 : Int32) (M : kr_M), kR kr_vv E Y_X10_study 3 3 [(0, kr_r E 327), (1, kr_r E l1), (2, .int l2), (3, .int l3), (4, .int l4)] [] M (f_X10_study_3 l1 l2 l3 n l4 M) := by
  intro n
  induction n with
  | zero => intro l4 M; exact kr_none
  | succ n ih =>
    intro l4 M
    rw [f_X10_study_3]
    refine kr_iload dX10_study_3 4 rfl ?_
    refine kr_aload_n dX10_study_5 rfl 1 rfl ?_
    refine kr_getI (ci := 2) (j := 5) dX10_study_6 h_l1 fl_RX10_18 rfl (fun v1 => ?_)
    refine kr_icmp_ge (tgt := 33) dX10_study_9 (by decide) ?_ ?_
    · refine kr_sub [0, 1, 2] rfl ?_
      exact r_X10_study_33 E l1 h_l1 l2 M
    · refine kr_aload_n dX10_study_12 rfl 0 rfl ?_
      refine kr_getA (o := 1) (ci := 10) (j := 0) dX10_study_13 kr_at_327 fl_RX10_9 rfl ?_
      refine kr_iload dX10_study_16 4 rfl ?_
      refine kr_aload_n dX10_study_18 rfl 0 rfl ?_
      refine kr_aload_n dX10_study_19 rfl 1 rfl ?_
      refine kr_iload dX10_study_20 4 rfl ?_
      refine kr_iload_n dX10_study_22 rfl 3 rfl ?_
      refine kr_Vi (As := [kr_r E l1, .int l4, .int l3]) (st := [.int l4, kr_r E 328]) zv_X10_inchesTaken dX10_study_23 ml_RX10_24 kr_at_327 (r_X10_inchesTaken E l1 h_l1 l4 l3 M) rfl rfl (Nat.le_of_ble_eq_true rfl) rfl (by decide) (Nat.le_of_ble_eq_true rfl) (fun r3 M2 => ?_)
      refine kr_iast dX10_study_26 kr_at_328 (fun M4 => ?_)
      refine kr_iinc (j := 4) (v := (l4 + (1 : Int32))) (lv' := [(4, .int (l4 + (1 : Int32))), (0, kr_r E 327), (1, kr_r E l1), (2, .int l2), (3, .int l3)]) dX10_study_27 rfl rfl (by decide) rfl ?_
      refine kr_goto (tgt := 3) dX10_study_30 (by decide) ?_
      refine kr_sub [1, 2, 3, 4, 0] rfl ?_
      exact ih (l4 + (1 : Int32)) M4
theorem r_X10_study (E : kr_E) (p1 : Nat) (h_p1 : kr_sh p1 = (2, 0)) (p2 : Int32) (p3 : Int32) (M : kr_M) : kR kr_vv E Y_X10_study 3 0 [(0, kr_r E 327), (1, kr_r E p1), (2, .int p2), (3, .int p3)] [] M (f_X10_study p1 p2 p3 M) := by
  rw [f_X10_study]
  refine kr_iconst (v := 0) dX10_study_0 (by decide) ?_
  refine kr_istore (lv' := [(4, .int (0 : Int32)), (0, kr_r E 327), (1, kr_r E p1), (2, .int p2), (3, .int p3)]) dX10_study_1 (by decide) rfl ?_
  refine kr_sub [1, 2, 3, 4, 0] rfl ?_
  exact r_X10_study_3 E p1 h_p1 p2 p3 _ (0 : Int32) M
theorem dX10_fewestInches_0 : decode cX10_fewestInches 0 = .ok (.aload_n 0, 1) := by decide +kernel
theorem dX10_fewestInches_1 : decode cX10_fewestInches 1 = .ok (.getfield 15, 3) := by decide +kernel
theorem dX10_fewestInches_4 : decode cX10_fewestInches 4 = .ok (.iload_n 1, 1) := by decide +kernel
theorem dX10_fewestInches_5 : decode cX10_fewestInches 5 = .ok (.iaload, 1) := by decide +kernel
theorem dX10_fewestInches_6 : decode cX10_fewestInches 6 = .ok (.iconst (-1), 1) := by decide +kernel
theorem dX10_fewestInches_7 : decode cX10_fewestInches 7 = .ok (.if_icmp .ne 7, 3) := by decide +kernel
theorem dX10_fewestInches_10 : decode cX10_fewestInches 10 = .ok (.iconst (-1), 1) := by decide +kernel
theorem dX10_fewestInches_11 : decode cX10_fewestInches 11 = .ok (.goto 11, 3) := by decide +kernel
theorem dX10_fewestInches_14 : decode cX10_fewestInches 14 = .ok (.aload_n 0, 1) := by decide +kernel
theorem dX10_fewestInches_15 : decode cX10_fewestInches 15 = .ok (.getfield 15, 3) := by decide +kernel
theorem dX10_fewestInches_18 : decode cX10_fewestInches 18 = .ok (.iload_n 1, 1) := by decide +kernel
theorem dX10_fewestInches_19 : decode cX10_fewestInches 19 = .ok (.iaload, 1) := by decide +kernel
theorem dX10_fewestInches_20 : decode cX10_fewestInches 20 = .ok (.iconst 1, 1) := by decide +kernel
theorem dX10_fewestInches_21 : decode cX10_fewestInches 21 = .ok (.isub, 1) := by decide +kernel
theorem dX10_fewestInches_22 : decode cX10_fewestInches 22 = .ok (.ireturn, 1) := by decide +kernel
theorem r_X10_fewestInches (E : kr_E) (p1 : Int32) (M : kr_M) : kR kr_vi E Y_X10_fewestInches 1 0 [(0, kr_r E 327), (1, .int p1)] [] M (f_X10_fewestInches p1 M) := by
  rw [f_X10_fewestInches]
  refine kr_aload_n dX10_fewestInches_0 rfl 0 rfl ?_
  refine kr_getA (o := 2) (ci := 10) (j := 1) dX10_fewestInches_1 kr_at_327 fl_RX10_15 rfl ?_
  refine kr_iload_n dX10_fewestInches_4 rfl 1 rfl ?_
  refine kr_iald dX10_fewestInches_5 kr_at_329 (fun v1 => ?_)
  refine kr_iconst (v := -1) dX10_fewestInches_6 (by decide) ?_
  refine kr_icmp_ne (tgt := 14) dX10_fewestInches_7 (by decide) ?_ ?_
  · refine kr_aload_n dX10_fewestInches_14 rfl 0 rfl ?_
    refine kr_getA (o := 2) (ci := 10) (j := 1) dX10_fewestInches_15 kr_at_327 fl_RX10_15 rfl ?_
    refine kr_iload_n dX10_fewestInches_18 rfl 1 rfl ?_
    refine kr_iald dX10_fewestInches_19 kr_at_329 (fun v2 => ?_)
    refine kr_iconst (v := 1) dX10_fewestInches_20 (by decide) ?_
    refine kr_isub dX10_fewestInches_21 ?_
    exact kr_iret dX10_fewestInches_22 rfl
  · refine kr_iconst (v := -1) dX10_fewestInches_10 (by decide) ?_
    refine kr_goto (tgt := 22) dX10_fewestInches_11 (by decide) ?_
    exact kr_iret dX10_fewestInches_22 rfl
theorem dX10_firstWordOf_0 : decode cX10_firstWordOf 0 = .ok (.iconst 0, 1) := by decide +kernel
theorem dX10_firstWordOf_1 : decode cX10_firstWordOf 1 = .ok (.istore_n 3, 1) := by decide +kernel
theorem dX10_firstWordOf_2 : decode cX10_firstWordOf 2 = .ok (.iload_n 3, 1) := by decide +kernel
theorem dX10_firstWordOf_3 : decode cX10_firstWordOf 3 = .ok (.aload_n 1, 1) := by decide +kernel
theorem dX10_firstWordOf_4 : decode cX10_firstWordOf 4 = .ok (.getfield 18, 3) := by decide +kernel
theorem dX10_firstWordOf_7 : decode cX10_firstWordOf 7 = .ok (.if_icmp .ge 37, 3) := by decide +kernel
theorem dX10_firstWordOf_10 : decode cX10_firstWordOf 10 = .ok (.aload_n 0, 1) := by decide +kernel
theorem dX10_firstWordOf_11 : decode cX10_firstWordOf 11 = .ok (.aload_n 1, 1) := by decide +kernel
theorem dX10_firstWordOf_12 : decode cX10_firstWordOf 12 = .ok (.iload_n 2, 1) := by decide +kernel
theorem dX10_firstWordOf_13 : decode cX10_firstWordOf 13 = .ok (.iload_n 3, 1) := by decide +kernel
theorem dX10_firstWordOf_14 : decode cX10_firstWordOf 14 = .ok (.invokevirtual 28, 3) := by decide +kernel
theorem dX10_firstWordOf_17 : decode cX10_firstWordOf 17 = .ok (.istore 4, 2) := by decide +kernel
theorem dX10_firstWordOf_19 : decode cX10_firstWordOf 19 = .ok (.iload 4, 2) := by decide +kernel
theorem dX10_firstWordOf_21 : decode cX10_firstWordOf 21 = .ok (.iconst (-1), 1) := by decide +kernel
theorem dX10_firstWordOf_22 : decode cX10_firstWordOf 22 = .ok (.if_icmp .eq 16, 3) := by decide +kernel
theorem dX10_firstWordOf_25 : decode cX10_firstWordOf 25 = .ok (.iload 4, 2) := by decide +kernel
theorem dX10_firstWordOf_27 : decode cX10_firstWordOf 27 = .ok (.aload_n 0, 1) := by decide +kernel
theorem dX10_firstWordOf_28 : decode cX10_firstWordOf 28 = .ok (.getfield 15, 3) := by decide +kernel
theorem dX10_firstWordOf_31 : decode cX10_firstWordOf 31 = .ok (.iload_n 2, 1) := by decide +kernel
theorem dX10_firstWordOf_32 : decode cX10_firstWordOf 32 = .ok (.iaload, 1) := by decide +kernel
theorem dX10_firstWordOf_33 : decode cX10_firstWordOf 33 = .ok (.if_icmp .ne 5, 3) := by decide +kernel
theorem dX10_firstWordOf_36 : decode cX10_firstWordOf 36 = .ok (.iload_n 3, 1) := by decide +kernel
theorem dX10_firstWordOf_37 : decode cX10_firstWordOf 37 = .ok (.ireturn, 1) := by decide +kernel
theorem dX10_firstWordOf_38 : decode cX10_firstWordOf 38 = .ok (.iinc 3 1, 3) := by decide +kernel
theorem dX10_firstWordOf_41 : decode cX10_firstWordOf 41 = .ok (.goto (-39), 3) := by decide +kernel
theorem dX10_firstWordOf_44 : decode cX10_firstWordOf 44 = .ok (.iconst (-1), 1) := by decide +kernel
theorem dX10_firstWordOf_45 : decode cX10_firstWordOf 45 = .ok (.ireturn, 1) := by decide +kernel
theorem r_X10_firstWordOf_38 (E : kr_E) (k_2 : Int32 → kr_M → Option (Int32 × kr_M)) (l1 : Nat) (h_l1 : kr_sh l1 = (2, 0)) (l2 : Int32) (l3 : Int32) (hk_2 : ∀ (x3 : Int32) (M : kr_M), kR kr_vi E Y_X10_firstWordOf 2 2 [(0, kr_r E 327), (1, kr_r E l1), (2, .int l2), (3, .int x3)] [] M (k_2 x3 M)) (M : kr_M) : kR kr_vi E Y_X10_firstWordOf 2 38 [(0, kr_r E 327), (1, kr_r E l1), (2, .int l2), (3, .int l3)] [] M (f_X10_firstWordOf_38 k_2 l3 M) := by
  rw [f_X10_firstWordOf_38]
  refine kr_iinc (j := 3) (v := (l3 + (1 : Int32))) (lv' := [(3, .int (l3 + (1 : Int32))), (0, kr_r E 327), (1, kr_r E l1), (2, .int l2)]) dX10_firstWordOf_38 rfl rfl (by decide) rfl ?_
  refine kr_goto (tgt := 2) dX10_firstWordOf_41 (by decide) ?_
  refine kr_sub [1, 2, 3, 0] rfl ?_
  exact hk_2 (l3 + (1 : Int32)) M
theorem r_X10_firstWordOf_2 (E : kr_E)  (l1 : Nat) (h_l1 : kr_sh l1 = (2, 0)) (l2 : Int32)  : ∀ (n : Nat) (l3 : Int32) (M : kr_M), kR kr_vi E Y_X10_firstWordOf 2 2 [(0, kr_r E 327), (1, kr_r E l1), (2, .int l2), (3, .int l3)] [] M (f_X10_firstWordOf_2 l1 l2 n l3 M) := by
  intro n
  induction n with
  | zero => intro l3 M; exact kr_none
  | succ n ih =>
    intro l3 M
    rw [f_X10_firstWordOf_2]
    refine kr_iload_n dX10_firstWordOf_2 rfl 3 rfl ?_
    refine kr_aload_n dX10_firstWordOf_3 rfl 1 rfl ?_
    refine kr_getI (ci := 2) (j := 5) dX10_firstWordOf_4 h_l1 fl_RX10_18 rfl (fun v1 => ?_)
    refine kr_icmp_ge (tgt := 44) dX10_firstWordOf_7 (by decide) ?_ ?_
    · refine kr_iconst (v := -1) dX10_firstWordOf_44 (by decide) ?_
      exact kr_iret dX10_firstWordOf_45 rfl
    · refine kr_aload_n dX10_firstWordOf_10 rfl 0 rfl ?_
      refine kr_aload_n dX10_firstWordOf_11 rfl 1 rfl ?_
      refine kr_iload_n dX10_firstWordOf_12 rfl 2 rfl ?_
      refine kr_iload_n dX10_firstWordOf_13 rfl 3 rfl ?_
      refine kr_Vi (As := [kr_r E l1, .int l2, .int l3]) (st := []) zv_X10_inchesBy dX10_firstWordOf_14 ml_RX10_28 kr_at_327 (r_X10_inchesBy E l1 h_l1 l2 l3 M) rfl rfl (Nat.le_of_ble_eq_true rfl) rfl (by decide) (Nat.le_of_ble_eq_true rfl) (fun r3 M2 => ?_)
      refine kr_istore (lv' := [(4, .int r3), (0, kr_r E 327), (1, kr_r E l1), (2, .int l2), (3, .int l3)]) dX10_firstWordOf_17 (by decide) rfl ?_
      refine kr_iload dX10_firstWordOf_19 0 rfl ?_
      refine kr_iconst (v := -1) dX10_firstWordOf_21 (by decide) ?_
      refine kr_icmp_eq (tgt := 38) dX10_firstWordOf_22 (by decide) ?_ ?_
      · refine kr_sub [1, 2, 3, 4] rfl ?_
        exact r_X10_firstWordOf_38 E _ l1 h_l1 l2 l3 ih M2
      · refine kr_iload dX10_firstWordOf_25 0 rfl ?_
        refine kr_aload_n dX10_firstWordOf_27 rfl 1 rfl ?_
        refine kr_getA (o := 2) (ci := 10) (j := 1) dX10_firstWordOf_28 kr_at_327 fl_RX10_15 rfl ?_
        refine kr_iload_n dX10_firstWordOf_31 rfl 3 rfl ?_
        refine kr_iald dX10_firstWordOf_32 kr_at_329 (fun v4 => ?_)
        refine kr_icmp_ne (tgt := 38) dX10_firstWordOf_33 (by decide) ?_ ?_
        · refine kr_sub [1, 2, 3, 4] rfl ?_
          exact r_X10_firstWordOf_38 E _ l1 h_l1 l2 l3 ih M2
        · refine kr_iload_n dX10_firstWordOf_36 rfl 4 rfl ?_
          exact kr_iret dX10_firstWordOf_37 rfl
theorem r_X10_firstWordOf (E : kr_E) (p1 : Nat) (h_p1 : kr_sh p1 = (2, 0)) (p2 : Int32) (M : kr_M) : kR kr_vi E Y_X10_firstWordOf 2 0 [(0, kr_r E 327), (1, kr_r E p1), (2, .int p2)] [] M (f_X10_firstWordOf p1 p2 M) := by
  rw [f_X10_firstWordOf]
  refine kr_iconst (v := 0) dX10_firstWordOf_0 (by decide) ?_
  refine kr_istore_n (lv' := [(3, .int (0 : Int32)), (0, kr_r E 327), (1, kr_r E p1), (2, .int p2)]) dX10_firstWordOf_1 rfl (by decide) rfl ?_
  refine kr_sub [1, 2, 3, 0] rfl ?_
  exact r_X10_firstWordOf_2 E p1 h_p1 p2 _ (0 : Int32) M
theorem dX10_wordOfFirst_0 : decode cX10_wordOfFirst 0 = .ok (.iload_n 2, 1) := by decide +kernel
theorem dX10_wordOfFirst_1 : decode cX10_wordOfFirst 1 = .ok (.istore 4, 2) := by decide +kernel
theorem dX10_wordOfFirst_3 : decode cX10_wordOfFirst 3 = .ok (.iconst 0, 1) := by decide +kernel
theorem dX10_wordOfFirst_4 : decode cX10_wordOfFirst 4 = .ok (.istore 5, 2) := by decide +kernel
theorem dX10_wordOfFirst_6 : decode cX10_wordOfFirst 6 = .ok (.iload 5, 2) := by decide +kernel
theorem dX10_wordOfFirst_8 : decode cX10_wordOfFirst 8 = .ok (.iload_n 2, 1) := by decide +kernel
theorem dX10_wordOfFirst_9 : decode cX10_wordOfFirst 9 = .ok (.if_icmp .ge 50, 3) := by decide +kernel
theorem dX10_wordOfFirst_12 : decode cX10_wordOfFirst 12 = .ok (.iload 4, 2) := by decide +kernel
theorem dX10_wordOfFirst_14 : decode cX10_wordOfFirst 14 = .ok (.ifCond .le 45, 3) := by decide +kernel
theorem dX10_wordOfFirst_17 : decode cX10_wordOfFirst 17 = .ok (.aload_n 0, 1) := by decide +kernel
theorem dX10_wordOfFirst_18 : decode cX10_wordOfFirst 18 = .ok (.aload_n 1, 1) := by decide +kernel
theorem dX10_wordOfFirst_19 : decode cX10_wordOfFirst 19 = .ok (.iload 4, 2) := by decide +kernel
theorem dX10_wordOfFirst_21 : decode cX10_wordOfFirst 21 = .ok (.invokevirtual 56, 3) := by decide +kernel
theorem dX10_wordOfFirst_24 : decode cX10_wordOfFirst 24 = .ok (.istore 6, 2) := by decide +kernel
theorem dX10_wordOfFirst_26 : decode cX10_wordOfFirst 26 = .ok (.iload 6, 2) := by decide +kernel
theorem dX10_wordOfFirst_28 : decode cX10_wordOfFirst 28 = .ok (.iconst (-1), 1) := by decide +kernel
theorem dX10_wordOfFirst_29 : decode cX10_wordOfFirst 29 = .ok (.if_icmp .eq 9, 3) := by decide +kernel
theorem dX10_wordOfFirst_32 : decode cX10_wordOfFirst 32 = .ok (.iload 5, 2) := by decide +kernel
theorem dX10_wordOfFirst_34 : decode cX10_wordOfFirst 34 = .ok (.iload_n 3, 1) := by decide +kernel
theorem dX10_wordOfFirst_35 : decode cX10_wordOfFirst 35 = .ok (.if_icmp .ne 6, 3) := by decide +kernel
theorem dX10_wordOfFirst_38 : decode cX10_wordOfFirst 38 = .ok (.iload 6, 2) := by decide +kernel
theorem dX10_wordOfFirst_40 : decode cX10_wordOfFirst 40 = .ok (.ireturn, 1) := by decide +kernel
theorem dX10_wordOfFirst_41 : decode cX10_wordOfFirst 41 = .ok (.iload 4, 2) := by decide +kernel
theorem dX10_wordOfFirst_43 : decode cX10_wordOfFirst 43 = .ok (.aload_n 1, 1) := by decide +kernel
theorem dX10_wordOfFirst_44 : decode cX10_wordOfFirst 44 = .ok (.getfield 53, 3) := by decide +kernel
theorem dX10_wordOfFirst_47 : decode cX10_wordOfFirst 47 = .ok (.iload 6, 2) := by decide +kernel
theorem dX10_wordOfFirst_49 : decode cX10_wordOfFirst 49 = .ok (.iaload, 1) := by decide +kernel
theorem dX10_wordOfFirst_50 : decode cX10_wordOfFirst 50 = .ok (.isub, 1) := by decide +kernel
theorem dX10_wordOfFirst_51 : decode cX10_wordOfFirst 51 = .ok (.istore 4, 2) := by decide +kernel
theorem dX10_wordOfFirst_53 : decode cX10_wordOfFirst 53 = .ok (.iinc 5 1, 3) := by decide +kernel
theorem dX10_wordOfFirst_56 : decode cX10_wordOfFirst 56 = .ok (.goto (-50), 3) := by decide +kernel
theorem dX10_wordOfFirst_59 : decode cX10_wordOfFirst 59 = .ok (.iconst (-1), 1) := by decide +kernel
theorem dX10_wordOfFirst_60 : decode cX10_wordOfFirst 60 = .ok (.ireturn, 1) := by decide +kernel
theorem r_X10_wordOfFirst_6 (E : kr_E)  (l1 : Nat) (h_l1 : kr_sh l1 = (2, 0)) (l2 : Int32) (l3 : Int32)  : ∀ (n : Nat) (l4 : Int32) (l5 : Int32) (M : kr_M), kR kr_vi E Y_X10_wordOfFirst 3 6 [(0, kr_r E 327), (1, kr_r E l1), (2, .int l2), (3, .int l3), (4, .int l4), (5, .int l5)] [] M (f_X10_wordOfFirst_6 l1 l2 l3 n l4 l5 M) := by
  intro n
  induction n with
  | zero => intro l4 l5 M; exact kr_none
  | succ n ih =>
    intro l4 l5 M
    rw [f_X10_wordOfFirst_6]
    refine kr_iload dX10_wordOfFirst_6 5 rfl ?_
    refine kr_iload_n dX10_wordOfFirst_8 rfl 2 rfl ?_
    refine kr_icmp_ge (tgt := 59) dX10_wordOfFirst_9 (by decide) ?_ ?_
    · refine kr_iconst (v := -1) dX10_wordOfFirst_59 (by decide) ?_
      exact kr_iret dX10_wordOfFirst_60 rfl
    · refine kr_iload dX10_wordOfFirst_12 4 rfl ?_
      refine kr_if_le (tgt := 59) dX10_wordOfFirst_14 (by decide) ?_ ?_
      · refine kr_iconst (v := -1) dX10_wordOfFirst_59 (by decide) ?_
        exact kr_iret dX10_wordOfFirst_60 rfl
      · refine kr_aload_n dX10_wordOfFirst_17 rfl 0 rfl ?_
        refine kr_aload_n dX10_wordOfFirst_18 rfl 1 rfl ?_
        refine kr_iload dX10_wordOfFirst_19 4 rfl ?_
        refine kr_Vi (As := [kr_r E l1, .int l4]) (st := []) zv_X10_firstWordOf dX10_wordOfFirst_21 ml_RX10_56 kr_at_327 (r_X10_firstWordOf E l1 h_l1 l4 M) rfl rfl (Nat.le_of_ble_eq_true rfl) rfl (by decide) (Nat.le_of_ble_eq_true rfl) (fun r2 M1 => ?_)
        refine kr_istore (lv' := [(6, .int r2), (0, kr_r E 327), (1, kr_r E l1), (2, .int l2), (3, .int l3), (4, .int l4), (5, .int l5)]) dX10_wordOfFirst_24 (by decide) rfl ?_
        refine kr_iload dX10_wordOfFirst_26 0 rfl ?_
        refine kr_iconst (v := -1) dX10_wordOfFirst_28 (by decide) ?_
        refine kr_icmp_eq (tgt := 38) dX10_wordOfFirst_29 (by decide) ?_ ?_
        · refine kr_iload dX10_wordOfFirst_38 0 rfl ?_
          exact kr_iret dX10_wordOfFirst_40 rfl
        · refine kr_iload dX10_wordOfFirst_32 6 rfl ?_
          refine kr_iload_n dX10_wordOfFirst_34 rfl 4 rfl ?_
          refine kr_icmp_ne (tgt := 41) dX10_wordOfFirst_35 (by decide) ?_ ?_
          · refine kr_iload dX10_wordOfFirst_41 5 rfl ?_
            refine kr_aload_n dX10_wordOfFirst_43 rfl 2 rfl ?_
            refine kr_getA (o := 4) (ci := 2) (j := 13) dX10_wordOfFirst_44 h_l1 fl_RX10_53 rfl ?_
            refine kr_iload dX10_wordOfFirst_47 0 rfl ?_
            refine kr_iald dX10_wordOfFirst_49 (kr_shG4 _ h_l1) (fun v3 => ?_)
            refine kr_isub dX10_wordOfFirst_50 ?_
            refine kr_nmi (fun v4 => ?_)
            refine kr_istore (lv' := [(4, .int v4), (6, .int r2), (0, kr_r E 327), (1, kr_r E l1), (2, .int l2), (3, .int l3), (5, .int l5)]) dX10_wordOfFirst_51 (by decide) rfl ?_
            refine kr_iinc (j := 6) (v := (l5 + (1 : Int32))) (lv' := [(5, .int (l5 + (1 : Int32))), (4, .int v4), (6, .int r2), (0, kr_r E 327), (1, kr_r E l1), (2, .int l2), (3, .int l3)]) dX10_wordOfFirst_53 rfl rfl (by decide) rfl ?_
            refine kr_goto (tgt := 6) dX10_wordOfFirst_56 (by decide) ?_
            refine kr_sub [3, 4, 5, 6, 1, 0] rfl ?_
            exact ih v4 (l5 + (1 : Int32)) M1
          · refine kr_iload dX10_wordOfFirst_38 0 rfl ?_
            exact kr_iret dX10_wordOfFirst_40 rfl
theorem r_X10_wordOfFirst (E : kr_E) (p1 : Nat) (h_p1 : kr_sh p1 = (2, 0)) (p2 : Int32) (p3 : Int32) (M : kr_M) : kR kr_vi E Y_X10_wordOfFirst 3 0 [(0, kr_r E 327), (1, kr_r E p1), (2, .int p2), (3, .int p3)] [] M (f_X10_wordOfFirst p1 p2 p3 M) := by
  rw [f_X10_wordOfFirst]
  refine kr_iload_n dX10_wordOfFirst_0 rfl 2 rfl ?_
  refine kr_istore (lv' := [(4, .int p2), (0, kr_r E 327), (1, kr_r E p1), (2, .int p2), (3, .int p3)]) dX10_wordOfFirst_1 (by decide) rfl ?_
  refine kr_iconst (v := 0) dX10_wordOfFirst_3 (by decide) ?_
  refine kr_istore (lv' := [(5, .int (0 : Int32)), (4, .int p2), (0, kr_r E 327), (1, kr_r E p1), (2, .int p2), (3, .int p3)]) dX10_wordOfFirst_4 (by decide) rfl ?_
  refine kr_sub [2, 3, 4, 5, 1, 0] rfl ?_
  exact r_X10_wordOfFirst_6 E p1 h_p1 p2 p3 _ p2 (0 : Int32) M
theorem dX11_feed_0 : decode cX11_feed 0 = .ok (.aload_n 0, 1) := by decide +kernel
theorem dX11_feed_1 : decode cX11_feed 1 = .ok (.getfield 10, 3) := by decide +kernel
theorem dX11_feed_4 : decode cX11_feed 4 = .ok (.getfield 111, 3) := by decide +kernel
theorem dX11_feed_7 : decode cX11_feed 7 = .ok (.sipush 1380, 3) := by decide +kernel
theorem dX11_feed_10 : decode cX11_feed 10 = .ok (.if_icmp .le 5, 3) := by decide +kernel
theorem dX11_feed_13 : decode cX11_feed 13 = .ok (.iconst (-1), 1) := by decide +kernel
theorem dX11_feed_14 : decode cX11_feed 14 = .ok (.ireturn, 1) := by decide +kernel
theorem dX11_feed_15 : decode cX11_feed 15 = .ok (.aload_n 0, 1) := by decide +kernel
theorem dX11_feed_16 : decode cX11_feed 16 = .ok (.getfield 10, 3) := by decide +kernel
theorem dX11_feed_19 : decode cX11_feed 19 = .ok (.iload_n 1, 1) := by decide +kernel
theorem dX11_feed_20 : decode cX11_feed 20 = .ok (.invokevirtual 115, 3) := by decide +kernel
theorem dX11_feed_23 : decode cX11_feed 23 = .ok (.aload_n 0, 1) := by decide +kernel
theorem dX11_feed_24 : decode cX11_feed 24 = .ok (.getfield 10, 3) := by decide +kernel
theorem dX11_feed_27 : decode cX11_feed 27 = .ok (.iload_n 2, 1) := by decide +kernel
theorem dX11_feed_28 : decode cX11_feed 28 = .ok (.invokevirtual 115, 3) := by decide +kernel
theorem dX11_feed_31 : decode cX11_feed 31 = .ok (.aload_n 0, 1) := by decide +kernel
theorem dX11_feed_32 : decode cX11_feed 32 = .ok (.getfield 10, 3) := by decide +kernel
theorem dX11_feed_35 : decode cX11_feed 35 = .ok (.iload_n 3, 1) := by decide +kernel
theorem dX11_feed_36 : decode cX11_feed 36 = .ok (.invokevirtual 115, 3) := by decide +kernel
theorem dX11_feed_39 : decode cX11_feed 39 = .ok (.aload_n 0, 1) := by decide +kernel
theorem dX11_feed_40 : decode cX11_feed 40 = .ok (.getfield 10, 3) := by decide +kernel
theorem dX11_feed_43 : decode cX11_feed 43 = .ok (.iload 4, 2) := by decide +kernel
theorem dX11_feed_45 : decode cX11_feed 45 = .ok (.invokevirtual 115, 3) := by decide +kernel
theorem dX11_feed_48 : decode cX11_feed 48 = .ok (.aload_n 0, 1) := by decide +kernel
theorem dX11_feed_49 : decode cX11_feed 49 = .ok (.getfield 10, 3) := by decide +kernel
theorem dX11_feed_52 : decode cX11_feed 52 = .ok (.iload 5, 2) := by decide +kernel
theorem dX11_feed_54 : decode cX11_feed 54 = .ok (.invokevirtual 115, 3) := by decide +kernel
theorem dX11_feed_57 : decode cX11_feed 57 = .ok (.aload_n 0, 1) := by decide +kernel
theorem dX11_feed_58 : decode cX11_feed 58 = .ok (.getfield 10, 3) := by decide +kernel
theorem dX11_feed_61 : decode cX11_feed 61 = .ok (.getfield 111, 3) := by decide +kernel
theorem dX11_feed_64 : decode cX11_feed 64 = .ok (.ireturn, 1) := by decide +kernel
theorem r_X11_feed (E : kr_E) (p1 : Int32) (p2 : Int32) (p3 : Int32) (p4 : Int32) (p5 : Int32) (M : kr_M) : kR kr_vi E Y_X11_feed 2 0 [(0, kr_r E 0), (1, .int p1), (2, .int p2), (3, .int p3), (4, .int p4), (5, .int p5)] [] M (f_X11_feed p1 p2 p3 p4 p5 M) := by
  rw [f_X11_feed]
  refine kr_aload_n dX11_feed_0 rfl 0 rfl ?_
  refine kr_getA (o := 1) (ci := 11) (j := 0) dX11_feed_1 kr_at_0 fl_RX11_10 rfl ?_
  refine kr_getI (ci := 6) (j := 1) dX11_feed_4 kr_at_1 fl_RX11_111 rfl (fun v1 => ?_)
  refine kr_sipush (v := 1380) dX11_feed_7 (by decide) ?_
  refine kr_icmp_le (tgt := 15) dX11_feed_10 (by decide) ?_ ?_
  · refine kr_aload_n dX11_feed_15 rfl 0 rfl ?_
    refine kr_getA (o := 1) (ci := 11) (j := 0) dX11_feed_16 kr_at_0 fl_RX11_10 rfl ?_
    refine kr_iload_n dX11_feed_19 rfl 1 rfl ?_
    refine kr_Vv (As := [.int p1]) (st := []) zv_X6_putFour dX11_feed_20 ml_RX11_115 kr_at_1 (r_X6_putFour E p1 M) rfl rfl (Nat.le_of_ble_eq_true rfl) rfl (by decide) (Nat.le_of_ble_eq_true rfl) (fun M2 => ?_)
    refine kr_aload_n dX11_feed_23 rfl 0 rfl ?_
    refine kr_getA (o := 1) (ci := 11) (j := 0) dX11_feed_24 kr_at_0 fl_RX11_10 rfl ?_
    refine kr_iload_n dX11_feed_27 rfl 2 rfl ?_
    refine kr_Vv (As := [.int p2]) (st := []) zv_X6_putFour dX11_feed_28 ml_RX11_115 kr_at_1 (r_X6_putFour E p2 M2) rfl rfl (Nat.le_of_ble_eq_true rfl) rfl (by decide) (Nat.le_of_ble_eq_true rfl) (fun M4 => ?_)
    refine kr_aload_n dX11_feed_31 rfl 0 rfl ?_
    refine kr_getA (o := 1) (ci := 11) (j := 0) dX11_feed_32 kr_at_0 fl_RX11_10 rfl ?_
    refine kr_iload_n dX11_feed_35 rfl 3 rfl ?_
    refine kr_Vv (As := [.int p3]) (st := []) zv_X6_putFour dX11_feed_36 ml_RX11_115 kr_at_1 (r_X6_putFour E p3 M4) rfl rfl (Nat.le_of_ble_eq_true rfl) rfl (by decide) (Nat.le_of_ble_eq_true rfl) (fun M6 => ?_)
    refine kr_aload_n dX11_feed_39 rfl 0 rfl ?_
    refine kr_getA (o := 1) (ci := 11) (j := 0) dX11_feed_40 kr_at_0 fl_RX11_10 rfl ?_
    refine kr_iload dX11_feed_43 4 rfl ?_
    refine kr_Vv (As := [.int p4]) (st := []) zv_X6_putFour dX11_feed_45 ml_RX11_115 kr_at_1 (r_X6_putFour E p4 M6) rfl rfl (Nat.le_of_ble_eq_true rfl) rfl (by decide) (Nat.le_of_ble_eq_true rfl) (fun M8 => ?_)
    refine kr_aload_n dX11_feed_48 rfl 0 rfl ?_
    refine kr_getA (o := 1) (ci := 11) (j := 0) dX11_feed_49 kr_at_0 fl_RX11_10 rfl ?_
    refine kr_iload dX11_feed_52 5 rfl ?_
    refine kr_Vv (As := [.int p5]) (st := []) zv_X6_putFour dX11_feed_54 ml_RX11_115 kr_at_1 (r_X6_putFour E p5 M8) rfl rfl (Nat.le_of_ble_eq_true rfl) rfl (by decide) (Nat.le_of_ble_eq_true rfl) (fun M10 => ?_)
    refine kr_aload_n dX11_feed_57 rfl 0 rfl ?_
    refine kr_getA (o := 1) (ci := 11) (j := 0) dX11_feed_58 kr_at_0 fl_RX11_10 rfl ?_
    refine kr_getI (ci := 6) (j := 1) dX11_feed_61 kr_at_1 fl_RX11_111 rfl (fun v12 => ?_)
    exact kr_iret dX11_feed_64 rfl
  · refine kr_iconst (v := -1) dX11_feed_13 (by decide) ?_
    exact kr_iret dX11_feed_14 rfl
theorem dX11_end_0 : decode cX11_end 0 = .ok (.iload_n 1, 1) := by decide +kernel
theorem dX11_end_1 : decode cX11_end 1 = .ok (.ifCond .lt 14, 3) := by decide +kernel
theorem dX11_end_4 : decode cX11_end 4 = .ok (.iload_n 1, 1) := by decide +kernel
theorem dX11_end_5 : decode cX11_end 5 = .ok (.aload_n 0, 1) := by decide +kernel
theorem dX11_end_6 : decode cX11_end 6 = .ok (.getfield 10, 3) := by decide +kernel
theorem dX11_end_9 : decode cX11_end 9 = .ok (.getfield 111, 3) := by decide +kernel
theorem dX11_end_12 : decode cX11_end 12 = .ok (.if_icmp .le 5, 3) := by decide +kernel
theorem dX11_end_15 : decode cX11_end 15 = .ok (.iconst (-1), 1) := by decide +kernel
theorem dX11_end_16 : decode cX11_end 16 = .ok (.ireturn, 1) := by decide +kernel
theorem dX11_end_17 : decode cX11_end 17 = .ok (.aload_n 0, 1) := by decide +kernel
theorem dX11_end_18 : decode cX11_end 18 = .ok (.getfield 10, 3) := by decide +kernel
theorem dX11_end_21 : decode cX11_end 21 = .ok (.iload_n 1, 1) := by decide +kernel
theorem dX11_end_22 : decode cX11_end 22 = .ok (.putfield 111, 3) := by decide +kernel
theorem dX11_end_25 : decode cX11_end 25 = .ok (.iload_n 1, 1) := by decide +kernel
theorem dX11_end_26 : decode cX11_end 26 = .ok (.ireturn, 1) := by decide +kernel
theorem r_X11_end (E : kr_E) (p1 : Int32) (M : kr_M) : kR kr_vi E Y_X11_end 1 0 [(0, kr_r E 0), (1, .int p1)] [] M (f_X11_end p1 M) := by
  rw [f_X11_end]
  refine kr_iload_n dX11_end_0 rfl 1 rfl ?_
  refine kr_if_lt (tgt := 15) dX11_end_1 (by decide) ?_ ?_
  · refine kr_iconst (v := -1) dX11_end_15 (by decide) ?_
    exact kr_iret dX11_end_16 rfl
  · refine kr_iload_n dX11_end_4 rfl 1 rfl ?_
    refine kr_aload_n dX11_end_5 rfl 0 rfl ?_
    refine kr_getA (o := 1) (ci := 11) (j := 0) dX11_end_6 kr_at_0 fl_RX11_10 rfl ?_
    refine kr_getI (ci := 6) (j := 1) dX11_end_9 kr_at_1 fl_RX11_111 rfl (fun v1 => ?_)
    refine kr_icmp_le (tgt := 17) dX11_end_12 (by decide) ?_ ?_
    · refine kr_aload_n dX11_end_17 rfl 0 rfl ?_
      refine kr_getA (o := 1) (ci := 11) (j := 0) dX11_end_18 kr_at_0 fl_RX11_10 rfl ?_
      refine kr_iload_n dX11_end_21 rfl 1 rfl ?_
      refine kr_putI (ci := 6) (j := 1) dX11_end_22 kr_at_1 fl_RX11_111 rfl rfl (fun M2 => ?_)
      refine kr_iload_n dX11_end_25 rfl 1 rfl ?_
      exact kr_iret dX11_end_26 rfl
    · refine kr_iconst (v := -1) dX11_end_15 (by decide) ?_
      exact kr_iret dX11_end_16 rfl
theorem dX11_gorge_0 : decode cX11_gorge 0 = .ok (.aload_n 0, 1) := by decide +kernel
theorem dX11_gorge_1 : decode cX11_gorge 1 = .ok (.getfield 10, 3) := by decide +kernel
theorem dX11_gorge_4 : decode cX11_gorge 4 = .ok (.aload_n 0, 1) := by decide +kernel
theorem dX11_gorge_5 : decode cX11_gorge 5 = .ok (.getfield 23, 3) := by decide +kernel
theorem dX11_gorge_8 : decode cX11_gorge 8 = .ok (.invokevirtual 118, 3) := by decide +kernel
theorem dX11_gorge_11 : decode cX11_gorge 11 = .ok (.aload_n 0, 1) := by decide +kernel
theorem dX11_gorge_12 : decode cX11_gorge 12 = .ok (.getfield 10, 3) := by decide +kernel
theorem dX11_gorge_15 : decode cX11_gorge 15 = .ok (.iconst 0, 1) := by decide +kernel
theorem dX11_gorge_16 : decode cX11_gorge 16 = .ok (.putfield 111, 3) := by decide +kernel
theorem dX11_gorge_19 : decode cX11_gorge 19 = .ok (.aload_n 0, 1) := by decide +kernel
theorem dX11_gorge_20 : decode cX11_gorge 20 = .ok (.getfield 10, 3) := by decide +kernel
theorem dX11_gorge_23 : decode cX11_gorge 23 = .ok (.getfield 121, 3) := by decide +kernel
theorem dX11_gorge_26 : decode cX11_gorge 26 = .ok (.ifCond .eq 6, 3) := by decide +kernel
theorem dX11_gorge_29 : decode cX11_gorge 29 = .ok (.bipush (-4), 2) := by decide +kernel
theorem dX11_gorge_31 : decode cX11_gorge 31 = .ok (.ireturn, 1) := by decide +kernel
theorem dX11_gorge_32 : decode cX11_gorge 32 = .ok (.aload_n 0, 1) := by decide +kernel
theorem dX11_gorge_33 : decode cX11_gorge 33 = .ok (.getfield 23, 3) := by decide +kernel
theorem dX11_gorge_36 : decode cX11_gorge 36 = .ok (.astore_n 1, 1) := by decide +kernel
theorem dX11_gorge_37 : decode cX11_gorge 37 = .ok (.aload_n 0, 1) := by decide +kernel
theorem dX11_gorge_38 : decode cX11_gorge 38 = .ok (.aload_n 0, 1) := by decide +kernel
theorem dX11_gorge_39 : decode cX11_gorge 39 = .ok (.getfield 19, 3) := by decide +kernel
theorem dX11_gorge_42 : decode cX11_gorge 42 = .ok (.putfield 23, 3) := by decide +kernel
theorem dX11_gorge_45 : decode cX11_gorge 45 = .ok (.aload_n 0, 1) := by decide +kernel
theorem dX11_gorge_46 : decode cX11_gorge 46 = .ok (.aload_n 1, 1) := by decide +kernel
theorem dX11_gorge_47 : decode cX11_gorge 47 = .ok (.putfield 19, 3) := by decide +kernel
theorem dX11_gorge_50 : decode cX11_gorge 50 = .ok (.aload_n 0, 1) := by decide +kernel
theorem dX11_gorge_51 : decode cX11_gorge 51 = .ok (.getfield 19, 3) := by decide +kernel
theorem dX11_gorge_54 : decode cX11_gorge 54 = .ok (.getfield 124, 3) := by decide +kernel
theorem dX11_gorge_57 : decode cX11_gorge 57 = .ok (.ireturn, 1) := by decide +kernel
theorem r_X11_gorge (E : kr_E)  (M : kr_M) : kR kr_vi E Y_X11_gorge 11 0 [(0, kr_r E 0)] [] M (f_X11_gorge M) := by
  rw [f_X11_gorge]
  refine kr_aload_n dX11_gorge_0 rfl 0 rfl ?_
  refine kr_getA (o := 1) (ci := 11) (j := 0) dX11_gorge_1 kr_at_0 fl_RX11_10 rfl ?_
  refine kr_aload_n dX11_gorge_4 rfl 0 rfl ?_
  refine kr_getG (o := 1) (ci := 11) (j := 2) dX11_gorge_5 kr_at_0 fl_RX11_23 rfl (fun g1 h_g1 => ?_)
  refine kr_Vv (As := [kr_r E g1]) (st := []) zv_X6_parse dX11_gorge_8 ml_RX11_118 kr_at_1 (r_X6_parse E g1 h_g1 M) rfl rfl (Nat.le_of_ble_eq_true rfl) rfl (by decide) (Nat.le_of_ble_eq_true rfl) (fun M2 => ?_)
  refine kr_aload_n dX11_gorge_11 rfl 0 rfl ?_
  refine kr_getA (o := 1) (ci := 11) (j := 0) dX11_gorge_12 kr_at_0 fl_RX11_10 rfl ?_
  refine kr_iconst (v := 0) dX11_gorge_15 (by decide) ?_
  refine kr_putI (ci := 6) (j := 1) dX11_gorge_16 kr_at_1 fl_RX11_111 rfl rfl (fun M4 => ?_)
  refine kr_aload_n dX11_gorge_19 rfl 0 rfl ?_
  refine kr_getA (o := 1) (ci := 11) (j := 0) dX11_gorge_20 kr_at_0 fl_RX11_10 rfl ?_
  refine kr_getI (ci := 6) (j := 2) dX11_gorge_23 kr_at_1 fl_RX11_121 rfl (fun v5 => ?_)
  refine kr_if_eq (tgt := 32) dX11_gorge_26 (by decide) ?_ ?_
  · refine kr_aload_n dX11_gorge_32 rfl 0 rfl ?_
    refine kr_getG (o := 1) (ci := 11) (j := 2) dX11_gorge_33 kr_at_0 fl_RX11_23 rfl (fun g6 h_g6 => ?_)
    refine kr_astore_n (lv' := [(1, kr_r E g6), (0, kr_r E 0)]) dX11_gorge_36 rfl (by decide) rfl ?_
    refine kr_aload_n dX11_gorge_37 rfl 1 rfl ?_
    refine kr_aload_n dX11_gorge_38 rfl 1 rfl ?_
    refine kr_getG (o := 0) (ci := 11) (j := 1) dX11_gorge_39 kr_at_0 fl_RX11_19 rfl (fun g7 h_g7 => ?_)
    refine kr_putG (o := 1) (ci := 11) (j := 2) dX11_gorge_42 kr_at_0 fl_RX11_23 rfl rfl rfl (by decide) (fun _ => kr_fsg1) (fun M8 => ?_)
    refine kr_aload_n dX11_gorge_45 rfl 1 rfl ?_
    refine kr_aload_n dX11_gorge_46 rfl 0 rfl ?_
    refine kr_putG (o := 0) (ci := 11) (j := 1) dX11_gorge_47 kr_at_0 fl_RX11_19 rfl rfl rfl (by decide) (fun _ => kr_fsg0) (fun M9 => ?_)
    refine kr_aload_n dX11_gorge_50 rfl 1 rfl ?_
    refine kr_getG (o := 0) (ci := 11) (j := 1) dX11_gorge_51 kr_at_0 fl_RX11_19 rfl (fun g10 h_g10 => ?_)
    refine kr_getI (ci := 2) (j := 0) dX11_gorge_54 h_g10 fl_RX11_124 rfl (fun v11 => ?_)
    exact kr_iret dX11_gorge_57 rfl
  · refine kr_bipush (v := -4) dX11_gorge_29 (by decide) ?_
    exact kr_iret dX11_gorge_31 rfl
theorem dX11_fault_0 : decode cX11_fault 0 = .ok (.iload_n 1, 1) := by decide +kernel
theorem dX11_fault_1 : decode cX11_fault 1 = .ok (.ifCond .ne 11, 3) := by decide +kernel
theorem dX11_fault_4 : decode cX11_fault 4 = .ok (.aload_n 0, 1) := by decide +kernel
theorem dX11_fault_5 : decode cX11_fault 5 = .ok (.getfield 10, 3) := by decide +kernel
theorem dX11_fault_8 : decode cX11_fault 8 = .ok (.getfield 121, 3) := by decide +kernel
theorem dX11_fault_11 : decode cX11_fault 11 = .ok (.ireturn, 1) := by decide +kernel
theorem dX11_fault_12 : decode cX11_fault 12 = .ok (.iload_n 1, 1) := by decide +kernel
theorem dX11_fault_13 : decode cX11_fault 13 = .ok (.iconst 1, 1) := by decide +kernel
theorem dX11_fault_14 : decode cX11_fault 14 = .ok (.if_icmp .ne 13, 3) := by decide +kernel
theorem dX11_fault_17 : decode cX11_fault 17 = .ok (.aload_n 0, 1) := by decide +kernel
theorem dX11_fault_18 : decode cX11_fault 18 = .ok (.getfield 10, 3) := by decide +kernel
theorem dX11_fault_21 : decode cX11_fault 21 = .ok (.getfield 127, 3) := by decide +kernel
theorem dX11_fault_24 : decode cX11_fault 24 = .ok (.goto 4, 3) := by decide +kernel
theorem dX11_fault_27 : decode cX11_fault 27 = .ok (.iconst (-1), 1) := by decide +kernel
theorem dX11_fault_28 : decode cX11_fault 28 = .ok (.ireturn, 1) := by decide +kernel
theorem r_X11_fault (E : kr_E) (p1 : Int32) (M : kr_M) : kR kr_vi E Y_X11_fault 1 0 [(0, kr_r E 0), (1, .int p1)] [] M (f_X11_fault p1 M) := by
  rw [f_X11_fault]
  refine kr_iload_n dX11_fault_0 rfl 1 rfl ?_
  refine kr_if_ne (tgt := 12) dX11_fault_1 (by decide) ?_ ?_
  · refine kr_iload_n dX11_fault_12 rfl 1 rfl ?_
    refine kr_iconst (v := 1) dX11_fault_13 (by decide) ?_
    refine kr_icmp_ne (tgt := 27) dX11_fault_14 (by decide) ?_ ?_
    · refine kr_iconst (v := -1) dX11_fault_27 (by decide) ?_
      exact kr_iret dX11_fault_28 rfl
    · refine kr_aload_n dX11_fault_17 rfl 0 rfl ?_
      refine kr_getA (o := 1) (ci := 11) (j := 0) dX11_fault_18 kr_at_0 fl_RX11_10 rfl ?_
      refine kr_getI (ci := 6) (j := 3) dX11_fault_21 kr_at_1 fl_RX11_127 rfl (fun v1 => ?_)
      refine kr_goto (tgt := 28) dX11_fault_24 (by decide) ?_
      exact kr_iret dX11_fault_28 rfl
  · refine kr_aload_n dX11_fault_4 rfl 0 rfl ?_
    refine kr_getA (o := 1) (ci := 11) (j := 0) dX11_fault_5 kr_at_0 fl_RX11_10 rfl ?_
    refine kr_getI (ci := 6) (j := 2) dX11_fault_8 kr_at_1 fl_RX11_121 rfl (fun v2 => ?_)
    exact kr_iret dX11_fault_11 rfl
theorem dX11_knot_0 : decode cX11_knot 0 = .ok (.aload_n 0, 1) := by decide +kernel
theorem dX11_knot_1 : decode cX11_knot 1 = .ok (.getfield 19, 3) := by decide +kernel
theorem dX11_knot_4 : decode cX11_knot 4 = .ok (.iload_n 1, 1) := by decide +kernel
theorem dX11_knot_5 : decode cX11_knot 5 = .ok (.invokevirtual 130, 3) := by decide +kernel
theorem dX11_knot_8 : decode cX11_knot 8 = .ok (.ifCond .ne 6, 3) := by decide +kernel
theorem dX11_knot_11 : decode cX11_knot 11 = .ok (.bipush (-2), 2) := by decide +kernel
theorem dX11_knot_13 : decode cX11_knot 13 = .ok (.ireturn, 1) := by decide +kernel
theorem dX11_knot_14 : decode cX11_knot 14 = .ok (.iload_n 2, 1) := by decide +kernel
theorem dX11_knot_15 : decode cX11_knot 15 = .ok (.lookupswitch 45 #[(0, 25), (1, 35)], 25) := by decide +kernel
theorem dX11_knot_40 : decode cX11_knot 40 = .ok (.aload_n 0, 1) := by decide +kernel
theorem dX11_knot_41 : decode cX11_knot 41 = .ok (.getfield 19, 3) := by decide +kernel
theorem dX11_knot_44 : decode cX11_knot 44 = .ok (.getfield 134, 3) := by decide +kernel
theorem dX11_knot_47 : decode cX11_knot 47 = .ok (.iload_n 1, 1) := by decide +kernel
theorem dX11_knot_48 : decode cX11_knot 48 = .ok (.iaload, 1) := by decide +kernel
theorem dX11_knot_49 : decode cX11_knot 49 = .ok (.ireturn, 1) := by decide +kernel
theorem dX11_knot_50 : decode cX11_knot 50 = .ok (.aload_n 0, 1) := by decide +kernel
theorem dX11_knot_51 : decode cX11_knot 51 = .ok (.getfield 19, 3) := by decide +kernel
theorem dX11_knot_54 : decode cX11_knot 54 = .ok (.getfield 137, 3) := by decide +kernel
theorem dX11_knot_57 : decode cX11_knot 57 = .ok (.iload_n 1, 1) := by decide +kernel
theorem dX11_knot_58 : decode cX11_knot 58 = .ok (.iaload, 1) := by decide +kernel
theorem dX11_knot_59 : decode cX11_knot 59 = .ok (.ireturn, 1) := by decide +kernel
theorem dX11_knot_60 : decode cX11_knot 60 = .ok (.bipush (-2), 2) := by decide +kernel
theorem dX11_knot_62 : decode cX11_knot 62 = .ok (.ireturn, 1) := by decide +kernel
theorem r_X11_knot (E : kr_E) (p1 : Int32) (p2 : Int32) (M : kr_M) : kR kr_vi E Y_X11_knot 2 0 [(0, kr_r E 0), (1, .int p1), (2, .int p2)] [] M (f_X11_knot p1 p2 M) := by
  rw [f_X11_knot]
  refine kr_aload_n dX11_knot_0 rfl 0 rfl ?_
  refine kr_getG (o := 0) (ci := 11) (j := 1) dX11_knot_1 kr_at_0 fl_RX11_19 rfl (fun g1 h_g1 => ?_)
  refine kr_iload_n dX11_knot_4 rfl 1 rfl ?_
  refine kr_Vi (As := [.int p1]) (st := []) zv_X2_hasKind dX11_knot_5 ml_RX11_130 h_g1 (r_X2_hasKind E g1 h_g1 p1 M) rfl rfl (Nat.le_of_ble_eq_true rfl) rfl (by decide) (Nat.le_of_ble_eq_true rfl) (fun r3 M2 => ?_)
  refine kr_if_ne (tgt := 14) dX11_knot_8 (by decide) ?_ ?_
  · refine kr_iload_n dX11_knot_14 rfl 2 rfl ?_
    refine kr_case (0 : Int32) (fun c4 => ?_) (fun c4 => ?_)
    · refine kr_lsw (off := 25) (tgt := 40) dX11_knot_15 (by decide) (by rw [c4]; decide) (by decide) ?_
      refine kr_aload_n dX11_knot_40 rfl 0 rfl ?_
      refine kr_getG (o := 0) (ci := 11) (j := 1) dX11_knot_41 kr_at_0 fl_RX11_19 rfl (fun g5 h_g5 => ?_)
      refine kr_getA (o := 1) (ci := 2) (j := 10) dX11_knot_44 h_g5 fl_RX11_134 rfl ?_
      refine kr_iload_n dX11_knot_47 rfl 1 rfl ?_
      refine kr_iald dX11_knot_48 (kr_shG1 _ h_g5) (fun v6 => ?_)
      exact kr_iret dX11_knot_49 rfl
    refine kr_case (1 : Int32) (fun c7 => ?_) (fun c7 => ?_)
    · refine kr_lsw (off := 35) (tgt := 50) dX11_knot_15 (by decide) (by rw [c7]; decide) (by decide) ?_
      refine kr_aload_n dX11_knot_50 rfl 0 rfl ?_
      refine kr_getG (o := 0) (ci := 11) (j := 1) dX11_knot_51 kr_at_0 fl_RX11_19 rfl (fun g8 h_g8 => ?_)
      refine kr_getA (o := 2) (ci := 2) (j := 11) dX11_knot_54 h_g8 fl_RX11_137 rfl ?_
      refine kr_iload_n dX11_knot_57 rfl 1 rfl ?_
      refine kr_iald dX11_knot_58 (kr_shG2 _ h_g8) (fun v9 => ?_)
      exact kr_iret dX11_knot_59 rfl
    refine kr_lsw (off := 45) (tgt := 60) dX11_knot_15 (by decide) (by rw [lv_osw c4 (show (0 : Int32).toInt = 0 by decide), lv_osw c7 (show (1 : Int32).toInt = 1 by decide)]; rfl) (by decide) ?_
    refine kr_bipush (v := -2) dX11_knot_60 (by decide) ?_
    exact kr_iret dX11_knot_62 rfl
  · refine kr_bipush (v := -2) dX11_knot_11 (by decide) ?_
    exact kr_iret dX11_knot_13 rfl
theorem dX11_word_0 : decode cX11_word 0 = .ok (.aload_n 0, 1) := by decide +kernel
theorem dX11_word_1 : decode cX11_word 1 = .ok (.getfield 19, 3) := by decide +kernel
theorem dX11_word_4 : decode cX11_word 4 = .ok (.iload_n 1, 1) := by decide +kernel
theorem dX11_word_5 : decode cX11_word 5 = .ok (.invokevirtual 140, 3) := by decide +kernel
theorem dX11_word_8 : decode cX11_word 8 = .ok (.ifCond .ne 6, 3) := by decide +kernel
theorem dX11_word_11 : decode cX11_word 11 = .ok (.bipush (-2), 2) := by decide +kernel
theorem dX11_word_13 : decode cX11_word 13 = .ok (.ireturn, 1) := by decide +kernel
theorem dX11_word_14 : decode cX11_word 14 = .ok (.aload_n 0, 1) := by decide +kernel
theorem dX11_word_15 : decode cX11_word 15 = .ok (.getfield 19, 3) := by decide +kernel
theorem dX11_word_18 : decode cX11_word 18 = .ok (.getfield 143, 3) := by decide +kernel
theorem dX11_word_21 : decode cX11_word 21 = .ok (.iload_n 1, 1) := by decide +kernel
theorem dX11_word_22 : decode cX11_word 22 = .ok (.aaload, 1) := by decide +kernel
theorem dX11_word_23 : decode cX11_word 23 = .ok (.iload_n 2, 1) := by decide +kernel
theorem dX11_word_24 : decode cX11_word 24 = .ok (.invokevirtual 147, 3) := by decide +kernel
theorem dX11_word_27 : decode cX11_word 27 = .ok (.ireturn, 1) := by decide +kernel
theorem r_X11_word (E : kr_E) (p1 : Int32) (p2 : Int32) (M : kr_M) : kR kr_vi E Y_X11_word 2 0 [(0, kr_r E 0), (1, .int p1), (2, .int p2)] [] M (f_X11_word p1 p2 M) := by
  rw [f_X11_word]
  refine kr_aload_n dX11_word_0 rfl 0 rfl ?_
  refine kr_getG (o := 0) (ci := 11) (j := 1) dX11_word_1 kr_at_0 fl_RX11_19 rfl (fun g1 h_g1 => ?_)
  refine kr_iload_n dX11_word_4 rfl 1 rfl ?_
  refine kr_Vi (As := [.int p1]) (st := []) zv_X2_hasWord dX11_word_5 ml_RX11_140 h_g1 (r_X2_hasWord E g1 h_g1 p1 M) rfl rfl (Nat.le_of_ble_eq_true rfl) rfl (by decide) (Nat.le_of_ble_eq_true rfl) (fun r3 M2 => ?_)
  refine kr_if_ne (tgt := 14) dX11_word_8 (by decide) ?_ ?_
  · refine kr_aload_n dX11_word_14 rfl 0 rfl ?_
    refine kr_getG (o := 0) (ci := 11) (j := 1) dX11_word_15 kr_at_0 fl_RX11_19 rfl (fun g4 h_g4 => ?_)
    refine kr_getA (o := 3) (ci := 2) (j := 12) dX11_word_18 h_g4 fl_RX11_143 rfl ?_
    refine kr_iload_n dX11_word_21 rfl 1 rfl ?_
    refine kr_aaldT dX11_word_22 h_g4 (fun h5 => ?_)
    refine kr_iload_n dX11_word_23 rfl 2 rfl ?_
    refine kr_Vi (As := [.int p2]) (st := []) zv_X7_kindAt dX11_word_24 ml_RX11_147 h5 (r_X7_kindAt E (kr_tx g4 p1) h5 p2 M2) rfl rfl (Nat.le_of_ble_eq_true rfl) rfl (by decide) (Nat.le_of_ble_eq_true rfl) (fun r7 M6 => ?_)
    exact kr_iret dX11_word_27 rfl
  · refine kr_bipush (v := -2) dX11_word_11 (by decide) ?_
    exact kr_iret dX11_word_13 rfl
theorem dX11_means_0 : decode cX11_means 0 = .ok (.aload_n 0, 1) := by decide +kernel
theorem dX11_means_1 : decode cX11_means 1 = .ok (.getfield 19, 3) := by decide +kernel
theorem dX11_means_4 : decode cX11_means 4 = .ok (.iload_n 1, 1) := by decide +kernel
theorem dX11_means_5 : decode cX11_means 5 = .ok (.invokevirtual 140, 3) := by decide +kernel
theorem dX11_means_8 : decode cX11_means 8 = .ok (.ifCond .eq 15, 3) := by decide +kernel
theorem dX11_means_11 : decode cX11_means 11 = .ok (.aload_n 0, 1) := by decide +kernel
theorem dX11_means_12 : decode cX11_means 12 = .ok (.getfield 19, 3) := by decide +kernel
theorem dX11_means_15 : decode cX11_means 15 = .ok (.getfield 151, 3) := by decide +kernel
theorem dX11_means_18 : decode cX11_means 18 = .ok (.iload_n 1, 1) := by decide +kernel
theorem dX11_means_19 : decode cX11_means 19 = .ok (.iaload, 1) := by decide +kernel
theorem dX11_means_20 : decode cX11_means 20 = .ok (.goto 5, 3) := by decide +kernel
theorem dX11_means_23 : decode cX11_means 23 = .ok (.bipush (-2), 2) := by decide +kernel
theorem dX11_means_25 : decode cX11_means 25 = .ok (.ireturn, 1) := by decide +kernel
theorem r_X11_means (E : kr_E) (p1 : Int32) (M : kr_M) : kR kr_vi E Y_X11_means 2 0 [(0, kr_r E 0), (1, .int p1)] [] M (f_X11_means p1 M) := by
  rw [f_X11_means]
  refine kr_aload_n dX11_means_0 rfl 0 rfl ?_
  refine kr_getG (o := 0) (ci := 11) (j := 1) dX11_means_1 kr_at_0 fl_RX11_19 rfl (fun g1 h_g1 => ?_)
  refine kr_iload_n dX11_means_4 rfl 1 rfl ?_
  refine kr_Vi (As := [.int p1]) (st := []) zv_X2_hasWord dX11_means_5 ml_RX11_140 h_g1 (r_X2_hasWord E g1 h_g1 p1 M) rfl rfl (Nat.le_of_ble_eq_true rfl) rfl (by decide) (Nat.le_of_ble_eq_true rfl) (fun r3 M2 => ?_)
  refine kr_if_eq (tgt := 23) dX11_means_8 (by decide) ?_ ?_
  · refine kr_bipush (v := -2) dX11_means_23 (by decide) ?_
    exact kr_iret dX11_means_25 rfl
  · refine kr_aload_n dX11_means_11 rfl 0 rfl ?_
    refine kr_getG (o := 0) (ci := 11) (j := 1) dX11_means_12 kr_at_0 fl_RX11_19 rfl (fun g4 h_g4 => ?_)
    refine kr_getA (o := 4) (ci := 2) (j := 13) dX11_means_15 h_g4 fl_RX11_151 rfl ?_
    refine kr_iload_n dX11_means_18 rfl 1 rfl ?_
    refine kr_iald dX11_means_19 (kr_shG4 _ h_g4) (fun v5 => ?_)
    refine kr_goto (tgt := 25) dX11_means_20 (by decide) ?_
    exact kr_iret dX11_means_25 rfl
theorem dX11_rope_0 : decode cX11_rope 0 = .ok (.aload_n 0, 1) := by decide +kernel
theorem dX11_rope_1 : decode cX11_rope 1 = .ok (.getfield 19, 3) := by decide +kernel
theorem dX11_rope_4 : decode cX11_rope 4 = .ok (.iload_n 1, 1) := by decide +kernel
theorem dX11_rope_5 : decode cX11_rope 5 = .ok (.invokevirtual 154, 3) := by decide +kernel
theorem dX11_rope_8 : decode cX11_rope 8 = .ok (.ifCond .ne 7, 3) := by decide +kernel
theorem dX11_rope_11 : decode cX11_rope 11 = .ok (.sipush (-1000), 3) := by decide +kernel
theorem dX11_rope_14 : decode cX11_rope 14 = .ok (.ireturn, 1) := by decide +kernel
theorem dX11_rope_15 : decode cX11_rope 15 = .ok (.aload_n 0, 1) := by decide +kernel
theorem dX11_rope_16 : decode cX11_rope 16 = .ok (.getfield 19, 3) := by decide +kernel
theorem dX11_rope_19 : decode cX11_rope 19 = .ok (.getfield 157, 3) := by decide +kernel
theorem dX11_rope_22 : decode cX11_rope 22 = .ok (.iload_n 1, 1) := by decide +kernel
theorem dX11_rope_23 : decode cX11_rope 23 = .ok (.aaload, 1) := by decide +kernel
theorem dX11_rope_24 : decode cX11_rope 24 = .ok (.astore_n 3, 1) := by decide +kernel
theorem dX11_rope_25 : decode cX11_rope 25 = .ok (.iload_n 2, 1) := by decide +kernel
theorem dX11_rope_26 : decode cX11_rope 26 = .ok (.tableswitch 88 0 6 #[42, 47, 52, 57, 65, 74, 83], 42) := by decide +kernel
theorem dX11_rope_68 : decode cX11_rope 68 = .ok (.aload_n 3, 1) := by decide +kernel
theorem dX11_rope_69 : decode cX11_rope 69 = .ok (.getfield 161, 3) := by decide +kernel
theorem dX11_rope_72 : decode cX11_rope 72 = .ok (.ireturn, 1) := by decide +kernel
theorem dX11_rope_73 : decode cX11_rope 73 = .ok (.aload_n 3, 1) := by decide +kernel
theorem dX11_rope_74 : decode cX11_rope 74 = .ok (.getfield 166, 3) := by decide +kernel
theorem dX11_rope_77 : decode cX11_rope 77 = .ok (.ireturn, 1) := by decide +kernel
theorem dX11_rope_78 : decode cX11_rope 78 = .ok (.aload_n 3, 1) := by decide +kernel
theorem dX11_rope_79 : decode cX11_rope 79 = .ok (.getfield 169, 3) := by decide +kernel
theorem dX11_rope_82 : decode cX11_rope 82 = .ok (.ireturn, 1) := by decide +kernel
theorem dX11_rope_83 : decode cX11_rope 83 = .ok (.aload_n 3, 1) := by decide +kernel
theorem dX11_rope_84 : decode cX11_rope 84 = .ok (.getfield 172, 3) := by decide +kernel
theorem dX11_rope_87 : decode cX11_rope 87 = .ok (.getfield 175, 3) := by decide +kernel
theorem dX11_rope_90 : decode cX11_rope 90 = .ok (.ireturn, 1) := by decide +kernel
theorem dX11_rope_91 : decode cX11_rope 91 = .ok (.aload_n 0, 1) := by decide +kernel
theorem dX11_rope_92 : decode cX11_rope 92 = .ok (.getfield 19, 3) := by decide +kernel
theorem dX11_rope_95 : decode cX11_rope 95 = .ok (.iload_n 1, 1) := by decide +kernel
theorem dX11_rope_96 : decode cX11_rope 96 = .ok (.invokevirtual 176, 3) := by decide +kernel
theorem dX11_rope_99 : decode cX11_rope 99 = .ok (.ireturn, 1) := by decide +kernel
theorem dX11_rope_100 : decode cX11_rope 100 = .ok (.aload_n 0, 1) := by decide +kernel
theorem dX11_rope_101 : decode cX11_rope 101 = .ok (.getfield 19, 3) := by decide +kernel
theorem dX11_rope_104 : decode cX11_rope 104 = .ok (.iload_n 1, 1) := by decide +kernel
theorem dX11_rope_105 : decode cX11_rope 105 = .ok (.invokevirtual 179, 3) := by decide +kernel
theorem dX11_rope_108 : decode cX11_rope 108 = .ok (.ireturn, 1) := by decide +kernel
theorem dX11_rope_109 : decode cX11_rope 109 = .ok (.aload_n 3, 1) := by decide +kernel
theorem dX11_rope_110 : decode cX11_rope 110 = .ok (.getfield 182, 3) := by decide +kernel
theorem dX11_rope_113 : decode cX11_rope 113 = .ok (.ireturn, 1) := by decide +kernel
theorem dX11_rope_114 : decode cX11_rope 114 = .ok (.sipush (-1000), 3) := by decide +kernel
theorem dX11_rope_117 : decode cX11_rope 117 = .ok (.ireturn, 1) := by decide +kernel
theorem r_X11_rope (E : kr_E) (p1 : Int32) (p2 : Int32) (M : kr_M) : kR kr_vi E Y_X11_rope 3 0 [(0, kr_r E 0), (1, .int p1), (2, .int p2)] [] M (f_X11_rope p1 p2 M) := by
  rw [f_X11_rope]
  refine kr_aload_n dX11_rope_0 rfl 0 rfl ?_
  refine kr_getG (o := 0) (ci := 11) (j := 1) dX11_rope_1 kr_at_0 fl_RX11_19 rfl (fun g1 h_g1 => ?_)
  refine kr_iload_n dX11_rope_4 rfl 1 rfl ?_
  refine kr_Vi (As := [.int p1]) (st := []) zv_X2_hasRope dX11_rope_5 ml_RX11_154 h_g1 (r_X2_hasRope E g1 h_g1 p1 M) rfl rfl (Nat.le_of_ble_eq_true rfl) rfl (by decide) (Nat.le_of_ble_eq_true rfl) (fun r3 M2 => ?_)
  refine kr_if_ne (tgt := 15) dX11_rope_8 (by decide) ?_ ?_
  · refine kr_aload_n dX11_rope_15 rfl 0 rfl ?_
    refine kr_getG (o := 0) (ci := 11) (j := 1) dX11_rope_16 kr_at_0 fl_RX11_19 rfl (fun g4 h_g4 => ?_)
    refine kr_getA (o := 5) (ci := 2) (j := 14) dX11_rope_19 h_g4 fl_RX11_157 rfl ?_
    refine kr_iload_n dX11_rope_22 rfl 1 rfl ?_
    refine kr_aaldR dX11_rope_23 h_g4 (fun h5 => ?_)
    refine kr_astore_n (lv' := [(3, kr_r E (kr_rp g4 p1)), (0, kr_r E 0), (1, .int p1), (2, .int p2)]) dX11_rope_24 rfl (by decide) rfl ?_
    refine kr_iload_n dX11_rope_25 rfl 3 rfl ?_
    refine kr_case (0 : Int32) (fun c6 => ?_) (fun c6 => ?_)
    · refine kr_tin (v := 0) (off := 42) (tgt := 68) c6 dX11_rope_26 (by decide) (by decide) (by decide) (by decide) ?_
      refine kr_aload_n dX11_rope_68 rfl 0 rfl ?_
      refine kr_getI (ci := 5) (j := 0) dX11_rope_69 h5 fl_RX11_161 rfl (fun v7 => ?_)
      exact kr_iret dX11_rope_72 rfl
    refine kr_case (1 : Int32) (fun c8 => ?_) (fun c8 => ?_)
    · refine kr_tin (v := 1) (off := 47) (tgt := 73) c8 dX11_rope_26 (by decide) (by decide) (by decide) (by decide) ?_
      refine kr_aload_n dX11_rope_73 rfl 0 rfl ?_
      refine kr_getI (ci := 5) (j := 1) dX11_rope_74 h5 fl_RX11_166 rfl (fun v9 => ?_)
      exact kr_iret dX11_rope_77 rfl
    refine kr_case (2 : Int32) (fun c10 => ?_) (fun c10 => ?_)
    · refine kr_tin (v := 2) (off := 52) (tgt := 78) c10 dX11_rope_26 (by decide) (by decide) (by decide) (by decide) ?_
      refine kr_aload_n dX11_rope_78 rfl 0 rfl ?_
      refine kr_getI (ci := 5) (j := 2) dX11_rope_79 h5 fl_RX11_169 rfl (fun v11 => ?_)
      exact kr_iret dX11_rope_82 rfl
    refine kr_case (3 : Int32) (fun c12 => ?_) (fun c12 => ?_)
    · refine kr_tin (v := 3) (off := 57) (tgt := 83) c12 dX11_rope_26 (by decide) (by decide) (by decide) (by decide) ?_
      refine kr_aload_n dX11_rope_83 rfl 0 rfl ?_
      refine kr_getA (o := 3) (ci := 5) (j := 5) dX11_rope_84 h5 fl_RX11_172 rfl ?_
      refine kr_getI (ci := 7) (j := 1) dX11_rope_87 (kr_shR3 _ h5) fl_RX11_175 rfl (fun v13 => ?_)
      exact kr_iret dX11_rope_90 rfl
    refine kr_case (4 : Int32) (fun c14 => ?_) (fun c14 => ?_)
    · refine kr_tin (v := 4) (off := 65) (tgt := 91) c14 dX11_rope_26 (by decide) (by decide) (by decide) (by decide) ?_
      refine kr_aload_n dX11_rope_91 rfl 1 rfl ?_
      refine kr_getG (o := 0) (ci := 11) (j := 1) dX11_rope_92 kr_at_0 fl_RX11_19 rfl (fun g15 h_g15 => ?_)
      refine kr_iload_n dX11_rope_95 rfl 2 rfl ?_
      refine kr_Vi (As := [.int p1]) (st := []) zv_X2_inchesOf dX11_rope_96 ml_RX11_176 h_g15 (r_X2_inchesOf E g15 h_g15 p1 M2) rfl rfl (Nat.le_of_ble_eq_true rfl) rfl (by decide) (Nat.le_of_ble_eq_true rfl) (fun r17 M16 => ?_)
      exact kr_iret dX11_rope_99 rfl
    refine kr_case (5 : Int32) (fun c18 => ?_) (fun c18 => ?_)
    · refine kr_tin (v := 5) (off := 74) (tgt := 100) c18 dX11_rope_26 (by decide) (by decide) (by decide) (by decide) ?_
      refine kr_aload_n dX11_rope_100 rfl 1 rfl ?_
      refine kr_getG (o := 0) (ci := 11) (j := 1) dX11_rope_101 kr_at_0 fl_RX11_19 rfl (fun g19 h_g19 => ?_)
      refine kr_iload_n dX11_rope_104 rfl 2 rfl ?_
      refine kr_Vi (As := [.int p1]) (st := []) zv_X2_strengthOf dX11_rope_105 ml_RX11_179 h_g19 (r_X2_strengthOf E g19 h_g19 p1 M2) rfl rfl (Nat.le_of_ble_eq_true rfl) rfl (by decide) (Nat.le_of_ble_eq_true rfl) (fun r21 M20 => ?_)
      exact kr_iret dX11_rope_108 rfl
    refine kr_case (6 : Int32) (fun c22 => ?_) (fun c22 => ?_)
    · refine kr_tin (v := 6) (off := 83) (tgt := 109) c22 dX11_rope_26 (by decide) (by decide) (by decide) (by decide) ?_
      refine kr_aload_n dX11_rope_109 rfl 0 rfl ?_
      refine kr_getI (ci := 5) (j := 3) dX11_rope_110 h5 fl_RX11_182 rfl (fun v23 => ?_)
      exact kr_iret dX11_rope_113 rfl
    refine kr_tout (tgt := 114) dX11_rope_26 (by have zc6 := lv_neT c6 (show (0 : Int32).toInt = 0 by decide); have zc8 := lv_neT c8 (show (1 : Int32).toInt = 1 by decide); have zc10 := lv_neT c10 (show (2 : Int32).toInt = 2 by decide); have zc12 := lv_neT c12 (show (3 : Int32).toInt = 3 by decide); have zc14 := lv_neT c14 (show (4 : Int32).toInt = 4 by decide); have zc18 := lv_neT c18 (show (5 : Int32).toInt = 5 by decide); have zc22 := lv_neT c22 (show (6 : Int32).toInt = 6 by decide); omega) (by decide) ?_
    refine kr_sipush (v := -1000) dX11_rope_114 (by decide) ?_
    exact kr_iret dX11_rope_117 rfl
  · refine kr_sipush (v := -1000) dX11_rope_11 (by decide) ?_
    exact kr_iret dX11_rope_14 rfl
theorem dX11_at_0 : decode cX11_at 0 = .ok (.aload_n 0, 1) := by decide +kernel
theorem dX11_at_1 : decode cX11_at 1 = .ok (.getfield 19, 3) := by decide +kernel
theorem dX11_at_4 : decode cX11_at 4 = .ok (.iload_n 1, 1) := by decide +kernel
theorem dX11_at_5 : decode cX11_at 5 = .ok (.invokevirtual 154, 3) := by decide +kernel
theorem dX11_at_8 : decode cX11_at 8 = .ok (.ifCond .ne 6, 3) := by decide +kernel
theorem dX11_at_11 : decode cX11_at 11 = .ok (.bipush (-2), 2) := by decide +kernel
theorem dX11_at_13 : decode cX11_at 13 = .ok (.ireturn, 1) := by decide +kernel
theorem dX11_at_14 : decode cX11_at 14 = .ok (.aload_n 0, 1) := by decide +kernel
theorem dX11_at_15 : decode cX11_at 15 = .ok (.getfield 19, 3) := by decide +kernel
theorem dX11_at_18 : decode cX11_at 18 = .ok (.getfield 157, 3) := by decide +kernel
theorem dX11_at_21 : decode cX11_at 21 = .ok (.iload_n 1, 1) := by decide +kernel
theorem dX11_at_22 : decode cX11_at 22 = .ok (.aaload, 1) := by decide +kernel
theorem dX11_at_23 : decode cX11_at 23 = .ok (.getfield 172, 3) := by decide +kernel
theorem dX11_at_26 : decode cX11_at 26 = .ok (.iload_n 2, 1) := by decide +kernel
theorem dX11_at_27 : decode cX11_at 27 = .ok (.invokevirtual 147, 3) := by decide +kernel
theorem dX11_at_30 : decode cX11_at 30 = .ok (.ireturn, 1) := by decide +kernel
theorem r_X11_at (E : kr_E) (p1 : Int32) (p2 : Int32) (M : kr_M) : kR kr_vi E Y_X11_at 2 0 [(0, kr_r E 0), (1, .int p1), (2, .int p2)] [] M (f_X11_at p1 p2 M) := by
  rw [f_X11_at]
  refine kr_aload_n dX11_at_0 rfl 0 rfl ?_
  refine kr_getG (o := 0) (ci := 11) (j := 1) dX11_at_1 kr_at_0 fl_RX11_19 rfl (fun g1 h_g1 => ?_)
  refine kr_iload_n dX11_at_4 rfl 1 rfl ?_
  refine kr_Vi (As := [.int p1]) (st := []) zv_X2_hasRope dX11_at_5 ml_RX11_154 h_g1 (r_X2_hasRope E g1 h_g1 p1 M) rfl rfl (Nat.le_of_ble_eq_true rfl) rfl (by decide) (Nat.le_of_ble_eq_true rfl) (fun r3 M2 => ?_)
  refine kr_if_ne (tgt := 14) dX11_at_8 (by decide) ?_ ?_
  · refine kr_aload_n dX11_at_14 rfl 0 rfl ?_
    refine kr_getG (o := 0) (ci := 11) (j := 1) dX11_at_15 kr_at_0 fl_RX11_19 rfl (fun g4 h_g4 => ?_)
    refine kr_getA (o := 5) (ci := 2) (j := 14) dX11_at_18 h_g4 fl_RX11_157 rfl ?_
    refine kr_iload_n dX11_at_21 rfl 1 rfl ?_
    refine kr_aaldR dX11_at_22 h_g4 (fun h5 => ?_)
    refine kr_getA (o := 3) (ci := 5) (j := 5) dX11_at_23 h5 fl_RX11_172 rfl ?_
    refine kr_iload_n dX11_at_26 rfl 2 rfl ?_
    refine kr_Vi (As := [.int p2]) (st := []) zv_X7_kindAt dX11_at_27 ml_RX11_147 (kr_shR3 _ h5) (r_X7_kindAt E ((kr_rp g4 p1) + 3) (kr_shR3 _ h5) p2 M2) rfl rfl (Nat.le_of_ble_eq_true rfl) rfl (by decide) (Nat.le_of_ble_eq_true rfl) (fun r7 M6 => ?_)
    exact kr_iret dX11_at_30 rfl
  · refine kr_bipush (v := -2) dX11_at_11 (by decide) ?_
    exact kr_iret dX11_at_13 rfl
theorem dX11_person_0 : decode cX11_person 0 = .ok (.aload_n 0, 1) := by decide +kernel
theorem dX11_person_1 : decode cX11_person 1 = .ok (.getfield 19, 3) := by decide +kernel
theorem dX11_person_4 : decode cX11_person 4 = .ok (.iload_n 1, 1) := by decide +kernel
theorem dX11_person_5 : decode cX11_person 5 = .ok (.invokevirtual 185, 3) := by decide +kernel
theorem dX11_person_8 : decode cX11_person 8 = .ok (.ifCond .ne 6, 3) := by decide +kernel
theorem dX11_person_11 : decode cX11_person 11 = .ok (.bipush (-2), 2) := by decide +kernel
theorem dX11_person_13 : decode cX11_person 13 = .ok (.ireturn, 1) := by decide +kernel
theorem dX11_person_14 : decode cX11_person 14 = .ok (.iload_n 2, 1) := by decide +kernel
theorem dX11_person_15 : decode cX11_person 15 = .ok (.tableswitch 55 0 2 #[25, 35, 45], 25) := by decide +kernel
theorem dX11_person_40 : decode cX11_person 40 = .ok (.aload_n 0, 1) := by decide +kernel
theorem dX11_person_41 : decode cX11_person 41 = .ok (.getfield 19, 3) := by decide +kernel
theorem dX11_person_44 : decode cX11_person 44 = .ok (.getfield 188, 3) := by decide +kernel
theorem dX11_person_47 : decode cX11_person 47 = .ok (.iload_n 1, 1) := by decide +kernel
theorem dX11_person_48 : decode cX11_person 48 = .ok (.iaload, 1) := by decide +kernel
theorem dX11_person_49 : decode cX11_person 49 = .ok (.ireturn, 1) := by decide +kernel
theorem dX11_person_50 : decode cX11_person 50 = .ok (.aload_n 0, 1) := by decide +kernel
theorem dX11_person_51 : decode cX11_person 51 = .ok (.getfield 19, 3) := by decide +kernel
theorem dX11_person_54 : decode cX11_person 54 = .ok (.getfield 191, 3) := by decide +kernel
theorem dX11_person_57 : decode cX11_person 57 = .ok (.iload_n 1, 1) := by decide +kernel
theorem dX11_person_58 : decode cX11_person 58 = .ok (.iaload, 1) := by decide +kernel
theorem dX11_person_59 : decode cX11_person 59 = .ok (.ireturn, 1) := by decide +kernel
theorem dX11_person_60 : decode cX11_person 60 = .ok (.aload_n 0, 1) := by decide +kernel
theorem dX11_person_61 : decode cX11_person 61 = .ok (.getfield 19, 3) := by decide +kernel
theorem dX11_person_64 : decode cX11_person 64 = .ok (.getfield 194, 3) := by decide +kernel
theorem dX11_person_67 : decode cX11_person 67 = .ok (.iload_n 1, 1) := by decide +kernel
theorem dX11_person_68 : decode cX11_person 68 = .ok (.iaload, 1) := by decide +kernel
theorem dX11_person_69 : decode cX11_person 69 = .ok (.ireturn, 1) := by decide +kernel
theorem dX11_person_70 : decode cX11_person 70 = .ok (.bipush (-2), 2) := by decide +kernel
theorem dX11_person_72 : decode cX11_person 72 = .ok (.ireturn, 1) := by decide +kernel
theorem r_X11_person (E : kr_E) (p1 : Int32) (p2 : Int32) (M : kr_M) : kR kr_vi E Y_X11_person 2 0 [(0, kr_r E 0), (1, .int p1), (2, .int p2)] [] M (f_X11_person p1 p2 M) := by
  rw [f_X11_person]
  refine kr_aload_n dX11_person_0 rfl 0 rfl ?_
  refine kr_getG (o := 0) (ci := 11) (j := 1) dX11_person_1 kr_at_0 fl_RX11_19 rfl (fun g1 h_g1 => ?_)
  refine kr_iload_n dX11_person_4 rfl 1 rfl ?_
  refine kr_Vi (As := [.int p1]) (st := []) zv_X2_hasPerson dX11_person_5 ml_RX11_185 h_g1 (r_X2_hasPerson E g1 h_g1 p1 M) rfl rfl (Nat.le_of_ble_eq_true rfl) rfl (by decide) (Nat.le_of_ble_eq_true rfl) (fun r3 M2 => ?_)
  refine kr_if_ne (tgt := 14) dX11_person_8 (by decide) ?_ ?_
  · refine kr_iload_n dX11_person_14 rfl 2 rfl ?_
    refine kr_case (0 : Int32) (fun c4 => ?_) (fun c4 => ?_)
    · refine kr_tin (v := 0) (off := 25) (tgt := 40) c4 dX11_person_15 (by decide) (by decide) (by decide) (by decide) ?_
      refine kr_aload_n dX11_person_40 rfl 0 rfl ?_
      refine kr_getG (o := 0) (ci := 11) (j := 1) dX11_person_41 kr_at_0 fl_RX11_19 rfl (fun g5 h_g5 => ?_)
      refine kr_getA (o := 6) (ci := 2) (j := 15) dX11_person_44 h_g5 fl_RX11_188 rfl ?_
      refine kr_iload_n dX11_person_47 rfl 1 rfl ?_
      refine kr_iald dX11_person_48 (kr_shG6 _ h_g5) (fun v6 => ?_)
      exact kr_iret dX11_person_49 rfl
    refine kr_case (1 : Int32) (fun c7 => ?_) (fun c7 => ?_)
    · refine kr_tin (v := 1) (off := 35) (tgt := 50) c7 dX11_person_15 (by decide) (by decide) (by decide) (by decide) ?_
      refine kr_aload_n dX11_person_50 rfl 0 rfl ?_
      refine kr_getG (o := 0) (ci := 11) (j := 1) dX11_person_51 kr_at_0 fl_RX11_19 rfl (fun g8 h_g8 => ?_)
      refine kr_getA (o := 7) (ci := 2) (j := 16) dX11_person_54 h_g8 fl_RX11_191 rfl ?_
      refine kr_iload_n dX11_person_57 rfl 1 rfl ?_
      refine kr_iald dX11_person_58 (kr_shG7 _ h_g8) (fun v9 => ?_)
      exact kr_iret dX11_person_59 rfl
    refine kr_case (2 : Int32) (fun c10 => ?_) (fun c10 => ?_)
    · refine kr_tin (v := 2) (off := 45) (tgt := 60) c10 dX11_person_15 (by decide) (by decide) (by decide) (by decide) ?_
      refine kr_aload_n dX11_person_60 rfl 0 rfl ?_
      refine kr_getG (o := 0) (ci := 11) (j := 1) dX11_person_61 kr_at_0 fl_RX11_19 rfl (fun g11 h_g11 => ?_)
      refine kr_getA (o := 9) (ci := 2) (j := 18) dX11_person_64 h_g11 fl_RX11_194 rfl ?_
      refine kr_iload_n dX11_person_67 rfl 1 rfl ?_
      refine kr_iald dX11_person_68 (kr_shG9 _ h_g11) (fun v12 => ?_)
      exact kr_iret dX11_person_69 rfl
    refine kr_tout (tgt := 70) dX11_person_15 (by have zc4 := lv_neT c4 (show (0 : Int32).toInt = 0 by decide); have zc7 := lv_neT c7 (show (1 : Int32).toInt = 1 by decide); have zc10 := lv_neT c10 (show (2 : Int32).toInt = 2 by decide); omega) (by decide) ?_
    refine kr_bipush (v := -2) dX11_person_70 (by decide) ?_
    exact kr_iret dX11_person_72 rfl
  · refine kr_bipush (v := -2) dX11_person_11 (by decide) ?_
    exact kr_iret dX11_person_13 rfl
theorem dX11_opens_0 : decode cX11_opens 0 = .ok (.aload_n 0, 1) := by decide +kernel
theorem dX11_opens_1 : decode cX11_opens 1 = .ok (.getfield 19, 3) := by decide +kernel
theorem dX11_opens_4 : decode cX11_opens 4 = .ok (.iload_n 1, 1) := by decide +kernel
theorem dX11_opens_5 : decode cX11_opens 5 = .ok (.invokevirtual 154, 3) := by decide +kernel
theorem dX11_opens_8 : decode cX11_opens 8 = .ok (.ifCond .eq 12, 3) := by decide +kernel
theorem dX11_opens_11 : decode cX11_opens 11 = .ok (.iload_n 2, 1) := by decide +kernel
theorem dX11_opens_12 : decode cX11_opens 12 = .ok (.ifCond .lt 8, 3) := by decide +kernel
theorem dX11_opens_15 : decode cX11_opens 15 = .ok (.iload_n 2, 1) := by decide +kernel
theorem dX11_opens_16 : decode cX11_opens 16 = .ok (.iconst 1, 1) := by decide +kernel
theorem dX11_opens_17 : decode cX11_opens 17 = .ok (.if_icmp .le 5, 3) := by decide +kernel
theorem dX11_opens_20 : decode cX11_opens 20 = .ok (.iconst 0, 1) := by decide +kernel
theorem dX11_opens_21 : decode cX11_opens 21 = .ok (.ireturn, 1) := by decide +kernel
theorem dX11_opens_22 : decode cX11_opens 22 = .ok (.aload_n 0, 1) := by decide +kernel
theorem dX11_opens_23 : decode cX11_opens 23 = .ok (.getfield 65, 3) := by decide +kernel
theorem dX11_opens_26 : decode cX11_opens 26 = .ok (.aload_n 0, 1) := by decide +kernel
theorem dX11_opens_27 : decode cX11_opens 27 = .ok (.getfield 19, 3) := by decide +kernel
theorem dX11_opens_30 : decode cX11_opens 30 = .ok (.aload_n 0, 1) := by decide +kernel
theorem dX11_opens_31 : decode cX11_opens 31 = .ok (.getfield 19, 3) := by decide +kernel
theorem dX11_opens_34 : decode cX11_opens 34 = .ok (.getfield 157, 3) := by decide +kernel
theorem dX11_opens_37 : decode cX11_opens 37 = .ok (.iload_n 1, 1) := by decide +kernel
theorem dX11_opens_38 : decode cX11_opens 38 = .ok (.aaload, 1) := by decide +kernel
theorem dX11_opens_39 : decode cX11_opens 39 = .ok (.getfield 172, 3) := by decide +kernel
theorem dX11_opens_42 : decode cX11_opens 42 = .ok (.iload_n 2, 1) := by decide +kernel
theorem dX11_opens_43 : decode cX11_opens 43 = .ok (.iconst 1, 1) := by decide +kernel
theorem dX11_opens_44 : decode cX11_opens 44 = .ok (.if_icmp .ne 7, 3) := by decide +kernel
theorem dX11_opens_47 : decode cX11_opens 47 = .ok (.iconst 1, 1) := by decide +kernel
theorem dX11_opens_48 : decode cX11_opens 48 = .ok (.goto 4, 3) := by decide +kernel
theorem dX11_opens_51 : decode cX11_opens 51 = .ok (.iconst 0, 1) := by decide +kernel
theorem dX11_opens_52 : decode cX11_opens 52 = .ok (.invokevirtual 222, 3) := by decide +kernel
theorem dX11_opens_55 : decode cX11_opens 55 = .ok (.iconst 1, 1) := by decide +kernel
theorem dX11_opens_56 : decode cX11_opens 56 = .ok (.ireturn, 1) := by decide +kernel
theorem r_X11_opens_52 (E : kr_E)  (s0 : Int32) (s1 : Nat) (h_s1 : kr_sh s1 = (7, 0)) (s2 : Nat) (h_s2 : kr_sh s2 = (2, 0))  (M : kr_M) : kR kr_vi E Y_X11_opens 5 52 [] [.int s0, kr_r E s1, kr_r E s2, kr_r E 315] M (f_X11_opens_52 s0 s1 s2 M) := by
  rw [f_X11_opens_52]
  refine kr_Vv (As := [kr_r E s2, kr_r E s1, .int s0]) (st := []) zv_X4_open dX11_opens_52 ml_RX11_222 kr_at_315 (r_X4_open E s2 h_s2 s1 h_s1 s0 M) rfl rfl (Nat.le_of_ble_eq_true rfl) rfl (by decide) (Nat.le_of_ble_eq_true rfl) (fun M1 => ?_)
  refine kr_iconst (v := 1) dX11_opens_55 (by decide) ?_
  exact kr_zret1 dX11_opens_56 rfl rfl
theorem r_X11_opens (E : kr_E) (p1 : Int32) (p2 : Int32) (M : kr_M) : kR kr_vi E Y_X11_opens 5 0 [(0, kr_r E 0), (1, .int p1), (2, .int p2)] [] M (f_X11_opens p1 p2 M) := by
  rw [f_X11_opens]
  refine kr_aload_n dX11_opens_0 rfl 0 rfl ?_
  refine kr_getG (o := 0) (ci := 11) (j := 1) dX11_opens_1 kr_at_0 fl_RX11_19 rfl (fun g1 h_g1 => ?_)
  refine kr_iload_n dX11_opens_4 rfl 1 rfl ?_
  refine kr_Vi (As := [.int p1]) (st := []) zv_X2_hasRope dX11_opens_5 ml_RX11_154 h_g1 (r_X2_hasRope E g1 h_g1 p1 M) rfl rfl (Nat.le_of_ble_eq_true rfl) rfl (by decide) (Nat.le_of_ble_eq_true rfl) (fun r3 M2 => ?_)
  refine kr_if_eq (tgt := 20) dX11_opens_8 (by decide) ?_ ?_
  · refine kr_iconst (v := 0) dX11_opens_20 (by decide) ?_
    exact kr_zret1 dX11_opens_21 rfl rfl
  · refine kr_iload_n dX11_opens_11 rfl 2 rfl ?_
    refine kr_if_lt (tgt := 20) dX11_opens_12 (by decide) ?_ ?_
    · refine kr_iconst (v := 0) dX11_opens_20 (by decide) ?_
      exact kr_zret1 dX11_opens_21 rfl rfl
    · refine kr_iload_n dX11_opens_15 rfl 2 rfl ?_
      refine kr_iconst (v := 1) dX11_opens_16 (by decide) ?_
      refine kr_icmp_le (tgt := 22) dX11_opens_17 (by decide) ?_ ?_
      · refine kr_aload_n dX11_opens_22 rfl 0 rfl ?_
        refine kr_getA (o := 315) (ci := 11) (j := 9) dX11_opens_23 kr_at_0 fl_RX11_65 rfl ?_
        refine kr_aload_n dX11_opens_26 rfl 0 rfl ?_
        refine kr_getG (o := 0) (ci := 11) (j := 1) dX11_opens_27 kr_at_0 fl_RX11_19 rfl (fun g4 h_g4 => ?_)
        refine kr_aload_n dX11_opens_30 rfl 0 rfl ?_
        refine kr_getG (o := 0) (ci := 11) (j := 1) dX11_opens_31 kr_at_0 fl_RX11_19 rfl (fun g5 h_g5 => ?_)
        refine kr_getA (o := 5) (ci := 2) (j := 14) dX11_opens_34 h_g5 fl_RX11_157 rfl ?_
        refine kr_iload_n dX11_opens_37 rfl 1 rfl ?_
        refine kr_aaldR dX11_opens_38 h_g5 (fun h6 => ?_)
        refine kr_getA (o := 3) (ci := 5) (j := 5) dX11_opens_39 h6 fl_RX11_172 rfl ?_
        refine kr_iload_n dX11_opens_42 rfl 2 rfl ?_
        refine kr_iconst (v := 1) dX11_opens_43 (by decide) ?_
        refine kr_icmp_ne (tgt := 51) dX11_opens_44 (by decide) ?_ ?_
        · refine kr_iconst (v := 0) dX11_opens_51 (by decide) ?_
          refine kr_sub [] rfl ?_
          exact r_X11_opens_52 E (0 : Int32) ((kr_rp g5 p1) + 3) (kr_shR3 _ h6) g4 h_g4 M2
        · refine kr_iconst (v := 1) dX11_opens_47 (by decide) ?_
          refine kr_goto (tgt := 52) dX11_opens_48 (by decide) ?_
          refine kr_sub [] rfl ?_
          exact r_X11_opens_52 E (1 : Int32) ((kr_rp g5 p1) + 3) (kr_shR3 _ h6) g4 h_g4 M2
      · refine kr_iconst (v := 0) dX11_opens_20 (by decide) ?_
        exact kr_zret1 dX11_opens_21 rfl rfl
theorem dX11_reads_0 : decode cX11_reads 0 = .ok (.aload_n 0, 1) := by decide +kernel
theorem dX11_reads_1 : decode cX11_reads 1 = .ok (.iload_n 1, 1) := by decide +kernel
theorem dX11_reads_2 : decode cX11_reads 2 = .ok (.iload_n 2, 1) := by decide +kernel
theorem dX11_reads_3 : decode cX11_reads 3 = .ok (.invokevirtual 197, 3) := by decide +kernel
theorem dX11_reads_6 : decode cX11_reads 6 = .ok (.ifCond .ne 6, 3) := by decide +kernel
theorem dX11_reads_9 : decode cX11_reads 9 = .ok (.bipush (-2), 2) := by decide +kernel
theorem dX11_reads_11 : decode cX11_reads 11 = .ok (.ireturn, 1) := by decide +kernel
theorem dX11_reads_12 : decode cX11_reads 12 = .ok (.aload_n 0, 1) := by decide +kernel
theorem dX11_reads_13 : decode cX11_reads 13 = .ok (.getfield 65, 3) := by decide +kernel
theorem dX11_reads_16 : decode cX11_reads 16 = .ok (.invokevirtual 201, 3) := by decide +kernel
theorem dX11_reads_19 : decode cX11_reads 19 = .ok (.aload_n 0, 1) := by decide +kernel
theorem dX11_reads_20 : decode cX11_reads 20 = .ok (.getfield 65, 3) := by decide +kernel
theorem dX11_reads_23 : decode cX11_reads 23 = .ok (.getfield 204, 3) := by decide +kernel
theorem dX11_reads_26 : decode cX11_reads 26 = .ok (.iconst 0, 1) := by decide +kernel
theorem dX11_reads_27 : decode cX11_reads 27 = .ok (.iaload, 1) := by decide +kernel
theorem dX11_reads_28 : decode cX11_reads 28 = .ok (.ireturn, 1) := by decide +kernel
theorem r_X11_reads (E : kr_E) (p1 : Int32) (p2 : Int32) (M : kr_M) : kR kr_vi E Y_X11_reads 6 0 [(0, kr_r E 0), (1, .int p1), (2, .int p2)] [] M (f_X11_reads p1 p2 M) := by
  rw [f_X11_reads]
  refine kr_aload_n dX11_reads_0 rfl 0 rfl ?_
  refine kr_iload_n dX11_reads_1 rfl 1 rfl ?_
  refine kr_iload_n dX11_reads_2 rfl 2 rfl ?_
  refine kr_Vi (As := [.int p1, .int p2]) (st := []) zv_X11_opens dX11_reads_3 ml_RX11_197 kr_at_0 (r_X11_opens E p1 p2 M) rfl rfl (Nat.le_of_ble_eq_true rfl) rfl (by decide) (Nat.le_of_ble_eq_true rfl) (fun r2 M1 => ?_)
  refine kr_if_ne (tgt := 12) dX11_reads_6 (by decide) ?_ ?_
  · refine kr_aload_n dX11_reads_12 rfl 0 rfl ?_
    refine kr_getA (o := 315) (ci := 11) (j := 9) dX11_reads_13 kr_at_0 fl_RX11_65 rfl ?_
    refine kr_Vv (As := []) (st := []) zv_X4_study dX11_reads_16 ml_RX11_201 kr_at_315 (r_X4_study E  M1) rfl rfl (Nat.le_of_ble_eq_true rfl) rfl (by decide) (Nat.le_of_ble_eq_true rfl) (fun M3 => ?_)
    refine kr_aload_n dX11_reads_19 rfl 0 rfl ?_
    refine kr_getA (o := 315) (ci := 11) (j := 9) dX11_reads_20 kr_at_0 fl_RX11_65 rfl ?_
    refine kr_getA (o := 3) (ci := 4) (j := 2) dX11_reads_23 kr_at_315 fl_RX11_204 rfl ?_
    refine kr_iconst (v := 0) dX11_reads_26 (by decide) ?_
    refine kr_iald dX11_reads_27 kr_at_318 (fun v5 => ?_)
    exact kr_iret dX11_reads_28 rfl
  · refine kr_bipush (v := -2) dX11_reads_9 (by decide) ?_
    exact kr_iret dX11_reads_11 rfl
theorem dX11_says_0 : decode cX11_says 0 = .ok (.aload_n 0, 1) := by decide +kernel
theorem dX11_says_1 : decode cX11_says 1 = .ok (.iload_n 1, 1) := by decide +kernel
theorem dX11_says_2 : decode cX11_says 2 = .ok (.iload_n 2, 1) := by decide +kernel
theorem dX11_says_3 : decode cX11_says 3 = .ok (.invokevirtual 197, 3) := by decide +kernel
theorem dX11_says_6 : decode cX11_says 6 = .ok (.ifCond .ne 6, 3) := by decide +kernel
theorem dX11_says_9 : decode cX11_says 9 = .ok (.bipush (-2), 2) := by decide +kernel
theorem dX11_says_11 : decode cX11_says 11 = .ok (.ireturn, 1) := by decide +kernel
theorem dX11_says_12 : decode cX11_says 12 = .ok (.aload_n 0, 1) := by decide +kernel
theorem dX11_says_13 : decode cX11_says 13 = .ok (.getfield 65, 3) := by decide +kernel
theorem dX11_says_16 : decode cX11_says 16 = .ok (.invokevirtual 201, 3) := by decide +kernel
theorem dX11_says_19 : decode cX11_says 19 = .ok (.aload_n 0, 1) := by decide +kernel
theorem dX11_says_20 : decode cX11_says 20 = .ok (.getfield 65, 3) := by decide +kernel
theorem dX11_says_23 : decode cX11_says 23 = .ok (.iload_n 3, 1) := by decide +kernel
theorem dX11_says_24 : decode cX11_says 24 = .ok (.invokevirtual 207, 3) := by decide +kernel
theorem dX11_says_27 : decode cX11_says 27 = .ok (.ireturn, 1) := by decide +kernel
theorem r_X11_says (E : kr_E) (p1 : Int32) (p2 : Int32) (p3 : Int32) (M : kr_M) : kR kr_vi E Y_X11_says 6 0 [(0, kr_r E 0), (1, .int p1), (2, .int p2), (3, .int p3)] [] M (f_X11_says p1 p2 p3 M) := by
  rw [f_X11_says]
  refine kr_aload_n dX11_says_0 rfl 0 rfl ?_
  refine kr_iload_n dX11_says_1 rfl 1 rfl ?_
  refine kr_iload_n dX11_says_2 rfl 2 rfl ?_
  refine kr_Vi (As := [.int p1, .int p2]) (st := []) zv_X11_opens dX11_says_3 ml_RX11_197 kr_at_0 (r_X11_opens E p1 p2 M) rfl rfl (Nat.le_of_ble_eq_true rfl) rfl (by decide) (Nat.le_of_ble_eq_true rfl) (fun r2 M1 => ?_)
  refine kr_if_ne (tgt := 12) dX11_says_6 (by decide) ?_ ?_
  · refine kr_aload_n dX11_says_12 rfl 0 rfl ?_
    refine kr_getA (o := 315) (ci := 11) (j := 9) dX11_says_13 kr_at_0 fl_RX11_65 rfl ?_
    refine kr_Vv (As := []) (st := []) zv_X4_study dX11_says_16 ml_RX11_201 kr_at_315 (r_X4_study E  M1) rfl rfl (Nat.le_of_ble_eq_true rfl) rfl (by decide) (Nat.le_of_ble_eq_true rfl) (fun M3 => ?_)
    refine kr_aload_n dX11_says_19 rfl 0 rfl ?_
    refine kr_getA (o := 315) (ci := 11) (j := 9) dX11_says_20 kr_at_0 fl_RX11_65 rfl ?_
    refine kr_iload_n dX11_says_23 rfl 3 rfl ?_
    refine kr_Vi (As := [.int p3]) (st := []) zv_X4_wordOfFirst dX11_says_24 ml_RX11_207 kr_at_315 (r_X4_wordOfFirst E p3 M3) rfl rfl (Nat.le_of_ble_eq_true rfl) rfl (by decide) (Nat.le_of_ble_eq_true rfl) (fun r6 M5 => ?_)
    exact kr_iret dX11_says_27 rfl
  · refine kr_bipush (v := -2) dX11_says_9 (by decide) ?_
    exact kr_iret dX11_says_11 rfl
theorem dX11_sum_0 : decode cX11_sum 0 = .ok (.iload_n 3, 1) := by decide +kernel
theorem dX11_sum_1 : decode cX11_sum 1 = .ok (.ifCond .lt 17, 3) := by decide +kernel
theorem dX11_sum_4 : decode cX11_sum 4 = .ok (.iload_n 3, 1) := by decide +kernel
theorem dX11_sum_5 : decode cX11_sum 5 = .ok (.iconst 1, 1) := by decide +kernel
theorem dX11_sum_6 : decode cX11_sum 6 = .ok (.if_icmp .gt 12, 3) := by decide +kernel
theorem dX11_sum_9 : decode cX11_sum 9 = .ok (.aload_n 0, 1) := by decide +kernel
theorem dX11_sum_10 : decode cX11_sum 10 = .ok (.iload_n 1, 1) := by decide +kernel
theorem dX11_sum_11 : decode cX11_sum 11 = .ok (.iload_n 2, 1) := by decide +kernel
theorem dX11_sum_12 : decode cX11_sum 12 = .ok (.invokevirtual 197, 3) := by decide +kernel
theorem dX11_sum_15 : decode cX11_sum 15 = .ok (.ifCond .ne 6, 3) := by decide +kernel
theorem dX11_sum_18 : decode cX11_sum 18 = .ok (.bipush (-2), 2) := by decide +kernel
theorem dX11_sum_20 : decode cX11_sum 20 = .ok (.ireturn, 1) := by decide +kernel
theorem dX11_sum_21 : decode cX11_sum 21 = .ok (.aload_n 0, 1) := by decide +kernel
theorem dX11_sum_22 : decode cX11_sum 22 = .ok (.getfield 65, 3) := by decide +kernel
theorem dX11_sum_25 : decode cX11_sum 25 = .ok (.invokevirtual 201, 3) := by decide +kernel
theorem dX11_sum_28 : decode cX11_sum 28 = .ok (.iload_n 3, 1) := by decide +kernel
theorem dX11_sum_29 : decode cX11_sum 29 = .ok (.ifCond .ne 15, 3) := by decide +kernel
theorem dX11_sum_32 : decode cX11_sum 32 = .ok (.aload_n 0, 1) := by decide +kernel
theorem dX11_sum_33 : decode cX11_sum 33 = .ok (.getfield 65, 3) := by decide +kernel
theorem dX11_sum_36 : decode cX11_sum 36 = .ok (.getfield 210, 3) := by decide +kernel
theorem dX11_sum_39 : decode cX11_sum 39 = .ok (.iconst 0, 1) := by decide +kernel
theorem dX11_sum_40 : decode cX11_sum 40 = .ok (.iaload, 1) := by decide +kernel
theorem dX11_sum_41 : decode cX11_sum 41 = .ok (.goto 12, 3) := by decide +kernel
theorem dX11_sum_44 : decode cX11_sum 44 = .ok (.aload_n 0, 1) := by decide +kernel
theorem dX11_sum_45 : decode cX11_sum 45 = .ok (.getfield 65, 3) := by decide +kernel
theorem dX11_sum_48 : decode cX11_sum 48 = .ok (.getfield 213, 3) := by decide +kernel
theorem dX11_sum_51 : decode cX11_sum 51 = .ok (.iconst 0, 1) := by decide +kernel
theorem dX11_sum_52 : decode cX11_sum 52 = .ok (.iaload, 1) := by decide +kernel
theorem dX11_sum_53 : decode cX11_sum 53 = .ok (.ireturn, 1) := by decide +kernel
theorem r_X11_sum (E : kr_E) (p1 : Int32) (p2 : Int32) (p3 : Int32) (M : kr_M) : kR kr_vi E Y_X11_sum 6 0 [(0, kr_r E 0), (1, .int p1), (2, .int p2), (3, .int p3)] [] M (f_X11_sum p1 p2 p3 M) := by
  rw [f_X11_sum]
  refine kr_iload_n dX11_sum_0 rfl 3 rfl ?_
  refine kr_if_lt (tgt := 18) dX11_sum_1 (by decide) ?_ ?_
  · refine kr_bipush (v := -2) dX11_sum_18 (by decide) ?_
    exact kr_iret dX11_sum_20 rfl
  · refine kr_iload_n dX11_sum_4 rfl 3 rfl ?_
    refine kr_iconst (v := 1) dX11_sum_5 (by decide) ?_
    refine kr_icmp_gt (tgt := 18) dX11_sum_6 (by decide) ?_ ?_
    · refine kr_bipush (v := -2) dX11_sum_18 (by decide) ?_
      exact kr_iret dX11_sum_20 rfl
    · refine kr_aload_n dX11_sum_9 rfl 0 rfl ?_
      refine kr_iload_n dX11_sum_10 rfl 1 rfl ?_
      refine kr_iload_n dX11_sum_11 rfl 2 rfl ?_
      refine kr_Vi (As := [.int p1, .int p2]) (st := []) zv_X11_opens dX11_sum_12 ml_RX11_197 kr_at_0 (r_X11_opens E p1 p2 M) rfl rfl (Nat.le_of_ble_eq_true rfl) rfl (by decide) (Nat.le_of_ble_eq_true rfl) (fun r2 M1 => ?_)
      refine kr_if_ne (tgt := 21) dX11_sum_15 (by decide) ?_ ?_
      · refine kr_aload_n dX11_sum_21 rfl 0 rfl ?_
        refine kr_getA (o := 315) (ci := 11) (j := 9) dX11_sum_22 kr_at_0 fl_RX11_65 rfl ?_
        refine kr_Vv (As := []) (st := []) zv_X4_study dX11_sum_25 ml_RX11_201 kr_at_315 (r_X4_study E  M1) rfl rfl (Nat.le_of_ble_eq_true rfl) rfl (by decide) (Nat.le_of_ble_eq_true rfl) (fun M3 => ?_)
        refine kr_iload_n dX11_sum_28 rfl 3 rfl ?_
        refine kr_if_ne (tgt := 44) dX11_sum_29 (by decide) ?_ ?_
        · refine kr_aload_n dX11_sum_44 rfl 0 rfl ?_
          refine kr_getA (o := 315) (ci := 11) (j := 9) dX11_sum_45 kr_at_0 fl_RX11_65 rfl ?_
          refine kr_getA (o := 5) (ci := 4) (j := 4) dX11_sum_48 kr_at_315 fl_RX11_213 rfl ?_
          refine kr_iconst (v := 0) dX11_sum_51 (by decide) ?_
          refine kr_iald dX11_sum_52 kr_at_320 (fun v5 => ?_)
          exact kr_iret dX11_sum_53 rfl
        · refine kr_aload_n dX11_sum_32 rfl 0 rfl ?_
          refine kr_getA (o := 315) (ci := 11) (j := 9) dX11_sum_33 kr_at_0 fl_RX11_65 rfl ?_
          refine kr_getA (o := 4) (ci := 4) (j := 3) dX11_sum_36 kr_at_315 fl_RX11_210 rfl ?_
          refine kr_iconst (v := 0) dX11_sum_39 (by decide) ?_
          refine kr_iald dX11_sum_40 kr_at_319 (fun v6 => ?_)
          refine kr_goto (tgt := 53) dX11_sum_41 (by decide) ?_
          exact kr_iret dX11_sum_53 rfl
      · refine kr_bipush (v := -2) dX11_sum_18 (by decide) ?_
        exact kr_iret dX11_sum_20 rfl
theorem dX11_isSum_0 : decode cX11_isSum 0 = .ok (.iload_n 0, 1) := by decide +kernel
theorem dX11_isSum_1 : decode cX11_isSum 1 = .ok (.ifCond .lt 14, 3) := by decide +kernel
theorem dX11_isSum_4 : decode cX11_isSum 4 = .ok (.iload_n 0, 1) := by decide +kernel
theorem dX11_isSum_5 : decode cX11_isSum 5 = .ok (.sipush 2400, 3) := by decide +kernel
theorem dX11_isSum_8 : decode cX11_isSum 8 = .ok (.if_icmp .gt 7, 3) := by decide +kernel
theorem dX11_isSum_11 : decode cX11_isSum 11 = .ok (.iconst 1, 1) := by decide +kernel
theorem dX11_isSum_12 : decode cX11_isSum 12 = .ok (.goto 4, 3) := by decide +kernel
theorem dX11_isSum_15 : decode cX11_isSum 15 = .ok (.iconst 0, 1) := by decide +kernel
theorem dX11_isSum_16 : decode cX11_isSum 16 = .ok (.ireturn, 1) := by decide +kernel
theorem r_X11_isSum (E : kr_E) (p0 : Int32) (M : kr_M) : kR kr_vi E Y_X11_isSum 1 0 [(0, .int p0)] [] M (f_X11_isSum p0 M) := by
  rw [f_X11_isSum]
  refine kr_iload_n dX11_isSum_0 rfl 0 rfl ?_
  refine kr_if_lt (tgt := 15) dX11_isSum_1 (by decide) ?_ ?_
  · refine kr_iconst (v := 0) dX11_isSum_15 (by decide) ?_
    exact kr_zret1 dX11_isSum_16 rfl rfl
  · refine kr_iload_n dX11_isSum_4 rfl 0 rfl ?_
    refine kr_sipush (v := 2400) dX11_isSum_5 (by decide) ?_
    refine kr_icmp_gt (tgt := 15) dX11_isSum_8 (by decide) ?_ ?_
    · refine kr_iconst (v := 0) dX11_isSum_15 (by decide) ?_
      exact kr_zret1 dX11_isSum_16 rfl rfl
    · refine kr_iconst (v := 1) dX11_isSum_11 (by decide) ?_
      refine kr_goto (tgt := 16) dX11_isSum_12 (by decide) ?_
      exact kr_zret1 dX11_isSum_16 rfl rfl
theorem dX11_has_0 : decode cX11_has 0 = .ok (.iload_n 3, 1) := by decide +kernel
theorem dX11_has_1 : decode cX11_has 1 = .ok (.invokestatic 216, 3) := by decide +kernel
theorem dX11_has_4 : decode cX11_has 4 = .ok (.ifCond .eq 12, 3) := by decide +kernel
theorem dX11_has_7 : decode cX11_has 7 = .ok (.aload_n 0, 1) := by decide +kernel
theorem dX11_has_8 : decode cX11_has 8 = .ok (.iload_n 1, 1) := by decide +kernel
theorem dX11_has_9 : decode cX11_has 9 = .ok (.iload_n 2, 1) := by decide +kernel
theorem dX11_has_10 : decode cX11_has 10 = .ok (.invokevirtual 197, 3) := by decide +kernel
theorem dX11_has_13 : decode cX11_has 13 = .ok (.ifCond .ne 6, 3) := by decide +kernel
theorem dX11_has_16 : decode cX11_has 16 = .ok (.bipush (-2), 2) := by decide +kernel
theorem dX11_has_18 : decode cX11_has 18 = .ok (.ireturn, 1) := by decide +kernel
theorem dX11_has_19 : decode cX11_has 19 = .ok (.aload_n 0, 1) := by decide +kernel
theorem dX11_has_20 : decode cX11_has 20 = .ok (.getfield 65, 3) := by decide +kernel
theorem dX11_has_23 : decode cX11_has 23 = .ok (.iload_n 3, 1) := by decide +kernel
theorem dX11_has_24 : decode cX11_has 24 = .ok (.invokevirtual 219, 3) := by decide +kernel
theorem dX11_has_27 : decode cX11_has 27 = .ok (.ifCond .eq 7, 3) := by decide +kernel
theorem dX11_has_30 : decode cX11_has 30 = .ok (.iconst 1, 1) := by decide +kernel
theorem dX11_has_31 : decode cX11_has 31 = .ok (.goto 4, 3) := by decide +kernel
theorem dX11_has_34 : decode cX11_has 34 = .ok (.iconst 0, 1) := by decide +kernel
theorem dX11_has_35 : decode cX11_has 35 = .ok (.ireturn, 1) := by decide +kernel
theorem r_X11_has (E : kr_E) (p1 : Int32) (p2 : Int32) (p3 : Int32) (M : kr_M) : kR kr_vi E Y_X11_has 6 0 [(0, kr_r E 0), (1, .int p1), (2, .int p2), (3, .int p3)] [] M (f_X11_has p1 p2 p3 M) := by
  rw [f_X11_has]
  refine kr_iload_n dX11_has_0 rfl 3 rfl ?_
  refine kr_Si (As := [.int p3]) (st := []) zs_X11_isSum dX11_has_1 ml_RX11_216 (r_X11_isSum E p3 M) rfl rfl (Nat.le_of_ble_eq_true rfl) rfl (by decide) (Nat.le_of_ble_eq_true rfl) (fun r2 M1 => ?_)
  refine kr_if_eq (tgt := 16) dX11_has_4 (by decide) ?_ ?_
  · refine kr_bipush (v := -2) dX11_has_16 (by decide) ?_
    exact kr_iret dX11_has_18 rfl
  · refine kr_aload_n dX11_has_7 rfl 0 rfl ?_
    refine kr_iload_n dX11_has_8 rfl 1 rfl ?_
    refine kr_iload_n dX11_has_9 rfl 2 rfl ?_
    refine kr_Vi (As := [.int p1, .int p2]) (st := []) zv_X11_opens dX11_has_10 ml_RX11_197 kr_at_0 (r_X11_opens E p1 p2 M1) rfl rfl (Nat.le_of_ble_eq_true rfl) rfl (by decide) (Nat.le_of_ble_eq_true rfl) (fun r4 M3 => ?_)
    refine kr_if_ne (tgt := 19) dX11_has_13 (by decide) ?_ ?_
    · refine kr_aload_n dX11_has_19 rfl 0 rfl ?_
      refine kr_getA (o := 315) (ci := 11) (j := 9) dX11_has_20 kr_at_0 fl_RX11_65 rfl ?_
      refine kr_iload_n dX11_has_23 rfl 3 rfl ?_
      refine kr_Vi (As := [.int p3]) (st := []) zv_X4_canMean dX11_has_24 ml_RX11_219 kr_at_315 (r_X4_canMean E p3 M3) rfl rfl (Nat.le_of_ble_eq_true rfl) rfl (by decide) (Nat.le_of_ble_eq_true rfl) (fun r6 M5 => ?_)
      refine kr_if_eq (tgt := 34) dX11_has_27 (by decide) ?_ ?_
      · refine kr_iconst (v := 0) dX11_has_34 (by decide) ?_
        exact kr_iret dX11_has_35 rfl
      · refine kr_iconst (v := 1) dX11_has_30 (by decide) ?_
        refine kr_goto (tgt := 35) dX11_has_31 (by decide) ?_
        exact kr_iret dX11_has_35 rfl
    · refine kr_bipush (v := -2) dX11_has_16 (by decide) ?_
      exact kr_iret dX11_has_18 rfl
