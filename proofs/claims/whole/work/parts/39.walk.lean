theorem dX12_hasRead_0 : decode cX12_hasRead 0 = .ok (.aload_n 0, 1) := by decide +kernel
theorem dX12_hasRead_1 : decode cX12_hasRead 1 = .ok (.getfield 34, 3) := by decide +kernel
theorem dX12_hasRead_4 : decode cX12_hasRead 4 = .ok (.bipush 32, 2) := by decide +kernel
theorem dX12_hasRead_6 : decode cX12_hasRead 6 = .ok (.iload_n 1, 1) := by decide +kernel
theorem dX12_hasRead_7 : decode cX12_hasRead 7 = .ok (.iadd, 1) := by decide +kernel
theorem dX12_hasRead_8 : decode cX12_hasRead 8 = .ok (.iaload, 1) := by decide +kernel
theorem dX12_hasRead_9 : decode cX12_hasRead 9 = .ok (.ireturn, 1) := by decide +kernel
theorem r_X12_hasRead (E : kr_E) (p1 : Int32) (M : kr_M) : kR kr_vi E Y_X12_hasRead 1 0 [(0, kr_r E 346), (1, .int p1)] [] M (f_X12_hasRead p1 M) := by
  rw [f_X12_hasRead]
  refine kr_aload_n dX12_hasRead_0 rfl 0 rfl ?_
  refine kr_getA (o := 7) (ci := 12) (j := 17) dX12_hasRead_1 kr_at_346 fl_RX12_34 rfl ?_
  refine kr_bipush (v := 32) dX12_hasRead_4 (by decide) ?_
  refine kr_iload_n dX12_hasRead_6 rfl 1 rfl ?_
  refine kr_iadd dX12_hasRead_7 ?_
  refine kr_iald dX12_hasRead_8 kr_at_353 (fun v1 => ?_)
  exact kr_iret dX12_hasRead_9 rfl
theorem dX12_tells_0 : decode cX12_tells 0 = .ok (.aload_n 0, 1) := by decide +kernel
theorem dX12_tells_1 : decode cX12_tells 1 = .ok (.getfield 34, 3) := by decide +kernel
theorem dX12_tells_4 : decode cX12_tells 4 = .ok (.bipush 32, 2) := by decide +kernel
theorem dX12_tells_6 : decode cX12_tells 6 = .ok (.iload_n 1, 1) := by decide +kernel
theorem dX12_tells_7 : decode cX12_tells 7 = .ok (.iadd, 1) := by decide +kernel
theorem dX12_tells_8 : decode cX12_tells 8 = .ok (.iload_n 2, 1) := by decide +kernel
theorem dX12_tells_9 : decode cX12_tells 9 = .ok (.iastore, 1) := by decide +kernel
theorem dX12_tells_10 : decode cX12_tells 10 = .ok (.return_, 1) := by decide +kernel
theorem r_X12_tells (E : kr_E) (p1 : Int32) (p2 : Int32) (M : kr_M) : kR kr_vv E Y_X12_tells 1 0 [(0, kr_r E 346), (1, .int p1), (2, .int p2)] [] M (f_X12_tells p1 p2 M) := by
  rw [f_X12_tells]
  refine kr_aload_n dX12_tells_0 rfl 0 rfl ?_
  refine kr_getA (o := 7) (ci := 12) (j := 17) dX12_tells_1 kr_at_346 fl_RX12_34 rfl ?_
  refine kr_bipush (v := 32) dX12_tells_4 (by decide) ?_
  refine kr_iload_n dX12_tells_6 rfl 1 rfl ?_
  refine kr_iadd dX12_tells_7 ?_
  refine kr_iload_n dX12_tells_8 rfl 2 rfl ?_
  refine kr_iast dX12_tells_9 kr_at_353 (fun M1 => ?_)
  exact kr_vret dX12_tells_10 rfl
theorem dX12_placeHere_0 : decode cX12_placeHere 0 = .ok (.aload_n 0, 1) := by decide +kernel
theorem dX12_placeHere_1 : decode cX12_placeHere 1 = .ok (.iconst 0, 1) := by decide +kernel
theorem dX12_placeHere_2 : decode cX12_placeHere 2 = .ok (.aload_n 0, 1) := by decide +kernel
theorem dX12_placeHere_3 : decode cX12_placeHere 3 = .ok (.iconst 0, 1) := by decide +kernel
theorem dX12_placeHere_4 : decode cX12_placeHere 4 = .ok (.invokevirtual 220, 3) := by decide +kernel
theorem dX12_placeHere_7 : decode cX12_placeHere 7 = .ok (.iconst 1, 1) := by decide +kernel
theorem dX12_placeHere_8 : decode cX12_placeHere 8 = .ok (.isub, 1) := by decide +kernel
theorem dX12_placeHere_9 : decode cX12_placeHere 9 = .ok (.invokevirtual 213, 3) := by decide +kernel
theorem dX12_placeHere_12 : decode cX12_placeHere 12 = .ok (.ireturn, 1) := by decide +kernel
theorem r_X12_placeHere (E : kr_E)  (M : kr_M) : kR kr_vi E Y_X12_placeHere 4 0 [(0, kr_r E 346)] [] M (f_X12_placeHere M) := by
  rw [f_X12_placeHere]
  refine kr_aload_n dX12_placeHere_0 rfl 0 rfl ?_
  refine kr_iconst (v := 0) dX12_placeHere_1 (by decide) ?_
  refine kr_aload_n dX12_placeHere_2 rfl 0 rfl ?_
  refine kr_iconst (v := 0) dX12_placeHere_3 (by decide) ?_
  refine kr_Vi (As := [.int (0 : Int32)]) (st := [.int (0 : Int32), kr_r E 346]) zv_X12_hasRead dX12_placeHere_4 ml_RX12_220 kr_at_346 (r_X12_hasRead E (0 : Int32) M) rfl rfl (Nat.le_of_ble_eq_true rfl) rfl (by decide) (Nat.le_of_ble_eq_true rfl) (fun r2 M1 => ?_)
  refine kr_iconst (v := 1) dX12_placeHere_7 (by decide) ?_
  refine kr_isub dX12_placeHere_8 ?_
  refine kr_Vi (As := [.int (0 : Int32), .int (r2 - (1 : Int32))]) (st := []) zv_X12_number dX12_placeHere_9 ml_RX12_213 kr_at_346 (r_X12_number E (0 : Int32) (r2 - (1 : Int32)) M1) rfl rfl (Nat.le_of_ble_eq_true rfl) rfl (by decide) (Nat.le_of_ble_eq_true rfl) (fun r4 M3 => ?_)
  exact kr_iret dX12_placeHere_12 rfl
theorem dX12_kindHere_0 : decode cX12_kindHere 0 = .ok (.aload_n 0, 1) := by decide +kernel
theorem dX12_kindHere_1 : decode cX12_kindHere 1 = .ok (.iconst 0, 1) := by decide +kernel
theorem dX12_kindHere_2 : decode cX12_kindHere 2 = .ok (.aload_n 0, 1) := by decide +kernel
theorem dX12_kindHere_3 : decode cX12_kindHere 3 = .ok (.iconst 3, 1) := by decide +kernel
theorem dX12_kindHere_4 : decode cX12_kindHere 4 = .ok (.invokevirtual 220, 3) := by decide +kernel
theorem dX12_kindHere_7 : decode cX12_kindHere 7 = .ok (.iconst 1, 1) := by decide +kernel
theorem dX12_kindHere_8 : decode cX12_kindHere 8 = .ok (.isub, 1) := by decide +kernel
theorem dX12_kindHere_9 : decode cX12_kindHere 9 = .ok (.invokevirtual 213, 3) := by decide +kernel
theorem dX12_kindHere_12 : decode cX12_kindHere 12 = .ok (.ireturn, 1) := by decide +kernel
theorem r_X12_kindHere (E : kr_E)  (M : kr_M) : kR kr_vi E Y_X12_kindHere 4 0 [(0, kr_r E 346)] [] M (f_X12_kindHere M) := by
  rw [f_X12_kindHere]
  refine kr_aload_n dX12_kindHere_0 rfl 0 rfl ?_
  refine kr_iconst (v := 0) dX12_kindHere_1 (by decide) ?_
  refine kr_aload_n dX12_kindHere_2 rfl 0 rfl ?_
  refine kr_iconst (v := 3) dX12_kindHere_3 (by decide) ?_
  refine kr_Vi (As := [.int (3 : Int32)]) (st := [.int (0 : Int32), kr_r E 346]) zv_X12_hasRead dX12_kindHere_4 ml_RX12_220 kr_at_346 (r_X12_hasRead E (3 : Int32) M) rfl rfl (Nat.le_of_ble_eq_true rfl) rfl (by decide) (Nat.le_of_ble_eq_true rfl) (fun r2 M1 => ?_)
  refine kr_iconst (v := 1) dX12_kindHere_7 (by decide) ?_
  refine kr_isub dX12_kindHere_8 ?_
  refine kr_Vi (As := [.int (0 : Int32), .int (r2 - (1 : Int32))]) (st := []) zv_X12_number dX12_kindHere_9 ml_RX12_213 kr_at_346 (r_X12_number E (0 : Int32) (r2 - (1 : Int32)) M1) rfl rfl (Nat.le_of_ble_eq_true rfl) rfl (by decide) (Nat.le_of_ble_eq_true rfl) (fun r4 M3 => ?_)
  exact kr_iret dX12_kindHere_12 rfl
theorem dX12_knotsTo_0 : decode cX12_knotsTo 0 = .ok (.iconst 0, 1) := by decide +kernel
theorem dX12_knotsTo_1 : decode cX12_knotsTo 1 = .ok (.istore 4, 2) := by decide +kernel
theorem dX12_knotsTo_3 : decode cX12_knotsTo 3 = .ok (.iload 4, 2) := by decide +kernel
theorem dX12_knotsTo_5 : decode cX12_knotsTo 5 = .ok (.iload_n 3, 1) := by decide +kernel
theorem dX12_knotsTo_6 : decode cX12_knotsTo 6 = .ok (.if_icmp .ne 28, 3) := by decide +kernel
theorem dX12_knotsTo_9 : decode cX12_knotsTo 9 = .ok (.aload_n 0, 1) := by decide +kernel
theorem dX12_knotsTo_10 : decode cX12_knotsTo 10 = .ok (.getfield 179, 3) := by decide +kernel
theorem dX12_knotsTo_13 : decode cX12_knotsTo 13 = .ok (.iconst 2, 1) := by decide +kernel
theorem dX12_knotsTo_14 : decode cX12_knotsTo 14 = .ok (.if_icmp .ne 20, 3) := by decide +kernel
theorem dX12_knotsTo_17 : decode cX12_knotsTo 17 = .ok (.aload_n 0, 1) := by decide +kernel
theorem dX12_knotsTo_18 : decode cX12_knotsTo 18 = .ok (.getfield 172, 3) := by decide +kernel
theorem dX12_knotsTo_21 : decode cX12_knotsTo 21 = .ok (.aload_n 0, 1) := by decide +kernel
theorem dX12_knotsTo_22 : decode cX12_knotsTo 22 = .ok (.iconst 3, 1) := by decide +kernel
theorem dX12_knotsTo_23 : decode cX12_knotsTo 23 = .ok (.invokevirtual 220, 3) := by decide +kernel
theorem dX12_knotsTo_26 : decode cX12_knotsTo 26 = .ok (.if_icmp .ge 8, 3) := by decide +kernel
theorem dX12_knotsTo_29 : decode cX12_knotsTo 29 = .ok (.aload_n 0, 1) := by decide +kernel
theorem dX12_knotsTo_30 : decode cX12_knotsTo 30 = .ok (.iconst 3, 1) := by decide +kernel
theorem dX12_knotsTo_31 : decode cX12_knotsTo 31 = .ok (.invokevirtual 206, 3) := by decide +kernel
theorem dX12_knotsTo_34 : decode cX12_knotsTo 34 = .ok (.aload_n 0, 1) := by decide +kernel
theorem dX12_knotsTo_35 : decode cX12_knotsTo 35 = .ok (.invokevirtual 224, 3) := by decide +kernel
theorem dX12_knotsTo_38 : decode cX12_knotsTo 38 = .ok (.istore 5, 2) := by decide +kernel
theorem dX12_knotsTo_40 : decode cX12_knotsTo 40 = .ok (.aload_n 0, 1) := by decide +kernel
theorem dX12_knotsTo_41 : decode cX12_knotsTo 41 = .ok (.invokevirtual 228, 3) := by decide +kernel
theorem dX12_knotsTo_44 : decode cX12_knotsTo 44 = .ok (.ifCond .eq 17, 3) := by decide +kernel
theorem dX12_knotsTo_47 : decode cX12_knotsTo 47 = .ok (.iload 4, 2) := by decide +kernel
theorem dX12_knotsTo_49 : decode cX12_knotsTo 49 = .ok (.iload_n 3, 1) := by decide +kernel
theorem dX12_knotsTo_50 : decode cX12_knotsTo 50 = .ok (.if_icmp .ge 11, 3) := by decide +kernel
theorem dX12_knotsTo_53 : decode cX12_knotsTo 53 = .ok (.aload_n 1, 1) := by decide +kernel
theorem dX12_knotsTo_54 : decode cX12_knotsTo 54 = .ok (.iload_n 2, 1) := by decide +kernel
theorem dX12_knotsTo_55 : decode cX12_knotsTo 55 = .ok (.iload 4, 2) := by decide +kernel
theorem dX12_knotsTo_57 : decode cX12_knotsTo 57 = .ok (.iadd, 1) := by decide +kernel
theorem dX12_knotsTo_58 : decode cX12_knotsTo 58 = .ok (.iload 5, 2) := by decide +kernel
theorem dX12_knotsTo_60 : decode cX12_knotsTo 60 = .ok (.iastore, 1) := by decide +kernel
theorem dX12_knotsTo_61 : decode cX12_knotsTo 61 = .ok (.iinc 4 1, 3) := by decide +kernel
theorem dX12_knotsTo_64 : decode cX12_knotsTo 64 = .ok (.aload_n 0, 1) := by decide +kernel
theorem dX12_knotsTo_65 : decode cX12_knotsTo 65 = .ok (.invokevirtual 228, 3) := by decide +kernel
theorem dX12_knotsTo_68 : decode cX12_knotsTo 68 = .ok (.ifCond .eq 11, 3) := by decide +kernel
theorem dX12_knotsTo_71 : decode cX12_knotsTo 71 = .ok (.aload_n 0, 1) := by decide +kernel
theorem dX12_knotsTo_72 : decode cX12_knotsTo 72 = .ok (.getfield 179, 3) := by decide +kernel
theorem dX12_knotsTo_75 : decode cX12_knotsTo 75 = .ok (.iconst 2, 1) := by decide +kernel
theorem dX12_knotsTo_76 : decode cX12_knotsTo 76 = .ok (.if_icmp .eq (-73), 3) := by decide +kernel
theorem dX12_knotsTo_79 : decode cX12_knotsTo 79 = .ok (.iload 4, 2) := by decide +kernel
theorem dX12_knotsTo_81 : decode cX12_knotsTo 81 = .ok (.ireturn, 1) := by decide +kernel
theorem r_X12_knotsTo_61 (E : kr_E) (k_3 : Int32 → kr_M → Option (Int32 × kr_M)) (l1 : Nat) (h_l1 : kr_sh l1 = (20, (kr_len l1))) (l2 : Int32) (l3 : Int32) (l4 : Int32) (hk_3 : ∀ (x4 : Int32) (M : kr_M), kR kr_vi E Y_X12_knotsTo 5 3 [(0, kr_r E 346), (1, kr_r E l1), (2, .int l2), (3, .int l3), (4, .int x4)] [] M (k_3 x4 M)) (M : kr_M) : kR kr_vi E Y_X12_knotsTo 5 61 [(0, kr_r E 346), (1, kr_r E l1), (2, .int l2), (3, .int l3), (4, .int l4)] [] M (f_X12_knotsTo_61 k_3 l4 M) := by
  rw [f_X12_knotsTo_61]
  refine kr_iinc (j := 4) (v := (l4 + (1 : Int32))) (lv' := [(4, .int (l4 + (1 : Int32))), (0, kr_r E 346), (1, kr_r E l1), (2, .int l2), (3, .int l3)]) dX12_knotsTo_61 rfl rfl (by decide) rfl ?_
  refine kr_aload_n dX12_knotsTo_64 rfl 1 rfl ?_
  refine kr_Vi (As := []) (st := []) zv_X12_isGood dX12_knotsTo_65 ml_RX12_228 kr_at_346 (r_X12_isGood E  M) rfl rfl (Nat.le_of_ble_eq_true rfl) rfl (by decide) (Nat.le_of_ble_eq_true rfl) (fun r2 M1 => ?_)
  refine kr_if_eq (tgt := 79) dX12_knotsTo_68 (by decide) ?_ ?_
  · refine kr_iload dX12_knotsTo_79 0 rfl ?_
    exact kr_iret dX12_knotsTo_81 rfl
  · refine kr_aload_n dX12_knotsTo_71 rfl 1 rfl ?_
    refine kr_getI (ci := 12) (j := 8) dX12_knotsTo_72 kr_at_346 fl_RX12_179 rfl (fun v3 => ?_)
    refine kr_iconst (v := 2) dX12_knotsTo_75 (by decide) ?_
    refine kr_icmp_eq (tgt := 3) dX12_knotsTo_76 (by decide) ?_ ?_
    · refine kr_sub [1, 2, 3, 4, 0] rfl ?_
      exact hk_3 (l4 + (1 : Int32)) M1
    · refine kr_iload dX12_knotsTo_79 0 rfl ?_
      exact kr_iret dX12_knotsTo_81 rfl
theorem r_X12_knotsTo_34 (E : kr_E) (k_3 : Int32 → kr_M → Option (Int32 × kr_M)) (l1 : Nat) (h_l1 : kr_sh l1 = (20, (kr_len l1))) (l2 : Int32) (l3 : Int32) (l4 : Int32) (hk_3 : ∀ (x4 : Int32) (M : kr_M), kR kr_vi E Y_X12_knotsTo 5 3 [(0, kr_r E 346), (1, kr_r E l1), (2, .int l2), (3, .int l3), (4, .int x4)] [] M (k_3 x4 M)) (M : kr_M) : kR kr_vi E Y_X12_knotsTo 5 34 [(0, kr_r E 346), (1, kr_r E l1), (2, .int l2), (3, .int l3), (4, .int l4)] [] M (f_X12_knotsTo_34 k_3 l1 l2 l3 l4 M) := by
  rw [f_X12_knotsTo_34]
  refine kr_aload_n dX12_knotsTo_34 rfl 0 rfl ?_
  refine kr_Vi (As := []) (st := []) zv_X12_kindHere dX12_knotsTo_35 ml_RX12_224 kr_at_346 (r_X12_kindHere E  M) rfl rfl (Nat.le_of_ble_eq_true rfl) rfl (by decide) (Nat.le_of_ble_eq_true rfl) (fun r2 M1 => ?_)
  refine kr_istore (lv' := [(5, .int r2), (0, kr_r E 346), (1, kr_r E l1), (2, .int l2), (3, .int l3), (4, .int l4)]) dX12_knotsTo_38 (by decide) rfl ?_
  refine kr_aload_n dX12_knotsTo_40 rfl 1 rfl ?_
  refine kr_Vi (As := []) (st := []) zv_X12_isGood dX12_knotsTo_41 ml_RX12_228 kr_at_346 (r_X12_isGood E  M1) rfl rfl (Nat.le_of_ble_eq_true rfl) rfl (by decide) (Nat.le_of_ble_eq_true rfl) (fun r4 M3 => ?_)
  refine kr_if_eq (tgt := 61) dX12_knotsTo_44 (by decide) ?_ ?_
  · refine kr_sub [1, 2, 3, 4, 5] rfl ?_
    exact r_X12_knotsTo_61 E _ l1 h_l1 l2 l3 l4 hk_3 M3
  · refine kr_iload dX12_knotsTo_47 5 rfl ?_
    refine kr_iload_n dX12_knotsTo_49 rfl 4 rfl ?_
    refine kr_icmp_ge (tgt := 61) dX12_knotsTo_50 (by decide) ?_ ?_
    · refine kr_sub [1, 2, 3, 4, 5] rfl ?_
      exact r_X12_knotsTo_61 E _ l1 h_l1 l2 l3 l4 hk_3 M3
    · refine kr_aload_n dX12_knotsTo_53 rfl 2 rfl ?_
      refine kr_iload_n dX12_knotsTo_54 rfl 3 rfl ?_
      refine kr_iload dX12_knotsTo_55 5 rfl ?_
      refine kr_iadd dX12_knotsTo_57 ?_
      refine kr_iload dX12_knotsTo_58 0 rfl ?_
      refine kr_iast dX12_knotsTo_60 h_l1 (fun M5 => ?_)
      refine kr_sub [1, 2, 3, 4, 5] rfl ?_
      exact r_X12_knotsTo_61 E _ l1 h_l1 l2 l3 l4 hk_3 M5
theorem r_X12_knotsTo_3 (E : kr_E)  (l1 : Nat) (h_l1 : kr_sh l1 = (20, (kr_len l1))) (l2 : Int32) (l3 : Int32)  : ∀ (n : Nat) (l4 : Int32) (M : kr_M), kR kr_vi E Y_X12_knotsTo 5 3 [(0, kr_r E 346), (1, kr_r E l1), (2, .int l2), (3, .int l3), (4, .int l4)] [] M (f_X12_knotsTo_3 l1 l2 l3 n l4 M) := by
  intro n
  induction n with
  | zero => intro l4 M; exact kr_none
  | succ n ih =>
    intro l4 M
    rw [f_X12_knotsTo_3]
    refine kr_iload dX12_knotsTo_3 4 rfl ?_
    refine kr_iload_n dX12_knotsTo_5 rfl 3 rfl ?_
    refine kr_icmp_ne (tgt := 34) dX12_knotsTo_6 (by decide) ?_ ?_
    · refine kr_sub [0, 1, 2, 3, 4] rfl ?_
      exact r_X12_knotsTo_34 E _ l1 h_l1 l2 l3 l4 ih M
    · refine kr_aload_n dX12_knotsTo_9 rfl 0 rfl ?_
      refine kr_getI (ci := 12) (j := 8) dX12_knotsTo_10 kr_at_346 fl_RX12_179 rfl (fun v1 => ?_)
      refine kr_iconst (v := 2) dX12_knotsTo_13 (by decide) ?_
      refine kr_icmp_ne (tgt := 34) dX12_knotsTo_14 (by decide) ?_ ?_
      · refine kr_sub [0, 1, 2, 3, 4] rfl ?_
        exact r_X12_knotsTo_34 E _ l1 h_l1 l2 l3 l4 ih M
      · refine kr_aload_n dX12_knotsTo_17 rfl 0 rfl ?_
        refine kr_getI (ci := 12) (j := 10) dX12_knotsTo_18 kr_at_346 fl_RX12_172 rfl (fun v2 => ?_)
        refine kr_aload_n dX12_knotsTo_21 rfl 0 rfl ?_
        refine kr_iconst (v := 3) dX12_knotsTo_22 (by decide) ?_
        refine kr_Vi (As := [.int (3 : Int32)]) (st := [.int v2]) zv_X12_hasRead dX12_knotsTo_23 ml_RX12_220 kr_at_346 (r_X12_hasRead E (3 : Int32) M) rfl rfl (Nat.le_of_ble_eq_true rfl) rfl (by decide) (Nat.le_of_ble_eq_true rfl) (fun r4 M3 => ?_)
        refine kr_icmp_ge (tgt := 34) dX12_knotsTo_26 (by decide) ?_ ?_
        · refine kr_sub [0, 1, 2, 3, 4] rfl ?_
          exact r_X12_knotsTo_34 E _ l1 h_l1 l2 l3 l4 ih M3
        · refine kr_aload_n dX12_knotsTo_29 rfl 0 rfl ?_
          refine kr_iconst (v := 3) dX12_knotsTo_30 (by decide) ?_
          refine kr_Vv (As := [.int (3 : Int32)]) (st := []) zv_X12_fails dX12_knotsTo_31 ml_RX12_206 kr_at_346 (r_X12_fails E (3 : Int32) M3) rfl rfl (Nat.le_of_ble_eq_true rfl) rfl (by decide) (Nat.le_of_ble_eq_true rfl) (fun M5 => ?_)
          refine kr_sub [0, 1, 2, 3, 4] rfl ?_
          exact r_X12_knotsTo_34 E _ l1 h_l1 l2 l3 l4 ih M5
theorem r_X12_knotsTo (E : kr_E) (p1 : Nat) (h_p1 : kr_sh p1 = (20, kr_len p1)) (p2 : Int32) (p3 : Int32) (M : kr_M) : kR kr_vi E Y_X12_knotsTo 5 0 [(0, kr_r E 346), (1, kr_r E p1), (2, .int p2), (3, .int p3)] [] M (f_X12_knotsTo p1 p2 p3 M) := by
  rw [f_X12_knotsTo]
  refine kr_iconst (v := 0) dX12_knotsTo_0 (by decide) ?_
  refine kr_istore (lv' := [(4, .int (0 : Int32)), (0, kr_r E 346), (1, kr_r E p1), (2, .int p2), (3, .int p3)]) dX12_knotsTo_1 (by decide) rfl ?_
  refine kr_sub [1, 2, 3, 4, 0] rfl ?_
  exact r_X12_knotsTo_3 E p1 h_p1 p2 p3 _ (0 : Int32) M
theorem dX12_areAlike_0 : decode cX12_areAlike 0 = .ok (.aload_n 0, 1) := by decide +kernel
theorem dX12_areAlike_1 : decode cX12_areAlike 1 = .ok (.getfield 43, 3) := by decide +kernel
theorem dX12_areAlike_4 : decode cX12_areAlike 4 = .ok (.iload_n 1, 1) := by decide +kernel
theorem dX12_areAlike_5 : decode cX12_areAlike 5 = .ok (.iaload, 1) := by decide +kernel
theorem dX12_areAlike_6 : decode cX12_areAlike 6 = .ok (.aload_n 0, 1) := by decide +kernel
theorem dX12_areAlike_7 : decode cX12_areAlike 7 = .ok (.getfield 43, 3) := by decide +kernel
theorem dX12_areAlike_10 : decode cX12_areAlike 10 = .ok (.iload_n 2, 1) := by decide +kernel
theorem dX12_areAlike_11 : decode cX12_areAlike 11 = .ok (.iaload, 1) := by decide +kernel
theorem dX12_areAlike_12 : decode cX12_areAlike 12 = .ok (.if_icmp .ne 7, 3) := by decide +kernel
theorem dX12_areAlike_15 : decode cX12_areAlike 15 = .ok (.iconst 1, 1) := by decide +kernel
theorem dX12_areAlike_16 : decode cX12_areAlike 16 = .ok (.goto 4, 3) := by decide +kernel
theorem dX12_areAlike_19 : decode cX12_areAlike 19 = .ok (.iconst 0, 1) := by decide +kernel
theorem dX12_areAlike_20 : decode cX12_areAlike 20 = .ok (.istore_n 3, 1) := by decide +kernel
theorem dX12_areAlike_21 : decode cX12_areAlike 21 = .ok (.iconst 0, 1) := by decide +kernel
theorem dX12_areAlike_22 : decode cX12_areAlike 22 = .ok (.istore 4, 2) := by decide +kernel
theorem dX12_areAlike_24 : decode cX12_areAlike 24 = .ok (.iload 4, 2) := by decide +kernel
theorem dX12_areAlike_26 : decode cX12_areAlike 26 = .ok (.aload_n 0, 1) := by decide +kernel
theorem dX12_areAlike_27 : decode cX12_areAlike 27 = .ok (.getfield 43, 3) := by decide +kernel
theorem dX12_areAlike_30 : decode cX12_areAlike 30 = .ok (.iload_n 1, 1) := by decide +kernel
theorem dX12_areAlike_31 : decode cX12_areAlike 31 = .ok (.iaload, 1) := by decide +kernel
theorem dX12_areAlike_32 : decode cX12_areAlike 32 = .ok (.if_icmp .ge 44, 3) := by decide +kernel
theorem dX12_areAlike_35 : decode cX12_areAlike 35 = .ok (.iload_n 3, 1) := by decide +kernel
theorem dX12_areAlike_36 : decode cX12_areAlike 36 = .ok (.ifCond .eq 40, 3) := by decide +kernel
theorem dX12_areAlike_39 : decode cX12_areAlike 39 = .ok (.aload_n 0, 1) := by decide +kernel
theorem dX12_areAlike_40 : decode cX12_areAlike 40 = .ok (.getfield 49, 3) := by decide +kernel
theorem dX12_areAlike_43 : decode cX12_areAlike 43 = .ok (.iconst 4, 1) := by decide +kernel
theorem dX12_areAlike_44 : decode cX12_areAlike 44 = .ok (.iload_n 1, 1) := by decide +kernel
theorem dX12_areAlike_45 : decode cX12_areAlike 45 = .ok (.imul, 1) := by decide +kernel
theorem dX12_areAlike_46 : decode cX12_areAlike 46 = .ok (.iload 4, 2) := by decide +kernel
theorem dX12_areAlike_48 : decode cX12_areAlike 48 = .ok (.iadd, 1) := by decide +kernel
theorem dX12_areAlike_49 : decode cX12_areAlike 49 = .ok (.iaload, 1) := by decide +kernel
theorem dX12_areAlike_50 : decode cX12_areAlike 50 = .ok (.aload_n 0, 1) := by decide +kernel
theorem dX12_areAlike_51 : decode cX12_areAlike 51 = .ok (.getfield 49, 3) := by decide +kernel
theorem dX12_areAlike_54 : decode cX12_areAlike 54 = .ok (.iconst 4, 1) := by decide +kernel
theorem dX12_areAlike_55 : decode cX12_areAlike 55 = .ok (.iload_n 2, 1) := by decide +kernel
theorem dX12_areAlike_56 : decode cX12_areAlike 56 = .ok (.imul, 1) := by decide +kernel
theorem dX12_areAlike_57 : decode cX12_areAlike 57 = .ok (.iload 4, 2) := by decide +kernel
theorem dX12_areAlike_59 : decode cX12_areAlike 59 = .ok (.iadd, 1) := by decide +kernel
theorem dX12_areAlike_60 : decode cX12_areAlike 60 = .ok (.iaload, 1) := by decide +kernel
theorem dX12_areAlike_61 : decode cX12_areAlike 61 = .ok (.if_icmp .ne 7, 3) := by decide +kernel
theorem dX12_areAlike_64 : decode cX12_areAlike 64 = .ok (.iconst 1, 1) := by decide +kernel
theorem dX12_areAlike_65 : decode cX12_areAlike 65 = .ok (.goto 4, 3) := by decide +kernel
theorem dX12_areAlike_68 : decode cX12_areAlike 68 = .ok (.iconst 0, 1) := by decide +kernel
theorem dX12_areAlike_69 : decode cX12_areAlike 69 = .ok (.istore_n 3, 1) := by decide +kernel
theorem dX12_areAlike_70 : decode cX12_areAlike 70 = .ok (.iinc 4 1, 3) := by decide +kernel
theorem dX12_areAlike_73 : decode cX12_areAlike 73 = .ok (.goto (-49), 3) := by decide +kernel
theorem dX12_areAlike_76 : decode cX12_areAlike 76 = .ok (.iload_n 3, 1) := by decide +kernel
theorem dX12_areAlike_77 : decode cX12_areAlike 77 = .ok (.ireturn, 1) := by decide +kernel
theorem r_X12_areAlike_69 (E : kr_E) (k_24 : Int32 → Int32 → kr_M → Option (Int32 × kr_M)) (l1 : Int32) (l2 : Int32) (l4 : Int32) (s0 : Int32) (hk_24 : ∀ (x3 : Int32) (x4 : Int32) (M : kr_M), kR kr_vi E Y_X12_areAlike 1 24 [(0, kr_r E 346), (1, .int l1), (2, .int l2), (3, .int x3), (4, .int x4)] [] M (k_24 x3 x4 M)) (M : kr_M) : kR kr_vi E Y_X12_areAlike 1 69 [(0, kr_r E 346), (1, .int l1), (2, .int l2), (4, .int l4)] [.int s0] M (f_X12_areAlike_69 k_24 l4 s0 M) := by
  rw [f_X12_areAlike_69]
  refine kr_istore_n (lv' := [(3, .int s0), (0, kr_r E 346), (1, .int l1), (2, .int l2), (4, .int l4)]) dX12_areAlike_69 rfl (by decide) rfl ?_
  refine kr_iinc (j := 4) (v := (l4 + (1 : Int32))) (lv' := [(4, .int (l4 + (1 : Int32))), (3, .int s0), (0, kr_r E 346), (1, .int l1), (2, .int l2)]) dX12_areAlike_70 rfl rfl (by decide) rfl ?_
  refine kr_goto (tgt := 24) dX12_areAlike_73 (by decide) ?_
  refine kr_sub [2, 3, 4, 1, 0] rfl ?_
  exact hk_24 s0 (l4 + (1 : Int32)) M
theorem r_X12_areAlike_24 (E : kr_E)  (l1 : Int32) (l2 : Int32)  : ∀ (n : Nat) (l3 : Int32) (l4 : Int32) (M : kr_M), kR kr_vi E Y_X12_areAlike 1 24 [(0, kr_r E 346), (1, .int l1), (2, .int l2), (3, .int l3), (4, .int l4)] [] M (f_X12_areAlike_24 l1 l2 n l3 l4 M) := by
  intro n
  induction n with
  | zero => intro l3 l4 M; exact kr_none
  | succ n ih =>
    intro l3 l4 M
    rw [f_X12_areAlike_24]
    refine kr_iload dX12_areAlike_24 4 rfl ?_
    refine kr_aload_n dX12_areAlike_26 rfl 0 rfl ?_
    refine kr_getA (o := 10) (ci := 12) (j := 20) dX12_areAlike_27 kr_at_346 fl_RX12_43 rfl ?_
    refine kr_iload_n dX12_areAlike_30 rfl 1 rfl ?_
    refine kr_iald dX12_areAlike_31 kr_at_356 (fun v1 => ?_)
    refine kr_icmp_ge (tgt := 76) dX12_areAlike_32 (by decide) ?_ ?_
    · refine kr_iload_n dX12_areAlike_76 rfl 3 rfl ?_
      exact kr_zret dX12_areAlike_77 rfl
    · refine kr_iload_n dX12_areAlike_35 rfl 3 rfl ?_
      refine kr_if_eq (tgt := 76) dX12_areAlike_36 (by decide) ?_ ?_
      · refine kr_iload_n dX12_areAlike_76 rfl 3 rfl ?_
        exact kr_zret dX12_areAlike_77 rfl
      · refine kr_aload_n dX12_areAlike_39 rfl 0 rfl ?_
        refine kr_getA (o := 12) (ci := 12) (j := 22) dX12_areAlike_40 kr_at_346 fl_RX12_49 rfl ?_
        refine kr_iconst (v := 4) dX12_areAlike_43 (by decide) ?_
        refine kr_iload_n dX12_areAlike_44 rfl 1 rfl ?_
        refine kr_imul dX12_areAlike_45 ?_
        refine kr_iload dX12_areAlike_46 4 rfl ?_
        refine kr_iadd dX12_areAlike_48 ?_
        refine kr_iald dX12_areAlike_49 kr_at_358 (fun v2 => ?_)
        refine kr_aload_n dX12_areAlike_50 rfl 0 rfl ?_
        refine kr_getA (o := 12) (ci := 12) (j := 22) dX12_areAlike_51 kr_at_346 fl_RX12_49 rfl ?_
        refine kr_iconst (v := 4) dX12_areAlike_54 (by decide) ?_
        refine kr_iload_n dX12_areAlike_55 rfl 2 rfl ?_
        refine kr_imul dX12_areAlike_56 ?_
        refine kr_iload dX12_areAlike_57 4 rfl ?_
        refine kr_iadd dX12_areAlike_59 ?_
        refine kr_iald dX12_areAlike_60 kr_at_358 (fun v3 => ?_)
        refine kr_icmp_ne (tgt := 68) dX12_areAlike_61 (by decide) ?_ ?_
        · refine kr_iconst (v := 0) dX12_areAlike_68 (by decide) ?_
          refine kr_sub [0, 1, 2, 4] rfl ?_
          exact r_X12_areAlike_69 E _ l1 l2 l4 (0 : Int32) ih M
        · refine kr_iconst (v := 1) dX12_areAlike_64 (by decide) ?_
          refine kr_goto (tgt := 69) dX12_areAlike_65 (by decide) ?_
          refine kr_sub [0, 1, 2, 4] rfl ?_
          exact r_X12_areAlike_69 E _ l1 l2 l4 (1 : Int32) ih M
theorem r_X12_areAlike_20 (E : kr_E)  (l1 : Int32) (l2 : Int32) (s0 : Int32)  (M : kr_M) : kR kr_vi E Y_X12_areAlike 1 20 [(0, kr_r E 346), (1, .int l1), (2, .int l2)] [.int s0] M (f_X12_areAlike_20 l1 l2 s0 M) := by
  rw [f_X12_areAlike_20]
  refine kr_istore_n (lv' := [(3, .int s0), (0, kr_r E 346), (1, .int l1), (2, .int l2)]) dX12_areAlike_20 rfl (by decide) rfl ?_
  refine kr_iconst (v := 0) dX12_areAlike_21 (by decide) ?_
  refine kr_istore (lv' := [(4, .int (0 : Int32)), (3, .int s0), (0, kr_r E 346), (1, .int l1), (2, .int l2)]) dX12_areAlike_22 (by decide) rfl ?_
  refine kr_sub [2, 3, 4, 1, 0] rfl ?_
  exact r_X12_areAlike_24 E l1 l2 _ s0 (0 : Int32) M
theorem r_X12_areAlike (E : kr_E) (p1 : Int32) (p2 : Int32) (M : kr_M) : kR kr_vi E Y_X12_areAlike 1 0 [(0, kr_r E 346), (1, .int p1), (2, .int p2)] [] M (f_X12_areAlike p1 p2 M) := by
  rw [f_X12_areAlike]
  refine kr_aload_n dX12_areAlike_0 rfl 0 rfl ?_
  refine kr_getA (o := 10) (ci := 12) (j := 20) dX12_areAlike_1 kr_at_346 fl_RX12_43 rfl ?_
  refine kr_iload_n dX12_areAlike_4 rfl 1 rfl ?_
  refine kr_iald dX12_areAlike_5 kr_at_356 (fun v1 => ?_)
  refine kr_aload_n dX12_areAlike_6 rfl 0 rfl ?_
  refine kr_getA (o := 10) (ci := 12) (j := 20) dX12_areAlike_7 kr_at_346 fl_RX12_43 rfl ?_
  refine kr_iload_n dX12_areAlike_10 rfl 2 rfl ?_
  refine kr_iald dX12_areAlike_11 kr_at_356 (fun v2 => ?_)
  refine kr_icmp_ne (tgt := 19) dX12_areAlike_12 (by decide) ?_ ?_
  · refine kr_iconst (v := 0) dX12_areAlike_19 (by decide) ?_
    refine kr_sub [0, 1, 2] rfl ?_
    exact r_X12_areAlike_20 E p1 p2 (0 : Int32) M
  · refine kr_iconst (v := 1) dX12_areAlike_15 (by decide) ?_
    refine kr_goto (tgt := 20) dX12_areAlike_16 (by decide) ?_
    refine kr_sub [0, 1, 2] rfl ?_
    exact r_X12_areAlike_20 E p1 p2 (1 : Int32) M
theorem dX12_wordLine_0 : decode cX12_wordLine 0 = .ok (.bipush 40, 2) := by decide +kernel
theorem dX12_wordLine_2 : decode cX12_wordLine 2 = .ok (.aload_n 0, 1) := by decide +kernel
theorem dX12_wordLine_3 : decode cX12_wordLine 3 = .ok (.iconst 4, 1) := by decide +kernel
theorem dX12_wordLine_4 : decode cX12_wordLine 4 = .ok (.invokevirtual 220, 3) := by decide +kernel
theorem dX12_wordLine_7 : decode cX12_wordLine 7 = .ok (.iadd, 1) := by decide +kernel
theorem dX12_wordLine_8 : decode cX12_wordLine 8 = .ok (.istore_n 1, 1) := by decide +kernel
theorem dX12_wordLine_9 : decode cX12_wordLine 9 = .ok (.aload_n 0, 1) := by decide +kernel
theorem dX12_wordLine_10 : decode cX12_wordLine 10 = .ok (.getfield 43, 3) := by decide +kernel
theorem dX12_wordLine_13 : decode cX12_wordLine 13 = .ok (.iload_n 1, 1) := by decide +kernel
theorem dX12_wordLine_14 : decode cX12_wordLine 14 = .ok (.aload_n 0, 1) := by decide +kernel
theorem dX12_wordLine_15 : decode cX12_wordLine 15 = .ok (.aload_n 0, 1) := by decide +kernel
theorem dX12_wordLine_16 : decode cX12_wordLine 16 = .ok (.getfield 49, 3) := by decide +kernel
theorem dX12_wordLine_19 : decode cX12_wordLine 19 = .ok (.iconst 4, 1) := by decide +kernel
theorem dX12_wordLine_20 : decode cX12_wordLine 20 = .ok (.iload_n 1, 1) := by decide +kernel
theorem dX12_wordLine_21 : decode cX12_wordLine 21 = .ok (.imul, 1) := by decide +kernel
theorem dX12_wordLine_22 : decode cX12_wordLine 22 = .ok (.iconst 4, 1) := by decide +kernel
theorem dX12_wordLine_23 : decode cX12_wordLine 23 = .ok (.invokevirtual 232, 3) := by decide +kernel
theorem dX12_wordLine_26 : decode cX12_wordLine 26 = .ok (.iastore, 1) := by decide +kernel
theorem dX12_wordLine_27 : decode cX12_wordLine 27 = .ok (.bipush 40, 2) := by decide +kernel
theorem dX12_wordLine_29 : decode cX12_wordLine 29 = .ok (.istore_n 2, 1) := by decide +kernel
theorem dX12_wordLine_30 : decode cX12_wordLine 30 = .ok (.iload_n 2, 1) := by decide +kernel
theorem dX12_wordLine_31 : decode cX12_wordLine 31 = .ok (.iload_n 1, 1) := by decide +kernel
theorem dX12_wordLine_32 : decode cX12_wordLine 32 = .ok (.if_icmp .ge 40, 3) := by decide +kernel
theorem dX12_wordLine_35 : decode cX12_wordLine 35 = .ok (.aload_n 0, 1) := by decide +kernel
theorem dX12_wordLine_36 : decode cX12_wordLine 36 = .ok (.getfield 190, 3) := by decide +kernel
theorem dX12_wordLine_39 : decode cX12_wordLine 39 = .ok (.ifCond .ne 33, 3) := by decide +kernel
theorem dX12_wordLine_42 : decode cX12_wordLine 42 = .ok (.aload_n 0, 1) := by decide +kernel
theorem dX12_wordLine_43 : decode cX12_wordLine 43 = .ok (.ldc2_w 236, 3) := by decide +kernel
theorem dX12_wordLine_46 : decode cX12_wordLine 46 = .ok (.invokevirtual 196, 3) := by decide +kernel
theorem dX12_wordLine_49 : decode cX12_wordLine 49 = .ok (.ifCond .eq 23, 3) := by decide +kernel
theorem dX12_wordLine_52 : decode cX12_wordLine 52 = .ok (.aload_n 0, 1) := by decide +kernel
theorem dX12_wordLine_53 : decode cX12_wordLine 53 = .ok (.iload_n 2, 1) := by decide +kernel
theorem dX12_wordLine_54 : decode cX12_wordLine 54 = .ok (.iload_n 1, 1) := by decide +kernel
theorem dX12_wordLine_55 : decode cX12_wordLine 55 = .ok (.invokevirtual 238, 3) := by decide +kernel
theorem dX12_wordLine_58 : decode cX12_wordLine 58 = .ok (.ifCond .eq 8, 3) := by decide +kernel
theorem dX12_wordLine_61 : decode cX12_wordLine 61 = .ok (.aload_n 0, 1) := by decide +kernel
theorem dX12_wordLine_62 : decode cX12_wordLine 62 = .ok (.iconst 2, 1) := by decide +kernel
theorem dX12_wordLine_63 : decode cX12_wordLine 63 = .ok (.invokevirtual 206, 3) := by decide +kernel
theorem dX12_wordLine_66 : decode cX12_wordLine 66 = .ok (.iinc 2 1, 3) := by decide +kernel
theorem dX12_wordLine_69 : decode cX12_wordLine 69 = .ok (.goto (-39), 3) := by decide +kernel
theorem dX12_wordLine_72 : decode cX12_wordLine 72 = .ok (.aload_n 0, 1) := by decide +kernel
theorem dX12_wordLine_73 : decode cX12_wordLine 73 = .ok (.getfield 46, 3) := by decide +kernel
theorem dX12_wordLine_76 : decode cX12_wordLine 76 = .ok (.iload_n 1, 1) := by decide +kernel
theorem dX12_wordLine_77 : decode cX12_wordLine 77 = .ok (.aload_n 0, 1) := by decide +kernel
theorem dX12_wordLine_78 : decode cX12_wordLine 78 = .ok (.ldc2_w 236, 3) := by decide +kernel
theorem dX12_wordLine_81 : decode cX12_wordLine 81 = .ok (.iconst 0, 1) := by decide +kernel
theorem dX12_wordLine_82 : decode cX12_wordLine 82 = .ok (.bipush 99, 2) := by decide +kernel
theorem dX12_wordLine_84 : decode cX12_wordLine 84 = .ok (.invokevirtual 242, 3) := by decide +kernel
theorem dX12_wordLine_87 : decode cX12_wordLine 87 = .ok (.iastore, 1) := by decide +kernel
theorem dX12_wordLine_88 : decode cX12_wordLine 88 = .ok (.aload_n 0, 1) := by decide +kernel
theorem dX12_wordLine_89 : decode cX12_wordLine 89 = .ok (.iconst 4, 1) := by decide +kernel
theorem dX12_wordLine_90 : decode cX12_wordLine 90 = .ok (.aload_n 0, 1) := by decide +kernel
theorem dX12_wordLine_91 : decode cX12_wordLine 91 = .ok (.iconst 4, 1) := by decide +kernel
theorem dX12_wordLine_92 : decode cX12_wordLine 92 = .ok (.invokevirtual 220, 3) := by decide +kernel
theorem dX12_wordLine_95 : decode cX12_wordLine 95 = .ok (.iconst 1, 1) := by decide +kernel
theorem dX12_wordLine_96 : decode cX12_wordLine 96 = .ok (.iadd, 1) := by decide +kernel
theorem dX12_wordLine_97 : decode cX12_wordLine 97 = .ok (.invokevirtual 245, 3) := by decide +kernel
theorem dX12_wordLine_100 : decode cX12_wordLine 100 = .ok (.return_, 1) := by decide +kernel
theorem r_X12_wordLine_72 (E : kr_E)  (l1 : Int32)  (M : kr_M) : kR kr_vv E Y_X12_wordLine 6 72 [(0, kr_r E 346), (1, .int l1)] [] M (f_X12_wordLine_72 l1 M) := by
  rw [f_X12_wordLine_72]
  refine kr_aload_n dX12_wordLine_72 rfl 0 rfl ?_
  refine kr_getA (o := 11) (ci := 12) (j := 21) dX12_wordLine_73 kr_at_346 fl_RX12_46 rfl ?_
  refine kr_iload_n dX12_wordLine_76 rfl 1 rfl ?_
  refine kr_aload_n dX12_wordLine_77 rfl 0 rfl ?_
  refine kr_ldc2 dX12_wordLine_78 kl_RX12_236 ?_
  refine kr_iconst (v := 0) dX12_wordLine_81 (by decide) ?_
  refine kr_bipush (v := 99) dX12_wordLine_82 (by decide) ?_
  refine kr_Vi (As := [.long (7008274 : Int64), .int (0 : Int32), .int (99 : Int32)]) (st := [.int l1, kr_r E 357]) zv_X12_number_ dX12_wordLine_84 ml_RX12_242 kr_at_346 (r_X12_number_ E (7008274 : Int64) (0 : Int32) (99 : Int32) M) rfl rfl (Nat.le_of_ble_eq_true rfl) rfl (by decide) (Nat.le_of_ble_eq_true rfl) (fun r2 M1 => ?_)
  refine kr_iast dX12_wordLine_87 kr_at_357 (fun M3 => ?_)
  refine kr_aload_n dX12_wordLine_88 rfl 0 rfl ?_
  refine kr_iconst (v := 4) dX12_wordLine_89 (by decide) ?_
  refine kr_aload_n dX12_wordLine_90 rfl 0 rfl ?_
  refine kr_iconst (v := 4) dX12_wordLine_91 (by decide) ?_
  refine kr_Vi (As := [.int (4 : Int32)]) (st := [.int (4 : Int32), kr_r E 346]) zv_X12_hasRead dX12_wordLine_92 ml_RX12_220 kr_at_346 (r_X12_hasRead E (4 : Int32) M3) rfl rfl (Nat.le_of_ble_eq_true rfl) rfl (by decide) (Nat.le_of_ble_eq_true rfl) (fun r5 M4 => ?_)
  refine kr_iconst (v := 1) dX12_wordLine_95 (by decide) ?_
  refine kr_iadd dX12_wordLine_96 ?_
  refine kr_Vv (As := [.int (4 : Int32), .int (r5 + (1 : Int32))]) (st := []) zv_X12_tells dX12_wordLine_97 ml_RX12_245 kr_at_346 (r_X12_tells E (4 : Int32) (r5 + (1 : Int32)) M4) rfl rfl (Nat.le_of_ble_eq_true rfl) rfl (by decide) (Nat.le_of_ble_eq_true rfl) (fun M6 => ?_)
  exact kr_vret dX12_wordLine_100 rfl
theorem r_X12_wordLine_66 (E : kr_E) (k_30 : Int32 → kr_M → Option kr_M) (l1 : Int32) (l2 : Int32) (hk_30 : ∀ (x2 : Int32) (M : kr_M), kR kr_vv E Y_X12_wordLine 6 30 [(0, kr_r E 346), (1, .int l1), (2, .int x2)] [] M (k_30 x2 M)) (M : kr_M) : kR kr_vv E Y_X12_wordLine 6 66 [(0, kr_r E 346), (1, .int l1), (2, .int l2)] [] M (f_X12_wordLine_66 k_30 l2 M) := by
  rw [f_X12_wordLine_66]
  refine kr_iinc (j := 2) (v := (l2 + (1 : Int32))) (lv' := [(2, .int (l2 + (1 : Int32))), (0, kr_r E 346), (1, .int l1)]) dX12_wordLine_66 rfl rfl (by decide) rfl ?_
  refine kr_goto (tgt := 30) dX12_wordLine_69 (by decide) ?_
  refine kr_sub [1, 2, 0] rfl ?_
  exact hk_30 (l2 + (1 : Int32)) M
theorem r_X12_wordLine_30 (E : kr_E)  (l1 : Int32)  : ∀ (n : Nat) (l2 : Int32) (M : kr_M), kR kr_vv E Y_X12_wordLine 6 30 [(0, kr_r E 346), (1, .int l1), (2, .int l2)] [] M (f_X12_wordLine_30 l1 n l2 M) := by
  intro n
  induction n with
  | zero => intro l2 M; exact kr_none
  | succ n ih =>
    intro l2 M
    rw [f_X12_wordLine_30]
    refine kr_iload_n dX12_wordLine_30 rfl 2 rfl ?_
    refine kr_iload_n dX12_wordLine_31 rfl 1 rfl ?_
    refine kr_icmp_ge (tgt := 72) dX12_wordLine_32 (by decide) ?_ ?_
    · refine kr_sub [0, 1] rfl ?_
      exact r_X12_wordLine_72 E l1 M
    · refine kr_aload_n dX12_wordLine_35 rfl 0 rfl ?_
      refine kr_getI (ci := 12) (j := 12) dX12_wordLine_36 kr_at_346 fl_RX12_190 rfl (fun v1 => ?_)
      refine kr_if_ne (tgt := 72) dX12_wordLine_39 (by decide) ?_ ?_
      · refine kr_sub [0, 1] rfl ?_
        exact r_X12_wordLine_72 E l1 M
      · refine kr_aload_n dX12_wordLine_42 rfl 0 rfl ?_
        refine kr_ldc2 dX12_wordLine_43 kl_RX12_236 ?_
        refine kr_Vi (As := [.long (7008274 : Int64)]) (st := []) zv_X12_is dX12_wordLine_46 ml_RX12_196 kr_at_346 (r_X12_is E (7008274 : Int64) M) rfl rfl (Nat.le_of_ble_eq_true rfl) rfl (by decide) (Nat.le_of_ble_eq_true rfl) (fun r3 M2 => ?_)
        refine kr_if_eq (tgt := 72) dX12_wordLine_49 (by decide) ?_ ?_
        · refine kr_sub [0, 1] rfl ?_
          exact r_X12_wordLine_72 E l1 M2
        · refine kr_aload_n dX12_wordLine_52 rfl 0 rfl ?_
          refine kr_iload_n dX12_wordLine_53 rfl 2 rfl ?_
          refine kr_iload_n dX12_wordLine_54 rfl 1 rfl ?_
          refine kr_Vi (As := [.int l2, .int l1]) (st := []) zv_X12_areAlike dX12_wordLine_55 ml_RX12_238 kr_at_346 (r_X12_areAlike E l2 l1 M2) rfl rfl (Nat.le_of_ble_eq_true rfl) rfl (by decide) (Nat.le_of_ble_eq_true rfl) (fun r5 M4 => ?_)
          refine kr_if_eq (tgt := 66) dX12_wordLine_58 (by decide) ?_ ?_
          · refine kr_sub [0, 1, 2] rfl ?_
            exact r_X12_wordLine_66 E _ l1 l2 ih M4
          · refine kr_aload_n dX12_wordLine_61 rfl 0 rfl ?_
            refine kr_iconst (v := 2) dX12_wordLine_62 (by decide) ?_
            refine kr_Vv (As := [.int (2 : Int32)]) (st := []) zv_X12_fails dX12_wordLine_63 ml_RX12_206 kr_at_346 (r_X12_fails E (2 : Int32) M4) rfl rfl (Nat.le_of_ble_eq_true rfl) rfl (by decide) (Nat.le_of_ble_eq_true rfl) (fun M6 => ?_)
            refine kr_sub [0, 1, 2] rfl ?_
            exact r_X12_wordLine_66 E _ l1 l2 ih M6
theorem r_X12_wordLine (E : kr_E)  (M : kr_M) : kR kr_vv E Y_X12_wordLine 6 0 [(0, kr_r E 346)] [] M (f_X12_wordLine M) := by
  rw [f_X12_wordLine]
  refine kr_bipush (v := 40) dX12_wordLine_0 (by decide) ?_
  refine kr_aload_n dX12_wordLine_2 rfl 0 rfl ?_
  refine kr_iconst (v := 4) dX12_wordLine_3 (by decide) ?_
  refine kr_Vi (As := [.int (4 : Int32)]) (st := [.int (40 : Int32)]) zv_X12_hasRead dX12_wordLine_4 ml_RX12_220 kr_at_346 (r_X12_hasRead E (4 : Int32) M) rfl rfl (Nat.le_of_ble_eq_true rfl) rfl (by decide) (Nat.le_of_ble_eq_true rfl) (fun r2 M1 => ?_)
  refine kr_iadd dX12_wordLine_7 ?_
  refine kr_nmi (fun v3 => ?_)
  refine kr_istore_n (lv' := [(1, .int v3), (0, kr_r E 346)]) dX12_wordLine_8 rfl (by decide) rfl ?_
  refine kr_aload_n dX12_wordLine_9 rfl 1 rfl ?_
  refine kr_getA (o := 10) (ci := 12) (j := 20) dX12_wordLine_10 kr_at_346 fl_RX12_43 rfl ?_
  refine kr_iload_n dX12_wordLine_13 rfl 0 rfl ?_
  refine kr_aload_n dX12_wordLine_14 rfl 1 rfl ?_
  refine kr_aload_n dX12_wordLine_15 rfl 1 rfl ?_
  refine kr_getA (o := 12) (ci := 12) (j := 22) dX12_wordLine_16 kr_at_346 fl_RX12_49 rfl ?_
  refine kr_iconst (v := 4) dX12_wordLine_19 (by decide) ?_
  refine kr_iload_n dX12_wordLine_20 rfl 0 rfl ?_
  refine kr_imul dX12_wordLine_21 ?_
  refine kr_iconst (v := 4) dX12_wordLine_22 (by decide) ?_
  refine kr_Vi (As := [kr_r E 358, .int ((4 : Int32) * v3), .int (4 : Int32)]) (st := [.int v3, kr_r E 356]) zv_X12_knotsTo dX12_wordLine_23 ml_RX12_232 kr_at_346 (r_X12_knotsTo E 358 (kr_at_358) ((4 : Int32) * v3) (4 : Int32) M1) rfl rfl (Nat.le_of_ble_eq_true rfl) rfl (by decide) (Nat.le_of_ble_eq_true rfl) (fun r5 M4 => ?_)
  refine kr_iast dX12_wordLine_26 kr_at_356 (fun M6 => ?_)
  refine kr_bipush (v := 40) dX12_wordLine_27 (by decide) ?_
  refine kr_istore_n (lv' := [(2, .int (40 : Int32)), (1, .int v3), (0, kr_r E 346)]) dX12_wordLine_29 rfl (by decide) rfl ?_
  refine kr_sub [2, 1, 0] rfl ?_
  exact r_X12_wordLine_30 E v3 _ (40 : Int32) M6
theorem dX12_ropeLine_0 : decode cX12_ropeLine 0 = .ok (.bipush 24, 2) := by decide +kernel
theorem dX12_ropeLine_2 : decode cX12_ropeLine 2 = .ok (.aload_n 0, 1) := by decide +kernel
theorem dX12_ropeLine_3 : decode cX12_ropeLine 3 = .ok (.iconst 5, 1) := by decide +kernel
theorem dX12_ropeLine_4 : decode cX12_ropeLine 4 = .ok (.invokevirtual 220, 3) := by decide +kernel
theorem dX12_ropeLine_7 : decode cX12_ropeLine 7 = .ok (.iadd, 1) := by decide +kernel
theorem dX12_ropeLine_8 : decode cX12_ropeLine 8 = .ok (.istore_n 1, 1) := by decide +kernel
theorem dX12_ropeLine_9 : decode cX12_ropeLine 9 = .ok (.aload_n 0, 1) := by decide +kernel
theorem dX12_ropeLine_10 : decode cX12_ropeLine 10 = .ok (.getfield 52, 3) := by decide +kernel
theorem dX12_ropeLine_13 : decode cX12_ropeLine 13 = .ok (.iconst 4, 1) := by decide +kernel
theorem dX12_ropeLine_14 : decode cX12_ropeLine 14 = .ok (.iload_n 1, 1) := by decide +kernel
theorem dX12_ropeLine_15 : decode cX12_ropeLine 15 = .ok (.imul, 1) := by decide +kernel
theorem dX12_ropeLine_16 : decode cX12_ropeLine 16 = .ok (.aload_n 0, 1) := by decide +kernel
theorem dX12_ropeLine_17 : decode cX12_ropeLine 17 = .ok (.invokevirtual 249, 3) := by decide +kernel
theorem dX12_ropeLine_20 : decode cX12_ropeLine 20 = .ok (.iastore, 1) := by decide +kernel
theorem dX12_ropeLine_21 : decode cX12_ropeLine 21 = .ok (.aload_n 0, 1) := by decide +kernel
theorem dX12_ropeLine_22 : decode cX12_ropeLine 22 = .ok (.ldc2_w 252, 3) := by decide +kernel
theorem dX12_ropeLine_25 : decode cX12_ropeLine 25 = .ok (.invokevirtual 209, 3) := by decide +kernel
theorem dX12_ropeLine_28 : decode cX12_ropeLine 28 = .ok (.aload_n 0, 1) := by decide +kernel
theorem dX12_ropeLine_29 : decode cX12_ropeLine 29 = .ok (.getfield 190, 3) := by decide +kernel
theorem dX12_ropeLine_32 : decode cX12_ropeLine 32 = .ok (.ifCond .ne 31, 3) := by decide +kernel
theorem dX12_ropeLine_35 : decode cX12_ropeLine 35 = .ok (.aload_n 0, 1) := by decide +kernel
theorem dX12_ropeLine_36 : decode cX12_ropeLine 36 = .ok (.getfield 179, 3) := by decide +kernel
theorem dX12_ropeLine_39 : decode cX12_ropeLine 39 = .ok (.iconst 2, 1) := by decide +kernel
theorem dX12_ropeLine_40 : decode cX12_ropeLine 40 = .ok (.if_icmp .ne 23, 3) := by decide +kernel
theorem dX12_ropeLine_43 : decode cX12_ropeLine 43 = .ok (.aload_n 0, 1) := by decide +kernel
theorem dX12_ropeLine_44 : decode cX12_ropeLine 44 = .ok (.getfield 172, 3) := by decide +kernel
theorem dX12_ropeLine_47 : decode cX12_ropeLine 47 = .ok (.aload_n 0, 1) := by decide +kernel
theorem dX12_ropeLine_48 : decode cX12_ropeLine 48 = .ok (.getfield 52, 3) := by decide +kernel
theorem dX12_ropeLine_51 : decode cX12_ropeLine 51 = .ok (.iconst 4, 1) := by decide +kernel
theorem dX12_ropeLine_52 : decode cX12_ropeLine 52 = .ok (.iload_n 1, 1) := by decide +kernel
theorem dX12_ropeLine_53 : decode cX12_ropeLine 53 = .ok (.imul, 1) := by decide +kernel
theorem dX12_ropeLine_54 : decode cX12_ropeLine 54 = .ok (.iaload, 1) := by decide +kernel
theorem dX12_ropeLine_55 : decode cX12_ropeLine 55 = .ok (.if_icmp .ne 8, 3) := by decide +kernel
theorem dX12_ropeLine_58 : decode cX12_ropeLine 58 = .ok (.aload_n 0, 1) := by decide +kernel
theorem dX12_ropeLine_59 : decode cX12_ropeLine 59 = .ok (.iconst 2, 1) := by decide +kernel
theorem dX12_ropeLine_60 : decode cX12_ropeLine 60 = .ok (.invokevirtual 206, 3) := by decide +kernel
theorem dX12_ropeLine_63 : decode cX12_ropeLine 63 = .ok (.aload_n 0, 1) := by decide +kernel
theorem dX12_ropeLine_64 : decode cX12_ropeLine 64 = .ok (.getfield 52, 3) := by decide +kernel
theorem dX12_ropeLine_67 : decode cX12_ropeLine 67 = .ok (.iconst 4, 1) := by decide +kernel
theorem dX12_ropeLine_68 : decode cX12_ropeLine 68 = .ok (.iload_n 1, 1) := by decide +kernel
theorem dX12_ropeLine_69 : decode cX12_ropeLine 69 = .ok (.imul, 1) := by decide +kernel
theorem dX12_ropeLine_70 : decode cX12_ropeLine 70 = .ok (.iconst 1, 1) := by decide +kernel
theorem dX12_ropeLine_71 : decode cX12_ropeLine 71 = .ok (.iadd, 1) := by decide +kernel
theorem dX12_ropeLine_72 : decode cX12_ropeLine 72 = .ok (.aload_n 0, 1) := by decide +kernel
theorem dX12_ropeLine_73 : decode cX12_ropeLine 73 = .ok (.invokevirtual 249, 3) := by decide +kernel
theorem dX12_ropeLine_76 : decode cX12_ropeLine 76 = .ok (.iastore, 1) := by decide +kernel
theorem dX12_ropeLine_77 : decode cX12_ropeLine 77 = .ok (.aload_n 0, 1) := by decide +kernel
theorem dX12_ropeLine_78 : decode cX12_ropeLine 78 = .ok (.getfield 52, 3) := by decide +kernel
theorem dX12_ropeLine_81 : decode cX12_ropeLine 81 = .ok (.iconst 4, 1) := by decide +kernel
theorem dX12_ropeLine_82 : decode cX12_ropeLine 82 = .ok (.iload_n 1, 1) := by decide +kernel
theorem dX12_ropeLine_83 : decode cX12_ropeLine 83 = .ok (.imul, 1) := by decide +kernel
theorem dX12_ropeLine_84 : decode cX12_ropeLine 84 = .ok (.iconst 2, 1) := by decide +kernel
theorem dX12_ropeLine_85 : decode cX12_ropeLine 85 = .ok (.iadd, 1) := by decide +kernel
theorem dX12_ropeLine_86 : decode cX12_ropeLine 86 = .ok (.aload_n 0, 1) := by decide +kernel
theorem dX12_ropeLine_87 : decode cX12_ropeLine 87 = .ok (.ldc2_w 254, 3) := by decide +kernel
theorem dX12_ropeLine_90 : decode cX12_ropeLine 90 = .ok (.iconst 1, 1) := by decide +kernel
theorem dX12_ropeLine_91 : decode cX12_ropeLine 91 = .ok (.sipush 999, 3) := by decide +kernel
theorem dX12_ropeLine_94 : decode cX12_ropeLine 94 = .ok (.invokevirtual 242, 3) := by decide +kernel
theorem dX12_ropeLine_97 : decode cX12_ropeLine 97 = .ok (.iastore, 1) := by decide +kernel
theorem dX12_ropeLine_98 : decode cX12_ropeLine 98 = .ok (.aload_n 0, 1) := by decide +kernel
theorem dX12_ropeLine_99 : decode cX12_ropeLine 99 = .ok (.ldc2_w 256, 3) := by decide +kernel
theorem dX12_ropeLine_102 : decode cX12_ropeLine 102 = .ok (.invokevirtual 209, 3) := by decide +kernel
theorem dX12_ropeLine_105 : decode cX12_ropeLine 105 = .ok (.aload_n 0, 1) := by decide +kernel
theorem dX12_ropeLine_106 : decode cX12_ropeLine 106 = .ok (.invokevirtual 228, 3) := by decide +kernel
theorem dX12_ropeLine_109 : decode cX12_ropeLine 109 = .ok (.ifCond .eq 27, 3) := by decide +kernel
theorem dX12_ropeLine_112 : decode cX12_ropeLine 112 = .ok (.aload_n 0, 1) := by decide +kernel
theorem dX12_ropeLine_113 : decode cX12_ropeLine 113 = .ok (.getfield 52, 3) := by decide +kernel
theorem dX12_ropeLine_116 : decode cX12_ropeLine 116 = .ok (.iconst 4, 1) := by decide +kernel
theorem dX12_ropeLine_117 : decode cX12_ropeLine 117 = .ok (.iload_n 1, 1) := by decide +kernel
theorem dX12_ropeLine_118 : decode cX12_ropeLine 118 = .ok (.imul, 1) := by decide +kernel
theorem dX12_ropeLine_119 : decode cX12_ropeLine 119 = .ok (.iconst 3, 1) := by decide +kernel
theorem dX12_ropeLine_120 : decode cX12_ropeLine 120 = .ok (.iadd, 1) := by decide +kernel
theorem dX12_ropeLine_121 : decode cX12_ropeLine 121 = .ok (.aload_n 0, 1) := by decide +kernel
theorem dX12_ropeLine_122 : decode cX12_ropeLine 122 = .ok (.aload_n 0, 1) := by decide +kernel
theorem dX12_ropeLine_123 : decode cX12_ropeLine 123 = .ok (.getfield 55, 3) := by decide +kernel
theorem dX12_ropeLine_126 : decode cX12_ropeLine 126 = .ok (.bipush 12, 2) := by decide +kernel
theorem dX12_ropeLine_128 : decode cX12_ropeLine 128 = .ok (.iload_n 1, 1) := by decide +kernel
theorem dX12_ropeLine_129 : decode cX12_ropeLine 129 = .ok (.imul, 1) := by decide +kernel
theorem dX12_ropeLine_130 : decode cX12_ropeLine 130 = .ok (.bipush 12, 2) := by decide +kernel
theorem dX12_ropeLine_132 : decode cX12_ropeLine 132 = .ok (.invokevirtual 232, 3) := by decide +kernel
theorem dX12_ropeLine_135 : decode cX12_ropeLine 135 = .ok (.iastore, 1) := by decide +kernel
theorem dX12_ropeLine_136 : decode cX12_ropeLine 136 = .ok (.aload_n 0, 1) := by decide +kernel
theorem dX12_ropeLine_137 : decode cX12_ropeLine 137 = .ok (.iconst 5, 1) := by decide +kernel
theorem dX12_ropeLine_138 : decode cX12_ropeLine 138 = .ok (.aload_n 0, 1) := by decide +kernel
theorem dX12_ropeLine_139 : decode cX12_ropeLine 139 = .ok (.iconst 5, 1) := by decide +kernel
theorem dX12_ropeLine_140 : decode cX12_ropeLine 140 = .ok (.invokevirtual 220, 3) := by decide +kernel
theorem dX12_ropeLine_143 : decode cX12_ropeLine 143 = .ok (.iconst 1, 1) := by decide +kernel
theorem dX12_ropeLine_144 : decode cX12_ropeLine 144 = .ok (.iadd, 1) := by decide +kernel
theorem dX12_ropeLine_145 : decode cX12_ropeLine 145 = .ok (.invokevirtual 245, 3) := by decide +kernel
theorem dX12_ropeLine_148 : decode cX12_ropeLine 148 = .ok (.return_, 1) := by decide +kernel
theorem r_X12_ropeLine_136 (E : kr_E)    (M : kr_M) : kR kr_vv E Y_X12_ropeLine 6 136 [(0, kr_r E 346)] [] M (f_X12_ropeLine_136 M) := by
  rw [f_X12_ropeLine_136]
  refine kr_aload_n dX12_ropeLine_136 rfl 0 rfl ?_
  refine kr_iconst (v := 5) dX12_ropeLine_137 (by decide) ?_
  refine kr_aload_n dX12_ropeLine_138 rfl 0 rfl ?_
  refine kr_iconst (v := 5) dX12_ropeLine_139 (by decide) ?_
  refine kr_Vi (As := [.int (5 : Int32)]) (st := [.int (5 : Int32), kr_r E 346]) zv_X12_hasRead dX12_ropeLine_140 ml_RX12_220 kr_at_346 (r_X12_hasRead E (5 : Int32) M) rfl rfl (Nat.le_of_ble_eq_true rfl) rfl (by decide) (Nat.le_of_ble_eq_true rfl) (fun r2 M1 => ?_)
  refine kr_iconst (v := 1) dX12_ropeLine_143 (by decide) ?_
  refine kr_iadd dX12_ropeLine_144 ?_
  refine kr_Vv (As := [.int (5 : Int32), .int (r2 + (1 : Int32))]) (st := []) zv_X12_tells dX12_ropeLine_145 ml_RX12_245 kr_at_346 (r_X12_tells E (5 : Int32) (r2 + (1 : Int32)) M1) rfl rfl (Nat.le_of_ble_eq_true rfl) rfl (by decide) (Nat.le_of_ble_eq_true rfl) (fun M3 => ?_)
  exact kr_vret dX12_ropeLine_148 rfl
theorem r_X12_ropeLine_63 (E : kr_E)  (l1 : Int32)  (M : kr_M) : kR kr_vv E Y_X12_ropeLine 6 63 [(0, kr_r E 346), (1, .int l1)] [] M (f_X12_ropeLine_63 l1 M) := by
  rw [f_X12_ropeLine_63]
  refine kr_aload_n dX12_ropeLine_63 rfl 0 rfl ?_
  refine kr_getA (o := 13) (ci := 12) (j := 23) dX12_ropeLine_64 kr_at_346 fl_RX12_52 rfl ?_
  refine kr_iconst (v := 4) dX12_ropeLine_67 (by decide) ?_
  refine kr_iload_n dX12_ropeLine_68 rfl 1 rfl ?_
  refine kr_imul dX12_ropeLine_69 ?_
  refine kr_iconst (v := 1) dX12_ropeLine_70 (by decide) ?_
  refine kr_iadd dX12_ropeLine_71 ?_
  refine kr_aload_n dX12_ropeLine_72 rfl 0 rfl ?_
  refine kr_Vi (As := []) (st := [.int (((4 : Int32) * l1) + (1 : Int32)), kr_r E 359]) zv_X12_placeHere dX12_ropeLine_73 ml_RX12_249 kr_at_346 (r_X12_placeHere E  M) rfl rfl (Nat.le_of_ble_eq_true rfl) rfl (by decide) (Nat.le_of_ble_eq_true rfl) (fun r2 M1 => ?_)
  refine kr_iast dX12_ropeLine_76 kr_at_359 (fun M3 => ?_)
  refine kr_aload_n dX12_ropeLine_77 rfl 0 rfl ?_
  refine kr_getA (o := 13) (ci := 12) (j := 23) dX12_ropeLine_78 kr_at_346 fl_RX12_52 rfl ?_
  refine kr_iconst (v := 4) dX12_ropeLine_81 (by decide) ?_
  refine kr_iload_n dX12_ropeLine_82 rfl 1 rfl ?_
  refine kr_imul dX12_ropeLine_83 ?_
  refine kr_iconst (v := 2) dX12_ropeLine_84 (by decide) ?_
  refine kr_iadd dX12_ropeLine_85 ?_
  refine kr_aload_n dX12_ropeLine_86 rfl 0 rfl ?_
  refine kr_ldc2 dX12_ropeLine_87 kl_RX12_254 ?_
  refine kr_iconst (v := 1) dX12_ropeLine_90 (by decide) ?_
  refine kr_sipush (v := 999) dX12_ropeLine_91 (by decide) ?_
  refine kr_Vi (As := [.long (1162531 : Int64), .int (1 : Int32), .int (999 : Int32)]) (st := [.int (((4 : Int32) * l1) + (2 : Int32)), kr_r E 359]) zv_X12_number_ dX12_ropeLine_94 ml_RX12_242 kr_at_346 (r_X12_number_ E (1162531 : Int64) (1 : Int32) (999 : Int32) M3) rfl rfl (Nat.le_of_ble_eq_true rfl) rfl (by decide) (Nat.le_of_ble_eq_true rfl) (fun r5 M4 => ?_)
  refine kr_iast dX12_ropeLine_97 kr_at_359 (fun M6 => ?_)
  refine kr_aload_n dX12_ropeLine_98 rfl 0 rfl ?_
  refine kr_ldc2 dX12_ropeLine_99 kl_RX12_256 ?_
  refine kr_Vv (As := [.long (411 : Int64)]) (st := []) zv_X12_asks dX12_ropeLine_102 ml_RX12_209 kr_at_346 (r_X12_asks E (411 : Int64) M6) rfl rfl (Nat.le_of_ble_eq_true rfl) rfl (by decide) (Nat.le_of_ble_eq_true rfl) (fun M7 => ?_)
  refine kr_aload_n dX12_ropeLine_105 rfl 0 rfl ?_
  refine kr_Vi (As := []) (st := []) zv_X12_isGood dX12_ropeLine_106 ml_RX12_228 kr_at_346 (r_X12_isGood E  M7) rfl rfl (Nat.le_of_ble_eq_true rfl) rfl (by decide) (Nat.le_of_ble_eq_true rfl) (fun r10 M9 => ?_)
  refine kr_if_eq (tgt := 136) dX12_ropeLine_109 (by decide) ?_ ?_
  · refine kr_sub [0] rfl ?_
    exact r_X12_ropeLine_136 E M9
  · refine kr_aload_n dX12_ropeLine_112 rfl 0 rfl ?_
    refine kr_getA (o := 13) (ci := 12) (j := 23) dX12_ropeLine_113 kr_at_346 fl_RX12_52 rfl ?_
    refine kr_iconst (v := 4) dX12_ropeLine_116 (by decide) ?_
    refine kr_iload_n dX12_ropeLine_117 rfl 1 rfl ?_
    refine kr_imul dX12_ropeLine_118 ?_
    refine kr_iconst (v := 3) dX12_ropeLine_119 (by decide) ?_
    refine kr_iadd dX12_ropeLine_120 ?_
    refine kr_aload_n dX12_ropeLine_121 rfl 0 rfl ?_
    refine kr_aload_n dX12_ropeLine_122 rfl 0 rfl ?_
    refine kr_getA (o := 14) (ci := 12) (j := 24) dX12_ropeLine_123 kr_at_346 fl_RX12_55 rfl ?_
    refine kr_bipush (v := 12) dX12_ropeLine_126 (by decide) ?_
    refine kr_iload_n dX12_ropeLine_128 rfl 1 rfl ?_
    refine kr_imul dX12_ropeLine_129 ?_
    refine kr_bipush (v := 12) dX12_ropeLine_130 (by decide) ?_
    refine kr_Vi (As := [kr_r E 360, .int ((12 : Int32) * l1), .int (12 : Int32)]) (st := [.int (((4 : Int32) * l1) + (3 : Int32)), kr_r E 359]) zv_X12_knotsTo dX12_ropeLine_132 ml_RX12_232 kr_at_346 (r_X12_knotsTo E 360 (kr_at_360) ((12 : Int32) * l1) (12 : Int32) M9) rfl rfl (Nat.le_of_ble_eq_true rfl) rfl (by decide) (Nat.le_of_ble_eq_true rfl) (fun r12 M11 => ?_)
    refine kr_iast dX12_ropeLine_135 kr_at_359 (fun M13 => ?_)
    refine kr_sub [0] rfl ?_
    exact r_X12_ropeLine_136 E M13
theorem r_X12_ropeLine (E : kr_E)  (M : kr_M) : kR kr_vv E Y_X12_ropeLine 6 0 [(0, kr_r E 346)] [] M (f_X12_ropeLine M) := by
  rw [f_X12_ropeLine]
  refine kr_bipush (v := 24) dX12_ropeLine_0 (by decide) ?_
  refine kr_aload_n dX12_ropeLine_2 rfl 0 rfl ?_
  refine kr_iconst (v := 5) dX12_ropeLine_3 (by decide) ?_
  refine kr_Vi (As := [.int (5 : Int32)]) (st := [.int (24 : Int32)]) zv_X12_hasRead dX12_ropeLine_4 ml_RX12_220 kr_at_346 (r_X12_hasRead E (5 : Int32) M) rfl rfl (Nat.le_of_ble_eq_true rfl) rfl (by decide) (Nat.le_of_ble_eq_true rfl) (fun r2 M1 => ?_)
  refine kr_iadd dX12_ropeLine_7 ?_
  refine kr_nmi (fun v3 => ?_)
  refine kr_istore_n (lv' := [(1, .int v3), (0, kr_r E 346)]) dX12_ropeLine_8 rfl (by decide) rfl ?_
  refine kr_aload_n dX12_ropeLine_9 rfl 1 rfl ?_
  refine kr_getA (o := 13) (ci := 12) (j := 23) dX12_ropeLine_10 kr_at_346 fl_RX12_52 rfl ?_
  refine kr_iconst (v := 4) dX12_ropeLine_13 (by decide) ?_
  refine kr_iload_n dX12_ropeLine_14 rfl 0 rfl ?_
  refine kr_imul dX12_ropeLine_15 ?_
  refine kr_aload_n dX12_ropeLine_16 rfl 1 rfl ?_
  refine kr_Vi (As := []) (st := [.int ((4 : Int32) * v3), kr_r E 359]) zv_X12_placeHere dX12_ropeLine_17 ml_RX12_249 kr_at_346 (r_X12_placeHere E  M1) rfl rfl (Nat.le_of_ble_eq_true rfl) rfl (by decide) (Nat.le_of_ble_eq_true rfl) (fun r5 M4 => ?_)
  refine kr_iast dX12_ropeLine_20 kr_at_359 (fun M6 => ?_)
  refine kr_aload_n dX12_ropeLine_21 rfl 1 rfl ?_
  refine kr_ldc2 dX12_ropeLine_22 kl_RX12_252 ?_
  refine kr_Vv (As := [.long (555 : Int64)]) (st := []) zv_X12_asks dX12_ropeLine_25 ml_RX12_209 kr_at_346 (r_X12_asks E (555 : Int64) M6) rfl rfl (Nat.le_of_ble_eq_true rfl) rfl (by decide) (Nat.le_of_ble_eq_true rfl) (fun M7 => ?_)
  refine kr_aload_n dX12_ropeLine_28 rfl 1 rfl ?_
  refine kr_getI (ci := 12) (j := 12) dX12_ropeLine_29 kr_at_346 fl_RX12_190 rfl (fun v9 => ?_)
  refine kr_if_ne (tgt := 63) dX12_ropeLine_32 (by decide) ?_ ?_
  · refine kr_sub [1, 0] rfl ?_
    exact r_X12_ropeLine_63 E v3 M7
  · refine kr_aload_n dX12_ropeLine_35 rfl 1 rfl ?_
    refine kr_getI (ci := 12) (j := 8) dX12_ropeLine_36 kr_at_346 fl_RX12_179 rfl (fun v10 => ?_)
    refine kr_iconst (v := 2) dX12_ropeLine_39 (by decide) ?_
    refine kr_icmp_ne (tgt := 63) dX12_ropeLine_40 (by decide) ?_ ?_
    · refine kr_sub [1, 0] rfl ?_
      exact r_X12_ropeLine_63 E v3 M7
    · refine kr_aload_n dX12_ropeLine_43 rfl 1 rfl ?_
      refine kr_getI (ci := 12) (j := 10) dX12_ropeLine_44 kr_at_346 fl_RX12_172 rfl (fun v11 => ?_)
      refine kr_aload_n dX12_ropeLine_47 rfl 1 rfl ?_
      refine kr_getA (o := 13) (ci := 12) (j := 23) dX12_ropeLine_48 kr_at_346 fl_RX12_52 rfl ?_
      refine kr_iconst (v := 4) dX12_ropeLine_51 (by decide) ?_
      refine kr_iload_n dX12_ropeLine_52 rfl 0 rfl ?_
      refine kr_imul dX12_ropeLine_53 ?_
      refine kr_iald dX12_ropeLine_54 kr_at_359 (fun v12 => ?_)
      refine kr_icmp_ne (tgt := 63) dX12_ropeLine_55 (by decide) ?_ ?_
      · refine kr_sub [1, 0] rfl ?_
        exact r_X12_ropeLine_63 E v3 M7
      · refine kr_aload_n dX12_ropeLine_58 rfl 1 rfl ?_
        refine kr_iconst (v := 2) dX12_ropeLine_59 (by decide) ?_
        refine kr_Vv (As := [.int (2 : Int32)]) (st := []) zv_X12_fails dX12_ropeLine_60 ml_RX12_206 kr_at_346 (r_X12_fails E (2 : Int32) M7) rfl rfl (Nat.le_of_ble_eq_true rfl) rfl (by decide) (Nat.le_of_ble_eq_true rfl) (fun M13 => ?_)
        refine kr_sub [1, 0] rfl ?_
        exact r_X12_ropeLine_63 E v3 M13
theorem dX12_personLine_0 : decode cX12_personLine 0 = .ok (.iconst 3, 1) := by decide +kernel
theorem dX12_personLine_1 : decode cX12_personLine 1 = .ok (.bipush 24, 2) := by decide +kernel
theorem dX12_personLine_3 : decode cX12_personLine 3 = .ok (.aload_n 0, 1) := by decide +kernel
theorem dX12_personLine_4 : decode cX12_personLine 4 = .ok (.bipush 6, 2) := by decide +kernel
theorem dX12_personLine_6 : decode cX12_personLine 6 = .ok (.invokevirtual 220, 3) := by decide +kernel
theorem dX12_personLine_9 : decode cX12_personLine 9 = .ok (.iadd, 1) := by decide +kernel
theorem dX12_personLine_10 : decode cX12_personLine 10 = .ok (.imul, 1) := by decide +kernel
theorem dX12_personLine_11 : decode cX12_personLine 11 = .ok (.istore_n 1, 1) := by decide +kernel
theorem dX12_personLine_12 : decode cX12_personLine 12 = .ok (.aload_n 0, 1) := by decide +kernel
theorem dX12_personLine_13 : decode cX12_personLine 13 = .ok (.getfield 58, 3) := by decide +kernel
theorem dX12_personLine_16 : decode cX12_personLine 16 = .ok (.iload_n 1, 1) := by decide +kernel
theorem dX12_personLine_17 : decode cX12_personLine 17 = .ok (.aload_n 0, 1) := by decide +kernel
theorem dX12_personLine_18 : decode cX12_personLine 18 = .ok (.ldc2_w 258, 3) := by decide +kernel
theorem dX12_personLine_21 : decode cX12_personLine 21 = .ok (.iconst 1, 1) := by decide +kernel
theorem dX12_personLine_22 : decode cX12_personLine 22 = .ok (.sipush 999, 3) := by decide +kernel
theorem dX12_personLine_25 : decode cX12_personLine 25 = .ok (.invokevirtual 242, 3) := by decide +kernel
theorem dX12_personLine_28 : decode cX12_personLine 28 = .ok (.iastore, 1) := by decide +kernel
theorem dX12_personLine_29 : decode cX12_personLine 29 = .ok (.aload_n 0, 1) := by decide +kernel
theorem dX12_personLine_30 : decode cX12_personLine 30 = .ok (.getfield 58, 3) := by decide +kernel
theorem dX12_personLine_33 : decode cX12_personLine 33 = .ok (.iload_n 1, 1) := by decide +kernel
theorem dX12_personLine_34 : decode cX12_personLine 34 = .ok (.iconst 1, 1) := by decide +kernel
theorem dX12_personLine_35 : decode cX12_personLine 35 = .ok (.iadd, 1) := by decide +kernel
theorem dX12_personLine_36 : decode cX12_personLine 36 = .ok (.aload_n 0, 1) := by decide +kernel
theorem dX12_personLine_37 : decode cX12_personLine 37 = .ok (.ldc2_w 260, 3) := by decide +kernel
theorem dX12_personLine_40 : decode cX12_personLine 40 = .ok (.iconst 1, 1) := by decide +kernel
theorem dX12_personLine_41 : decode cX12_personLine 41 = .ok (.bipush 9, 2) := by decide +kernel
theorem dX12_personLine_43 : decode cX12_personLine 43 = .ok (.invokevirtual 242, 3) := by decide +kernel
theorem dX12_personLine_46 : decode cX12_personLine 46 = .ok (.iastore, 1) := by decide +kernel
theorem dX12_personLine_47 : decode cX12_personLine 47 = .ok (.aload_n 0, 1) := by decide +kernel
theorem dX12_personLine_48 : decode cX12_personLine 48 = .ok (.ldc2_w 262, 3) := by decide +kernel
theorem dX12_personLine_51 : decode cX12_personLine 51 = .ok (.invokevirtual 209, 3) := by decide +kernel
theorem dX12_personLine_54 : decode cX12_personLine 54 = .ok (.aload_n 0, 1) := by decide +kernel
theorem dX12_personLine_55 : decode cX12_personLine 55 = .ok (.getfield 58, 3) := by decide +kernel
theorem dX12_personLine_58 : decode cX12_personLine 58 = .ok (.iload_n 1, 1) := by decide +kernel
theorem dX12_personLine_59 : decode cX12_personLine 59 = .ok (.iconst 2, 1) := by decide +kernel
theorem dX12_personLine_60 : decode cX12_personLine 60 = .ok (.iadd, 1) := by decide +kernel
theorem dX12_personLine_61 : decode cX12_personLine 61 = .ok (.aload_n 0, 1) := by decide +kernel
theorem dX12_personLine_62 : decode cX12_personLine 62 = .ok (.invokevirtual 249, 3) := by decide +kernel
theorem dX12_personLine_65 : decode cX12_personLine 65 = .ok (.iastore, 1) := by decide +kernel
theorem dX12_personLine_66 : decode cX12_personLine 66 = .ok (.aload_n 0, 1) := by decide +kernel
theorem dX12_personLine_67 : decode cX12_personLine 67 = .ok (.bipush 6, 2) := by decide +kernel
theorem dX12_personLine_69 : decode cX12_personLine 69 = .ok (.aload_n 0, 1) := by decide +kernel
theorem dX12_personLine_70 : decode cX12_personLine 70 = .ok (.bipush 6, 2) := by decide +kernel
theorem dX12_personLine_72 : decode cX12_personLine 72 = .ok (.invokevirtual 220, 3) := by decide +kernel
theorem dX12_personLine_75 : decode cX12_personLine 75 = .ok (.iconst 1, 1) := by decide +kernel
theorem dX12_personLine_76 : decode cX12_personLine 76 = .ok (.iadd, 1) := by decide +kernel
theorem dX12_personLine_77 : decode cX12_personLine 77 = .ok (.invokevirtual 245, 3) := by decide +kernel
theorem dX12_personLine_80 : decode cX12_personLine 80 = .ok (.return_, 1) := by decide +kernel
theorem r_X12_personLine (E : kr_E)  (M : kr_M) : kR kr_vv E Y_X12_personLine 6 0 [(0, kr_r E 346)] [] M (f_X12_personLine M) := by
  rw [f_X12_personLine]
  refine kr_iconst (v := 3) dX12_personLine_0 (by decide) ?_
  refine kr_bipush (v := 24) dX12_personLine_1 (by decide) ?_
  refine kr_aload_n dX12_personLine_3 rfl 0 rfl ?_
  refine kr_bipush (v := 6) dX12_personLine_4 (by decide) ?_
  refine kr_Vi (As := [.int (6 : Int32)]) (st := [.int (24 : Int32), .int (3 : Int32)]) zv_X12_hasRead dX12_personLine_6 ml_RX12_220 kr_at_346 (r_X12_hasRead E (6 : Int32) M) rfl rfl (Nat.le_of_ble_eq_true rfl) rfl (by decide) (Nat.le_of_ble_eq_true rfl) (fun r2 M1 => ?_)
  refine kr_iadd dX12_personLine_9 ?_
  refine kr_imul dX12_personLine_10 ?_
  refine kr_nmi (fun v3 => ?_)
  refine kr_istore_n (lv' := [(1, .int v3), (0, kr_r E 346)]) dX12_personLine_11 rfl (by decide) rfl ?_
  refine kr_aload_n dX12_personLine_12 rfl 1 rfl ?_
  refine kr_getA (o := 15) (ci := 12) (j := 25) dX12_personLine_13 kr_at_346 fl_RX12_58 rfl ?_
  refine kr_iload_n dX12_personLine_16 rfl 0 rfl ?_
  refine kr_aload_n dX12_personLine_17 rfl 1 rfl ?_
  refine kr_ldc2 dX12_personLine_18 kl_RX12_258 ?_
  refine kr_iconst (v := 1) dX12_personLine_21 (by decide) ?_
  refine kr_sipush (v := 999) dX12_personLine_22 (by decide) ?_
  refine kr_Vi (As := [.long (332864551 : Int64), .int (1 : Int32), .int (999 : Int32)]) (st := [.int v3, kr_r E 361]) zv_X12_number_ dX12_personLine_25 ml_RX12_242 kr_at_346 (r_X12_number_ E (332864551 : Int64) (1 : Int32) (999 : Int32) M1) rfl rfl (Nat.le_of_ble_eq_true rfl) rfl (by decide) (Nat.le_of_ble_eq_true rfl) (fun r5 M4 => ?_)
  refine kr_iast dX12_personLine_28 kr_at_361 (fun M6 => ?_)
  refine kr_aload_n dX12_personLine_29 rfl 1 rfl ?_
  refine kr_getA (o := 15) (ci := 12) (j := 25) dX12_personLine_30 kr_at_346 fl_RX12_58 rfl ?_
  refine kr_iload_n dX12_personLine_33 rfl 0 rfl ?_
  refine kr_iconst (v := 1) dX12_personLine_34 (by decide) ?_
  refine kr_iadd dX12_personLine_35 ?_
  refine kr_aload_n dX12_personLine_36 rfl 1 rfl ?_
  refine kr_ldc2 dX12_personLine_37 kl_RX12_260 ?_
  refine kr_iconst (v := 1) dX12_personLine_40 (by decide) ?_
  refine kr_bipush (v := 9) dX12_personLine_41 (by decide) ?_
  refine kr_Vi (As := [.long (315743 : Int64), .int (1 : Int32), .int (9 : Int32)]) (st := [.int (v3 + (1 : Int32)), kr_r E 361]) zv_X12_number_ dX12_personLine_43 ml_RX12_242 kr_at_346 (r_X12_number_ E (315743 : Int64) (1 : Int32) (9 : Int32) M6) rfl rfl (Nat.le_of_ble_eq_true rfl) rfl (by decide) (Nat.le_of_ble_eq_true rfl) (fun r8 M7 => ?_)
  refine kr_iast dX12_personLine_46 kr_at_361 (fun M9 => ?_)
  refine kr_aload_n dX12_personLine_47 rfl 1 rfl ?_
  refine kr_ldc2 dX12_personLine_48 kl_RX12_262 ?_
  refine kr_Vv (As := [.long (47 : Int64)]) (st := []) zv_X12_asks dX12_personLine_51 ml_RX12_209 kr_at_346 (r_X12_asks E (47 : Int64) M9) rfl rfl (Nat.le_of_ble_eq_true rfl) rfl (by decide) (Nat.le_of_ble_eq_true rfl) (fun M10 => ?_)
  refine kr_aload_n dX12_personLine_54 rfl 1 rfl ?_
  refine kr_getA (o := 15) (ci := 12) (j := 25) dX12_personLine_55 kr_at_346 fl_RX12_58 rfl ?_
  refine kr_iload_n dX12_personLine_58 rfl 0 rfl ?_
  refine kr_iconst (v := 2) dX12_personLine_59 (by decide) ?_
  refine kr_iadd dX12_personLine_60 ?_
  refine kr_aload_n dX12_personLine_61 rfl 1 rfl ?_
  refine kr_Vi (As := []) (st := [.int (v3 + (2 : Int32)), kr_r E 361]) zv_X12_placeHere dX12_personLine_62 ml_RX12_249 kr_at_346 (r_X12_placeHere E  M10) rfl rfl (Nat.le_of_ble_eq_true rfl) rfl (by decide) (Nat.le_of_ble_eq_true rfl) (fun r13 M12 => ?_)
  refine kr_iast dX12_personLine_65 kr_at_361 (fun M14 => ?_)
  refine kr_aload_n dX12_personLine_66 rfl 1 rfl ?_
  refine kr_bipush (v := 6) dX12_personLine_67 (by decide) ?_
  refine kr_aload_n dX12_personLine_69 rfl 1 rfl ?_
  refine kr_bipush (v := 6) dX12_personLine_70 (by decide) ?_
  refine kr_Vi (As := [.int (6 : Int32)]) (st := [.int (6 : Int32), kr_r E 346]) zv_X12_hasRead dX12_personLine_72 ml_RX12_220 kr_at_346 (r_X12_hasRead E (6 : Int32) M14) rfl rfl (Nat.le_of_ble_eq_true rfl) rfl (by decide) (Nat.le_of_ble_eq_true rfl) (fun r16 M15 => ?_)
  refine kr_iconst (v := 1) dX12_personLine_75 (by decide) ?_
  refine kr_iadd dX12_personLine_76 ?_
  refine kr_Vv (As := [.int (6 : Int32), .int (r16 + (1 : Int32))]) (st := []) zv_X12_tells dX12_personLine_77 ml_RX12_245 kr_at_346 (r_X12_tells E (6 : Int32) (r16 + (1 : Int32)) M15) rfl rfl (Nat.le_of_ble_eq_true rfl) rfl (by decide) (Nat.le_of_ble_eq_true rfl) (fun M17 => ?_)
  exact kr_vret dX12_personLine_80 rfl
theorem dX12_isRoom_0 : decode cX12_isRoom 0 = .ok (.iload_n 1, 1) := by decide +kernel
theorem dX12_isRoom_1 : decode cX12_isRoom 1 = .ok (.ifCond .eq 17, 3) := by decide +kernel
theorem dX12_isRoom_4 : decode cX12_isRoom 4 = .ok (.aload_n 0, 1) := by decide +kernel
theorem dX12_isRoom_5 : decode cX12_isRoom 5 = .ok (.iload_n 2, 1) := by decide +kernel
theorem dX12_isRoom_6 : decode cX12_isRoom 6 = .ok (.invokevirtual 220, 3) := by decide +kernel
theorem dX12_isRoom_9 : decode cX12_isRoom 9 = .ok (.iload_n 3, 1) := by decide +kernel
theorem dX12_isRoom_10 : decode cX12_isRoom 10 = .ok (.if_icmp .ne 8, 3) := by decide +kernel
theorem dX12_isRoom_13 : decode cX12_isRoom 13 = .ok (.aload_n 0, 1) := by decide +kernel
theorem dX12_isRoom_14 : decode cX12_isRoom 14 = .ok (.iconst 3, 1) := by decide +kernel
theorem dX12_isRoom_15 : decode cX12_isRoom 15 = .ok (.invokevirtual 206, 3) := by decide +kernel
theorem dX12_isRoom_18 : decode cX12_isRoom 18 = .ok (.iload_n 1, 1) := by decide +kernel
theorem dX12_isRoom_19 : decode cX12_isRoom 19 = .ok (.ifCond .eq 14, 3) := by decide +kernel
theorem dX12_isRoom_22 : decode cX12_isRoom 22 = .ok (.aload_n 0, 1) := by decide +kernel
theorem dX12_isRoom_23 : decode cX12_isRoom 23 = .ok (.getfield 190, 3) := by decide +kernel
theorem dX12_isRoom_26 : decode cX12_isRoom 26 = .ok (.ifCond .ne 7, 3) := by decide +kernel
theorem dX12_isRoom_29 : decode cX12_isRoom 29 = .ok (.aload_n 0, 1) := by decide +kernel
theorem dX12_isRoom_30 : decode cX12_isRoom 30 = .ok (.invokevirtual 200, 3) := by decide +kernel
theorem dX12_isRoom_33 : decode cX12_isRoom 33 = .ok (.iload_n 1, 1) := by decide +kernel
theorem dX12_isRoom_34 : decode cX12_isRoom 34 = .ok (.ifCond .eq 14, 3) := by decide +kernel
theorem dX12_isRoom_37 : decode cX12_isRoom 37 = .ok (.aload_n 0, 1) := by decide +kernel
theorem dX12_isRoom_38 : decode cX12_isRoom 38 = .ok (.getfield 190, 3) := by decide +kernel
theorem dX12_isRoom_41 : decode cX12_isRoom 41 = .ok (.ifCond .ne 7, 3) := by decide +kernel
theorem dX12_isRoom_44 : decode cX12_isRoom 44 = .ok (.iconst 1, 1) := by decide +kernel
theorem dX12_isRoom_45 : decode cX12_isRoom 45 = .ok (.goto 4, 3) := by decide +kernel
theorem dX12_isRoom_48 : decode cX12_isRoom 48 = .ok (.iconst 0, 1) := by decide +kernel
theorem dX12_isRoom_49 : decode cX12_isRoom 49 = .ok (.ireturn, 1) := by decide +kernel
theorem r_X12_isRoom_33 (E : kr_E)  (l1 : Int32)  (M : kr_M) : kR kr_vi E Y_X12_isRoom 3 33 [(0, kr_r E 346), (1, .int l1)] [] M (f_X12_isRoom_33 l1 M) := by
  rw [f_X12_isRoom_33]
  refine kr_iload_n dX12_isRoom_33 rfl 1 rfl ?_
  refine kr_if_eq (tgt := 48) dX12_isRoom_34 (by decide) ?_ ?_
  · refine kr_iconst (v := 0) dX12_isRoom_48 (by decide) ?_
    exact kr_zret1 dX12_isRoom_49 rfl rfl
  · refine kr_aload_n dX12_isRoom_37 rfl 0 rfl ?_
    refine kr_getI (ci := 12) (j := 12) dX12_isRoom_38 kr_at_346 fl_RX12_190 rfl (fun v1 => ?_)
    refine kr_if_ne (tgt := 48) dX12_isRoom_41 (by decide) ?_ ?_
    · refine kr_iconst (v := 0) dX12_isRoom_48 (by decide) ?_
      exact kr_zret1 dX12_isRoom_49 rfl rfl
    · refine kr_iconst (v := 1) dX12_isRoom_44 (by decide) ?_
      refine kr_goto (tgt := 49) dX12_isRoom_45 (by decide) ?_
      exact kr_zret1 dX12_isRoom_49 rfl rfl
theorem r_X12_isRoom_18 (E : kr_E)  (l1 : Int32)  (M : kr_M) : kR kr_vi E Y_X12_isRoom 3 18 [(0, kr_r E 346), (1, .int l1)] [] M (f_X12_isRoom_18 l1 M) := by
  rw [f_X12_isRoom_18]
  refine kr_iload_n dX12_isRoom_18 rfl 1 rfl ?_
  refine kr_if_eq (tgt := 33) dX12_isRoom_19 (by decide) ?_ ?_
  · refine kr_sub [0, 1] rfl ?_
    exact r_X12_isRoom_33 E l1 M
  · refine kr_aload_n dX12_isRoom_22 rfl 0 rfl ?_
    refine kr_getI (ci := 12) (j := 12) dX12_isRoom_23 kr_at_346 fl_RX12_190 rfl (fun v1 => ?_)
    refine kr_if_ne (tgt := 33) dX12_isRoom_26 (by decide) ?_ ?_
    · refine kr_sub [0, 1] rfl ?_
      exact r_X12_isRoom_33 E l1 M
    · refine kr_aload_n dX12_isRoom_29 rfl 0 rfl ?_
      refine kr_Vv (As := []) (st := []) zv_X12_next dX12_isRoom_30 ml_RX12_200 kr_at_346 (r_X12_next E  M) rfl rfl (Nat.le_of_ble_eq_true rfl) rfl (by decide) (Nat.le_of_ble_eq_true rfl) (fun M2 => ?_)
      refine kr_sub [0, 1] rfl ?_
      exact r_X12_isRoom_33 E l1 M2
theorem r_X12_isRoom (E : kr_E) (p1 : Int32) (p2 : Int32) (p3 : Int32) (M : kr_M) : kR kr_vi E Y_X12_isRoom 3 0 [(0, kr_r E 346), (1, .int p1), (2, .int p2), (3, .int p3)] [] M (f_X12_isRoom p1 p2 p3 M) := by
  rw [f_X12_isRoom]
  refine kr_iload_n dX12_isRoom_0 rfl 1 rfl ?_
  refine kr_if_eq (tgt := 18) dX12_isRoom_1 (by decide) ?_ ?_
  · refine kr_sub [0, 1] rfl ?_
    exact r_X12_isRoom_18 E p1 M
  · refine kr_aload_n dX12_isRoom_4 rfl 0 rfl ?_
    refine kr_iload_n dX12_isRoom_5 rfl 2 rfl ?_
    refine kr_Vi (As := [.int p2]) (st := []) zv_X12_hasRead dX12_isRoom_6 ml_RX12_220 kr_at_346 (r_X12_hasRead E p2 M) rfl rfl (Nat.le_of_ble_eq_true rfl) rfl (by decide) (Nat.le_of_ble_eq_true rfl) (fun r2 M1 => ?_)
    refine kr_iload_n dX12_isRoom_9 rfl 3 rfl ?_
    refine kr_icmp_ne (tgt := 18) dX12_isRoom_10 (by decide) ?_ ?_
    · refine kr_sub [0, 1] rfl ?_
      exact r_X12_isRoom_18 E p1 M1
    · refine kr_aload_n dX12_isRoom_13 rfl 0 rfl ?_
      refine kr_iconst (v := 3) dX12_isRoom_14 (by decide) ?_
      refine kr_Vv (As := [.int (3 : Int32)]) (st := []) zv_X12_fails dX12_isRoom_15 ml_RX12_206 kr_at_346 (r_X12_fails E (3 : Int32) M1) rfl rfl (Nat.le_of_ble_eq_true rfl) rfl (by decide) (Nat.le_of_ble_eq_true rfl) (fun M3 => ?_)
      refine kr_sub [0, 1] rfl ?_
      exact r_X12_isRoom_18 E p1 M3
theorem dX12_line_0 : decode cX12_line 0 = .ok (.aload_n 0, 1) := by decide +kernel
theorem dX12_line_1 : decode cX12_line 1 = .ok (.aload_n 0, 1) := by decide +kernel
theorem dX12_line_2 : decode cX12_line 2 = .ok (.ldc2_w 264, 3) := by decide +kernel
theorem dX12_line_5 : decode cX12_line 5 = .ok (.invokevirtual 196, 3) := by decide +kernel
theorem dX12_line_8 : decode cX12_line 8 = .ok (.iconst 3, 1) := by decide +kernel
theorem dX12_line_9 : decode cX12_line 9 = .ok (.bipush 6, 2) := by decide +kernel
theorem dX12_line_11 : decode cX12_line 11 = .ok (.invokevirtual 266, 3) := by decide +kernel
theorem dX12_line_14 : decode cX12_line 14 = .ok (.ifCond .eq 59, 3) := by decide +kernel
theorem dX12_line_17 : decode cX12_line 17 = .ok (.bipush 24, 2) := by decide +kernel
theorem dX12_line_19 : decode cX12_line 19 = .ok (.aload_n 0, 1) := by decide +kernel
theorem dX12_line_20 : decode cX12_line 20 = .ok (.iconst 3, 1) := by decide +kernel
theorem dX12_line_21 : decode cX12_line 21 = .ok (.invokevirtual 220, 3) := by decide +kernel
theorem dX12_line_24 : decode cX12_line 24 = .ok (.iadd, 1) := by decide +kernel
theorem dX12_line_25 : decode cX12_line 25 = .ok (.istore_n 1, 1) := by decide +kernel
theorem dX12_line_26 : decode cX12_line 26 = .ok (.aload_n 0, 1) := by decide +kernel
theorem dX12_line_27 : decode cX12_line 27 = .ok (.getfield 37, 3) := by decide +kernel
theorem dX12_line_30 : decode cX12_line 30 = .ok (.iload_n 1, 1) := by decide +kernel
theorem dX12_line_31 : decode cX12_line 31 = .ok (.aload_n 0, 1) := by decide +kernel
theorem dX12_line_32 : decode cX12_line 32 = .ok (.ldc2_w 270, 3) := by decide +kernel
theorem dX12_line_35 : decode cX12_line 35 = .ok (.iconst 1, 1) := by decide +kernel
theorem dX12_line_36 : decode cX12_line 36 = .ok (.bipush 9, 2) := by decide +kernel
theorem dX12_line_38 : decode cX12_line 38 = .ok (.invokevirtual 242, 3) := by decide +kernel
theorem dX12_line_41 : decode cX12_line 41 = .ok (.iastore, 1) := by decide +kernel
theorem dX12_line_42 : decode cX12_line 42 = .ok (.aload_n 0, 1) := by decide +kernel
theorem dX12_line_43 : decode cX12_line 43 = .ok (.getfield 40, 3) := by decide +kernel
theorem dX12_line_46 : decode cX12_line 46 = .ok (.iload_n 1, 1) := by decide +kernel
theorem dX12_line_47 : decode cX12_line 47 = .ok (.aload_n 0, 1) := by decide +kernel
theorem dX12_line_48 : decode cX12_line 48 = .ok (.ldc2_w 272, 3) := by decide +kernel
theorem dX12_line_51 : decode cX12_line 51 = .ok (.iconst 0, 1) := by decide +kernel
theorem dX12_line_52 : decode cX12_line 52 = .ok (.bipush 50, 2) := by decide +kernel
theorem dX12_line_54 : decode cX12_line 54 = .ok (.invokevirtual 242, 3) := by decide +kernel
theorem dX12_line_57 : decode cX12_line 57 = .ok (.iastore, 1) := by decide +kernel
theorem dX12_line_58 : decode cX12_line 58 = .ok (.aload_n 0, 1) := by decide +kernel
theorem dX12_line_59 : decode cX12_line 59 = .ok (.iconst 3, 1) := by decide +kernel
theorem dX12_line_60 : decode cX12_line 60 = .ok (.aload_n 0, 1) := by decide +kernel
theorem dX12_line_61 : decode cX12_line 61 = .ok (.iconst 3, 1) := by decide +kernel
theorem dX12_line_62 : decode cX12_line 62 = .ok (.invokevirtual 220, 3) := by decide +kernel
theorem dX12_line_65 : decode cX12_line 65 = .ok (.iconst 1, 1) := by decide +kernel
theorem dX12_line_66 : decode cX12_line 66 = .ok (.iadd, 1) := by decide +kernel
theorem dX12_line_67 : decode cX12_line 67 = .ok (.invokevirtual 245, 3) := by decide +kernel
theorem dX12_line_70 : decode cX12_line 70 = .ok (.goto 109, 3) := by decide +kernel
theorem dX12_line_73 : decode cX12_line 73 = .ok (.aload_n 0, 1) := by decide +kernel
theorem dX12_line_74 : decode cX12_line 74 = .ok (.getfield 190, 3) := by decide +kernel
theorem dX12_line_77 : decode cX12_line 77 = .ok (.ifCond .ne 27, 3) := by decide +kernel
theorem dX12_line_80 : decode cX12_line 80 = .ok (.aload_n 0, 1) := by decide +kernel
theorem dX12_line_81 : decode cX12_line 81 = .ok (.aload_n 0, 1) := by decide +kernel
theorem dX12_line_82 : decode cX12_line 82 = .ok (.ldc2_w 274, 3) := by decide +kernel
theorem dX12_line_85 : decode cX12_line 85 = .ok (.invokevirtual 196, 3) := by decide +kernel
theorem dX12_line_88 : decode cX12_line 88 = .ok (.iconst 4, 1) := by decide +kernel
theorem dX12_line_89 : decode cX12_line 89 = .ok (.bipush 10, 2) := by decide +kernel
theorem dX12_line_91 : decode cX12_line 91 = .ok (.invokevirtual 266, 3) := by decide +kernel
theorem dX12_line_94 : decode cX12_line 94 = .ok (.ifCond .eq 10, 3) := by decide +kernel
theorem dX12_line_97 : decode cX12_line 97 = .ok (.aload_n 0, 1) := by decide +kernel
theorem dX12_line_98 : decode cX12_line 98 = .ok (.invokevirtual 276, 3) := by decide +kernel
theorem dX12_line_101 : decode cX12_line 101 = .ok (.goto 78, 3) := by decide +kernel
theorem dX12_line_104 : decode cX12_line 104 = .ok (.aload_n 0, 1) := by decide +kernel
theorem dX12_line_105 : decode cX12_line 105 = .ok (.getfield 190, 3) := by decide +kernel
theorem dX12_line_108 : decode cX12_line 108 = .ok (.ifCond .ne 27, 3) := by decide +kernel
theorem dX12_line_111 : decode cX12_line 111 = .ok (.aload_n 0, 1) := by decide +kernel
theorem dX12_line_112 : decode cX12_line 112 = .ok (.aload_n 0, 1) := by decide +kernel
theorem dX12_line_113 : decode cX12_line 113 = .ok (.ldc2_w 279, 3) := by decide +kernel
theorem dX12_line_116 : decode cX12_line 116 = .ok (.invokevirtual 196, 3) := by decide +kernel
theorem dX12_line_119 : decode cX12_line 119 = .ok (.iconst 5, 1) := by decide +kernel
theorem dX12_line_120 : decode cX12_line 120 = .ok (.bipush 6, 2) := by decide +kernel
theorem dX12_line_122 : decode cX12_line 122 = .ok (.invokevirtual 266, 3) := by decide +kernel
theorem dX12_line_125 : decode cX12_line 125 = .ok (.ifCond .eq 10, 3) := by decide +kernel
theorem dX12_line_128 : decode cX12_line 128 = .ok (.aload_n 0, 1) := by decide +kernel
theorem dX12_line_129 : decode cX12_line 129 = .ok (.invokevirtual 281, 3) := by decide +kernel
theorem dX12_line_132 : decode cX12_line 132 = .ok (.goto 47, 3) := by decide +kernel
theorem dX12_line_135 : decode cX12_line 135 = .ok (.aload_n 0, 1) := by decide +kernel
theorem dX12_line_136 : decode cX12_line 136 = .ok (.getfield 190, 3) := by decide +kernel
theorem dX12_line_139 : decode cX12_line 139 = .ok (.ifCond .ne 28, 3) := by decide +kernel
theorem dX12_line_142 : decode cX12_line 142 = .ok (.aload_n 0, 1) := by decide +kernel
theorem dX12_line_143 : decode cX12_line 143 = .ok (.aload_n 0, 1) := by decide +kernel
theorem dX12_line_144 : decode cX12_line 144 = .ok (.ldc2_w 284, 3) := by decide +kernel
theorem dX12_line_147 : decode cX12_line 147 = .ok (.invokevirtual 196, 3) := by decide +kernel
theorem dX12_line_150 : decode cX12_line 150 = .ok (.bipush 6, 2) := by decide +kernel
theorem dX12_line_152 : decode cX12_line 152 = .ok (.bipush 6, 2) := by decide +kernel
theorem dX12_line_154 : decode cX12_line 154 = .ok (.invokevirtual 266, 3) := by decide +kernel
theorem dX12_line_157 : decode cX12_line 157 = .ok (.ifCond .eq 10, 3) := by decide +kernel
theorem dX12_line_160 : decode cX12_line 160 = .ok (.aload_n 0, 1) := by decide +kernel
theorem dX12_line_161 : decode cX12_line 161 = .ok (.invokevirtual 286, 3) := by decide +kernel
theorem dX12_line_164 : decode cX12_line 164 = .ok (.goto 15, 3) := by decide +kernel
theorem dX12_line_167 : decode cX12_line 167 = .ok (.aload_n 0, 1) := by decide +kernel
theorem dX12_line_168 : decode cX12_line 168 = .ok (.getfield 190, 3) := by decide +kernel
theorem dX12_line_171 : decode cX12_line 171 = .ok (.ifCond .ne 8, 3) := by decide +kernel
theorem dX12_line_174 : decode cX12_line 174 = .ok (.aload_n 0, 1) := by decide +kernel
theorem dX12_line_175 : decode cX12_line 175 = .ok (.iconst 1, 1) := by decide +kernel
theorem dX12_line_176 : decode cX12_line 176 = .ok (.invokevirtual 206, 3) := by decide +kernel
theorem dX12_line_179 : decode cX12_line 179 = .ok (.return_, 1) := by decide +kernel
theorem r_X12_line_167 (E : kr_E)    (M : kr_M) : kR kr_vv E Y_X12_line 7 167 [(0, kr_r E 346)] [] M (f_X12_line_167 M) := by
  rw [f_X12_line_167]
  refine kr_aload_n dX12_line_167 rfl 0 rfl ?_
  refine kr_getI (ci := 12) (j := 12) dX12_line_168 kr_at_346 fl_RX12_190 rfl (fun v1 => ?_)
  refine kr_if_ne (tgt := 179) dX12_line_171 (by decide) ?_ ?_
  · exact kr_vret dX12_line_179 rfl
  · refine kr_aload_n dX12_line_174 rfl 0 rfl ?_
    refine kr_iconst (v := 1) dX12_line_175 (by decide) ?_
    refine kr_Vv (As := [.int (1 : Int32)]) (st := []) zv_X12_fails dX12_line_176 ml_RX12_206 kr_at_346 (r_X12_fails E (1 : Int32) M) rfl rfl (Nat.le_of_ble_eq_true rfl) rfl (by decide) (Nat.le_of_ble_eq_true rfl) (fun M2 => ?_)
    exact kr_vret dX12_line_179 rfl
theorem r_X12_line_135 (E : kr_E)    (M : kr_M) : kR kr_vv E Y_X12_line 7 135 [(0, kr_r E 346)] [] M (f_X12_line_135 M) := by
  rw [f_X12_line_135]
  refine kr_aload_n dX12_line_135 rfl 0 rfl ?_
  refine kr_getI (ci := 12) (j := 12) dX12_line_136 kr_at_346 fl_RX12_190 rfl (fun v1 => ?_)
  refine kr_if_ne (tgt := 167) dX12_line_139 (by decide) ?_ ?_
  · refine kr_sub [0] rfl ?_
    exact r_X12_line_167 E M
  · refine kr_aload_n dX12_line_142 rfl 0 rfl ?_
    refine kr_aload_n dX12_line_143 rfl 0 rfl ?_
    refine kr_ldc2 dX12_line_144 kl_RX12_284 ?_
    refine kr_Vi (As := [.long (232608281 : Int64)]) (st := [kr_r E 346]) zv_X12_is dX12_line_147 ml_RX12_196 kr_at_346 (r_X12_is E (232608281 : Int64) M) rfl rfl (Nat.le_of_ble_eq_true rfl) rfl (by decide) (Nat.le_of_ble_eq_true rfl) (fun r3 M2 => ?_)
    refine kr_bipush (v := 6) dX12_line_150 (by decide) ?_
    refine kr_bipush (v := 6) dX12_line_152 (by decide) ?_
    refine kr_Vi (As := [.int r3, .int (6 : Int32), .int (6 : Int32)]) (st := []) zv_X12_isRoom dX12_line_154 ml_RX12_266 kr_at_346 (r_X12_isRoom E r3 (6 : Int32) (6 : Int32) M2) rfl rfl (Nat.le_of_ble_eq_true rfl) rfl (by decide) (Nat.le_of_ble_eq_true rfl) (fun r5 M4 => ?_)
    refine kr_if_eq (tgt := 167) dX12_line_157 (by decide) ?_ ?_
    · refine kr_sub [0] rfl ?_
      exact r_X12_line_167 E M4
    · refine kr_aload_n dX12_line_160 rfl 0 rfl ?_
      refine kr_Vv (As := []) (st := []) zv_X12_personLine dX12_line_161 ml_RX12_286 kr_at_346 (r_X12_personLine E  M4) rfl rfl (Nat.le_of_ble_eq_true rfl) rfl (by decide) (Nat.le_of_ble_eq_true rfl) (fun M6 => ?_)
      refine kr_goto (tgt := 179) dX12_line_164 (by decide) ?_
      exact kr_vret dX12_line_179 rfl
theorem r_X12_line_104 (E : kr_E)    (M : kr_M) : kR kr_vv E Y_X12_line 7 104 [(0, kr_r E 346)] [] M (f_X12_line_104 M) := by
  rw [f_X12_line_104]
  refine kr_aload_n dX12_line_104 rfl 0 rfl ?_
  refine kr_getI (ci := 12) (j := 12) dX12_line_105 kr_at_346 fl_RX12_190 rfl (fun v1 => ?_)
  refine kr_if_ne (tgt := 135) dX12_line_108 (by decide) ?_ ?_
  · refine kr_sub [0] rfl ?_
    exact r_X12_line_135 E M
  · refine kr_aload_n dX12_line_111 rfl 0 rfl ?_
    refine kr_aload_n dX12_line_112 rfl 0 rfl ?_
    refine kr_ldc2 dX12_line_113 kl_RX12_279 ?_
    refine kr_Vi (As := [.long (365666 : Int64)]) (st := [kr_r E 346]) zv_X12_is dX12_line_116 ml_RX12_196 kr_at_346 (r_X12_is E (365666 : Int64) M) rfl rfl (Nat.le_of_ble_eq_true rfl) rfl (by decide) (Nat.le_of_ble_eq_true rfl) (fun r3 M2 => ?_)
    refine kr_iconst (v := 5) dX12_line_119 (by decide) ?_
    refine kr_bipush (v := 6) dX12_line_120 (by decide) ?_
    refine kr_Vi (As := [.int r3, .int (5 : Int32), .int (6 : Int32)]) (st := []) zv_X12_isRoom dX12_line_122 ml_RX12_266 kr_at_346 (r_X12_isRoom E r3 (5 : Int32) (6 : Int32) M2) rfl rfl (Nat.le_of_ble_eq_true rfl) rfl (by decide) (Nat.le_of_ble_eq_true rfl) (fun r5 M4 => ?_)
    refine kr_if_eq (tgt := 135) dX12_line_125 (by decide) ?_ ?_
    · refine kr_sub [0] rfl ?_
      exact r_X12_line_135 E M4
    · refine kr_aload_n dX12_line_128 rfl 0 rfl ?_
      refine kr_Vv (As := []) (st := []) zv_X12_ropeLine dX12_line_129 ml_RX12_281 kr_at_346 (r_X12_ropeLine E  M4) rfl rfl (Nat.le_of_ble_eq_true rfl) rfl (by decide) (Nat.le_of_ble_eq_true rfl) (fun M6 => ?_)
      refine kr_goto (tgt := 179) dX12_line_132 (by decide) ?_
      exact kr_vret dX12_line_179 rfl
theorem r_X12_line (E : kr_E)  (M : kr_M) : kR kr_vv E Y_X12_line 7 0 [(0, kr_r E 346)] [] M (f_X12_line M) := by
  rw [f_X12_line]
  refine kr_aload_n dX12_line_0 rfl 0 rfl ?_
  refine kr_aload_n dX12_line_1 rfl 0 rfl ?_
  refine kr_ldc2 dX12_line_2 kl_RX12_264 ?_
  refine kr_Vi (As := [.long (227144 : Int64)]) (st := [kr_r E 346]) zv_X12_is dX12_line_5 ml_RX12_196 kr_at_346 (r_X12_is E (227144 : Int64) M) rfl rfl (Nat.le_of_ble_eq_true rfl) rfl (by decide) (Nat.le_of_ble_eq_true rfl) (fun r2 M1 => ?_)
  refine kr_iconst (v := 3) dX12_line_8 (by decide) ?_
  refine kr_bipush (v := 6) dX12_line_9 (by decide) ?_
  refine kr_Vi (As := [.int r2, .int (3 : Int32), .int (6 : Int32)]) (st := []) zv_X12_isRoom dX12_line_11 ml_RX12_266 kr_at_346 (r_X12_isRoom E r2 (3 : Int32) (6 : Int32) M1) rfl rfl (Nat.le_of_ble_eq_true rfl) rfl (by decide) (Nat.le_of_ble_eq_true rfl) (fun r4 M3 => ?_)
  refine kr_if_eq (tgt := 73) dX12_line_14 (by decide) ?_ ?_
  · refine kr_aload_n dX12_line_73 rfl 0 rfl ?_
    refine kr_getI (ci := 12) (j := 12) dX12_line_74 kr_at_346 fl_RX12_190 rfl (fun v5 => ?_)
    refine kr_if_ne (tgt := 104) dX12_line_77 (by decide) ?_ ?_
    · refine kr_sub [0] rfl ?_
      exact r_X12_line_104 E M3
    · refine kr_aload_n dX12_line_80 rfl 0 rfl ?_
      refine kr_aload_n dX12_line_81 rfl 0 rfl ?_
      refine kr_ldc2 dX12_line_82 kl_RX12_274 ?_
      refine kr_Vi (As := [.long (464134 : Int64)]) (st := [kr_r E 346]) zv_X12_is dX12_line_85 ml_RX12_196 kr_at_346 (r_X12_is E (464134 : Int64) M3) rfl rfl (Nat.le_of_ble_eq_true rfl) rfl (by decide) (Nat.le_of_ble_eq_true rfl) (fun r7 M6 => ?_)
      refine kr_iconst (v := 4) dX12_line_88 (by decide) ?_
      refine kr_bipush (v := 10) dX12_line_89 (by decide) ?_
      refine kr_Vi (As := [.int r7, .int (4 : Int32), .int (10 : Int32)]) (st := []) zv_X12_isRoom dX12_line_91 ml_RX12_266 kr_at_346 (r_X12_isRoom E r7 (4 : Int32) (10 : Int32) M6) rfl rfl (Nat.le_of_ble_eq_true rfl) rfl (by decide) (Nat.le_of_ble_eq_true rfl) (fun r9 M8 => ?_)
      refine kr_if_eq (tgt := 104) dX12_line_94 (by decide) ?_ ?_
      · refine kr_sub [0] rfl ?_
        exact r_X12_line_104 E M8
      · refine kr_aload_n dX12_line_97 rfl 0 rfl ?_
        refine kr_Vv (As := []) (st := []) zv_X12_wordLine dX12_line_98 ml_RX12_276 kr_at_346 (r_X12_wordLine E  M8) rfl rfl (Nat.le_of_ble_eq_true rfl) rfl (by decide) (Nat.le_of_ble_eq_true rfl) (fun M10 => ?_)
        refine kr_goto (tgt := 179) dX12_line_101 (by decide) ?_
        exact kr_vret dX12_line_179 rfl
  · refine kr_bipush (v := 24) dX12_line_17 (by decide) ?_
    refine kr_aload_n dX12_line_19 rfl 0 rfl ?_
    refine kr_iconst (v := 3) dX12_line_20 (by decide) ?_
    refine kr_Vi (As := [.int (3 : Int32)]) (st := [.int (24 : Int32)]) zv_X12_hasRead dX12_line_21 ml_RX12_220 kr_at_346 (r_X12_hasRead E (3 : Int32) M3) rfl rfl (Nat.le_of_ble_eq_true rfl) rfl (by decide) (Nat.le_of_ble_eq_true rfl) (fun r13 M12 => ?_)
    refine kr_iadd dX12_line_24 ?_
    refine kr_nmi (fun v14 => ?_)
    refine kr_istore_n (lv' := [(1, .int v14), (0, kr_r E 346)]) dX12_line_25 rfl (by decide) rfl ?_
    refine kr_aload_n dX12_line_26 rfl 1 rfl ?_
    refine kr_getA (o := 8) (ci := 12) (j := 18) dX12_line_27 kr_at_346 fl_RX12_37 rfl ?_
    refine kr_iload_n dX12_line_30 rfl 0 rfl ?_
    refine kr_aload_n dX12_line_31 rfl 1 rfl ?_
    refine kr_ldc2 dX12_line_32 kl_RX12_270 ?_
    refine kr_iconst (v := 1) dX12_line_35 (by decide) ?_
    refine kr_bipush (v := 9) dX12_line_36 (by decide) ?_
    refine kr_Vi (As := [.long (136645372 : Int64), .int (1 : Int32), .int (9 : Int32)]) (st := [.int v14, kr_r E 354]) zv_X12_number_ dX12_line_38 ml_RX12_242 kr_at_346 (r_X12_number_ E (136645372 : Int64) (1 : Int32) (9 : Int32) M12) rfl rfl (Nat.le_of_ble_eq_true rfl) rfl (by decide) (Nat.le_of_ble_eq_true rfl) (fun r16 M15 => ?_)
    refine kr_iast dX12_line_41 kr_at_354 (fun M17 => ?_)
    refine kr_aload_n dX12_line_42 rfl 1 rfl ?_
    refine kr_getA (o := 9) (ci := 12) (j := 19) dX12_line_43 kr_at_346 fl_RX12_40 rfl ?_
    refine kr_iload_n dX12_line_46 rfl 0 rfl ?_
    refine kr_aload_n dX12_line_47 rfl 1 rfl ?_
    refine kr_ldc2 dX12_line_48 kl_RX12_272 ?_
    refine kr_iconst (v := 0) dX12_line_51 (by decide) ?_
    refine kr_bipush (v := 50) dX12_line_52 (by decide) ?_
    refine kr_Vi (As := [.long (456392 : Int64), .int (0 : Int32), .int (50 : Int32)]) (st := [.int v14, kr_r E 355]) zv_X12_number_ dX12_line_54 ml_RX12_242 kr_at_346 (r_X12_number_ E (456392 : Int64) (0 : Int32) (50 : Int32) M17) rfl rfl (Nat.le_of_ble_eq_true rfl) rfl (by decide) (Nat.le_of_ble_eq_true rfl) (fun r19 M18 => ?_)
    refine kr_iast dX12_line_57 kr_at_355 (fun M20 => ?_)
    refine kr_aload_n dX12_line_58 rfl 1 rfl ?_
    refine kr_iconst (v := 3) dX12_line_59 (by decide) ?_
    refine kr_aload_n dX12_line_60 rfl 1 rfl ?_
    refine kr_iconst (v := 3) dX12_line_61 (by decide) ?_
    refine kr_Vi (As := [.int (3 : Int32)]) (st := [.int (3 : Int32), kr_r E 346]) zv_X12_hasRead dX12_line_62 ml_RX12_220 kr_at_346 (r_X12_hasRead E (3 : Int32) M20) rfl rfl (Nat.le_of_ble_eq_true rfl) rfl (by decide) (Nat.le_of_ble_eq_true rfl) (fun r22 M21 => ?_)
    refine kr_iconst (v := 1) dX12_line_65 (by decide) ?_
    refine kr_iadd dX12_line_66 ?_
    refine kr_Vv (As := [.int (3 : Int32), .int (r22 + (1 : Int32))]) (st := []) zv_X12_tells dX12_line_67 ml_RX12_245 kr_at_346 (r_X12_tells E (3 : Int32) (r22 + (1 : Int32)) M21) rfl rfl (Nat.le_of_ble_eq_true rfl) rfl (by decide) (Nat.le_of_ble_eq_true rfl) (fun M23 => ?_)
    refine kr_goto (tgt := 179) dX12_line_70 (by decide) ?_
    exact kr_vret dX12_line_179 rfl
theorem dX12_clears_0 : decode cX12_clears 0 = .ok (.aload_n 0, 1) := by decide +kernel
theorem dX12_clears_1 : decode cX12_clears 1 = .ok (.getfield 31, 3) := by decide +kernel
theorem dX12_clears_4 : decode cX12_clears 4 = .ok (.iconst 4, 1) := by decide +kernel
theorem dX12_clears_5 : decode cX12_clears 5 = .ok (.iconst 0, 1) := by decide +kernel
theorem dX12_clears_6 : decode cX12_clears 6 = .ok (.iastore, 1) := by decide +kernel
theorem dX12_clears_7 : decode cX12_clears 7 = .ok (.iconst 0, 1) := by decide +kernel
theorem dX12_clears_8 : decode cX12_clears 8 = .ok (.istore_n 1, 1) := by decide +kernel
theorem dX12_clears_9 : decode cX12_clears 9 = .ok (.iload_n 1, 1) := by decide +kernel
theorem dX12_clears_10 : decode cX12_clears 10 = .ok (.bipush 8, 2) := by decide +kernel
theorem dX12_clears_12 : decode cX12_clears 12 = .ok (.if_icmp .ge 15, 3) := by decide +kernel
theorem dX12_clears_15 : decode cX12_clears 15 = .ok (.aload_n 0, 1) := by decide +kernel
theorem dX12_clears_16 : decode cX12_clears 16 = .ok (.iload_n 1, 1) := by decide +kernel
theorem dX12_clears_17 : decode cX12_clears 17 = .ok (.iconst 0, 1) := by decide +kernel
theorem dX12_clears_18 : decode cX12_clears 18 = .ok (.invokevirtual 245, 3) := by decide +kernel
theorem dX12_clears_21 : decode cX12_clears 21 = .ok (.iinc 1 1, 3) := by decide +kernel
theorem dX12_clears_24 : decode cX12_clears 24 = .ok (.goto (-15), 3) := by decide +kernel
theorem dX12_clears_27 : decode cX12_clears 27 = .ok (.return_, 1) := by decide +kernel
theorem r_X12_clears_9 (E : kr_E)    : ∀ (n : Nat) (l1 : Int32) (M : kr_M), kR kr_vv E Y_X12_clears 2 9 [(0, kr_r E 346), (1, .int l1)] [] M (f_X12_clears_9 n l1 M) := by
  intro n
  induction n with
  | zero => intro l1 M; exact kr_none
  | succ n ih =>
    intro l1 M
    rw [f_X12_clears_9]
    refine kr_iload_n dX12_clears_9 rfl 1 rfl ?_
    refine kr_bipush (v := 8) dX12_clears_10 (by decide) ?_
    refine kr_icmp_ge (tgt := 27) dX12_clears_12 (by decide) ?_ ?_
    · exact kr_vret dX12_clears_27 rfl
    · refine kr_aload_n dX12_clears_15 rfl 0 rfl ?_
      refine kr_iload_n dX12_clears_16 rfl 1 rfl ?_
      refine kr_iconst (v := 0) dX12_clears_17 (by decide) ?_
      refine kr_Vv (As := [.int l1, .int (0 : Int32)]) (st := []) zv_X12_tells dX12_clears_18 ml_RX12_245 kr_at_346 (r_X12_tells E l1 (0 : Int32) M) rfl rfl (Nat.le_of_ble_eq_true rfl) rfl (by decide) (Nat.le_of_ble_eq_true rfl) (fun M1 => ?_)
      refine kr_iinc (j := 1) (v := (l1 + (1 : Int32))) (lv' := [(1, .int (l1 + (1 : Int32))), (0, kr_r E 346)]) dX12_clears_21 rfl rfl (by decide) rfl ?_
      refine kr_goto (tgt := 9) dX12_clears_24 (by decide) ?_
      refine kr_sub [1, 0] rfl ?_
      exact ih (l1 + (1 : Int32)) M1
theorem r_X12_clears (E : kr_E)  (M : kr_M) : kR kr_vv E Y_X12_clears 2 0 [(0, kr_r E 346)] [] M (f_X12_clears M) := by
  rw [f_X12_clears]
  refine kr_aload_n dX12_clears_0 rfl 0 rfl ?_
  refine kr_getA (o := 6) (ci := 12) (j := 16) dX12_clears_1 kr_at_346 fl_RX12_31 rfl ?_
  refine kr_iconst (v := 4) dX12_clears_4 (by decide) ?_
  refine kr_iconst (v := 0) dX12_clears_5 (by decide) ?_
  refine kr_iast dX12_clears_6 kr_at_352 (fun M1 => ?_)
  refine kr_iconst (v := 0) dX12_clears_7 (by decide) ?_
  refine kr_istore_n (lv' := [(1, .int (0 : Int32)), (0, kr_r E 346)]) dX12_clears_8 rfl (by decide) rfl ?_
  refine kr_sub [1, 0] rfl ?_
  exact r_X12_clears_9 E _ (0 : Int32) M1
theorem dX12_copyRow_0 : decode cX12_copyRow 0 = .ok (.iconst 0, 1) := by decide +kernel
theorem dX12_copyRow_1 : decode cX12_copyRow 1 = .ok (.istore 4, 2) := by decide +kernel
theorem dX12_copyRow_3 : decode cX12_copyRow 3 = .ok (.iload 4, 2) := by decide +kernel
theorem dX12_copyRow_5 : decode cX12_copyRow 5 = .ok (.iload_n 1, 1) := by decide +kernel
theorem dX12_copyRow_6 : decode cX12_copyRow 6 = .ok (.if_icmp .ge 25, 3) := by decide +kernel
theorem dX12_copyRow_9 : decode cX12_copyRow 9 = .ok (.aload_n 0, 1) := by decide +kernel
theorem dX12_copyRow_10 : decode cX12_copyRow 10 = .ok (.iload_n 1, 1) := by decide +kernel
theorem dX12_copyRow_11 : decode cX12_copyRow 11 = .ok (.iload_n 3, 1) := by decide +kernel
theorem dX12_copyRow_12 : decode cX12_copyRow 12 = .ok (.imul, 1) := by decide +kernel
theorem dX12_copyRow_13 : decode cX12_copyRow 13 = .ok (.iload 4, 2) := by decide +kernel
theorem dX12_copyRow_15 : decode cX12_copyRow 15 = .ok (.iadd, 1) := by decide +kernel
theorem dX12_copyRow_16 : decode cX12_copyRow 16 = .ok (.aload_n 0, 1) := by decide +kernel
theorem dX12_copyRow_17 : decode cX12_copyRow 17 = .ok (.iload_n 1, 1) := by decide +kernel
theorem dX12_copyRow_18 : decode cX12_copyRow 18 = .ok (.iload_n 2, 1) := by decide +kernel
theorem dX12_copyRow_19 : decode cX12_copyRow 19 = .ok (.imul, 1) := by decide +kernel
theorem dX12_copyRow_20 : decode cX12_copyRow 20 = .ok (.iload 4, 2) := by decide +kernel
theorem dX12_copyRow_22 : decode cX12_copyRow 22 = .ok (.iadd, 1) := by decide +kernel
theorem dX12_copyRow_23 : decode cX12_copyRow 23 = .ok (.iaload, 1) := by decide +kernel
theorem dX12_copyRow_24 : decode cX12_copyRow 24 = .ok (.iastore, 1) := by decide +kernel
theorem dX12_copyRow_25 : decode cX12_copyRow 25 = .ok (.iinc 4 1, 3) := by decide +kernel
theorem dX12_copyRow_28 : decode cX12_copyRow 28 = .ok (.goto (-25), 3) := by decide +kernel
theorem dX12_copyRow_31 : decode cX12_copyRow 31 = .ok (.return_, 1) := by decide +kernel
theorem r_X12_copyRow_3 (E : kr_E)  (l0 : Nat) (h_l0 : kr_sh l0 = (20, (kr_len l0))) (l1 : Int32) (l2 : Int32) (l3 : Int32)  : ∀ (n : Nat) (l4 : Int32) (M : kr_M), kR kr_vv E Y_X12_copyRow 1 3 [(0, kr_r E l0), (1, .int l1), (2, .int l2), (3, .int l3), (4, .int l4)] [] M (f_X12_copyRow_3 l0 l1 l2 l3 n l4 M) := by
  intro n
  induction n with
  | zero => intro l4 M; exact kr_none
  | succ n ih =>
    intro l4 M
    rw [f_X12_copyRow_3]
    refine kr_iload dX12_copyRow_3 4 rfl ?_
    refine kr_iload_n dX12_copyRow_5 rfl 1 rfl ?_
    refine kr_icmp_ge (tgt := 31) dX12_copyRow_6 (by decide) ?_ ?_
    · exact kr_vret dX12_copyRow_31 rfl
    · refine kr_aload_n dX12_copyRow_9 rfl 0 rfl ?_
      refine kr_iload_n dX12_copyRow_10 rfl 1 rfl ?_
      refine kr_iload_n dX12_copyRow_11 rfl 3 rfl ?_
      refine kr_imul dX12_copyRow_12 ?_
      refine kr_iload dX12_copyRow_13 4 rfl ?_
      refine kr_iadd dX12_copyRow_15 ?_
      refine kr_aload_n dX12_copyRow_16 rfl 0 rfl ?_
      refine kr_iload_n dX12_copyRow_17 rfl 1 rfl ?_
      refine kr_iload_n dX12_copyRow_18 rfl 2 rfl ?_
      refine kr_imul dX12_copyRow_19 ?_
      refine kr_iload dX12_copyRow_20 4 rfl ?_
      refine kr_iadd dX12_copyRow_22 ?_
      refine kr_iald dX12_copyRow_23 h_l0 (fun v1 => ?_)
      refine kr_iast dX12_copyRow_24 h_l0 (fun M2 => ?_)
      refine kr_iinc (j := 4) (v := (l4 + (1 : Int32))) (lv' := [(4, .int (l4 + (1 : Int32))), (0, kr_r E l0), (1, .int l1), (2, .int l2), (3, .int l3)]) dX12_copyRow_25 rfl rfl (by decide) rfl ?_
      refine kr_goto (tgt := 3) dX12_copyRow_28 (by decide) ?_
      refine kr_sub [1, 2, 3, 4, 0] rfl ?_
      exact ih (l4 + (1 : Int32)) M2
theorem r_X12_copyRow (E : kr_E) (p0 : Nat) (h_p0 : kr_sh p0 = (20, kr_len p0)) (p1 : Int32) (p2 : Int32) (p3 : Int32) (M : kr_M) : kR kr_vv E Y_X12_copyRow 1 0 [(0, kr_r E p0), (1, .int p1), (2, .int p2), (3, .int p3)] [] M (f_X12_copyRow p0 p1 p2 p3 M) := by
  rw [f_X12_copyRow]
  refine kr_iconst (v := 0) dX12_copyRow_0 (by decide) ?_
  refine kr_istore (lv' := [(4, .int (0 : Int32)), (0, kr_r E p0), (1, .int p1), (2, .int p2), (3, .int p3)]) dX12_copyRow_1 (by decide) rfl ?_
  refine kr_sub [1, 2, 3, 4, 0] rfl ?_
  exact r_X12_copyRow_3 E p0 h_p0 p1 p2 p3 _ (0 : Int32) M
theorem dX12_copyGorge_0 : decode cX12_copyGorge 0 = .ok (.aload_n 0, 1) := by decide +kernel
theorem dX12_copyGorge_1 : decode cX12_copyGorge 1 = .ok (.getfield 31, 3) := by decide +kernel
theorem dX12_copyGorge_4 : decode cX12_copyGorge 4 = .ok (.iconst 1, 1) := by decide +kernel
theorem dX12_copyGorge_5 : decode cX12_copyGorge 5 = .ok (.iload_n 1, 1) := by decide +kernel
theorem dX12_copyGorge_6 : decode cX12_copyGorge 6 = .ok (.iload_n 2, 1) := by decide +kernel
theorem dX12_copyGorge_7 : decode cX12_copyGorge 7 = .ok (.invokestatic 315, 3) := by decide +kernel
theorem dX12_copyGorge_10 : decode cX12_copyGorge 10 = .ok (.aload_n 0, 1) := by decide +kernel
theorem dX12_copyGorge_11 : decode cX12_copyGorge 11 = .ok (.getfield 34, 3) := by decide +kernel
theorem dX12_copyGorge_14 : decode cX12_copyGorge 14 = .ok (.bipush 8, 2) := by decide +kernel
theorem dX12_copyGorge_16 : decode cX12_copyGorge 16 = .ok (.iload_n 1, 1) := by decide +kernel
theorem dX12_copyGorge_17 : decode cX12_copyGorge 17 = .ok (.iload_n 2, 1) := by decide +kernel
theorem dX12_copyGorge_18 : decode cX12_copyGorge 18 = .ok (.invokestatic 315, 3) := by decide +kernel
theorem dX12_copyGorge_21 : decode cX12_copyGorge 21 = .ok (.aload_n 0, 1) := by decide +kernel
theorem dX12_copyGorge_22 : decode cX12_copyGorge 22 = .ok (.getfield 37, 3) := by decide +kernel
theorem dX12_copyGorge_25 : decode cX12_copyGorge 25 = .ok (.bipush 6, 2) := by decide +kernel
theorem dX12_copyGorge_27 : decode cX12_copyGorge 27 = .ok (.iload_n 1, 1) := by decide +kernel
theorem dX12_copyGorge_28 : decode cX12_copyGorge 28 = .ok (.iload_n 2, 1) := by decide +kernel
theorem dX12_copyGorge_29 : decode cX12_copyGorge 29 = .ok (.invokestatic 315, 3) := by decide +kernel
theorem dX12_copyGorge_32 : decode cX12_copyGorge 32 = .ok (.aload_n 0, 1) := by decide +kernel
theorem dX12_copyGorge_33 : decode cX12_copyGorge 33 = .ok (.getfield 40, 3) := by decide +kernel
theorem dX12_copyGorge_36 : decode cX12_copyGorge 36 = .ok (.bipush 6, 2) := by decide +kernel
theorem dX12_copyGorge_38 : decode cX12_copyGorge 38 = .ok (.iload_n 1, 1) := by decide +kernel
theorem dX12_copyGorge_39 : decode cX12_copyGorge 39 = .ok (.iload_n 2, 1) := by decide +kernel
theorem dX12_copyGorge_40 : decode cX12_copyGorge 40 = .ok (.invokestatic 315, 3) := by decide +kernel
theorem dX12_copyGorge_43 : decode cX12_copyGorge 43 = .ok (.aload_n 0, 1) := by decide +kernel
theorem dX12_copyGorge_44 : decode cX12_copyGorge 44 = .ok (.getfield 43, 3) := by decide +kernel
theorem dX12_copyGorge_47 : decode cX12_copyGorge 47 = .ok (.bipush 10, 2) := by decide +kernel
theorem dX12_copyGorge_49 : decode cX12_copyGorge 49 = .ok (.iload_n 1, 1) := by decide +kernel
theorem dX12_copyGorge_50 : decode cX12_copyGorge 50 = .ok (.iload_n 2, 1) := by decide +kernel
theorem dX12_copyGorge_51 : decode cX12_copyGorge 51 = .ok (.invokestatic 315, 3) := by decide +kernel
theorem dX12_copyGorge_54 : decode cX12_copyGorge 54 = .ok (.aload_n 0, 1) := by decide +kernel
theorem dX12_copyGorge_55 : decode cX12_copyGorge 55 = .ok (.getfield 46, 3) := by decide +kernel
theorem dX12_copyGorge_58 : decode cX12_copyGorge 58 = .ok (.bipush 10, 2) := by decide +kernel
theorem dX12_copyGorge_60 : decode cX12_copyGorge 60 = .ok (.iload_n 1, 1) := by decide +kernel
theorem dX12_copyGorge_61 : decode cX12_copyGorge 61 = .ok (.iload_n 2, 1) := by decide +kernel
theorem dX12_copyGorge_62 : decode cX12_copyGorge 62 = .ok (.invokestatic 315, 3) := by decide +kernel
theorem dX12_copyGorge_65 : decode cX12_copyGorge 65 = .ok (.aload_n 0, 1) := by decide +kernel
theorem dX12_copyGorge_66 : decode cX12_copyGorge 66 = .ok (.getfield 49, 3) := by decide +kernel
theorem dX12_copyGorge_69 : decode cX12_copyGorge 69 = .ok (.bipush 40, 2) := by decide +kernel
theorem dX12_copyGorge_71 : decode cX12_copyGorge 71 = .ok (.iload_n 1, 1) := by decide +kernel
theorem dX12_copyGorge_72 : decode cX12_copyGorge 72 = .ok (.iload_n 2, 1) := by decide +kernel
theorem dX12_copyGorge_73 : decode cX12_copyGorge 73 = .ok (.invokestatic 315, 3) := by decide +kernel
theorem dX12_copyGorge_76 : decode cX12_copyGorge 76 = .ok (.aload_n 0, 1) := by decide +kernel
theorem dX12_copyGorge_77 : decode cX12_copyGorge 77 = .ok (.getfield 52, 3) := by decide +kernel
theorem dX12_copyGorge_80 : decode cX12_copyGorge 80 = .ok (.bipush 24, 2) := by decide +kernel
theorem dX12_copyGorge_82 : decode cX12_copyGorge 82 = .ok (.iload_n 1, 1) := by decide +kernel
theorem dX12_copyGorge_83 : decode cX12_copyGorge 83 = .ok (.iload_n 2, 1) := by decide +kernel
theorem dX12_copyGorge_84 : decode cX12_copyGorge 84 = .ok (.invokestatic 315, 3) := by decide +kernel
theorem dX12_copyGorge_87 : decode cX12_copyGorge 87 = .ok (.aload_n 0, 1) := by decide +kernel
theorem dX12_copyGorge_88 : decode cX12_copyGorge 88 = .ok (.getfield 55, 3) := by decide +kernel
theorem dX12_copyGorge_91 : decode cX12_copyGorge 91 = .ok (.bipush 72, 2) := by decide +kernel
theorem dX12_copyGorge_93 : decode cX12_copyGorge 93 = .ok (.iload_n 1, 1) := by decide +kernel
theorem dX12_copyGorge_94 : decode cX12_copyGorge 94 = .ok (.iload_n 2, 1) := by decide +kernel
theorem dX12_copyGorge_95 : decode cX12_copyGorge 95 = .ok (.invokestatic 315, 3) := by decide +kernel
theorem dX12_copyGorge_98 : decode cX12_copyGorge 98 = .ok (.aload_n 0, 1) := by decide +kernel
theorem dX12_copyGorge_99 : decode cX12_copyGorge 99 = .ok (.getfield 58, 3) := by decide +kernel
theorem dX12_copyGorge_102 : decode cX12_copyGorge 102 = .ok (.bipush 18, 2) := by decide +kernel
theorem dX12_copyGorge_104 : decode cX12_copyGorge 104 = .ok (.iload_n 1, 1) := by decide +kernel
theorem dX12_copyGorge_105 : decode cX12_copyGorge 105 = .ok (.iload_n 2, 1) := by decide +kernel
theorem dX12_copyGorge_106 : decode cX12_copyGorge 106 = .ok (.invokestatic 315, 3) := by decide +kernel
theorem dX12_copyGorge_109 : decode cX12_copyGorge 109 = .ok (.aload_n 0, 1) := by decide +kernel
theorem dX12_copyGorge_110 : decode cX12_copyGorge 110 = .ok (.getfield 61, 3) := by decide +kernel
theorem dX12_copyGorge_113 : decode cX12_copyGorge 113 = .ok (.sipush 160, 3) := by decide +kernel
theorem dX12_copyGorge_116 : decode cX12_copyGorge 116 = .ok (.iload_n 1, 1) := by decide +kernel
theorem dX12_copyGorge_117 : decode cX12_copyGorge 117 = .ok (.iload_n 2, 1) := by decide +kernel
theorem dX12_copyGorge_118 : decode cX12_copyGorge 118 = .ok (.invokestatic 315, 3) := by decide +kernel
theorem dX12_copyGorge_121 : decode cX12_copyGorge 121 = .ok (.return_, 1) := by decide +kernel
theorem r_X12_copyGorge (E : kr_E) (p1 : Int32) (p2 : Int32) (M : kr_M) : kR kr_vv E Y_X12_copyGorge 2 0 [(0, kr_r E 346), (1, .int p1), (2, .int p2)] [] M (f_X12_copyGorge p1 p2 M) := by
  rw [f_X12_copyGorge]
  refine kr_aload_n dX12_copyGorge_0 rfl 0 rfl ?_
  refine kr_getA (o := 6) (ci := 12) (j := 16) dX12_copyGorge_1 kr_at_346 fl_RX12_31 rfl ?_
  refine kr_iconst (v := 1) dX12_copyGorge_4 (by decide) ?_
  refine kr_iload_n dX12_copyGorge_5 rfl 1 rfl ?_
  refine kr_iload_n dX12_copyGorge_6 rfl 2 rfl ?_
  refine kr_Sv (As := [kr_r E 352, .int (1 : Int32), .int p1, .int p2]) (st := []) zs_X12_copyRow dX12_copyGorge_7 ml_RX12_315 (r_X12_copyRow E 352 (kr_at_352) (1 : Int32) p1 p2 M) rfl rfl (Nat.le_of_ble_eq_true rfl) rfl (by decide) (Nat.le_of_ble_eq_true rfl) (fun M1 => ?_)
  refine kr_aload_n dX12_copyGorge_10 rfl 0 rfl ?_
  refine kr_getA (o := 7) (ci := 12) (j := 17) dX12_copyGorge_11 kr_at_346 fl_RX12_34 rfl ?_
  refine kr_bipush (v := 8) dX12_copyGorge_14 (by decide) ?_
  refine kr_iload_n dX12_copyGorge_16 rfl 1 rfl ?_
  refine kr_iload_n dX12_copyGorge_17 rfl 2 rfl ?_
  refine kr_Sv (As := [kr_r E 353, .int (8 : Int32), .int p1, .int p2]) (st := []) zs_X12_copyRow dX12_copyGorge_18 ml_RX12_315 (r_X12_copyRow E 353 (kr_at_353) (8 : Int32) p1 p2 M1) rfl rfl (Nat.le_of_ble_eq_true rfl) rfl (by decide) (Nat.le_of_ble_eq_true rfl) (fun M3 => ?_)
  refine kr_aload_n dX12_copyGorge_21 rfl 0 rfl ?_
  refine kr_getA (o := 8) (ci := 12) (j := 18) dX12_copyGorge_22 kr_at_346 fl_RX12_37 rfl ?_
  refine kr_bipush (v := 6) dX12_copyGorge_25 (by decide) ?_
  refine kr_iload_n dX12_copyGorge_27 rfl 1 rfl ?_
  refine kr_iload_n dX12_copyGorge_28 rfl 2 rfl ?_
  refine kr_Sv (As := [kr_r E 354, .int (6 : Int32), .int p1, .int p2]) (st := []) zs_X12_copyRow dX12_copyGorge_29 ml_RX12_315 (r_X12_copyRow E 354 (kr_at_354) (6 : Int32) p1 p2 M3) rfl rfl (Nat.le_of_ble_eq_true rfl) rfl (by decide) (Nat.le_of_ble_eq_true rfl) (fun M5 => ?_)
  refine kr_aload_n dX12_copyGorge_32 rfl 0 rfl ?_
  refine kr_getA (o := 9) (ci := 12) (j := 19) dX12_copyGorge_33 kr_at_346 fl_RX12_40 rfl ?_
  refine kr_bipush (v := 6) dX12_copyGorge_36 (by decide) ?_
  refine kr_iload_n dX12_copyGorge_38 rfl 1 rfl ?_
  refine kr_iload_n dX12_copyGorge_39 rfl 2 rfl ?_
  refine kr_Sv (As := [kr_r E 355, .int (6 : Int32), .int p1, .int p2]) (st := []) zs_X12_copyRow dX12_copyGorge_40 ml_RX12_315 (r_X12_copyRow E 355 (kr_at_355) (6 : Int32) p1 p2 M5) rfl rfl (Nat.le_of_ble_eq_true rfl) rfl (by decide) (Nat.le_of_ble_eq_true rfl) (fun M7 => ?_)
  refine kr_aload_n dX12_copyGorge_43 rfl 0 rfl ?_
  refine kr_getA (o := 10) (ci := 12) (j := 20) dX12_copyGorge_44 kr_at_346 fl_RX12_43 rfl ?_
  refine kr_bipush (v := 10) dX12_copyGorge_47 (by decide) ?_
  refine kr_iload_n dX12_copyGorge_49 rfl 1 rfl ?_
  refine kr_iload_n dX12_copyGorge_50 rfl 2 rfl ?_
  refine kr_Sv (As := [kr_r E 356, .int (10 : Int32), .int p1, .int p2]) (st := []) zs_X12_copyRow dX12_copyGorge_51 ml_RX12_315 (r_X12_copyRow E 356 (kr_at_356) (10 : Int32) p1 p2 M7) rfl rfl (Nat.le_of_ble_eq_true rfl) rfl (by decide) (Nat.le_of_ble_eq_true rfl) (fun M9 => ?_)
  refine kr_aload_n dX12_copyGorge_54 rfl 0 rfl ?_
  refine kr_getA (o := 11) (ci := 12) (j := 21) dX12_copyGorge_55 kr_at_346 fl_RX12_46 rfl ?_
  refine kr_bipush (v := 10) dX12_copyGorge_58 (by decide) ?_
  refine kr_iload_n dX12_copyGorge_60 rfl 1 rfl ?_
  refine kr_iload_n dX12_copyGorge_61 rfl 2 rfl ?_
  refine kr_Sv (As := [kr_r E 357, .int (10 : Int32), .int p1, .int p2]) (st := []) zs_X12_copyRow dX12_copyGorge_62 ml_RX12_315 (r_X12_copyRow E 357 (kr_at_357) (10 : Int32) p1 p2 M9) rfl rfl (Nat.le_of_ble_eq_true rfl) rfl (by decide) (Nat.le_of_ble_eq_true rfl) (fun M11 => ?_)
  refine kr_aload_n dX12_copyGorge_65 rfl 0 rfl ?_
  refine kr_getA (o := 12) (ci := 12) (j := 22) dX12_copyGorge_66 kr_at_346 fl_RX12_49 rfl ?_
  refine kr_bipush (v := 40) dX12_copyGorge_69 (by decide) ?_
  refine kr_iload_n dX12_copyGorge_71 rfl 1 rfl ?_
  refine kr_iload_n dX12_copyGorge_72 rfl 2 rfl ?_
  refine kr_Sv (As := [kr_r E 358, .int (40 : Int32), .int p1, .int p2]) (st := []) zs_X12_copyRow dX12_copyGorge_73 ml_RX12_315 (r_X12_copyRow E 358 (kr_at_358) (40 : Int32) p1 p2 M11) rfl rfl (Nat.le_of_ble_eq_true rfl) rfl (by decide) (Nat.le_of_ble_eq_true rfl) (fun M13 => ?_)
  refine kr_aload_n dX12_copyGorge_76 rfl 0 rfl ?_
  refine kr_getA (o := 13) (ci := 12) (j := 23) dX12_copyGorge_77 kr_at_346 fl_RX12_52 rfl ?_
  refine kr_bipush (v := 24) dX12_copyGorge_80 (by decide) ?_
  refine kr_iload_n dX12_copyGorge_82 rfl 1 rfl ?_
  refine kr_iload_n dX12_copyGorge_83 rfl 2 rfl ?_
  refine kr_Sv (As := [kr_r E 359, .int (24 : Int32), .int p1, .int p2]) (st := []) zs_X12_copyRow dX12_copyGorge_84 ml_RX12_315 (r_X12_copyRow E 359 (kr_at_359) (24 : Int32) p1 p2 M13) rfl rfl (Nat.le_of_ble_eq_true rfl) rfl (by decide) (Nat.le_of_ble_eq_true rfl) (fun M15 => ?_)
  refine kr_aload_n dX12_copyGorge_87 rfl 0 rfl ?_
  refine kr_getA (o := 14) (ci := 12) (j := 24) dX12_copyGorge_88 kr_at_346 fl_RX12_55 rfl ?_
  refine kr_bipush (v := 72) dX12_copyGorge_91 (by decide) ?_
  refine kr_iload_n dX12_copyGorge_93 rfl 1 rfl ?_
  refine kr_iload_n dX12_copyGorge_94 rfl 2 rfl ?_
  refine kr_Sv (As := [kr_r E 360, .int (72 : Int32), .int p1, .int p2]) (st := []) zs_X12_copyRow dX12_copyGorge_95 ml_RX12_315 (r_X12_copyRow E 360 (kr_at_360) (72 : Int32) p1 p2 M15) rfl rfl (Nat.le_of_ble_eq_true rfl) rfl (by decide) (Nat.le_of_ble_eq_true rfl) (fun M17 => ?_)
  refine kr_aload_n dX12_copyGorge_98 rfl 0 rfl ?_
  refine kr_getA (o := 15) (ci := 12) (j := 25) dX12_copyGorge_99 kr_at_346 fl_RX12_58 rfl ?_
  refine kr_bipush (v := 18) dX12_copyGorge_102 (by decide) ?_
  refine kr_iload_n dX12_copyGorge_104 rfl 1 rfl ?_
  refine kr_iload_n dX12_copyGorge_105 rfl 2 rfl ?_
  refine kr_Sv (As := [kr_r E 361, .int (18 : Int32), .int p1, .int p2]) (st := []) zs_X12_copyRow dX12_copyGorge_106 ml_RX12_315 (r_X12_copyRow E 361 (kr_at_361) (18 : Int32) p1 p2 M17) rfl rfl (Nat.le_of_ble_eq_true rfl) rfl (by decide) (Nat.le_of_ble_eq_true rfl) (fun M19 => ?_)
  refine kr_aload_n dX12_copyGorge_109 rfl 0 rfl ?_
  refine kr_getA (o := 16) (ci := 12) (j := 26) dX12_copyGorge_110 kr_at_346 fl_RX12_61 rfl ?_
  refine kr_sipush (v := 160) dX12_copyGorge_113 (by decide) ?_
  refine kr_iload_n dX12_copyGorge_116 rfl 1 rfl ?_
  refine kr_iload_n dX12_copyGorge_117 rfl 2 rfl ?_
  refine kr_Sv (As := [kr_r E 362, .int (160 : Int32), .int p1, .int p2]) (st := []) zs_X12_copyRow dX12_copyGorge_118 ml_RX12_315 (r_X12_copyRow E 362 (kr_at_362) (160 : Int32) p1 p2 M19) rfl rfl (Nat.le_of_ble_eq_true rfl) rfl (by decide) (Nat.le_of_ble_eq_true rfl) (fun M21 => ?_)
  exact kr_vret dX12_copyGorge_121 rfl
theorem dX12_gorge_0 : decode cX12_gorge 0 = .ok (.aload_n 0, 1) := by decide +kernel
theorem dX12_gorge_1 : decode cX12_gorge 1 = .ok (.iconst 0, 1) := by decide +kernel
theorem dX12_gorge_2 : decode cX12_gorge 2 = .ok (.putfield 138, 3) := by decide +kernel
theorem dX12_gorge_5 : decode cX12_gorge 5 = .ok (.aload_n 0, 1) := by decide +kernel
theorem dX12_gorge_6 : decode cX12_gorge 6 = .ok (.invokevirtual 289, 3) := by decide +kernel
theorem dX12_gorge_9 : decode cX12_gorge 9 = .ok (.aload_n 0, 1) := by decide +kernel
theorem dX12_gorge_10 : decode cX12_gorge 10 = .ok (.invokevirtual 292, 3) := by decide +kernel
theorem dX12_gorge_13 : decode cX12_gorge 13 = .ok (.aload_n 0, 1) := by decide +kernel
theorem dX12_gorge_14 : decode cX12_gorge 14 = .ok (.invokevirtual 228, 3) := by decide +kernel
theorem dX12_gorge_17 : decode cX12_gorge 17 = .ok (.ifCond .eq 102, 3) := by decide +kernel
theorem dX12_gorge_20 : decode cX12_gorge 20 = .ok (.aload_n 0, 1) := by decide +kernel
theorem dX12_gorge_21 : decode cX12_gorge 21 = .ok (.getfield 179, 3) := by decide +kernel
theorem dX12_gorge_24 : decode cX12_gorge 24 = .ok (.ifCond .eq 95, 3) := by decide +kernel
theorem dX12_gorge_27 : decode cX12_gorge 27 = .ok (.aload_n 0, 1) := by decide +kernel
theorem dX12_gorge_28 : decode cX12_gorge 28 = .ok (.getfield 31, 3) := by decide +kernel
theorem dX12_gorge_31 : decode cX12_gorge 31 = .ok (.iconst 4, 1) := by decide +kernel
theorem dX12_gorge_32 : decode cX12_gorge 32 = .ok (.iaload, 1) := by decide +kernel
theorem dX12_gorge_33 : decode cX12_gorge 33 = .ok (.ifCond .ne 58, 3) := by decide +kernel
theorem dX12_gorge_36 : decode cX12_gorge 36 = .ok (.aload_n 0, 1) := by decide +kernel
theorem dX12_gorge_37 : decode cX12_gorge 37 = .ok (.ldc2_w 295, 3) := by decide +kernel
theorem dX12_gorge_40 : decode cX12_gorge 40 = .ok (.invokevirtual 209, 3) := by decide +kernel
theorem dX12_gorge_43 : decode cX12_gorge 43 = .ok (.aload_n 0, 1) := by decide +kernel
theorem dX12_gorge_44 : decode cX12_gorge 44 = .ok (.iconst 0, 1) := by decide +kernel
theorem dX12_gorge_45 : decode cX12_gorge 45 = .ok (.aload_n 0, 1) := by decide +kernel
theorem dX12_gorge_46 : decode cX12_gorge 46 = .ok (.ldc2_w 297, 3) := by decide +kernel
theorem dX12_gorge_49 : decode cX12_gorge 49 = .ok (.iconst 2, 1) := by decide +kernel
theorem dX12_gorge_50 : decode cX12_gorge 50 = .ok (.bipush 6, 2) := by decide +kernel
theorem dX12_gorge_52 : decode cX12_gorge 52 = .ok (.invokevirtual 242, 3) := by decide +kernel
theorem dX12_gorge_55 : decode cX12_gorge 55 = .ok (.invokevirtual 245, 3) := by decide +kernel
theorem dX12_gorge_58 : decode cX12_gorge 58 = .ok (.aload_n 0, 1) := by decide +kernel
theorem dX12_gorge_59 : decode cX12_gorge 59 = .ok (.iconst 1, 1) := by decide +kernel
theorem dX12_gorge_60 : decode cX12_gorge 60 = .ok (.aload_n 0, 1) := by decide +kernel
theorem dX12_gorge_61 : decode cX12_gorge 61 = .ok (.ldc2_w 299, 3) := by decide +kernel
theorem dX12_gorge_64 : decode cX12_gorge 64 = .ok (.iconst 0, 1) := by decide +kernel
theorem dX12_gorge_65 : decode cX12_gorge 65 = .ok (.bipush 99, 2) := by decide +kernel
theorem dX12_gorge_67 : decode cX12_gorge 67 = .ok (.invokevirtual 242, 3) := by decide +kernel
theorem dX12_gorge_70 : decode cX12_gorge 70 = .ok (.invokevirtual 245, 3) := by decide +kernel
theorem dX12_gorge_73 : decode cX12_gorge 73 = .ok (.aload_n 0, 1) := by decide +kernel
theorem dX12_gorge_74 : decode cX12_gorge 74 = .ok (.iconst 2, 1) := by decide +kernel
theorem dX12_gorge_75 : decode cX12_gorge 75 = .ok (.aload_n 0, 1) := by decide +kernel
theorem dX12_gorge_76 : decode cX12_gorge 76 = .ok (.ldc2_w 301, 3) := by decide +kernel
theorem dX12_gorge_79 : decode cX12_gorge 79 = .ok (.iconst 0, 1) := by decide +kernel
theorem dX12_gorge_80 : decode cX12_gorge 80 = .ok (.bipush 100, 2) := by decide +kernel
theorem dX12_gorge_82 : decode cX12_gorge 82 = .ok (.invokevirtual 242, 3) := by decide +kernel
theorem dX12_gorge_85 : decode cX12_gorge 85 = .ok (.invokevirtual 245, 3) := by decide +kernel
theorem dX12_gorge_88 : decode cX12_gorge 88 = .ok (.goto 7, 3) := by decide +kernel
theorem dX12_gorge_91 : decode cX12_gorge 91 = .ok (.aload_n 0, 1) := by decide +kernel
theorem dX12_gorge_92 : decode cX12_gorge 92 = .ok (.invokevirtual 303, 3) := by decide +kernel
theorem dX12_gorge_95 : decode cX12_gorge 95 = .ok (.aload_n 0, 1) := by decide +kernel
theorem dX12_gorge_96 : decode cX12_gorge 96 = .ok (.invokevirtual 228, 3) := by decide +kernel
theorem dX12_gorge_99 : decode cX12_gorge 99 = .ok (.ifCond .eq 7, 3) := by decide +kernel
theorem dX12_gorge_102 : decode cX12_gorge 102 = .ok (.aload_n 0, 1) := by decide +kernel
theorem dX12_gorge_103 : decode cX12_gorge 103 = .ok (.invokevirtual 306, 3) := by decide +kernel
theorem dX12_gorge_106 : decode cX12_gorge 106 = .ok (.aload_n 0, 1) := by decide +kernel
theorem dX12_gorge_107 : decode cX12_gorge 107 = .ok (.getfield 31, 3) := by decide +kernel
theorem dX12_gorge_110 : decode cX12_gorge 110 = .ok (.iconst 4, 1) := by decide +kernel
theorem dX12_gorge_111 : decode cX12_gorge 111 = .ok (.dup2, 1) := by decide +kernel
theorem dX12_gorge_112 : decode cX12_gorge 112 = .ok (.iaload, 1) := by decide +kernel
theorem dX12_gorge_113 : decode cX12_gorge 113 = .ok (.iconst 1, 1) := by decide +kernel
theorem dX12_gorge_114 : decode cX12_gorge 114 = .ok (.iadd, 1) := by decide +kernel
theorem dX12_gorge_115 : decode cX12_gorge 115 = .ok (.iastore, 1) := by decide +kernel
theorem dX12_gorge_116 : decode cX12_gorge 116 = .ok (.goto (-103), 3) := by decide +kernel
theorem dX12_gorge_119 : decode cX12_gorge 119 = .ok (.aload_n 0, 1) := by decide +kernel
theorem dX12_gorge_120 : decode cX12_gorge 120 = .ok (.invokevirtual 309, 3) := by decide +kernel
theorem dX12_gorge_123 : decode cX12_gorge 123 = .ok (.aload_n 0, 1) := by decide +kernel
theorem dX12_gorge_124 : decode cX12_gorge 124 = .ok (.getfield 190, 3) := by decide +kernel
theorem dX12_gorge_127 : decode cX12_gorge 127 = .ok (.ifCond .eq 6, 3) := by decide +kernel
theorem dX12_gorge_130 : decode cX12_gorge 130 = .ok (.bipush (-4), 2) := by decide +kernel
theorem dX12_gorge_132 : decode cX12_gorge 132 = .ok (.ireturn, 1) := by decide +kernel
theorem dX12_gorge_133 : decode cX12_gorge 133 = .ok (.aload_n 0, 1) := by decide +kernel
theorem dX12_gorge_134 : decode cX12_gorge 134 = .ok (.iconst 4, 1) := by decide +kernel
theorem dX12_gorge_135 : decode cX12_gorge 135 = .ok (.iconst 0, 1) := by decide +kernel
theorem dX12_gorge_136 : decode cX12_gorge 136 = .ok (.invokevirtual 312, 3) := by decide +kernel
theorem dX12_gorge_139 : decode cX12_gorge 139 = .ok (.aload_n 0, 1) := by decide +kernel
theorem dX12_gorge_140 : decode cX12_gorge 140 = .ok (.getfield 31, 3) := by decide +kernel
theorem dX12_gorge_143 : decode cX12_gorge 143 = .ok (.iconst 0, 1) := by decide +kernel
theorem dX12_gorge_144 : decode cX12_gorge 144 = .ok (.iaload, 1) := by decide +kernel
theorem dX12_gorge_145 : decode cX12_gorge 145 = .ok (.ireturn, 1) := by decide +kernel
theorem r_X12_gorge_119 (E : kr_E)    (M : kr_M) : kR kr_vi E Y_X12_gorge 8 119 [(0, kr_r E 346)] [] M (f_X12_gorge_119 M) := by
  rw [f_X12_gorge_119]
  refine kr_aload_n dX12_gorge_119 rfl 0 rfl ?_
  refine kr_Vv (As := []) (st := []) zv_X12_isOver dX12_gorge_120 ml_RX12_309 kr_at_346 (r_X12_isOver E  M) rfl rfl (Nat.le_of_ble_eq_true rfl) rfl (by decide) (Nat.le_of_ble_eq_true rfl) (fun M1 => ?_)
  refine kr_aload_n dX12_gorge_123 rfl 0 rfl ?_
  refine kr_getI (ci := 12) (j := 12) dX12_gorge_124 kr_at_346 fl_RX12_190 rfl (fun v3 => ?_)
  refine kr_if_eq (tgt := 133) dX12_gorge_127 (by decide) ?_ ?_
  · refine kr_aload_n dX12_gorge_133 rfl 0 rfl ?_
    refine kr_iconst (v := 4) dX12_gorge_134 (by decide) ?_
    refine kr_iconst (v := 0) dX12_gorge_135 (by decide) ?_
    refine kr_Vv (As := [.int (4 : Int32), .int (0 : Int32)]) (st := []) zv_X12_copyGorge dX12_gorge_136 ml_RX12_312 kr_at_346 (r_X12_copyGorge E (4 : Int32) (0 : Int32) M1) rfl rfl (Nat.le_of_ble_eq_true rfl) rfl (by decide) (Nat.le_of_ble_eq_true rfl) (fun M4 => ?_)
    refine kr_aload_n dX12_gorge_139 rfl 0 rfl ?_
    refine kr_getA (o := 6) (ci := 12) (j := 16) dX12_gorge_140 kr_at_346 fl_RX12_31 rfl ?_
    refine kr_iconst (v := 0) dX12_gorge_143 (by decide) ?_
    refine kr_iald dX12_gorge_144 kr_at_352 (fun v6 => ?_)
    exact kr_iret dX12_gorge_145 rfl
  · refine kr_bipush (v := -4) dX12_gorge_130 (by decide) ?_
    exact kr_iret dX12_gorge_132 rfl
theorem r_X12_gorge_106 (E : kr_E) (k_13 : kr_M → Option (Int32 × kr_M))  (hk_13 : ∀  (M : kr_M), kR kr_vi E Y_X12_gorge 8 13 [(0, kr_r E 346)] [] M (k_13  M)) (M : kr_M) : kR kr_vi E Y_X12_gorge 8 106 [(0, kr_r E 346)] [] M (f_X12_gorge_106 k_13 M) := by
  rw [f_X12_gorge_106]
  refine kr_aload_n dX12_gorge_106 rfl 0 rfl ?_
  refine kr_getA (o := 6) (ci := 12) (j := 16) dX12_gorge_107 kr_at_346 fl_RX12_31 rfl ?_
  refine kr_iconst (v := 4) dX12_gorge_110 (by decide) ?_
  refine kr_dup2 dX12_gorge_111 rfl rfl ?_
  refine kr_iald dX12_gorge_112 kr_at_352 (fun v1 => ?_)
  refine kr_iconst (v := 1) dX12_gorge_113 (by decide) ?_
  refine kr_iadd dX12_gorge_114 ?_
  refine kr_iast dX12_gorge_115 kr_at_352 (fun M2 => ?_)
  refine kr_goto (tgt := 13) dX12_gorge_116 (by decide) ?_
  refine kr_sub [0] rfl ?_
  exact hk_13 M2
theorem r_X12_gorge_95 (E : kr_E) (k_13 : kr_M → Option (Int32 × kr_M))  (hk_13 : ∀  (M : kr_M), kR kr_vi E Y_X12_gorge 8 13 [(0, kr_r E 346)] [] M (k_13  M)) (M : kr_M) : kR kr_vi E Y_X12_gorge 8 95 [(0, kr_r E 346)] [] M (f_X12_gorge_95 k_13 M) := by
  rw [f_X12_gorge_95]
  refine kr_aload_n dX12_gorge_95 rfl 0 rfl ?_
  refine kr_Vi (As := []) (st := []) zv_X12_isGood dX12_gorge_96 ml_RX12_228 kr_at_346 (r_X12_isGood E  M) rfl rfl (Nat.le_of_ble_eq_true rfl) rfl (by decide) (Nat.le_of_ble_eq_true rfl) (fun r2 M1 => ?_)
  refine kr_if_eq (tgt := 106) dX12_gorge_99 (by decide) ?_ ?_
  · refine kr_sub [0] rfl ?_
    exact r_X12_gorge_106 E _ hk_13 M1
  · refine kr_aload_n dX12_gorge_102 rfl 0 rfl ?_
    refine kr_Vv (As := []) (st := []) zv_X12_ends dX12_gorge_103 ml_RX12_306 kr_at_346 (r_X12_ends E  M1) rfl rfl (Nat.le_of_ble_eq_true rfl) rfl (by decide) (Nat.le_of_ble_eq_true rfl) (fun M3 => ?_)
    refine kr_sub [0] rfl ?_
    exact r_X12_gorge_106 E _ hk_13 M3
theorem r_X12_gorge_13 (E : kr_E)    : ∀ (n : Nat)  (M : kr_M), kR kr_vi E Y_X12_gorge 8 13 [(0, kr_r E 346)] [] M (f_X12_gorge_13 n M) := by
  intro n
  induction n with
  | zero => intro  M; exact kr_none
  | succ n ih =>
    intro  M
    rw [f_X12_gorge_13]
    refine kr_aload_n dX12_gorge_13 rfl 0 rfl ?_
    refine kr_Vi (As := []) (st := []) zv_X12_isGood dX12_gorge_14 ml_RX12_228 kr_at_346 (r_X12_isGood E  M) rfl rfl (Nat.le_of_ble_eq_true rfl) rfl (by decide) (Nat.le_of_ble_eq_true rfl) (fun r2 M1 => ?_)
    refine kr_if_eq (tgt := 119) dX12_gorge_17 (by decide) ?_ ?_
    · refine kr_sub [0] rfl ?_
      exact r_X12_gorge_119 E M1
    · refine kr_aload_n dX12_gorge_20 rfl 0 rfl ?_
      refine kr_getI (ci := 12) (j := 8) dX12_gorge_21 kr_at_346 fl_RX12_179 rfl (fun v3 => ?_)
      refine kr_if_eq (tgt := 119) dX12_gorge_24 (by decide) ?_ ?_
      · refine kr_sub [0] rfl ?_
        exact r_X12_gorge_119 E M1
      · refine kr_aload_n dX12_gorge_27 rfl 0 rfl ?_
        refine kr_getA (o := 6) (ci := 12) (j := 16) dX12_gorge_28 kr_at_346 fl_RX12_31 rfl ?_
        refine kr_iconst (v := 4) dX12_gorge_31 (by decide) ?_
        refine kr_iald dX12_gorge_32 kr_at_352 (fun v4 => ?_)
        refine kr_if_ne (tgt := 91) dX12_gorge_33 (by decide) ?_ ?_
        · refine kr_aload_n dX12_gorge_91 rfl 0 rfl ?_
          refine kr_Vv (As := []) (st := []) zv_X12_line dX12_gorge_92 ml_RX12_303 kr_at_346 (r_X12_line E  M1) rfl rfl (Nat.le_of_ble_eq_true rfl) rfl (by decide) (Nat.le_of_ble_eq_true rfl) (fun M5 => ?_)
          refine kr_sub [0] rfl ?_
          exact r_X12_gorge_95 E _ ih M5
        · refine kr_aload_n dX12_gorge_36 rfl 0 rfl ?_
          refine kr_ldc2 dX12_gorge_37 kl_RX12_295 ?_
          refine kr_Vv (As := [.long (4028648 : Int64)]) (st := []) zv_X12_asks dX12_gorge_40 ml_RX12_209 kr_at_346 (r_X12_asks E (4028648 : Int64) M1) rfl rfl (Nat.le_of_ble_eq_true rfl) rfl (by decide) (Nat.le_of_ble_eq_true rfl) (fun M7 => ?_)
          refine kr_aload_n dX12_gorge_43 rfl 0 rfl ?_
          refine kr_iconst (v := 0) dX12_gorge_44 (by decide) ?_
          refine kr_aload_n dX12_gorge_45 rfl 0 rfl ?_
          refine kr_ldc2 dX12_gorge_46 kl_RX12_297 ?_
          refine kr_iconst (v := 2) dX12_gorge_49 (by decide) ?_
          refine kr_bipush (v := 6) dX12_gorge_50 (by decide) ?_
          refine kr_Vi (As := [.long (235981828 : Int64), .int (2 : Int32), .int (6 : Int32)]) (st := [.int (0 : Int32), kr_r E 346]) zv_X12_number_ dX12_gorge_52 ml_RX12_242 kr_at_346 (r_X12_number_ E (235981828 : Int64) (2 : Int32) (6 : Int32) M7) rfl rfl (Nat.le_of_ble_eq_true rfl) rfl (by decide) (Nat.le_of_ble_eq_true rfl) (fun r10 M9 => ?_)
          refine kr_Vv (As := [.int (0 : Int32), .int r10]) (st := []) zv_X12_tells dX12_gorge_55 ml_RX12_245 kr_at_346 (r_X12_tells E (0 : Int32) r10 M9) rfl rfl (Nat.le_of_ble_eq_true rfl) rfl (by decide) (Nat.le_of_ble_eq_true rfl) (fun M11 => ?_)
          refine kr_aload_n dX12_gorge_58 rfl 0 rfl ?_
          refine kr_iconst (v := 1) dX12_gorge_59 (by decide) ?_
          refine kr_aload_n dX12_gorge_60 rfl 0 rfl ?_
          refine kr_ldc2 dX12_gorge_61 kl_RX12_299 ?_
          refine kr_iconst (v := 0) dX12_gorge_64 (by decide) ?_
          refine kr_bipush (v := 99) dX12_gorge_65 (by decide) ?_
          refine kr_Vi (As := [.long (456399 : Int64), .int (0 : Int32), .int (99 : Int32)]) (st := [.int (1 : Int32), kr_r E 346]) zv_X12_number_ dX12_gorge_67 ml_RX12_242 kr_at_346 (r_X12_number_ E (456399 : Int64) (0 : Int32) (99 : Int32) M11) rfl rfl (Nat.le_of_ble_eq_true rfl) rfl (by decide) (Nat.le_of_ble_eq_true rfl) (fun r14 M13 => ?_)
          refine kr_Vv (As := [.int (1 : Int32), .int r14]) (st := []) zv_X12_tells dX12_gorge_70 ml_RX12_245 kr_at_346 (r_X12_tells E (1 : Int32) r14 M13) rfl rfl (Nat.le_of_ble_eq_true rfl) rfl (by decide) (Nat.le_of_ble_eq_true rfl) (fun M15 => ?_)
          refine kr_aload_n dX12_gorge_73 rfl 0 rfl ?_
          refine kr_iconst (v := 2) dX12_gorge_74 (by decide) ?_
          refine kr_aload_n dX12_gorge_75 rfl 0 rfl ?_
          refine kr_ldc2 dX12_gorge_76 kl_RX12_301 ?_
          refine kr_iconst (v := 0) dX12_gorge_79 (by decide) ?_
          refine kr_bipush (v := 100) dX12_gorge_80 (by decide) ?_
          refine kr_Vi (As := [.long (298288 : Int64), .int (0 : Int32), .int (100 : Int32)]) (st := [.int (2 : Int32), kr_r E 346]) zv_X12_number_ dX12_gorge_82 ml_RX12_242 kr_at_346 (r_X12_number_ E (298288 : Int64) (0 : Int32) (100 : Int32) M15) rfl rfl (Nat.le_of_ble_eq_true rfl) rfl (by decide) (Nat.le_of_ble_eq_true rfl) (fun r18 M17 => ?_)
          refine kr_Vv (As := [.int (2 : Int32), .int r18]) (st := []) zv_X12_tells dX12_gorge_85 ml_RX12_245 kr_at_346 (r_X12_tells E (2 : Int32) r18 M17) rfl rfl (Nat.le_of_ble_eq_true rfl) rfl (by decide) (Nat.le_of_ble_eq_true rfl) (fun M19 => ?_)
          refine kr_goto (tgt := 95) dX12_gorge_88 (by decide) ?_
          refine kr_sub [0] rfl ?_
          exact r_X12_gorge_95 E _ ih M19
theorem r_X12_gorge (E : kr_E)  (M : kr_M) : kR kr_vi E Y_X12_gorge 8 0 [(0, kr_r E 346)] [] M (f_X12_gorge M) := by
  rw [f_X12_gorge]
  refine kr_aload_n dX12_gorge_0 rfl 0 rfl ?_
  refine kr_iconst (v := 0) dX12_gorge_1 (by decide) ?_
  refine kr_putI (ci := 12) (j := 0) dX12_gorge_2 kr_at_346 fl_RX12_138 rfl rfl (fun M1 => ?_)
  refine kr_aload_n dX12_gorge_5 rfl 0 rfl ?_
  refine kr_Vv (As := []) (st := []) zv_X12_clears dX12_gorge_6 ml_RX12_289 kr_at_346 (r_X12_clears E  M1) rfl rfl (Nat.le_of_ble_eq_true rfl) rfl (by decide) (Nat.le_of_ble_eq_true rfl) (fun M2 => ?_)
  refine kr_aload_n dX12_gorge_9 rfl 0 rfl ?_
  refine kr_Vv (As := []) (st := []) zv_X12_begins dX12_gorge_10 ml_RX12_292 kr_at_346 (r_X12_begins E  M2) rfl rfl (Nat.le_of_ble_eq_true rfl) rfl (by decide) (Nat.le_of_ble_eq_true rfl) (fun M4 => ?_)
  refine kr_sub [0] rfl ?_
  exact r_X12_gorge_13 E _ M4
theorem dX12_isGorge_0 : decode cX12_isGorge 0 = .ok (.aload_n 0, 1) := by decide +kernel
theorem dX12_isGorge_1 : decode cX12_isGorge 1 = .ok (.getfield 31, 3) := by decide +kernel
theorem dX12_isGorge_4 : decode cX12_isGorge 4 = .ok (.iconst 0, 1) := by decide +kernel
theorem dX12_isGorge_5 : decode cX12_isGorge 5 = .ok (.iaload, 1) := by decide +kernel
theorem dX12_isGorge_6 : decode cX12_isGorge 6 = .ok (.ifCond .le 7, 3) := by decide +kernel
theorem dX12_isGorge_9 : decode cX12_isGorge 9 = .ok (.iconst 1, 1) := by decide +kernel
theorem dX12_isGorge_10 : decode cX12_isGorge 10 = .ok (.goto 4, 3) := by decide +kernel
theorem dX12_isGorge_13 : decode cX12_isGorge 13 = .ok (.iconst 0, 1) := by decide +kernel
theorem dX12_isGorge_14 : decode cX12_isGorge 14 = .ok (.ireturn, 1) := by decide +kernel
theorem r_X12_isGorge (E : kr_E)  (M : kr_M) : kR kr_vi E Y_X12_isGorge 1 0 [(0, kr_r E 346)] [] M (f_X12_isGorge M) := by
  rw [f_X12_isGorge]
  refine kr_aload_n dX12_isGorge_0 rfl 0 rfl ?_
  refine kr_getA (o := 6) (ci := 12) (j := 16) dX12_isGorge_1 kr_at_346 fl_RX12_31 rfl ?_
  refine kr_iconst (v := 0) dX12_isGorge_4 (by decide) ?_
  refine kr_iald dX12_isGorge_5 kr_at_352 (fun v1 => ?_)
  refine kr_if_le (tgt := 13) dX12_isGorge_6 (by decide) ?_ ?_
  · refine kr_iconst (v := 0) dX12_isGorge_13 (by decide) ?_
    exact kr_zret1 dX12_isGorge_14 rfl rfl
  · refine kr_iconst (v := 1) dX12_isGorge_9 (by decide) ?_
    refine kr_goto (tgt := 14) dX12_isGorge_10 (by decide) ?_
    exact kr_zret1 dX12_isGorge_14 rfl rfl
theorem dX12_isRope_0 : decode cX12_isRope 0 = .ok (.iload_n 1, 1) := by decide +kernel
theorem dX12_isRope_1 : decode cX12_isRope 1 = .ok (.i2l, 1) := by decide +kernel
theorem dX12_isRope_2 : decode cX12_isRope 2 = .ok (.lconst 0, 1) := by decide +kernel
theorem dX12_isRope_3 : decode cX12_isRope 3 = .ok (.aload_n 0, 1) := by decide +kernel
theorem dX12_isRope_4 : decode cX12_isRope 4 = .ok (.getfield 34, 3) := by decide +kernel
theorem dX12_isRope_7 : decode cX12_isRope 7 = .ok (.iconst 5, 1) := by decide +kernel
theorem dX12_isRope_8 : decode cX12_isRope 8 = .ok (.iaload, 1) := by decide +kernel
theorem dX12_isRope_9 : decode cX12_isRope 9 = .ok (.iconst 1, 1) := by decide +kernel
theorem dX12_isRope_10 : decode cX12_isRope 10 = .ok (.isub, 1) := by decide +kernel
theorem dX12_isRope_11 : decode cX12_isRope 11 = .ok (.i2l, 1) := by decide +kernel
theorem dX12_isRope_12 : decode cX12_isRope 12 = .ok (.invokestatic 143, 3) := by decide +kernel
theorem dX12_isRope_15 : decode cX12_isRope 15 = .ok (.ireturn, 1) := by decide +kernel
theorem r_X12_isRope (E : kr_E) (p1 : Int32) (M : kr_M) : kR kr_vi E Y_X12_isRope 2 0 [(0, kr_r E 346), (1, .int p1)] [] M (f_X12_isRope p1 M) := by
  rw [f_X12_isRope]
  refine kr_iload_n dX12_isRope_0 rfl 1 rfl ?_
  refine kr_i2l dX12_isRope_1 ?_
  refine kr_lconst (v := 0) dX12_isRope_2 (by decide) ?_
  refine kr_aload_n dX12_isRope_3 rfl 0 rfl ?_
  refine kr_getA (o := 7) (ci := 12) (j := 17) dX12_isRope_4 kr_at_346 fl_RX12_34 rfl ?_
  refine kr_iconst (v := 5) dX12_isRope_7 (by decide) ?_
  refine kr_iald dX12_isRope_8 kr_at_353 (fun v1 => ?_)
  refine kr_iconst (v := 1) dX12_isRope_9 (by decide) ?_
  refine kr_isub dX12_isRope_10 ?_
  refine kr_i2l dX12_isRope_11 ?_
  refine kr_Si (As := [.long (p1.toInt64), .long (0 : Int64), .long ((v1 - (1 : Int32)).toInt64)]) (st := []) zs_X12_in dX12_isRope_12 ml_RX12_143 (r_X12_in E (p1.toInt64) (0 : Int64) ((v1 - (1 : Int32)).toInt64) M) rfl rfl (Nat.le_of_ble_eq_true rfl) rfl (by decide) (Nat.le_of_ble_eq_true rfl) (fun r3 M2 => ?_)
  exact kr_zret dX12_isRope_15 rfl
theorem dX12_areRopes_0 : decode cX12_areRopes 0 = .ok (.aload_n 0, 1) := by decide +kernel
theorem dX12_areRopes_1 : decode cX12_areRopes 1 = .ok (.iload_n 1, 1) := by decide +kernel
theorem dX12_areRopes_2 : decode cX12_areRopes 2 = .ok (.invokevirtual 319, 3) := by decide +kernel
theorem dX12_areRopes_5 : decode cX12_areRopes 5 = .ok (.ifCond .eq 15, 3) := by decide +kernel
theorem dX12_areRopes_8 : decode cX12_areRopes 8 = .ok (.aload_n 0, 1) := by decide +kernel
theorem dX12_areRopes_9 : decode cX12_areRopes 9 = .ok (.iload_n 2, 1) := by decide +kernel
theorem dX12_areRopes_10 : decode cX12_areRopes 10 = .ok (.invokevirtual 319, 3) := by decide +kernel
theorem dX12_areRopes_13 : decode cX12_areRopes 13 = .ok (.ifCond .eq 7, 3) := by decide +kernel
theorem dX12_areRopes_16 : decode cX12_areRopes 16 = .ok (.iconst 1, 1) := by decide +kernel
theorem dX12_areRopes_17 : decode cX12_areRopes 17 = .ok (.goto 4, 3) := by decide +kernel
theorem dX12_areRopes_20 : decode cX12_areRopes 20 = .ok (.iconst 0, 1) := by decide +kernel
theorem dX12_areRopes_21 : decode cX12_areRopes 21 = .ok (.ireturn, 1) := by decide +kernel
theorem r_X12_areRopes (E : kr_E) (p1 : Int32) (p2 : Int32) (M : kr_M) : kR kr_vi E Y_X12_areRopes 3 0 [(0, kr_r E 346), (1, .int p1), (2, .int p2)] [] M (f_X12_areRopes p1 p2 M) := by
  rw [f_X12_areRopes]
  refine kr_aload_n dX12_areRopes_0 rfl 0 rfl ?_
  refine kr_iload_n dX12_areRopes_1 rfl 1 rfl ?_
  refine kr_Vi (As := [.int p1]) (st := []) zv_X12_isRope dX12_areRopes_2 ml_RX12_319 kr_at_346 (r_X12_isRope E p1 M) rfl rfl (Nat.le_of_ble_eq_true rfl) rfl (by decide) (Nat.le_of_ble_eq_true rfl) (fun r2 M1 => ?_)
  refine kr_if_eq (tgt := 20) dX12_areRopes_5 (by decide) ?_ ?_
  · refine kr_iconst (v := 0) dX12_areRopes_20 (by decide) ?_
    exact kr_zret1 dX12_areRopes_21 rfl rfl
  · refine kr_aload_n dX12_areRopes_8 rfl 0 rfl ?_
    refine kr_iload_n dX12_areRopes_9 rfl 2 rfl ?_
    refine kr_Vi (As := [.int p2]) (st := []) zv_X12_isRope dX12_areRopes_10 ml_RX12_319 kr_at_346 (r_X12_isRope E p2 M1) rfl rfl (Nat.le_of_ble_eq_true rfl) rfl (by decide) (Nat.le_of_ble_eq_true rfl) (fun r4 M3 => ?_)
    refine kr_if_eq (tgt := 20) dX12_areRopes_13 (by decide) ?_ ?_
    · refine kr_iconst (v := 0) dX12_areRopes_20 (by decide) ?_
      exact kr_zret1 dX12_areRopes_21 rfl rfl
    · refine kr_iconst (v := 1) dX12_areRopes_16 (by decide) ?_
      refine kr_goto (tgt := 21) dX12_areRopes_17 (by decide) ?_
      exact kr_zret1 dX12_areRopes_21 rfl rfl
theorem dX12_isPerson_0 : decode cX12_isPerson 0 = .ok (.iload_n 1, 1) := by decide +kernel
theorem dX12_isPerson_1 : decode cX12_isPerson 1 = .ok (.i2l, 1) := by decide +kernel
theorem dX12_isPerson_2 : decode cX12_isPerson 2 = .ok (.lconst 0, 1) := by decide +kernel
theorem dX12_isPerson_3 : decode cX12_isPerson 3 = .ok (.aload_n 0, 1) := by decide +kernel
theorem dX12_isPerson_4 : decode cX12_isPerson 4 = .ok (.getfield 34, 3) := by decide +kernel
theorem dX12_isPerson_7 : decode cX12_isPerson 7 = .ok (.bipush 6, 2) := by decide +kernel
theorem dX12_isPerson_9 : decode cX12_isPerson 9 = .ok (.iaload, 1) := by decide +kernel
theorem dX12_isPerson_10 : decode cX12_isPerson 10 = .ok (.iconst 1, 1) := by decide +kernel
theorem dX12_isPerson_11 : decode cX12_isPerson 11 = .ok (.isub, 1) := by decide +kernel
theorem dX12_isPerson_12 : decode cX12_isPerson 12 = .ok (.i2l, 1) := by decide +kernel
theorem dX12_isPerson_13 : decode cX12_isPerson 13 = .ok (.invokestatic 143, 3) := by decide +kernel
theorem dX12_isPerson_16 : decode cX12_isPerson 16 = .ok (.ireturn, 1) := by decide +kernel
theorem r_X12_isPerson (E : kr_E) (p1 : Int32) (M : kr_M) : kR kr_vi E Y_X12_isPerson 2 0 [(0, kr_r E 346), (1, .int p1)] [] M (f_X12_isPerson p1 M) := by
  rw [f_X12_isPerson]
  refine kr_iload_n dX12_isPerson_0 rfl 1 rfl ?_
  refine kr_i2l dX12_isPerson_1 ?_
  refine kr_lconst (v := 0) dX12_isPerson_2 (by decide) ?_
  refine kr_aload_n dX12_isPerson_3 rfl 0 rfl ?_
  refine kr_getA (o := 7) (ci := 12) (j := 17) dX12_isPerson_4 kr_at_346 fl_RX12_34 rfl ?_
  refine kr_bipush (v := 6) dX12_isPerson_7 (by decide) ?_
  refine kr_iald dX12_isPerson_9 kr_at_353 (fun v1 => ?_)
  refine kr_iconst (v := 1) dX12_isPerson_10 (by decide) ?_
  refine kr_isub dX12_isPerson_11 ?_
  refine kr_i2l dX12_isPerson_12 ?_
  refine kr_Si (As := [.long (p1.toInt64), .long (0 : Int64), .long ((v1 - (1 : Int32)).toInt64)]) (st := []) zs_X12_in dX12_isPerson_13 ml_RX12_143 (r_X12_in E (p1.toInt64) (0 : Int64) ((v1 - (1 : Int32)).toInt64) M) rfl rfl (Nat.le_of_ble_eq_true rfl) rfl (by decide) (Nat.le_of_ble_eq_true rfl) (fun r3 M2 => ?_)
  exact kr_zret dX12_isPerson_16 rfl
theorem dX12_isPlace_0 : decode cX12_isPlace 0 = .ok (.iload_n 1, 1) := by decide +kernel
theorem dX12_isPlace_1 : decode cX12_isPlace 1 = .ok (.i2l, 1) := by decide +kernel
theorem dX12_isPlace_2 : decode cX12_isPlace 2 = .ok (.lconst 0, 1) := by decide +kernel
theorem dX12_isPlace_3 : decode cX12_isPlace 3 = .ok (.aload_n 0, 1) := by decide +kernel
theorem dX12_isPlace_4 : decode cX12_isPlace 4 = .ok (.getfield 34, 3) := by decide +kernel
theorem dX12_isPlace_7 : decode cX12_isPlace 7 = .ok (.iconst 0, 1) := by decide +kernel
theorem dX12_isPlace_8 : decode cX12_isPlace 8 = .ok (.iaload, 1) := by decide +kernel
theorem dX12_isPlace_9 : decode cX12_isPlace 9 = .ok (.iconst 1, 1) := by decide +kernel
theorem dX12_isPlace_10 : decode cX12_isPlace 10 = .ok (.isub, 1) := by decide +kernel
theorem dX12_isPlace_11 : decode cX12_isPlace 11 = .ok (.i2l, 1) := by decide +kernel
theorem dX12_isPlace_12 : decode cX12_isPlace 12 = .ok (.invokestatic 143, 3) := by decide +kernel
theorem dX12_isPlace_15 : decode cX12_isPlace 15 = .ok (.ireturn, 1) := by decide +kernel
theorem r_X12_isPlace (E : kr_E) (p1 : Int32) (M : kr_M) : kR kr_vi E Y_X12_isPlace 2 0 [(0, kr_r E 346), (1, .int p1)] [] M (f_X12_isPlace p1 M) := by
  rw [f_X12_isPlace]
  refine kr_iload_n dX12_isPlace_0 rfl 1 rfl ?_
  refine kr_i2l dX12_isPlace_1 ?_
  refine kr_lconst (v := 0) dX12_isPlace_2 (by decide) ?_
  refine kr_aload_n dX12_isPlace_3 rfl 0 rfl ?_
  refine kr_getA (o := 7) (ci := 12) (j := 17) dX12_isPlace_4 kr_at_346 fl_RX12_34 rfl ?_
  refine kr_iconst (v := 0) dX12_isPlace_7 (by decide) ?_
  refine kr_iald dX12_isPlace_8 kr_at_353 (fun v1 => ?_)
  refine kr_iconst (v := 1) dX12_isPlace_9 (by decide) ?_
  refine kr_isub dX12_isPlace_10 ?_
  refine kr_i2l dX12_isPlace_11 ?_
  refine kr_Si (As := [.long (p1.toInt64), .long (0 : Int64), .long ((v1 - (1 : Int32)).toInt64)]) (st := []) zs_X12_in dX12_isPlace_12 ml_RX12_143 (r_X12_in E (p1.toInt64) (0 : Int64) ((v1 - (1 : Int32)).toInt64) M) rfl rfl (Nat.le_of_ble_eq_true rfl) rfl (by decide) (Nat.le_of_ble_eq_true rfl) (fun r3 M2 => ?_)
  exact kr_zret dX12_isPlace_15 rfl
theorem dX12_isBit_0 : decode cX12_isBit 0 = .ok (.iload_n 0, 1) := by decide +kernel
theorem dX12_isBit_1 : decode cX12_isBit 1 = .ok (.iload_n 1, 1) := by decide +kernel
theorem dX12_isBit_2 : decode cX12_isBit 2 = .ok (.ishr, 1) := by decide +kernel
theorem dX12_isBit_3 : decode cX12_isBit 3 = .ok (.iconst 1, 1) := by decide +kernel
theorem dX12_isBit_4 : decode cX12_isBit 4 = .ok (.iand, 1) := by decide +kernel
theorem dX12_isBit_5 : decode cX12_isBit 5 = .ok (.iconst 1, 1) := by decide +kernel
theorem dX12_isBit_6 : decode cX12_isBit 6 = .ok (.if_icmp .ne 7, 3) := by decide +kernel
theorem dX12_isBit_9 : decode cX12_isBit 9 = .ok (.iconst 1, 1) := by decide +kernel
theorem dX12_isBit_10 : decode cX12_isBit 10 = .ok (.goto 4, 3) := by decide +kernel
theorem dX12_isBit_13 : decode cX12_isBit 13 = .ok (.iconst 0, 1) := by decide +kernel
theorem dX12_isBit_14 : decode cX12_isBit 14 = .ok (.ireturn, 1) := by decide +kernel
theorem r_X12_isBit (E : kr_E) (p0 : Int32) (p1 : Int32) (M : kr_M) : kR kr_vi E Y_X12_isBit 1 0 [(0, .int p0), (1, .int p1)] [] M (f_X12_isBit p0 p1 M) := by
  rw [f_X12_isBit]
  refine kr_iload_n dX12_isBit_0 rfl 0 rfl ?_
  refine kr_iload_n dX12_isBit_1 rfl 1 rfl ?_
  refine kr_ishr dX12_isBit_2 ?_
  refine kr_iconst (v := 1) dX12_isBit_3 (by decide) ?_
  refine kr_iand dX12_isBit_4 ?_
  refine kr_iconst (v := 1) dX12_isBit_5 (by decide) ?_
  refine kr_icmp_ne (tgt := 13) dX12_isBit_6 (by decide) ?_ ?_
  · refine kr_iconst (v := 0) dX12_isBit_13 (by decide) ?_
    exact kr_zret1 dX12_isBit_14 rfl rfl
  · refine kr_iconst (v := 1) dX12_isBit_9 (by decide) ?_
    refine kr_goto (tgt := 14) dX12_isBit_10 (by decide) ?_
    exact kr_zret1 dX12_isBit_14 rfl rfl
theorem dX12_sizeOf_0 : decode cX12_sizeOf 0 = .ok (.iconst 0, 1) := by decide +kernel
theorem dX12_sizeOf_1 : decode cX12_sizeOf 1 = .ok (.istore_n 1, 1) := by decide +kernel
theorem dX12_sizeOf_2 : decode cX12_sizeOf 2 = .ok (.iload_n 0, 1) := by decide +kernel
theorem dX12_sizeOf_3 : decode cX12_sizeOf 3 = .ok (.istore_n 2, 1) := by decide +kernel
theorem dX12_sizeOf_4 : decode cX12_sizeOf 4 = .ok (.iload_n 2, 1) := by decide +kernel
theorem dX12_sizeOf_5 : decode cX12_sizeOf 5 = .ok (.ifCond .eq 15, 3) := by decide +kernel
theorem dX12_sizeOf_8 : decode cX12_sizeOf 8 = .ok (.iinc 1 1, 3) := by decide +kernel
theorem dX12_sizeOf_11 : decode cX12_sizeOf 11 = .ok (.iload_n 2, 1) := by decide +kernel
theorem dX12_sizeOf_12 : decode cX12_sizeOf 12 = .ok (.iload_n 2, 1) := by decide +kernel
theorem dX12_sizeOf_13 : decode cX12_sizeOf 13 = .ok (.iconst 1, 1) := by decide +kernel
theorem dX12_sizeOf_14 : decode cX12_sizeOf 14 = .ok (.isub, 1) := by decide +kernel
theorem dX12_sizeOf_15 : decode cX12_sizeOf 15 = .ok (.iand, 1) := by decide +kernel
theorem dX12_sizeOf_16 : decode cX12_sizeOf 16 = .ok (.istore_n 2, 1) := by decide +kernel
theorem dX12_sizeOf_17 : decode cX12_sizeOf 17 = .ok (.goto (-13), 3) := by decide +kernel
theorem dX12_sizeOf_20 : decode cX12_sizeOf 20 = .ok (.iload_n 1, 1) := by decide +kernel
theorem dX12_sizeOf_21 : decode cX12_sizeOf 21 = .ok (.ireturn, 1) := by decide +kernel
theorem r_X12_sizeOf_4 (E : kr_E)    : ∀ (n : Nat) (l1 : Int32) (l2 : Int32) (M : kr_M), kR kr_vi E Y_X12_sizeOf 1 4 [(1, .int l1), (2, .int l2)] [] M (f_X12_sizeOf_4 n l1 l2 M) := by
  intro n
  induction n with
  | zero => intro l1 l2 M; exact kr_none
  | succ n ih =>
    intro l1 l2 M
    rw [f_X12_sizeOf_4]
    refine kr_iload_n dX12_sizeOf_4 rfl 1 rfl ?_
    refine kr_if_eq (tgt := 20) dX12_sizeOf_5 (by decide) ?_ ?_
    · refine kr_iload_n dX12_sizeOf_20 rfl 0 rfl ?_
      exact kr_iret dX12_sizeOf_21 rfl
    · refine kr_iinc (j := 0) (v := (l1 + (1 : Int32))) (lv' := [(1, .int (l1 + (1 : Int32))), (2, .int l2)]) dX12_sizeOf_8 rfl rfl (by decide) rfl ?_
      refine kr_iload_n dX12_sizeOf_11 rfl 1 rfl ?_
      refine kr_iload_n dX12_sizeOf_12 rfl 1 rfl ?_
      refine kr_iconst (v := 1) dX12_sizeOf_13 (by decide) ?_
      refine kr_isub dX12_sizeOf_14 ?_
      refine kr_iand dX12_sizeOf_15 ?_
      refine kr_nmi (fun v1 => ?_)
      refine kr_istore_n (lv' := [(2, .int v1), (1, .int (l1 + (1 : Int32)))]) dX12_sizeOf_16 rfl (by decide) rfl ?_
      refine kr_goto (tgt := 4) dX12_sizeOf_17 (by decide) ?_
      refine kr_sub [1, 0] rfl ?_
      exact ih (l1 + (1 : Int32)) v1 M
theorem r_X12_sizeOf (E : kr_E) (p0 : Int32) (M : kr_M) : kR kr_vi E Y_X12_sizeOf 1 0 [(0, .int p0)] [] M (f_X12_sizeOf p0 M) := by
  rw [f_X12_sizeOf]
  refine kr_iconst (v := 0) dX12_sizeOf_0 (by decide) ?_
  refine kr_istore_n (lv' := [(1, .int (0 : Int32)), (0, .int p0)]) dX12_sizeOf_1 rfl (by decide) rfl ?_
  refine kr_iload_n dX12_sizeOf_2 rfl 1 rfl ?_
  refine kr_istore_n (lv' := [(2, .int p0), (1, .int (0 : Int32)), (0, .int p0)]) dX12_sizeOf_3 rfl (by decide) rfl ?_
  refine kr_sub [1, 0] rfl ?_
  exact r_X12_sizeOf_4 E _ (0 : Int32) p0 M
