theorem kc_callS {E : kr_E} {y : kr_Y} {d pc : Nat} {lv : List (Nat × Value)} {st : List Value} {S : kc_S} {z : kr_Y} {d' n i : Nat} {As : List Value} {lv0 : List (Nat × Value)} {f : Option kc_S} {k : kc_S → Option kc_S} {stk : List Value} (Z : kr_Zs z n) (hr : z.2.2.2 = none) (hd : decode y.2.1 pc = .ok (.invokestatic i, 3)) (hw : Cond.methodLink y.1.cls i z.1 ∈ kr_T) (h : kC E z d' 0 lv0 [] S f) (hstk : stk = As.reverse ++ st) (hlv : lv_args 0 As = lv0) (hln : (lg_sl As).length ≤ z.2.2.1) (hn : As.length = n) (hdd : d' < d) (hst : (st.map fun v => v.category).sum ≤ 8)
    (hk : ∀ q, kC E y d (pc + 3) lv st q (k q)) : kC E y d pc lv stk S (kc_bv f k) := by
  refine kc_goes (a := As.toArray) (fun q hf => (h q hf).1) (fun q hf q2 hq2 m2 p e s m args below meth c H locs ls n0 C hn0 hz0 hX hS hl => ?_) hk
  obtain ⟨z1, z2, z4, z7, z8, z9⟩ := Z
  have hM := kc_ofC (E := E) (S := S) z7 hlv hln h hf
  have m1 := (h q hf).1
  exact va_runS (bytes := z.2.1) (maxL := z.2.2.1) (ret := z.2.2.2) (n := n) (own := y.1.cls) (Ts := kr_W0 y) ⟨C.1, C.2.1, C.2.2.2.1, C.own, C.words⟩ hM
    (va_cwS n C.words (kr_goodIn y z z1 [.methodLink y.1.cls i z.1, .static z.1, .initialized z.1.cls] (fun w hw' => by
      simp only [List.mem_cons, List.not_mem_nil, or_false] at hw'
      rcases hw' with rfl | rfl | rfl
      · exact hw
      · exact z2
      · exact z4)) rfl rfl rfl z8 (kc_room hdd z9))
    ⟨kc_blind, fun U hU hW => ⟨rfl, kc_X.enter hW hU hX⟩⟩ rfl hn hl.1 hstk (lv_room hst) hd ⟨by show S.1 - n0 + (q.1 - S.1) ≤ q2.1 - n0; omega, by show kc_sz S.1 - kc_sz n0 + (kc_sz q.1 - kc_sz S.1) ≤ kc_sz q2.1 - kc_sz n0; omega⟩
abbrev Y_X7_init : kr_Y := (yX7_init, cX7_init, 2, none)
theorem zi_X7_init : kc_Zi Y_X7_init 1 := ⟨(kr_t 78 (by decide +kernel) rfl), rfl, (kr_t 77 (by decide +kernel) rfl), (kr_t 4 (by decide +kernel) rfl), rfl, by decide +kernel, ⟨by decide +kernel, by decide +kernel, by decide +kernel⟩, by decide⟩
theorem dX7_init_0 : decode cX7_init 0 = .ok (.aload_n 0, 1) := by decide +kernel
theorem dX7_init_1 : decode cX7_init 1 = .ok (.invokespecial 3, 3) := by decide +kernel
theorem dX7_init_4 : decode cX7_init 4 = .ok (.aload_n 0, 1) := by decide +kernel
theorem dX7_init_5 : decode cX7_init 5 = .ok (.iload_n 1, 1) := by decide +kernel
theorem dX7_init_6 : decode cX7_init 6 = .ok (.iconst 0, 1) := by decide +kernel
theorem dX7_init_7 : decode cX7_init 7 = .ok (.invokestatic 9, 3) := by decide +kernel
theorem dX7_init_10 : decode cX7_init 10 = .ok (.newarray .int, 2) := by decide +kernel
theorem dX7_init_12 : decode cX7_init 12 = .ok (.putfield 15, 3) := by decide +kernel
theorem dX7_init_15 : decode cX7_init 15 = .ok (.return_, 1) := by decide +kernel
def c_X7_init (t0 : Nat) (p1 : Int32) (S : kc_S) : Option kc_S := (if (kr_max p1 (0 : Int32)) < 0 then none else kc_al S (20, (kr_max p1 (0 : Int32)).toNatClampNeg) fun a1 S2 => (if kr_sh t0 = (7, 0) ∧ t0 < S2.1 then kr_let (kc_sr S2 t0 0 a1) (fun S3 => some S3) else none))
theorem w_X7_init (E : kr_E) (t0 : Nat) (p1 : Int32) (S : kc_S) : kC E Y_X7_init 2 0 [(0, kr_r E t0), (1, .int p1)] [] S (c_X7_init t0 p1 S) := by
  rw [c_X7_init]
  refine kc_aload_n dX7_init_0 rfl 0 rfl ?_
  refine kc_obj dX7_init_1 (kr_t 79 (by decide +kernel) rfl) (by decide) (Nat.le_of_ble_eq_true rfl) ?_
  refine kc_aload_n dX7_init_4 rfl 0 rfl ?_
  refine kc_iload_n dX7_init_5 rfl 1 rfl ?_
  refine kc_iconst (v := 0) dX7_init_6 (by decide) ?_
  refine kc_mmax dX7_init_7 (kr_t 80 (by decide +kernel) rfl) (by decide) (Nat.le_of_ble_eq_true rfl) ?_
  refine kc_newa (t := 20) (ty := .int) dX7_init_10 rfl rfl (by decide) (kr_t 102 (by decide +kernel) rfl) (by simp) (fun a1 S2 => ?_)
  refine kc_putF (ci := 7) (j := 0) dX7_init_12 (kr_t 83 (by decide +kernel) rfl) rfl (by decide) rfl rfl rfl (fun S3 => ?_)
  exact kc_vret dX7_init_15 rfl
abbrev Y_X5_init : kr_Y := (yX5_init, cX5_init, 1, none)
theorem zi_X5_init : kc_Zi Y_X5_init 0 := ⟨(kr_t 106 (by decide +kernel) rfl), rfl, (kr_t 105 (by decide +kernel) rfl), (kr_t 6 (by decide +kernel) rfl), rfl, by decide +kernel, ⟨by decide +kernel, by decide +kernel, by decide +kernel⟩, by decide⟩
theorem dX5_init_0 : decode cX5_init 0 = .ok (.aload_n 0, 1) := by decide +kernel
theorem dX5_init_1 : decode cX5_init 1 = .ok (.invokespecial 3, 3) := by decide +kernel
theorem dX5_init_4 : decode cX5_init 4 = .ok (.aload_n 0, 1) := by decide +kernel
theorem dX5_init_5 : decode cX5_init 5 = .ok (.new 9, 3) := by decide +kernel
theorem dX5_init_8 : decode cX5_init 8 = .ok (.dup, 1) := by decide +kernel
theorem dX5_init_9 : decode cX5_init 9 = .ok (.bipush 12, 2) := by decide +kernel
theorem dX5_init_11 : decode cX5_init 11 = .ok (.invokespecial 11, 3) := by decide +kernel
theorem dX5_init_14 : decode cX5_init 14 = .ok (.putfield 14, 3) := by decide +kernel
theorem dX5_init_17 : decode cX5_init 17 = .ok (.aload_n 0, 1) := by decide +kernel
theorem dX5_init_18 : decode cX5_init 18 = .ok (.new 9, 3) := by decide +kernel
theorem dX5_init_21 : decode cX5_init 21 = .ok (.dup, 1) := by decide +kernel
theorem dX5_init_22 : decode cX5_init 22 = .ok (.bipush 24, 2) := by decide +kernel
theorem dX5_init_24 : decode cX5_init 24 = .ok (.invokespecial 11, 3) := by decide +kernel
theorem dX5_init_27 : decode cX5_init 27 = .ok (.putfield 20, 3) := by decide +kernel
theorem dX5_init_30 : decode cX5_init 30 = .ok (.return_, 1) := by decide +kernel
def c_X5_init (t0 : Nat) (S : kc_S) : Option kc_S := kc_al S (7, 0) fun a1 S2 => kc_bv (c_X7_init a1 (12 : Int32) S2) fun S3 => (if kr_sh t0 = (5, 0) ∧ t0 < S3.1 then kr_let (kc_sr S3 t0 4 a1) (fun S4 => kc_al S4 (7, 0) fun a5 S6 => kc_bv (c_X7_init a5 (24 : Int32) S6) fun S7 => (if kr_sh t0 = (5, 0) ∧ t0 < S7.1 then kr_let (kc_sr S7 t0 5 a5) (fun S8 => some S8) else none)) else none)
theorem w_X5_init (E : kr_E) (t0 : Nat) (S : kc_S) : kC E Y_X5_init 3 0 [(0, kr_r E t0)] [] S (c_X5_init t0 S) := by
  rw [c_X5_init]
  refine kc_aload_n dX5_init_0 rfl 0 rfl ?_
  refine kc_obj dX5_init_1 (kr_t 107 (by decide +kernel) rfl) (by decide) (Nat.le_of_ble_eq_true rfl) ?_
  refine kc_aload_n dX5_init_4 rfl 0 rfl ?_
  refine kc_new (ci := 7) dX5_init_5 (kr_t 108 (by decide +kernel) rfl) (kr_t 75 (by decide +kernel) rfl) (kr_t 4 (by decide +kernel) rfl) (fun a1 S2 => ?_)
  refine kc_dup dX5_init_8 rfl ?_
  refine kc_bipush (v := 12) dX5_init_9 (by decide) ?_
  refine kc_callI (As := [.int (12 : Int32)]) (st := [kr_r E a1, kr_r E t0]) zi_X7_init dX5_init_11 (Or.inl (kr_t 109 (by decide +kernel) rfl)) (w_X7_init E a1 (12 : Int32) S2) rfl rfl (Nat.le_of_ble_eq_true rfl) rfl (by decide) (Nat.le_of_ble_eq_true rfl) (fun S3 => ?_)
  refine kc_putF (ci := 5) (j := 4) dX5_init_14 (kr_t 125 (by decide +kernel) rfl) rfl (by decide) rfl rfl rfl (fun S4 => ?_)
  refine kc_aload_n dX5_init_17 rfl 0 rfl ?_
  refine kc_new (ci := 7) dX5_init_18 (kr_t 108 (by decide +kernel) rfl) (kr_t 75 (by decide +kernel) rfl) (kr_t 4 (by decide +kernel) rfl) (fun a5 S6 => ?_)
  refine kc_dup dX5_init_21 rfl ?_
  refine kc_bipush (v := 24) dX5_init_22 (by decide) ?_
  refine kc_callI (As := [.int (24 : Int32)]) (st := [kr_r E a5, kr_r E t0]) zi_X7_init dX5_init_24 (Or.inl (kr_t 109 (by decide +kernel) rfl)) (w_X7_init E a5 (24 : Int32) S6) rfl rfl (Nat.le_of_ble_eq_true rfl) rfl (by decide) (Nat.le_of_ble_eq_true rfl) (fun S7 => ?_)
  refine kc_putF (ci := 5) (j := 5) dX5_init_27 (kr_t 127 (by decide +kernel) rfl) rfl (by decide) rfl rfl rfl (fun S8 => ?_)
  exact kc_vret dX5_init_30 rfl
abbrev Y_X6_init : kr_Y := (yX6_init, cX6_init, 1, none)
theorem zi_X6_init : kc_Zi Y_X6_init 0 := ⟨(kr_t 34 (by decide +kernel) rfl), rfl, (kr_t 33 (by decide +kernel) rfl), (kr_t 2 (by decide +kernel) rfl), rfl, by decide +kernel, ⟨by decide +kernel, by decide +kernel, by decide +kernel⟩, by decide⟩
theorem dX6_init_0 : decode cX6_init 0 = .ok (.aload_n 0, 1) := by decide +kernel
theorem dX6_init_1 : decode cX6_init 1 = .ok (.invokespecial 3, 3) := by decide +kernel
theorem dX6_init_4 : decode cX6_init 4 = .ok (.aload_n 0, 1) := by decide +kernel
theorem dX6_init_5 : decode cX6_init 5 = .ok (.sipush 1400, 3) := by decide +kernel
theorem dX6_init_8 : decode cX6_init 8 = .ok (.newarray .byte, 2) := by decide +kernel
theorem dX6_init_10 : decode cX6_init 10 = .ok (.putfield 9, 3) := by decide +kernel
theorem dX6_init_13 : decode cX6_init 13 = .ok (.aload_n 0, 1) := by decide +kernel
theorem dX6_init_14 : decode cX6_init 14 = .ok (.iconst (-1), 1) := by decide +kernel
theorem dX6_init_15 : decode cX6_init 15 = .ok (.putfield 15, 3) := by decide +kernel
theorem dX6_init_18 : decode cX6_init 18 = .ok (.return_, 1) := by decide +kernel
def c_X6_init (t0 : Nat) (S : kc_S) : Option kc_S := (if (1400 : Int32) < 0 then none else kc_al S (21, (1400 : Int32).toNatClampNeg) fun a1 S2 => (if kr_sh t0 = (6, 0) ∧ t0 < S2.1 then kr_let (kc_sr S2 t0 0 a1) (fun S3 => (if kr_sh t0 = (6, 0) ∧ t0 < S3.1 then kr_let (kc_si S3 t0 3 (-1 : Int32)) (fun S4 => some S4) else none)) else none))
theorem w_X6_init (E : kr_E) (t0 : Nat) (S : kc_S) : kC E Y_X6_init 2 0 [(0, kr_r E t0)] [] S (c_X6_init t0 S) := by
  rw [c_X6_init]
  refine kc_aload_n dX6_init_0 rfl 0 rfl ?_
  refine kc_obj dX6_init_1 (kr_t 35 (by decide +kernel) rfl) (by decide) (Nat.le_of_ble_eq_true rfl) ?_
  refine kc_aload_n dX6_init_4 rfl 0 rfl ?_
  refine kc_sipush (v := 1400) dX6_init_5 (by decide) ?_
  refine kc_newa (t := 21) (ty := .byte) dX6_init_8 rfl rfl (by decide) (kr_t 64 (by decide +kernel) rfl) (by simp) (fun a1 S2 => ?_)
  refine kc_putF (ci := 6) (j := 0) dX6_init_10 (kr_t 36 (by decide +kernel) rfl) rfl (by decide) rfl rfl rfl (fun S3 => ?_)
  refine kc_aload_n dX6_init_13 rfl 0 rfl ?_
  refine kc_iconst (v := -1) dX6_init_14 (by decide) ?_
  refine kc_putI (ci := 6) (j := 3) dX6_init_15 (kr_t 41 (by decide +kernel) rfl) rfl rfl (fun S4 => ?_)
  exact kc_vret dX6_init_18 rfl
abbrev Y_X2_init : kr_Y := (yX2_init, cX2_init, 2, none)
theorem zi_X2_init : kc_Zi Y_X2_init 0 := ⟨(kr_t 69 (by decide +kernel) rfl), rfl, (kr_t 68 (by decide +kernel) rfl), (kr_t 3 (by decide +kernel) rfl), rfl, by decide +kernel, ⟨by decide +kernel, by decide +kernel, by decide +kernel⟩, by decide⟩
theorem dX2_init_0 : decode cX2_init 0 = .ok (.aload_n 0, 1) := by decide +kernel
theorem dX2_init_1 : decode cX2_init 1 = .ok (.invokespecial 3, 3) := by decide +kernel
theorem dX2_init_4 : decode cX2_init 4 = .ok (.aload_n 0, 1) := by decide +kernel
theorem dX2_init_5 : decode cX2_init 5 = .ok (.bipush 6, 2) := by decide +kernel
theorem dX2_init_7 : decode cX2_init 7 = .ok (.newarray .int, 2) := by decide +kernel
theorem dX2_init_9 : decode cX2_init 9 = .ok (.putfield 9, 3) := by decide +kernel
theorem dX2_init_12 : decode cX2_init 12 = .ok (.aload_n 0, 1) := by decide +kernel
theorem dX2_init_13 : decode cX2_init 13 = .ok (.bipush 6, 2) := by decide +kernel
theorem dX2_init_15 : decode cX2_init 15 = .ok (.newarray .int, 2) := by decide +kernel
theorem dX2_init_17 : decode cX2_init 17 = .ok (.putfield 15, 3) := by decide +kernel
theorem dX2_init_20 : decode cX2_init 20 = .ok (.aload_n 0, 1) := by decide +kernel
theorem dX2_init_21 : decode cX2_init 21 = .ok (.bipush 10, 2) := by decide +kernel
theorem dX2_init_23 : decode cX2_init 23 = .ok (.anewarray 18, 3) := by decide +kernel
theorem dX2_init_26 : decode cX2_init 26 = .ok (.putfield 20, 3) := by decide +kernel
theorem dX2_init_29 : decode cX2_init 29 = .ok (.aload_n 0, 1) := by decide +kernel
theorem dX2_init_30 : decode cX2_init 30 = .ok (.bipush 10, 2) := by decide +kernel
theorem dX2_init_32 : decode cX2_init 32 = .ok (.newarray .int, 2) := by decide +kernel
theorem dX2_init_34 : decode cX2_init 34 = .ok (.putfield 24, 3) := by decide +kernel
theorem dX2_init_37 : decode cX2_init 37 = .ok (.aload_n 0, 1) := by decide +kernel
theorem dX2_init_38 : decode cX2_init 38 = .ok (.bipush 6, 2) := by decide +kernel
theorem dX2_init_40 : decode cX2_init 40 = .ok (.anewarray 27, 3) := by decide +kernel
theorem dX2_init_43 : decode cX2_init 43 = .ok (.putfield 29, 3) := by decide +kernel
theorem dX2_init_46 : decode cX2_init 46 = .ok (.aload_n 0, 1) := by decide +kernel
theorem dX2_init_47 : decode cX2_init 47 = .ok (.bipush 6, 2) := by decide +kernel
theorem dX2_init_49 : decode cX2_init 49 = .ok (.newarray .int, 2) := by decide +kernel
theorem dX2_init_51 : decode cX2_init 51 = .ok (.putfield 33, 3) := by decide +kernel
theorem dX2_init_54 : decode cX2_init 54 = .ok (.aload_n 0, 1) := by decide +kernel
theorem dX2_init_55 : decode cX2_init 55 = .ok (.bipush 6, 2) := by decide +kernel
theorem dX2_init_57 : decode cX2_init 57 = .ok (.newarray .int, 2) := by decide +kernel
theorem dX2_init_59 : decode cX2_init 59 = .ok (.putfield 36, 3) := by decide +kernel
theorem dX2_init_62 : decode cX2_init 62 = .ok (.aload_n 0, 1) := by decide +kernel
theorem dX2_init_63 : decode cX2_init 63 = .ok (.bipush 6, 2) := by decide +kernel
theorem dX2_init_65 : decode cX2_init 65 = .ok (.newarray .int, 2) := by decide +kernel
theorem dX2_init_67 : decode cX2_init 67 = .ok (.putfield 39, 3) := by decide +kernel
theorem dX2_init_70 : decode cX2_init 70 = .ok (.aload_n 0, 1) := by decide +kernel
theorem dX2_init_71 : decode cX2_init 71 = .ok (.bipush 6, 2) := by decide +kernel
theorem dX2_init_73 : decode cX2_init 73 = .ok (.newarray .int, 2) := by decide +kernel
theorem dX2_init_75 : decode cX2_init 75 = .ok (.putfield 42, 3) := by decide +kernel
theorem dX2_init_78 : decode cX2_init 78 = .ok (.aload_n 0, 1) := by decide +kernel
theorem dX2_init_79 : decode cX2_init 79 = .ok (.sipush 160, 3) := by decide +kernel
theorem dX2_init_82 : decode cX2_init 82 = .ok (.newarray .int, 2) := by decide +kernel
theorem dX2_init_84 : decode cX2_init 84 = .ok (.putfield 45, 3) := by decide +kernel
theorem dX2_init_87 : decode cX2_init 87 = .ok (.iconst 0, 1) := by decide +kernel
theorem dX2_init_88 : decode cX2_init 88 = .ok (.istore_n 1, 1) := by decide +kernel
theorem dX2_init_89 : decode cX2_init 89 = .ok (.iload_n 1, 1) := by decide +kernel
theorem dX2_init_90 : decode cX2_init 90 = .ok (.bipush 10, 2) := by decide +kernel
theorem dX2_init_92 : decode cX2_init 92 = .ok (.if_icmp .ge 23, 3) := by decide +kernel
theorem dX2_init_95 : decode cX2_init 95 = .ok (.aload_n 0, 1) := by decide +kernel
theorem dX2_init_96 : decode cX2_init 96 = .ok (.getfield 20, 3) := by decide +kernel
theorem dX2_init_99 : decode cX2_init 99 = .ok (.iload_n 1, 1) := by decide +kernel
theorem dX2_init_100 : decode cX2_init 100 = .ok (.new 18, 3) := by decide +kernel
theorem dX2_init_103 : decode cX2_init 103 = .ok (.dup, 1) := by decide +kernel
theorem dX2_init_104 : decode cX2_init 104 = .ok (.iconst 4, 1) := by decide +kernel
theorem dX2_init_105 : decode cX2_init 105 = .ok (.invokespecial 48, 3) := by decide +kernel
theorem dX2_init_108 : decode cX2_init 108 = .ok (.aastore, 1) := by decide +kernel
theorem dX2_init_109 : decode cX2_init 109 = .ok (.iinc 1 1, 3) := by decide +kernel
theorem dX2_init_112 : decode cX2_init 112 = .ok (.goto (-23), 3) := by decide +kernel
theorem dX2_init_115 : decode cX2_init 115 = .ok (.iconst 0, 1) := by decide +kernel
theorem dX2_init_116 : decode cX2_init 116 = .ok (.istore_n 1, 1) := by decide +kernel
theorem dX2_init_117 : decode cX2_init 117 = .ok (.iload_n 1, 1) := by decide +kernel
theorem dX2_init_118 : decode cX2_init 118 = .ok (.bipush 6, 2) := by decide +kernel
theorem dX2_init_120 : decode cX2_init 120 = .ok (.if_icmp .ge 22, 3) := by decide +kernel
theorem dX2_init_123 : decode cX2_init 123 = .ok (.aload_n 0, 1) := by decide +kernel
theorem dX2_init_124 : decode cX2_init 124 = .ok (.getfield 29, 3) := by decide +kernel
theorem dX2_init_127 : decode cX2_init 127 = .ok (.iload_n 1, 1) := by decide +kernel
theorem dX2_init_128 : decode cX2_init 128 = .ok (.new 27, 3) := by decide +kernel
theorem dX2_init_131 : decode cX2_init 131 = .ok (.dup, 1) := by decide +kernel
theorem dX2_init_132 : decode cX2_init 132 = .ok (.invokespecial 51, 3) := by decide +kernel
theorem dX2_init_135 : decode cX2_init 135 = .ok (.aastore, 1) := by decide +kernel
theorem dX2_init_136 : decode cX2_init 136 = .ok (.iinc 1 1, 3) := by decide +kernel
theorem dX2_init_139 : decode cX2_init 139 = .ok (.goto (-22), 3) := by decide +kernel
theorem dX2_init_142 : decode cX2_init 142 = .ok (.return_, 1) := by decide +kernel
def c_X2_init_117 (l0 : Nat) : Nat → Int32 → kc_S → Option kc_S
  | 0, _, _ => none
  | n + 1, l1, S => (if (6 : Int32) ≤ l1 then some S else kc_rd S l0 14 2 fun b31 => kc_al S (5, 0) fun a32 S33 => kc_bv (c_X5_init a32 S33) fun S34 => (if kr_sh b31 = (25, 6) ∧ b31 < S34.1 ∧ kr_in l1 6 ∧ kr_sh a32 = (5, 0) ∧ a32 < S34.1 then kr_let (kc_sr S34 b31 l1.toNatClampNeg a32) (fun S35 => (c_X2_init_117 l0 n (l1 + (1 : Int32)) S35)) else none))
def c_X2_init_89 (l0 : Nat) : Nat → Int32 → kc_S → Option kc_S
  | 0, _, _ => none
  | n + 1, l1, S => (if (10 : Int32) ≤ l1 then (c_X2_init_117 l0 kr_F (0 : Int32) S) else kc_rd S l0 12 2 fun b36 => kc_al S (7, 0) fun a37 S38 => kc_bv (c_X7_init a37 (4 : Int32) S38) fun S39 => (if kr_sh b36 = (24, 10) ∧ b36 < S39.1 ∧ kr_in l1 10 ∧ kr_sh a37 = (7, 0) ∧ a37 < S39.1 then kr_let (kc_sr S39 b36 l1.toNatClampNeg a37) (fun S40 => (c_X2_init_89 l0 n (l1 + (1 : Int32)) S40)) else none))
def c_X2_init (t0 : Nat) (S : kc_S) : Option kc_S := (if (6 : Int32) < 0 then none else kc_al S (20, (6 : Int32).toNatClampNeg) fun a1 S2 => (if kr_sh t0 = (2, 0) ∧ t0 < S2.1 then kr_let (kc_sr S2 t0 10 a1) (fun S3 => (if (6 : Int32) < 0 then none else kc_al S3 (20, (6 : Int32).toNatClampNeg) fun a4 S5 => (if kr_sh t0 = (2, 0) ∧ t0 < S5.1 then kr_let (kc_sr S5 t0 11 a4) (fun S6 => (if (10 : Int32) < 0 then none else kc_al S6 (24, (10 : Int32).toNatClampNeg) fun a7 S8 => (if kr_sh t0 = (2, 0) ∧ t0 < S8.1 then kr_let (kc_sr S8 t0 12 a7) (fun S9 => (if (10 : Int32) < 0 then none else kc_al S9 (20, (10 : Int32).toNatClampNeg) fun a10 S11 => (if kr_sh t0 = (2, 0) ∧ t0 < S11.1 then kr_let (kc_sr S11 t0 13 a10) (fun S12 => (if (6 : Int32) < 0 then none else kc_al S12 (25, (6 : Int32).toNatClampNeg) fun a13 S14 => (if kr_sh t0 = (2, 0) ∧ t0 < S14.1 then kr_let (kc_sr S14 t0 14 a13) (fun S15 => (if (6 : Int32) < 0 then none else kc_al S15 (20, (6 : Int32).toNatClampNeg) fun a16 S17 => (if kr_sh t0 = (2, 0) ∧ t0 < S17.1 then kr_let (kc_sr S17 t0 15 a16) (fun S18 => (if (6 : Int32) < 0 then none else kc_al S18 (20, (6 : Int32).toNatClampNeg) fun a19 S20 => (if kr_sh t0 = (2, 0) ∧ t0 < S20.1 then kr_let (kc_sr S20 t0 16 a19) (fun S21 => (if (6 : Int32) < 0 then none else kc_al S21 (20, (6 : Int32).toNatClampNeg) fun a22 S23 => (if kr_sh t0 = (2, 0) ∧ t0 < S23.1 then kr_let (kc_sr S23 t0 17 a22) (fun S24 => (if (6 : Int32) < 0 then none else kc_al S24 (20, (6 : Int32).toNatClampNeg) fun a25 S26 => (if kr_sh t0 = (2, 0) ∧ t0 < S26.1 then kr_let (kc_sr S26 t0 18 a25) (fun S27 => (if (160 : Int32) < 0 then none else kc_al S27 (20, (160 : Int32).toNatClampNeg) fun a28 S29 => (if kr_sh t0 = (2, 0) ∧ t0 < S29.1 then kr_let (kc_sr S29 t0 19 a28) (fun S30 => (c_X2_init_89 t0 kr_F (0 : Int32) S30)) else none))) else none))) else none))) else none))) else none))) else none))) else none))) else none))) else none))) else none))
theorem w_X2_init_117 (E : kr_E) (l0 : Nat) : ∀ (n : Nat) (l1 : Int32) (S : kc_S), kC E Y_X2_init 4 117 [(0, kr_r E l0), (1, .int l1)] [] S (c_X2_init_117 l0 n l1 S) := by
  intro n
  induction n with
  | zero => intro l1 S; exact kc_none
  | succ n ih =>
    intro l1 S
    rw [c_X2_init_117]
    refine kc_iload_n dX2_init_117 rfl 1 rfl ?_
    refine kc_bipush (v := 6) dX2_init_118 (by decide) ?_
    refine kc_icmp_ge (tgt := 142) dX2_init_120 (by decide) ?_ ?_
    · exact kc_vret dX2_init_142 rfl
    · refine kc_aload_n dX2_init_123 rfl 0 rfl ?_
      refine kc_getR (ci := 2) (j := 14) dX2_init_124 (kr_t 198 (by decide +kernel) rfl) rfl (by decide) (fun b31 => ?_)
      refine kc_iload_n dX2_init_127 rfl 1 rfl ?_
      refine kc_new (ci := 5) dX2_init_128 (kr_t 73 (by decide +kernel) rfl) (kr_t 103 (by decide +kernel) rfl) (kr_t 6 (by decide +kernel) rfl) (fun a32 S33 => ?_)
      refine kc_dup dX2_init_131 rfl ?_
      refine kc_callI (As := []) (st := [kr_r E a32, .int l1, kr_r E b31]) zi_X5_init dX2_init_132 (Or.inr (by decide)) (w_X5_init E a32 S33) rfl rfl (Nat.le_of_ble_eq_true rfl) rfl (by decide) (Nat.le_of_ble_eq_true rfl) (fun S34 => ?_)
      refine kc_aast (ci := 5) dX2_init_135 (by decide) rfl (fun S35 => ?_)
      refine kc_iinc (j := 1) (v := (l1 + (1 : Int32))) (lv' := [(1, .int (l1 + (1 : Int32))), (0, kr_r E l0)]) dX2_init_136 rfl rfl (by decide) rfl ?_
      refine kc_goto (tgt := 117) dX2_init_139 (by decide) ?_
      refine kc_sub [1, 0] rfl ?_
      exact ih (l1 + (1 : Int32)) S35
theorem w_X2_init_89 (E : kr_E) (l0 : Nat) : ∀ (n : Nat) (l1 : Int32) (S : kc_S), kC E Y_X2_init 4 89 [(0, kr_r E l0), (1, .int l1)] [] S (c_X2_init_89 l0 n l1 S) := by
  intro n
  induction n with
  | zero => intro l1 S; exact kc_none
  | succ n ih =>
    intro l1 S
    rw [c_X2_init_89]
    refine kc_iload_n dX2_init_89 rfl 1 rfl ?_
    refine kc_bipush (v := 10) dX2_init_90 (by decide) ?_
    refine kc_icmp_ge (tgt := 115) dX2_init_92 (by decide) ?_ ?_
    · refine kc_iconst (v := 0) dX2_init_115 (by decide) ?_
      refine kc_istore_n (lv' := [(1, .int (0 : Int32)), (0, kr_r E l0)]) dX2_init_116 rfl (by decide) rfl ?_
      refine kc_sub [1, 0] rfl ?_
      exact w_X2_init_117 E l0 _ (0 : Int32) S
    · refine kc_aload_n dX2_init_95 rfl 0 rfl ?_
      refine kc_getR (ci := 2) (j := 12) dX2_init_96 (kr_t 187 (by decide +kernel) rfl) rfl (by decide) (fun b36 => ?_)
      refine kc_iload_n dX2_init_99 rfl 1 rfl ?_
      refine kc_new (ci := 7) dX2_init_100 (kr_t 71 (by decide +kernel) rfl) (kr_t 75 (by decide +kernel) rfl) (kr_t 4 (by decide +kernel) rfl) (fun a37 S38 => ?_)
      refine kc_dup dX2_init_103 rfl ?_
      refine kc_iconst (v := 4) dX2_init_104 (by decide) ?_
      refine kc_callI (As := [.int (4 : Int32)]) (st := [kr_r E a37, .int l1, kr_r E b36]) zi_X7_init dX2_init_105 (Or.inl (kr_t 76 (by decide +kernel) rfl)) (w_X7_init E a37 (4 : Int32) S38) rfl rfl (Nat.le_of_ble_eq_true rfl) rfl (by decide) (Nat.le_of_ble_eq_true rfl) (fun S39 => ?_)
      refine kc_aast (ci := 7) dX2_init_108 (by decide) rfl (fun S40 => ?_)
      refine kc_iinc (j := 1) (v := (l1 + (1 : Int32))) (lv' := [(1, .int (l1 + (1 : Int32))), (0, kr_r E l0)]) dX2_init_109 rfl rfl (by decide) rfl ?_
      refine kc_goto (tgt := 89) dX2_init_112 (by decide) ?_
      refine kc_sub [1, 0] rfl ?_
      exact ih (l1 + (1 : Int32)) S40
theorem w_X2_init (E : kr_E) (t0 : Nat) (S : kc_S) : kC E Y_X2_init 4 0 [(0, kr_r E t0)] [] S (c_X2_init t0 S) := by
  rw [c_X2_init]
  refine kc_aload_n dX2_init_0 rfl 0 rfl ?_
  refine kc_obj dX2_init_1 (kr_t 70 (by decide +kernel) rfl) (by decide) (Nat.le_of_ble_eq_true rfl) ?_
  refine kc_aload_n dX2_init_4 rfl 0 rfl ?_
  refine kc_bipush (v := 6) dX2_init_5 (by decide) ?_
  refine kc_newa (t := 20) (ty := .int) dX2_init_7 rfl rfl (by decide) (kr_t 102 (by decide +kernel) rfl) (by simp) (fun a1 S2 => ?_)
  refine kc_putF (ci := 2) (j := 10) dX2_init_9 (kr_t 179 (by decide +kernel) rfl) rfl (by decide) rfl rfl rfl (fun S3 => ?_)
  refine kc_aload_n dX2_init_12 rfl 0 rfl ?_
  refine kc_bipush (v := 6) dX2_init_13 (by decide) ?_
  refine kc_newa (t := 20) (ty := .int) dX2_init_15 rfl rfl (by decide) (kr_t 102 (by decide +kernel) rfl) (by simp) (fun a4 S5 => ?_)
  refine kc_putF (ci := 2) (j := 11) dX2_init_17 (kr_t 183 (by decide +kernel) rfl) rfl (by decide) rfl rfl rfl (fun S6 => ?_)
  refine kc_aload_n dX2_init_20 rfl 0 rfl ?_
  refine kc_bipush (v := 10) dX2_init_21 (by decide) ?_
  refine kc_newq (t := 24) dX2_init_23 rfl (by decide) (kr_t 71 (by decide +kernel) rfl) (fun _ h => h.2.1) (fun a7 S8 => ?_)
  refine kc_putF (ci := 2) (j := 12) dX2_init_26 (kr_t 187 (by decide +kernel) rfl) rfl (by decide) rfl rfl rfl (fun S9 => ?_)
  refine kc_aload_n dX2_init_29 rfl 0 rfl ?_
  refine kc_bipush (v := 10) dX2_init_30 (by decide) ?_
  refine kc_newa (t := 20) (ty := .int) dX2_init_32 rfl rfl (by decide) (kr_t 102 (by decide +kernel) rfl) (by simp) (fun a10 S11 => ?_)
  refine kc_putF (ci := 2) (j := 13) dX2_init_34 (kr_t 193 (by decide +kernel) rfl) rfl (by decide) rfl rfl rfl (fun S12 => ?_)
  refine kc_aload_n dX2_init_37 rfl 0 rfl ?_
  refine kc_bipush (v := 6) dX2_init_38 (by decide) ?_
  refine kc_newq (t := 25) dX2_init_40 rfl (by decide) (kr_t 73 (by decide +kernel) rfl) (fun _ h => h.2.2.1) (fun a13 S14 => ?_)
  refine kc_putF (ci := 2) (j := 14) dX2_init_43 (kr_t 198 (by decide +kernel) rfl) rfl (by decide) rfl rfl rfl (fun S15 => ?_)
  refine kc_aload_n dX2_init_46 rfl 0 rfl ?_
  refine kc_bipush (v := 6) dX2_init_47 (by decide) ?_
  refine kc_newa (t := 20) (ty := .int) dX2_init_49 rfl rfl (by decide) (kr_t 102 (by decide +kernel) rfl) (by simp) (fun a16 S17 => ?_)
  refine kc_putF (ci := 2) (j := 15) dX2_init_51 (kr_t 204 (by decide +kernel) rfl) rfl (by decide) rfl rfl rfl (fun S18 => ?_)
  refine kc_aload_n dX2_init_54 rfl 0 rfl ?_
  refine kc_bipush (v := 6) dX2_init_55 (by decide) ?_
  refine kc_newa (t := 20) (ty := .int) dX2_init_57 rfl rfl (by decide) (kr_t 102 (by decide +kernel) rfl) (by simp) (fun a19 S20 => ?_)
  refine kc_putF (ci := 2) (j := 16) dX2_init_59 (kr_t 209 (by decide +kernel) rfl) rfl (by decide) rfl rfl rfl (fun S21 => ?_)
  refine kc_aload_n dX2_init_62 rfl 0 rfl ?_
  refine kc_bipush (v := 6) dX2_init_63 (by decide) ?_
  refine kc_newa (t := 20) (ty := .int) dX2_init_65 rfl rfl (by decide) (kr_t 102 (by decide +kernel) rfl) (by simp) (fun a22 S23 => ?_)
  refine kc_putF (ci := 2) (j := 17) dX2_init_67 (kr_t 214 (by decide +kernel) rfl) rfl (by decide) rfl rfl rfl (fun S24 => ?_)
  refine kc_aload_n dX2_init_70 rfl 0 rfl ?_
  refine kc_bipush (v := 6) dX2_init_71 (by decide) ?_
  refine kc_newa (t := 20) (ty := .int) dX2_init_73 rfl rfl (by decide) (kr_t 102 (by decide +kernel) rfl) (by simp) (fun a25 S26 => ?_)
  refine kc_putF (ci := 2) (j := 18) dX2_init_75 (kr_t 216 (by decide +kernel) rfl) rfl (by decide) rfl rfl rfl (fun S27 => ?_)
  refine kc_aload_n dX2_init_78 rfl 0 rfl ?_
  refine kc_sipush (v := 160) dX2_init_79 (by decide) ?_
  refine kc_newa (t := 20) (ty := .int) dX2_init_82 rfl rfl (by decide) (kr_t 102 (by decide +kernel) rfl) (by simp) (fun a28 S29 => ?_)
  refine kc_putF (ci := 2) (j := 19) dX2_init_84 (kr_t 218 (by decide +kernel) rfl) rfl (by decide) rfl rfl rfl (fun S30 => ?_)
  refine kc_iconst (v := 0) dX2_init_87 (by decide) ?_
  refine kc_istore_n (lv' := [(1, .int (0 : Int32)), (0, kr_r E t0)]) dX2_init_88 rfl (by decide) rfl ?_
  refine kc_sub [1, 0] rfl ?_
  exact w_X2_init_89 E t0 _ (0 : Int32) S30
abbrev Y_X4_init : kr_Y := (yX4_init, cX4_init, 2, none)
theorem zi_X4_init : kc_Zi Y_X4_init 1 := ⟨(kr_t 270 (by decide +kernel) rfl), rfl, (kr_t 269 (by decide +kernel) rfl), (kr_t 8 (by decide +kernel) rfl), rfl, by decide +kernel, ⟨by decide +kernel, by decide +kernel, by decide +kernel⟩, by decide⟩
theorem dX4_init_0 : decode cX4_init 0 = .ok (.aload_n 0, 1) := by decide +kernel
theorem dX4_init_1 : decode cX4_init 1 = .ok (.invokespecial 3, 3) := by decide +kernel
theorem dX4_init_4 : decode cX4_init 4 = .ok (.aload_n 0, 1) := by decide +kernel
theorem dX4_init_5 : decode cX4_init 5 = .ok (.new 9, 3) := by decide +kernel
theorem dX4_init_8 : decode cX4_init 8 = .ok (.dup, 1) := by decide +kernel
theorem dX4_init_9 : decode cX4_init 9 = .ok (.bipush 24, 2) := by decide +kernel
theorem dX4_init_11 : decode cX4_init 11 = .ok (.invokespecial 11, 3) := by decide +kernel
theorem dX4_init_14 : decode cX4_init 14 = .ok (.putfield 14, 3) := by decide +kernel
theorem dX4_init_17 : decode cX4_init 17 = .ok (.aload_n 0, 1) := by decide +kernel
theorem dX4_init_18 : decode cX4_init 18 = .ok (.bipush 25, 2) := by decide +kernel
theorem dX4_init_20 : decode cX4_init 20 = .ok (.newarray .int, 2) := by decide +kernel
theorem dX4_init_22 : decode cX4_init 22 = .ok (.putfield 20, 3) := by decide +kernel
theorem dX4_init_25 : decode cX4_init 25 = .ok (.aload_n 0, 1) := by decide +kernel
theorem dX4_init_26 : decode cX4_init 26 = .ok (.bipush 25, 2) := by decide +kernel
theorem dX4_init_28 : decode cX4_init 28 = .ok (.newarray .int, 2) := by decide +kernel
theorem dX4_init_30 : decode cX4_init 30 = .ok (.putfield 24, 3) := by decide +kernel
theorem dX4_init_33 : decode cX4_init 33 = .ok (.aload_n 0, 1) := by decide +kernel
theorem dX4_init_34 : decode cX4_init 34 = .ok (.bipush 25, 2) := by decide +kernel
theorem dX4_init_36 : decode cX4_init 36 = .ok (.newarray .int, 2) := by decide +kernel
theorem dX4_init_38 : decode cX4_init 38 = .ok (.putfield 27, 3) := by decide +kernel
theorem dX4_init_41 : decode cX4_init 41 = .ok (.aload_n 0, 1) := by decide +kernel
theorem dX4_init_42 : decode cX4_init 42 = .ok (.bipush 25, 2) := by decide +kernel
theorem dX4_init_44 : decode cX4_init 44 = .ok (.newarray .int, 2) := by decide +kernel
theorem dX4_init_46 : decode cX4_init 46 = .ok (.putfield 30, 3) := by decide +kernel
theorem dX4_init_49 : decode cX4_init 49 = .ok (.aload_n 0, 1) := by decide +kernel
theorem dX4_init_50 : decode cX4_init 50 = .ok (.sipush 144, 3) := by decide +kernel
theorem dX4_init_53 : decode cX4_init 53 = .ok (.newarray .int, 2) := by decide +kernel
theorem dX4_init_55 : decode cX4_init 55 = .ok (.putfield 33, 3) := by decide +kernel
theorem dX4_init_58 : decode cX4_init 58 = .ok (.aload_n 0, 1) := by decide +kernel
theorem dX4_init_59 : decode cX4_init 59 = .ok (.sipush 950, 3) := by decide +kernel
theorem dX4_init_62 : decode cX4_init 62 = .ok (.newarray .long, 2) := by decide +kernel
theorem dX4_init_64 : decode cX4_init 64 = .ok (.putfield 36, 3) := by decide +kernel
theorem dX4_init_67 : decode cX4_init 67 = .ok (.aload_n 0, 1) := by decide +kernel
theorem dX4_init_68 : decode cX4_init 68 = .ok (.aload_n 1, 1) := by decide +kernel
theorem dX4_init_69 : decode cX4_init 69 = .ok (.putfield 40, 3) := by decide +kernel
theorem dX4_init_72 : decode cX4_init 72 = .ok (.return_, 1) := by decide +kernel
def c_X4_init (t0 : Nat) (p1 : Nat) (S : kc_S) : Option kc_S := kc_al S (7, 0) fun a1 S2 => kc_bv (c_X7_init a1 (24 : Int32) S2) fun S3 => (if kr_sh t0 = (4, 0) ∧ t0 < S3.1 then kr_let (kc_sr S3 t0 1 a1) (fun S4 => (if (25 : Int32) < 0 then none else kc_al S4 (20, (25 : Int32).toNatClampNeg) fun a5 S6 => (if kr_sh t0 = (4, 0) ∧ t0 < S6.1 then kr_let (kc_sr S6 t0 2 a5) (fun S7 => (if (25 : Int32) < 0 then none else kc_al S7 (20, (25 : Int32).toNatClampNeg) fun a8 S9 => (if kr_sh t0 = (4, 0) ∧ t0 < S9.1 then kr_let (kc_sr S9 t0 3 a8) (fun S10 => (if (25 : Int32) < 0 then none else kc_al S10 (20, (25 : Int32).toNatClampNeg) fun a11 S12 => (if kr_sh t0 = (4, 0) ∧ t0 < S12.1 then kr_let (kc_sr S12 t0 4 a11) (fun S13 => (if (25 : Int32) < 0 then none else kc_al S13 (20, (25 : Int32).toNatClampNeg) fun a14 S15 => (if kr_sh t0 = (4, 0) ∧ t0 < S15.1 then kr_let (kc_sr S15 t0 5 a14) (fun S16 => (if (144 : Int32) < 0 then none else kc_al S16 (20, (144 : Int32).toNatClampNeg) fun a17 S18 => (if kr_sh t0 = (4, 0) ∧ t0 < S18.1 then kr_let (kc_sr S18 t0 6 a17) (fun S19 => (if (950 : Int32) < 0 then none else kc_al S19 (23, (950 : Int32).toNatClampNeg) fun a20 S21 => (if kr_sh t0 = (4, 0) ∧ t0 < S21.1 then kr_let (kc_sr S21 t0 7 a20) (fun S22 => (if kr_sh t0 = (4, 0) ∧ t0 < S22.1 then kr_let (kc_sr S22 t0 0 p1) (fun S23 => some S23) else none)) else none))) else none))) else none))) else none))) else none))) else none))) else none)
theorem w_X4_init (E : kr_E) (t0 : Nat) (p1 : Nat) (S : kc_S) : kC E Y_X4_init 3 0 [(0, kr_r E t0), (1, kr_r E p1)] [] S (c_X4_init t0 p1 S) := by
  rw [c_X4_init]
  refine kc_aload_n dX4_init_0 rfl 0 rfl ?_
  refine kc_obj dX4_init_1 (kr_t 271 (by decide +kernel) rfl) (by decide) (Nat.le_of_ble_eq_true rfl) ?_
  refine kc_aload_n dX4_init_4 rfl 0 rfl ?_
  refine kc_new (ci := 7) dX4_init_5 (kr_t 272 (by decide +kernel) rfl) (kr_t 75 (by decide +kernel) rfl) (kr_t 4 (by decide +kernel) rfl) (fun a1 S2 => ?_)
  refine kc_dup dX4_init_8 rfl ?_
  refine kc_bipush (v := 24) dX4_init_9 (by decide) ?_
  refine kc_callI (As := [.int (24 : Int32)]) (st := [kr_r E a1, kr_r E t0]) zi_X7_init dX4_init_11 (Or.inl (kr_t 273 (by decide +kernel) rfl)) (w_X7_init E a1 (24 : Int32) S2) rfl rfl (Nat.le_of_ble_eq_true rfl) rfl (by decide) (Nat.le_of_ble_eq_true rfl) (fun S3 => ?_)
  refine kc_putF (ci := 4) (j := 1) dX4_init_14 (kr_t 275 (by decide +kernel) rfl) rfl (by decide) rfl rfl rfl (fun S4 => ?_)
  refine kc_aload_n dX4_init_17 rfl 0 rfl ?_
  refine kc_bipush (v := 25) dX4_init_18 (by decide) ?_
  refine kc_newa (t := 20) (ty := .int) dX4_init_20 rfl rfl (by decide) (kr_t 102 (by decide +kernel) rfl) (by simp) (fun a5 S6 => ?_)
  refine kc_putF (ci := 4) (j := 2) dX4_init_22 (kr_t 277 (by decide +kernel) rfl) rfl (by decide) rfl rfl rfl (fun S7 => ?_)
  refine kc_aload_n dX4_init_25 rfl 0 rfl ?_
  refine kc_bipush (v := 25) dX4_init_26 (by decide) ?_
  refine kc_newa (t := 20) (ty := .int) dX4_init_28 rfl rfl (by decide) (kr_t 102 (by decide +kernel) rfl) (by simp) (fun a8 S9 => ?_)
  refine kc_putF (ci := 4) (j := 3) dX4_init_30 (kr_t 279 (by decide +kernel) rfl) rfl (by decide) rfl rfl rfl (fun S10 => ?_)
  refine kc_aload_n dX4_init_33 rfl 0 rfl ?_
  refine kc_bipush (v := 25) dX4_init_34 (by decide) ?_
  refine kc_newa (t := 20) (ty := .int) dX4_init_36 rfl rfl (by decide) (kr_t 102 (by decide +kernel) rfl) (by simp) (fun a11 S12 => ?_)
  refine kc_putF (ci := 4) (j := 4) dX4_init_38 (kr_t 281 (by decide +kernel) rfl) rfl (by decide) rfl rfl rfl (fun S13 => ?_)
  refine kc_aload_n dX4_init_41 rfl 0 rfl ?_
  refine kc_bipush (v := 25) dX4_init_42 (by decide) ?_
  refine kc_newa (t := 20) (ty := .int) dX4_init_44 rfl rfl (by decide) (kr_t 102 (by decide +kernel) rfl) (by simp) (fun a14 S15 => ?_)
  refine kc_putF (ci := 4) (j := 5) dX4_init_46 (kr_t 283 (by decide +kernel) rfl) rfl (by decide) rfl rfl rfl (fun S16 => ?_)
  refine kc_aload_n dX4_init_49 rfl 0 rfl ?_
  refine kc_sipush (v := 144) dX4_init_50 (by decide) ?_
  refine kc_newa (t := 20) (ty := .int) dX4_init_53 rfl rfl (by decide) (kr_t 102 (by decide +kernel) rfl) (by simp) (fun a17 S18 => ?_)
  refine kc_putF (ci := 4) (j := 6) dX4_init_55 (kr_t 284 (by decide +kernel) rfl) rfl (by decide) rfl rfl rfl (fun S19 => ?_)
  refine kc_aload_n dX4_init_58 rfl 0 rfl ?_
  refine kc_sipush (v := 950) dX4_init_59 (by decide) ?_
  refine kc_newa (t := 23) (ty := .long) dX4_init_62 rfl rfl (by decide) (kr_t 324 (by decide +kernel) rfl) (by simp) (fun a20 S21 => ?_)
  refine kc_putF (ci := 4) (j := 7) dX4_init_64 (kr_t 285 (by decide +kernel) rfl) rfl (by decide) rfl rfl rfl (fun S22 => ?_)
  refine kc_aload_n dX4_init_67 rfl 0 rfl ?_
  refine kc_aload_n dX4_init_68 rfl 1 rfl ?_
  refine kc_putR (ci := 4) (j := 0) dX4_init_69 (kr_t 274 (by decide +kernel) rfl) rfl (by decide) rfl (fun S23 => ?_)
  exact kc_vret dX4_init_72 rfl
abbrev Y_X3_init : kr_Y := (yX3_init, cX3_init, 1, none)
theorem zi_X3_init : kc_Zi Y_X3_init 0 := ⟨(kr_t 329 (by decide +kernel) rfl), rfl, (kr_t 328 (by decide +kernel) rfl), (kr_t 9 (by decide +kernel) rfl), rfl, by decide +kernel, ⟨by decide +kernel, by decide +kernel, by decide +kernel⟩, by decide⟩
theorem dX3_init_0 : decode cX3_init 0 = .ok (.aload_n 0, 1) := by decide +kernel
theorem dX3_init_1 : decode cX3_init 1 = .ok (.invokespecial 3, 3) := by decide +kernel
theorem dX3_init_4 : decode cX3_init 4 = .ok (.aload_n 0, 1) := by decide +kernel
theorem dX3_init_5 : decode cX3_init 5 = .ok (.bipush 25, 2) := by decide +kernel
theorem dX3_init_7 : decode cX3_init 7 = .ok (.newarray .int, 2) := by decide +kernel
theorem dX3_init_9 : decode cX3_init 9 = .ok (.putfield 9, 3) := by decide +kernel
theorem dX3_init_12 : decode cX3_init 12 = .ok (.aload_n 0, 1) := by decide +kernel
theorem dX3_init_13 : decode cX3_init 13 = .ok (.sipush 600, 3) := by decide +kernel
theorem dX3_init_16 : decode cX3_init 16 = .ok (.newarray .int, 2) := by decide +kernel
theorem dX3_init_18 : decode cX3_init 18 = .ok (.putfield 15, 3) := by decide +kernel
theorem dX3_init_21 : decode cX3_init 21 = .ok (.return_, 1) := by decide +kernel
def c_X3_init (t0 : Nat) (S : kc_S) : Option kc_S := (if (25 : Int32) < 0 then none else kc_al S (20, (25 : Int32).toNatClampNeg) fun a1 S2 => (if kr_sh t0 = (3, 0) ∧ t0 < S2.1 then kr_let (kc_sr S2 t0 0 a1) (fun S3 => (if (600 : Int32) < 0 then none else kc_al S3 (20, (600 : Int32).toNatClampNeg) fun a4 S5 => (if kr_sh t0 = (3, 0) ∧ t0 < S5.1 then kr_let (kc_sr S5 t0 1 a4) (fun S6 => some S6) else none))) else none))
theorem w_X3_init (E : kr_E) (t0 : Nat) (S : kc_S) : kC E Y_X3_init 2 0 [(0, kr_r E t0)] [] S (c_X3_init t0 S) := by
  rw [c_X3_init]
  refine kc_aload_n dX3_init_0 rfl 0 rfl ?_
  refine kc_obj dX3_init_1 (kr_t 330 (by decide +kernel) rfl) (by decide) (Nat.le_of_ble_eq_true rfl) ?_
  refine kc_aload_n dX3_init_4 rfl 0 rfl ?_
  refine kc_bipush (v := 25) dX3_init_5 (by decide) ?_
  refine kc_newa (t := 20) (ty := .int) dX3_init_7 rfl rfl (by decide) (kr_t 102 (by decide +kernel) rfl) (by simp) (fun a1 S2 => ?_)
  refine kc_putF (ci := 3) (j := 0) dX3_init_9 (kr_t 331 (by decide +kernel) rfl) rfl (by decide) rfl rfl rfl (fun S3 => ?_)
  refine kc_aload_n dX3_init_12 rfl 0 rfl ?_
  refine kc_sipush (v := 600) dX3_init_13 (by decide) ?_
  refine kc_newa (t := 20) (ty := .int) dX3_init_16 rfl rfl (by decide) (kr_t 102 (by decide +kernel) rfl) (by simp) (fun a4 S5 => ?_)
  refine kc_putF (ci := 3) (j := 1) dX3_init_18 (kr_t 333 (by decide +kernel) rfl) rfl (by decide) rfl rfl rfl (fun S6 => ?_)
  exact kc_vret dX3_init_21 rfl
abbrev Y_X10_init : kr_Y := (yX10_init, cX10_init, 1, none)
theorem zi_X10_init : kc_Zi Y_X10_init 0 := ⟨(kr_t 343 (by decide +kernel) rfl), rfl, (kr_t 342 (by decide +kernel) rfl), (kr_t 10 (by decide +kernel) rfl), rfl, by decide +kernel, ⟨by decide +kernel, by decide +kernel, by decide +kernel⟩, by decide⟩
theorem dX10_init_0 : decode cX10_init 0 = .ok (.aload_n 0, 1) := by decide +kernel
theorem dX10_init_1 : decode cX10_init 1 = .ok (.invokespecial 3, 3) := by decide +kernel
theorem dX10_init_4 : decode cX10_init 4 = .ok (.aload_n 0, 1) := by decide +kernel
theorem dX10_init_5 : decode cX10_init 5 = .ok (.bipush 10, 2) := by decide +kernel
theorem dX10_init_7 : decode cX10_init 7 = .ok (.newarray .int, 2) := by decide +kernel
theorem dX10_init_9 : decode cX10_init 9 = .ok (.putfield 9, 3) := by decide +kernel
theorem dX10_init_12 : decode cX10_init 12 = .ok (.aload_n 0, 1) := by decide +kernel
theorem dX10_init_13 : decode cX10_init 13 = .ok (.sipush 501, 3) := by decide +kernel
theorem dX10_init_16 : decode cX10_init 16 = .ok (.newarray .int, 2) := by decide +kernel
theorem dX10_init_18 : decode cX10_init 18 = .ok (.putfield 15, 3) := by decide +kernel
theorem dX10_init_21 : decode cX10_init 21 = .ok (.return_, 1) := by decide +kernel
def c_X10_init (t0 : Nat) (S : kc_S) : Option kc_S := (if (10 : Int32) < 0 then none else kc_al S (20, (10 : Int32).toNatClampNeg) fun a1 S2 => (if kr_sh t0 = (10, 0) ∧ t0 < S2.1 then kr_let (kc_sr S2 t0 0 a1) (fun S3 => (if (501 : Int32) < 0 then none else kc_al S3 (20, (501 : Int32).toNatClampNeg) fun a4 S5 => (if kr_sh t0 = (10, 0) ∧ t0 < S5.1 then kr_let (kc_sr S5 t0 1 a4) (fun S6 => some S6) else none))) else none))
theorem w_X10_init (E : kr_E) (t0 : Nat) (S : kc_S) : kC E Y_X10_init 2 0 [(0, kr_r E t0)] [] S (c_X10_init t0 S) := by
  rw [c_X10_init]
  refine kc_aload_n dX10_init_0 rfl 0 rfl ?_
  refine kc_obj dX10_init_1 (kr_t 344 (by decide +kernel) rfl) (by decide) (Nat.le_of_ble_eq_true rfl) ?_
  refine kc_aload_n dX10_init_4 rfl 0 rfl ?_
  refine kc_bipush (v := 10) dX10_init_5 (by decide) ?_
  refine kc_newa (t := 20) (ty := .int) dX10_init_7 rfl rfl (by decide) (kr_t 102 (by decide +kernel) rfl) (by simp) (fun a1 S2 => ?_)
  refine kc_putF (ci := 10) (j := 0) dX10_init_9 (kr_t 345 (by decide +kernel) rfl) rfl (by decide) rfl rfl rfl (fun S3 => ?_)
  refine kc_aload_n dX10_init_12 rfl 0 rfl ?_
  refine kc_sipush (v := 501) dX10_init_13 (by decide) ?_
  refine kc_newa (t := 20) (ty := .int) dX10_init_16 rfl rfl (by decide) (kr_t 102 (by decide +kernel) rfl) (by simp) (fun a4 S5 => ?_)
  refine kc_putF (ci := 10) (j := 1) dX10_init_18 (kr_t 346 (by decide +kernel) rfl) rfl (by decide) rfl rfl rfl (fun S6 => ?_)
  exact kc_vret dX10_init_21 rfl
abbrev Y_X0_init : kr_Y := (yX0_init, cX0_init, 1, none)
theorem zi_X0_init : kc_Zi Y_X0_init 0 := ⟨(kr_t 356 (by decide +kernel) rfl), rfl, (kr_t 355 (by decide +kernel) rfl), (kr_t 11 (by decide +kernel) rfl), rfl, by decide +kernel, ⟨by decide +kernel, by decide +kernel, by decide +kernel⟩, by decide⟩
theorem dX0_init_0 : decode cX0_init 0 = .ok (.aload_n 0, 1) := by decide +kernel
theorem dX0_init_1 : decode cX0_init 1 = .ok (.invokespecial 3, 3) := by decide +kernel
theorem dX0_init_4 : decode cX0_init 4 = .ok (.aload_n 0, 1) := by decide +kernel
theorem dX0_init_5 : decode cX0_init 5 = .ok (.bipush 36, 2) := by decide +kernel
theorem dX0_init_7 : decode cX0_init 7 = .ok (.newarray .int, 2) := by decide +kernel
theorem dX0_init_9 : decode cX0_init 9 = .ok (.putfield 9, 3) := by decide +kernel
theorem dX0_init_12 : decode cX0_init 12 = .ok (.aload_n 0, 1) := by decide +kernel
theorem dX0_init_13 : decode cX0_init 13 = .ok (.sipush 384, 3) := by decide +kernel
theorem dX0_init_16 : decode cX0_init 16 = .ok (.newarray .int, 2) := by decide +kernel
theorem dX0_init_18 : decode cX0_init 18 = .ok (.putfield 15, 3) := by decide +kernel
theorem dX0_init_21 : decode cX0_init 21 = .ok (.aload_n 0, 1) := by decide +kernel
theorem dX0_init_22 : decode cX0_init 22 = .ok (.bipush 25, 2) := by decide +kernel
theorem dX0_init_24 : decode cX0_init 24 = .ok (.newarray .int, 2) := by decide +kernel
theorem dX0_init_26 : decode cX0_init 26 = .ok (.putfield 18, 3) := by decide +kernel
theorem dX0_init_29 : decode cX0_init 29 = .ok (.return_, 1) := by decide +kernel
def c_X0_init (t0 : Nat) (S : kc_S) : Option kc_S := (if (36 : Int32) < 0 then none else kc_al S (20, (36 : Int32).toNatClampNeg) fun a1 S2 => (if kr_sh t0 = (0, 0) ∧ t0 < S2.1 then kr_let (kc_sr S2 t0 1 a1) (fun S3 => (if (384 : Int32) < 0 then none else kc_al S3 (20, (384 : Int32).toNatClampNeg) fun a4 S5 => (if kr_sh t0 = (0, 0) ∧ t0 < S5.1 then kr_let (kc_sr S5 t0 2 a4) (fun S6 => (if (25 : Int32) < 0 then none else kc_al S6 (20, (25 : Int32).toNatClampNeg) fun a7 S8 => (if kr_sh t0 = (0, 0) ∧ t0 < S8.1 then kr_let (kc_sr S8 t0 3 a7) (fun S9 => some S9) else none))) else none))) else none))
theorem w_X0_init (E : kr_E) (t0 : Nat) (S : kc_S) : kC E Y_X0_init 2 0 [(0, kr_r E t0)] [] S (c_X0_init t0 S) := by
  rw [c_X0_init]
  refine kc_aload_n dX0_init_0 rfl 0 rfl ?_
  refine kc_obj dX0_init_1 (kr_t 357 (by decide +kernel) rfl) (by decide) (Nat.le_of_ble_eq_true rfl) ?_
  refine kc_aload_n dX0_init_4 rfl 0 rfl ?_
  refine kc_bipush (v := 36) dX0_init_5 (by decide) ?_
  refine kc_newa (t := 20) (ty := .int) dX0_init_7 rfl rfl (by decide) (kr_t 102 (by decide +kernel) rfl) (by simp) (fun a1 S2 => ?_)
  refine kc_putF (ci := 0) (j := 1) dX0_init_9 (kr_t 359 (by decide +kernel) rfl) rfl (by decide) rfl rfl rfl (fun S3 => ?_)
  refine kc_aload_n dX0_init_12 rfl 0 rfl ?_
  refine kc_sipush (v := 384) dX0_init_13 (by decide) ?_
  refine kc_newa (t := 20) (ty := .int) dX0_init_16 rfl rfl (by decide) (kr_t 102 (by decide +kernel) rfl) (by simp) (fun a4 S5 => ?_)
  refine kc_putF (ci := 0) (j := 2) dX0_init_18 (kr_t 360 (by decide +kernel) rfl) rfl (by decide) rfl rfl rfl (fun S6 => ?_)
  refine kc_aload_n dX0_init_21 rfl 0 rfl ?_
  refine kc_bipush (v := 25) dX0_init_22 (by decide) ?_
  refine kc_newa (t := 20) (ty := .int) dX0_init_24 rfl rfl (by decide) (kr_t 102 (by decide +kernel) rfl) (by simp) (fun a7 S8 => ?_)
  refine kc_putF (ci := 0) (j := 3) dX0_init_26 (kr_t 361 (by decide +kernel) rfl) rfl (by decide) rfl rfl rfl (fun S9 => ?_)
  exact kc_vret dX0_init_29 rfl
abbrev Y_X8_init : kr_Y := (yX8_init, cX8_init, 1, none)
theorem zi_X8_init : kc_Zi Y_X8_init 0 := ⟨(kr_t 375 (by decide +kernel) rfl), rfl, (kr_t 374 (by decide +kernel) rfl), (kr_t 12 (by decide +kernel) rfl), rfl, by decide +kernel, ⟨by decide +kernel, by decide +kernel, by decide +kernel⟩, by decide⟩
theorem dX8_init_0 : decode cX8_init 0 = .ok (.aload_n 0, 1) := by decide +kernel
theorem dX8_init_1 : decode cX8_init 1 = .ok (.invokespecial 3, 3) := by decide +kernel
theorem dX8_init_4 : decode cX8_init 4 = .ok (.aload_n 0, 1) := by decide +kernel
theorem dX8_init_5 : decode cX8_init 5 = .ok (.bipush 64, 2) := by decide +kernel
theorem dX8_init_7 : decode cX8_init 7 = .ok (.newarray .int, 2) := by decide +kernel
theorem dX8_init_9 : decode cX8_init 9 = .ok (.putfield 9, 3) := by decide +kernel
theorem dX8_init_12 : decode cX8_init 12 = .ok (.aload_n 0, 1) := by decide +kernel
theorem dX8_init_13 : decode cX8_init 13 = .ok (.bipush 64, 2) := by decide +kernel
theorem dX8_init_15 : decode cX8_init 15 = .ok (.newarray .int, 2) := by decide +kernel
theorem dX8_init_17 : decode cX8_init 17 = .ok (.putfield 15, 3) := by decide +kernel
theorem dX8_init_20 : decode cX8_init 20 = .ok (.aload_n 0, 1) := by decide +kernel
theorem dX8_init_21 : decode cX8_init 21 = .ok (.bipush 7, 2) := by decide +kernel
theorem dX8_init_23 : decode cX8_init 23 = .ok (.newarray .int, 2) := by decide +kernel
theorem dX8_init_25 : decode cX8_init 25 = .ok (.putfield 18, 3) := by decide +kernel
theorem dX8_init_28 : decode cX8_init 28 = .ok (.return_, 1) := by decide +kernel
def c_X8_init (t0 : Nat) (S : kc_S) : Option kc_S := (if (64 : Int32) < 0 then none else kc_al S (20, (64 : Int32).toNatClampNeg) fun a1 S2 => (if kr_sh t0 = (8, 0) ∧ t0 < S2.1 then kr_let (kc_sr S2 t0 0 a1) (fun S3 => (if (64 : Int32) < 0 then none else kc_al S3 (20, (64 : Int32).toNatClampNeg) fun a4 S5 => (if kr_sh t0 = (8, 0) ∧ t0 < S5.1 then kr_let (kc_sr S5 t0 1 a4) (fun S6 => (if (7 : Int32) < 0 then none else kc_al S6 (20, (7 : Int32).toNatClampNeg) fun a7 S8 => (if kr_sh t0 = (8, 0) ∧ t0 < S8.1 then kr_let (kc_sr S8 t0 2 a7) (fun S9 => some S9) else none))) else none))) else none))
theorem w_X8_init (E : kr_E) (t0 : Nat) (S : kc_S) : kC E Y_X8_init 2 0 [(0, kr_r E t0)] [] S (c_X8_init t0 S) := by
  rw [c_X8_init]
  refine kc_aload_n dX8_init_0 rfl 0 rfl ?_
  refine kc_obj dX8_init_1 (kr_t 376 (by decide +kernel) rfl) (by decide) (Nat.le_of_ble_eq_true rfl) ?_
  refine kc_aload_n dX8_init_4 rfl 0 rfl ?_
  refine kc_bipush (v := 64) dX8_init_5 (by decide) ?_
  refine kc_newa (t := 20) (ty := .int) dX8_init_7 rfl rfl (by decide) (kr_t 102 (by decide +kernel) rfl) (by simp) (fun a1 S2 => ?_)
  refine kc_putF (ci := 8) (j := 0) dX8_init_9 (kr_t 377 (by decide +kernel) rfl) rfl (by decide) rfl rfl rfl (fun S3 => ?_)
  refine kc_aload_n dX8_init_12 rfl 0 rfl ?_
  refine kc_bipush (v := 64) dX8_init_13 (by decide) ?_
  refine kc_newa (t := 20) (ty := .int) dX8_init_15 rfl rfl (by decide) (kr_t 102 (by decide +kernel) rfl) (by simp) (fun a4 S5 => ?_)
  refine kc_putF (ci := 8) (j := 1) dX8_init_17 (kr_t 379 (by decide +kernel) rfl) rfl (by decide) rfl rfl rfl (fun S6 => ?_)
  refine kc_aload_n dX8_init_20 rfl 0 rfl ?_
  refine kc_bipush (v := 7) dX8_init_21 (by decide) ?_
  refine kc_newa (t := 20) (ty := .int) dX8_init_23 rfl rfl (by decide) (kr_t 102 (by decide +kernel) rfl) (by simp) (fun a7 S8 => ?_)
  refine kc_putF (ci := 8) (j := 2) dX8_init_25 (kr_t 381 (by decide +kernel) rfl) rfl (by decide) rfl rfl rfl (fun S9 => ?_)
  exact kc_vret dX8_init_28 rfl
abbrev Y_X9_init : kr_Y := (yX9_init, cX9_init, 1, none)
theorem zi_X9_init : kc_Zi Y_X9_init 0 := ⟨(kr_t 393 (by decide +kernel) rfl), rfl, (kr_t 392 (by decide +kernel) rfl), (kr_t 13 (by decide +kernel) rfl), rfl, by decide +kernel, ⟨by decide +kernel, by decide +kernel, by decide +kernel⟩, by decide⟩
theorem dX9_init_0 : decode cX9_init 0 = .ok (.aload_n 0, 1) := by decide +kernel
theorem dX9_init_1 : decode cX9_init 1 = .ok (.invokespecial 3, 3) := by decide +kernel
theorem dX9_init_4 : decode cX9_init 4 = .ok (.aload_n 0, 1) := by decide +kernel
theorem dX9_init_5 : decode cX9_init 5 = .ok (.bipush 6, 2) := by decide +kernel
theorem dX9_init_7 : decode cX9_init 7 = .ok (.newarray .int, 2) := by decide +kernel
theorem dX9_init_9 : decode cX9_init 9 = .ok (.putfield 9, 3) := by decide +kernel
theorem dX9_init_12 : decode cX9_init 12 = .ok (.aload_n 0, 1) := by decide +kernel
theorem dX9_init_13 : decode cX9_init 13 = .ok (.bipush 36, 2) := by decide +kernel
theorem dX9_init_15 : decode cX9_init 15 = .ok (.newarray .int, 2) := by decide +kernel
theorem dX9_init_17 : decode cX9_init 17 = .ok (.putfield 15, 3) := by decide +kernel
theorem dX9_init_20 : decode cX9_init 20 = .ok (.return_, 1) := by decide +kernel
def c_X9_init (t0 : Nat) (S : kc_S) : Option kc_S := (if (6 : Int32) < 0 then none else kc_al S (20, (6 : Int32).toNatClampNeg) fun a1 S2 => (if kr_sh t0 = (9, 0) ∧ t0 < S2.1 then kr_let (kc_sr S2 t0 0 a1) (fun S3 => (if (36 : Int32) < 0 then none else kc_al S3 (20, (36 : Int32).toNatClampNeg) fun a4 S5 => (if kr_sh t0 = (9, 0) ∧ t0 < S5.1 then kr_let (kc_sr S5 t0 1 a4) (fun S6 => some S6) else none))) else none))
theorem w_X9_init (E : kr_E) (t0 : Nat) (S : kc_S) : kC E Y_X9_init 2 0 [(0, kr_r E t0)] [] S (c_X9_init t0 S) := by
  rw [c_X9_init]
  refine kc_aload_n dX9_init_0 rfl 0 rfl ?_
  refine kc_obj dX9_init_1 (kr_t 394 (by decide +kernel) rfl) (by decide) (Nat.le_of_ble_eq_true rfl) ?_
  refine kc_aload_n dX9_init_4 rfl 0 rfl ?_
  refine kc_bipush (v := 6) dX9_init_5 (by decide) ?_
  refine kc_newa (t := 20) (ty := .int) dX9_init_7 rfl rfl (by decide) (kr_t 102 (by decide +kernel) rfl) (by simp) (fun a1 S2 => ?_)
  refine kc_putF (ci := 9) (j := 0) dX9_init_9 (kr_t 395 (by decide +kernel) rfl) rfl (by decide) rfl rfl rfl (fun S3 => ?_)
  refine kc_aload_n dX9_init_12 rfl 0 rfl ?_
  refine kc_bipush (v := 36) dX9_init_13 (by decide) ?_
  refine kc_newa (t := 20) (ty := .int) dX9_init_15 rfl rfl (by decide) (kr_t 102 (by decide +kernel) rfl) (by simp) (fun a4 S5 => ?_)
  refine kc_putF (ci := 9) (j := 1) dX9_init_17 (kr_t 396 (by decide +kernel) rfl) rfl (by decide) rfl rfl rfl (fun S6 => ?_)
  exact kc_vret dX9_init_20 rfl
abbrev Y_X1_init : kr_Y := (yX1_init, cX1_init, 1, none)
theorem zi_X1_init : kc_Zi Y_X1_init 0 := ⟨(kr_t 406 (by decide +kernel) rfl), rfl, (kr_t 405 (by decide +kernel) rfl), (kr_t 14 (by decide +kernel) rfl), rfl, by decide +kernel, ⟨by decide +kernel, by decide +kernel, by decide +kernel⟩, by decide⟩
theorem dX1_init_0 : decode cX1_init 0 = .ok (.aload_n 0, 1) := by decide +kernel
theorem dX1_init_1 : decode cX1_init 1 = .ok (.invokespecial 3, 3) := by decide +kernel
theorem dX1_init_4 : decode cX1_init 4 = .ok (.aload_n 0, 1) := by decide +kernel
theorem dX1_init_5 : decode cX1_init 5 = .ok (.bipush 64, 2) := by decide +kernel
theorem dX1_init_7 : decode cX1_init 7 = .ok (.newarray .int, 2) := by decide +kernel
theorem dX1_init_9 : decode cX1_init 9 = .ok (.putfield 9, 3) := by decide +kernel
theorem dX1_init_12 : decode cX1_init 12 = .ok (.aload_n 0, 1) := by decide +kernel
theorem dX1_init_13 : decode cX1_init 13 = .ok (.bipush 64, 2) := by decide +kernel
theorem dX1_init_15 : decode cX1_init 15 = .ok (.newarray .int, 2) := by decide +kernel
theorem dX1_init_17 : decode cX1_init 17 = .ok (.putfield 15, 3) := by decide +kernel
theorem dX1_init_20 : decode cX1_init 20 = .ok (.aload_n 0, 1) := by decide +kernel
theorem dX1_init_21 : decode cX1_init 21 = .ok (.bipush 64, 2) := by decide +kernel
theorem dX1_init_23 : decode cX1_init 23 = .ok (.newarray .int, 2) := by decide +kernel
theorem dX1_init_25 : decode cX1_init 25 = .ok (.putfield 18, 3) := by decide +kernel
theorem dX1_init_28 : decode cX1_init 28 = .ok (.aload_n 0, 1) := by decide +kernel
theorem dX1_init_29 : decode cX1_init 29 = .ok (.bipush 64, 2) := by decide +kernel
theorem dX1_init_31 : decode cX1_init 31 = .ok (.newarray .int, 2) := by decide +kernel
theorem dX1_init_33 : decode cX1_init 33 = .ok (.putfield 21, 3) := by decide +kernel
theorem dX1_init_36 : decode cX1_init 36 = .ok (.return_, 1) := by decide +kernel
def c_X1_init (t0 : Nat) (S : kc_S) : Option kc_S := (if (64 : Int32) < 0 then none else kc_al S (20, (64 : Int32).toNatClampNeg) fun a1 S2 => (if kr_sh t0 = (1, 0) ∧ t0 < S2.1 then kr_let (kc_sr S2 t0 1 a1) (fun S3 => (if (64 : Int32) < 0 then none else kc_al S3 (20, (64 : Int32).toNatClampNeg) fun a4 S5 => (if kr_sh t0 = (1, 0) ∧ t0 < S5.1 then kr_let (kc_sr S5 t0 2 a4) (fun S6 => (if (64 : Int32) < 0 then none else kc_al S6 (20, (64 : Int32).toNatClampNeg) fun a7 S8 => (if kr_sh t0 = (1, 0) ∧ t0 < S8.1 then kr_let (kc_sr S8 t0 3 a7) (fun S9 => (if (64 : Int32) < 0 then none else kc_al S9 (20, (64 : Int32).toNatClampNeg) fun a10 S11 => (if kr_sh t0 = (1, 0) ∧ t0 < S11.1 then kr_let (kc_sr S11 t0 4 a10) (fun S12 => some S12) else none))) else none))) else none))) else none))
theorem w_X1_init (E : kr_E) (t0 : Nat) (S : kc_S) : kC E Y_X1_init 2 0 [(0, kr_r E t0)] [] S (c_X1_init t0 S) := by
  rw [c_X1_init]
  refine kc_aload_n dX1_init_0 rfl 0 rfl ?_
  refine kc_obj dX1_init_1 (kr_t 407 (by decide +kernel) rfl) (by decide) (Nat.le_of_ble_eq_true rfl) ?_
  refine kc_aload_n dX1_init_4 rfl 0 rfl ?_
  refine kc_bipush (v := 64) dX1_init_5 (by decide) ?_
  refine kc_newa (t := 20) (ty := .int) dX1_init_7 rfl rfl (by decide) (kr_t 102 (by decide +kernel) rfl) (by simp) (fun a1 S2 => ?_)
  refine kc_putF (ci := 1) (j := 1) dX1_init_9 (kr_t 409 (by decide +kernel) rfl) rfl (by decide) rfl rfl rfl (fun S3 => ?_)
  refine kc_aload_n dX1_init_12 rfl 0 rfl ?_
  refine kc_bipush (v := 64) dX1_init_13 (by decide) ?_
  refine kc_newa (t := 20) (ty := .int) dX1_init_15 rfl rfl (by decide) (kr_t 102 (by decide +kernel) rfl) (by simp) (fun a4 S5 => ?_)
  refine kc_putF (ci := 1) (j := 2) dX1_init_17 (kr_t 410 (by decide +kernel) rfl) rfl (by decide) rfl rfl rfl (fun S6 => ?_)
  refine kc_aload_n dX1_init_20 rfl 0 rfl ?_
  refine kc_bipush (v := 64) dX1_init_21 (by decide) ?_
  refine kc_newa (t := 20) (ty := .int) dX1_init_23 rfl rfl (by decide) (kr_t 102 (by decide +kernel) rfl) (by simp) (fun a7 S8 => ?_)
  refine kc_putF (ci := 1) (j := 3) dX1_init_25 (kr_t 411 (by decide +kernel) rfl) rfl (by decide) rfl rfl rfl (fun S9 => ?_)
  refine kc_aload_n dX1_init_28 rfl 0 rfl ?_
  refine kc_bipush (v := 64) dX1_init_29 (by decide) ?_
  refine kc_newa (t := 20) (ty := .int) dX1_init_31 rfl rfl (by decide) (kr_t 102 (by decide +kernel) rfl) (by simp) (fun a10 S11 => ?_)
  refine kc_putF (ci := 1) (j := 4) dX1_init_33 (kr_t 412 (by decide +kernel) rfl) rfl (by decide) rfl rfl rfl (fun S12 => ?_)
  exact kc_vret dX1_init_36 rfl
theorem dC7_fill_53178_0 : decode cJ7_fill_53178 0 = .ok (.iconst 0, 1) := by decide +kernel
theorem dC7_fill_53178_1 : decode cJ7_fill_53178 1 = .ok (.istore_n 2, 1) := by decide +kernel
theorem dC7_fill_53178_2 : decode cJ7_fill_53178 2 = .ok (.aload_n 0, 1) := by decide +kernel
theorem dC7_fill_53178_3 : decode cJ7_fill_53178 3 = .ok (.arraylength, 1) := by decide +kernel
theorem dC7_fill_53178_4 : decode cJ7_fill_53178 4 = .ok (.istore_n 3, 1) := by decide +kernel
theorem dC7_fill_53178_5 : decode cJ7_fill_53178 5 = .ok (.iload_n 2, 1) := by decide +kernel
theorem dC7_fill_53178_6 : decode cJ7_fill_53178 6 = .ok (.iload_n 3, 1) := by decide +kernel
theorem dC7_fill_53178_7 : decode cJ7_fill_53178 7 = .ok (.if_icmp .ge 13, 3) := by decide +kernel
theorem dC7_fill_53178_10 : decode cJ7_fill_53178 10 = .ok (.aload_n 0, 1) := by decide +kernel
theorem dC7_fill_53178_11 : decode cJ7_fill_53178 11 = .ok (.iload_n 2, 1) := by decide +kernel
theorem dC7_fill_53178_12 : decode cJ7_fill_53178 12 = .ok (.iload_n 1, 1) := by decide +kernel
theorem dC7_fill_53178_13 : decode cJ7_fill_53178 13 = .ok (.iastore, 1) := by decide +kernel
theorem dC7_fill_53178_14 : decode cJ7_fill_53178 14 = .ok (.iinc 2 1, 3) := by decide +kernel
theorem dC7_fill_53178_17 : decode cJ7_fill_53178 17 = .ok (.goto (-12), 3) := by decide +kernel
theorem dC7_fill_53178_20 : decode cJ7_fill_53178 20 = .ok (.return_, 1) := by decide +kernel
def c_J7_fill_53178_5 (l0 : Nat) (l1 : Int32) (l3 : Int32) : Nat → Int32 → kc_S → Option kc_S
  | 0, _, _ => none
  | n + 1, l2, S => (if l3 ≤ l2 then some S else (if kr_sh l0 = (20, (kr_len l0)) ∧ l0 < S.1 ∧ kr_in l2 (kr_len l0) then kr_let (kc_si S l0 l2.toNatClampNeg l1) (fun S1 => (c_J7_fill_53178_5 l0 l1 l3 n (l2 + (1 : Int32)) S1)) else none))
def c_J7_fill_53178 (p0 : Nat) (p1 : Int32) (S : kc_S) : Option kc_S := (if kr_sh p0 = (20, (kr_len p0)) ∧ p0 < S.1 then (c_J7_fill_53178_5 p0 p1 (Int32.ofNat (kr_len p0)) kr_F (0 : Int32) S) else none)
theorem w_J7_fill_53178_5 (E : kr_E) (l0 : Nat) (l1 : Int32) (l3 : Int32) : ∀ (n : Nat) (l2 : Int32) (S : kc_S), kC E Y_J7_fill_53178 1 5 [(0, kr_r E l0), (1, .int l1), (2, .int l2), (3, .int l3)] [] S (c_J7_fill_53178_5 l0 l1 l3 n l2 S) := by
  intro n
  induction n with
  | zero => intro l2 S; exact kc_none
  | succ n ih =>
    intro l2 S
    rw [c_J7_fill_53178_5]
    refine kc_iload_n dC7_fill_53178_5 rfl 2 rfl ?_
    refine kc_iload_n dC7_fill_53178_6 rfl 3 rfl ?_
    refine kc_icmp_ge (tgt := 20) dC7_fill_53178_7 (by decide) ?_ ?_
    · exact kc_vret dC7_fill_53178_20 rfl
    · refine kc_aload_n dC7_fill_53178_10 rfl 0 rfl ?_
      refine kc_iload_n dC7_fill_53178_11 rfl 2 rfl ?_
      refine kc_iload_n dC7_fill_53178_12 rfl 1 rfl ?_
      refine kc_iast dC7_fill_53178_13 (fun S1 => ?_)
      refine kc_iinc (j := 2) (v := (l2 + (1 : Int32))) (lv' := [(2, .int (l2 + (1 : Int32))), (0, kr_r E l0), (1, .int l1), (3, .int l3)]) dC7_fill_53178_14 rfl rfl (by decide) rfl ?_
      refine kc_goto (tgt := 5) dC7_fill_53178_17 (by decide) ?_
      refine kc_sub [1, 2, 0, 3] rfl ?_
      exact ih (l2 + (1 : Int32)) S1
theorem w_J7_fill_53178 (E : kr_E) (p0 : Nat) (p1 : Int32) (S : kc_S) : kC E Y_J7_fill_53178 1 0 [(0, kr_r E p0), (1, .int p1)] [] S (c_J7_fill_53178 p0 p1 S) := by
  rw [c_J7_fill_53178]
  refine kc_iconst (v := 0) dC7_fill_53178_0 (by decide) ?_
  refine kc_istore_n (lv' := [(2, .int (0 : Int32)), (0, kr_r E p0), (1, .int p1)]) dC7_fill_53178_1 rfl (by decide) rfl ?_
  refine kc_aload_n dC7_fill_53178_2 rfl 1 rfl ?_
  refine kc_alen dC7_fill_53178_3 ?_
  refine kc_istore_n (lv' := [(3, .int (Int32.ofNat (kr_len p0))), (2, .int (0 : Int32)), (0, kr_r E p0), (1, .int p1)]) dC7_fill_53178_4 rfl (by decide) rfl ?_
  refine kc_sub [2, 3, 1, 0] rfl ?_
  exact w_J7_fill_53178_5 E p0 p1 (Int32.ofNat (kr_len p0)) _ (0 : Int32) S
abbrev Y_X11_init : kr_Y := (yX11_init, cX11_init, 2, none)
theorem zi_X11_init : kc_Zi Y_X11_init 0 := ⟨(kr_t 26 (by decide +kernel) rfl), rfl, (kr_t 25 (by decide +kernel) rfl), (kr_t 1 (by decide +kernel) rfl), rfl, by decide +kernel, ⟨by decide +kernel, by decide +kernel, by decide +kernel⟩, by decide⟩
theorem dX11_init_0 : decode cX11_init 0 = .ok (.aload_n 0, 1) := by decide +kernel
theorem dX11_init_1 : decode cX11_init 1 = .ok (.invokespecial 1, 3) := by decide +kernel
theorem dX11_init_4 : decode cX11_init 4 = .ok (.aload_n 0, 1) := by decide +kernel
theorem dX11_init_5 : decode cX11_init 5 = .ok (.new 7, 3) := by decide +kernel
theorem dX11_init_8 : decode cX11_init 8 = .ok (.dup, 1) := by decide +kernel
theorem dX11_init_9 : decode cX11_init 9 = .ok (.invokespecial 9, 3) := by decide +kernel
theorem dX11_init_12 : decode cX11_init 12 = .ok (.putfield 10, 3) := by decide +kernel
theorem dX11_init_15 : decode cX11_init 15 = .ok (.aload_n 0, 1) := by decide +kernel
theorem dX11_init_16 : decode cX11_init 16 = .ok (.new 16, 3) := by decide +kernel
theorem dX11_init_19 : decode cX11_init 19 = .ok (.dup, 1) := by decide +kernel
theorem dX11_init_20 : decode cX11_init 20 = .ok (.invokespecial 18, 3) := by decide +kernel
theorem dX11_init_23 : decode cX11_init 23 = .ok (.putfield 19, 3) := by decide +kernel
theorem dX11_init_26 : decode cX11_init 26 = .ok (.aload_n 0, 1) := by decide +kernel
theorem dX11_init_27 : decode cX11_init 27 = .ok (.new 16, 3) := by decide +kernel
theorem dX11_init_30 : decode cX11_init 30 = .ok (.dup, 1) := by decide +kernel
theorem dX11_init_31 : decode cX11_init 31 = .ok (.invokespecial 18, 3) := by decide +kernel
theorem dX11_init_34 : decode cX11_init 34 = .ok (.putfield 23, 3) := by decide +kernel
theorem dX11_init_37 : decode cX11_init 37 = .ok (.aload_n 0, 1) := by decide +kernel
theorem dX11_init_38 : decode cX11_init 38 = .ok (.iconst 3, 1) := by decide +kernel
theorem dX11_init_39 : decode cX11_init 39 = .ok (.anewarray 16, 3) := by decide +kernel
theorem dX11_init_42 : decode cX11_init 42 = .ok (.putfield 26, 3) := by decide +kernel
theorem dX11_init_45 : decode cX11_init 45 = .ok (.iconst 0, 1) := by decide +kernel
theorem dX11_init_46 : decode cX11_init 46 = .ok (.istore_n 1, 1) := by decide +kernel
theorem dX11_init_47 : decode cX11_init 47 = .ok (.iload_n 1, 1) := by decide +kernel
theorem dX11_init_48 : decode cX11_init 48 = .ok (.iconst 3, 1) := by decide +kernel
theorem dX11_init_49 : decode cX11_init 49 = .ok (.if_icmp .ge 22, 3) := by decide +kernel
theorem dX11_init_52 : decode cX11_init 52 = .ok (.aload_n 0, 1) := by decide +kernel
theorem dX11_init_53 : decode cX11_init 53 = .ok (.getfield 26, 3) := by decide +kernel
theorem dX11_init_56 : decode cX11_init 56 = .ok (.iload_n 1, 1) := by decide +kernel
theorem dX11_init_57 : decode cX11_init 57 = .ok (.new 16, 3) := by decide +kernel
theorem dX11_init_60 : decode cX11_init 60 = .ok (.dup, 1) := by decide +kernel
theorem dX11_init_61 : decode cX11_init 61 = .ok (.invokespecial 18, 3) := by decide +kernel
theorem dX11_init_64 : decode cX11_init 64 = .ok (.aastore, 1) := by decide +kernel
theorem dX11_init_65 : decode cX11_init 65 = .ok (.iinc 1 1, 3) := by decide +kernel
theorem dX11_init_68 : decode cX11_init 68 = .ok (.goto (-21), 3) := by decide +kernel
theorem dX11_init_71 : decode cX11_init 71 = .ok (.aload_n 0, 1) := by decide +kernel
theorem dX11_init_72 : decode cX11_init 72 = .ok (.iconst 3, 1) := by decide +kernel
theorem dX11_init_73 : decode cX11_init 73 = .ok (.newarray .boolean, 2) := by decide +kernel
theorem dX11_init_75 : decode cX11_init 75 = .ok (.putfield 30, 3) := by decide +kernel
theorem dX11_init_78 : decode cX11_init 78 = .ok (.aload_n 0, 1) := by decide +kernel
theorem dX11_init_79 : decode cX11_init 79 = .ok (.sipush 240, 3) := by decide +kernel
theorem dX11_init_82 : decode cX11_init 82 = .ok (.newarray .long, 2) := by decide +kernel
theorem dX11_init_84 : decode cX11_init 84 = .ok (.putfield 34, 3) := by decide +kernel
theorem dX11_init_87 : decode cX11_init 87 = .ok (.aload_n 0, 1) := by decide +kernel
theorem dX11_init_88 : decode cX11_init 88 = .ok (.iconst 4, 1) := by decide +kernel
theorem dX11_init_89 : decode cX11_init 89 = .ok (.newarray .int, 2) := by decide +kernel
theorem dX11_init_91 : decode cX11_init 91 = .ok (.putfield 38, 3) := by decide +kernel
theorem dX11_init_94 : decode cX11_init 94 = .ok (.aload_n 0, 1) := by decide +kernel
theorem dX11_init_95 : decode cX11_init 95 = .ok (.iconst 4, 1) := by decide +kernel
theorem dX11_init_96 : decode cX11_init 96 = .ok (.newarray .int, 2) := by decide +kernel
theorem dX11_init_98 : decode cX11_init 98 = .ok (.putfield 42, 3) := by decide +kernel
theorem dX11_init_101 : decode cX11_init 101 = .ok (.aload_n 0, 1) := by decide +kernel
theorem dX11_init_102 : decode cX11_init 102 = .ok (.getfield 42, 3) := by decide +kernel
theorem dX11_init_105 : decode cX11_init 105 = .ok (.iconst (-1), 1) := by decide +kernel
theorem dX11_init_106 : decode cX11_init 106 = .ok (.invokestatic 45, 3) := by decide +kernel
theorem dX11_init_109 : decode cX11_init 109 = .ok (.aload_n 0, 1) := by decide +kernel
theorem dX11_init_110 : decode cX11_init 110 = .ok (.new 51, 3) := by decide +kernel
theorem dX11_init_113 : decode cX11_init 113 = .ok (.dup, 1) := by decide +kernel
theorem dX11_init_114 : decode cX11_init 114 = .ok (.bipush 24, 2) := by decide +kernel
theorem dX11_init_116 : decode cX11_init 116 = .ok (.invokespecial 53, 3) := by decide +kernel
theorem dX11_init_119 : decode cX11_init 119 = .ok (.putfield 56, 3) := by decide +kernel
theorem dX11_init_122 : decode cX11_init 122 = .ok (.aload_n 0, 1) := by decide +kernel
theorem dX11_init_123 : decode cX11_init 123 = .ok (.new 60, 3) := by decide +kernel
theorem dX11_init_126 : decode cX11_init 126 = .ok (.dup, 1) := by decide +kernel
theorem dX11_init_127 : decode cX11_init 127 = .ok (.aload_n 0, 1) := by decide +kernel
theorem dX11_init_128 : decode cX11_init 128 = .ok (.getfield 19, 3) := by decide +kernel
theorem dX11_init_131 : decode cX11_init 131 = .ok (.invokespecial 62, 3) := by decide +kernel
theorem dX11_init_134 : decode cX11_init 134 = .ok (.putfield 65, 3) := by decide +kernel
theorem dX11_init_137 : decode cX11_init 137 = .ok (.aload_n 0, 1) := by decide +kernel
theorem dX11_init_138 : decode cX11_init 138 = .ok (.new 69, 3) := by decide +kernel
theorem dX11_init_141 : decode cX11_init 141 = .ok (.dup, 1) := by decide +kernel
theorem dX11_init_142 : decode cX11_init 142 = .ok (.invokespecial 71, 3) := by decide +kernel
theorem dX11_init_145 : decode cX11_init 145 = .ok (.putfield 72, 3) := by decide +kernel
theorem dX11_init_148 : decode cX11_init 148 = .ok (.aload_n 0, 1) := by decide +kernel
theorem dX11_init_149 : decode cX11_init 149 = .ok (.new 76, 3) := by decide +kernel
theorem dX11_init_152 : decode cX11_init 152 = .ok (.dup, 1) := by decide +kernel
theorem dX11_init_153 : decode cX11_init 153 = .ok (.invokespecial 78, 3) := by decide +kernel
theorem dX11_init_156 : decode cX11_init 156 = .ok (.putfield 79, 3) := by decide +kernel
theorem dX11_init_159 : decode cX11_init 159 = .ok (.aload_n 0, 1) := by decide +kernel
theorem dX11_init_160 : decode cX11_init 160 = .ok (.new 83, 3) := by decide +kernel
theorem dX11_init_163 : decode cX11_init 163 = .ok (.dup, 1) := by decide +kernel
theorem dX11_init_164 : decode cX11_init 164 = .ok (.invokespecial 85, 3) := by decide +kernel
theorem dX11_init_167 : decode cX11_init 167 = .ok (.putfield 86, 3) := by decide +kernel
theorem dX11_init_170 : decode cX11_init 170 = .ok (.aload_n 0, 1) := by decide +kernel
theorem dX11_init_171 : decode cX11_init 171 = .ok (.new 90, 3) := by decide +kernel
theorem dX11_init_174 : decode cX11_init 174 = .ok (.dup, 1) := by decide +kernel
theorem dX11_init_175 : decode cX11_init 175 = .ok (.invokespecial 92, 3) := by decide +kernel
theorem dX11_init_178 : decode cX11_init 178 = .ok (.putfield 93, 3) := by decide +kernel
theorem dX11_init_181 : decode cX11_init 181 = .ok (.aload_n 0, 1) := by decide +kernel
theorem dX11_init_182 : decode cX11_init 182 = .ok (.new 97, 3) := by decide +kernel
theorem dX11_init_185 : decode cX11_init 185 = .ok (.dup, 1) := by decide +kernel
theorem dX11_init_186 : decode cX11_init 186 = .ok (.invokespecial 99, 3) := by decide +kernel
theorem dX11_init_189 : decode cX11_init 189 = .ok (.putfield 100, 3) := by decide +kernel
theorem dX11_init_192 : decode cX11_init 192 = .ok (.aload_n 0, 1) := by decide +kernel
theorem dX11_init_193 : decode cX11_init 193 = .ok (.new 104, 3) := by decide +kernel
theorem dX11_init_196 : decode cX11_init 196 = .ok (.dup, 1) := by decide +kernel
theorem dX11_init_197 : decode cX11_init 197 = .ok (.invokespecial 106, 3) := by decide +kernel
theorem dX11_init_200 : decode cX11_init 200 = .ok (.putfield 107, 3) := by decide +kernel
theorem dX11_init_203 : decode cX11_init 203 = .ok (.return_, 1) := by decide +kernel
def c_X11_init_47 (l0 : Nat) : Nat → Int32 → kc_S → Option kc_S
  | 0, _, _ => none
  | n + 1, l1, S => (if (3 : Int32) ≤ l1 then (if (3 : Int32) < 0 then none else kc_al S (22, (3 : Int32).toNatClampNeg) fun a16 S17 => (if kr_sh l0 = (11, 0) ∧ l0 < S17.1 then kr_let (kc_sr S17 l0 4 a16) (fun S18 => (if (240 : Int32) < 0 then none else kc_al S18 (23, (240 : Int32).toNatClampNeg) fun a19 S20 => (if kr_sh l0 = (11, 0) ∧ l0 < S20.1 then kr_let (kc_sr S20 l0 5 a19) (fun S21 => (if (4 : Int32) < 0 then none else kc_al S21 (20, (4 : Int32).toNatClampNeg) fun a22 S23 => (if kr_sh l0 = (11, 0) ∧ l0 < S23.1 then kr_let (kc_sr S23 l0 6 a22) (fun S24 => (if (4 : Int32) < 0 then none else kc_al S24 (20, (4 : Int32).toNatClampNeg) fun a25 S26 => (if kr_sh l0 = (11, 0) ∧ l0 < S26.1 then kr_let (kc_sr S26 l0 7 a25) (fun S27 => kc_rd S27 l0 7 11 fun b28 => kc_bv (c_J7_fill_53178 b28 (-1 : Int32) S27) fun S29 => kc_al S29 (7, 0) fun a30 S31 => kc_bv (c_X7_init a30 (24 : Int32) S31) fun S32 => (if kr_sh l0 = (11, 0) ∧ l0 < S32.1 then kr_let (kc_sr S32 l0 8 a30) (fun S33 => kc_al S33 (4, 0) fun a34 S35 => kc_rd S35 l0 1 11 fun b36 => kc_bv (c_X4_init a34 b36 S35) fun S37 => (if kr_sh l0 = (11, 0) ∧ l0 < S37.1 then kr_let (kc_sr S37 l0 9 a34) (fun S38 => kc_al S38 (3, 0) fun a39 S40 => kc_bv (c_X3_init a39 S40) fun S41 => (if kr_sh l0 = (11, 0) ∧ l0 < S41.1 then kr_let (kc_sr S41 l0 10 a39) (fun S42 => kc_al S42 (10, 0) fun a43 S44 => kc_bv (c_X10_init a43 S44) fun S45 => (if kr_sh l0 = (11, 0) ∧ l0 < S45.1 then kr_let (kc_sr S45 l0 11 a43) (fun S46 => kc_al S46 (0, 0) fun a47 S48 => kc_bv (c_X0_init a47 S48) fun S49 => (if kr_sh l0 = (11, 0) ∧ l0 < S49.1 then kr_let (kc_sr S49 l0 12 a47) (fun S50 => kc_al S50 (8, 0) fun a51 S52 => kc_bv (c_X8_init a51 S52) fun S53 => (if kr_sh l0 = (11, 0) ∧ l0 < S53.1 then kr_let (kc_sr S53 l0 13 a51) (fun S54 => kc_al S54 (9, 0) fun a55 S56 => kc_bv (c_X9_init a55 S56) fun S57 => (if kr_sh l0 = (11, 0) ∧ l0 < S57.1 then kr_let (kc_sr S57 l0 14 a55) (fun S58 => kc_al S58 (1, 0) fun a59 S60 => kc_bv (c_X1_init a59 S60) fun S61 => (if kr_sh l0 = (11, 0) ∧ l0 < S61.1 then kr_let (kc_sr S61 l0 15 a59) (fun S62 => some S62) else none)) else none)) else none)) else none)) else none)) else none)) else none)) else none)) else none))) else none))) else none))) else none)) else kc_rd S l0 3 11 fun b63 => kc_al S (2, 0) fun a64 S65 => kc_bv (c_X2_init a64 S65) fun S66 => (if kr_sh b63 = (26, 3) ∧ b63 < S66.1 ∧ kr_in l1 3 ∧ kr_sh a64 = (2, 0) ∧ a64 < S66.1 then kr_let (kc_sr S66 b63 l1.toNatClampNeg a64) (fun S67 => (c_X11_init_47 l0 n (l1 + (1 : Int32)) S67)) else none))
def c_X11_init (t0 : Nat) (S : kc_S) : Option kc_S := kc_al S (6, 0) fun a1 S2 => kc_bv (c_X6_init a1 S2) fun S3 => (if kr_sh t0 = (11, 0) ∧ t0 < S3.1 then kr_let (kc_sr S3 t0 0 a1) (fun S4 => kc_al S4 (2, 0) fun a5 S6 => kc_bv (c_X2_init a5 S6) fun S7 => (if kr_sh t0 = (11, 0) ∧ t0 < S7.1 then kr_let (kc_sr S7 t0 1 a5) (fun S8 => kc_al S8 (2, 0) fun a9 S10 => kc_bv (c_X2_init a9 S10) fun S11 => (if kr_sh t0 = (11, 0) ∧ t0 < S11.1 then kr_let (kc_sr S11 t0 2 a9) (fun S12 => (if (3 : Int32) < 0 then none else kc_al S12 (26, (3 : Int32).toNatClampNeg) fun a13 S14 => (if kr_sh t0 = (11, 0) ∧ t0 < S14.1 then kr_let (kc_sr S14 t0 3 a13) (fun S15 => (c_X11_init_47 t0 kr_F (0 : Int32) S15)) else none))) else none)) else none)) else none)
theorem w_X11_init_47 (E : kr_E) (l0 : Nat) : ∀ (n : Nat) (l1 : Int32) (S : kc_S), kC E Y_X11_init 5 47 [(0, kr_r E l0), (1, .int l1)] [] S (c_X11_init_47 l0 n l1 S) := by
  intro n
  induction n with
  | zero => intro l1 S; exact kc_none
  | succ n ih =>
    intro l1 S
    rw [c_X11_init_47]
    refine kc_iload_n dX11_init_47 rfl 1 rfl ?_
    refine kc_iconst (v := 3) dX11_init_48 (by decide) ?_
    refine kc_icmp_ge (tgt := 71) dX11_init_49 (by decide) ?_ ?_
    · refine kc_aload_n dX11_init_71 rfl 0 rfl ?_
      refine kc_iconst (v := 3) dX11_init_72 (by decide) ?_
      refine kc_newa (t := 22) (ty := .boolean) dX11_init_73 rfl rfl (by decide) (kr_t 323 (by decide +kernel) rfl) (by simp) (fun a16 S17 => ?_)
      refine kc_putF (ci := 11) (j := 4) dX11_init_75 (kr_t 431 (by decide +kernel) rfl) rfl (by decide) rfl rfl rfl (fun S18 => ?_)
      refine kc_aload_n dX11_init_78 rfl 0 rfl ?_
      refine kc_sipush (v := 240) dX11_init_79 (by decide) ?_
      refine kc_newa (t := 23) (ty := .long) dX11_init_82 rfl rfl (by decide) (kr_t 324 (by decide +kernel) rfl) (by simp) (fun a19 S20 => ?_)
      refine kc_putF (ci := 11) (j := 5) dX11_init_84 (kr_t 432 (by decide +kernel) rfl) rfl (by decide) rfl rfl rfl (fun S21 => ?_)
      refine kc_aload_n dX11_init_87 rfl 0 rfl ?_
      refine kc_iconst (v := 4) dX11_init_88 (by decide) ?_
      refine kc_newa (t := 20) (ty := .int) dX11_init_89 rfl rfl (by decide) (kr_t 102 (by decide +kernel) rfl) (by simp) (fun a22 S23 => ?_)
      refine kc_putF (ci := 11) (j := 6) dX11_init_91 (kr_t 433 (by decide +kernel) rfl) rfl (by decide) rfl rfl rfl (fun S24 => ?_)
      refine kc_aload_n dX11_init_94 rfl 0 rfl ?_
      refine kc_iconst (v := 4) dX11_init_95 (by decide) ?_
      refine kc_newa (t := 20) (ty := .int) dX11_init_96 rfl rfl (by decide) (kr_t 102 (by decide +kernel) rfl) (by simp) (fun a25 S26 => ?_)
      refine kc_putF (ci := 11) (j := 7) dX11_init_98 (kr_t 434 (by decide +kernel) rfl) rfl (by decide) rfl rfl rfl (fun S27 => ?_)
      refine kc_aload_n dX11_init_101 rfl 0 rfl ?_
      refine kc_getR (ci := 11) (j := 7) dX11_init_102 (kr_t 434 (by decide +kernel) rfl) rfl (by decide) (fun b28 => ?_)
      refine kc_iconst (v := -1) dX11_init_105 (by decide) ?_
      refine kc_callS (As := [kr_r E b28, .int (-1 : Int32)]) (st := []) zs_J7_fill_53178 rfl dX11_init_106 (kr_t 261 (by decide +kernel) rfl) (w_J7_fill_53178 E b28 (-1 : Int32) S27) rfl rfl (Nat.le_of_ble_eq_true rfl) rfl (by decide) (Nat.le_of_ble_eq_true rfl) (fun S29 => ?_)
      refine kc_aload_n dX11_init_109 rfl 0 rfl ?_
      refine kc_new (ci := 7) dX11_init_110 (kr_t 264 (by decide +kernel) rfl) (kr_t 75 (by decide +kernel) rfl) (kr_t 4 (by decide +kernel) rfl) (fun a30 S31 => ?_)
      refine kc_dup dX11_init_113 rfl ?_
      refine kc_bipush (v := 24) dX11_init_114 (by decide) ?_
      refine kc_callI (As := [.int (24 : Int32)]) (st := [kr_r E a30, kr_r E l0]) zi_X7_init dX11_init_116 (Or.inl (kr_t 265 (by decide +kernel) rfl)) (w_X7_init E a30 (24 : Int32) S31) rfl rfl (Nat.le_of_ble_eq_true rfl) rfl (by decide) (Nat.le_of_ble_eq_true rfl) (fun S32 => ?_)
      refine kc_putF (ci := 11) (j := 8) dX11_init_119 (kr_t 435 (by decide +kernel) rfl) rfl (by decide) rfl rfl rfl (fun S33 => ?_)
      refine kc_aload_n dX11_init_122 rfl 0 rfl ?_
      refine kc_new (ci := 4) dX11_init_123 (kr_t 266 (by decide +kernel) rfl) (kr_t 267 (by decide +kernel) rfl) (kr_t 8 (by decide +kernel) rfl) (fun a34 S35 => ?_)
      refine kc_dup dX11_init_126 rfl ?_
      refine kc_aload_n dX11_init_127 rfl 0 rfl ?_
      refine kc_getR (ci := 11) (j := 1) dX11_init_128 (kr_t 428 (by decide +kernel) rfl) rfl (by decide) (fun b36 => ?_)
      refine kc_callI (As := [kr_r E b36]) (st := [kr_r E a34, kr_r E l0]) zi_X4_init dX11_init_131 (Or.inl (kr_t 268 (by decide +kernel) rfl)) (w_X4_init E a34 b36 S35) rfl rfl (Nat.le_of_ble_eq_true rfl) rfl (by decide) (Nat.le_of_ble_eq_true rfl) (fun S37 => ?_)
      refine kc_putF (ci := 11) (j := 9) dX11_init_134 (kr_t 436 (by decide +kernel) rfl) rfl (by decide) rfl rfl rfl (fun S38 => ?_)
      refine kc_aload_n dX11_init_137 rfl 0 rfl ?_
      refine kc_new (ci := 3) dX11_init_138 (kr_t 325 (by decide +kernel) rfl) (kr_t 326 (by decide +kernel) rfl) (kr_t 9 (by decide +kernel) rfl) (fun a39 S40 => ?_)
      refine kc_dup dX11_init_141 rfl ?_
      refine kc_callI (As := []) (st := [kr_r E a39, kr_r E l0]) zi_X3_init dX11_init_142 (Or.inr (by decide)) (w_X3_init E a39 S40) rfl rfl (Nat.le_of_ble_eq_true rfl) rfl (by decide) (Nat.le_of_ble_eq_true rfl) (fun S41 => ?_)
      refine kc_putF (ci := 11) (j := 10) dX11_init_145 (kr_t 437 (by decide +kernel) rfl) rfl (by decide) rfl rfl rfl (fun S42 => ?_)
      refine kc_aload_n dX11_init_148 rfl 0 rfl ?_
      refine kc_new (ci := 10) dX11_init_149 (kr_t 339 (by decide +kernel) rfl) (kr_t 340 (by decide +kernel) rfl) (kr_t 10 (by decide +kernel) rfl) (fun a43 S44 => ?_)
      refine kc_dup dX11_init_152 rfl ?_
      refine kc_callI (As := []) (st := [kr_r E a43, kr_r E l0]) zi_X10_init dX11_init_153 (Or.inr (by decide)) (w_X10_init E a43 S44) rfl rfl (Nat.le_of_ble_eq_true rfl) rfl (by decide) (Nat.le_of_ble_eq_true rfl) (fun S45 => ?_)
      refine kc_putF (ci := 11) (j := 11) dX11_init_156 (kr_t 438 (by decide +kernel) rfl) rfl (by decide) rfl rfl rfl (fun S46 => ?_)
      refine kc_aload_n dX11_init_159 rfl 0 rfl ?_
      refine kc_new (ci := 0) dX11_init_160 (kr_t 352 (by decide +kernel) rfl) (kr_t 353 (by decide +kernel) rfl) (kr_t 11 (by decide +kernel) rfl) (fun a47 S48 => ?_)
      refine kc_dup dX11_init_163 rfl ?_
      refine kc_callI (As := []) (st := [kr_r E a47, kr_r E l0]) zi_X0_init dX11_init_164 (Or.inr (by decide)) (w_X0_init E a47 S48) rfl rfl (Nat.le_of_ble_eq_true rfl) rfl (by decide) (Nat.le_of_ble_eq_true rfl) (fun S49 => ?_)
      refine kc_putF (ci := 11) (j := 12) dX11_init_167 (kr_t 439 (by decide +kernel) rfl) rfl (by decide) rfl rfl rfl (fun S50 => ?_)
      refine kc_aload_n dX11_init_170 rfl 0 rfl ?_
      refine kc_new (ci := 8) dX11_init_171 (kr_t 371 (by decide +kernel) rfl) (kr_t 372 (by decide +kernel) rfl) (kr_t 12 (by decide +kernel) rfl) (fun a51 S52 => ?_)
      refine kc_dup dX11_init_174 rfl ?_
      refine kc_callI (As := []) (st := [kr_r E a51, kr_r E l0]) zi_X8_init dX11_init_175 (Or.inr (by decide)) (w_X8_init E a51 S52) rfl rfl (Nat.le_of_ble_eq_true rfl) rfl (by decide) (Nat.le_of_ble_eq_true rfl) (fun S53 => ?_)
      refine kc_putF (ci := 11) (j := 13) dX11_init_178 (kr_t 440 (by decide +kernel) rfl) rfl (by decide) rfl rfl rfl (fun S54 => ?_)
      refine kc_aload_n dX11_init_181 rfl 0 rfl ?_
      refine kc_new (ci := 9) dX11_init_182 (kr_t 389 (by decide +kernel) rfl) (kr_t 390 (by decide +kernel) rfl) (kr_t 13 (by decide +kernel) rfl) (fun a55 S56 => ?_)
      refine kc_dup dX11_init_185 rfl ?_
      refine kc_callI (As := []) (st := [kr_r E a55, kr_r E l0]) zi_X9_init dX11_init_186 (Or.inr (by decide)) (w_X9_init E a55 S56) rfl rfl (Nat.le_of_ble_eq_true rfl) rfl (by decide) (Nat.le_of_ble_eq_true rfl) (fun S57 => ?_)
      refine kc_putF (ci := 11) (j := 14) dX11_init_189 (kr_t 441 (by decide +kernel) rfl) rfl (by decide) rfl rfl rfl (fun S58 => ?_)
      refine kc_aload_n dX11_init_192 rfl 0 rfl ?_
      refine kc_new (ci := 1) dX11_init_193 (kr_t 402 (by decide +kernel) rfl) (kr_t 403 (by decide +kernel) rfl) (kr_t 14 (by decide +kernel) rfl) (fun a59 S60 => ?_)
      refine kc_dup dX11_init_196 rfl ?_
      refine kc_callI (As := []) (st := [kr_r E a59, kr_r E l0]) zi_X1_init dX11_init_197 (Or.inr (by decide)) (w_X1_init E a59 S60) rfl rfl (Nat.le_of_ble_eq_true rfl) rfl (by decide) (Nat.le_of_ble_eq_true rfl) (fun S61 => ?_)
      refine kc_putF (ci := 11) (j := 15) dX11_init_200 (kr_t 442 (by decide +kernel) rfl) rfl (by decide) rfl rfl rfl (fun S62 => ?_)
      exact kc_vret dX11_init_203 rfl
    · refine kc_aload_n dX11_init_52 rfl 0 rfl ?_
      refine kc_getR (ci := 11) (j := 3) dX11_init_53 (kr_t 430 (by decide +kernel) rfl) rfl (by decide) (fun b63 => ?_)
      refine kc_iload_n dX11_init_56 rfl 1 rfl ?_
      refine kc_new (ci := 2) dX11_init_57 (kr_t 65 (by decide +kernel) rfl) (kr_t 66 (by decide +kernel) rfl) (kr_t 3 (by decide +kernel) rfl) (fun a64 S65 => ?_)
      refine kc_dup dX11_init_60 rfl ?_
      refine kc_callI (As := []) (st := [kr_r E a64, .int l1, kr_r E b63]) zi_X2_init dX11_init_61 (Or.inl (kr_t 67 (by decide +kernel) rfl)) (w_X2_init E a64 S65) rfl rfl (Nat.le_of_ble_eq_true rfl) rfl (by decide) (Nat.le_of_ble_eq_true rfl) (fun S66 => ?_)
      refine kc_aast (ci := 2) dX11_init_64 (by decide) rfl (fun S67 => ?_)
      refine kc_iinc (j := 1) (v := (l1 + (1 : Int32))) (lv' := [(1, .int (l1 + (1 : Int32))), (0, kr_r E l0)]) dX11_init_65 rfl rfl (by decide) rfl ?_
      refine kc_goto (tgt := 47) dX11_init_68 (by decide) ?_
      refine kc_sub [1, 0] rfl ?_
      exact ih (l1 + (1 : Int32)) S67
theorem w_X11_init (E : kr_E) (t0 : Nat) (S : kc_S) : kC E Y_X11_init 5 0 [(0, kr_r E t0)] [] S (c_X11_init t0 S) := by
  rw [c_X11_init]
  refine kc_aload_n dX11_init_0 rfl 0 rfl ?_
  refine kc_obj dX11_init_1 (kr_t 27 (by decide +kernel) rfl) (by decide) (Nat.le_of_ble_eq_true rfl) ?_
  refine kc_aload_n dX11_init_4 rfl 0 rfl ?_
  refine kc_new (ci := 6) dX11_init_5 (kr_t 30 (by decide +kernel) rfl) (kr_t 31 (by decide +kernel) rfl) (kr_t 2 (by decide +kernel) rfl) (fun a1 S2 => ?_)
  refine kc_dup dX11_init_8 rfl ?_
  refine kc_callI (As := []) (st := [kr_r E a1, kr_r E t0]) zi_X6_init dX11_init_9 (Or.inr (by decide)) (w_X6_init E a1 S2) rfl rfl (Nat.le_of_ble_eq_true rfl) rfl (by decide) (Nat.le_of_ble_eq_true rfl) (fun S3 => ?_)
  refine kc_putF (ci := 11) (j := 0) dX11_init_12 (kr_t 427 (by decide +kernel) rfl) rfl (by decide) rfl rfl rfl (fun S4 => ?_)
  refine kc_aload_n dX11_init_15 rfl 0 rfl ?_
  refine kc_new (ci := 2) dX11_init_16 (kr_t 65 (by decide +kernel) rfl) (kr_t 66 (by decide +kernel) rfl) (kr_t 3 (by decide +kernel) rfl) (fun a5 S6 => ?_)
  refine kc_dup dX11_init_19 rfl ?_
  refine kc_callI (As := []) (st := [kr_r E a5, kr_r E t0]) zi_X2_init dX11_init_20 (Or.inl (kr_t 67 (by decide +kernel) rfl)) (w_X2_init E a5 S6) rfl rfl (Nat.le_of_ble_eq_true rfl) rfl (by decide) (Nat.le_of_ble_eq_true rfl) (fun S7 => ?_)
  refine kc_putR (ci := 11) (j := 1) dX11_init_23 (kr_t 428 (by decide +kernel) rfl) rfl (by decide) rfl (fun S8 => ?_)
  refine kc_aload_n dX11_init_26 rfl 0 rfl ?_
  refine kc_new (ci := 2) dX11_init_27 (kr_t 65 (by decide +kernel) rfl) (kr_t 66 (by decide +kernel) rfl) (kr_t 3 (by decide +kernel) rfl) (fun a9 S10 => ?_)
  refine kc_dup dX11_init_30 rfl ?_
  refine kc_callI (As := []) (st := [kr_r E a9, kr_r E t0]) zi_X2_init dX11_init_31 (Or.inl (kr_t 67 (by decide +kernel) rfl)) (w_X2_init E a9 S10) rfl rfl (Nat.le_of_ble_eq_true rfl) rfl (by decide) (Nat.le_of_ble_eq_true rfl) (fun S11 => ?_)
  refine kc_putR (ci := 11) (j := 2) dX11_init_34 (kr_t 429 (by decide +kernel) rfl) rfl (by decide) rfl (fun S12 => ?_)
  refine kc_aload_n dX11_init_37 rfl 0 rfl ?_
  refine kc_iconst (v := 3) dX11_init_38 (by decide) ?_
  refine kc_newq (t := 26) dX11_init_39 rfl (by decide) (kr_t 65 (by decide +kernel) rfl) (fun _ h => h.2.2.2) (fun a13 S14 => ?_)
  refine kc_putF (ci := 11) (j := 3) dX11_init_42 (kr_t 430 (by decide +kernel) rfl) rfl (by decide) rfl rfl rfl (fun S15 => ?_)
  refine kc_iconst (v := 0) dX11_init_45 (by decide) ?_
  refine kc_istore_n (lv' := [(1, .int (0 : Int32)), (0, kr_r E t0)]) dX11_init_46 rfl (by decide) rfl ?_
  refine kc_sub [1, 0] rfl ?_
  exact w_X11_init_47 E t0 _ (0 : Int32) S15
abbrev Y_X12_init : kr_Y := (yX12_init, cX12_init, 2, none)
theorem zi_X12_init : kc_Zi Y_X12_init 0 := ⟨(kr_t 1329 (by decide +kernel) rfl), rfl, (kr_t 1328 (by decide +kernel) rfl), (kr_t 15 (by decide +kernel) rfl), rfl, by decide +kernel, ⟨by decide +kernel, by decide +kernel, by decide +kernel⟩, by decide⟩
theorem dX12_init_0 : decode cX12_init 0 = .ok (.aload_n 0, 1) := by decide +kernel
theorem dX12_init_1 : decode cX12_init 1 = .ok (.invokespecial 1, 3) := by decide +kernel
theorem dX12_init_4 : decode cX12_init 4 = .ok (.aload_n 0, 1) := by decide +kernel
theorem dX12_init_5 : decode cX12_init 5 = .ok (.iconst 4, 1) := by decide +kernel
theorem dX12_init_6 : decode cX12_init 6 = .ok (.newarray .int, 2) := by decide +kernel
theorem dX12_init_8 : decode cX12_init 8 = .ok (.putfield 7, 3) := by decide +kernel
theorem dX12_init_11 : decode cX12_init 11 = .ok (.aload_n 0, 1) := by decide +kernel
theorem dX12_init_12 : decode cX12_init 12 = .ok (.iconst 4, 1) := by decide +kernel
theorem dX12_init_13 : decode cX12_init 13 = .ok (.newarray .int, 2) := by decide +kernel
theorem dX12_init_15 : decode cX12_init 15 = .ok (.putfield 13, 3) := by decide +kernel
theorem dX12_init_18 : decode cX12_init 18 = .ok (.aload_n 0, 1) := by decide +kernel
theorem dX12_init_19 : decode cX12_init 19 = .ok (.sipush 240, 3) := by decide +kernel
theorem dX12_init_22 : decode cX12_init 22 = .ok (.newarray .long, 2) := by decide +kernel
theorem dX12_init_24 : decode cX12_init 24 = .ok (.putfield 16, 3) := by decide +kernel
theorem dX12_init_27 : decode cX12_init 27 = .ok (.aload_n 0, 1) := by decide +kernel
theorem dX12_init_28 : decode cX12_init 28 = .ok (.bipush 60, 2) := by decide +kernel
theorem dX12_init_30 : decode cX12_init 30 = .ok (.newarray .long, 2) := by decide +kernel
theorem dX12_init_32 : decode cX12_init 32 = .ok (.putfield 20, 3) := by decide +kernel
theorem dX12_init_35 : decode cX12_init 35 = .ok (.aload_n 0, 1) := by decide +kernel
theorem dX12_init_36 : decode cX12_init 36 = .ok (.sipush 1400, 3) := by decide +kernel
theorem dX12_init_39 : decode cX12_init 39 = .ok (.newarray .byte, 2) := by decide +kernel
theorem dX12_init_41 : decode cX12_init 41 = .ok (.putfield 23, 3) := by decide +kernel
theorem dX12_init_44 : decode cX12_init 44 = .ok (.aload_n 0, 1) := by decide +kernel
theorem dX12_init_45 : decode cX12_init 45 = .ok (.iconst (-1), 1) := by decide +kernel
theorem dX12_init_46 : decode cX12_init 46 = .ok (.putfield 27, 3) := by decide +kernel
theorem dX12_init_49 : decode cX12_init 49 = .ok (.aload_n 0, 1) := by decide +kernel
theorem dX12_init_50 : decode cX12_init 50 = .ok (.iconst 5, 1) := by decide +kernel
theorem dX12_init_51 : decode cX12_init 51 = .ok (.newarray .int, 2) := by decide +kernel
theorem dX12_init_53 : decode cX12_init 53 = .ok (.putfield 31, 3) := by decide +kernel
theorem dX12_init_56 : decode cX12_init 56 = .ok (.aload_n 0, 1) := by decide +kernel
theorem dX12_init_57 : decode cX12_init 57 = .ok (.bipush 40, 2) := by decide +kernel
theorem dX12_init_59 : decode cX12_init 59 = .ok (.newarray .int, 2) := by decide +kernel
theorem dX12_init_61 : decode cX12_init 61 = .ok (.putfield 34, 3) := by decide +kernel
theorem dX12_init_64 : decode cX12_init 64 = .ok (.aload_n 0, 1) := by decide +kernel
theorem dX12_init_65 : decode cX12_init 65 = .ok (.bipush 30, 2) := by decide +kernel
theorem dX12_init_67 : decode cX12_init 67 = .ok (.newarray .int, 2) := by decide +kernel
theorem dX12_init_69 : decode cX12_init 69 = .ok (.putfield 37, 3) := by decide +kernel
theorem dX12_init_72 : decode cX12_init 72 = .ok (.aload_n 0, 1) := by decide +kernel
theorem dX12_init_73 : decode cX12_init 73 = .ok (.bipush 30, 2) := by decide +kernel
theorem dX12_init_75 : decode cX12_init 75 = .ok (.newarray .int, 2) := by decide +kernel
theorem dX12_init_77 : decode cX12_init 77 = .ok (.putfield 40, 3) := by decide +kernel
theorem dX12_init_80 : decode cX12_init 80 = .ok (.aload_n 0, 1) := by decide +kernel
theorem dX12_init_81 : decode cX12_init 81 = .ok (.bipush 50, 2) := by decide +kernel
theorem dX12_init_83 : decode cX12_init 83 = .ok (.newarray .int, 2) := by decide +kernel
theorem dX12_init_85 : decode cX12_init 85 = .ok (.putfield 43, 3) := by decide +kernel
theorem dX12_init_88 : decode cX12_init 88 = .ok (.aload_n 0, 1) := by decide +kernel
theorem dX12_init_89 : decode cX12_init 89 = .ok (.bipush 50, 2) := by decide +kernel
theorem dX12_init_91 : decode cX12_init 91 = .ok (.newarray .int, 2) := by decide +kernel
theorem dX12_init_93 : decode cX12_init 93 = .ok (.putfield 46, 3) := by decide +kernel
theorem dX12_init_96 : decode cX12_init 96 = .ok (.aload_n 0, 1) := by decide +kernel
theorem dX12_init_97 : decode cX12_init 97 = .ok (.sipush 200, 3) := by decide +kernel
theorem dX12_init_100 : decode cX12_init 100 = .ok (.newarray .int, 2) := by decide +kernel
theorem dX12_init_102 : decode cX12_init 102 = .ok (.putfield 49, 3) := by decide +kernel
theorem dX12_init_105 : decode cX12_init 105 = .ok (.aload_n 0, 1) := by decide +kernel
theorem dX12_init_106 : decode cX12_init 106 = .ok (.bipush 120, 2) := by decide +kernel
theorem dX12_init_108 : decode cX12_init 108 = .ok (.newarray .int, 2) := by decide +kernel
theorem dX12_init_110 : decode cX12_init 110 = .ok (.putfield 52, 3) := by decide +kernel
theorem dX12_init_113 : decode cX12_init 113 = .ok (.aload_n 0, 1) := by decide +kernel
theorem dX12_init_114 : decode cX12_init 114 = .ok (.sipush 360, 3) := by decide +kernel
theorem dX12_init_117 : decode cX12_init 117 = .ok (.newarray .int, 2) := by decide +kernel
theorem dX12_init_119 : decode cX12_init 119 = .ok (.putfield 55, 3) := by decide +kernel
theorem dX12_init_122 : decode cX12_init 122 = .ok (.aload_n 0, 1) := by decide +kernel
theorem dX12_init_123 : decode cX12_init 123 = .ok (.bipush 90, 2) := by decide +kernel
theorem dX12_init_125 : decode cX12_init 125 = .ok (.newarray .int, 2) := by decide +kernel
theorem dX12_init_127 : decode cX12_init 127 = .ok (.putfield 58, 3) := by decide +kernel
theorem dX12_init_130 : decode cX12_init 130 = .ok (.aload_n 0, 1) := by decide +kernel
theorem dX12_init_131 : decode cX12_init 131 = .ok (.sipush 800, 3) := by decide +kernel
theorem dX12_init_134 : decode cX12_init 134 = .ok (.newarray .int, 2) := by decide +kernel
theorem dX12_init_136 : decode cX12_init 136 = .ok (.putfield 61, 3) := by decide +kernel
theorem dX12_init_139 : decode cX12_init 139 = .ok (.aload_n 0, 1) := by decide +kernel
theorem dX12_init_140 : decode cX12_init 140 = .ok (.iconst 3, 1) := by decide +kernel
theorem dX12_init_141 : decode cX12_init 141 = .ok (.newarray .boolean, 2) := by decide +kernel
theorem dX12_init_143 : decode cX12_init 143 = .ok (.putfield 64, 3) := by decide +kernel
theorem dX12_init_146 : decode cX12_init 146 = .ok (.aload_n 0, 1) := by decide +kernel
theorem dX12_init_147 : decode cX12_init 147 = .ok (.sipush 144, 3) := by decide +kernel
theorem dX12_init_150 : decode cX12_init 150 = .ok (.newarray .int, 2) := by decide +kernel
theorem dX12_init_152 : decode cX12_init 152 = .ok (.putfield 68, 3) := by decide +kernel
theorem dX12_init_155 : decode cX12_init 155 = .ok (.aload_n 0, 1) := by decide +kernel
theorem dX12_init_156 : decode cX12_init 156 = .ok (.bipush 6, 2) := by decide +kernel
theorem dX12_init_158 : decode cX12_init 158 = .ok (.newarray .int, 2) := by decide +kernel
theorem dX12_init_160 : decode cX12_init 160 = .ok (.putfield 71, 3) := by decide +kernel
theorem dX12_init_163 : decode cX12_init 163 = .ok (.aload_n 0, 1) := by decide +kernel
theorem dX12_init_164 : decode cX12_init 164 = .ok (.bipush 6, 2) := by decide +kernel
theorem dX12_init_166 : decode cX12_init 166 = .ok (.newarray .int, 2) := by decide +kernel
theorem dX12_init_168 : decode cX12_init 168 = .ok (.putfield 74, 3) := by decide +kernel
theorem dX12_init_171 : decode cX12_init 171 = .ok (.aload_n 0, 1) := by decide +kernel
theorem dX12_init_172 : decode cX12_init 172 = .ok (.bipush 6, 2) := by decide +kernel
theorem dX12_init_174 : decode cX12_init 174 = .ok (.newarray .int, 2) := by decide +kernel
theorem dX12_init_176 : decode cX12_init 176 = .ok (.putfield 77, 3) := by decide +kernel
theorem dX12_init_179 : decode cX12_init 179 = .ok (.aload_n 0, 1) := by decide +kernel
theorem dX12_init_180 : decode cX12_init 180 = .ok (.bipush 24, 2) := by decide +kernel
theorem dX12_init_182 : decode cX12_init 182 = .ok (.newarray .int, 2) := by decide +kernel
theorem dX12_init_184 : decode cX12_init 184 = .ok (.putfield 80, 3) := by decide +kernel
theorem dX12_init_187 : decode cX12_init 187 = .ok (.aload_n 0, 1) := by decide +kernel
theorem dX12_init_188 : decode cX12_init 188 = .ok (.bipush 25, 2) := by decide +kernel
theorem dX12_init_190 : decode cX12_init 190 = .ok (.newarray .int, 2) := by decide +kernel
theorem dX12_init_192 : decode cX12_init 192 = .ok (.putfield 83, 3) := by decide +kernel
theorem dX12_init_195 : decode cX12_init 195 = .ok (.aload_n 0, 1) := by decide +kernel
theorem dX12_init_196 : decode cX12_init 196 = .ok (.bipush 25, 2) := by decide +kernel
theorem dX12_init_198 : decode cX12_init 198 = .ok (.newarray .int, 2) := by decide +kernel
theorem dX12_init_200 : decode cX12_init 200 = .ok (.putfield 86, 3) := by decide +kernel
theorem dX12_init_203 : decode cX12_init 203 = .ok (.aload_n 0, 1) := by decide +kernel
theorem dX12_init_204 : decode cX12_init 204 = .ok (.bipush 25, 2) := by decide +kernel
theorem dX12_init_206 : decode cX12_init 206 = .ok (.newarray .int, 2) := by decide +kernel
theorem dX12_init_208 : decode cX12_init 208 = .ok (.putfield 89, 3) := by decide +kernel
theorem dX12_init_211 : decode cX12_init 211 = .ok (.aload_n 0, 1) := by decide +kernel
theorem dX12_init_212 : decode cX12_init 212 = .ok (.ldc 92, 2) := by decide +kernel
theorem dX12_init_214 : decode cX12_init 214 = .ok (.newarray .boolean, 2) := by decide +kernel
theorem dX12_init_216 : decode cX12_init 216 = .ok (.putfield 93, 3) := by decide +kernel
theorem dX12_init_219 : decode cX12_init 219 = .ok (.aload_n 0, 1) := by decide +kernel
theorem dX12_init_220 : decode cX12_init 220 = .ok (.sipush 501, 3) := by decide +kernel
theorem dX12_init_223 : decode cX12_init 223 = .ok (.newarray .int, 2) := by decide +kernel
theorem dX12_init_225 : decode cX12_init 225 = .ok (.putfield 96, 3) := by decide +kernel
theorem dX12_init_228 : decode cX12_init 228 = .ok (.aload_n 0, 1) := by decide +kernel
theorem dX12_init_229 : decode cX12_init 229 = .ok (.sipush 144, 3) := by decide +kernel
theorem dX12_init_232 : decode cX12_init 232 = .ok (.newarray .boolean, 2) := by decide +kernel
theorem dX12_init_234 : decode cX12_init 234 = .ok (.putfield 99, 3) := by decide +kernel
theorem dX12_init_237 : decode cX12_init 237 = .ok (.aload_n 0, 1) := by decide +kernel
theorem dX12_init_238 : decode cX12_init 238 = .ok (.sipush 144, 3) := by decide +kernel
theorem dX12_init_241 : decode cX12_init 241 = .ok (.newarray .int, 2) := by decide +kernel
theorem dX12_init_243 : decode cX12_init 243 = .ok (.putfield 102, 3) := by decide +kernel
theorem dX12_init_246 : decode cX12_init 246 = .ok (.aload_n 0, 1) := by decide +kernel
theorem dX12_init_247 : decode cX12_init 247 = .ok (.bipush 6, 2) := by decide +kernel
theorem dX12_init_249 : decode cX12_init 249 = .ok (.newarray .int, 2) := by decide +kernel
theorem dX12_init_251 : decode cX12_init 251 = .ok (.putfield 105, 3) := by decide +kernel
theorem dX12_init_254 : decode cX12_init 254 = .ok (.aload_n 0, 1) := by decide +kernel
theorem dX12_init_255 : decode cX12_init 255 = .ok (.bipush 6, 2) := by decide +kernel
theorem dX12_init_257 : decode cX12_init 257 = .ok (.newarray .int, 2) := by decide +kernel
theorem dX12_init_259 : decode cX12_init 259 = .ok (.putfield 108, 3) := by decide +kernel
theorem dX12_init_262 : decode cX12_init 262 = .ok (.aload_n 0, 1) := by decide +kernel
theorem dX12_init_263 : decode cX12_init 263 = .ok (.sipush 625, 3) := by decide +kernel
theorem dX12_init_266 : decode cX12_init 266 = .ok (.newarray .int, 2) := by decide +kernel
theorem dX12_init_268 : decode cX12_init 268 = .ok (.putfield 111, 3) := by decide +kernel
theorem dX12_init_271 : decode cX12_init 271 = .ok (.aload_n 0, 1) := by decide +kernel
theorem dX12_init_272 : decode cX12_init 272 = .ok (.bipush 64, 2) := by decide +kernel
theorem dX12_init_274 : decode cX12_init 274 = .ok (.newarray .int, 2) := by decide +kernel
theorem dX12_init_276 : decode cX12_init 276 = .ok (.putfield 114, 3) := by decide +kernel
theorem dX12_init_279 : decode cX12_init 279 = .ok (.aload_n 0, 1) := by decide +kernel
theorem dX12_init_280 : decode cX12_init 280 = .ok (.bipush 64, 2) := by decide +kernel
theorem dX12_init_282 : decode cX12_init 282 = .ok (.newarray .int, 2) := by decide +kernel
theorem dX12_init_284 : decode cX12_init 284 = .ok (.putfield 117, 3) := by decide +kernel
theorem dX12_init_287 : decode cX12_init 287 = .ok (.aload_n 0, 1) := by decide +kernel
theorem dX12_init_288 : decode cX12_init 288 = .ok (.bipush 12, 2) := by decide +kernel
theorem dX12_init_290 : decode cX12_init 290 = .ok (.newarray .int, 2) := by decide +kernel
theorem dX12_init_292 : decode cX12_init 292 = .ok (.putfield 120, 3) := by decide +kernel
theorem dX12_init_295 : decode cX12_init 295 = .ok (.aload_n 0, 1) := by decide +kernel
theorem dX12_init_296 : decode cX12_init 296 = .ok (.bipush 64, 2) := by decide +kernel
theorem dX12_init_298 : decode cX12_init 298 = .ok (.newarray .int, 2) := by decide +kernel
theorem dX12_init_300 : decode cX12_init 300 = .ok (.putfield 123, 3) := by decide +kernel
theorem dX12_init_303 : decode cX12_init 303 = .ok (.aload_n 0, 1) := by decide +kernel
theorem dX12_init_304 : decode cX12_init 304 = .ok (.bipush 64, 2) := by decide +kernel
theorem dX12_init_306 : decode cX12_init 306 = .ok (.newarray .int, 2) := by decide +kernel
theorem dX12_init_308 : decode cX12_init 308 = .ok (.putfield 126, 3) := by decide +kernel
theorem dX12_init_311 : decode cX12_init 311 = .ok (.aload_n 0, 1) := by decide +kernel
theorem dX12_init_312 : decode cX12_init 312 = .ok (.bipush 25, 2) := by decide +kernel
theorem dX12_init_314 : decode cX12_init 314 = .ok (.newarray .int, 2) := by decide +kernel
theorem dX12_init_316 : decode cX12_init 316 = .ok (.putfield 129, 3) := by decide +kernel
theorem dX12_init_319 : decode cX12_init 319 = .ok (.aload_n 0, 1) := by decide +kernel
theorem dX12_init_320 : decode cX12_init 320 = .ok (.sipush 600, 3) := by decide +kernel
theorem dX12_init_323 : decode cX12_init 323 = .ok (.newarray .int, 2) := by decide +kernel
theorem dX12_init_325 : decode cX12_init 325 = .ok (.putfield 132, 3) := by decide +kernel
theorem dX12_init_328 : decode cX12_init 328 = .ok (.aload_n 0, 1) := by decide +kernel
theorem dX12_init_329 : decode cX12_init 329 = .ok (.bipush 24, 2) := by decide +kernel
theorem dX12_init_331 : decode cX12_init 331 = .ok (.newarray .int, 2) := by decide +kernel
theorem dX12_init_333 : decode cX12_init 333 = .ok (.putfield 135, 3) := by decide +kernel
theorem dX12_init_336 : decode cX12_init 336 = .ok (.iconst 0, 1) := by decide +kernel
theorem dX12_init_337 : decode cX12_init 337 = .ok (.istore_n 1, 1) := by decide +kernel
theorem dX12_init_338 : decode cX12_init 338 = .ok (.iload_n 1, 1) := by decide +kernel
theorem dX12_init_339 : decode cX12_init 339 = .ok (.iconst 4, 1) := by decide +kernel
theorem dX12_init_340 : decode cX12_init 340 = .ok (.if_icmp .ge 16, 3) := by decide +kernel
theorem dX12_init_343 : decode cX12_init 343 = .ok (.aload_n 0, 1) := by decide +kernel
theorem dX12_init_344 : decode cX12_init 344 = .ok (.getfield 7, 3) := by decide +kernel
theorem dX12_init_347 : decode cX12_init 347 = .ok (.iload_n 1, 1) := by decide +kernel
theorem dX12_init_348 : decode cX12_init 348 = .ok (.iconst (-1), 1) := by decide +kernel
theorem dX12_init_349 : decode cX12_init 349 = .ok (.iastore, 1) := by decide +kernel
theorem dX12_init_350 : decode cX12_init 350 = .ok (.iinc 1 1, 3) := by decide +kernel
theorem dX12_init_353 : decode cX12_init 353 = .ok (.goto (-15), 3) := by decide +kernel
theorem dX12_init_356 : decode cX12_init 356 = .ok (.return_, 1) := by decide +kernel
set_option maxRecDepth 20000 in
def c_X12_init_338 (l0 : Nat) : Nat → Int32 → kc_S → Option kc_S
  | 0, _, _ => none
  | n + 1, l1, S => (if (4 : Int32) ≤ l1 then some S else kc_rd S l0 1 12 fun b122 => (if kr_sh b122 = (20, (kr_len b122)) ∧ b122 < S.1 ∧ kr_in l1 (kr_len b122) then kr_let (kc_si S b122 l1.toNatClampNeg (-1 : Int32)) (fun S123 => (c_X12_init_338 l0 n (l1 + (1 : Int32)) S123)) else none))
set_option maxRecDepth 20000 in
def c_X12_init (t0 : Nat) (S : kc_S) : Option kc_S := (if (4 : Int32) < 0 then none else kc_al S (20, (4 : Int32).toNatClampNeg) fun a1 S2 => (if kr_sh t0 = (12, 0) ∧ t0 < S2.1 then kr_let (kc_sr S2 t0 1 a1) (fun S3 => (if (4 : Int32) < 0 then none else kc_al S3 (20, (4 : Int32).toNatClampNeg) fun a4 S5 => (if kr_sh t0 = (12, 0) ∧ t0 < S5.1 then kr_let (kc_sr S5 t0 2 a4) (fun S6 => (if (240 : Int32) < 0 then none else kc_al S6 (23, (240 : Int32).toNatClampNeg) fun a7 S8 => (if kr_sh t0 = (12, 0) ∧ t0 < S8.1 then kr_let (kc_sr S8 t0 3 a7) (fun S9 => (if (60 : Int32) < 0 then none else kc_al S9 (23, (60 : Int32).toNatClampNeg) fun a10 S11 => (if kr_sh t0 = (12, 0) ∧ t0 < S11.1 then kr_let (kc_sr S11 t0 4 a10) (fun S12 => (if (1400 : Int32) < 0 then none else kc_al S12 (21, (1400 : Int32).toNatClampNeg) fun a13 S14 => (if kr_sh t0 = (12, 0) ∧ t0 < S14.1 then kr_let (kc_sr S14 t0 5 a13) (fun S15 => (if kr_sh t0 = (12, 0) ∧ t0 < S15.1 then kr_let (kc_si S15 t0 15 (-1 : Int32)) (fun S16 => (if (5 : Int32) < 0 then none else kc_al S16 (20, (5 : Int32).toNatClampNeg) fun a17 S18 => (if kr_sh t0 = (12, 0) ∧ t0 < S18.1 then kr_let (kc_sr S18 t0 16 a17) (fun S19 => (if (40 : Int32) < 0 then none else kc_al S19 (20, (40 : Int32).toNatClampNeg) fun a20 S21 => (if kr_sh t0 = (12, 0) ∧ t0 < S21.1 then kr_let (kc_sr S21 t0 17 a20) (fun S22 => (if (30 : Int32) < 0 then none else kc_al S22 (20, (30 : Int32).toNatClampNeg) fun a23 S24 => (if kr_sh t0 = (12, 0) ∧ t0 < S24.1 then kr_let (kc_sr S24 t0 18 a23) (fun S25 => (if (30 : Int32) < 0 then none else kc_al S25 (20, (30 : Int32).toNatClampNeg) fun a26 S27 => (if kr_sh t0 = (12, 0) ∧ t0 < S27.1 then kr_let (kc_sr S27 t0 19 a26) (fun S28 => (if (50 : Int32) < 0 then none else kc_al S28 (20, (50 : Int32).toNatClampNeg) fun a29 S30 => (if kr_sh t0 = (12, 0) ∧ t0 < S30.1 then kr_let (kc_sr S30 t0 20 a29) (fun S31 => (if (50 : Int32) < 0 then none else kc_al S31 (20, (50 : Int32).toNatClampNeg) fun a32 S33 => (if kr_sh t0 = (12, 0) ∧ t0 < S33.1 then kr_let (kc_sr S33 t0 21 a32) (fun S34 => (if (200 : Int32) < 0 then none else kc_al S34 (20, (200 : Int32).toNatClampNeg) fun a35 S36 => (if kr_sh t0 = (12, 0) ∧ t0 < S36.1 then kr_let (kc_sr S36 t0 22 a35) (fun S37 => (if (120 : Int32) < 0 then none else kc_al S37 (20, (120 : Int32).toNatClampNeg) fun a38 S39 => (if kr_sh t0 = (12, 0) ∧ t0 < S39.1 then kr_let (kc_sr S39 t0 23 a38) (fun S40 => (if (360 : Int32) < 0 then none else kc_al S40 (20, (360 : Int32).toNatClampNeg) fun a41 S42 => (if kr_sh t0 = (12, 0) ∧ t0 < S42.1 then kr_let (kc_sr S42 t0 24 a41) (fun S43 => (if (90 : Int32) < 0 then none else kc_al S43 (20, (90 : Int32).toNatClampNeg) fun a44 S45 => (if kr_sh t0 = (12, 0) ∧ t0 < S45.1 then kr_let (kc_sr S45 t0 25 a44) (fun S46 => (if (800 : Int32) < 0 then none else kc_al S46 (20, (800 : Int32).toNatClampNeg) fun a47 S48 => (if kr_sh t0 = (12, 0) ∧ t0 < S48.1 then kr_let (kc_sr S48 t0 26 a47) (fun S49 => (if (3 : Int32) < 0 then none else kc_al S49 (22, (3 : Int32).toNatClampNeg) fun a50 S51 => (if kr_sh t0 = (12, 0) ∧ t0 < S51.1 then kr_let (kc_sr S51 t0 27 a50) (fun S52 => (if (144 : Int32) < 0 then none else kc_al S52 (20, (144 : Int32).toNatClampNeg) fun a53 S54 => (if kr_sh t0 = (12, 0) ∧ t0 < S54.1 then kr_let (kc_sr S54 t0 28 a53) (fun S55 => (if (6 : Int32) < 0 then none else kc_al S55 (20, (6 : Int32).toNatClampNeg) fun a56 S57 => (if kr_sh t0 = (12, 0) ∧ t0 < S57.1 then kr_let (kc_sr S57 t0 29 a56) (fun S58 => (if (6 : Int32) < 0 then none else kc_al S58 (20, (6 : Int32).toNatClampNeg) fun a59 S60 => (if kr_sh t0 = (12, 0) ∧ t0 < S60.1 then kr_let (kc_sr S60 t0 30 a59) (fun S61 => (if (6 : Int32) < 0 then none else kc_al S61 (20, (6 : Int32).toNatClampNeg) fun a62 S63 => (if kr_sh t0 = (12, 0) ∧ t0 < S63.1 then kr_let (kc_sr S63 t0 31 a62) (fun S64 => (if (24 : Int32) < 0 then none else kc_al S64 (20, (24 : Int32).toNatClampNeg) fun a65 S66 => (if kr_sh t0 = (12, 0) ∧ t0 < S66.1 then kr_let (kc_sr S66 t0 33 a65) (fun S67 => (if (25 : Int32) < 0 then none else kc_al S67 (20, (25 : Int32).toNatClampNeg) fun a68 S69 => (if kr_sh t0 = (12, 0) ∧ t0 < S69.1 then kr_let (kc_sr S69 t0 35 a68) (fun S70 => (if (25 : Int32) < 0 then none else kc_al S70 (20, (25 : Int32).toNatClampNeg) fun a71 S72 => (if kr_sh t0 = (12, 0) ∧ t0 < S72.1 then kr_let (kc_sr S72 t0 36 a71) (fun S73 => (if (25 : Int32) < 0 then none else kc_al S73 (20, (25 : Int32).toNatClampNeg) fun a74 S75 => (if kr_sh t0 = (12, 0) ∧ t0 < S75.1 then kr_let (kc_sr S75 t0 37 a74) (fun S76 => (if (60025 : Int32) < 0 then none else kc_al S76 (22, (60025 : Int32).toNatClampNeg) fun a77 S78 => (if kr_sh t0 = (12, 0) ∧ t0 < S78.1 then kr_let (kc_sr S78 t0 38 a77) (fun S79 => (if (501 : Int32) < 0 then none else kc_al S79 (20, (501 : Int32).toNatClampNeg) fun a80 S81 => (if kr_sh t0 = (12, 0) ∧ t0 < S81.1 then kr_let (kc_sr S81 t0 39 a80) (fun S82 => (if (144 : Int32) < 0 then none else kc_al S82 (22, (144 : Int32).toNatClampNeg) fun a83 S84 => (if kr_sh t0 = (12, 0) ∧ t0 < S84.1 then kr_let (kc_sr S84 t0 40 a83) (fun S85 => (if (144 : Int32) < 0 then none else kc_al S85 (20, (144 : Int32).toNatClampNeg) fun a86 S87 => (if kr_sh t0 = (12, 0) ∧ t0 < S87.1 then kr_let (kc_sr S87 t0 41 a86) (fun S88 => (if (6 : Int32) < 0 then none else kc_al S88 (20, (6 : Int32).toNatClampNeg) fun a89 S90 => (if kr_sh t0 = (12, 0) ∧ t0 < S90.1 then kr_let (kc_sr S90 t0 48 a89) (fun S91 => (if (6 : Int32) < 0 then none else kc_al S91 (20, (6 : Int32).toNatClampNeg) fun a92 S93 => (if kr_sh t0 = (12, 0) ∧ t0 < S93.1 then kr_let (kc_sr S93 t0 49 a92) (fun S94 => (if (625 : Int32) < 0 then none else kc_al S94 (20, (625 : Int32).toNatClampNeg) fun a95 S96 => (if kr_sh t0 = (12, 0) ∧ t0 < S96.1 then kr_let (kc_sr S96 t0 52 a95) (fun S97 => (if (64 : Int32) < 0 then none else kc_al S97 (20, (64 : Int32).toNatClampNeg) fun a98 S99 => (if kr_sh t0 = (12, 0) ∧ t0 < S99.1 then kr_let (kc_sr S99 t0 53 a98) (fun S100 => (if (64 : Int32) < 0 then none else kc_al S100 (20, (64 : Int32).toNatClampNeg) fun a101 S102 => (if kr_sh t0 = (12, 0) ∧ t0 < S102.1 then kr_let (kc_sr S102 t0 54 a101) (fun S103 => (if (12 : Int32) < 0 then none else kc_al S103 (20, (12 : Int32).toNatClampNeg) fun a104 S105 => (if kr_sh t0 = (12, 0) ∧ t0 < S105.1 then kr_let (kc_sr S105 t0 55 a104) (fun S106 => (if (64 : Int32) < 0 then none else kc_al S106 (20, (64 : Int32).toNatClampNeg) fun a107 S108 => (if kr_sh t0 = (12, 0) ∧ t0 < S108.1 then kr_let (kc_sr S108 t0 56 a107) (fun S109 => (if (64 : Int32) < 0 then none else kc_al S109 (20, (64 : Int32).toNatClampNeg) fun a110 S111 => (if kr_sh t0 = (12, 0) ∧ t0 < S111.1 then kr_let (kc_sr S111 t0 57 a110) (fun S112 => (if (25 : Int32) < 0 then none else kc_al S112 (20, (25 : Int32).toNatClampNeg) fun a113 S114 => (if kr_sh t0 = (12, 0) ∧ t0 < S114.1 then kr_let (kc_sr S114 t0 59 a113) (fun S115 => (if (600 : Int32) < 0 then none else kc_al S115 (20, (600 : Int32).toNatClampNeg) fun a116 S117 => (if kr_sh t0 = (12, 0) ∧ t0 < S117.1 then kr_let (kc_sr S117 t0 60 a116) (fun S118 => (if (24 : Int32) < 0 then none else kc_al S118 (20, (24 : Int32).toNatClampNeg) fun a119 S120 => (if kr_sh t0 = (12, 0) ∧ t0 < S120.1 then kr_let (kc_sr S120 t0 61 a119) (fun S121 => (c_X12_init_338 t0 kr_F (0 : Int32) S121)) else none))) else none))) else none))) else none))) else none))) else none))) else none))) else none))) else none))) else none))) else none))) else none))) else none))) else none))) else none))) else none))) else none))) else none))) else none))) else none))) else none))) else none))) else none))) else none))) else none))) else none))) else none))) else none))) else none))) else none))) else none))) else none))) else none))) else none))) else none))) else none)) else none))) else none))) else none))) else none))) else none))
set_option maxRecDepth 20000 in
theorem w_X12_init_338 (E : kr_E) (l0 : Nat) : ∀ (n : Nat) (l1 : Int32) (S : kc_S), kC E Y_X12_init 2 338 [(0, kr_r E l0), (1, .int l1)] [] S (c_X12_init_338 l0 n l1 S) := by
  intro n
  induction n with
  | zero => intro l1 S; exact kc_none
  | succ n ih =>
    intro l1 S
    rw [c_X12_init_338]
    refine kc_iload_n dX12_init_338 rfl 1 rfl ?_
    refine kc_iconst (v := 4) dX12_init_339 (by decide) ?_
    refine kc_icmp_ge (tgt := 356) dX12_init_340 (by decide) ?_ ?_
    · exact kc_vret dX12_init_356 rfl
    · refine kc_aload_n dX12_init_343 rfl 0 rfl ?_
      refine kc_getR (ci := 12) (j := 1) dX12_init_344 (kr_t 1333 (by decide +kernel) rfl) rfl (by decide) (fun b122 => ?_)
      refine kc_iload_n dX12_init_347 rfl 1 rfl ?_
      refine kc_iconst (v := -1) dX12_init_348 (by decide) ?_
      refine kc_iast dX12_init_349 (fun S123 => ?_)
      refine kc_iinc (j := 1) (v := (l1 + (1 : Int32))) (lv' := [(1, .int (l1 + (1 : Int32))), (0, kr_r E l0)]) dX12_init_350 rfl rfl (by decide) rfl ?_
      refine kc_goto (tgt := 338) dX12_init_353 (by decide) ?_
      refine kc_sub [1, 0] rfl ?_
      exact ih (l1 + (1 : Int32)) S123
set_option maxRecDepth 20000 in
theorem w_X12_init (E : kr_E) (t0 : Nat) (S : kc_S) : kC E Y_X12_init 2 0 [(0, kr_r E t0)] [] S (c_X12_init t0 S) := by
  rw [c_X12_init]
  refine kc_aload_n dX12_init_0 rfl 0 rfl ?_
  refine kc_obj dX12_init_1 (kr_t 1330 (by decide +kernel) rfl) (by decide) (Nat.le_of_ble_eq_true rfl) ?_
  refine kc_aload_n dX12_init_4 rfl 0 rfl ?_
  refine kc_iconst (v := 4) dX12_init_5 (by decide) ?_
  refine kc_newa (t := 20) (ty := .int) dX12_init_6 rfl rfl (by decide) (kr_t 102 (by decide +kernel) rfl) (by simp) (fun a1 S2 => ?_)
  refine kc_putF (ci := 12) (j := 1) dX12_init_8 (kr_t 1333 (by decide +kernel) rfl) rfl (by decide) rfl rfl rfl (fun S3 => ?_)
  refine kc_aload_n dX12_init_11 rfl 0 rfl ?_
  refine kc_iconst (v := 4) dX12_init_12 (by decide) ?_
  refine kc_newa (t := 20) (ty := .int) dX12_init_13 rfl rfl (by decide) (kr_t 102 (by decide +kernel) rfl) (by simp) (fun a4 S5 => ?_)
  refine kc_putF (ci := 12) (j := 2) dX12_init_15 (kr_t 1334 (by decide +kernel) rfl) rfl (by decide) rfl rfl rfl (fun S6 => ?_)
  refine kc_aload_n dX12_init_18 rfl 0 rfl ?_
  refine kc_sipush (v := 240) dX12_init_19 (by decide) ?_
  refine kc_newa (t := 23) (ty := .long) dX12_init_22 rfl rfl (by decide) (kr_t 324 (by decide +kernel) rfl) (by simp) (fun a7 S8 => ?_)
  refine kc_putF (ci := 12) (j := 3) dX12_init_24 (kr_t 1335 (by decide +kernel) rfl) rfl (by decide) rfl rfl rfl (fun S9 => ?_)
  refine kc_aload_n dX12_init_27 rfl 0 rfl ?_
  refine kc_bipush (v := 60) dX12_init_28 (by decide) ?_
  refine kc_newa (t := 23) (ty := .long) dX12_init_30 rfl rfl (by decide) (kr_t 324 (by decide +kernel) rfl) (by simp) (fun a10 S11 => ?_)
  refine kc_putF (ci := 12) (j := 4) dX12_init_32 (kr_t 1336 (by decide +kernel) rfl) rfl (by decide) rfl rfl rfl (fun S12 => ?_)
  refine kc_aload_n dX12_init_35 rfl 0 rfl ?_
  refine kc_sipush (v := 1400) dX12_init_36 (by decide) ?_
  refine kc_newa (t := 21) (ty := .byte) dX12_init_39 rfl rfl (by decide) (kr_t 64 (by decide +kernel) rfl) (by simp) (fun a13 S14 => ?_)
  refine kc_putF (ci := 12) (j := 5) dX12_init_41 (kr_t 1337 (by decide +kernel) rfl) rfl (by decide) rfl rfl rfl (fun S15 => ?_)
  refine kc_aload_n dX12_init_44 rfl 0 rfl ?_
  refine kc_iconst (v := -1) dX12_init_45 (by decide) ?_
  refine kc_putI (ci := 12) (j := 15) dX12_init_46 (kr_t 1347 (by decide +kernel) rfl) rfl rfl (fun S16 => ?_)
  refine kc_aload_n dX12_init_49 rfl 0 rfl ?_
  refine kc_iconst (v := 5) dX12_init_50 (by decide) ?_
  refine kc_newa (t := 20) (ty := .int) dX12_init_51 rfl rfl (by decide) (kr_t 102 (by decide +kernel) rfl) (by simp) (fun a17 S18 => ?_)
  refine kc_putF (ci := 12) (j := 16) dX12_init_53 (kr_t 1348 (by decide +kernel) rfl) rfl (by decide) rfl rfl rfl (fun S19 => ?_)
  refine kc_aload_n dX12_init_56 rfl 0 rfl ?_
  refine kc_bipush (v := 40) dX12_init_57 (by decide) ?_
  refine kc_newa (t := 20) (ty := .int) dX12_init_59 rfl rfl (by decide) (kr_t 102 (by decide +kernel) rfl) (by simp) (fun a20 S21 => ?_)
  refine kc_putF (ci := 12) (j := 17) dX12_init_61 (kr_t 1349 (by decide +kernel) rfl) rfl (by decide) rfl rfl rfl (fun S22 => ?_)
  refine kc_aload_n dX12_init_64 rfl 0 rfl ?_
  refine kc_bipush (v := 30) dX12_init_65 (by decide) ?_
  refine kc_newa (t := 20) (ty := .int) dX12_init_67 rfl rfl (by decide) (kr_t 102 (by decide +kernel) rfl) (by simp) (fun a23 S24 => ?_)
  refine kc_putF (ci := 12) (j := 18) dX12_init_69 (kr_t 1350 (by decide +kernel) rfl) rfl (by decide) rfl rfl rfl (fun S25 => ?_)
  refine kc_aload_n dX12_init_72 rfl 0 rfl ?_
  refine kc_bipush (v := 30) dX12_init_73 (by decide) ?_
  refine kc_newa (t := 20) (ty := .int) dX12_init_75 rfl rfl (by decide) (kr_t 102 (by decide +kernel) rfl) (by simp) (fun a26 S27 => ?_)
  refine kc_putF (ci := 12) (j := 19) dX12_init_77 (kr_t 1351 (by decide +kernel) rfl) rfl (by decide) rfl rfl rfl (fun S28 => ?_)
  refine kc_aload_n dX12_init_80 rfl 0 rfl ?_
  refine kc_bipush (v := 50) dX12_init_81 (by decide) ?_
  refine kc_newa (t := 20) (ty := .int) dX12_init_83 rfl rfl (by decide) (kr_t 102 (by decide +kernel) rfl) (by simp) (fun a29 S30 => ?_)
  refine kc_putF (ci := 12) (j := 20) dX12_init_85 (kr_t 1352 (by decide +kernel) rfl) rfl (by decide) rfl rfl rfl (fun S31 => ?_)
  refine kc_aload_n dX12_init_88 rfl 0 rfl ?_
  refine kc_bipush (v := 50) dX12_init_89 (by decide) ?_
  refine kc_newa (t := 20) (ty := .int) dX12_init_91 rfl rfl (by decide) (kr_t 102 (by decide +kernel) rfl) (by simp) (fun a32 S33 => ?_)
  refine kc_putF (ci := 12) (j := 21) dX12_init_93 (kr_t 1353 (by decide +kernel) rfl) rfl (by decide) rfl rfl rfl (fun S34 => ?_)
  refine kc_aload_n dX12_init_96 rfl 0 rfl ?_
  refine kc_sipush (v := 200) dX12_init_97 (by decide) ?_
  refine kc_newa (t := 20) (ty := .int) dX12_init_100 rfl rfl (by decide) (kr_t 102 (by decide +kernel) rfl) (by simp) (fun a35 S36 => ?_)
  refine kc_putF (ci := 12) (j := 22) dX12_init_102 (kr_t 1354 (by decide +kernel) rfl) rfl (by decide) rfl rfl rfl (fun S37 => ?_)
  refine kc_aload_n dX12_init_105 rfl 0 rfl ?_
  refine kc_bipush (v := 120) dX12_init_106 (by decide) ?_
  refine kc_newa (t := 20) (ty := .int) dX12_init_108 rfl rfl (by decide) (kr_t 102 (by decide +kernel) rfl) (by simp) (fun a38 S39 => ?_)
  refine kc_putF (ci := 12) (j := 23) dX12_init_110 (kr_t 1355 (by decide +kernel) rfl) rfl (by decide) rfl rfl rfl (fun S40 => ?_)
  refine kc_aload_n dX12_init_113 rfl 0 rfl ?_
  refine kc_sipush (v := 360) dX12_init_114 (by decide) ?_
  refine kc_newa (t := 20) (ty := .int) dX12_init_117 rfl rfl (by decide) (kr_t 102 (by decide +kernel) rfl) (by simp) (fun a41 S42 => ?_)
  refine kc_putF (ci := 12) (j := 24) dX12_init_119 (kr_t 1356 (by decide +kernel) rfl) rfl (by decide) rfl rfl rfl (fun S43 => ?_)
  refine kc_aload_n dX12_init_122 rfl 0 rfl ?_
  refine kc_bipush (v := 90) dX12_init_123 (by decide) ?_
  refine kc_newa (t := 20) (ty := .int) dX12_init_125 rfl rfl (by decide) (kr_t 102 (by decide +kernel) rfl) (by simp) (fun a44 S45 => ?_)
  refine kc_putF (ci := 12) (j := 25) dX12_init_127 (kr_t 1357 (by decide +kernel) rfl) rfl (by decide) rfl rfl rfl (fun S46 => ?_)
  refine kc_aload_n dX12_init_130 rfl 0 rfl ?_
  refine kc_sipush (v := 800) dX12_init_131 (by decide) ?_
  refine kc_newa (t := 20) (ty := .int) dX12_init_134 rfl rfl (by decide) (kr_t 102 (by decide +kernel) rfl) (by simp) (fun a47 S48 => ?_)
  refine kc_putF (ci := 12) (j := 26) dX12_init_136 (kr_t 1358 (by decide +kernel) rfl) rfl (by decide) rfl rfl rfl (fun S49 => ?_)
  refine kc_aload_n dX12_init_139 rfl 0 rfl ?_
  refine kc_iconst (v := 3) dX12_init_140 (by decide) ?_
  refine kc_newa (t := 22) (ty := .boolean) dX12_init_141 rfl rfl (by decide) (kr_t 323 (by decide +kernel) rfl) (by simp) (fun a50 S51 => ?_)
  refine kc_putF (ci := 12) (j := 27) dX12_init_143 (kr_t 1359 (by decide +kernel) rfl) rfl (by decide) rfl rfl rfl (fun S52 => ?_)
  refine kc_aload_n dX12_init_146 rfl 0 rfl ?_
  refine kc_sipush (v := 144) dX12_init_147 (by decide) ?_
  refine kc_newa (t := 20) (ty := .int) dX12_init_150 rfl rfl (by decide) (kr_t 102 (by decide +kernel) rfl) (by simp) (fun a53 S54 => ?_)
  refine kc_putF (ci := 12) (j := 28) dX12_init_152 (kr_t 1360 (by decide +kernel) rfl) rfl (by decide) rfl rfl rfl (fun S55 => ?_)
  refine kc_aload_n dX12_init_155 rfl 0 rfl ?_
  refine kc_bipush (v := 6) dX12_init_156 (by decide) ?_
  refine kc_newa (t := 20) (ty := .int) dX12_init_158 rfl rfl (by decide) (kr_t 102 (by decide +kernel) rfl) (by simp) (fun a56 S57 => ?_)
  refine kc_putF (ci := 12) (j := 29) dX12_init_160 (kr_t 1361 (by decide +kernel) rfl) rfl (by decide) rfl rfl rfl (fun S58 => ?_)
  refine kc_aload_n dX12_init_163 rfl 0 rfl ?_
  refine kc_bipush (v := 6) dX12_init_164 (by decide) ?_
  refine kc_newa (t := 20) (ty := .int) dX12_init_166 rfl rfl (by decide) (kr_t 102 (by decide +kernel) rfl) (by simp) (fun a59 S60 => ?_)
  refine kc_putF (ci := 12) (j := 30) dX12_init_168 (kr_t 1362 (by decide +kernel) rfl) rfl (by decide) rfl rfl rfl (fun S61 => ?_)
  refine kc_aload_n dX12_init_171 rfl 0 rfl ?_
  refine kc_bipush (v := 6) dX12_init_172 (by decide) ?_
  refine kc_newa (t := 20) (ty := .int) dX12_init_174 rfl rfl (by decide) (kr_t 102 (by decide +kernel) rfl) (by simp) (fun a62 S63 => ?_)
  refine kc_putF (ci := 12) (j := 31) dX12_init_176 (kr_t 1363 (by decide +kernel) rfl) rfl (by decide) rfl rfl rfl (fun S64 => ?_)
  refine kc_aload_n dX12_init_179 rfl 0 rfl ?_
  refine kc_bipush (v := 24) dX12_init_180 (by decide) ?_
  refine kc_newa (t := 20) (ty := .int) dX12_init_182 rfl rfl (by decide) (kr_t 102 (by decide +kernel) rfl) (by simp) (fun a65 S66 => ?_)
  refine kc_putF (ci := 12) (j := 33) dX12_init_184 (kr_t 1365 (by decide +kernel) rfl) rfl (by decide) rfl rfl rfl (fun S67 => ?_)
  refine kc_aload_n dX12_init_187 rfl 0 rfl ?_
  refine kc_bipush (v := 25) dX12_init_188 (by decide) ?_
  refine kc_newa (t := 20) (ty := .int) dX12_init_190 rfl rfl (by decide) (kr_t 102 (by decide +kernel) rfl) (by simp) (fun a68 S69 => ?_)
  refine kc_putF (ci := 12) (j := 35) dX12_init_192 (kr_t 1367 (by decide +kernel) rfl) rfl (by decide) rfl rfl rfl (fun S70 => ?_)
  refine kc_aload_n dX12_init_195 rfl 0 rfl ?_
  refine kc_bipush (v := 25) dX12_init_196 (by decide) ?_
  refine kc_newa (t := 20) (ty := .int) dX12_init_198 rfl rfl (by decide) (kr_t 102 (by decide +kernel) rfl) (by simp) (fun a71 S72 => ?_)
  refine kc_putF (ci := 12) (j := 36) dX12_init_200 (kr_t 1368 (by decide +kernel) rfl) rfl (by decide) rfl rfl rfl (fun S73 => ?_)
  refine kc_aload_n dX12_init_203 rfl 0 rfl ?_
  refine kc_bipush (v := 25) dX12_init_204 (by decide) ?_
  refine kc_newa (t := 20) (ty := .int) dX12_init_206 rfl rfl (by decide) (kr_t 102 (by decide +kernel) rfl) (by simp) (fun a74 S75 => ?_)
  refine kc_putF (ci := 12) (j := 37) dX12_init_208 (kr_t 1369 (by decide +kernel) rfl) rfl (by decide) rfl rfl rfl (fun S76 => ?_)
  refine kc_aload_n dX12_init_211 rfl 0 rfl ?_
  refine kc_ldc (v := 60025) dX12_init_212 (kr_t 1331 (by decide +kernel) rfl) ?_
  refine kc_newa (t := 22) (ty := .boolean) dX12_init_214 rfl rfl (by decide) (kr_t 323 (by decide +kernel) rfl) (by simp) (fun a77 S78 => ?_)
  refine kc_putF (ci := 12) (j := 38) dX12_init_216 (kr_t 1370 (by decide +kernel) rfl) rfl (by decide) rfl rfl rfl (fun S79 => ?_)
  refine kc_aload_n dX12_init_219 rfl 0 rfl ?_
  refine kc_sipush (v := 501) dX12_init_220 (by decide) ?_
  refine kc_newa (t := 20) (ty := .int) dX12_init_223 rfl rfl (by decide) (kr_t 102 (by decide +kernel) rfl) (by simp) (fun a80 S81 => ?_)
  refine kc_putF (ci := 12) (j := 39) dX12_init_225 (kr_t 1371 (by decide +kernel) rfl) rfl (by decide) rfl rfl rfl (fun S82 => ?_)
  refine kc_aload_n dX12_init_228 rfl 0 rfl ?_
  refine kc_sipush (v := 144) dX12_init_229 (by decide) ?_
  refine kc_newa (t := 22) (ty := .boolean) dX12_init_232 rfl rfl (by decide) (kr_t 323 (by decide +kernel) rfl) (by simp) (fun a83 S84 => ?_)
  refine kc_putF (ci := 12) (j := 40) dX12_init_234 (kr_t 1372 (by decide +kernel) rfl) rfl (by decide) rfl rfl rfl (fun S85 => ?_)
  refine kc_aload_n dX12_init_237 rfl 0 rfl ?_
  refine kc_sipush (v := 144) dX12_init_238 (by decide) ?_
  refine kc_newa (t := 20) (ty := .int) dX12_init_241 rfl rfl (by decide) (kr_t 102 (by decide +kernel) rfl) (by simp) (fun a86 S87 => ?_)
  refine kc_putF (ci := 12) (j := 41) dX12_init_243 (kr_t 1373 (by decide +kernel) rfl) rfl (by decide) rfl rfl rfl (fun S88 => ?_)
  refine kc_aload_n dX12_init_246 rfl 0 rfl ?_
  refine kc_bipush (v := 6) dX12_init_247 (by decide) ?_
  refine kc_newa (t := 20) (ty := .int) dX12_init_249 rfl rfl (by decide) (kr_t 102 (by decide +kernel) rfl) (by simp) (fun a89 S90 => ?_)
  refine kc_putF (ci := 12) (j := 48) dX12_init_251 (kr_t 1380 (by decide +kernel) rfl) rfl (by decide) rfl rfl rfl (fun S91 => ?_)
  refine kc_aload_n dX12_init_254 rfl 0 rfl ?_
  refine kc_bipush (v := 6) dX12_init_255 (by decide) ?_
  refine kc_newa (t := 20) (ty := .int) dX12_init_257 rfl rfl (by decide) (kr_t 102 (by decide +kernel) rfl) (by simp) (fun a92 S93 => ?_)
  refine kc_putF (ci := 12) (j := 49) dX12_init_259 (kr_t 1381 (by decide +kernel) rfl) rfl (by decide) rfl rfl rfl (fun S94 => ?_)
  refine kc_aload_n dX12_init_262 rfl 0 rfl ?_
  refine kc_sipush (v := 625) dX12_init_263 (by decide) ?_
  refine kc_newa (t := 20) (ty := .int) dX12_init_266 rfl rfl (by decide) (kr_t 102 (by decide +kernel) rfl) (by simp) (fun a95 S96 => ?_)
  refine kc_putF (ci := 12) (j := 52) dX12_init_268 (kr_t 1384 (by decide +kernel) rfl) rfl (by decide) rfl rfl rfl (fun S97 => ?_)
  refine kc_aload_n dX12_init_271 rfl 0 rfl ?_
  refine kc_bipush (v := 64) dX12_init_272 (by decide) ?_
  refine kc_newa (t := 20) (ty := .int) dX12_init_274 rfl rfl (by decide) (kr_t 102 (by decide +kernel) rfl) (by simp) (fun a98 S99 => ?_)
  refine kc_putF (ci := 12) (j := 53) dX12_init_276 (kr_t 1385 (by decide +kernel) rfl) rfl (by decide) rfl rfl rfl (fun S100 => ?_)
  refine kc_aload_n dX12_init_279 rfl 0 rfl ?_
  refine kc_bipush (v := 64) dX12_init_280 (by decide) ?_
  refine kc_newa (t := 20) (ty := .int) dX12_init_282 rfl rfl (by decide) (kr_t 102 (by decide +kernel) rfl) (by simp) (fun a101 S102 => ?_)
  refine kc_putF (ci := 12) (j := 54) dX12_init_284 (kr_t 1386 (by decide +kernel) rfl) rfl (by decide) rfl rfl rfl (fun S103 => ?_)
  refine kc_aload_n dX12_init_287 rfl 0 rfl ?_
  refine kc_bipush (v := 12) dX12_init_288 (by decide) ?_
  refine kc_newa (t := 20) (ty := .int) dX12_init_290 rfl rfl (by decide) (kr_t 102 (by decide +kernel) rfl) (by simp) (fun a104 S105 => ?_)
  refine kc_putF (ci := 12) (j := 55) dX12_init_292 (kr_t 1387 (by decide +kernel) rfl) rfl (by decide) rfl rfl rfl (fun S106 => ?_)
  refine kc_aload_n dX12_init_295 rfl 0 rfl ?_
  refine kc_bipush (v := 64) dX12_init_296 (by decide) ?_
  refine kc_newa (t := 20) (ty := .int) dX12_init_298 rfl rfl (by decide) (kr_t 102 (by decide +kernel) rfl) (by simp) (fun a107 S108 => ?_)
  refine kc_putF (ci := 12) (j := 56) dX12_init_300 (kr_t 1388 (by decide +kernel) rfl) rfl (by decide) rfl rfl rfl (fun S109 => ?_)
  refine kc_aload_n dX12_init_303 rfl 0 rfl ?_
  refine kc_bipush (v := 64) dX12_init_304 (by decide) ?_
  refine kc_newa (t := 20) (ty := .int) dX12_init_306 rfl rfl (by decide) (kr_t 102 (by decide +kernel) rfl) (by simp) (fun a110 S111 => ?_)
  refine kc_putF (ci := 12) (j := 57) dX12_init_308 (kr_t 1389 (by decide +kernel) rfl) rfl (by decide) rfl rfl rfl (fun S112 => ?_)
  refine kc_aload_n dX12_init_311 rfl 0 rfl ?_
  refine kc_bipush (v := 25) dX12_init_312 (by decide) ?_
  refine kc_newa (t := 20) (ty := .int) dX12_init_314 rfl rfl (by decide) (kr_t 102 (by decide +kernel) rfl) (by simp) (fun a113 S114 => ?_)
  refine kc_putF (ci := 12) (j := 59) dX12_init_316 (kr_t 1391 (by decide +kernel) rfl) rfl (by decide) rfl rfl rfl (fun S115 => ?_)
  refine kc_aload_n dX12_init_319 rfl 0 rfl ?_
  refine kc_sipush (v := 600) dX12_init_320 (by decide) ?_
  refine kc_newa (t := 20) (ty := .int) dX12_init_323 rfl rfl (by decide) (kr_t 102 (by decide +kernel) rfl) (by simp) (fun a116 S117 => ?_)
  refine kc_putF (ci := 12) (j := 60) dX12_init_325 (kr_t 1392 (by decide +kernel) rfl) rfl (by decide) rfl rfl rfl (fun S118 => ?_)
  refine kc_aload_n dX12_init_328 rfl 0 rfl ?_
  refine kc_bipush (v := 24) dX12_init_329 (by decide) ?_
  refine kc_newa (t := 20) (ty := .int) dX12_init_331 rfl rfl (by decide) (kr_t 102 (by decide +kernel) rfl) (by simp) (fun a119 S120 => ?_)
  refine kc_putF (ci := 12) (j := 61) dX12_init_333 (kr_t 1393 (by decide +kernel) rfl) rfl (by decide) rfl rfl rfl (fun S121 => ?_)
  refine kc_iconst (v := 0) dX12_init_336 (by decide) ?_
  refine kc_istore_n (lv' := [(1, .int (0 : Int32)), (0, kr_r E t0)]) dX12_init_337 rfl (by decide) rfl ?_
  refine kc_sub [1, 0] rfl ?_
  exact w_X12_init_338 E t0 _ (0 : Int32) S121
