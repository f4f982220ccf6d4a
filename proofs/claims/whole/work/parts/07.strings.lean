def kr_slen (s : Nat) : Int32 := Int32.ofNat (kr_sn.getD s 0)
def kr_sch (s : Nat) (i : Int32) : Int32 := ((kr_sb.getD s []).getD i.toNatClampNeg 0)
abbrev Y_J0_coder : kr_Y := (yJ0_coder_7d493, cJ0_coder_7d493, 1, some .byte)
abbrev Y_J0_length : kr_Y := (yJ0_length_8abf5, cJ0_length_8abf5, 1, some .int)
abbrev Y_J0_isLatin1 : kr_Y := (yJ0_isLatin1_aae02, cJ0_isLatin1_aae02, 1, some .boolean)
abbrev Y_J0_charAt : kr_Y := (yJ0_charAt_5068e, cJ0_charAt_5068e, 2, some .char)
abbrev Y_J0_checkIndex : kr_Y := (yJ0_checkIndex_df160, cJ0_checkIndex_df160, 2, none)
abbrev Y_J1_charAt : kr_Y := (yJ1_charAt_3b067, cJ1_charAt_3b067, 2, some .char)
abbrev Y_J3_checkIndex : kr_Y := (yJ3_checkIndex_8e157, cJ3_checkIndex_8e157, 3, some .int)
theorem dj_coder_0 : decode cJ0_coder_7d493 0 = .ok (.getstatic 38, 3) := by decide +kernel
theorem dj_coder_3 : decode cJ0_coder_7d493 3 = .ok (.ifCond .eq 10, 3) := by decide +kernel
theorem dj_coder_6 : decode cJ0_coder_7d493 6 = .ok (.aload_n 0, 1) := by decide +kernel
theorem dj_coder_7 : decode cJ0_coder_7d493 7 = .ok (.getfield 15, 3) := by decide +kernel
theorem dj_coder_10 : decode cJ0_coder_7d493 10 = .ok (.goto 4, 3) := by decide +kernel
theorem dj_coder_14 : decode cJ0_coder_7d493 14 = .ok (.ireturn, 1) := by decide +kernel
theorem dj_length_0 : decode cJ0_length_8abf5 0 = .ok (.aload_n 0, 1) := by decide +kernel
theorem dj_length_1 : decode cJ0_length_8abf5 1 = .ok (.getfield 9, 3) := by decide +kernel
theorem dj_length_4 : decode cJ0_length_8abf5 4 = .ok (.arraylength, 1) := by decide +kernel
theorem dj_length_5 : decode cJ0_length_8abf5 5 = .ok (.aload_n 0, 1) := by decide +kernel
theorem dj_length_6 : decode cJ0_length_8abf5 6 = .ok (.invokevirtual 335, 3) := by decide +kernel
theorem dj_length_9 : decode cJ0_length_8abf5 9 = .ok (.ishr, 1) := by decide +kernel
theorem dj_length_10 : decode cJ0_length_8abf5 10 = .ok (.ireturn, 1) := by decide +kernel
theorem dj_isLatin1_0 : decode cJ0_isLatin1_aae02 0 = .ok (.getstatic 38, 3) := by decide +kernel
theorem dj_isLatin1_3 : decode cJ0_isLatin1_aae02 3 = .ok (.ifCond .eq 14, 3) := by decide +kernel
theorem dj_isLatin1_6 : decode cJ0_isLatin1_aae02 6 = .ok (.aload_n 0, 1) := by decide +kernel
theorem dj_isLatin1_7 : decode cJ0_isLatin1_aae02 7 = .ok (.getfield 15, 3) := by decide +kernel
theorem dj_isLatin1_10 : decode cJ0_isLatin1_aae02 10 = .ok (.ifCond .ne 7, 3) := by decide +kernel
theorem dj_isLatin1_13 : decode cJ0_isLatin1_aae02 13 = .ok (.iconst 1, 1) := by decide +kernel
theorem dj_isLatin1_14 : decode cJ0_isLatin1_aae02 14 = .ok (.goto 4, 3) := by decide +kernel
theorem dj_isLatin1_18 : decode cJ0_isLatin1_aae02 18 = .ok (.ireturn, 1) := by decide +kernel
theorem dj_charAt_0 : decode cJ0_charAt_5068e 0 = .ok (.aload_n 0, 1) := by decide +kernel
theorem dj_charAt_1 : decode cJ0_charAt_5068e 1 = .ok (.invokevirtual 492, 3) := by decide +kernel
theorem dj_charAt_4 : decode cJ0_charAt_5068e 4 = .ok (.ifCond .eq 12, 3) := by decide +kernel
theorem dj_charAt_7 : decode cJ0_charAt_5068e 7 = .ok (.aload_n 0, 1) := by decide +kernel
theorem dj_charAt_8 : decode cJ0_charAt_5068e 8 = .ok (.getfield 9, 3) := by decide +kernel
theorem dj_charAt_11 : decode cJ0_charAt_5068e 11 = .ok (.iload_n 1, 1) := by decide +kernel
theorem dj_charAt_12 : decode cJ0_charAt_5068e 12 = .ok (.invokestatic 495, 3) := by decide +kernel
theorem dj_charAt_15 : decode cJ0_charAt_5068e 15 = .ok (.ireturn, 1) := by decide +kernel
theorem dj_ci_0 : decode cJ0_checkIndex_df160 0 = .ok (.iload_n 0, 1) := by decide +kernel
theorem dj_ci_1 : decode cJ0_checkIndex_df160 1 = .ok (.iload_n 1, 1) := by decide +kernel
theorem dj_ci_2 : decode cJ0_checkIndex_df160 2 = .ok (.getstatic 1053, 3) := by decide +kernel
theorem dj_ci_5 : decode cJ0_checkIndex_df160 5 = .ok (.invokestatic 1059, 3) := by decide +kernel
theorem dj_ci_8 : decode cJ0_checkIndex_df160 8 = .ok (.pop, 1) := by decide +kernel
theorem dj_ci_9 : decode cJ0_checkIndex_df160 9 = .ok (.return_, 1) := by decide +kernel
theorem dj_pi_0 : decode cJ3_checkIndex_8e157 0 = .ok (.iload_n 0, 1) := by decide +kernel
theorem dj_pi_1 : decode cJ3_checkIndex_8e157 1 = .ok (.ifCond .lt 8, 3) := by decide +kernel
theorem dj_pi_4 : decode cJ3_checkIndex_8e157 4 = .ok (.iload_n 0, 1) := by decide +kernel
theorem dj_pi_5 : decode cJ3_checkIndex_8e157 5 = .ok (.iload_n 1, 1) := by decide +kernel
theorem dj_pi_6 : decode cJ3_checkIndex_8e157 6 = .ok (.if_icmp .lt 10, 3) := by decide +kernel
theorem dj_pi_16 : decode cJ3_checkIndex_8e157 16 = .ok (.iload_n 0, 1) := by decide +kernel
theorem dj_pi_17 : decode cJ3_checkIndex_8e157 17 = .ok (.ireturn, 1) := by decide +kernel
theorem dj_lc_0 : decode cJ1_charAt_3b067 0 = .ok (.iload_n 1, 1) := by decide +kernel
theorem dj_lc_1 : decode cJ1_charAt_3b067 1 = .ok (.aload_n 0, 1) := by decide +kernel
theorem dj_lc_2 : decode cJ1_charAt_3b067 2 = .ok (.arraylength, 1) := by decide +kernel
theorem dj_lc_3 : decode cJ1_charAt_3b067 3 = .ok (.invokestatic 9, 3) := by decide +kernel
theorem dj_lc_6 : decode cJ1_charAt_3b067 6 = .ok (.aload_n 0, 1) := by decide +kernel
theorem dj_lc_7 : decode cJ1_charAt_3b067 7 = .ok (.iload_n 1, 1) := by decide +kernel
theorem dj_lc_8 : decode cJ1_charAt_3b067 8 = .ok (.baload, 1) := by decide +kernel
theorem dj_lc_9 : decode cJ1_charAt_3b067 9 = .ok (.sipush 255, 3) := by decide +kernel
theorem dj_lc_12 : decode cJ1_charAt_3b067 12 = .ok (.iand, 1) := by decide +kernel
theorem dj_lc_13 : decode cJ1_charAt_3b067 13 = .ok (.i2c, 1) := by decide +kernel
theorem dj_lc_14 : decode cJ1_charAt_3b067 14 = .ok (.ireturn, 1) := by decide +kernel
section KRS
variable {ρ : Type} {rv : ρ → Option Value × kr_M} {E : kr_E} {y : kr_Y} {d pc : Nat} {lv lv' : List (Nat × Value)} {st : List Value} {M : kr_M} {res : Option ρ}
theorem kr_gets {i : Nat} (hd : decode y.2.1 pc = .ok (.getstatic i, 3)) (hw : Cond.fieldLink y.1.cls i "java/lang/String" "COMPACT_STRINGS" "Z" ∈ kr_T) (k : kR rv E y d (pc + 3) lv (.int 1 :: st) M res) : kR rv E y d pc lv st M res := by
  intro q hq p e s m args below meth c H locs ls C hX hS hl
  exact va_gets C.1 C.2.1 hX.2.2.2.2.1 hS C.own (C.word hw) (fun _ h => h) hd (k q hq p e s m args below meth c H locs ls C hX hS hl)
theorem kr_getq {i : Nat} (hd : decode y.2.1 pc = .ok (.getstatic i, 3)) (hw : Cond.fieldLink y.1.cls i "jdk/internal/util/Preconditions" "SIOOBE_FORMATTER" "Ljava/util/function/BiFunction;" ∈ kr_T) (k : ∀ v : Value, v.category = 1 → kR rv E y d (pc + 3) lv (v :: st) M res) : kR rv E y d pc lv st M res := by
  intro q hq p e s m args below meth c H locs ls C hX hS hl
  rcases hX.2.2.2.2.2.1 with h | ⟨t, h⟩
  · exact va_gets C.1 C.2.1 h hS C.own (C.word hw) (fun _ h => h) hd (k _ rfl q hq p e s m args below meth c H locs ls C hX hS hl)
  · exact va_gets C.1 C.2.1 h hS C.own (C.word hw) (fun _ h => h) hd (k _ rfl q hq p e s m args below meth c H locs ls C hX hS hl)
theorem kr_getsc {t i : Nat} (ht : t < 17) (hd : decode y.2.1 pc = .ok (.getfield i, 3)) (hw : Cond.fieldLink y.1.cls i "java/lang/String" "coder" "B" ∈ kr_T) (k : kR rv E y d (pc + 3) lv (.int 0 :: st) M res) : kR rv E y d pc lv (.ref (E.2.2.2.2.1 t) :: st) M res := by
  intro q hq p e s m args below meth c H locs ls C hX hS hl
  exact vk_getf C.1 C.2.1 (hX.2.2.2.1.1 t ht).2.1 hS C.own (C.word hw) (fun _ h => h) hd (k q hq p e s m args below meth c H locs ls C hX hS hl)
theorem kr_getsv {t i : Nat} (ht : t < 17) (hd : decode y.2.1 pc = .ok (.getfield i, 3)) (hw : Cond.fieldLink y.1.cls i "java/lang/String" "value" "[B" ∈ kr_T) (k : kR rv E y d (pc + 3) lv (.ref (E.2.2.2.2.2 t) :: st) M res) : kR rv E y d pc lv (.ref (E.2.2.2.2.1 t) :: st) M res := by
  intro q hq p e s m args below meth c H locs ls C hX hS hl
  exact vk_getf C.1 C.2.1 (hX.2.2.2.1.1 t ht).2.2.1 hS C.own (C.word hw) (fun _ h => h) hd (k q hq p e s m args below meth c H locs ls C hX hS hl)
theorem kr_slenv {t : Nat} (ht : t < 17) (hd : decode y.2.1 pc = .ok (.arraylength, 1)) (k : kR rv E y d (pc + 1) lv (.int (kr_slen t) :: st) M res) : kR rv E y d pc lv (.ref (E.2.2.2.2.2 t) :: st) M res := by
  intro q hq p e s m args below meth c H locs ls C hX hS hl
  exact va_tlen C.1 C.2.1 (hX.2.2.2.1.1 t ht).2.2.2 hS rfl hd (k q hq p e s m args below meth c H locs ls C hX hS hl)
theorem kr_sbald {t : Nat} {x : Int32} (ht : t < 17) (hi : kr_in x (kr_sn.getD t 0)) (hd : decode y.2.1 pc = .ok (.baload, 1)) (k : kR rv E y d (pc + 1) lv (.int (kr_sch t x) :: st) M res) : kR rv E y d pc lv (.int x :: .ref (E.2.2.2.2.2 t) :: st) M res := by
  intro q hq p e s m args below meth c H locs ls C hX hS hl
  exact va_tb C.1 C.2.1 (hX.2.2.2.1.1 t ht).2.2.2 hS hi rfl hd (k q hq p e s m args below meth c H locs ls C hX hS hl)
theorem kr_pop {v : Value} (hd : decode y.2.1 pc = .ok (.pop, 1)) (hc : v.category = 1) (k : kR rv E y d (pc + 1) lv st M res) : kR rv E y d pc lv (v :: st) M res := by
  intro q hq p e s m args below meth c H locs ls C hX hS hl
  exact lv_pop C.1 C.2.1 hd hc (k q hq p e s m args below meth c H locs ls C hX hS hl)
theorem kr_nret {v : Int32} {ty : FieldType} (hd : decode y.2.1 pc = .ok (.ireturn, 1)) (hr : y.2.2.2 = some ty) (hv : narrow ty (.int v) = .int v) : kR kr_vi E y d pc lv [.int v] M (some (v, M)) := by
  intro q hq p e s m args below meth c H locs ls C hX hS hl
  cases hq
  exact W.zret C.1 C.2.1 (C.2.2.1.trans hr) hv (fun t ht _ => kr_fin hX hS ht) hS.2.2 hd (hlocks := C.2.2.2.2.2.2)
/-- a call of a static method of which the answer is known -/
theorem kr_callK {σ : Type} {rz : σ → Option Value × kr_M} {z : kr_Y} {d' n i : Nat} {As : List Value} {lv0 : List (Nat × Value)} {q0 : σ} {stk : List Value} (Z : kr_Zs z n) (hd : decode y.2.1 pc = .ok (.invokestatic i, 3)) (hw : Cond.methodLink y.1.cls i z.1 ∈ kr_T) (h : kR rz E z d' 0 lv0 [] M (some q0)) (hstk : stk = As.reverse ++ st) (hlv : lv_args 0 As = lv0) (hln : (lg_sl As).length ≤ z.2.2.1) (hn : As.length = n) (hdd : d' < d) (hst : (st.map fun v => v.category).sum ≤ 8)
    (hk : kR rv E y d (pc + 3) lv ((rz q0).1.toList ++ st) (rz q0).2 res) : kR rv E y d pc lv stk M res := by
  refine kr_goes (rz := rz) (f := some q0) (k := fun _ => res) (a := As.toArray) (fun q hf p e s m args below meth c H locs ls C hX hS hl => ?_) (fun q hq => by cases hq; exact hk)
  obtain ⟨z1, z2, z4, z7, z8, z9⟩ := Z
  have hM := kr_ofR (E := E) (M := M) z7 hlv hln h hf
  exact va_runS (bytes := z.2.1) (maxL := z.2.2.1) (ret := z.2.2.2) (n := n) (own := y.1.cls) (Ts := kr_W0 y) ⟨C.1, C.2.1, C.2.2.2.1, C.own, C.words⟩ hM
    (va_cwS n C.words (kr_goodIn y z z1 [.methodLink y.1.cls i z.1, .static z.1, .initialized z.1.cls] (fun w hw' => by
      simp only [List.mem_cons, List.not_mem_nil, or_false] at hw'
      rcases hw' with rfl | rfl | rfl
      · exact hw
      · exact z2
      · exact z4)) rfl rfl rfl z8 (kr_room hdd z9))
    ⟨kr_blind, fun U hU hW => ⟨rfl, kr_X.enter hW hU hS hX⟩⟩ rfl hn hl.1 hstk (lv_room hst) hd ⟨Nat.le_refl _, Nat.le_refl _⟩
/-- a call on a text constant of which the answer is known -/
def kr_Zt (z : kr_Y) (n : Nat) : Prop := Cond.code z.1 z.2.1 z.2.2.1 z.2.2.2 ∈ kr_T ∧ Cond.instanceMethod z.1 ∈ kr_T ∧ Cond.selects z.1.cls z.1 z.1 ∈ kr_T ∧ Cond.initialized z.1.cls ∈ kr_T ∧ z.1.cls = "java/lang/String" ∧ plainName z.1.cls = true ∧ (z.1.cls ≠ "java/lang/invoke/MethodHandle" ∧ z.1.cls ≠ "java/lang/invoke/VarHandle" ∧ (parseMethodDescriptor z.1.desc).map (fun d => d.parameters.length) = some n) ∧ z.2.2.1 ≤ 40
theorem kr_callT {σ : Type} {rz : σ → Option Value × kr_M} {z : kr_Y} {d' n t i : Nat} {As : List Value} {lv0 : List (Nat × Value)} {q0 : σ} {stk : List Value} (Z : kr_Zt z n) (ht : t < 17) (hd : decode y.2.1 pc = .ok (.invokevirtual i, 3)) (hw : Cond.methodLink y.1.cls i z.1 ∈ kr_T) (h : kR rz E z d' 0 lv0 [] M (some q0)) (hstk : stk = As.reverse ++ .ref (E.2.2.2.2.1 t) :: st) (hlv : lv_args 0 (.ref (E.2.2.2.2.1 t) :: As) = lv0) (hln : (lg_sl (.ref (E.2.2.2.2.1 t) :: As)).length ≤ z.2.2.1) (hn : As.length = n) (hdd : d' < d) (hst : (st.map fun v => v.category).sum ≤ 8)
    (hk : kR rv E y d (pc + 3) lv ((rz q0).1.toList ++ st) (rz q0).2 res) : kR rv E y d pc lv stk M res := by
  refine kr_goes (rz := rz) (f := some q0) (k := fun _ => res) (a := (.ref (E.2.2.2.2.1 t) :: As).toArray) (fun q hf p e s m args below meth c H locs ls C hX hS hl => ?_) (fun q hq => by cases hq; exact hk)
  obtain ⟨z1, z2, z3, z4, z5, z7, z8, z9⟩ := Z
  have hM := kr_ofR (E := E) (M := M) z7 hlv hln h hf
  exact va_runV (C := z.1.cls) (bytes := z.2.1) (maxL := z.2.2.1) (ret := z.2.2.2) (n := n) (own := y.1.cls) (Ts := kr_W0 y) ⟨C.1, C.2.1, C.2.2.2.1, C.own, C.words⟩ hM
    (cwV n C.words (kr_goodIn y z z1 [.methodLink y.1.cls i z.1, .instanceMethod z.1, .selects z.1.cls z.1 z.1, .initialized z.1.cls] (fun w hw' => by
      simp only [List.mem_cons, List.not_mem_nil, or_false] at hw'
      rcases hw' with rfl | rfl | rfl | rfl
      · exact hw
      · exact z2
      · exact z3
      · exact z4)) rfl rfl rfl ⟨rfl, z8⟩ (kr_room hdd z9))
    ⟨kr_blind, by rw [z5]; exact vk_recv hX.2.2.2.1 ht hS, fun U hU hW => ⟨rfl, kr_X.enter hW hU hS hX⟩⟩ rfl hn hl.1 hstk (lv_room hst) hd ⟨Nat.le_refl _, Nat.le_refl _⟩
end KRS
theorem zt_coder : kr_Zt Y_J0_coder 0 := ⟨kr_t 530 (by decide +kernel) rfl, kr_t 528 (by decide +kernel) rfl, kr_t 529 (by decide +kernel) rfl, kr_t 16 (by decide +kernel) rfl, rfl, by decide +kernel, ⟨by decide +kernel, by decide +kernel, by decide +kernel⟩, by decide⟩
theorem zt_length : kr_Zt Y_J0_length 0 := ⟨kr_t 526 (by decide +kernel) rfl, kr_t 524 (by decide +kernel) rfl, kr_t 525 (by decide +kernel) rfl, kr_t 16 (by decide +kernel) rfl, rfl, by decide +kernel, ⟨by decide +kernel, by decide +kernel, by decide +kernel⟩, by decide⟩
theorem zt_isLatin1 : kr_Zt Y_J0_isLatin1 0 := ⟨kr_t 540 (by decide +kernel) rfl, kr_t 538 (by decide +kernel) rfl, kr_t 539 (by decide +kernel) rfl, kr_t 16 (by decide +kernel) rfl, rfl, by decide +kernel, ⟨by decide +kernel, by decide +kernel, by decide +kernel⟩, by decide⟩
theorem zt_charAt : kr_Zt Y_J0_charAt 1 := ⟨kr_t 536 (by decide +kernel) rfl, kr_t 534 (by decide +kernel) rfl, kr_t 535 (by decide +kernel) rfl, kr_t 16 (by decide +kernel) rfl, rfl, by decide +kernel, ⟨by decide +kernel, by decide +kernel, by decide +kernel⟩, by decide⟩
theorem zs_ci : kr_Zs Y_J0_checkIndex 2 := ⟨kr_t 546 (by decide +kernel) rfl, kr_t 545 (by decide +kernel) rfl, kr_t 16 (by decide +kernel) rfl, by decide +kernel, ⟨by decide +kernel, by decide +kernel, by decide +kernel⟩, by decide⟩
theorem zs_lc : kr_Zs Y_J1_charAt 2 := ⟨kr_t 543 (by decide +kernel) rfl, kr_t 542 (by decide +kernel) rfl, kr_t 17 (by decide +kernel) rfl, by decide +kernel, ⟨by decide +kernel, by decide +kernel, by decide +kernel⟩, by decide⟩
theorem zs_pi : kr_Zs Y_J3_checkIndex 3 := ⟨kr_t 551 (by decide +kernel) rfl, kr_t 550 (by decide +kernel) rfl, kr_t 18 (by decide +kernel) rfl, by decide +kernel, ⟨by decide +kernel, by decide +kernel, by decide +kernel⟩, by decide⟩
theorem rj_coder (E : kr_E) (t : Nat) (ht : t < 17) (M : kr_M) : kR kr_vi E Y_J0_coder 1 0 [(0, .ref (E.2.2.2.2.1 t))] [] M (some (0, M)) := by
  refine kr_gets dj_coder_0 (kr_t 531 (by decide +kernel) rfl) ?_
  refine kr_if_eq (ra := none) (rb := some (0, M)) (x := 1) (tgt := 13) dj_coder_3 (by decide) kr_none ?_
  refine kr_aload_n dj_coder_6 rfl 0 rfl ?_
  refine kr_getsc ht dj_coder_7 (kr_t 2124 (by decide +kernel) rfl) ?_
  refine kr_goto (tgt := 14) dj_coder_10 (by decide) ?_
  exact kr_nret dj_coder_14 rfl rfl
theorem rj_length (E : kr_E) (t : Nat) (ht : t < 17) (M : kr_M) : kR kr_vi E Y_J0_length 2 0 [(0, .ref (E.2.2.2.2.1 t))] [] M (some (kr_slen t, M)) := by
  refine kr_aload_n dj_length_0 rfl 0 rfl ?_
  refine kr_getsv ht dj_length_1 (kr_t 2123 (by decide +kernel) rfl) ?_
  refine kr_slenv ht dj_length_4 ?_
  refine kr_aload_n dj_length_5 rfl 0 rfl ?_
  refine kr_callT (As := []) (st := [.int (kr_slen t)]) zt_coder ht dj_length_6 (kr_t 527 (by decide +kernel) rfl) (rj_coder E t ht M) rfl rfl (Nat.le_of_ble_eq_true rfl) rfl (by decide) (Nat.le_of_ble_eq_true rfl) ?_
  refine kr_ishr (x := kr_slen t) (z := 0) dj_length_9 ?_
  have h1 : ∀ t, t < 17 → kr_slen t >>> ((0 : Int32) &&& 31) = kr_slen t := by decide +kernel
  rw [h1 t ht]
  exact kr_iret dj_length_10 rfl
theorem rj_isLatin1 (E : kr_E) (t : Nat) (ht : t < 17) (M : kr_M) : kR kr_vi E Y_J0_isLatin1 1 0 [(0, .ref (E.2.2.2.2.1 t))] [] M (some (1, M)) := by
  refine kr_gets dj_isLatin1_0 (kr_t 531 (by decide +kernel) rfl) ?_
  refine kr_if_eq (ra := none) (rb := some (1, M)) (x := 1) (tgt := 17) dj_isLatin1_3 (by decide) kr_none ?_
  refine kr_aload_n dj_isLatin1_6 rfl 0 rfl ?_
  refine kr_getsc ht dj_isLatin1_7 (kr_t 2124 (by decide +kernel) rfl) ?_
  refine kr_if_ne (ra := none) (rb := some (1, M)) (x := 0) (tgt := 17) dj_isLatin1_10 (by decide) kr_none ?_
  refine kr_iconst (v := 1) dj_isLatin1_13 (by decide) ?_
  refine kr_goto (tgt := 18) dj_isLatin1_14 (by decide) ?_
  exact kr_zret1 dj_isLatin1_18 rfl rfl
theorem rj_pi (E : kr_E) (x n : Int32) (v : Value) (M : kr_M) (h0 : ¬ x < 0) (h1 : x < n) : kR kr_vi E Y_J3_checkIndex 1 0 [(0, .int x), (1, .int n), (2, v)] [] M (some (x, M)) := by
  refine kr_iload_n dj_pi_0 rfl 0 rfl ?_
  have e0 : some (x, M) = if x < 0 then none else some (x, M) := by rw [if_neg h0]
  rw [e0]
  refine kr_if_lt (tgt := 9) dj_pi_1 (by decide) kr_none ?_
  refine kr_iload_n dj_pi_4 rfl 0 rfl ?_
  refine kr_iload_n dj_pi_5 rfl 1 rfl ?_
  have e1 : some (x, M) = if x < n then some (x, M) else none := by rw [if_pos h1]
  rw [e1]
  refine kr_icmp_lt (tgt := 16) dj_pi_6 (by decide) ?_ kr_none
  refine kr_iload_n dj_pi_16 rfl 0 rfl ?_
  exact kr_iret dj_pi_17 rfl
theorem rj_ci (E : kr_E) (x n : Int32) (M : kr_M) (h0 : ¬ x < 0) (h1 : x < n) : kR kr_vv E Y_J0_checkIndex 2 0 [(0, .int x), (1, .int n)] [] M (some M) := by
  refine kr_iload_n dj_ci_0 rfl 0 rfl ?_
  refine kr_iload_n dj_ci_1 rfl 1 rfl ?_
  refine kr_getq dj_ci_2 (kr_t 547 (by decide +kernel) rfl) (fun v hv => ?_)
  refine kr_callK (As := [.int x, .int n, v]) (st := []) zs_pi dj_ci_5 (kr_t 549 (by decide +kernel) rfl) (rj_pi E x n v M h0 h1) rfl (by simp [lv_args, hv, show (Value.int x).category = 1 from rfl, show (Value.int n).category = 1 from rfl]) (by simp [lg_sl, hv, show (Value.int x).category = 1 from rfl, show (Value.int n).category = 1 from rfl]) rfl (by decide) (Nat.le_of_ble_eq_true rfl) ?_
  refine kr_pop dj_ci_8 rfl ?_
  exact kr_vret dj_ci_9 rfl
theorem kr_asc : ∀ t, t < 17 → ∀ i, i < 6 → (((kr_sb.getD t []).getD i 0 &&& 255 : Int32).toUInt32 % 65536).toInt32 = (kr_sb.getD t []).getD i 0 := by decide +kernel
theorem kr_s6 : ∀ t, t < 17 → kr_sn.getD t 0 ≤ 6 := by decide +kernel
theorem kr_inlt {x : Int32} {n : Nat} (h : kr_in x n) (hn : n < 2 ^ 31) : ¬ x < 0 ∧ x < Int32.ofNat n := by
  obtain ⟨j, hj, rfl⟩ := vp_in_of h hn
  exact ⟨nI_pos (by omega), nI_lt hj hn⟩
theorem rj_lc (E : kr_E) (t : Nat) (ht : t < 17) (x : Int32) (hx : kr_in x (kr_sn.getD t 0)) (M : kr_M) : kR kr_vi E Y_J1_charAt 3 0 [(0, .ref (E.2.2.2.2.2 t)), (1, .int x)] [] M (some (kr_sch t x, M)) := by
  have h6 := kr_s6 t ht
  have hb := kr_inlt hx (by omega)
  refine kr_iload_n dj_lc_0 rfl 1 rfl ?_
  refine kr_aload_n dj_lc_1 rfl 0 rfl ?_
  refine kr_slenv ht dj_lc_2 ?_
  refine kr_callK (rz := kr_vv) (As := [.int x, .int (kr_slen t)]) (st := []) zs_ci dj_lc_3 (kr_t 544 (by decide +kernel) rfl) (rj_ci E x (kr_slen t) M hb.1 hb.2) rfl rfl (Nat.le_of_ble_eq_true rfl) rfl (by decide) (Nat.le_of_ble_eq_true rfl) ?_
  refine kr_aload_n dj_lc_6 rfl 0 rfl ?_
  refine kr_iload_n dj_lc_7 rfl 1 rfl ?_
  refine kr_sbald ht hx dj_lc_8 ?_
  refine kr_sipush (v := 255) dj_lc_9 (by decide) ?_
  refine kr_iand dj_lc_12 ?_
  refine kr_i2c dj_lc_13 ?_
  have e := kr_asc t ht x.toNatClampNeg (Nat.lt_of_lt_of_le (Nat.not_le.mp fun q => hx (Or.inr q)) h6)
  have e2 : some (kr_sch t x, M) = some (((kr_sch t x &&& 255).toUInt32 % 65536).toInt32, M) := by
    unfold kr_sch
    rw [e]
  rw [e2]
  exact kr_nret dj_lc_14 rfl (pk_nc _)
theorem rj_charAt (E : kr_E) (t : Nat) (ht : t < 17) (x : Int32) (hx : kr_in x (kr_sn.getD t 0)) (M : kr_M) : kR kr_vi E Y_J0_charAt 4 0 [(0, .ref (E.2.2.2.2.1 t)), (1, .int x)] [] M (some (kr_sch t x, M)) := by
  have h6 := kr_s6 t ht
  refine kr_aload_n dj_charAt_0 rfl 0 rfl ?_
  refine kr_callT (As := []) (st := []) zt_isLatin1 ht dj_charAt_1 (kr_t 537 (by decide +kernel) rfl) (rj_isLatin1 E t ht M) rfl rfl (Nat.le_of_ble_eq_true rfl) rfl (by decide) (Nat.le_of_ble_eq_true rfl) ?_
  refine kr_if_eq (ra := none) (rb := some (kr_sch t x, M)) (x := 1) (tgt := 16) dj_charAt_4 (by decide) kr_none ?_
  refine kr_aload_n dj_charAt_7 rfl 0 rfl ?_
  refine kr_getsv ht dj_charAt_8 (kr_t 2123 (by decide +kernel) rfl) ?_
  refine kr_iload_n dj_charAt_11 rfl 1 rfl ?_
  refine kr_callK (rz := kr_vi) (As := [.ref (E.2.2.2.2.2 t), .int x]) (st := []) zs_lc dj_charAt_12 (kr_t 541 (by decide +kernel) rfl) (rj_lc E t ht x hx M) rfl rfl (Nat.le_of_ble_eq_true rfl) rfl (by decide) (Nat.le_of_ble_eq_true rfl) ?_
  have e := kr_asc t ht x.toNatClampNeg (Nat.lt_of_lt_of_le (Nat.not_le.mp fun q => hx (Or.inr q)) h6)
  refine kr_nret dj_charAt_15 rfl ?_
  unfold kr_sch
  rw [← e]
  exact pk_nc _
section KRS
variable {ρ : Type} {rv : ρ → Option Value × kr_M} {E : kr_E} {y : kr_Y} {d pc : Nat} {lv lv' : List (Nat × Value)} {st : List Value} {M : kr_M} {res : Option ρ}
theorem kr_strlen {t i : Nat} {k : Int32 → Option ρ} (hd : decode y.2.1 pc = .ok (.invokevirtual i, 3)) (hw : Cond.methodLink y.1.cls i yJ0_length_8abf5 ∈ kr_T) (ht : t < 17) (hdd : 4 < d) (hst : (st.map fun v => v.category).sum ≤ 8) (h : ∀ z, kR rv E y d (pc + 3) lv (.int z :: st) M (k z)) : kR rv E y d pc lv (.ref (E.2.2.2.2.1 t) :: st) M (kr_let (kr_slen t) k) :=
  kr_callT (rz := kr_vi) (d' := 2) (As := []) (st := st) zt_length ht hd hw (rj_length E t ht M) rfl rfl (Nat.le_of_ble_eq_true rfl) rfl (by omega) hst (h _)
theorem kr_strchr {t i : Nat} {x : Int32} {k : Int32 → Option ρ} (hd : decode y.2.1 pc = .ok (.invokevirtual i, 3)) (hw : Cond.methodLink y.1.cls i yJ0_charAt_5068e ∈ kr_T) (ht : t < 17) (hdd : 4 < d) (hst : (st.map fun v => v.category).sum ≤ 8) (h : ∀ z, kR rv E y d (pc + 3) lv (.int z :: st) M (k z)) : kR rv E y d pc lv (.int x :: .ref (E.2.2.2.2.1 t) :: st) M (if kr_in x (kr_sn.getD t 0) then kr_let (kr_sch t x) k else none) := by
  by_cases hx : kr_in x (kr_sn.getD t 0)
  · rw [if_pos hx]
    exact kr_callT (rz := kr_vi) (d' := 4) (As := [.int x]) (st := st) zt_charAt ht hd hw (rj_charAt E t ht x hx M) rfl rfl (Nat.le_of_ble_eq_true rfl) rfl hdd hst (h _)
  · rw [if_neg hx]
    exact kr_none
end KRS
