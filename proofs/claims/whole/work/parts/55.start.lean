def kr_stm (i : Nat) : Term := Term.string RX6 ((kr_sx.getD i (0, "")).1)
abbrev kr_pre : List Cond := flatC (Jvm.Cond.and given_1 narrow_1)
theorem ks_ex : ∀ i, i < 17 → (Cond.exactly (kr_stm i) "java/lang/String") ∈ kr_pre := by decide +kernel
theorem ks_co : ∀ i, i < 17 → (Cond.eq (.field (kr_stm i) "java/lang/String" "coder" "B") (.int 0)) ∈ kr_pre := by decide +kernel
theorem ks_ar : ∀ i, i < 17 → (Cond.arrayOf (.field (kr_stm i) "java/lang/String" "value" "[B") .byte) ∈ kr_pre := by decide +kernel
theorem ks_le : ∀ i, i < 17 → (Cond.eq (.length (.field (kr_stm i) "java/lang/String" "value" "[B")) (.int (Int32.ofNat (kr_sn.getD i 0)))) ∈ kr_pre := by decide +kernel
theorem ks_el : ∀ i, i < 17 → ∀ j, j < kr_sn.getD i 0 → (Cond.eq (.elem (.field (kr_stm i) "java/lang/String" "value" "[B") (.int (Int32.ofNat j))) (.int ((kr_sb.getD i []).getD j 0))) ∈ kr_pre := by decide +kernel
theorem ks_ne_1 : ∀ i, i < 1 → kr_pre[67 + i]? = some (Cond.not (Cond.eq (kr_stm i) (kr_stm 1))) := by decide +kernel
theorem ks_ne_2 : ∀ i, i < 2 → kr_pre[76 + i]? = some (Cond.not (Cond.eq (kr_stm i) (kr_stm 2))) := by decide +kernel
theorem ks_ne_3 : ∀ i, i < 3 → kr_pre[86 + i]? = some (Cond.not (Cond.eq (kr_stm i) (kr_stm 3))) := by decide +kernel
theorem ks_ne_4 : ∀ i, i < 4 → kr_pre[97 + i]? = some (Cond.not (Cond.eq (kr_stm i) (kr_stm 4))) := by decide +kernel
theorem ks_ne_5 : ∀ i, i < 5 → kr_pre[111 + i]? = some (Cond.not (Cond.eq (kr_stm i) (kr_stm 5))) := by decide +kernel
theorem ks_ne_6 : ∀ i, i < 6 → kr_pre[124 + i]? = some (Cond.not (Cond.eq (kr_stm i) (kr_stm 6))) := by decide +kernel
theorem ks_ne_7 : ∀ i, i < 7 → kr_pre[138 + i]? = some (Cond.not (Cond.eq (kr_stm i) (kr_stm 7))) := by decide +kernel
theorem ks_ne_8 : ∀ i, i < 8 → kr_pre[154 + i]? = some (Cond.not (Cond.eq (kr_stm i) (kr_stm 8))) := by decide +kernel
theorem ks_ne_9 : ∀ i, i < 9 → kr_pre[170 + i]? = some (Cond.not (Cond.eq (kr_stm i) (kr_stm 9))) := by decide +kernel
theorem ks_ne_10 : ∀ i, i < 10 → kr_pre[185 + i]? = some (Cond.not (Cond.eq (kr_stm i) (kr_stm 10))) := by decide +kernel
theorem ks_ne_11 : ∀ i, i < 11 → kr_pre[204 + i]? = some (Cond.not (Cond.eq (kr_stm i) (kr_stm 11))) := by decide +kernel
theorem ks_ne_12 : ∀ i, i < 12 → kr_pre[221 + i]? = some (Cond.not (Cond.eq (kr_stm i) (kr_stm 12))) := by decide +kernel
theorem ks_ne_13 : ∀ i, i < 13 → kr_pre[243 + i]? = some (Cond.not (Cond.eq (kr_stm i) (kr_stm 13))) := by decide +kernel
theorem ks_ne_14 : ∀ i, i < 14 → kr_pre[266 + i]? = some (Cond.not (Cond.eq (kr_stm i) (kr_stm 14))) := by decide +kernel
theorem ks_ne_15 : ∀ i, i < 15 → kr_pre[288 + i]? = some (Cond.not (Cond.eq (kr_stm i) (kr_stm 15))) := by decide +kernel
theorem ks_ne_16 : ∀ i, i < 16 → kr_pre[309 + i]? = some (Cond.not (Cond.eq (kr_stm i) (kr_stm 16))) := by decide +kernel
theorem ks_ne0 : ∀ j, j < 17 → ∀ i, i < j → (Cond.not (Cond.eq (kr_stm i) (kr_stm j))) ∈ kr_pre := by
  intro j hj i hi
  match j, hj, hi with
  | 0, _, h => omega
  | 1, _, h => exact List.mem_of_getElem? (ks_ne_1 i h)
  | 2, _, h => exact List.mem_of_getElem? (ks_ne_2 i h)
  | 3, _, h => exact List.mem_of_getElem? (ks_ne_3 i h)
  | 4, _, h => exact List.mem_of_getElem? (ks_ne_4 i h)
  | 5, _, h => exact List.mem_of_getElem? (ks_ne_5 i h)
  | 6, _, h => exact List.mem_of_getElem? (ks_ne_6 i h)
  | 7, _, h => exact List.mem_of_getElem? (ks_ne_7 i h)
  | 8, _, h => exact List.mem_of_getElem? (ks_ne_8 i h)
  | 9, _, h => exact List.mem_of_getElem? (ks_ne_9 i h)
  | 10, _, h => exact List.mem_of_getElem? (ks_ne_10 i h)
  | 11, _, h => exact List.mem_of_getElem? (ks_ne_11 i h)
  | 12, _, h => exact List.mem_of_getElem? (ks_ne_12 i h)
  | 13, _, h => exact List.mem_of_getElem? (ks_ne_13 i h)
  | 14, _, h => exact List.mem_of_getElem? (ks_ne_14 i h)
  | 15, _, h => exact List.mem_of_getElem? (ks_ne_15 i h)
  | 16, _, h => exact List.mem_of_getElem? (ks_ne_16 i h)
  | n + 17, h, _ => omega
theorem ks_ne : ∀ i, i < 17 → ∀ j, j < 17 → i ≠ j → (Cond.not (Cond.eq (kr_stm i) (kr_stm j))) ∈ kr_pre ∨ (Cond.not (Cond.eq (kr_stm j) (kr_stm i))) ∈ kr_pre := by
  intro i hi j hj hne
  rcases Nat.lt_or_gt_of_ne hne with h | h
  · exact Or.inl (ks_ne0 j hj i h)
  · exact Or.inr (ks_ne0 i hi j h)
theorem ks_cs : (Cond.eq (.static "java/lang/String" "COMPACT_STRINGS" "Z") (.int 1)) ∈ kr_pre := by decide +kernel
theorem ks_sq : (Cond.isRef (.static "jdk/internal/util/Preconditions" "SIOOBE_FORMATTER" "Ljava/util/function/BiFunction;")) ∈ kr_pre := by decide +kernel
theorem ks_sn : ∀ i, i < 17 → kr_sn.getD i 0 < 2 ^ 31 := by decide +kernel
theorem ks_in : ∀ ci, ci < 13 → Cond.instantiable (kr_cn ci) (kr_cz ci) ∈ kr_T := by
  intro ci h
  match ci, h with
  | 0, _ => exact (kr_t 353 (by decide +kernel) rfl)
  | 1, _ => exact (kr_t 403 (by decide +kernel) rfl)
  | 2, _ => exact (kr_t 66 (by decide +kernel) rfl)
  | 3, _ => exact (kr_t 326 (by decide +kernel) rfl)
  | 4, _ => exact (kr_t 267 (by decide +kernel) rfl)
  | 5, _ => exact (kr_t 103 (by decide +kernel) rfl)
  | 6, _ => exact (kr_t 31 (by decide +kernel) rfl)
  | 7, _ => exact (kr_t 75 (by decide +kernel) rfl)
  | 8, _ => exact (kr_t 372 (by decide +kernel) rfl)
  | 9, _ => exact (kr_t 390 (by decide +kernel) rfl)
  | 10, _ => exact (kr_t 340 (by decide +kernel) rfl)
  | 11, _ => exact (kr_t 23 (by decide +kernel) rfl)
  | 12, _ => exact (kr_t 1326 (by decide +kernel) rfl)
  | n + 13, h => omega
theorem ks_sr : ∀ (i : Nat) (q : Nat × String), kr_sx[i]? = some q → Cond.stringRef RX6 q.1 q.2 ∈ lw_tbl := by
  intro i q h
  match i, h with
  | 0, h => cases h; exact List.mem_append_right _ (List.mem_of_getElem? (i := 518) (by decide +kernel))
  | 1, h => cases h; exact List.mem_append_right _ (List.mem_of_getElem? (i := 579) (by decide +kernel))
  | 2, h => cases h; exact List.mem_append_right _ (List.mem_of_getElem? (i := 592) (by decide +kernel))
  | 3, h => cases h; exact List.mem_append_right _ (List.mem_of_getElem? (i := 593) (by decide +kernel))
  | 4, h => cases h; exact List.mem_append_right _ (List.mem_of_getElem? (i := 594) (by decide +kernel))
  | 5, h => cases h; exact List.mem_append_right _ (List.mem_of_getElem? (i := 599) (by decide +kernel))
  | 6, h => cases h; exact List.mem_append_right _ (List.mem_of_getElem? (i := 600) (by decide +kernel))
  | 7, h => cases h; exact List.mem_append_right _ (List.mem_of_getElem? (i := 601) (by decide +kernel))
  | 8, h => cases h; exact List.mem_append_right _ (List.mem_of_getElem? (i := 614) (by decide +kernel))
  | 9, h => cases h; exact List.mem_append_right _ (List.mem_of_getElem? (i := 631) (by decide +kernel))
  | 10, h => cases h; exact List.mem_append_right _ (List.mem_of_getElem? (i := 636) (by decide +kernel))
  | 11, h => cases h; exact List.mem_append_right _ (List.mem_of_getElem? (i := 637) (by decide +kernel))
  | 12, h => cases h; exact List.mem_append_right _ (List.mem_of_getElem? (i := 638) (by decide +kernel))
  | 13, h => cases h; exact List.mem_append_right _ (List.mem_of_getElem? (i := 639) (by decide +kernel))
  | 14, h => cases h; exact List.mem_append_right _ (List.mem_of_getElem? (i := 644) (by decide +kernel))
  | 15, h => cases h; exact List.mem_append_right _ (List.mem_of_getElem? (i := 645) (by decide +kernel))
  | 16, h => cases h; exact List.mem_append_right _ (List.mem_of_getElem? (i := 646) (by decide +kernel))
  | n + 17, h => simp [kr_sx] at h
theorem ks_nl : ∀ q ∈ kr_nest, Cond.methodLinkNest q.1 q.2 yX11_lesser RX11 ∈ lw_tbl := by
  intro q hq
  simp only [kr_nest, List.mem_cons, List.not_mem_nil, or_false] at hq
  rcases hq with rfl | rfl | rfl | rfl | rfl
  · exact List.mem_append_right _ (List.mem_of_getElem? (i := 758) (by decide +kernel))
  · exact List.mem_append_right _ (List.mem_of_getElem? (i := 818) (by decide +kernel))
  · exact List.mem_append_right _ (List.mem_of_getElem? (i := 946) (by decide +kernel))
  · exact List.mem_append_right _ (List.mem_of_getElem? (i := 1047) (by decide +kernel))
  · exact List.mem_append_right _ (List.mem_of_getElem? (i := 1119) (by decide +kernel))
theorem ks_nc : ∀ q ∈ kc_nest, Cond.methodLinkNest q.1 q.2.1 q.2.2 RX11 ∈ lw_tbl := by
  intro q hq
  simp only [kc_nest, List.mem_cons, List.not_mem_nil, or_false] at hq
  rcases hq with rfl | rfl | rfl | rfl | rfl | rfl | rfl | rfl
  · exact List.mem_append_right _ (List.mem_of_getElem? (i := 32) (by decide +kernel))
  · exact List.mem_append_right _ (List.mem_of_getElem? (i := 104) (by decide +kernel))
  · exact List.mem_append_right _ (List.mem_of_getElem? (i := 327) (by decide +kernel))
  · exact List.mem_append_right _ (List.mem_of_getElem? (i := 341) (by decide +kernel))
  · exact List.mem_append_right _ (List.mem_of_getElem? (i := 354) (by decide +kernel))
  · exact List.mem_append_right _ (List.mem_of_getElem? (i := 373) (by decide +kernel))
  · exact List.mem_append_right _ (List.mem_of_getElem? (i := 391) (by decide +kernel))
  · exact List.mem_append_right _ (List.mem_of_getElem? (i := 404) (by decide +kernel))
theorem ks_ao_RX7 : Cond.arrayOver (.object RX7) ∈ lw_tbl := List.mem_append_right _ (List.mem_of_getElem? (i := 72) (by decide +kernel))
theorem ks_ao_RX5 : Cond.arrayOver (.object RX5) ∈ lw_tbl := List.mem_append_right _ (List.mem_of_getElem? (i := 74) (by decide +kernel))
theorem ks_ao_RX2 : Cond.arrayOver (.object RX2) ∈ lw_tbl := List.mem_append_right _ (List.mem_of_getElem? (i := 260) (by decide +kernel))
theorem ks_arr {s : State} {args : Array Value} {ty : FieldType} (h : (Cond.arrayClass ty).before args s = true) : ∃ cA, ArrOfT s cA ty ∧ s.vm.findClass ("[" ++ ty.toString) = some cA := by
  obtain ⟨c, k, comp, h1, h2, h3⟩ := Cond.arrayClass_spec h
  exact ⟨c, fun n z => ⟨fun k h => (by cases h), k, h2, comp, h3⟩, h1⟩
theorem ks_arq {s : State} {args : Array Value} {C : String} (h : (Cond.arrayOver (.object C)).before args s = true) : ∃ cA, ArrOfT s cA (.object C) ∧ va_RA s cA (.object C) := by
  obtain ⟨comp, c, k, h1, h2, h3, h4, h5⟩ := Cond.arrayOver_spec h
  exact ⟨c, fun n z => ⟨fun k h => (by cases h), k, h3, comp, h4⟩, k, comp, h3, h4, h1, h5⟩
/-- one more cell of a class, as the machine makes it -/
theorem kc_newX {E : kr_E} {S : kc_S} {s : State} {args : Array Value} {H H1 : Heap} {ci : Nat} {Ts : List Cond} {kC : Class} (hts : ∀ w ∈ Ts, w.before args s = true) (hin : ∀ w ∈ u_ws (kr_cn ci) (kr_ct ci) (kr_cz ci), w ∈ Ts) (hc : ci < 13) (hX : kc_X E S s H) (h0 : kr_sh S.1 = (ci, 0)) (hN : S.1 < kr_N) (f1 : S.2.1.all (fun e => decide (e.1 < S.1)) = true) (f2 : S.2.2.all (fun e => decide (e.1 < S.1)) = true) (hkC : s.vm.classes[E.2.2.1.1 ci]? = some kC) (e1 : H1[E.2.1 + S.1]? = some (blank (E.2.2.1.1 ci) kC)) (z1 : H1.size = E.2.1 + S.1 + 1) (o1 : ∀ q, q < E.2.1 + S.1 → H1[q]? = H[q]?) : kc_X E (kc_more S) s H1 := by
  obtain ⟨hP, hsz, hle, hK, hT⟩ := hX
  have hKn := hK.1 ci _ (kr_clat ci hc)
  refine ⟨kc_moreP hP (fun x hx => o1 x (by omega)) ?_, by rw [z1]; show _ = E.2.1 + (S.1 + 1); omega, hN, hK, hT⟩
  have ec : kc_cell E (kc_more S) S.1 = .inr (ci, kc_fs E.2.1 S.1 (kc_more S) ci) := by
    unfold kc_cell
    rw [h0]
    exact if_pos (by show ci < 20; omega)
  rw [ec]
  refine ⟨_, kr_clat ci hc, (u_born (kr_cty ci) hts hin hKn hkC e1 (kr_ctyok ci hc)).to (fun j hj => ?_)⟩
  have hjl : j < (kr_fd ci).length := by rw [kr_fdl ci hc]; exact hj
  obtain ⟨q0, hq0⟩ : ∃ q0, (kr_fd ci)[j]? = some q0 := ⟨_, List.getElem?_eq_getElem hjl⟩
  have hv : vp_V (kc_fs E.2.1 S.1 (kc_more S) ci) j = kc_fv E.2.1 S.1 (kc_more S) j q0 := by
    simp [vp_V, kc_fs, List.getElem?_mapIdx, hq0]
  rw [hv]
  have hd0 := kc_dflt ci hc j hj q0 hq0
  rw [hd0]
  simp [kc_fv, kc_more, va_rf, kc_im_0 _ _ f1, kc_rr_0 _ _ f2]
/-- a constructor called from the law -/
theorem kc_lawCall {E : kr_E} {S q : kc_S} {z : kr_Y} {d' i pc b L cells slots : Nat} {xs : Nat → Int32} {p : Program} {e : Env} {s : State} {m : MethodId} {below : List Frame} {meth : Method} {c : Code} {H : Heap} {ls : Array Slot} {st : List Value} {a : Nat} {Q : State → Prop} (C : lw_At p s m meth c b L xs) (hB : E.2.1 = s.heap.size) (Z : kc_Zi z 0) (hd : decode code pc = .ok (.invokespecial i, 3)) (hw : Cond.methodLink R_law i z.1 ∈ kr_T) (h : kC E z d' 0 [(0, kr_r E a)] [] S (some q)) (hz1 : 1 ≤ z.2.2.1) (hdd : d' ≤ 100) (hst : (st.map fun v => v.category).sum ≤ 8) (hX : kc_X E S s H) (hS : va_S (fun q => E.2.1 ≤ q) s.heap H []) (hls : ls.size = 4) (hc1 : cells + (q.1 - S.1) ≤ 600000) (hc2 : slots + (kc_sz q.1 - kc_sz S.1) ≤ 7302250) (hqN : q.1 ≤ kr_N)
    (hk : ∀ H1, kc_X E q s H1 → va_S (fun q => E.2.1 ≤ q) s.heap H1 [] → W p E.1 e room_1 s m #[Value.ref b] below meth c H1 [] (cells + (q.1 - S.1)) (slots + (kc_sz q.1 - kc_sz S.1)) Q (F0 m (pc + 3) ls st)) : W p E.1 e room_1 s m #[Value.ref b] below meth c H [] cells slots Q (F0 m pc ls (kr_r E a :: st)) := by
  obtain ⟨z1, z2, z3, z4, z5, z6, z7, z8⟩ := Z
  have hM := kc_ofC (E := E) (S := S) (As := [kr_r E a]) z6 rfl hz1 h rfl
  have hts := C.2.2.2.2.2.1
  have hW0 : kr_W0 z = Cond.code z.1 z.2.1 z.2.2.1 none :: kr_T := by unfold kr_W0; rw [z2]
  have hGood : GoodIn lw_tbl (kr_W0 z) := fun w hw' => by
    rw [hW0] at hw'
    have hk : w ∈ kr_T := by
      rcases List.mem_cons.mp hw' with h | h
      · rw [h]; exact z1
      · exact h
    exact ⟨(List.mem_filter.mp hk).1, kr_good w hk⟩
  have hrun := va_runI (R := room_1) (locs := []) (cells := cells) (slots := slots) (below := below) (meth := meth) (e := e) (bytes := z.2.1) (maxL := z.2.2.1) (n := 0) (own := R_law) (Ts := lw_tbl) (g := F0 m pc ls (kr_r E a :: st)) (H := H) (b := E.2.1 + a) (As := []) (rest := st) ⟨C.1, C.2.1, C.2.2.2.1, C.2.2.2.2.1, hts⟩ hM
    (cwI 0 hts hGood hW0 rfl rfl (C.word z4) (C.word hw) (C.word z3) z5 z7 ⟨by show d' + 1 ≤ 2048; omega, by show 8 + (z.2.2.1 + 11) + 64 * d' ≤ 84000; omega⟩)
    ⟨kc_blind, fun U hU hW => ⟨rfl, kc_X.enter hW hU hX⟩⟩ rfl rfl hls rfl (lv_room hst) hd ⟨hc1, hc2⟩
  intro T hT X
  obtain ⟨v, st₀, t, T', L', h0, X', hL', e1, e2, ⟨hv, hP1, hsz1, hz, hkk⟩, st1⟩ := hrun T hT X
  cases hv
  rw [h0] at hz hkk
  have X2 := Stand.forget (extra := L') X' (fun q hq' => by rw [← hB]; exact hL' q hq')
  obtain ⟨t2, a1, b1⟩ := hk T'.heap ⟨by rw [e1]; exact hP1, by rw [e1]; exact hsz1, hqN, hX.2.2.2⟩
    ⟨Nat.le_trans hS.1 (by rw [e1]; exact hz), fun x h1 h2 => by rw [e1, hkk x (Nat.lt_of_lt_of_le h1 hS.1) h2]; exact hS.2.1 x h1 h2, fun x hx => by cases hx⟩ T' rfl X2
  exact ⟨t2, st1 t2 a1, b1⟩
theorem kc_szN : kc_sz 387 ≤ 100000 := by decide +kernel
theorem kc_mono : ∀ n k, kc_sz n ≤ kc_sz (n + k)
  | n, 0 => Nat.le_refl _
  | n, k + 1 => Nat.le_trans (kc_mono n k) (by show kc_sz (n + k) ≤ kc_sz (n + k + 1); rw [kc_szs]; omega)
set_option maxHeartbeats 4000000 in
theorem kr_start {Sim : kr_M → Prop} (hop : kr_ok Sim) (hSim : Sim kr_M0) {p : Program} {e : Env} {s : State} {m : MethodId} {below : List Frame} {meth : Method} {c : Code} (l : Launch) {b L : Nat} {xs : Nat → Int32} (hL : L ≤ 3072) (C0 : lw_At p s m meth c b L xs) : W p l e room_1 s m #[Value.ref b] below meth c s.heap [] 0 0 (lw_Z below #[Value.ref b] s) (entryFrame m ([Value.ref b] : List Value).toArray 4) := by
  obtain ⟨hx, hb, hr, hml, hown, hts, hXs, hbl, hlocks, hgv⟩ := id C0
  have hpre := flat_of_before _ hgv
  have hA : ∀ a : Nat, a < s.heap.size → ¬ s.heap.size ≤ a := fun a h => Nat.not_le.mpr h
  -- classes
  have hcl : ∀ ci : Nat, ∃ q : ClassId × (Nat → Nat), ci < 13 → u_Kn s (kr_cn ci) (kr_ct ci) (kr_cz ci) q.1 q.2 := by
    intro ci
    by_cases hc : ci < 13
    · obtain ⟨cC, iS, h⟩ := u_known (C := kr_cn ci) (T := kr_ct ci) (N := kr_cz ci) (n := kr_cz ci) hts (fun w hw => (fun h => (List.mem_filter.mp h).1) (kr_inT ci hc w hw)) (hts _ ((fun h => (List.mem_filter.mp h).1) (ks_in ci hc)))
      exact ⟨(cC, iS), fun _ => h⟩
    · exact ⟨(0, fun _ => 0), fun h => absurd h hc⟩
  obtain ⟨fc, hfc⟩ := Classical.axiomOfChoice hcl
  -- rows
  obtain ⟨cI, aI, nI'⟩ := ks_arr (hts (Cond.arrayClass .int) ((fun h => (List.mem_filter.mp h).1) ((kr_t 102 (by decide +kernel) rfl) : Cond.arrayClass .int ∈ kr_T)))
  obtain ⟨cB, aB, nB⟩ := ks_arr (hts (Cond.arrayClass .byte) ((fun h => (List.mem_filter.mp h).1) ((kr_t 64 (by decide +kernel) rfl) : Cond.arrayClass .byte ∈ kr_T)))
  obtain ⟨cZ, aZ, nZ⟩ := ks_arr (hts (Cond.arrayClass .boolean) ((fun h => (List.mem_filter.mp h).1) ((kr_t 323 (by decide +kernel) rfl) : Cond.arrayClass .boolean ∈ kr_T)))
  obtain ⟨cJ, aJ, nJ⟩ := ks_arr (hts (Cond.arrayClass .long) ((fun h => (List.mem_filter.mp h).1) ((kr_t 324 (by decide +kernel) rfl) : Cond.arrayClass .long ∈ kr_T)))
  obtain ⟨cT, aT, nT⟩ := ks_arq (hts _ ks_ao_RX7)
  obtain ⟨cR, aR, nR⟩ := ks_arq (hts _ ks_ao_RX5)
  obtain ⟨cG, aG, nG⟩ := ks_arq (hts _ ks_ao_RX2)
  -- texts
  obtain ⟨adK, adV, hSt, hadK⟩ := vk_Sof (tm := kr_stm) (len := kr_sn) (byt := kr_sb) (N := 17) (A := fun q => s.heap.size ≤ q) ks_sn (fun i hi => hpre _ (ks_ex i hi)) (fun i hi => hpre _ (ks_co i hi)) (fun i hi => hpre _ (ks_ar i hi)) (fun i hi => hpre _ (ks_le i hi)) (fun i hi j hj => hpre _ (ks_el i hi j hj)) (fun i j hi hj hne => (ks_ne i hi j hj hne).elim (fun h => Or.inl (hpre _ h)) (fun h => Or.inr (hpre _ h))) hA
  let ct : Nat → ClassId := fun t => if t = 20 then cI else if t = 21 then cB else if t = 22 then cZ else if t = 23 then cJ else if t = 24 then cT else if t = 25 then cR else cG
  let E : kr_E := (l, s.heap.size, ((fun k => (fc k).1, fun k => (fc k).2) : va_G), (fun k => ct (kr_sh k).1), adK, adV)
  have hct : ∀ t, 20 ≤ t → t < 27 → ArrOfT s (ct t) (kr_ty t) ∧ va_RA s (ct t) (kr_ty t) := by
    intro t h1 h2
    rcases (show t = 20 ∨ t = 21 ∨ t = 22 ∨ t = 23 ∨ t = 24 ∨ t = 25 ∨ t = 26 by omega) with rfl | rfl | rfl | rfl | rfl | rfl | rfl
    · exact ⟨aI, nI'⟩
    · exact ⟨aB, nB⟩
    · exact ⟨aZ, nZ⟩
    · exact ⟨aJ, nJ⟩
    · exact ⟨aT, nT⟩
    · exact ⟨aR, nR⟩
    · exact ⟨aG, nG⟩
  have hK : va_K E.2.2.1 vwCl (kr_tys E.2.2.2.1) s := by
    refine ⟨fun k q hk => ?_, fun k q hk => ?_⟩
    · have hk13 : k < 13 := by
        have := (List.getElem?_eq_some_iff.mp hk).1
        exact this
      rw [kr_clat k hk13] at hk
      cases hk
      exact hfc k hk13
    · have hl : (kr_tys E.2.2.2.1).length = kr_N := by simp [kr_tys]
      have hlt : k < kr_N := by rw [← hl]; exact (List.getElem?_eq_some_iff.mp hk).1
      simp only [kr_tys, List.getElem?_map, List.getElem?_range hlt, Option.map_some] at hk
      cases hk
      by_cases h20 : (kr_sh k).1 < 20
      · simp only [h20, if_true]
        exact hct 21 (by decide) (by decide)
      · simp only [h20, if_false]
        exact hct _ (by omega) (by
          have h27 : ∀ k, k < kr_N → (kr_sh k).1 < 27 := by decide +kernel
          exact h27 k hlt)
  have hT : kc_T s := ⟨fun q hq => va_Nw.of rfl (hts _ (ks_nc q hq)), hts _ ks_ao_RX7, hts _ ks_ao_RX5, hts _ ks_ao_RX2⟩
  have hStr : kr_St E s s.heap := by
    refine ⟨fun i q hi => ?_, hSt, va_Zof (hts _ (List.mem_append_right _ (List.mem_of_getElem? (i := 532) (by decide +kernel)))) (hts _ (List.mem_append_right _ (List.mem_of_getElem? (i := 16) (by decide +kernel)))) (va_eqi (hpre _ ks_cs)) hA, va_Zqof (hts _ (List.mem_append_right _ (List.mem_of_getElem? (i := 548) (by decide +kernel)))) (hts _ (List.mem_append_right _ (List.mem_of_getElem? (i := 18) (by decide +kernel)))) (hpre _ ks_sq) hA, fun q hq => va_Nw.of rfl (hts _ (ks_nl q hq))⟩
    have hi17 : i < 17 := (List.getElem?_eq_some_iff.mp hi).1
    refine ⟨hts _ (ks_sr i q hi), ?_⟩
    have h1 := hadK i hi17
    unfold kr_stm at h1
    rw [List.getD_eq_getElem?_getD, hi] at h1
    first | exact h1 | (rw [Term.string_eval_of_vm (args := #[]) rfl]; exact h1)
  obtain ⟨S1, S2, g1, ⟨g2, f3, f4⟩, g3, g4, g5, g6⟩ := kc_made
  have hB : E.2.1 = s.heap.size := rfl
  have hX0 : kc_X E kc_S0 s s.heap := ⟨fun k q h => by simp [kc_ws, kc_S0] at h, rfl, Nat.zero_le _, hK, hT⟩
  have hS0 : va_S (fun q => E.2.1 ≤ q) s.heap s.heap [] := va_S.rf
  have hl := lv_entry ([.ref b]) (n := 4) (Nat.le_of_ble_eq_true rfl)
  rw [lg_entry_eq]
  generalize (lg_sl ([.ref b]) ++ List.replicate (4 - (lg_sl ([.ref b])).length) Slot.unset).toArray = ls at hl ⊢
  have hl : lv_has ls 4 [(0, .ref b)] := hl
  have w11 : ∀ w ∈ u_ws (kr_cn 11) (kr_ct 11) (kr_cz 11), w ∈ lw_tbl := fun w hw => (fun h => (List.mem_filter.mp h).1) (kr_inT 11 (by decide) w hw)
  have w12 : ∀ w ∈ u_ws (kr_cn 12) (kr_ct 12) (kr_cz 12), w ∈ lw_tbl := fun w hw => (fun h => (List.mem_filter.mp h).1) (kr_inT 12 (by decide) w hw)
  refine W.newcK (n := kr_cz 11) (C := kr_cn 11) (g := F0 m 0 ls []) hx hb hown (C0.word ((kr_t 22 (by decide +kernel) rfl) : Cond.classLink R_law 7 (kr_cn 11) ∈ kr_T)) (C0.word (ks_in 11 (by decide))) (C0.word ((kr_t 1 (by decide +kernel) rfl) : Cond.initialized (kr_cn 11) ∈ kr_T)) rfl dL_law_0 (by decide) (by decide) (hK.1 11 _ (kr_clat 11 (by decide))).2.1 rfl fun H1 kC hkC e1 z1 o1 => ?_
  have hX1 : kc_X E (kc_more kc_S0) s H1 := kc_newX hts w11 (by decide) hX0 (by decide +kernel) (by decide) rfl rfl hkC e1 z1 o1
  have hS1 : va_S (fun q => E.2.1 ≤ q) s.heap H1 [] := ⟨by omega, fun x h _ => o1 x h, fun x hx => by cases hx⟩
  refine lv_dup hx hb dL_law_3 rfl ?_
  have m1 : kc_sz 346 ≤ kc_sz 387 := kc_mono 346 41
  have hw1 := w_X11_init E 0 (kc_more kc_S0)
  rw [g1] at hw1
  refine kc_lawCall (e := e) (st := [kr_r E 0]) C0 hB zi_X11_init dL_law_4 ((kr_t 24 (by decide +kernel) rfl) : Cond.methodLink R_law 9 yX11_init ∈ kr_T) hw1 (by decide) (by decide) (Nat.le_of_ble_eq_true rfl) hX1 hS1 hl.1 ?_ ?_ (by rw [g2]; decide) (fun H2 hX2 hS2 => ?_)
  · rw [g2]; decide
  · rw [g2]
    have h1 := kc_szN
    have h2 : kr_cz 11 = 16 := rfl
    omega
  refine lv_astore_n (lv' := [(1, kr_r E 0), (0, .ref b)]) hx hb dL_law_7 rfl hl (by decide) rfl (fun ls hl => ?_)
  have hmN : S1.1 < kr_N := by rw [g2]; decide
  have hsh : kr_sh S1.1 = (12, 0) := by rw [g2]; decide +kernel
  refine W.newcK (n := kr_cz 12) (C := kr_cn 12) (g := F0 m 8 ls []) hx hb hown (C0.word ((kr_t 1325 (by decide +kernel) rfl) : Cond.classLink R_law 10 (kr_cn 12) ∈ kr_T)) (C0.word (ks_in 12 (by decide))) (C0.word ((kr_t 15 (by decide +kernel) rfl) : Cond.initialized (kr_cn 12) ∈ kr_T)) rfl dL_law_8 (by show _ + 1 ≤ 600000; rw [g2]; decide) (by show _ + kr_cz 12 ≤ 7302250; rw [g2]; have := kc_szN; have e2 : kr_cz 12 = 62 := rfl; have e3 : kr_cz 11 = 16 := rfl; have : (kc_more kc_S0).1 = 1 := rfl; omega) (hK.1 12 _ (kr_clat 12 (by decide))).2.1 hX2.2.1 fun H3 kC2 hkC2 e3 z3 o3 => ?_
  have hX3 : kc_X E (kc_more S1) s H3 := kc_newX hts w12 (by decide) hX2 hsh hmN f3 f4 hkC2 e3 z3 o3
  have hS3 : va_S (fun q => E.2.1 ≤ q) s.heap H3 [] := ⟨by rw [z3]; have := hX2.2.1; have : E.2.1 = s.heap.size := rfl; omega, fun x h h' => (o3 x (by have : E.2.1 = s.heap.size := rfl; omega)).trans (hS2.2.1 x h h'), fun x hx => by cases hx⟩
  refine lv_dup hx hb dL_law_11 rfl ?_
  have hw2 := w_X12_init E 346 (kc_more S1)
  rw [g3] at hw2
  have e346 : E.2.1 + S1.1 = E.2.1 + 346 := by rw [g2]
  rw [e346]
  refine kc_lawCall (e := e) (st := [kr_r E 346]) C0 hB zi_X12_init dL_law_12 ((kr_t 1327 (by decide +kernel) rfl) : Cond.methodLink R_law 12 yX12_init ∈ kr_T) hw2 (by decide) (by decide) (Nat.le_of_ble_eq_true rfl) hX3 hS3 hl.1 ?_ ?_ (by rw [g4]; decide) (fun H4 hX4 hS4 => ?_)
  · have e1 : (kc_more S1).1 = 347 := by show S1.1 + 1 = 347; rw [g2]
    rw [e1, g2, g4]; decide
  · have e1 : (kc_more S1).1 = 347 := by show S1.1 + 1 = 347; rw [g2]
    rw [e1, g2, g4]
    have := kc_szN
    have e2 : kr_cz 12 = 62 := rfl
    have e3 : kr_cz 11 = 16 := rfl
    have : (kc_more kc_S0).1 = 1 := rfl
    omega
  refine lv_astore_n (lv' := [(2, kr_r E 346), (1, kr_r E 0), (0, .ref b)]) hx hb dL_law_15 rfl hl (by decide) rfl (fun ls hl => ?_)
  refine lv_iconst (v := 0) hx hb dL_law_16 (by decide) ?_
  refine lv_istore_n (lv' := [(3, .int 0), (2, kr_r E 346), (1, kr_r E 0), (0, .ref b)]) hx hb dL_law_17 rfl hl (by decide) rfl (fun ls hl => ?_)
  refine W.widen (k := 600000) (n := 7302250) ?_ ?_ ?_
  · have e1 : (kc_more S1).1 = 347 := by show S1.1 + 1 = 347; rw [g2]
    rw [e1, g2, g4]; decide
  · have e1 : (kc_more S1).1 = 347 := by show S1.1 + 1 = 347; rw [g2]
    rw [e1, g2, g4]
    have := kc_szN
    have e2 : kr_cz 12 = 62 := rfl
    have e3 : kr_cz 11 = 16 := rfl
    have : (kc_more kc_S0).1 = 1 := rfl
    omega
  have hXf : kr_X E kr_M0 s H4 := ⟨kc_done g4 g5 g6 hX4.1, hK, hStr⟩
  exact kl_loop hop E b L xs hL (L + 7) 0 kr_M0 hSim (by omega) (by omega) p e s m below meth c H4 ls C0 hB hXf hS4 (lv_sub hl [3, 2, 1, 0] rfl)

