/-! the world of the two objects after they were made: cells in the order of their making, by a layout; memory as rows of numbers -/
abbrev kr_M : Type := (Nat → Nat → Int32) × (Nat → Nat → Int64) × (Nat × Nat × Nat)
abbrev kr_E : Type := Launch × Nat × va_G × (Nat → ClassId) × (Nat → Nat) × (Nat → Nat)
abbrev kr_Y : Type := MethodName × ByteArray × Nat × Option FieldType
abbrev kr_r (E : kr_E) (t : Nat) : Value := .ref (E.2.1 + t)
abbrev kr_in (i : Int32) (n : Nat) : Prop := ¬ (i < 0 ∨ n ≤ i.toNatClampNeg)
def kr_let {α β : Type} (v : α) (k : α → β) : β := k v
def kr_gr (M : kr_M) (j : Nat) : Nat := if j = 0 then M.2.2.1 else if j = 1 then M.2.2.2.1 else M.2.2.2.2
def kr_si (M : kr_M) (a k : Nat) (x : Int32) : kr_M := (fun b => if b = a then upd (M.1 a) k x else M.1 b, M.2)
def kr_sl (M : kr_M) (a k : Nat) (x : Int64) : kr_M := (M.1, fun b => if b = a then vp_updL (M.2.1 a) k x else M.2.1 b, M.2.2)
def kr_sr (M : kr_M) (j g : Nat) : kr_M := (M.1, M.2.1, if j = 0 then (g, M.2.2.2) else if j = 1 then (M.2.2.1, g, M.2.2.2.2) else (M.2.2.1, M.2.2.2.1, g))
def kr_ci (M : kr_M) (a b sp dp n : Nat) : kr_M := (fun c => if c = b then va_cpy (M.1 a) (M.1 b) sp dp n else M.1 c, M.2)
def kr_cl (M : kr_M) (a b sp dp n : Nat) : kr_M := (M.1, fun c => if c = b then va_cpy (M.2.1 a) (M.2.1 b) sp dp n else M.2.1 c, M.2.2)
def kr_shL : List (Nat × Nat) := [(11, 0), (6, 0), (21, 1400), (2, 0), (20, 6), (20, 6), (24, 10), (20, 10), (25, 6), (20, 6), (20, 6), (20, 6), (20, 6), (20, 160), (7, 0), (20, 4), (7, 0), (20, 4), (7, 0), (20, 4), (7, 0), (20, 4), (7, 0), (20, 4), (7, 0), (20, 4), (7, 0), (20, 4), (7, 0), (20, 4), (7, 0), (20, 4), (7, 0), (20, 4), (5, 0), (7, 0), (20, 12), (7, 0), (20, 24), (5, 0), (7, 0), (20, 12), (7, 0), (20, 24), (5, 0), (7, 0), (20, 12), (7, 0), (20, 24), (5, 0), (7, 0), (20, 12), (7, 0), (20, 24), (5, 0), (7, 0), (20, 12), (7, 0), (20, 24), (5, 0), (7, 0), (20, 12), (7, 0), (20, 24), (2, 0), (20, 6), (20, 6), (24, 10), (20, 10), (25, 6), (20, 6), (20, 6), (20, 6), (20, 6), (20, 160), (7, 0), (20, 4), (7, 0), (20, 4), (7, 0), (20, 4), (7, 0), (20, 4), (7, 0), (20, 4), (7, 0), (20, 4), (7, 0), (20, 4), (7, 0), (20, 4), (7, 0), (20, 4), (7, 0), (20, 4), (5, 0), (7, 0), (20, 12), (7, 0), (20, 24), (5, 0), (7, 0), (20, 12), (7, 0), (20, 24), (5, 0), (7, 0), (20, 12), (7, 0), (20, 24), (5, 0), (7, 0), (20, 12), (7, 0), (20, 24), (5, 0), (7, 0), (20, 12), (7, 0), (20, 24), (5, 0), (7, 0), (20, 12), (7, 0), (20, 24), (26, 3), (2, 0), (20, 6), (20, 6), (24, 10), (20, 10), (25, 6), (20, 6), (20, 6), (20, 6), (20, 6), (20, 160), (7, 0), (20, 4), (7, 0), (20, 4), (7, 0), (20, 4), (7, 0), (20, 4), (7, 0), (20, 4), (7, 0), (20, 4), (7, 0), (20, 4), (7, 0), (20, 4), (7, 0), (20, 4), (7, 0), (20, 4), (5, 0), (7, 0), (20, 12), (7, 0), (20, 24), (5, 0), (7, 0), (20, 12), (7, 0), (20, 24), (5, 0), (7, 0), (20, 12), (7, 0), (20, 24), (5, 0), (7, 0), (20, 12), (7, 0), (20, 24), (5, 0), (7, 0), (20, 12), (7, 0), (20, 24), (5, 0), (7, 0), (20, 12), (7, 0), (20, 24), (2, 0), (20, 6), (20, 6), (24, 10), (20, 10), (25, 6), (20, 6), (20, 6), (20, 6), (20, 6), (20, 160), (7, 0), (20, 4), (7, 0), (20, 4), (7, 0), (20, 4), (7, 0), (20, 4), (7, 0), (20, 4), (7, 0), (20, 4), (7, 0), (20, 4), (7, 0), (20, 4), (7, 0), (20, 4), (7, 0), (20, 4), (5, 0), (7, 0), (20, 12), (7, 0), (20, 24), (5, 0), (7, 0), (20, 12), (7, 0), (20, 24), (5, 0), (7, 0), (20, 12), (7, 0), (20, 24), (5, 0), (7, 0), (20, 12), (7, 0), (20, 24), (5, 0), (7, 0), (20, 12), (7, 0), (20, 24), (5, 0), (7, 0), (20, 12), (7, 0), (20, 24), (2, 0), (20, 6), (20, 6), (24, 10), (20, 10), (25, 6), (20, 6), (20, 6), (20, 6), (20, 6), (20, 160), (7, 0), (20, 4), (7, 0), (20, 4), (7, 0), (20, 4), (7, 0), (20, 4), (7, 0), (20, 4), (7, 0), (20, 4), (7, 0), (20, 4), (7, 0), (20, 4), (7, 0), (20, 4), (7, 0), (20, 4), (5, 0), (7, 0), (20, 12), (7, 0), (20, 24), (5, 0), (7, 0), (20, 12), (7, 0), (20, 24), (5, 0), (7, 0), (20, 12), (7, 0), (20, 24), (5, 0), (7, 0), (20, 12), (7, 0), (20, 24), (5, 0), (7, 0), (20, 12), (7, 0), (20, 24), (5, 0), (7, 0), (20, 12), (7, 0), (20, 24), (22, 3), (23, 240), (20, 4), (20, 4), (7, 0), (20, 24), (4, 0), (7, 0), (20, 24), (20, 25), (20, 25), (20, 25), (20, 25), (20, 144), (23, 950), (3, 0), (20, 25), (20, 600), (10, 0), (20, 10), (20, 501), (0, 0), (20, 36), (20, 384), (20, 25), (8, 0), (20, 64), (20, 64), (20, 7), (9, 0), (20, 6), (20, 36), (1, 0), (20, 64), (20, 64), (20, 64), (20, 64), (12, 0), (20, 4), (20, 4), (23, 240), (23, 60), (21, 1400), (20, 5), (20, 40), (20, 30), (20, 30), (20, 50), (20, 50), (20, 200), (20, 120), (20, 360), (20, 90), (20, 800), (22, 3), (20, 144), (20, 6), (20, 6), (20, 6), (20, 24), (20, 25), (20, 25), (20, 25), (22, 60025), (20, 501), (22, 144), (20, 144), (20, 6), (20, 6), (20, 625), (20, 64), (20, 64), (20, 12), (20, 64), (20, 64), (20, 25), (20, 600), (20, 24)]
abbrev kr_N : Nat := 387
def kr_sh (k : Nat) : Nat × Nat := kr_shL.getD k (99, 0)
def kr_len (k : Nat) : Nat := (kr_sh k).2
def kr_fd : Nat → List (Nat × Nat)
  | 0 => [(0, 0), (2, 1), (2, 2), (2, 3)]
  | 1 => [(0, 0), (2, 1), (2, 2), (2, 3), (2, 4), (0, 0)]
  | 2 => [(0, 0), (0, 0), (0, 0), (0, 0), (0, 0), (0, 0), (0, 0), (0, 0), (0, 0), (0, 0), (2, 1), (2, 2), (2, 3), (2, 4), (2, 5), (2, 6), (2, 7), (2, 8), (2, 9), (2, 10)]
  | 3 => [(2, 1), (2, 2)]
  | 4 => [(3, 2), (2, 1), (2, 3), (2, 4), (2, 5), (2, 6), (2, 7), (2, 8), (0, 0), (0, 0), (0, 0), (0, 0), (0, 0)]
  | 5 => [(0, 0), (0, 0), (0, 0), (0, 0), (2, 1), (2, 3)]
  | 6 => [(2, 1), (0, 0), (0, 0), (0, 0), (0, 0), (0, 0), (0, 0), (0, 0)]
  | 7 => [(2, 1), (0, 0)]
  | 8 => [(2, 1), (2, 2), (2, 3)]
  | 9 => [(2, 1), (2, 2)]
  | 10 => [(2, 1), (2, 2)]
  | 11 => [(2, 1), (3, 0), (3, 1), (2, 125), (2, 309), (2, 310), (2, 311), (2, 312), (2, 313), (2, 315), (2, 324), (2, 327), (2, 330), (2, 334), (2, 338), (2, 341)]
  | 12 => [(0, 0), (2, 1), (2, 2), (2, 3), (2, 4), (2, 5), (0, 0), (0, 0), (0, 0), (0, 0), (0, 0), (1, 0), (0, 0), (0, 0), (0, 0), (0, 0), (2, 6), (2, 7), (2, 8), (2, 9), (2, 10), (2, 11), (2, 12), (2, 13), (2, 14), (2, 15), (2, 16), (2, 17), (2, 18), (2, 19), (2, 20), (2, 21), (0, 0), (2, 22), (0, 0), (2, 23), (2, 24), (2, 25), (2, 26), (2, 27), (2, 28), (2, 29), (0, 0), (0, 0), (0, 0), (0, 0), (0, 0), (0, 0), (2, 30), (2, 31), (0, 0), (0, 0), (2, 32), (2, 33), (2, 34), (2, 35), (2, 36), (2, 37), (0, 0), (2, 38), (2, 39), (2, 40)]
  | _ => []
def kr_cn : Nat → String
  | 0 => RX0
  | 1 => RX1
  | 2 => RX2
  | 3 => RX3
  | 4 => RX4
  | 5 => RX5
  | 6 => RX6
  | 7 => RX7
  | 8 => RX8
  | 9 => RX9
  | 10 => RX10
  | 11 => RX11
  | 12 => RX12
  | _ => ""
def kr_ct : Nat → u_T
  | 0 => TX0
  | 1 => TX1
  | 2 => TX2
  | 3 => TX3
  | 4 => TX4
  | 5 => TX5
  | 6 => TX6
  | 7 => TX7
  | 8 => TX8
  | 9 => TX9
  | 10 => TX10
  | 11 => TX11
  | 12 => TX12
  | _ => (fun _ => ("", "", "", false))
def kr_cty : Nat → (Nat → FieldType)
  | 0 => tyX0
  | 1 => tyX1
  | 2 => tyX2
  | 3 => tyX3
  | 4 => tyX4
  | 5 => tyX5
  | 6 => tyX6
  | 7 => tyX7
  | 8 => tyX8
  | 9 => tyX9
  | 10 => tyX10
  | 11 => tyX11
  | 12 => tyX12
  | _ => (fun _ => .int)
def kr_cz : Nat → Nat
  | 0 => 4
  | 1 => 6
  | 2 => 20
  | 3 => 2
  | 4 => 13
  | 5 => 6
  | 6 => 8
  | 7 => 2
  | 8 => 3
  | 9 => 2
  | 10 => 2
  | 11 => 16
  | 12 => 62
  | _ => 0
def kr_fv (B k : Nat) (M : kr_M) (j : Nat) (d : Nat × Nat) : Value := if d.1 = 0 then .int (M.1 k j) else if d.1 = 1 then .long (M.2.1 k j) else if d.1 = 2 then .ref (B + (k + d.2)) else .ref (B + kr_gr M d.2)
def kr_fs (B k : Nat) (M : kr_M) (ci : Nat) : List Value := (kr_fd ci).mapIdx (kr_fv B k M)
def kr_ro (t j : Nat) : Nat := if t = 24 then 8 + 2 * j else if t = 25 then 26 + 5 * j else 1 + 61 * j
def kr_cell (E : kr_E) (M : kr_M) (k : Nat) : va_E := if (kr_sh k).1 < 20 then .inr ((kr_sh k).1, kr_fs E.2.1 k M (kr_sh k).1) else if (kr_sh k).1 < 23 then .inl (E.2.2.2.1 k, (kr_sh k).2, .inl (M.1 k)) else if (kr_sh k).1 = 23 then .inl (E.2.2.2.1 k, (kr_sh k).2, .inr (.inl (M.2.1 k))) else .inl (E.2.2.2.1 k, (kr_sh k).2, .inr (.inr (.inr (.inr (fun j => some (E.2.1 + (k + kr_ro (kr_sh k).1 j)))))))
def kr_ty (t : Nat) : FieldType := if t = 20 then .int else if t = 21 then .byte else if t = 22 then .boolean else if t = 23 then .long else if t = 24 then .object RX7 else if t = 25 then .object RX5 else .object RX2
def kr_ws (E : kr_E) (M : kr_M) : va_W := (List.range kr_N).map (fun k => (E.2.1 + k, kr_cell E M k))
def kr_tys (ca : Nat → ClassId) : List (ClassId × FieldType) := (List.range kr_N).map (fun k => if (kr_sh k).1 < 20 then (ca 2, .byte) else (ca k, kr_ty (kr_sh k).1))
theorem kr_ws_at {E : kr_E} {M : kr_M} {k : Nat} (h : k < kr_N) : (kr_ws E M)[k]? = some (E.2.1 + k, kr_cell E M k) := by
  simp only [kr_ws, List.getElem?_map, List.getElem?_range h, Option.map_some]
theorem kr_tys_at {ca : Nat → ClassId} {k : Nat} (h : k < kr_N) (h2 : ¬ (kr_sh k).1 < 20) : (kr_tys ca)[k]? = some (ca k, kr_ty (kr_sh k).1) := by
  simp only [kr_tys, List.getElem?_map, List.getElem?_range h, Option.map_some, if_neg h2]
theorem kr_ws_set {E : kr_E} {M M' : kr_M} {k : Nat} {e : va_E} (he : kr_cell E M' k = e) (ho : ∀ j, j < kr_N → j ≠ k → kr_cell E M' j = kr_cell E M j) : (kr_ws E M).set k (E.2.1 + k, e) = kr_ws E M' := by
  apply List.ext_getElem?
  intro j
  by_cases hj : j < kr_N
  · rw [List.getElem?_set, kr_ws_at hj, kr_ws_at hj]
    by_cases hk : k = j
    · subst hk
      simp [kr_ws, hj, he]
    · rw [if_neg hk, ho j hj (fun q => hk q.symm)]
  · have h1 : (kr_ws E M').length = kr_N := by simp [kr_ws]
    have h2 : ((kr_ws E M).set k (E.2.1 + k, e)).length = kr_N := by simp [kr_ws]
    rw [List.getElem?_eq_none (by omega), List.getElem?_eq_none (by omega)]
theorem kr_D {E : kr_E} {M : kr_M} : va_D (fun q => E.2.1 ≤ q) (kr_ws E M) := by
  have hl : (kr_ws E M).length = kr_N := by simp [kr_ws]
  refine ⟨fun i j p q hi hj e => ?_, fun k q hk => ?_⟩
  · have h1 : i < kr_N := by rw [← hl]; exact (List.getElem?_eq_some_iff.mp hi).1
    have h2 : j < kr_N := by rw [← hl]; exact (List.getElem?_eq_some_iff.mp hj).1
    rw [kr_ws_at h1] at hi
    rw [kr_ws_at h2] at hj
    cases hi
    cases hj
    have e : E.2.1 + i = E.2.1 + j := e
    omega
  · have h1 : k < kr_N := by rw [← hl]; exact (List.getElem?_eq_some_iff.mp hk).1
    rw [kr_ws_at h1] at hk
    cases hk
    exact Nat.le_add_right _ _
theorem kr_cell_congr {E : kr_E} {M M' : kr_M} {j : Nat} (h1 : M'.1 j = M.1 j) (h2 : M'.2.1 j = M.2.1 j) (h3 : M'.2.2 = M.2.2) : kr_cell E M' j = kr_cell E M j := by
  unfold kr_cell kr_fs
  have e : kr_fv E.2.1 j M' = kr_fv E.2.1 j M := by
    funext i d
    simp only [kr_fv, kr_gr, h1, h2, h3]
  rw [e, h1, h2]
theorem kr_lt {k : Nat} {q : Nat × Nat} (h : kr_sh k = q) (hq : q ≠ (99, 0)) : k < kr_N := by
  rcases Nat.lt_or_ge k kr_N with h1 | h1
  · exact h1
  · refine absurd ?_ hq
    rw [← h]
    unfold kr_sh
    rw [List.getD_eq_getElem?_getD, List.getElem?_eq_none (by rw [show kr_shL.length = kr_N by decide +kernel]; exact h1)]
    rfl
theorem kr_clat : ∀ ci, ci < 13 → vwCl[ci]? = some (kr_cn ci, kr_ct ci, kr_cz ci) := by
  intro ci h
  match ci, h with
  | 0, _ => rfl
  | 1, _ => rfl
  | 2, _ => rfl
  | 3, _ => rfl
  | 4, _ => rfl
  | 5, _ => rfl
  | 6, _ => rfl
  | 7, _ => rfl
  | 8, _ => rfl
  | 9, _ => rfl
  | 10, _ => rfl
  | 11, _ => rfl
  | 12, _ => rfl
  | n + 13, h => omega
theorem kr_ctyok : ∀ ci, ci < 13 → ∀ k, k < kr_cz ci → parseFieldDescriptor (kr_ct ci k).2.2.1 = some (kr_cty ci k) := by
  intro ci h
  match ci, h with
  | 0, _ => exact tyX0_ok
  | 1, _ => exact tyX1_ok
  | 2, _ => exact tyX2_ok
  | 3, _ => exact tyX3_ok
  | 4, _ => exact tyX4_ok
  | 5, _ => exact tyX5_ok
  | 6, _ => exact tyX6_ok
  | 7, _ => exact tyX7_ok
  | 8, _ => exact tyX8_ok
  | 9, _ => exact tyX9_ok
  | 10, _ => exact tyX10_ok
  | 11, _ => exact tyX11_ok
  | 12, _ => exact tyX12_ok
  | n + 13, h => omega
theorem kr_cnm : ∀ ci, ci < 13 → ∀ a, a < kr_cz ci → ∀ b, b < kr_cz ci → a ≠ b → (kr_ct ci a).2.1 ≠ (kr_ct ci b).2.1 := by
  intro ci h
  match ci, h with
  | 0, _ => exact nmX0
  | 1, _ => exact nmX1
  | 2, _ => exact nmX2
  | 3, _ => exact nmX3
  | 4, _ => exact nmX4
  | 5, _ => exact nmX5
  | 6, _ => exact nmX6
  | 7, _ => exact nmX7
  | 8, _ => exact nmX8
  | 9, _ => exact nmX9
  | 10, _ => exact nmX10
  | 11, _ => exact nmX11
  | 12, _ => exact nmX12
  | n + 13, h => omega
theorem kr_fdl : ∀ ci, ci < 13 → (kr_fd ci).length = kr_cz ci := by decide +kernel
theorem kr_fdI : ∀ ci, ci < 13 → ∀ j, j < kr_cz ci → (kr_fd ci)[j]? = some (0, 0) → kr_cty ci j = .int := by decide +kernel
theorem kr_fdJ : ∀ ci, ci < 13 → ∀ j, j < kr_cz ci → (kr_fd ci)[j]? = some (1, 0) → kr_cty ci j = .long := by decide +kernel

theorem kr_lay0 : u_ws RX0 TX0 4 = [362, 364, 366, 368].filterMap (fun i => tables_1[i]?) := by decide +kernel
theorem kr_lay1 : u_ws RX1 TX1 6 = [414, 416, 418, 420, 422, 424].filterMap (fun i => tables_1[i]?) := by decide +kernel
theorem kr_lay2 : u_ws RX2 TX2 20 = [219, 221, 223, 225, 227, 229, 231, 233, 235, 237, 239, 241, 243, 245, 247, 249, 251, 253, 255, 257].filterMap (fun i => tables_1[i]?) := by decide +kernel
theorem kr_lay3 : u_ws RX3 TX3 2 = [334, 336].filterMap (fun i => tables_1[i]?) := by decide +kernel
theorem kr_lay4 : u_ws RX4 TX4 13 = [296, 298, 300, 302, 304, 306, 308, 310, 312, 314, 316, 318, 320].filterMap (fun i => tables_1[i]?) := by decide +kernel
theorem kr_lay5 : u_ws RX5 TX5 6 = [132, 134, 136, 138, 140, 142].filterMap (fun i => tables_1[i]?) := by decide +kernel
theorem kr_lay6 : u_ws RX6 TX6 8 = [47, 49, 51, 53, 55, 57, 59, 61].filterMap (fun i => tables_1[i]?) := by decide +kernel
theorem kr_lay7 : u_ws RX7 TX7 2 = [97, 99].filterMap (fun i => tables_1[i]?) := by decide +kernel
theorem kr_lay8 : u_ws RX8 TX8 3 = [382, 384, 386].filterMap (fun i => tables_1[i]?) := by decide +kernel
theorem kr_lay9 : u_ws RX9 TX9 2 = [397, 399].filterMap (fun i => tables_1[i]?) := by decide +kernel
theorem kr_lay10 : u_ws RX10 TX10 2 = [347, 349].filterMap (fun i => tables_1[i]?) := by decide +kernel
theorem kr_lay11 : u_ws RX11 TX11 16 = [443, 445, 447, 449, 451, 453, 455, 457, 459, 461, 463, 465, 467, 469, 471, 473].filterMap (fun i => tables_1[i]?) := by decide +kernel
theorem kr_lay12 : u_ws RX12 TX12 62 = [1394, 1396, 1398, 1400, 1402, 1404, 1406, 1408, 1410, 1412, 1414, 1416, 1418, 1420, 1422, 1424, 1426, 1428, 1430, 1432, 1434, 1436, 1438, 1440, 1442, 1444, 1446, 1448, 1450, 1452, 1454, 1456, 1458, 1460, 1462, 1464, 1466, 1468, 1470, 1472, 1474, 1476, 1478, 1480, 1482, 1484, 1486, 1488, 1490, 1492, 1494, 1496, 1498, 1500, 1502, 1504, 1506, 1508, 1510, 1512, 1514, 1516].filterMap (fun i => tables_1[i]?) := by decide +kernel
def kr_T : List Cond := lw_tbl.filter goodWord
theorem kr_t {w : Cond} (i : Nat) (h : tables_1[i]? = some w) (g : goodWord w = true) : w ∈ kr_T := List.mem_filter.mpr ⟨List.mem_append_right _ (List.mem_of_getElem? h), g⟩
theorem kr_ts {w : Cond} (i : Nat) (h : (k2_sels lw_privs)[i]? = some w) (g : goodWord w = true) : w ∈ kr_T := List.mem_filter.mpr ⟨List.mem_append_left _ (List.mem_of_getElem? h), g⟩
theorem kr_ft {ws : List Cond} (is : List Nat) (h : ws = is.filterMap (fun i => tables_1[i]?)) (g : ws.all goodWord = true) : ∀ w ∈ ws, w ∈ kr_T := by
  intro w hw
  have hg := List.all_eq_true.mp g w hw
  rw [h] at hw
  obtain ⟨i, -, hi⟩ := List.mem_filterMap.mp hw
  exact kr_t i hi hg
theorem kr_inT : ∀ ci, ci < 13 → ∀ w ∈ u_ws (kr_cn ci) (kr_ct ci) (kr_cz ci), w ∈ kr_T := by
  intro ci h
  match ci, h with
  | 0, _ => exact kr_ft _ kr_lay0 (by decide +kernel)
  | 1, _ => exact kr_ft _ kr_lay1 (by decide +kernel)
  | 2, _ => exact kr_ft _ kr_lay2 (by decide +kernel)
  | 3, _ => exact kr_ft _ kr_lay3 (by decide +kernel)
  | 4, _ => exact kr_ft _ kr_lay4 (by decide +kernel)
  | 5, _ => exact kr_ft _ kr_lay5 (by decide +kernel)
  | 6, _ => exact kr_ft _ kr_lay6 (by decide +kernel)
  | 7, _ => exact kr_ft _ kr_lay7 (by decide +kernel)
  | 8, _ => exact kr_ft _ kr_lay8 (by decide +kernel)
  | 9, _ => exact kr_ft _ kr_lay9 (by decide +kernel)
  | 10, _ => exact kr_ft _ kr_lay10 (by decide +kernel)
  | 11, _ => exact kr_ft _ kr_lay11 (by decide +kernel)
  | 12, _ => exact kr_ft _ kr_lay12 (by decide +kernel)
  | n + 13, h => omega
theorem kr_good : ∀ w ∈ kr_T, (w.onTables && w.keeps) = true ∨ ∃ ty, w = .arrayClass ty := fun w hw => good_of_word (List.mem_filter.mp hw).2
def kr_W0 (y : kr_Y) : List Cond := .code y.1 y.2.1 y.2.2.1 y.2.2.2 :: kr_T
theorem kr_goodIn (y z : kr_Y) (hz : Cond.code z.1 z.2.1 z.2.2.1 z.2.2.2 ∈ kr_T) (pre : List Cond) (hp : ∀ w ∈ pre, w ∈ kr_T) : GoodIn (kr_W0 y) (pre ++ kr_W0 z) := by
  have h1 : ∀ w ∈ pre ++ kr_W0 z, w ∈ kr_T := fun w hw => by
    rcases List.mem_append.mp hw with h | h
    · exact hp w h
    · rcases List.mem_cons.mp h with h | h
      · rw [h]; exact hz
      · exact h
  exact fun w hw => ⟨List.mem_cons_of_mem _ (h1 w hw), kr_good w (h1 w hw)⟩
def kr_rm (d : Nat) : Room := { frames := d, cells := 0, slots := 0, locals := 64 * d }

def kr_sx : List (Nat × String) := [(52, "gorge"), (85, "places"), (93, "wear"), (97, "odds"), (65, "knot"), (108, "inches"), (112, "weak"), (70, "word"), (124, "means"), (75, "rope"), (149, "to"), (161, "bears"), (166, "of"), (80, "person"), (178, "weighs"), (183, "pace"), (188, "at")]
def kr_sn : List Nat := [5, 6, 4, 4, 4, 6, 4, 4, 5, 4, 2, 5, 2, 6, 6, 4, 2]
def kr_sb : List (List Int32) := [[103, 111, 114, 103, 101], [112, 108, 97, 99, 101, 115], [119, 101, 97, 114], [111, 100, 100, 115], [107, 110, 111, 116], [105, 110, 99, 104, 101, 115], [119, 101, 97, 107], [119, 111, 114, 100], [109, 101, 97, 110, 115], [114, 111, 112, 101], [116, 111], [98, 101, 97, 114, 115], [111, 102], [112, 101, 114, 115, 111, 110], [119, 101, 105, 103, 104, 115], [112, 97, 99, 101], [97, 116]]
def kr_nest : List (String × Nat) := [(RX4, 74), (RX10, 31), (RX0, 65), (RX9, 73), (RX1, 52)]
def kr_St (E : kr_E) (s : State) (H : Heap) : Prop := (∀ i q, kr_sx[i]? = some q → vk_R RX6 q.1 q.2 (E.2.2.2.2.1 i) s) ∧ vk_S 17 kr_sn kr_sb E.2.2.2.2.1 E.2.2.2.2.2 (fun q => E.2.1 ≤ q) s H ∧ va_Z "java/lang/String" "COMPACT_STRINGS" "Z" (.int 1) (fun q => E.2.1 ≤ q) s H ∧ va_Zq "jdk/internal/util/Preconditions" "SIOOBE_FORMATTER" "Ljava/util/function/BiFunction;" (fun q => E.2.1 ≤ q) s H ∧ ∀ q ∈ kr_nest, va_Nw (.methodLinkNest q.1 q.2 yX11_lesser RX11) s
def kr_X (E : kr_E) (M : kr_M) (s : State) (H : Heap) : Prop := va_P E.2.2.1 vwCl (kr_ws E M) H ∧ va_K E.2.2.1 vwCl (kr_tys E.2.2.2.1) s ∧ kr_St E s s.heap
theorem kr_St.kept {E : kr_E} {s : State} {H H1 : Heap} (h : kr_St E s H) (hq : ∀ a : Nat, a < H.size → ¬ E.2.1 ≤ a → H1[a]? = H[a]?) : kr_St E s H1 := ⟨h.1, h.2.1.kept hq, h.2.2.1.kept hq, h.2.2.2.1.kept hq, h.2.2.2.2⟩
theorem kr_St.warm {E : kr_E} {s U : State} {H : Heap} (hW : s.WarmedH U.vm) (h : kr_St E s H) : kr_St E U H := ⟨fun i q hi => (h.1 i q hi).warm hW, h.2.1.moved hW.alike, h.2.2.1.moved hW.alike, h.2.2.2.1.moved hW.alike, fun q hq => (h.2.2.2.2 q hq).warmM hW⟩
theorem kr_X.enter {E : kr_E} {M : kr_M} {s U : State} {H : Heap} {locs : List Loc} (hW : s.WarmedH U.vm) (hU : U.heap = H) (hS : va_S (fun q => E.2.1 ≤ q) s.heap H locs) (h : kr_X E M s H) : kr_X E M U U.heap := ⟨by rw [hU]; exact h.1, va_K.moved hW.alike h.2.1, by rw [hU]; exact ((h.2.2).kept hS.2.1).warm hW⟩
def kr_Cx (y : kr_Y) (p : Program) (s : State) (m : MethodId) (args : Array Value) (meth : Method) (c : Code) : Prop := p.tables.exec = Jvm.exec ∧ c.code = y.2.1 ∧ meth.sig.returnType = y.2.2.2 ∧ c.maxLocals = y.2.2.1 ∧ s.vm.findClass y.1.cls = some m.cls ∧ (∀ w ∈ kr_W0 y, w.before args s = true) ∧ meth.locks = false
theorem kr_Cx.word {y : kr_Y} {p : Program} {s : State} {m : MethodId} {args : Array Value} {meth : Method} {c : Code} (C : kr_Cx y p s m args meth c) {w : Cond} (h : w ∈ kr_T) : w.before args s = true := C.2.2.2.2.2.1 w (List.mem_cons_of_mem _ h)
theorem kr_Cx.own {y : kr_Y} {p : Program} {s : State} {m : MethodId} {args : Array Value} {meth : Method} {c : Code} (C : kr_Cx y p s m args meth c) : s.vm.findClass y.1.cls = some m.cls := C.2.2.2.2.1
theorem kr_Cx.words {y : kr_Y} {p : Program} {s : State} {m : MethodId} {args : Array Value} {meth : Method} {c : Code} (C : kr_Cx y p s m args meth c) : ∀ w ∈ kr_W0 y, w.before args s = true := C.2.2.2.2.2.1
def kr_Q (E : kr_E) (r : Option Value) (M : kr_M) : Array Value → State → Outcome → State → Prop := fun _ st o t => o = .returned r ∧ va_P E.2.2.1 vwCl (kr_ws E M) t.heap ∧ va_F (fun q => E.2.1 ≤ q) st t
def kR {ρ : Type} (rv : ρ → Option Value × kr_M) (E : kr_E) (y : kr_Y) (d pc : Nat) (lv : List (Nat × Value)) (st : List Value) (M : kr_M) (res : Option ρ) : Prop :=
  ∀ q : ρ, res = some q → ∀ (p : Program) (e : Env) (s : State) (m : MethodId) (args : Array Value) (below : List Frame) (meth : Method) (c : Code) (H : Heap) (locs : List Loc) (ls : Array Slot), kr_Cx y p s m args meth c → kr_X E M s H → va_S (fun q => E.2.1 ≤ q) s.heap H locs → lv_has ls y.2.2.1 lv →
    W p E.1 e (kr_rm d) s m args below meth c H locs 0 0 (MQ below (kr_Q E (rv q).1 (rv q).2) args s 0 0 (fun q => E.2.1 ≤ q)) (F0 m pc ls st)
def kr_vi (q : Int32 × kr_M) : Option Value × kr_M := (some (.int q.1), q.2)
def kr_vl (q : Int64 × kr_M) : Option Value × kr_M := (some (.long q.1), q.2)
def kr_vv (q : kr_M) : Option Value × kr_M := (none, q)

