theorem kc_dfI : ∀ ci, ci < 13 → ∀ j, j < kr_cz ci → (kr_fd ci)[j]? = some (0, 0) ∨ (kr_fd ci)[j]? = some (1, 0) ∨ (∃ o, (kr_fd ci)[j]? = some (2, o)) ∨ (∃ o, (kr_fd ci)[j]? = some (3, o)) := by
  have h : ∀ ci, ci < 13 → ∀ j, j < kr_cz ci → ((kr_fd ci).getD j (9, 9) = (0, 0) ∨ (kr_fd ci).getD j (9, 9) = (1, 0) ∨ ((kr_fd ci).getD j (9, 9)).1 = 2 ∨ ((kr_fd ci).getD j (9, 9)).1 = 3) := by decide +kernel
  intro ci hc j hj
  have hjl : j < (kr_fd ci).length := by rw [kr_fdl ci hc]; exact hj
  have e := List.getElem?_eq_getElem hjl
  have h1 := h ci hc j hj
  rw [List.getD_eq_getElem?_getD, e] at h1
  rw [e]
  rcases h1 with h1 | h1 | h1 | h1
  · exact Or.inl (congrArg some h1)
  · exact Or.inr (Or.inl (congrArg some h1))
  · exact Or.inr (Or.inr (Or.inl ⟨_, congrArg some (Prod.ext h1 rfl)⟩))
  · exact Or.inr (Or.inr (Or.inr ⟨_, congrArg some (Prod.ext h1 rfl)⟩))
theorem kc_dfR : ∀ ci, ci < 13 → ∀ j, j < kr_cz ci → 2 ≤ ((kr_fd ci).getD j (0, 0)).1 → defaultValue (kr_cty ci j) = .null := by decide +kernel
theorem kc_dflt : ∀ ci, ci < 13 → ∀ j, j < kr_cz ci → ∀ q0, (kr_fd ci)[j]? = some q0 → defaultValue (kr_cty ci j) = (if q0.1 = 0 then .int 0 else if q0.1 = 1 then .long 0 else .null) := by
  intro ci hc j hj q0 hq0
  rcases kc_dfI ci hc j hj with h | h | ⟨o, h⟩ | ⟨o, h⟩
  · rw [hq0] at h; cases h
    rw [kr_fdI ci hc j hj hq0]; rfl
  · rw [hq0] at h; cases h
    rw [kr_fdJ ci hc j hj hq0]; rfl
  · rw [hq0] at h; cases h
    have := kc_dfR ci hc j hj (by rw [List.getD_eq_getElem?_getD, hq0]; exact Nat.le_refl 2)
    simpa using this
  · rw [hq0] at h; cases h
    have := kc_dfR ci hc j hj (by rw [List.getD_eq_getElem?_getD, hq0]; show 2 ≤ 3; decide)
    simpa using this
/-! THE MAKING: the cells in the order of their making; S = (how many there are, numbers, references) -/
abbrev kc_S : Type := Nat × List (Nat × Nat × Int32) × List (Nat × Nat × Nat)
def kc_im : List (Nat × Nat × Int32) → Nat → Nat → Int32
  | [], _, _ => 0
  | e :: l, k, j => if e.1 = k ∧ e.2.1 = j then e.2.2 else kc_im l k j
def kc_rr : List (Nat × Nat × Nat) → Nat → Nat → Option Nat
  | [], _, _ => none
  | e :: l, k, j => if e.1 = k ∧ e.2.1 = j then some e.2.2 else kc_rr l k j
theorem kc_im_eq (l : List (Nat × Nat × Int32)) (a j : Nat) (x : Int32) : kc_im ((a, j, x) :: l) a = upd (kc_im l a) j x := by
  funext i
  by_cases h : i = j
  · subst h; simp [kc_im, upd]
  · have h2 : ¬ j = i := fun q => h q.symm
    simp [kc_im, upd, h, h2]
theorem kc_im_ne (l : List (Nat × Nat × Int32)) {a b : Nat} (j : Nat) (x : Int32) (h : b ≠ a) : kc_im ((a, j, x) :: l) b = kc_im l b := by
  funext i
  have h2 : ¬ a = b := fun q => h q.symm
  simp [kc_im, h2]
theorem kc_rr_eq (l : List (Nat × Nat × Nat)) (a j x : Nat) : kc_rr ((a, j, x) :: l) a = va_up (kc_rr l a) j (some x) := by
  funext i
  by_cases h : i = j
  · subst h; simp [kc_rr, va_up]
  · have h2 : ¬ j = i := fun q => h q.symm
    simp [kc_rr, va_up, h, h2]
theorem kc_rr_ne (l : List (Nat × Nat × Nat)) {a b : Nat} (j x : Nat) (h : b ≠ a) : kc_rr ((a, j, x) :: l) b = kc_rr l b := by
  funext i
  have h2 : ¬ a = b := fun q => h q.symm
  simp [kc_rr, h2]
theorem kc_im_0 (n : Nat) : ∀ (l : List (Nat × Nat × Int32)), l.all (fun e => decide (e.1 < n)) = true → kc_im l n = fun _ => 0
  | [], _ => rfl
  | e :: l, h => by
    simp only [List.all_cons, Bool.and_eq_true, decide_eq_true_eq] at h
    have h2 := kc_im_0 n l h.2
    funext i
    simp [kc_im, show ¬ e.1 = n by omega, h2]
theorem kc_rr_0 (n : Nat) : ∀ (l : List (Nat × Nat × Nat)), l.all (fun e => decide (e.1 < n)) = true → kc_rr l n = fun _ => none
  | [], _ => rfl
  | e :: l, h => by
    simp only [List.all_cons, Bool.and_eq_true, decide_eq_true_eq] at h
    have h2 := kc_rr_0 n l h.2
    funext i
    simp [kc_rr, show ¬ e.1 = n by omega, h2]
def kc_fv (B k : Nat) (S : kc_S) (j : Nat) (d : Nat × Nat) : Value := if d.1 = 0 then .int (kc_im S.2.1 k j) else if d.1 = 1 then .long 0 else va_rf ((kc_rr S.2.2 k j).map (fun x => B + x))
def kc_fs (B k : Nat) (S : kc_S) (ci : Nat) : List Value := (kr_fd ci).mapIdx (kc_fv B k S)
def kc_cell (E : kr_E) (S : kc_S) (k : Nat) : va_E := if (kr_sh k).1 < 20 then .inr ((kr_sh k).1, kc_fs E.2.1 k S (kr_sh k).1) else if (kr_sh k).1 < 23 then .inl (E.2.2.2.1 k, (kr_sh k).2, .inl (kc_im S.2.1 k)) else if (kr_sh k).1 = 23 then .inl (E.2.2.2.1 k, (kr_sh k).2, .inr (.inl (fun _ => 0))) else .inl (E.2.2.2.1 k, (kr_sh k).2, .inr (.inr (.inr (.inr (fun j => (kc_rr S.2.2 k j).map (fun x => E.2.1 + x))))))
def kc_ws (E : kr_E) (S : kc_S) : va_W := (List.range S.1).map (fun k => (E.2.1 + k, kc_cell E S k))
def kc_sl (q : Nat × Nat) : Nat := if q.1 < 20 then kr_cz q.1 else q.2
def kc_sz : Nat → Nat
  | 0 => 0
  | n + 1 => kc_sz n + kc_sl (kr_sh n)
def kc_nest : List (String × Nat × MethodName) := [(RX11, 9, yX6_init), (RX2, 51, yX5_init), (RX11, 71, yX3_init), (RX11, 78, yX10_init), (RX11, 85, yX0_init), (RX11, 92, yX8_init), (RX11, 99, yX9_init), (RX11, 106, yX1_init)]
def kc_T (s : State) : Prop := (∀ q ∈ kc_nest, va_Nw (.methodLinkNest q.1 q.2.1 q.2.2 RX11) s) ∧ va_AO RX7 s ∧ va_AO RX5 s ∧ va_AO RX2 s
def kc_X (E : kr_E) (S : kc_S) (s : State) (H : Heap) : Prop := va_P E.2.2.1 vwCl (kc_ws E S) H ∧ H.size = E.2.1 + S.1 ∧ S.1 ≤ kr_N ∧ va_K E.2.2.1 vwCl (kr_tys E.2.2.2.1) s ∧ kc_T s
def kc_rm (d C Z : Nat) : Room := { frames := d, cells := C, slots := Z, locals := 64 * d }
def kc_Q (E : kr_E) (S : kc_S) : Array Value → State → Outcome → State → Prop := fun _ st o t => o = .returned none ∧ va_P E.2.2.1 vwCl (kc_ws E S) t.heap ∧ t.heap.size = E.2.1 + S.1 ∧ va_F (fun q => E.2.1 ≤ q) st t
def kC (E : kr_E) (y : kr_Y) (d pc : Nat) (lv : List (Nat × Value)) (st : List Value) (S : kc_S) (res : Option kc_S) : Prop :=
  ∀ q : kc_S, res = some q → (S.1 ≤ q.1 ∧ kc_sz S.1 ≤ kc_sz q.1) ∧ ∀ (p : Program) (e : Env) (s : State) (m : MethodId) (args : Array Value) (below : List Frame) (meth : Method) (c : Code) (H : Heap) (locs : List Loc) (ls : Array Slot) (n0 : Nat), kr_Cx y p s m args meth c → meth.name = y.1.name → n0 ≤ S.1 → kc_sz n0 ≤ kc_sz S.1 → kc_X E S s H → va_S (fun q => E.2.1 ≤ q) s.heap H locs → lv_has ls y.2.2.1 lv →
    W p E.1 e (kc_rm d (q.1 - n0) (kc_sz q.1 - kc_sz n0)) s m args below meth c H locs (S.1 - n0) (kc_sz S.1 - kc_sz n0) (MQ below (kc_Q E q) args s (q.1 - n0) (kc_sz q.1 - kc_sz n0) (fun q => E.2.1 ≤ q)) (F0 m pc ls st)
theorem kc_ws_at {E : kr_E} {S : kc_S} {k : Nat} (h : k < S.1) : (kc_ws E S)[k]? = some (E.2.1 + k, kc_cell E S k) := by
  simp only [kc_ws, List.getElem?_map, List.getElem?_range h, Option.map_some]
theorem kc_D {E : kr_E} {S : kc_S} : va_D (fun q => E.2.1 ≤ q) (kc_ws E S) := by
  have hl : (kc_ws E S).length = S.1 := by simp [kc_ws]
  refine ⟨fun i j p q hi hj e => ?_, fun k q hk => ?_⟩
  · have h1 : i < S.1 := by rw [← hl]; exact (List.getElem?_eq_some_iff.mp hi).1
    have h2 : j < S.1 := by rw [← hl]; exact (List.getElem?_eq_some_iff.mp hj).1
    rw [kc_ws_at h1] at hi
    rw [kc_ws_at h2] at hj
    cases hi
    cases hj
    have e : E.2.1 + i = E.2.1 + j := e
    omega
  · have h1 : k < S.1 := by rw [← hl]; exact (List.getElem?_eq_some_iff.mp hk).1
    rw [kc_ws_at h1] at hk
    cases hk
    exact Nat.le_add_right _ _
theorem kc_ws_set {E : kr_E} {S S' : kc_S} {k : Nat} {e : va_E} (hn : S'.1 = S.1) (he : kc_cell E S' k = e) (ho : ∀ j, j ≠ k → kc_cell E S' j = kc_cell E S j) : (kc_ws E S).set k (E.2.1 + k, e) = kc_ws E S' := by
  apply List.ext_getElem?
  intro j
  by_cases hj : j < S.1
  · rw [List.getElem?_set, kc_ws_at hj, kc_ws_at (hn ▸ hj)]
    by_cases hk : k = j
    · subst hk
      simp [kc_ws, hj, he]
    · rw [if_neg hk, ho j (fun q => hk q.symm)]
  · have h1 : (kc_ws E S').length = S.1 := by simp [kc_ws, hn]
    have h2 : ((kc_ws E S).set k (E.2.1 + k, e)).length = S.1 := by simp [kc_ws]
    rw [List.getElem?_eq_none (by omega), List.getElem?_eq_none (by omega)]
section KCR
variable {E : kr_E} {y : kr_Y} {d pc : Nat} {lv lv' : List (Nat × Value)} {st : List Value} {S : kc_S} {res : Option kc_S}
theorem kc_iconst {n : Int} {v : Int32} (hd : decode y.2.1 pc = .ok (.iconst n, 1)) (hv : Int32.ofInt n = v) (k : kC E y d (pc + 1) lv (.int v :: st) S res) : kC E y d pc lv st S res := by
  intro q hq
  refine ⟨(k q hq).1, ?_⟩
  intro p e s m args below meth c H locs ls n0 C hm hn hz hX hS hl
  exact lv_iconst C.1 C.2.1 hd hv ((k q hq).2 p e s m args below meth c H locs ls n0 C hm hn hz hX hS hl)
theorem kc_bipush {n : Int} {v : Int32} (hd : decode y.2.1 pc = .ok (.bipush n, 2)) (hv : (Int8.ofInt n).toInt32 = v) (k : kC E y d (pc + 2) lv (.int v :: st) S res) : kC E y d pc lv st S res := by
  intro q hq
  refine ⟨(k q hq).1, ?_⟩
  intro p e s m args below meth c H locs ls n0 C hm hn hz hX hS hl
  exact lv_bipush C.1 C.2.1 hd hv ((k q hq).2 p e s m args below meth c H locs ls n0 C hm hn hz hX hS hl)
theorem kc_sipush {n : Int} {v : Int32} (hd : decode y.2.1 pc = .ok (.sipush n, 3)) (hv : (Int16.ofInt n).toInt32 = v) (k : kC E y d (pc + 3) lv (.int v :: st) S res) : kC E y d pc lv st S res := by
  intro q hq
  refine ⟨(k q hq).1, ?_⟩
  intro p e s m args below meth c H locs ls n0 C hm hn hz hX hS hl
  exact lv_sipush C.1 C.2.1 hd hv ((k q hq).2 p e s m args below meth c H locs ls n0 C hm hn hz hX hS hl)
theorem kc_ldc {i : Nat} {v : Int32} (hd : decode y.2.1 pc = .ok (.ldc i, 2)) (hw : Cond.constant y.1.cls i v ∈ kr_T) (k : kC E y d (pc + 2) lv (.int v :: st) S res) : kC E y d pc lv st S res := by
  intro q hq
  refine ⟨(k q hq).1, ?_⟩
  intro p e s m args below meth c H locs ls n0 C hm hn hz hX hS hl
  exact lv_ldc C.1 C.2.1 C.own (C.word hw) hd ((k q hq).2 p e s m args below meth c H locs ls n0 C hm hn hz hX hS hl)
theorem kc_iload_n {f : Fin 4} {i : Nat} {x : Int32} (hd : decode y.2.1 pc = .ok (.iload_n f, 1)) (hi : (f : Nat) = i) (j : Nat) (hj : lv[j]? = some (i, .int x)) (k : kC E y d (pc + 1) lv (.int x :: st) S res) : kC E y d pc lv st S res := by
  intro q hq
  refine ⟨(k q hq).1, ?_⟩
  intro p e s m args below meth c H locs ls n0 C hm hn hz hX hS hl
  exact lv_iload_n C.1 C.2.1 hd hi (lv_at hl j hj) ((k q hq).2 p e s m args below meth c H locs ls n0 C hm hn hz hX hS hl)
theorem kc_aload_n {f : Fin 4} {i x : Nat} (hd : decode y.2.1 pc = .ok (.aload_n f, 1)) (hi : (f : Nat) = i) (j : Nat) (hj : lv[j]? = some (i, .ref x)) (k : kC E y d (pc + 1) lv (.ref x :: st) S res) : kC E y d pc lv st S res := by
  intro q hq
  refine ⟨(k q hq).1, ?_⟩
  intro p e s m args below meth c H locs ls n0 C hm hn hz hX hS hl
  exact lv_aload_n C.1 C.2.1 hd hi (lv_at hl j hj) ((k q hq).2 p e s m args below meth c H locs ls n0 C hm hn hz hX hS hl)
theorem kc_istore_n {f : Fin 4} {i : Nat} {x : Int32} (hd : decode y.2.1 pc = .ok (.istore_n f, 1)) (hi : (f : Nat) = i) (hnn : i < y.2.2.1) (hv : (i, Value.int x) :: lv.filter (fun q => !(q.1 == i) && !(q.1 + 1 == i && q.2.category == 2)) = lv') (k : kC E y d (pc + 1) lv' st S res) : kC E y d pc lv (.int x :: st) S res := by
  intro q hq
  refine ⟨(k q hq).1, ?_⟩
  intro p e s m args below meth c H locs ls n0 C hm hn hz hX hS hl
  exact lv_istore_n C.1 C.2.1 hd hi hl hnn hv (fun ls' hl' => (k q hq).2 p e s m args below meth c H locs ls' n0 C hm hn hz hX hS hl')
theorem kc_iinc {i j : Nat} {n : Int} {x v : Int32} (hd : decode y.2.1 pc = .ok (.iinc i n, 3)) (hj : lv[j]? = some (i, .int x)) (hx : x + Int32.ofInt n = v) (hnn : i < y.2.2.1) (hv : (i, Value.int v) :: lv.filter (fun q => !(q.1 == i) && !(q.1 + 1 == i && q.2.category == 2)) = lv') (k : kC E y d (pc + 3) lv' st S res) : kC E y d pc lv st S res := by
  intro q hq
  refine ⟨(k q hq).1, ?_⟩
  intro p e s m args below meth c H locs ls n0 C hm hn hz hX hS hl
  exact lv_iinc C.1 C.2.1 hd hl hj hx hnn hv (fun ls' hl' => (k q hq).2 p e s m args below meth c H locs ls' n0 C hm hn hz hX hS hl')
theorem kc_dup {v : Value} (hd : decode y.2.1 pc = .ok (.dup, 1)) (hc : v.category = 1) (k : kC E y d (pc + 1) lv (v :: v :: st) S res) : kC E y d pc lv (v :: st) S res := by
  intro q hq
  refine ⟨(k q hq).1, ?_⟩
  intro p e s m args below meth c H locs ls n0 C hm hn hz hX hS hl
  exact lv_dup C.1 C.2.1 hd hc ((k q hq).2 p e s m args below meth c H locs ls n0 C hm hn hz hX hS hl)
theorem kc_goto {off : Int} {tgt : Nat} (hd : decode y.2.1 pc = .ok (.goto off, 3)) (ht : (pc : Int) + off = (tgt : Int)) (k : kC E y d tgt lv st S res) : kC E y d pc lv st S res := by
  intro q hq
  refine ⟨(k q hq).1, ?_⟩
  intro p e s m args below meth c H locs ls n0 C hm hn hz hX hS hl
  exact lv_goto C.1 C.2.1 hd ht ((k q hq).2 p e s m args below meth c H locs ls n0 C hm hn hz hX hS hl)
theorem kc_icmp_ge {x z : Int32} {off : Int} {tgt : Nat} {ra rb : Option kc_S} (hd : decode y.2.1 pc = .ok (.if_icmp .ge off, 3)) (ht : (pc : Int) + off = (tgt : Int)) (kt : kC E y d tgt lv st S ra) (kf : kC E y d (pc + 3) lv st S rb) : kC E y d pc lv (.int z :: .int x :: st) S (if z ≤ x then ra else rb) := by
  intro q hq
  by_cases h0 : z ≤ x
  · rw [if_pos h0] at hq
    refine ⟨(kt q hq).1, ?_⟩
    intro p e s m args below meth c H locs ls n0 C hm hn hz hX hS hl
    exact lv_icmp_ge C.1 C.2.1 hd ht (fun _ => (kt q hq).2 p e s m args below meth c H locs ls n0 C hm hn hz hX hS hl) (fun h => absurd h0 h)
  · rw [if_neg h0] at hq
    refine ⟨(kf q hq).1, ?_⟩
    intro p e s m args below meth c H locs ls n0 C hm hn hz hX hS hl
    exact lv_icmp_ge C.1 C.2.1 hd ht (fun h => absurd h h0) (fun _ => (kf q hq).2 p e s m args below meth c H locs ls n0 C hm hn hz hX hS hl)
theorem kc_none : kC E y d pc lv st S none := fun q hq => by cases hq
theorem kc_sub (ks : List Nat) (h : lv_pick lv ks = lv') (k : kC E y d pc lv' st S res) : kC E y d pc lv st S res := by
  intro q hq
  refine ⟨(k q hq).1, ?_⟩
  intro p e s m args below meth c H locs ls n0 C hm hn hz hX hS hl
  exact (k q hq).2 p e s m args below meth c H locs ls n0 C hm hn hz hX hS (lv_sub hl ks h)
theorem kc_vret (hd : decode y.2.1 pc = .ok (.return_, 1)) (hr : y.2.2.2 = none) : kC E y d pc lv [] S (some S) := by
  intro q hq
  cases hq
  refine ⟨⟨Nat.le_refl _, Nat.le_refl _⟩, ?_⟩
  intro p e s m args below meth c H locs ls n0 C hm hn hz hX hS hl
  exact W.vret C.1 C.2.1 (C.2.2.1.trans hr) (fun t ht _ => ⟨rfl, by rw [ht]; exact hX.1, by rw [ht]; exact hX.2.1, hS.F ht⟩) hS.2.2 hd (hlocks := C.2.2.2.2.2.2)
theorem kc_w_oinst : Cond.instanceMethod Lib.objectInit ∈ kr_T := kr_t 28 (by decide +kernel) rfl
theorem kc_w_ocode : Cond.code Lib.objectInit ⟨#[0xb1]⟩ 1 none ∈ kr_T := kr_t 29 (by decide +kernel) rfl
theorem kc_obj {a i : Nat} (hd : decode y.2.1 pc = .ok (.invokespecial i, 3)) (hw : Cond.methodLink y.1.cls i Lib.objectInit ∈ kr_T) (h0 : 0 < d) (hst : (st.map fun v => v.category).sum ≤ 8) (k : kC E y d (pc + 3) lv st S res) : kC E y d pc lv (.ref a :: st) S res := by
  intro q hq
  refine ⟨(k q hq).1, ?_⟩
  intro p e s m args below meth c H locs ls n0 C hm hn hz hX hS hl
  exact W.objInit C.1 C.2.1 C.own (C.word hw) (C.word kc_w_oinst) (C.word kc_w_ocode) rfl (hl.1.trans C.2.2.2.1.symm) rfl hd h0 (by show 2 * 0 + _ + 12 ≤ 64 * d; omega) ((k q hq).2 p e s m args below meth c H locs ls n0 C hm hn hz hX hS hl)
theorem kc_mmax {x z : Int32} {i : Nat} (hd : decode y.2.1 pc = .ok (.invokestatic i, 3)) (hw : Cond.methodLink y.1.cls i Lib.Math.max.name ∈ kr_T) (h0 : 0 < d) (hst : (st.map fun v => v.category).sum ≤ 8) (k : kC E y d (pc + 3) lv (.int (kr_max x z) :: st) S res) : kC E y d pc lv (.int z :: .int x :: st) S res := by
  intro q hq
  refine ⟨(k q hq).1, ?_⟩
  intro p e s m args below meth c H locs ls n0 C hm hn hz hX hS hl
  have hmo := (k q hq).1
  exact va_mmax (R := kc_rm d (q.1 - n0) (kc_sz q.1 - kc_sz n0)) C.1 C.2.1 (C.2.2.2.1.trans hl.1.symm) C.own (C.word hw) (C.word kr_w_mstat) (C.word kr_w_mini) (C.word kr_w_mcode) h0 (by show _ + 13 ≤ 64 * d; omega) (by show S.1 - n0 ≤ q.1 - n0; omega) (by show kc_sz S.1 - kc_sz n0 ≤ kc_sz q.1 - kc_sz n0; omega) hd ((k q hq).2 p e s m args below meth c H locs ls n0 C hm hn hz hX hS hl)
/-- one cell more: its row is as new -/
def kc_more (S : kc_S) : kc_S := (S.1 + 1, S.2.1, S.2.2)
def kc_fr (S : kc_S) : Prop := S.2.1.all (fun e => decide (e.1 < S.1)) = true ∧ S.2.2.all (fun e => decide (e.1 < S.1)) = true
def kc_al (S : kc_S) (q : Nat × Nat) (k : Nat → kc_S → Option kc_S) : Option kc_S := if kr_sh S.1 = q ∧ S.1 < kr_N ∧ S.2.1.all (fun e => decide (e.1 < S.1)) = true ∧ S.2.2.all (fun e => decide (e.1 < S.1)) = true then k S.1 (kc_more S) else none
theorem kc_more_o {j : Nat} : kc_cell E (kc_more S) j = kc_cell E S j := rfl
theorem kc_moreP {H H1 : Heap} (hP : va_P E.2.2.1 vwCl (kc_ws E S) H) (hk : ∀ q, q < H.size → H1[q]? = H[q]?) (hnew : va_at E.2.2.1 vwCl (E.2.1 + S.1, kc_cell E (kc_more S) S.1) H1) : va_P E.2.2.1 vwCl (kc_ws E (kc_more S)) H1 := by
  intro k x hx
  have hl : (kc_ws E (kc_more S)).length = S.1 + 1 := by simp [kc_ws, kc_more]
  have hk1 : k < S.1 + 1 := by rw [← hl]; exact (List.getElem?_eq_some_iff.mp hx).1
  rw [kc_ws_at (show k < (kc_more S).1 from hk1)] at hx
  cases hx
  by_cases he : k = S.1
  · rw [he]; exact hnew
  · have h2 : k < S.1 := by omega
    have h3 := hP k _ (kc_ws_at h2)
    rw [kc_more_o]
    exact h3.kept (hk _ h3.lt)
theorem kc_szs (n : Nat) : kc_sz (n + 1) = kc_sz n + kc_sl (kr_sh n) := rfl
theorem kc_new {i ci : Nat} {k : Nat → kc_S → Option kc_S} (hd : decode y.2.1 pc = .ok (.new i, 3)) (hw : Cond.classLink y.1.cls i (kr_cn ci) ∈ kr_T) (hin : Cond.instantiable (kr_cn ci) (kr_cz ci) ∈ kr_T) (hini : Cond.initialized (kr_cn ci) ∈ kr_T) (h : ∀ a S1, kC E y d (pc + 3) lv (kr_r E a :: st) S1 (k a S1)) (hc : ci < 13 := by decide) : kC E y d pc lv st S (kc_al S (ci, 0) k) := by
  intro q hq
  unfold kc_al at hq
  by_cases h0 : kr_sh S.1 = (ci, 0) ∧ S.1 < kr_N ∧ S.2.1.all (fun e => decide (e.1 < S.1)) = true ∧ S.2.2.all (fun e => decide (e.1 < S.1)) = true
  · rw [if_pos h0] at hq
    have hmo := (h S.1 (kc_more S) q hq).1
    have e1 : (kc_more S).1 = S.1 + 1 := rfl
    rw [e1, kc_szs] at hmo
    have e2 : kc_sl (kr_sh S.1) = kr_cz ci := by rw [h0.1]; exact if_pos (by show ci < 20; omega)
    rw [e2] at hmo
    refine ⟨⟨by omega, by omega⟩, ?_⟩
    intro p e s m args below meth c H locs ls n0 C hm hn hz hX hS hl
    obtain ⟨hP, hsz, hle, hK, hT⟩ := hX
    have hKn := hK.1 ci _ (kr_clat ci hc)
    refine W.newcK (g := F0 m pc ls st) C.1 C.2.1 C.own (C.word hw) (C.word hin) (C.word hini) rfl hd (by show S.1 - n0 + 1 ≤ q.1 - n0; omega) (by show kc_sz S.1 - kc_sz n0 + kr_cz ci ≤ kc_sz q.1 - kc_sz n0; omega) hKn.2.1 hsz fun H1 kC hkC e1 z1 o1 => ?_
    have h2 := (h S.1 (kc_more S) q hq).2 p e s m args below meth c H1 locs ls n0 C hm (by show n0 ≤ S.1 + 1; omega) (by show _ ≤ kc_sz (S.1 + 1); rw [kc_szs]; omega)
      ⟨kc_moreP hP (fun x hx => o1 x (by omega)) ?_, by rw [z1]; show _ = E.2.1 + (S.1 + 1); omega, h0.2.1, hK, hT⟩ ⟨Nat.le_trans hS.1 (by omega), fun x g1 g2 => (o1 x (by have := hS.1; omega)).trans (hS.2.1 x g1 g2), hS.2.2⟩ hl
    · have e3 : (kc_more S).1 - n0 = S.1 - n0 + 1 := by show S.1 + 1 - n0 = _; omega
      have e4 : kc_sz (kc_more S).1 - kc_sz n0 = kc_sz S.1 - kc_sz n0 + kr_cz ci := by show kc_sz (S.1 + 1) - _ = _; rw [kc_szs, e2]; omega
      rw [e3, e4] at h2
      exact h2
    · have ec : kc_cell E (kc_more S) S.1 = .inr (ci, kc_fs E.2.1 S.1 (kc_more S) ci) := by
        unfold kc_cell
        rw [h0.1]
        exact if_pos (by show ci < 20; omega)
      rw [ec]
      refine ⟨_, kr_clat ci hc, (u_born (kr_cty ci) C.words (fun w hw => List.mem_cons_of_mem _ (kr_inT ci hc w hw)) hKn hkC e1 (kr_ctyok ci hc)).to (fun j hj => ?_)⟩
      have hjl : j < (kr_fd ci).length := by rw [kr_fdl ci hc]; exact hj
      obtain ⟨q0, hq0⟩ : ∃ q0, (kr_fd ci)[j]? = some q0 := ⟨_, List.getElem?_eq_getElem hjl⟩
      have hv : vp_V (kc_fs E.2.1 S.1 (kc_more S) ci) j = kc_fv E.2.1 S.1 (kc_more S) j q0 := by
        simp [vp_V, kc_fs, List.getElem?_mapIdx, hq0]
      rw [hv]
      have hd0 := kc_dflt ci hc j hj q0 hq0
      rw [hd0]
      simp [kc_fv, kc_more, va_rf, kc_im_0 _ _ h0.2.2.1, kc_rr_0 _ _ h0.2.2.2]
  · rw [if_neg h0] at hq; cases hq

theorem kc_n60 : ∀ k, k < kr_N → (kr_sh k).2 ≤ 60025 := by decide +kernel
theorem kc_alloc {n : Nat} {q0 : Nat × Nat} {k : Nat → kc_S → Option kc_S} (hsl : kc_sl q0 = n) (h : ∀ a S1 q, k a S1 = some q → S1.1 ≤ q.1 ∧ kc_sz S1.1 ≤ kc_sz q.1) : ∀ q, kc_al S q0 k = some q → kr_sh S.1 = q0 ∧ (S.1 < kr_N ∧ S.2.1.all (fun e => decide (e.1 < S.1)) = true ∧ S.2.2.all (fun e => decide (e.1 < S.1)) = true) ∧ k S.1 (kc_more S) = some q ∧ S.1 + 1 ≤ q.1 ∧ kc_sz S.1 + n ≤ kc_sz q.1 := by
  intro q hq
  unfold kc_al at hq
  by_cases h0 : kr_sh S.1 = q0 ∧ S.1 < kr_N ∧ S.2.1.all (fun e => decide (e.1 < S.1)) = true ∧ S.2.2.all (fun e => decide (e.1 < S.1)) = true
  · rw [if_pos h0] at hq
    have hmo := h S.1 (kc_more S) q hq
    have e1 : (kc_more S).1 = S.1 + 1 := rfl
    rw [e1, kc_szs, h0.1, hsl] at hmo
    exact ⟨h0.1, h0.2, hq, hmo.1, hmo.2⟩
  · rw [if_neg h0] at hq; cases hq
theorem kc_newa {x : Int32} {at0 : ArrayType} {t : Nat} {ty : FieldType} {k : Nat → kc_S → Option kc_S} (hd : decode y.2.1 pc = .ok (.newarray at0, 2)) (hty : newarray.typeOf at0 = ty) (ht : kr_ty t = ty) (hb : componentBytes ty ≤ 8) (hw : Cond.arrayClass ty ∈ kr_T) (htr : (t = 20 ∧ ty = .int) ∨ (t = 21 ∧ ty = .byte) ∨ (t = 22 ∧ ty = .boolean) ∨ (t = 23 ∧ ty = .long)) (h : ∀ a S1, kC E y d (pc + 2) lv (kr_r E a :: st) S1 (k a S1)) : kC E y d pc lv (.int x :: st) S (if x < 0 then none else kc_al S (t, x.toNatClampNeg) k) := by
  intro q hq
  by_cases hx : x < 0
  · rw [if_pos hx] at hq; cases hq
  · rw [if_neg hx] at hq
    subst hty
    have ht20 : 20 ≤ t ∧ t < 24 := by rcases htr with ⟨h, -⟩ | ⟨h, -⟩ | ⟨h, -⟩ | ⟨h, -⟩ <;> omega
    obtain ⟨h1, h2, h3, h4, h5⟩ := kc_alloc (n := x.toNatClampNeg) (by unfold kc_sl; exact if_neg (by show ¬ t < 20; omega)) (fun a S1 q hq => (h a S1 q hq).1) q hq
    refine ⟨⟨by omega, by omega⟩, ?_⟩
    intro p e s m args below meth c H locs ls n0 C hm hn hz hX hS hl
    obtain ⟨hP, hsz, hle, hK, hT⟩ := hX
    have hN := kc_n60 S.1 h2.1
    rw [h1] at hN
    have hN : x.toNatClampNeg ≤ 60025 := hN
    refine va_newaK (g := F0 m pc ls (.int x :: st)) C.1 C.2.1 (C.word hw) rfl hd rfl hx rfl (by have := Nat.mul_le_mul hN hb; omega) (by show S.1 - n0 + 1 ≤ q.1 - n0; omega) (by show kc_sz S.1 - kc_sz n0 + _ ≤ kc_sz q.1 - kc_sz n0; omega) hsz fun H1 cA e1 z1 o1 hAr hNm => ?_
    have hca : cA = E.2.2.2.1 S.1 := by
      have g1 := (hK.2 S.1 _ (kr_tya h1 ht20.1 (by omega))).2
      rw [ht] at g1
      have g2 : s.vm.findClass ("[" ++ (newarray.typeOf at0).toString) = some (E.2.2.2.1 S.1) := by
        rcases htr with ⟨-, r⟩ | ⟨-, r⟩ | ⟨-, r⟩ | ⟨-, r⟩ <;> rw [r] at g1 ⊢ <;> exact g1
      exact Option.some.inj (hNm.symm.trans g2)
    subst hca
    have h6 := (h S.1 (kc_more S) q h3).2 p e s m args below meth c H1 locs ls n0 C hm (by show n0 ≤ S.1 + 1; omega) (by show _ ≤ kc_sz (S.1 + 1); rw [kc_szs]; omega)
      ⟨kc_moreP hP (fun x hx => o1 x (by omega)) ?_, by rw [z1]; show _ = E.2.1 + (S.1 + 1); omega, h2.1, hK, hT⟩ ⟨Nat.le_trans hS.1 (by omega), fun x g1 g2 => (o1 x (by have := hS.1; omega)).trans (hS.2.1 x g1 g2), hS.2.2⟩ hl
    · have e3 : (kc_more S).1 - n0 = S.1 - n0 + 1 := by show S.1 + 1 - n0 = _; omega
      have e4 : kc_sz (kc_more S).1 - kc_sz n0 = kc_sz S.1 - kc_sz n0 + x.toNatClampNeg := by
        show kc_sz (S.1 + 1) - _ = _
        rw [kc_szs, h1, show kc_sl (t, x.toNatClampNeg) = x.toNatClampNeg by unfold kc_sl; exact if_neg (by show ¬ t < 20; omega)]
        omega
      rw [e3, e4] at h6
      exact h6
    · show va_at _ _ (E.2.1 + S.1, kc_cell E (kc_more S) S.1) H1
      unfold kc_cell
      rw [h1]
      rcases htr with ⟨rfl, r⟩ | ⟨rfl, r⟩ | ⟨rfl, r⟩ | ⟨rfl, r⟩ <;> rw [r] at e1 <;> simp [kc_more, va_at, kc_im_0 _ _ h2.2.1] <;> exact e1
  done
theorem kc_newq {x : Int32} {i t : Nat} {Cn : String} {k : Nat → kc_S → Option kc_S} (hd : decode y.2.1 pc = .ok (.anewarray i, 3)) (ht : kr_ty t = .object Cn) (ht2 : 23 < t ∧ t < 27) (hw : Cond.classLink y.1.cls i Cn ∈ kr_T) (hao : ∀ s, kc_T s → va_AO Cn s) (h : ∀ a S1, kC E y d (pc + 3) lv (kr_r E a :: st) S1 (k a S1)) : kC E y d pc lv (.int x :: st) S (if x < 0 then none else kc_al S (t, x.toNatClampNeg) k) := by
  intro q hq
  by_cases hx : x < 0
  · rw [if_pos hx] at hq; cases hq
  · rw [if_neg hx] at hq
    obtain ⟨h1, h2, h3, h4, h5⟩ := kc_alloc (n := x.toNatClampNeg) (by unfold kc_sl; exact if_neg (by show ¬ t < 20; omega)) (fun a S1 q hq => (h a S1 q hq).1) q hq
    refine ⟨⟨by omega, by omega⟩, ?_⟩
    intro p e s m args below meth c H locs ls n0 C hm hn hz hX hS hl
    obtain ⟨hP, hsz, hle, hK, hT⟩ := hX
    have hN := kc_n60 S.1 h2.1
    rw [h1] at hN
    have hN : x.toNatClampNeg ≤ 60025 := hN
    refine W.anew (g := F0 m pc ls (.int x :: st)) C.1 C.2.1 C.own (C.word hw) (va_AO.use (hao s hT)) rfl hd rfl hx (by omega) (by show S.1 - n0 + 1 ≤ q.1 - n0; omega) (by show kc_sz S.1 - kc_sz n0 + _ ≤ kc_sz q.1 - kc_sz n0; omega) fun cA kA comp f1 f2 f3 f4 => ?_
    generalize hH1 : H.push ({ cls := cA, slots := Array.replicate x.toNatClampNeg .null, vm := .none } : Cell) = H1
    have z1 : H1.size = H.size + 1 := by rw [← hH1, Array.size_push]
    have e1 : H1[H.size]? = some (arrV cA x.toNatClampNeg (fun _ => .null)) := by rw [← hH1, Array.getElem?_push_size, ← arrV_new]
    have o1 : ∀ q, q < H.size → H1[q]? = H[q]? := fun q hq => by rw [← hH1, Array.getElem?_push, if_neg (Nat.ne_of_lt hq)]
    have hca : cA = E.2.2.2.1 S.1 := by
      have g1 := (hK.2 S.1 _ (kr_tya h1 (by omega) (by omega))).2
      rw [ht] at g1
      obtain ⟨_, _, -, -, -, g2⟩ := g1
      exact Option.some.inj (f1.symm.trans g2)
    subst hca
    have h6 := (h S.1 (kc_more S) q h3).2 p e s m args below meth c H1 locs ls n0 C hm (by show n0 ≤ S.1 + 1; omega) (by show _ ≤ kc_sz (S.1 + 1); rw [kc_szs]; omega)
      ⟨kc_moreP hP o1 ?_, by rw [z1, hsz]; show _ = E.2.1 + (S.1 + 1); omega, h2.1, hK, hT⟩ ⟨Nat.le_trans hS.1 (by omega), fun x g1 g2 => (o1 x (by have := hS.1; omega)).trans (hS.2.1 x g1 g2), hS.2.2⟩ hl
    · have e3 : (kc_more S).1 - n0 = S.1 - n0 + 1 := by show S.1 + 1 - n0 = _; omega
      have e4 : kc_sz (kc_more S).1 - kc_sz n0 = kc_sz S.1 - kc_sz n0 + x.toNatClampNeg := by
        show kc_sz (S.1 + 1) - _ = _
        rw [kc_szs, h1, show kc_sl (t, x.toNatClampNeg) = x.toNatClampNeg by unfold kc_sl; exact if_neg (by show ¬ t < 20; omega)]
        omega
      rw [e3, e4] at h6
      rw [hsz]
      exact h6
    · show va_at _ _ (E.2.1 + S.1, kc_cell E (kc_more S) S.1) H1
      unfold kc_cell
      rw [h1]
      rw [hsz] at e1
      rcases (show t = 24 ∨ t = 25 ∨ t = 26 by omega) with rfl | rfl | rfl <;> simp [kc_more, va_at, kc_rr_0 _ _ h2.2.2] <;> exact e1
  done
def kc_si (S : kc_S) (a j : Nat) (x : Int32) : kc_S := (S.1, (a, j, x) :: S.2.1, S.2.2)
def kc_sr (S : kc_S) (a j b : Nat) : kc_S := (S.1, S.2.1, (a, j, b) :: S.2.2)
theorem kc_cell_congr {S' : kc_S} {j : Nat} (h1 : kc_im S'.2.1 j = kc_im S.2.1 j) (h2 : kc_rr S'.2.2 j = kc_rr S.2.2 j) : kc_cell E S' j = kc_cell E S j := by
  unfold kc_cell kc_fs
  have e : kc_fv E.2.1 j S' = kc_fv E.2.1 j S := by
    funext i d
    simp only [kc_fv, h1, h2]
  rw [e, h1, h2]
theorem kc_cobj {a ci : Nat} (hs : kr_sh a = (ci, 0)) (hc : ci < 13) : kc_cell E S a = .inr (ci, kc_fs E.2.1 a S ci) := by
  unfold kc_cell
  rw [hs]
  exact if_pos (by show ci < 20; omega)
theorem kc_fsat {B a ci j : Nat} {q : Nat × Nat} (hf : (kr_fd ci)[j]? = some q) : (kc_fs B a S ci)[j]? = some (kc_fv B a S j q) := by
  simp [kc_fs, List.getElem?_mapIdx, hf]
theorem kc_fsi {B a ci j : Nat} {x : Int32} (hf : (kr_fd ci)[j]? = some (0, 0)) : kc_fs B a (kc_si S a j x) ci = (kc_fs B a S ci).set j (.int x) := by
  apply List.ext_getElem?
  intro i
  simp only [kc_fs, List.getElem?_set, List.getElem?_mapIdx, List.length_mapIdx]
  by_cases hi : j = i
  · subst hi
    have hl := (List.getElem?_eq_some_iff.mp hf).1
    rw [if_pos rfl, if_pos hl, hf]
    simp [kc_fv, kc_si, kc_im_eq, upd]
  · rw [if_neg hi]
    congr 1
    funext q
    have hij : ¬ i = j := fun h => hi h.symm
    simp [kc_fv, kc_si, kc_im_eq, upd, hij]
theorem kc_fsr {B a ci j b : Nat} {q0 : Nat × Nat} (hf : (kr_fd ci)[j]? = some q0) (h2 : 2 ≤ q0.1) : kc_fs B a (kc_sr S a j b) ci = (kc_fs B a S ci).set j (.ref (B + b)) := by
  apply List.ext_getElem?
  intro i
  simp only [kc_fs, List.getElem?_set, List.getElem?_mapIdx, List.length_mapIdx]
  by_cases hi : j = i
  · subst hi
    have hl := (List.getElem?_eq_some_iff.mp hf).1
    rw [if_pos rfl, if_pos hl, hf]
    simp [kc_fv, kc_sr, kc_rr_eq, va_up, va_rf, show ¬ q0.1 = 0 by omega, show ¬ q0.1 = 1 by omega]
  · rw [if_neg hi]
    congr 1
    funext q
    have hij : ¬ i = j := fun h => hi h.symm
    simp [kc_fv, kc_sr, kc_rr_eq, va_up, hij]
theorem kc_rty : ∀ ci, ci < 13 → ∀ j, j < kr_cz ci → 2 ≤ ((kr_fd ci).getD j (0, 0)).1 → (match kr_cty ci j with | .object _ => true | .array _ => true | _ => false) = true := by decide +kernel
theorem kc_rfit {ci j x : Nat} {q0 : Nat × Nat} (hc : ci < 13) (hf : (kr_fd ci)[j]? = some q0) (h2 : 2 ≤ q0.1) : narrow (kr_cty ci j) (.ref x) = .ref x ∧ fits (kr_cty ci j) (.ref x) = true := by
  have h := kc_rty ci hc j (kr_fdlt hf hc) (by rw [List.getD_eq_getElem?_getD, hf]; exact h2)
  cases ht : kr_cty ci j <;> rw [ht] at h <;> first | exact ⟨rfl, rfl⟩ | cases h
theorem kc_setX {s : State} {H1 H : Heap} {S' : kc_S} {a : Nat} {e : va_E} (hX : kc_X E S s H) (hP : va_P E.2.2.1 vwCl ((kc_ws E S).set a (E.2.1 + a, e)) H1) (hz : H1.size = H.size) (hn : S'.1 = S.1) (he : kc_cell E S' a = e) (ho : ∀ j, j ≠ a → kc_cell E S' j = kc_cell E S j) : kc_X E S' s H1 := by
  rw [kc_ws_set hn he ho] at hP
  exact ⟨hP, by rw [hz, hX.2.1, hn], by rw [hn]; exact hX.2.2.1, hX.2.2.2⟩
theorem kc_putv {a ci j i : Nat} {v : Value} {S1 : kc_S} {k : kc_S → Option kc_S} (hd : decode y.2.1 pc = .ok (.putfield i, 3)) (hw : Cond.fieldLink y.1.cls i (kr_ct ci j).1 (kr_ct ci j).2.1 (kr_ct ci j).2.2.1 ∈ kr_T) (hj : j < kr_cz ci) (hfin : (kr_ct ci j).2.2.2 = false) (hn1 : narrow (kr_cty ci j) v = v) (hfit : fits (kr_cty ci j) v = true) (hs1 : S1.1 = S.1) (he : kc_fs E.2.1 a S1 ci = (kc_fs E.2.1 a S ci).set j v) (ho : ∀ b, b ≠ a → kc_cell E S1 b = kc_cell E S b) (hc : ci < 13) (h : kC E y d (pc + 3) lv st S1 (k S1)) : kC E y d pc lv (v :: kr_r E a :: st) S (if kr_sh a = (ci, 0) ∧ a < S.1 then kr_let S1 k else none) := by
  intro q hq
  by_cases h0 : kr_sh a = (ci, 0) ∧ a < S.1
  · rw [if_pos h0] at hq
    have h1 := h q hq
    rw [hs1] at h1
    refine ⟨h1.1, ?_⟩
    intro p e s m args below meth c H locs ls n0 C hm hn hz hX hS hl
    have hwo : (kc_ws E S)[a]? = some (E.2.1 + a, .inr (ci, kc_fs E.2.1 a S ci)) := by rw [kc_ws_at h0.2, kc_cobj h0.1 hc]
    have hin : ∀ w ∈ u_ws (kr_cn ci) (kr_ct ci) (kr_cz ci), w ∈ kr_W0 y := fun w hw => List.mem_cons_of_mem _ (kr_inT ci hc w hw)
    have hap := va_apart (own := y.1.cls) C.words hin (kr_cty ci) (kr_ctyok ci hc) (kr_cnm ci hc) hX.2.2.2.1 (kr_clat ci hc)
    obtain ⟨r, hr1, cell, q1, q2, q3, q4⟩ := hX.1 a _ hwo
    have hr : r = (kr_cn ci, kr_ct ci, kr_cz ci) := Option.some.inj (hr1.symm.trans (kr_clat ci hc))
    subst hr
    obtain ⟨hSl, hfc, kC, hkC, hkind⟩ := hX.2.2.2.1.1 ci _ (kr_clat ci hc)
    obtain ⟨cf, kf, fi, f, hi, hsl⟩ := hSl j hj
    have hlay := C.words _ (hin _ (u_in_lay hj))
    unfold u_lay at hlay
    rw [if_neg (by rw [hfin]; decide)] at hlay
    have hst := (u_facts hfc hkC (u_lays C.words hin hj) hi).1
    have h6 := u_store hfc hkC hkind hlay hi (kr_ctyok ci hc j hj) hn1 hfit
    refine W.putK C.1 C.2.1 (f := f) ⟨C.own, C.word hw, ⟨_, _, _, hi⟩, hst⟩ (by rw [q2]; exact h6) q1 q3 (by rw [hsl]; exact k2_hasslot (q4 j hj)) rfl rfl hd fun H1 e1 e2 e3 => ?_
    rw [hsl] at e1 ⊢
    have hlen : j < (kc_fs E.2.1 a S ci).length := by simp only [kc_fs, List.length_mapIdx, kr_fdl ci hc]; exact hj
    have hP1 := hX.1.set kc_D hwo (H1 := H1) (e := .inr (ci, (kc_fs E.2.1 a S ci).set j v)) ⟨_, kr_clat ci hc, t_OB.to (V := updV (vp_V (kc_fs E.2.1 a S ci)) j v) ⟨_, e1, q2, q3, t_set q4 hap hj v⟩ (fun j _ => vp_updV_set hlen v j)⟩ e3
    exact h1.2 p e s m args below meth c H1 _ ls n0 C hm hn hz (kc_setX hX hP1 e2 hs1 (by rw [kc_cobj h0.1 hc, he]) ho) (hS.put e2 e3 (Nat.le_add_right _ _)) hl
  · rw [if_neg h0] at hq; cases hq
theorem kc_putw {a ci j i : Nat} {v : Value} {S1 : kc_S} {k : kc_S → Option kc_S} (hd : decode y.2.1 pc = .ok (.putfield i, 3)) (hw : Cond.fieldLink y.1.cls i (kr_ct ci j).1 (kr_ct ci j).2.1 (kr_ct ci j).2.2.1 ∈ kr_T) (hj : j < kr_cz ci) (hfin : (kr_ct ci j).2.2.2 = true) (hini : y.1.name = "<init>") (hdecl : (kr_ct ci j).1 = y.1.cls) (hn1 : narrow (kr_cty ci j) v = v) (hfit : fits (kr_cty ci j) v = true) (hs1 : S1.1 = S.1) (he : kc_fs E.2.1 a S1 ci = (kc_fs E.2.1 a S ci).set j v) (ho : ∀ b, b ≠ a → kc_cell E S1 b = kc_cell E S b) (hc : ci < 13) (h : kC E y d (pc + 3) lv st S1 (k S1)) : kC E y d pc lv (v :: kr_r E a :: st) S (if kr_sh a = (ci, 0) ∧ a < S.1 then kr_let S1 k else none) := by
  intro q hq
  by_cases h0 : kr_sh a = (ci, 0) ∧ a < S.1
  · rw [if_pos h0] at hq
    have h1 := h q hq
    rw [hs1] at h1
    refine ⟨h1.1, ?_⟩
    intro p e s m args below meth c H locs ls n0 C hm hn hz hX hS hl
    have hwo : (kc_ws E S)[a]? = some (E.2.1 + a, .inr (ci, kc_fs E.2.1 a S ci)) := by rw [kc_ws_at h0.2, kc_cobj h0.1 hc]
    have hin : ∀ w ∈ u_ws (kr_cn ci) (kr_ct ci) (kr_cz ci), w ∈ kr_W0 y := fun w hw => List.mem_cons_of_mem _ (kr_inT ci hc w hw)
    have hap := va_apart (own := y.1.cls) C.words hin (kr_cty ci) (kr_ctyok ci hc) (kr_cnm ci hc) hX.2.2.2.1 (kr_clat ci hc)
    obtain ⟨r, hr1, cell, q1, q2, q3, q4⟩ := hX.1 a _ hwo
    have hr : r = (kr_cn ci, kr_ct ci, kr_cz ci) := Option.some.inj (hr1.symm.trans (kr_clat ci hc))
    subst hr
    obtain ⟨hSl, hfc, kC, hkC, hkind⟩ := hX.2.2.2.1.1 ci _ (kr_clat ci hc)
    obtain ⟨cf, kf, fi, f, hi, hsl⟩ := hSl j hj
    have hlay := C.words _ (hin _ (u_in_lay hj))
    unfold u_lay at hlay
    rw [if_pos hfin] at hlay
    have hst := (u_facts hfc hkC (u_lays C.words hin hj) hi).1
    have hcf : m.cls = cf := by
      obtain ⟨_, _, c', _, _, _, -, -, hf', -, -, -, hown2, -⟩ := Cond.laysFinal_spec hlay
      have e1 : c' = cf := by have := hi.symm.trans hf'; simp at this; exact this.1.symm
      rw [hdecl] at hown2
      rw [← e1]; exact Option.some.inj (C.own.symm.trans hown2)
    have h6 := u_fits hfc hkC hkind (Or.inr hlay) hi (kr_ctyok ci hc j hj) hn1 hfit
    refine W.putFinK C.1 C.2.1 C.own (C.word hw) hi hst hcf (by rw [hm, hini]) (by rw [q2]; exact h6) q1 q3 (by rw [hsl]; exact k2_hasslot (q4 j hj)) rfl rfl hd fun H1 e1 e2 e3 => ?_
    rw [hsl] at e1 ⊢
    have hlen : j < (kc_fs E.2.1 a S ci).length := by simp only [kc_fs, List.length_mapIdx, kr_fdl ci hc]; exact hj
    have hP1 := hX.1.set kc_D hwo (H1 := H1) (e := .inr (ci, (kc_fs E.2.1 a S ci).set j v)) ⟨_, kr_clat ci hc, t_OB.to (V := updV (vp_V (kc_fs E.2.1 a S ci)) j v) ⟨_, e1, q2, q3, t_set q4 hap hj v⟩ (fun j _ => vp_updV_set hlen v j)⟩ e3
    exact h1.2 p e s m args below meth c H1 _ ls n0 C hm hn hz (kc_setX hX hP1 e2 hs1 (by rw [kc_cobj h0.1 hc, he]) ho) (hS.put e2 e3 (Nat.le_add_right _ _)) hl
  · rw [if_neg h0] at hq; cases hq
theorem kc_putI {a ci j i : Nat} {x : Int32} {k : kc_S → Option kc_S} (hd : decode y.2.1 pc = .ok (.putfield i, 3)) (hw : Cond.fieldLink y.1.cls i (kr_ct ci j).1 (kr_ct ci j).2.1 (kr_ct ci j).2.2.1 ∈ kr_T) (hf : (kr_fd ci)[j]? = some (0, 0)) (hfin : (kr_ct ci j).2.2.2 = false) (h : ∀ S1, kC E y d (pc + 3) lv st S1 (k S1)) (hc : ci < 13 := by decide) : kC E y d pc lv (.int x :: kr_r E a :: st) S (if kr_sh a = (ci, 0) ∧ a < S.1 then kr_let (kc_si S a j x) k else none) := by
  have ht := kr_fdI ci hc j (kr_fdlt hf hc) hf
  exact kc_putv hd hw (kr_fdlt hf hc) hfin (by rw [ht]; rfl) (by rw [ht]; rfl) rfl (kc_fsi hf) (fun b hb => kc_cell_congr (kc_im_ne _ _ _ hb) rfl) hc (h _)
theorem kc_putR {a ci j i b : Nat} {q0 : Nat × Nat} {k : kc_S → Option kc_S} (hd : decode y.2.1 pc = .ok (.putfield i, 3)) (hw : Cond.fieldLink y.1.cls i (kr_ct ci j).1 (kr_ct ci j).2.1 (kr_ct ci j).2.2.1 ∈ kr_T) (hf : (kr_fd ci)[j]? = some q0) (h2 : 2 ≤ q0.1) (hfin : (kr_ct ci j).2.2.2 = false) (h : ∀ S1, kC E y d (pc + 3) lv st S1 (k S1)) (hc : ci < 13 := by decide) : kC E y d pc lv (kr_r E b :: kr_r E a :: st) S (if kr_sh a = (ci, 0) ∧ a < S.1 then kr_let (kc_sr S a j b) k else none) :=
  kc_putv hd hw (kr_fdlt hf hc) hfin (kc_rfit hc hf h2).1 (kc_rfit hc hf h2).2 rfl (kc_fsr hf h2) (fun c hb => kc_cell_congr rfl (kc_rr_ne _ _ _ hb)) hc (h _)
theorem kc_putF {a ci j i b : Nat} {q0 : Nat × Nat} {k : kc_S → Option kc_S} (hd : decode y.2.1 pc = .ok (.putfield i, 3)) (hw : Cond.fieldLink y.1.cls i (kr_ct ci j).1 (kr_ct ci j).2.1 (kr_ct ci j).2.2.1 ∈ kr_T) (hf : (kr_fd ci)[j]? = some q0) (h2 : 2 ≤ q0.1) (hfin : (kr_ct ci j).2.2.2 = true) (hini : y.1.name = "<init>") (hdecl : (kr_ct ci j).1 = y.1.cls) (h : ∀ S1, kC E y d (pc + 3) lv st S1 (k S1)) (hc : ci < 13 := by decide) : kC E y d pc lv (kr_r E b :: kr_r E a :: st) S (if kr_sh a = (ci, 0) ∧ a < S.1 then kr_let (kc_sr S a j b) k else none) :=
  kc_putw hd hw (kr_fdlt hf hc) hfin hini hdecl (kc_rfit hc hf h2).1 (kc_rfit hc hf h2).2 rfl (kc_fsr hf h2) (fun c hb => kc_cell_congr rfl (kc_rr_ne _ _ _ hb)) hc (h _)
def kc_rd (S : kc_S) (a j ci : Nat) (k : Nat → Option kc_S) : Option kc_S := if kr_sh a = (ci, 0) ∧ a < S.1 then (match kc_rr S.2.2 a j with | some b => k b | none => none) else none
theorem kc_getR {a ci j i : Nat} {q0 : Nat × Nat} {k : Nat → Option kc_S} (hd : decode y.2.1 pc = .ok (.getfield i, 3)) (hw : Cond.fieldLink y.1.cls i (kr_ct ci j).1 (kr_ct ci j).2.1 (kr_ct ci j).2.2.1 ∈ kr_T) (hf : (kr_fd ci)[j]? = some q0) (h2 : 2 ≤ q0.1) (h : ∀ b, kC E y d (pc + 3) lv (kr_r E b :: st) S (k b)) (hc : ci < 13 := by decide) : kC E y d pc lv (kr_r E a :: st) S (kc_rd S a j ci k) := by
  intro q hq
  unfold kc_rd at hq
  by_cases h0 : kr_sh a = (ci, 0) ∧ a < S.1
  · rw [if_pos h0] at hq
    cases hb : kc_rr S.2.2 a j with
    | none => rw [hb] at hq; cases hq
    | some b =>
      rw [hb] at hq
      have h1 := h b q hq
      refine ⟨h1.1, ?_⟩
      intro p e s m args below meth c H locs ls n0 C hm hn hz hX hS hl
      refine va_get (own := y.1.cls) (C := kr_cn ci) (T := kr_ct ci) (N := kr_cz ci) C.1 C.2.1 C.words (fun w hw => List.mem_cons_of_mem _ (kr_inT ci hc w hw)) C.own hX.2.2.2.1 hX.1 a (by rw [kc_ws_at h0.2, kc_cobj h0.1 hc]) (kr_clat ci hc) j (kr_fdlt hf hc) (C.word hw) (fun _ h => h) (v := kr_r E b) ?_ hd (h1.2 p e s m args below meth c H locs ls n0 C hm hn hz hX hS hl)
      rw [kc_fsat hf]
      simp [kc_fv, hb, va_rf, show ¬ q0.1 = 0 by omega, show ¬ q0.1 = 1 by omega]
  · rw [if_neg h0] at hq; cases hq
theorem kc_carr {a t n : Nat} (hs : kr_sh a = (t, n)) (h1 : 20 ≤ t) (h2 : t < 23) : kc_cell E S a = .inl (E.2.2.2.1 a, n, .inl (kc_im S.2.1 a)) := by
  unfold kc_cell
  rw [hs]
  simp only [show ¬ t < 20 by omega, if_false, h2, if_true]
theorem kc_carq {a t n : Nat} (hs : kr_sh a = (t, n)) (h1 : 23 < t) : kc_cell E S a = .inl (E.2.2.2.1 a, n, .inr (.inr (.inr (.inr (fun j => (kc_rr S.2.2 a j).map (fun x => E.2.1 + x)))))) := by
  unfold kc_cell
  rw [hs]
  simp only [show ¬ t < 20 by omega, show ¬ t < 23 by omega, show ¬ t = 23 by omega, if_false]
theorem kc_iast {a n : Nat} {x z : Int32} {k : kc_S → Option kc_S} (hd : decode y.2.1 pc = .ok (.iastore, 1)) (h : ∀ S1, kC E y d (pc + 1) lv st S1 (k S1)) : kC E y d pc lv (.int z :: .int x :: kr_r E a :: st) S (if kr_sh a = (20, n) ∧ a < S.1 ∧ kr_in x n then kr_let (kc_si S a x.toNatClampNeg z) k else none) := by
  intro q hq
  by_cases h0 : kr_sh a = (20, n) ∧ a < S.1 ∧ kr_in x n
  · rw [if_pos h0] at hq
    have h1 := h _ q hq
    refine ⟨h1.1, ?_⟩
    intro p e s m args below meth c H locs ls n0 C hm hn hz hX hS hl
    have hwo : (kc_ws E S)[a]? = some (E.2.1 + a, .inl (E.2.2.2.1 a, n, .inl (kc_im S.2.1 a))) := by rw [kc_ws_at h0.2.1, kc_carr h0.1 (by decide) (by decide)]
    have hty := kr_tya (ca := E.2.2.2.1) h0.1 (by decide) (by decide)
    refine W.iast C.1 C.2.1 (hX.1 a _ hwo) ((hX.2.2.2.1.2 a _ hty).1 n (fun j => .int (kc_im S.2.1 a j))) (fun q => by cases q) (by show ¬ (x < 0 ∨ (arrV _ _ _).slots.size ≤ _); rw [arrV_size]; exact h0.2.2) rfl rfl hd fun H1 e1 z1 oq => ?_
    have hP1 := hX.1.set kc_D hwo (H1 := H1) (e := .inl (E.2.2.2.1 a, n, .inl (upd (kc_im S.2.1 a) x.toNatClampNeg z))) (by
      show H1[E.2.1 + a]? = some (vp_cell _ _)
      rw [e1]
      show some ((vp_cell (E.2.2.2.1 a) (n, .inl (kc_im S.2.1 a))).setSlot _ _) = _
      rw [vp_cell_i, vp_cell_i, arrV_store]
      congr 2
      funext q
      by_cases hq : q = x.toNatClampNeg
      · subst hq
        simp [updV, upd]
      · simp [updV, upd, hq]) oq
    exact h1.2 p e s m args below meth c H1 _ ls n0 C hm hn hz (kc_setX (S' := kc_si S a x.toNatClampNeg z) hX hP1 z1 rfl (by rw [kc_carr h0.1 (by decide) (by decide)]; simp [kc_si, kc_im_eq]) (fun b hb => kc_cell_congr (kc_im_ne _ _ _ hb) rfl)) (hS.put z1 oq (Nat.le_add_right _ _)) hl
  · rw [if_neg h0] at hq; cases hq
theorem kc_aast {a b t ci n : Nat} {x : Int32} {k : kc_S → Option kc_S} (hd : decode y.2.1 pc = .ok (.aastore, 1)) (ht : 23 < t ∧ t < 27) (hty : kr_ty t = .object (kr_cn ci)) (h : ∀ S1, kC E y d (pc + 1) lv st S1 (k S1)) (hc : ci < 13 := by decide) : kC E y d pc lv (kr_r E b :: .int x :: kr_r E a :: st) S (if kr_sh a = (t, n) ∧ a < S.1 ∧ kr_in x n ∧ kr_sh b = (ci, 0) ∧ b < S.1 then kr_let (kc_sr S a x.toNatClampNeg b) k else none) := by
  intro q hq
  by_cases h0 : kr_sh a = (t, n) ∧ a < S.1 ∧ kr_in x n ∧ kr_sh b = (ci, 0) ∧ b < S.1
  · rw [if_pos h0] at hq
    have h1 := h _ q hq
    refine ⟨h1.1, ?_⟩
    intro p e s m args below meth c H locs ls n0 C hm hn hz hX hS hl
    obtain ⟨g0, g1, g2, g3, g4⟩ := h0
    have hwo : (kc_ws E S)[a]? = some (E.2.1 + a, .inl (E.2.2.2.1 a, n, .inr (.inr (.inr (.inr (fun j => (kc_rr S.2.2 a j).map (fun x => E.2.1 + x))))))) := by rw [kc_ws_at g1, kc_carq g0 ht.1]
    have hwb : (kc_ws E S)[b]? = some (E.2.1 + b, .inr (ci, kc_fs E.2.1 b S ci)) := by rw [kc_ws_at g4, kc_cobj g3 hc]
    have htt := kr_tya (ca := E.2.2.2.1) g0 (by omega) (by omega)
    rw [hty] at htt
    have hlt : x.toNatClampNeg < n := Nat.not_le.mp fun q => g2 (Or.inr q)
    have hx0 : ¬ x < 0 := fun q => g2 (Or.inl q)
    obtain ⟨r', hr', cellV, f1, f2, f3, -⟩ := hX.1 b _ hwb
    have hcls := (hX.2.2.2.1.1 ci _ (kr_clat ci hc)).2
    obtain ⟨kA, comp, k1, k2, k3, -⟩ := (hX.2.2.2.1.2 a _ htt).2
    have hcomp : comp = E.2.2.1.1 ci := Option.some.inj (k3.symm.trans hcls.1)
    subst hcomp
    obtain ⟨kC, hkC, -⟩ := hcls.2
    refine W.aast C.1 C.2.1 (hX.1 a _ hwo) (fun q h => by cases h) (fun h => by cases h) k1 k2 rfl hkC ⟨hx0, by show _ < (arrV _ _ _).slots.size; rw [arrV_size]; exact hlt⟩ f1 (fun q h => by rw [f3] at h; cases h) (by rw [f2]; exact hkC) (by rw [f2]; exact va_assign hcls) rfl rfl hd fun H1 e1 z1 oq => ?_
    have hP1 := hX.1.set kc_D hwo (H1 := H1) (e := .inl (E.2.2.2.1 a, n, .inr (.inr (.inr (.inr (va_up (fun j => (kc_rr S.2.2 a j).map (fun x => E.2.1 + x)) x.toNatClampNeg (some (E.2.1 + b)))))))) (by
      show H1[E.2.1 + a]? = some (vp_cell _ _)
      rw [e1]
      show some ((vp_cell (E.2.2.2.1 a) (n, .inr (.inr (.inr (.inr _))))).setSlot _ _) = _
      rw [vp_cell_q, vp_cell_q, arrV_store]
      congr 2
      funext q
      by_cases hq : q = x.toNatClampNeg
      · subst hq
        simp [updV, va_up, va_rf]
      · simp [updV, va_up, hq]) oq
    exact h1.2 p e s m args below meth c H1 _ ls n0 C hm hn hz (kc_setX (S' := kc_sr S a x.toNatClampNeg b) hX hP1 z1 rfl (by
      rw [kc_carq g0 ht.1]
      simp only [kc_sr, kc_rr_eq]
      congr 7
      funext j
      by_cases hj : j = x.toNatClampNeg
      · simp [va_up, hj]
      · simp [va_up, hj]) (fun c hb => kc_cell_congr rfl (kc_rr_ne _ _ _ hb))) (hS.put z1 oq (Nat.le_add_right _ _)) hl
  · rw [if_neg h0] at hq; cases hq
theorem kc_alen {a n : Nat} {r : Option kc_S} (hd : decode y.2.1 pc = .ok (.arraylength, 1)) (h : kC E y d (pc + 1) lv (.int (Int32.ofNat n) :: st) S r) : kC E y d pc lv (kr_r E a :: st) S (if kr_sh a = (20, n) ∧ a < S.1 then r else none) := by
  intro q hq
  by_cases h0 : kr_sh a = (20, n) ∧ a < S.1
  · rw [if_pos h0] at hq
    have h1 := h q hq
    refine ⟨h1.1, ?_⟩
    intro p e s m args below meth c H locs ls n0 C hm hn hz hX hS hl
    exact va_alen C.1 C.2.1 hX.2.2.2.1 hX.1 a a (by rw [kc_ws_at h0.2, kc_carr h0.1 (by decide) (by decide)]) (kr_tya h0.1 (by decide) (by decide)) rfl hd (h1.2 p e s m args below meth c H locs ls n0 C hm hn hz hX hS hl)
  · rw [if_neg h0] at hq; cases hq
theorem kc_T.warm {s U : State} (hW : s.WarmedH U.vm) (h : kc_T s) : kc_T U := ⟨fun q hq => (h.1 q hq).warmM hW, h.2.1.moved hW.alike, h.2.2.1.moved hW.alike, h.2.2.2.moved hW.alike⟩
theorem kc_T.same {s U : State} (hv : U.vm = s.vm) (h : kc_T s) : kc_T U := ⟨fun q hq => (h.1 q hq).same rfl hv.symm, h.2.1.moved (by rw [hv]; exact Vm.Alike.refl _), h.2.2.1.moved (by rw [hv]; exact Vm.Alike.refl _), h.2.2.2.moved (by rw [hv]; exact Vm.Alike.refl _)⟩
theorem kc_ofC {z : kr_Y} {d' : Nat} {As : List Value} {lv0 : List (Nat × Value)} {f : Option kc_S} {q : kc_S} (hy : plainName z.1.cls = true) (hlv : lv_args 0 As = lv0) (hln : (lg_sl As).length ≤ z.2.2.1) (h : kC E z d' 0 lv0 [] S f) (hq : f = some q) :
    Met E.1 z.1 (kr_W0 z) (kc_rm d' (q.1 - S.1) (kc_sz q.1 - kc_sz S.1)) (va_Pc As (fun U => kc_X E S U U.heap)) (kc_Q E q) (q.1 - S.1) (kc_sz q.1 - kc_sz S.1) (fun q => E.2.1 ≤ q) := by
  refine Met.ofW (cc := z.2.1) (maxL := z.2.2.1) (ret := z.2.2.2) hy rfl ?_
  intro p e s m args below meth c s₁ B hml hv
  obtain ⟨rfl, hX⟩ := hv
  have hts := atoms_spec (ws := kr_W0 z) B.pre
  have hl := lv_entry As (n := z.2.2.1) hln
  rw [lg_entry_eq]
  have h1 := (h q hq).2 p e s m As.toArray below meth c s.heap [] _ S.1 ⟨B.exec, B.bytes, B.returns, hml, findClass_of_methodNamed B.named, hts, B.notSynchronized⟩ (name_of_methodNamed B.named B.method).1 (Nat.le_refl _) (Nat.le_refl _) hX va_S.rf (by rw [← hlv]; exact hl)
  rw [Nat.sub_self, Nat.sub_self] at h1
  exact h1
theorem kc_blind {As : List Value} : FrameBlind (va_Pc As (fun U => kc_X E S U U.heap)) := fun a U g mk q => ⟨q.1, q.2.1, q.2.2.1, q.2.2.2.1, va_K.moved (u := U) (U := U.calling g mk a) (Vm.Alike.refl U.vm) q.2.2.2.2.1, kc_T.same (s := U) rfl q.2.2.2.2.2⟩
theorem kc_X.enter {s U : State} {H : Heap} (hW : s.WarmedH U.vm) (hU : U.heap = H) (h : kc_X E S s H) : kc_X E S U U.heap := ⟨by rw [hU]; exact h.1, by rw [hU]; exact h.2.1, h.2.2.1, va_K.moved hW.alike h.2.2.2.1, h.2.2.2.2.warm hW⟩
def kc_bv (f : Option kc_S) (k : kc_S → Option kc_S) : Option kc_S := f.bind (fun q => if q.1 ≤ kr_N then k q else none)
theorem kc_goes {f : Option kc_S} {k : kc_S → Option kc_S} {stk : List Value} {a : Array Value} (hmo : ∀ q, f = some q → S.1 ≤ q.1 ∧ kc_sz S.1 ≤ kc_sz q.1)
    (hrun : ∀ q, f = some q → ∀ q2, k q = some q2 → q.1 ≤ q2.1 ∧ kc_sz q.1 ≤ kc_sz q2.1 → ∀ (p : Program) (e : Env) (s : State) (m : MethodId) (args : Array Value) (below : List Frame) (meth : Method) (c : Code) (H : Heap) (locs : List Loc) (ls : Array Slot) (n0 : Nat), kr_Cx y p s m args meth c → n0 ≤ S.1 → kc_sz n0 ≤ kc_sz S.1 → kc_X E S s H → va_S (fun q => E.2.1 ≤ q) s.heap H locs → lv_has ls y.2.2.1 lv →
      va_Run p E.1 e (kc_rm d (q2.1 - n0) (kc_sz q2.1 - kc_sz n0)) s m args below meth c H locs (S.1 - n0) (kc_sz S.1 - kc_sz n0) (q.1 - S.1) (kc_sz q.1 - kc_sz S.1) (F0 m pc ls stk) st (kc_Q E q a) (fun q => E.2.1 ≤ q))
    (hk : ∀ q, kC E y d (pc + 3) lv st q (k q)) : kC E y d pc lv stk S (kc_bv f k) := by
  intro q2 hq2
  unfold kc_bv at hq2
  cases hf : f with
  | none => rw [hf] at hq2; cases hq2
  | some q1 =>
    rw [hf] at hq2
    have hN : q1.1 ≤ kr_N := by
      by_cases hN : q1.1 ≤ kr_N
      · exact hN
      · rw [Option.bind_some, if_neg hN] at hq2; cases hq2
    rw [Option.bind_some, if_pos hN] at hq2
    have m1 := hmo q1 hf
    have h2 := hk q1 q2 hq2
    refine ⟨⟨by omega, by omega⟩, ?_⟩
    intro p e s m args below meth c H locs ls n0 C hm hn hz hX hS hl
    intro T hT X
    obtain ⟨v, st₀, t, T', L, h0, X', hL, e1, e2, ⟨hv, hP1, hsz1, hz1, hkk⟩, st1⟩ := hrun q1 hf q2 hq2 h2.1 p e s m args below meth c H locs ls n0 C hn hz hX hS hl T hT X
    cases hv
    rw [h0] at hz1 hkk
    have h3 := h2.2 p e s m args below meth c T'.heap (locs ++ L) ls n0 C hm (by omega) (by omega) ⟨by rw [e1]; exact hP1, by rw [e1]; exact hsz1, hN, hX.2.2.2⟩
      ⟨Nat.le_trans hS.1 (by rw [e1]; exact hz1), fun x g1 g2 => by rw [e1, hkk x (Nat.lt_of_lt_of_le g1 hS.1) g2]; exact hS.2.1 x g1 g2, fun x hx => by
        rcases List.mem_append.mp hx with h | h
        · exact hS.2.2 x h
        · exact hL x h⟩ hl
    have e3 : q1.1 - n0 = S.1 - n0 + (q1.1 - S.1) := by omega
    have e4 : kc_sz q1.1 - kc_sz n0 = kc_sz S.1 - kc_sz n0 + (kc_sz q1.1 - kc_sz S.1) := by omega
    rw [e3, e4] at h3
    obtain ⟨t2, a1, b1⟩ := h3 T' rfl X'
    exact ⟨t2, st1 t2 a1, b1⟩
def kc_Zi (z : kr_Y) (n : Nat) : Prop := Cond.code z.1 z.2.1 z.2.2.1 none ∈ kr_T ∧ z.2.2.2 = none ∧ Cond.instanceMethod z.1 ∈ kr_T ∧ Cond.initialized z.1.cls ∈ kr_T ∧ z.1.name = "<init>" ∧ plainName z.1.cls = true ∧ (z.1.cls ≠ "java/lang/invoke/MethodHandle" ∧ z.1.cls ≠ "java/lang/invoke/VarHandle" ∧ (parseMethodDescriptor z.1.desc).map (fun d => d.parameters.length) = some n) ∧ z.2.2.1 ≤ 40
theorem kc_room {d d' n C Z C2 Z2 : Nat} (h : d' < d) (hn : n ≤ 40) : (kc_rm d' C Z).frames + 1 ≤ (kc_rm d C2 Z2).frames ∧ 8 + (n + 11) + (kc_rm d' C Z).locals ≤ (kc_rm d C2 Z2).locals := by
  refine ⟨h, ?_⟩
  show 8 + (n + 11) + 64 * d' ≤ 64 * d
  omega
theorem kc_callI {z : kr_Y} {d' n b i : Nat} {As : List Value} {lv0 : List (Nat × Value)} {f : Option kc_S} {k : kc_S → Option kc_S} {stk : List Value} (Z : kc_Zi z n) (hd : decode y.2.1 pc = .ok (.invokespecial i, 3)) (hw : Cond.methodLink y.1.cls i z.1 ∈ kr_T ∨ (y.1.cls, i, z.1) ∈ kc_nest) (h : kC E z d' 0 lv0 [] S f) (hstk : stk = As.reverse ++ kr_r E b :: st) (hlv : lv_args 0 (kr_r E b :: As) = lv0) (hln : (lg_sl (kr_r E b :: As)).length ≤ z.2.2.1) (hn : As.length = n) (hdd : d' < d) (hst : (st.map fun v => v.category).sum ≤ 8)
    (hk : ∀ q, kC E y d (pc + 3) lv st q (k q)) : kC E y d pc lv stk S (kc_bv f k) := by
  refine kc_goes (a := (kr_r E b :: As).toArray) (fun q hf => (h q hf).1) (fun q hf q2 hq2 m2 p e s m args below meth c H locs ls n0 C hn0 hz0 hX hS hl => ?_) hk
  · obtain ⟨z1, z2, z3, z4, z5, z6, z7, z8⟩ := Z
    have hM := kc_ofC (E := E) (S := S) z6 hlv hln h hf
    have m1 := (h q hf).1
    have hcw : Cond.code z.1 z.2.1 z.2.2.1 z.2.2.2 ∈ kr_T := by rw [z2]; exact z1
    have hW0 : kr_W0 z = Cond.code z.1 z.2.1 z.2.2.1 none :: kr_T := by unfold kr_W0; rw [z2]
    rcases hw with hw | hw
    · exact va_runI (bytes := z.2.1) (maxL := z.2.2.1) (n := n) (own := y.1.cls) (Ts := kr_W0 y) ⟨C.1, C.2.1, C.2.2.2.1, C.own, C.words⟩ hM
        (cwI n C.words (kr_goodIn y z hcw [] (fun w hw' => by cases hw')) hW0 rfl rfl (C.word z4) (C.word hw) (C.word z3) z5 z7 (kc_room hdd z8))
        ⟨kc_blind, fun U hU hW => ⟨rfl, kc_X.enter hW hU hX⟩⟩ rfl hn hl.1 hstk (lv_room hst) hd ⟨by show S.1 - n0 + (q.1 - S.1) ≤ q2.1 - n0; omega, by show kc_sz S.1 - kc_sz n0 + (kc_sz q.1 - kc_sz S.1) ≤ kc_sz q2.1 - kc_sz n0; omega⟩
    · exact va_runIN (host := RX11) (bytes := z.2.1) (maxL := z.2.2.1) (n := n) (own := y.1.cls) (Ts := kr_W0 y) ⟨C.1, C.2.1, C.2.2.2.1, C.own, C.words⟩ hM
        ⟨va_cnB n C.words (kr_goodIn y z hcw [] (fun w hw' => by cases hw')) hW0 rfl rfl (hX.2.2.2.2.1 _ hw) (C.word z4) z7 (kc_room hdd z8), z5, C.word z3⟩
        ⟨kc_blind, fun U hU hW => ⟨rfl, kc_X.enter hW hU hX⟩⟩ rfl hn hl.1 hstk (lv_room hst) hd ⟨by show S.1 - n0 + (q.1 - S.1) ≤ q2.1 - n0; omega, by show kc_sz S.1 - kc_sz n0 + (kc_sz q.1 - kc_sz S.1) ≤ kc_sz q2.1 - kc_sz n0; omega⟩
end KCR
