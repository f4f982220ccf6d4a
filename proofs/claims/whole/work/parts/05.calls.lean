section KRC
variable {ρ : Type} {rv : ρ → Option Value × kr_M} {E : kr_E} {y : kr_Y} {d pc : Nat} {lv lv' : List (Nat × Value)} {st : List Value} {M : kr_M} {res : Option ρ}
theorem kr_fin {s t : State} {args : Array Value} {H : Heap} {locs : List Loc} {r : Option Value} (hX : kr_X E M s H) (hS : va_S (fun q => E.2.1 ≤ q) s.heap H locs) (ht : t.heap = H) : kr_Q E r M args s (.returned r) t := ⟨rfl, by rw [ht]; exact hX.1, hS.F ht⟩
theorem kr_iret {v : Int32} (hd : decode y.2.1 pc = .ok (.ireturn, 1)) (hr : y.2.2.2 = some .int) : kR kr_vi E y d pc lv [.int v] M (some (v, M)) := by
  intro q hq p e s m args below meth c H locs ls C hX hS hl
  cases hq
  exact W.iret C.1 C.2.1 (C.2.2.1.trans hr) (fun t ht _ => kr_fin hX hS ht) hS.2.2 hd (hlocks := C.2.2.2.2.2.2)
theorem kr_zret1 {v : Int32} (hd : decode y.2.1 pc = .ok (.ireturn, 1)) (hr : y.2.2.2 = some .boolean) (hv : narrow .boolean (.int v) = .int v) : kR kr_vi E y d pc lv [.int v] M (some (v, M)) := by
  intro q hq p e s m args below meth c H locs ls C hX hS hl
  cases hq
  exact W.zret C.1 C.2.1 (C.2.2.1.trans hr) hv (fun t ht _ => kr_fin hX hS ht) hS.2.2 hd (hlocks := C.2.2.2.2.2.2)
theorem kr_zret {v : Int32} (hd : decode y.2.1 pc = .ok (.ireturn, 1)) (hr : y.2.2.2 = some .boolean) : kR kr_vi E y d pc lv [.int v] M (if v = 0 ∨ v = 1 then some (v, M) else none) := by
  by_cases h : v = 0 ∨ v = 1
  · rw [if_pos h]
    exact kr_zret1 hd hr (by rcases h with rfl | rfl <;> rfl)
  · rw [if_neg h]
    intro q hq
    cases hq
theorem kr_lret {v : Int64} (hd : decode y.2.1 pc = .ok (.lreturn, 1)) (hr : y.2.2.2 = some .long) : kR kr_vl E y d pc lv [.long v] M (some (v, M)) := by
  intro q hq p e s m args below meth c H locs ls C hX hS hl
  cases hq
  exact W.lret C.1 C.2.1 (C.2.2.1.trans hr) (fun t ht _ => kr_fin hX hS ht) hS.2.2 hd (hlocks := C.2.2.2.2.2.2)
theorem kr_vret (hd : decode y.2.1 pc = .ok (.return_, 1)) (hr : y.2.2.2 = none) : kR kr_vv E y d pc lv [] M (some M) := by
  intro q hq p e s m args below meth c H locs ls C hX hS hl
  cases hq
  exact W.vret C.1 C.2.1 (C.2.2.1.trans hr) (fun t ht _ => kr_fin hX hS ht) hS.2.2 hd (hlocks := C.2.2.2.2.2.2)
theorem kr_none : kR rv E y d pc lv st M none := fun q hq => by cases hq
theorem kr_lcmp {x z : Int64} (hd : decode y.2.1 pc = .ok (.lcmp, 1)) (k : kR rv E y d (pc + 1) lv (.int (lg_cmp x z) :: st) M res) : kR rv E y d pc lv (.long z :: .long x :: st) M res := by
  intro q hq p e s m args below meth c H locs ls C hX hS hl
  exact W.lcmp C.1 C.2.1 hd (k q hq p e s m args below meth c H locs ls C hX hS hl)
/-- a switch: the cases one by one, then the rest -/
theorem kr_case {x : Int32} {stk : List Value} {ra rb : Option ρ} (v : Int32) (k1 : x = v → kR rv E y d pc lv stk M ra) (k2 : ¬ x = v → kR rv E y d pc lv stk M rb) : kR rv E y d pc lv stk M (if x = v then ra else rb) := by
  by_cases h : x = v
  · rw [if_pos h]; exact k1 h
  · rw [if_neg h]; exact k2 h
theorem kr_tin {dflt lo hi : Int} {offs : Array Int} {len : Nat} {x v : Int32} {off : Int} {tgt : Nat} (hx : x = v) (hd : decode y.2.1 pc = .ok (.tableswitch dflt lo hi offs, len)) (h1 : ¬ v.toInt < lo) (h2 : ¬ hi < v.toInt) (ho : offs[(v.toInt - lo).toNat]? = some off) (ht : (pc : Int) + off = (tgt : Int)) (k : kR rv E y d tgt lv st M res) : kR rv E y d pc lv (.int x :: st) M res := by
  subst hx
  intro q hq p e s m args below meth c H locs ls C hX hS hl
  exact lv_tableIn C.1 C.2.1 hd h1 h2 ho ht (k q hq p e s m args below meth c H locs ls C hX hS hl)
theorem kr_tout {dflt lo hi : Int} {offs : Array Int} {len : Nat} {x : Int32} {tgt : Nat} (hd : decode y.2.1 pc = .ok (.tableswitch dflt lo hi offs, len)) (h : x.toInt < lo ∨ hi < x.toInt) (ht : (pc : Int) + dflt = (tgt : Int)) (k : kR rv E y d tgt lv st M res) : kR rv E y d pc lv (.int x :: st) M res := by
  intro q hq p e s m args below meth c H locs ls C hX hS hl
  exact lv_tableOut C.1 C.2.1 hd h ht (k q hq p e s m args below meth c H locs ls C hX hS hl)
theorem kr_lsw {dflt : Int} {ps : Array (Int × Int)} {len : Nat} {x : Int32} {off : Int} {tgt : Nat} (hd : decode y.2.1 pc = .ok (.lookupswitch dflt ps, len)) (hp : (ps.toList.zip (ps.toList.drop 1)).all (fun (a, next) => a.1 < next.1) = true) (ho : Op.lookupswitch.offset ps.toList dflt x.toInt = off) (ht : (pc : Int) + off = (tgt : Int)) (k : kR rv E y d tgt lv st M res) : kR rv E y d pc lv (.int x :: st) M res := by
  intro q hq p e s m args below meth c H locs ls C hX hS hl
  exact lv_lookup C.1 C.2.1 hd hp ho ht (k q hq p e s m args below meth c H locs ls C hX hS hl)
/-- a method walked from its entry, as a contract -/
theorem kr_ofR {σ : Type} {rz : σ → Option Value × kr_M} {z : kr_Y} {d' : Nat} {As : List Value} {lv0 : List (Nat × Value)} {f : Option σ} {q : σ} (hy : plainName z.1.cls = true) (hlv : lv_args 0 As = lv0) (hln : (lg_sl As).length ≤ z.2.2.1) (h : kR rz E z d' 0 lv0 [] M f) (hq : f = some q) :
    Met E.1 z.1 (kr_W0 z) (kr_rm d') (va_Pc As (fun U => kr_X E M U U.heap)) (kr_Q E (rz q).1 (rz q).2) 0 0 (fun q => E.2.1 ≤ q) := by
  refine Met.ofW (cc := z.2.1) (maxL := z.2.2.1) (ret := z.2.2.2) hy rfl ?_
  intro p e s m args below meth c s₁ B hml hv
  obtain ⟨rfl, hX⟩ := hv
  have hts := atoms_spec (ws := kr_W0 z) B.pre
  have hl := lv_entry As (n := z.2.2.1) hln
  rw [lg_entry_eq]
  exact h q hq p e s m _ below meth c s.heap [] _ ⟨B.exec, B.bytes, B.returns, hml, findClass_of_methodNamed B.named, hts, B.notSynchronized⟩ hX va_S.rf (by rw [← hlv]; exact hl)
theorem kr_St.same {u U : State} {H : Heap} (hv : U.vm = u.vm) (h : kr_St E u H) : kr_St E U H := ⟨fun i q hi => (h.1 i q hi).same hv, h.2.1.moved (by rw [hv]; exact Vm.Alike.refl _), h.2.2.1.moved (by rw [hv]; exact Vm.Alike.refl _), h.2.2.2.1.moved (by rw [hv]; exact Vm.Alike.refl _), fun q hq => (h.2.2.2.2 q hq).same rfl hv.symm⟩
theorem kr_blind {As : List Value} : FrameBlind (va_Pc As (fun U => kr_X E M U U.heap)) := fun a U g mk q => ⟨q.1, q.2.1, va_K.moved (u := U) (U := U.calling g mk a) (Vm.Alike.refl U.vm) q.2.2.1, kr_St.same (u := U) rfl q.2.2.2⟩
def kr_bi {α : Type} (f : Option (Int32 × kr_M)) (k : Int32 → kr_M → Option α) : Option α := f.bind (fun q => k q.1 q.2)
def kr_bl {α : Type} (f : Option (Int64 × kr_M)) (k : Int64 → kr_M → Option α) : Option α := f.bind (fun q => k q.1 q.2)
def kr_bv {α : Type} (f : Option kr_M) (k : kr_M → Option α) : Option α := f.bind k
theorem kr_goes {σ : Type} {rz : σ → Option Value × kr_M} {f : Option σ} {k : σ → Option ρ} {stk : List Value} {a : Array Value}
    (hrun : ∀ q, f = some q → ∀ (p : Program) (e : Env) (s : State) (m : MethodId) (args : Array Value) (below : List Frame) (meth : Method) (c : Code) (H : Heap) (locs : List Loc) (ls : Array Slot), kr_Cx y p s m args meth c → kr_X E M s H → va_S (fun q => E.2.1 ≤ q) s.heap H locs → lv_has ls y.2.2.1 lv →
      va_Run p E.1 e (kr_rm d) s m args below meth c H locs 0 0 0 0 (F0 m pc ls stk) st (kr_Q E (rz q).1 (rz q).2 a) (fun q => E.2.1 ≤ q))
    (hk : ∀ q, f = some q → kR rv E y d (pc + 3) lv ((rz q).1.toList ++ st) (rz q).2 (k q)) : kR rv E y d pc lv stk M (f.bind k) := by
  intro q hq p e s m args below meth c H locs ls C hX hS hl
  cases hf : f with
  | none => rw [hf] at hq; cases hq
  | some q1 =>
    rw [hf] at hq
    intro T hT X
    obtain ⟨v, st₀, t, T', L, h0, X', hL, e1, e2, ⟨hv, hP1, hz, hkk⟩, st1⟩ := hrun q1 hf p e s m args below meth c H locs ls C hX hS hl T hT X
    cases hv
    rw [h0] at hz hkk
    obtain ⟨t2, a1, b1⟩ := hk q1 hf q hq p e s m args below meth c T'.heap (locs ++ L) ls C ⟨by rw [e1]; exact hP1, hX.2⟩
      ⟨Nat.le_trans hS.1 (by rw [e1]; exact hz), fun x h1 h2 => by rw [e1, hkk x (Nat.lt_of_lt_of_le h1 hS.1) h2]; exact hS.2.1 x h1 h2, fun x hx => by
        rcases List.mem_append.mp hx with h | h
        · exact hS.2.2 x h
        · exact hL x h⟩ hl T' rfl X'
    exact ⟨t2, st1 t2 a1, b1⟩
/-- what is known of a method that is called on an object of class ci, with n numbers -/
def kr_Zv (z : kr_Y) (ci n : Nat) : Prop := Cond.code z.1 z.2.1 z.2.2.1 z.2.2.2 ∈ kr_T ∧ Cond.instanceMethod z.1 ∈ kr_T ∧ Cond.selects z.1.cls z.1 z.1 ∈ kr_T ∧ Cond.initialized z.1.cls ∈ kr_T ∧ z.1.cls = kr_cn ci ∧ ci < 13 ∧ plainName z.1.cls = true ∧ (z.1.cls ≠ "java/lang/invoke/MethodHandle" ∧ z.1.cls ≠ "java/lang/invoke/VarHandle" ∧ (parseMethodDescriptor z.1.desc).map (fun d => d.parameters.length) = some n) ∧ z.2.2.1 ≤ 40
def kr_Zs (z : kr_Y) (n : Nat) : Prop := Cond.code z.1 z.2.1 z.2.2.1 z.2.2.2 ∈ kr_T ∧ Cond.static z.1 ∈ kr_T ∧ Cond.initialized z.1.cls ∈ kr_T ∧ plainName z.1.cls = true ∧ (z.1.cls ≠ "java/lang/invoke/MethodHandle" ∧ z.1.cls ≠ "java/lang/invoke/VarHandle" ∧ (parseMethodDescriptor z.1.desc).map (fun d => d.parameters.length) = some n) ∧ z.2.2.1 ≤ 40
theorem kr_room {d d' n : Nat} (h : d' < d) (hn : n ≤ 40) : (kr_rm d').frames + 1 ≤ (kr_rm d).frames ∧ 8 + (n + 11) + (kr_rm d').locals ≤ (kr_rm d).locals := by
  refine ⟨h, ?_⟩
  show 8 + (n + 11) + 64 * d' ≤ 64 * d
  omega
theorem kr_callV {σ : Type} {rz : σ → Option Value × kr_M} {z : kr_Y} {d' ci n b i : Nat} {As : List Value} {lv0 : List (Nat × Value)} {f : Option σ} {k : σ → Option ρ} {stk : List Value} (Z : kr_Zv z ci n) (hd : decode y.2.1 pc = .ok (.invokevirtual i, 3)) (hw : Cond.methodLink y.1.cls i z.1 ∈ kr_T) (hs : kr_sh b = (ci, 0)) (h : kR rz E z d' 0 lv0 [] M f) (hstk : stk = As.reverse ++ kr_r E b :: st) (hlv : lv_args 0 (kr_r E b :: As) = lv0) (hln : (lg_sl (kr_r E b :: As)).length ≤ z.2.2.1) (hn : As.length = n) (hdd : d' < d) (hst : (st.map fun v => v.category).sum ≤ 8)
    (hk : ∀ q, kR rv E y d (pc + 3) lv ((rz q).1.toList ++ st) (rz q).2 (k q)) : kR rv E y d pc lv stk M (f.bind k) := by
  refine kr_goes (rz := rz) (a := (kr_r E b :: As).toArray) (fun q hf p e s m args below meth c H locs ls C hX hS hl => ?_) (fun q _ => hk q)
  obtain ⟨z1, z2, z3, z4, z5, z6, z7, z8, z9⟩ := Z
  have hM := kr_ofR (E := E) (M := M) z7 hlv hln h hf
  exact va_runV (C := z.1.cls) (bytes := z.2.1) (maxL := z.2.2.1) (ret := z.2.2.2) (n := n) (own := y.1.cls) (Ts := kr_W0 y) ⟨C.1, C.2.1, C.2.2.2.1, C.own, C.words⟩ hM
    (cwV n C.words (kr_goodIn y z z1 [.methodLink y.1.cls i z.1, .instanceMethod z.1, .selects z.1.cls z.1 z.1, .initialized z.1.cls] (fun w hw' => by
      simp only [List.mem_cons, List.not_mem_nil, or_false] at hw'
      rcases hw' with rfl | rfl | rfl | rfl
      · exact hw
      · exact z2
      · exact z3
      · exact z4)) rfl rfl rfl ⟨rfl, z8⟩ (kr_room hdd z9))
    ⟨kr_blind, by rw [z5]; exact va_recv hX.2.1 hX.1 (kr_clat ci z6) (kr_wobj hs z6), fun U hU hW => ⟨rfl, kr_X.enter hW hU hS hX⟩⟩ rfl hn hl.1 hstk (lv_room hst) hd ⟨Nat.le_refl _, Nat.le_refl _⟩
theorem kr_callS {σ : Type} {rz : σ → Option Value × kr_M} {z : kr_Y} {d' n i : Nat} {As : List Value} {lv0 : List (Nat × Value)} {f : Option σ} {k : σ → Option ρ} {stk : List Value} (Z : kr_Zs z n) (hd : decode y.2.1 pc = .ok (.invokestatic i, 3)) (hw : Cond.methodLink y.1.cls i z.1 ∈ kr_T) (h : kR rz E z d' 0 lv0 [] M f) (hstk : stk = As.reverse ++ st) (hlv : lv_args 0 As = lv0) (hln : (lg_sl As).length ≤ z.2.2.1) (hn : As.length = n) (hdd : d' < d) (hst : (st.map fun v => v.category).sum ≤ 8)
    (hk : ∀ q, kR rv E y d (pc + 3) lv ((rz q).1.toList ++ st) (rz q).2 (k q)) : kR rv E y d pc lv stk M (f.bind k) := by
  refine kr_goes (rz := rz) (a := As.toArray) (fun q hf p e s m args below meth c H locs ls C hX hS hl => ?_) (fun q _ => hk q)
  obtain ⟨z1, z2, z4, z7, z8, z9⟩ := Z
  have hM := kr_ofR (E := E) (M := M) z7 hlv hln h hf
  exact va_runS (bytes := z.2.1) (maxL := z.2.2.1) (ret := z.2.2.2) (n := n) (own := y.1.cls) (Ts := kr_W0 y) ⟨C.1, C.2.1, C.2.2.2.1, C.own, C.words⟩ hM
    (va_cwS n C.words (kr_goodIn y z z1 [.methodLink y.1.cls i z.1, .static z.1, .initialized z.1.cls] (fun w hw' => by
      simp only [List.mem_cons, List.not_mem_nil, or_false] at hw'
      rcases hw' with rfl | rfl | rfl
      · exact hw
      · exact z2
      · exact z4)) rfl rfl rfl z8 (kr_room hdd z9))
    ⟨kr_blind, fun U hU hW => ⟨rfl, kr_X.enter hW hU hS hX⟩⟩ rfl hn hl.1 hstk (lv_room hst) hd ⟨Nat.le_refl _, Nat.le_refl _⟩
/-- lesser, from a class beside it -/
theorem kr_callN {σ : Type} {rz : σ → Option Value × kr_M} {z : kr_Y} {d' n i : Nat} {As : List Value} {lv0 : List (Nat × Value)} {f : Option σ} {k : σ → Option ρ} {stk : List Value} (Z : kr_Zs z n) (hd : decode y.2.1 pc = .ok (.invokestatic i, 3)) (hz : z.1 = yX11_lesser) (hw : (y.1.cls, i) ∈ kr_nest) (h : kR rz E z d' 0 lv0 [] M f) (hstk : stk = As.reverse ++ st) (hlv : lv_args 0 As = lv0) (hln : (lg_sl As).length ≤ z.2.2.1) (hn : As.length = n) (hdd : d' < d) (hst : (st.map fun v => v.category).sum ≤ 8)
    (hk : ∀ q, kR rv E y d (pc + 3) lv ((rz q).1.toList ++ st) (rz q).2 (k q)) : kR rv E y d pc lv stk M (f.bind k) := by
  refine kr_goes (rz := rz) (a := As.toArray) (fun q hf p e s m args below meth c H locs ls C hX hS hl => ?_) (fun q _ => hk q)
  obtain ⟨z1, z2, z4, z7, z8, z9⟩ := Z
  have hM := kr_ofR (E := E) (M := M) z7 hlv hln h hf
  exact va_runSN (host := RX11) (bytes := z.2.1) (maxL := z.2.2.1) (ret := z.2.2.2) (n := n) (own := y.1.cls) (Ts := kr_W0 y) ⟨C.1, C.2.1, C.2.2.2.1, C.own, C.words⟩ hM
    ⟨va_cnB n C.words (kr_goodIn y z z1 [] (fun w hw' => by cases hw')) rfl rfl rfl (by rw [hz]; exact hX.2.2.2.2.2.2 _ hw) (C.word z4) z8 (kr_room hdd z9), C.word z2, trivial⟩
    ⟨kr_blind, fun U hU hW => ⟨rfl, kr_X.enter hW hU hS hX⟩⟩ rfl hn hl.1 hstk (lv_room hst) hd ⟨Nat.le_refl _, Nat.le_refl _⟩

theorem kr_Vi {z : kr_Y} {d' ci n b i : Nat} {As : List Value} {lv0 : List (Nat × Value)} {f : Option (Int32 × kr_M)} {k : Int32 → kr_M → Option ρ} {stk : List Value} (Z : kr_Zv z ci n) (hd : decode y.2.1 pc = .ok (.invokevirtual i, 3)) (hw : Cond.methodLink y.1.cls i z.1 ∈ kr_T) (hs : kr_sh b = (ci, 0)) (h : kR kr_vi E z d' 0 lv0 [] M f) (hstk : stk = As.reverse ++ kr_r E b :: st) (hlv : lv_args 0 (kr_r E b :: As) = lv0) (hln : (lg_sl (kr_r E b :: As)).length ≤ z.2.2.1) (hn : As.length = n) (hdd : d' < d) (hst : (st.map fun v => v.category).sum ≤ 8) (hk : ∀ r M1, kR rv E y d (pc + 3) lv (.int r :: st) M1 (k r M1)) : kR rv E y d pc lv stk M (kr_bi f k) := kr_callV (rz := kr_vi) Z hd hw hs h hstk hlv hln hn hdd hst (fun q => hk q.1 q.2)
theorem kr_Si {z : kr_Y} {d' n i : Nat} {As : List Value} {lv0 : List (Nat × Value)} {f : Option (Int32 × kr_M)} {k : Int32 → kr_M → Option ρ} {stk : List Value} (Z : kr_Zs z n) (hd : decode y.2.1 pc = .ok (.invokestatic i, 3)) (hw : Cond.methodLink y.1.cls i z.1 ∈ kr_T) (h : kR kr_vi E z d' 0 lv0 [] M f) (hstk : stk = As.reverse ++ st) (hlv : lv_args 0 As = lv0) (hln : (lg_sl As).length ≤ z.2.2.1) (hn : As.length = n) (hdd : d' < d) (hst : (st.map fun v => v.category).sum ≤ 8) (hk : ∀ r M1, kR rv E y d (pc + 3) lv (.int r :: st) M1 (k r M1)) : kR rv E y d pc lv stk M (kr_bi f k) := kr_callS (rz := kr_vi) Z hd hw h hstk hlv hln hn hdd hst (fun q => hk q.1 q.2)
theorem kr_Ni {z : kr_Y} {d' n i : Nat} {As : List Value} {lv0 : List (Nat × Value)} {f : Option (Int32 × kr_M)} {k : Int32 → kr_M → Option ρ} {stk : List Value} (Z : kr_Zs z n) (hd : decode y.2.1 pc = .ok (.invokestatic i, 3)) (hz : z.1 = yX11_lesser) (hw : (y.1.cls, i) ∈ kr_nest) (h : kR kr_vi E z d' 0 lv0 [] M f) (hstk : stk = As.reverse ++ st) (hlv : lv_args 0 As = lv0) (hln : (lg_sl As).length ≤ z.2.2.1) (hn : As.length = n) (hdd : d' < d) (hst : (st.map fun v => v.category).sum ≤ 8) (hk : ∀ r M1, kR rv E y d (pc + 3) lv (.int r :: st) M1 (k r M1)) : kR rv E y d pc lv stk M (kr_bi f k) := kr_callN (rz := kr_vi) Z hd hz hw h hstk hlv hln hn hdd hst (fun q => hk q.1 q.2)
theorem kr_Vl {z : kr_Y} {d' ci n b i : Nat} {As : List Value} {lv0 : List (Nat × Value)} {f : Option (Int64 × kr_M)} {k : Int64 → kr_M → Option ρ} {stk : List Value} (Z : kr_Zv z ci n) (hd : decode y.2.1 pc = .ok (.invokevirtual i, 3)) (hw : Cond.methodLink y.1.cls i z.1 ∈ kr_T) (hs : kr_sh b = (ci, 0)) (h : kR kr_vl E z d' 0 lv0 [] M f) (hstk : stk = As.reverse ++ kr_r E b :: st) (hlv : lv_args 0 (kr_r E b :: As) = lv0) (hln : (lg_sl (kr_r E b :: As)).length ≤ z.2.2.1) (hn : As.length = n) (hdd : d' < d) (hst : (st.map fun v => v.category).sum ≤ 8) (hk : ∀ r M1, kR rv E y d (pc + 3) lv (.long r :: st) M1 (k r M1)) : kR rv E y d pc lv stk M (kr_bl f k) := kr_callV (rz := kr_vl) Z hd hw hs h hstk hlv hln hn hdd hst (fun q => hk q.1 q.2)
theorem kr_Sl {z : kr_Y} {d' n i : Nat} {As : List Value} {lv0 : List (Nat × Value)} {f : Option (Int64 × kr_M)} {k : Int64 → kr_M → Option ρ} {stk : List Value} (Z : kr_Zs z n) (hd : decode y.2.1 pc = .ok (.invokestatic i, 3)) (hw : Cond.methodLink y.1.cls i z.1 ∈ kr_T) (h : kR kr_vl E z d' 0 lv0 [] M f) (hstk : stk = As.reverse ++ st) (hlv : lv_args 0 As = lv0) (hln : (lg_sl As).length ≤ z.2.2.1) (hn : As.length = n) (hdd : d' < d) (hst : (st.map fun v => v.category).sum ≤ 8) (hk : ∀ r M1, kR rv E y d (pc + 3) lv (.long r :: st) M1 (k r M1)) : kR rv E y d pc lv stk M (kr_bl f k) := kr_callS (rz := kr_vl) Z hd hw h hstk hlv hln hn hdd hst (fun q => hk q.1 q.2)
theorem kr_Vv {z : kr_Y} {d' ci n b i : Nat} {As : List Value} {lv0 : List (Nat × Value)} {f : Option kr_M} {k : kr_M → Option ρ} {stk : List Value} (Z : kr_Zv z ci n) (hd : decode y.2.1 pc = .ok (.invokevirtual i, 3)) (hw : Cond.methodLink y.1.cls i z.1 ∈ kr_T) (hs : kr_sh b = (ci, 0)) (h : kR kr_vv E z d' 0 lv0 [] M f) (hstk : stk = As.reverse ++ kr_r E b :: st) (hlv : lv_args 0 (kr_r E b :: As) = lv0) (hln : (lg_sl (kr_r E b :: As)).length ≤ z.2.2.1) (hn : As.length = n) (hdd : d' < d) (hst : (st.map fun v => v.category).sum ≤ 8) (hk : ∀ M1, kR rv E y d (pc + 3) lv st M1 (k M1)) : kR rv E y d pc lv stk M (kr_bv f k) := kr_callV (rz := kr_vv) Z hd hw hs h hstk hlv hln hn hdd hst (fun q => hk q)
theorem kr_Sv {z : kr_Y} {d' n i : Nat} {As : List Value} {lv0 : List (Nat × Value)} {f : Option kr_M} {k : kr_M → Option ρ} {stk : List Value} (Z : kr_Zs z n) (hd : decode y.2.1 pc = .ok (.invokestatic i, 3)) (hw : Cond.methodLink y.1.cls i z.1 ∈ kr_T) (h : kR kr_vv E z d' 0 lv0 [] M f) (hstk : stk = As.reverse ++ st) (hlv : lv_args 0 As = lv0) (hln : (lg_sl As).length ≤ z.2.2.1) (hn : As.length = n) (hdd : d' < d) (hst : (st.map fun v => v.category).sum ≤ 8) (hk : ∀ M1, kR rv E y d (pc + 3) lv st M1 (k M1)) : kR rv E y d pc lv stk M (kr_bv f k) := kr_callS (rz := kr_vv) Z hd hw h hstk hlv hln hn hdd hst (fun q => hk q)
/-! Math, arraycopy -/
def kr_max (x z : Int32) : Int32 := if x < z then z else x
def kr_min (x z : Int32) : Int32 := if z < x then z else x
def kr_abs (x : Int32) : Int32 := if 0 ≤ x then x else 0 - x
theorem kr_w_mcode : Cond.code Lib.Math.max.name Lib.Math.max.code 2 (some .int) ∈ kr_T := kr_t 82 (by decide +kernel) rfl
theorem kr_w_ncode : Cond.code Lib.Math.min.name Lib.Math.min.code 2 (some .int) ∈ kr_T := kr_t 513 (by decide +kernel) rfl
theorem kr_w_acode : Cond.code Lib.Math.abs.name Lib.Math.abs.code 1 (some .int) ∈ kr_T := kr_t 899 (by decide +kernel) rfl
theorem kr_w_mstat : Cond.static Lib.Math.max.name ∈ kr_T := kr_t 81 (by decide +kernel) rfl
theorem kr_w_nstat : Cond.static Lib.Math.min.name ∈ kr_T := kr_t 512 (by decide +kernel) rfl
theorem kr_w_astat : Cond.static Lib.Math.abs.name ∈ kr_T := kr_t 898 (by decide +kernel) rfl
theorem kr_w_mini : Cond.initialized "java/lang/Math" ∈ kr_T := kr_t 5 (by decide +kernel) rfl
theorem kr_mrm {st : List Value} (h : 0 < d) (hst : (st.map fun v => v.category).sum ≤ 8) : 1 ≤ (kr_rm d).frames ∧ (st.map fun v => v.category).sum + 13 ≤ (kr_rm d).locals := by
  refine ⟨h, ?_⟩
  show _ + 13 ≤ 64 * d
  omega
theorem kr_mmax {x z : Int32} {i : Nat} (hd : decode y.2.1 pc = .ok (.invokestatic i, 3)) (hw : Cond.methodLink y.1.cls i Lib.Math.max.name ∈ kr_T) (h0 : 0 < d) (hst : (st.map fun v => v.category).sum ≤ 8) (k : kR rv E y d (pc + 3) lv (.int (kr_max x z) :: st) M res) : kR rv E y d pc lv (.int z :: .int x :: st) M res := by
  intro q hq p e s m args below meth c H locs ls C hX hS hl
  exact va_mmax C.1 C.2.1 (C.2.2.2.1.trans hl.1.symm) C.own (C.word hw) (C.word kr_w_mstat) (C.word kr_w_mini) (C.word kr_w_mcode) (kr_mrm h0 hst).1 (kr_mrm h0 hst).2 (Nat.le_refl _) (Nat.le_refl _) hd (k q hq p e s m args below meth c H locs ls C hX hS hl)
theorem kr_mmin {x z : Int32} {i : Nat} (hd : decode y.2.1 pc = .ok (.invokestatic i, 3)) (hw : Cond.methodLink y.1.cls i Lib.Math.min.name ∈ kr_T) (h0 : 0 < d) (hst : (st.map fun v => v.category).sum ≤ 8) (k : kR rv E y d (pc + 3) lv (.int (kr_min x z) :: st) M res) : kR rv E y d pc lv (.int z :: .int x :: st) M res := by
  intro q hq p e s m args below meth c H locs ls C hX hS hl
  exact va_mmin C.1 C.2.1 (C.2.2.2.1.trans hl.1.symm) C.own (C.word hw) (C.word kr_w_nstat) (C.word kr_w_mini) (C.word kr_w_ncode) (kr_mrm h0 hst).1 (kr_mrm h0 hst).2 (Nat.le_refl _) (Nat.le_refl _) hd (k q hq p e s m args below meth c H locs ls C hX hS hl)
theorem kr_mabs {x : Int32} {i : Nat} (hd : decode y.2.1 pc = .ok (.invokestatic i, 3)) (hw : Cond.methodLink y.1.cls i Lib.Math.abs.name ∈ kr_T) (h0 : 0 < d) (hst : (st.map fun v => v.category).sum ≤ 8) (k : kR rv E y d (pc + 3) lv (.int (kr_abs x) :: st) M res) : kR rv E y d pc lv (.int x :: st) M res := by
  intro q hq p e s m args below meth c H locs ls C hX hS hl
  exact va_mabs C.1 C.2.1 (C.2.2.2.1.trans hl.1.symm) C.own (C.word hw) (C.word kr_w_astat) (C.word kr_w_mini) (C.word kr_w_acode) (kr_mrm h0 hst).1 (kr_mrm h0 hst).2 (Nat.le_refl _) (Nat.le_refl _) hd (k q hq p e s m args below meth c H locs ls C hX hS hl)
theorem kr_w_cnat : Cond.native arraycopyName ∈ kr_T := kr_t 670 (by decide +kernel) rfl
theorem kr_w_cstat : Cond.static arraycopyName ∈ kr_T := kr_t 669 (by decide +kernel) rfl
theorem kr_w_cini : Cond.initialized "java/lang/System" ∈ kr_T := kr_t 20 (by decide +kernel) rfl
abbrev kr_okc (sp dp n : Int32) (n0 n1 : Nat) : Prop := ¬ sp < 0 ∧ ¬ dp < 0 ∧ ¬ n < 0 ∧ sp.toNatClampNeg + n.toNatClampNeg ≤ n0 ∧ dp.toNatClampNeg + n.toNatClampNeg ≤ n1
theorem kr_ci_o {a b sp dp n j : Nat} (h : j ≠ b) : kr_cell E (kr_ci M a b sp dp n) j = kr_cell E M j := kr_cell_congr (by simp [kr_ci, h]) rfl rfl
theorem kr_cl_o {a b sp dp n j : Nat} (h : j ≠ b) : kr_cell E (kr_cl M a b sp dp n) j = kr_cell E M j := kr_cell_congr rfl (by simp [kr_cl, h]) rfl
theorem kr_crm {st : List Value} (h : 0 < d) (hst : (st.map fun v => v.category).sum ≤ 8) : (st.map fun v => v.category).sum + (nativeFrameWords "java/lang/System" "arraycopy" 5 + 11) ≤ (kr_rm d).locals := by
  have : nativeFrameWords "java/lang/System" "arraycopy" 5 ≤ 20 := by decide +kernel
  show _ ≤ 64 * d
  omega
theorem kr_copyI {a b n0 n1 i : Nat} {sp dp n : Int32} {k : kr_M → Option ρ} (hd : decode y.2.1 pc = .ok (.invokestatic i, 3)) (hw : Cond.methodLink y.1.cls i arraycopyName ∈ kr_T) (ha : kr_sh a = (20, n0)) (hb : kr_sh b = (20, n1)) (h0 : 0 < d) (hst : (st.map fun v => v.category).sum ≤ 8) (h : ∀ M1, kR rv E y d (pc + 3) lv st M1 (k M1)) : kR rv E y d pc lv (.int n :: .int dp :: kr_r E b :: .int sp :: kr_r E a :: st) M (if kr_okc sp dp n n0 n1 then kr_let (kr_ci M a b sp.toNatClampNeg dp.toNatClampNeg n.toNatClampNeg) k else none) := by
  intro q hq p e s m args below meth c H locs ls C hX hS hl
  by_cases hi : kr_okc sp dp n n0 n1
  · rw [if_pos hi] at hq
    refine va_copyi C.1 C.2.1 (C.2.2.2.1.trans hl.1.symm) C.own (C.word hw) (C.word kr_w_cnat) (C.word kr_w_cstat) (C.word kr_w_cini) hX.2.1 hX.1 kr_D hS a b a b (by rw [kr_ws_at (kr_lt ha (kr_ne99 (by decide))), kr_carr ha (by decide) (by decide)]) (by rw [kr_ws_at (kr_lt hb (kr_ne99 (by decide))), kr_carr hb (by decide) (by decide)]) (kr_tya ha (by decide) (by decide)) (kr_tya hb (by decide) (by decide)) rfl hi.1 hi.2.1 hi.2.2.1 hi.2.2.2.1 hi.2.2.2.2 (fun _ _ => rfl) h0 (kr_crm h0 hst) hd (fun H1 locs1 hP1 _ hS1 => ?_)
    exact h _ q hq p e s m args below meth c H1 locs1 ls C (kr_setX hX hP1 (by rw [kr_carr hb (by decide) (by decide)]; simp [kr_ci]) (fun j _ hj => kr_ci_o hj)) hS1 hl
  · rw [if_neg hi] at hq; cases hq
theorem kr_copyL {a b n0 n1 i : Nat} {sp dp n : Int32} {k : kr_M → Option ρ} (hd : decode y.2.1 pc = .ok (.invokestatic i, 3)) (hw : Cond.methodLink y.1.cls i arraycopyName ∈ kr_T) (ha : kr_sh a = (23, n0)) (hb : kr_sh b = (23, n1)) (h0 : 0 < d) (hst : (st.map fun v => v.category).sum ≤ 8) (h : ∀ M1, kR rv E y d (pc + 3) lv st M1 (k M1)) : kR rv E y d pc lv (.int n :: .int dp :: kr_r E b :: .int sp :: kr_r E a :: st) M (if kr_okc sp dp n n0 n1 then kr_let (kr_cl M a b sp.toNatClampNeg dp.toNatClampNeg n.toNatClampNeg) k else none) := by
  intro q hq p e s m args below meth c H locs ls C hX hS hl
  by_cases hi : kr_okc sp dp n n0 n1
  · rw [if_pos hi] at hq
    refine va_copyl C.1 C.2.1 (C.2.2.2.1.trans hl.1.symm) C.own (C.word hw) (C.word kr_w_cnat) (C.word kr_w_cstat) (C.word kr_w_cini) hX.2.1 hX.1 kr_D hS a b a b (by rw [kr_ws_at (kr_lt ha (kr_ne99 (by decide))), kr_carl ha]) (by rw [kr_ws_at (kr_lt hb (kr_ne99 (by decide))), kr_carl hb]) (kr_tya ha (by decide) (by decide)) (kr_tya hb (by decide) (by decide)) rfl hi.1 hi.2.1 hi.2.2.1 hi.2.2.2.1 hi.2.2.2.2 (fun _ _ => rfl) h0 (kr_crm h0 hst) hd (fun H1 locs1 hP1 _ hS1 => ?_)
    exact h _ q hq p e s m args below meth c H1 locs1 ls C (kr_setX hX hP1 (by rw [kr_carl hb]; simp [kr_cl]) (fun j _ hj => kr_cl_o hj)) hS1 hl
  · rw [if_neg hi] at hq; cases hq
/-! the references that change: now, spare (cell 0), gorge (cell 315) -/
theorem kr_only11 : ∀ j, j < kr_N → j ≠ 0 → (kr_sh j).1 ≠ 11 := by decide +kernel
theorem kr_only4 : ∀ j, j < kr_N → j ≠ 315 → (kr_sh j).1 ≠ 4 := by decide +kernel
theorem kr_fd3 : ∀ ci, ci < 13 → ci ≠ 11 → ci ≠ 4 → ∀ q ∈ kr_fd ci, q.1 ≠ 3 := by decide +kernel
theorem kr_fd31 : ∀ q ∈ kr_fd 11, q.1 = 3 → q.2 = 0 ∨ q.2 = 1 := by decide +kernel
theorem kr_fd32 : ∀ q ∈ kr_fd 4, q.1 = 3 → q.2 = 2 := by decide +kernel
theorem kr_fdk : ∀ ci, ci < 13 → ∀ q ∈ kr_fd ci, q.1 < 4 := by decide +kernel
theorem kr_shk : ∀ j, j < kr_N → (kr_sh j).1 < 13 ∨ 20 ≤ (kr_sh j).1 := by decide +kernel
end KRC

