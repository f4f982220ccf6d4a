section KRR
variable {ρ : Type} {rv : ρ → Option Value × kr_M} {E : kr_E} {y : kr_Y} {d pc : Nat} {lv lv' : List (Nat × Value)} {st : List Value} {M : kr_M} {res : Option ρ}
theorem kr_iconst {n : Int} {v : Int32} (hd : decode y.2.1 pc = .ok (.iconst n, 1)) (hv : Int32.ofInt n = v) (k : kR rv E y d (pc + 1) lv (.int v :: st) M res) : kR rv E y d pc lv st M res := by
  intro q hq p e s m args below meth c H locs ls C hX hS hl
  exact lv_iconst C.1 C.2.1 hd hv (k q hq p e s m args below meth c H locs ls C hX hS hl)
theorem kr_bipush {n : Int} {v : Int32} (hd : decode y.2.1 pc = .ok (.bipush n, 2)) (hv : (Int8.ofInt n).toInt32 = v) (k : kR rv E y d (pc + 2) lv (.int v :: st) M res) : kR rv E y d pc lv st M res := by
  intro q hq p e s m args below meth c H locs ls C hX hS hl
  exact lv_bipush C.1 C.2.1 hd hv (k q hq p e s m args below meth c H locs ls C hX hS hl)
theorem kr_sipush {n : Int} {v : Int32} (hd : decode y.2.1 pc = .ok (.sipush n, 3)) (hv : (Int16.ofInt n).toInt32 = v) (k : kR rv E y d (pc + 3) lv (.int v :: st) M res) : kR rv E y d pc lv st M res := by
  intro q hq p e s m args below meth c H locs ls C hX hS hl
  exact lv_sipush C.1 C.2.1 hd hv (k q hq p e s m args below meth c H locs ls C hX hS hl)
theorem kr_lconst {n : Fin 2} {v : Int64} (hd : decode y.2.1 pc = .ok (.lconst n, 1)) (hv : Int64.ofNat (n : Nat) = v) (k : kR rv E y d (pc + 1) lv (.long v :: st) M res) : kR rv E y d pc lv st M res := by
  intro q hq p e s m args below meth c H locs ls C hX hS hl
  exact lv_lconst C.1 C.2.1 hd hv (k q hq p e s m args below meth c H locs ls C hX hS hl)
theorem kr_ldc {i : Nat} {v : Int32} (hd : decode y.2.1 pc = .ok (.ldc i, 2)) (hw : Cond.constant y.1.cls i v ∈ kr_T) (k : kR rv E y d (pc + 2) lv (.int v :: st) M res) : kR rv E y d pc lv st M res := by
  intro q hq p e s m args below meth c H locs ls C hX hS hl
  exact lv_ldc C.1 C.2.1 C.own (C.word hw) hd (k q hq p e s m args below meth c H locs ls C hX hS hl)
theorem kr_ldcw {i : Nat} {v : Int32} (hd : decode y.2.1 pc = .ok (.ldc_w i, 3)) (hw : Cond.constant y.1.cls i v ∈ kr_T) (k : kR rv E y d (pc + 3) lv (.int v :: st) M res) : kR rv E y d pc lv st M res := by
  intro q hq p e s m args below meth c H locs ls C hX hS hl
  exact lv_ldcw C.1 C.2.1 C.own (C.word hw) hd (k q hq p e s m args below meth c H locs ls C hX hS hl)
theorem kr_ldc2 {i : Nat} {v : Int64} (hd : decode y.2.1 pc = .ok (.ldc2_w i, 3)) (hw : Cond.constantLong y.1.cls i v ∈ kr_T) (k : kR rv E y d (pc + 3) lv (.long v :: st) M res) : kR rv E y d pc lv st M res := by
  intro q hq p e s m args below meth c H locs ls C hX hS hl
  exact lv_ldc2 C.1 C.2.1 C.own (C.word hw) hd (k q hq p e s m args below meth c H locs ls C hX hS hl)
theorem kr_ldcS {i j : Nat} {tx : String} (hd : decode y.2.1 pc = .ok (.ldc j, 2)) (hy : y.1.cls = RX6) (hi : kr_sx[i]? = some (j, tx)) (k : kR rv E y d (pc + 2) lv (.ref (E.2.2.2.2.1 i) :: st) M res) : kR rv E y d pc lv st M res := by
  intro q hq p e s m args below meth c H locs ls C hX hS hl
  exact va_ldcS C.1 C.2.1 C.own (by rw [hy]; exact hX.2.2.1 i _ hi) hd (k q hq p e s m args below meth c H locs ls C hX hS hl)
theorem kr_iload_n {f : Fin 4} {i : Nat} {x : Int32} (hd : decode y.2.1 pc = .ok (.iload_n f, 1)) (hi : (f : Nat) = i) (j : Nat) (hj : lv[j]? = some (i, .int x)) (k : kR rv E y d (pc + 1) lv (.int x :: st) M res) : kR rv E y d pc lv st M res := by
  intro q hq p e s m args below meth c H locs ls C hX hS hl
  exact lv_iload_n C.1 C.2.1 hd hi (lv_at hl j hj) (k q hq p e s m args below meth c H locs ls C hX hS hl)
theorem kr_iload {i : Nat} {x : Int32} (hd : decode y.2.1 pc = .ok (.iload i, 2)) (j : Nat) (hj : lv[j]? = some (i, .int x)) (k : kR rv E y d (pc + 2) lv (.int x :: st) M res) : kR rv E y d pc lv st M res := by
  intro q hq p e s m args below meth c H locs ls C hX hS hl
  exact lv_iload C.1 C.2.1 hd (lv_at hl j hj) (k q hq p e s m args below meth c H locs ls C hX hS hl)
theorem kr_lload_n {f : Fin 4} {i : Nat} {x : Int64} (hd : decode y.2.1 pc = .ok (.lload_n f, 1)) (hi : (f : Nat) = i) (j : Nat) (hj : lv[j]? = some (i, .long x)) (k : kR rv E y d (pc + 1) lv (.long x :: st) M res) : kR rv E y d pc lv st M res := by
  intro q hq p e s m args below meth c H locs ls C hX hS hl
  exact lv_lload_n C.1 C.2.1 hd hi (lv_at hl j hj) (k q hq p e s m args below meth c H locs ls C hX hS hl)
theorem kr_lload {i : Nat} {x : Int64} (hd : decode y.2.1 pc = .ok (.lload i, 2)) (j : Nat) (hj : lv[j]? = some (i, .long x)) (k : kR rv E y d (pc + 2) lv (.long x :: st) M res) : kR rv E y d pc lv st M res := by
  intro q hq p e s m args below meth c H locs ls C hX hS hl
  exact lv_lload C.1 C.2.1 hd (lv_at hl j hj) (k q hq p e s m args below meth c H locs ls C hX hS hl)
theorem kr_aload_n {f : Fin 4} {i x : Nat} (hd : decode y.2.1 pc = .ok (.aload_n f, 1)) (hi : (f : Nat) = i) (j : Nat) (hj : lv[j]? = some (i, .ref x)) (k : kR rv E y d (pc + 1) lv (.ref x :: st) M res) : kR rv E y d pc lv st M res := by
  intro q hq p e s m args below meth c H locs ls C hX hS hl
  exact lv_aload_n C.1 C.2.1 hd hi (lv_at hl j hj) (k q hq p e s m args below meth c H locs ls C hX hS hl)
theorem kr_aload {i x : Nat} (hd : decode y.2.1 pc = .ok (.aload i, 2)) (j : Nat) (hj : lv[j]? = some (i, .ref x)) (k : kR rv E y d (pc + 2) lv (.ref x :: st) M res) : kR rv E y d pc lv st M res := by
  intro q hq p e s m args below meth c H locs ls C hX hS hl
  exact lv_aload C.1 C.2.1 hd (lv_at hl j hj) (k q hq p e s m args below meth c H locs ls C hX hS hl)
theorem kr_istore_n {f : Fin 4} {i : Nat} {x : Int32} (hd : decode y.2.1 pc = .ok (.istore_n f, 1)) (hi : (f : Nat) = i) (hn : i < y.2.2.1) (hv : (i, Value.int x) :: lv.filter (fun q => !(q.1 == i) && !(q.1 + 1 == i && q.2.category == 2)) = lv') (k : kR rv E y d (pc + 1) lv' st M res) : kR rv E y d pc lv (Value.int x :: st) M res := by
  intro q hq p e s m args below meth c H locs ls C hX hS hl
  exact lv_istore_n C.1 C.2.1 hd hi hl hn hv (fun ls' hl' => k q hq p e s m args below meth c H locs ls' C hX hS hl')
theorem kr_istore {i : Nat} {x : Int32} (hd : decode y.2.1 pc = .ok (.istore i, 2)) (hn : i < y.2.2.1) (hv : (i, Value.int x) :: lv.filter (fun q => !(q.1 == i) && !(q.1 + 1 == i && q.2.category == 2)) = lv') (k : kR rv E y d (pc + 2) lv' st M res) : kR rv E y d pc lv (Value.int x :: st) M res := by
  intro q hq p e s m args below meth c H locs ls C hX hS hl
  exact lv_istore C.1 C.2.1 hd hl hn hv (fun ls' hl' => k q hq p e s m args below meth c H locs ls' C hX hS hl')
theorem kr_lstore_n {f : Fin 4} {i : Nat} {x : Int64} (hd : decode y.2.1 pc = .ok (.lstore_n f, 1)) (hi : (f : Nat) = i) (hn : i + 1 < y.2.2.1) (hv : (i, Value.long x) :: lv.filter (fun q => !(q.1 == i) && (!(q.1 == i + 1) && !(q.1 + 1 == i && q.2.category == 2))) = lv') (k : kR rv E y d (pc + 1) lv' st M res) : kR rv E y d pc lv (Value.long x :: st) M res := by
  intro q hq p e s m args below meth c H locs ls C hX hS hl
  exact lv_lstore_n C.1 C.2.1 hd hi hl hn hv (fun ls' hl' => k q hq p e s m args below meth c H locs ls' C hX hS hl')
theorem kr_lstore {i : Nat} {x : Int64} (hd : decode y.2.1 pc = .ok (.lstore i, 2)) (hn : i + 1 < y.2.2.1) (hv : (i, Value.long x) :: lv.filter (fun q => !(q.1 == i) && (!(q.1 == i + 1) && !(q.1 + 1 == i && q.2.category == 2))) = lv') (k : kR rv E y d (pc + 2) lv' st M res) : kR rv E y d pc lv (Value.long x :: st) M res := by
  intro q hq p e s m args below meth c H locs ls C hX hS hl
  exact lv_lstore C.1 C.2.1 hd hl hn hv (fun ls' hl' => k q hq p e s m args below meth c H locs ls' C hX hS hl')
theorem kr_astore_n {f : Fin 4} {i : Nat} {x : Nat} (hd : decode y.2.1 pc = .ok (.astore_n f, 1)) (hi : (f : Nat) = i) (hn : i < y.2.2.1) (hv : (i, Value.ref x) :: lv.filter (fun q => !(q.1 == i) && !(q.1 + 1 == i && q.2.category == 2)) = lv') (k : kR rv E y d (pc + 1) lv' st M res) : kR rv E y d pc lv (Value.ref x :: st) M res := by
  intro q hq p e s m args below meth c H locs ls C hX hS hl
  exact lv_astore_n C.1 C.2.1 hd hi hl hn hv (fun ls' hl' => k q hq p e s m args below meth c H locs ls' C hX hS hl')
theorem kr_astore {i : Nat} {x : Nat} (hd : decode y.2.1 pc = .ok (.astore i, 2)) (hn : i < y.2.2.1) (hv : (i, Value.ref x) :: lv.filter (fun q => !(q.1 == i) && !(q.1 + 1 == i && q.2.category == 2)) = lv') (k : kR rv E y d (pc + 2) lv' st M res) : kR rv E y d pc lv (Value.ref x :: st) M res := by
  intro q hq p e s m args below meth c H locs ls C hX hS hl
  exact lv_astore C.1 C.2.1 hd hl hn hv (fun ls' hl' => k q hq p e s m args below meth c H locs ls' C hX hS hl')
theorem kr_iinc {i j : Nat} {n : Int} {x v : Int32} (hd : decode y.2.1 pc = .ok (.iinc i n, 3)) (hj : lv[j]? = some (i, .int x)) (hx : x + Int32.ofInt n = v) (hn : i < y.2.2.1) (hv : (i, Value.int v) :: lv.filter (fun q => !(q.1 == i) && !(q.1 + 1 == i && q.2.category == 2)) = lv') (k : kR rv E y d (pc + 3) lv' st M res) : kR rv E y d pc lv st M res := by
  intro q hq p e s m args below meth c H locs ls C hX hS hl
  exact lv_iinc C.1 C.2.1 hd hl hj hx hn hv (fun ls' hl' => k q hq p e s m args below meth c H locs ls' C hX hS hl')
theorem kr_nmi {x : Int32} {k : Int32 → Option ρ} (h : ∀ z, kR rv E y d pc lv (.int z :: st) M (k z)) : kR rv E y d pc lv (.int x :: st) M (kr_let x k) := h x
theorem kr_nml {x : Int64} {k : Int64 → Option ρ} (h : ∀ z, kR rv E y d pc lv (.long z :: st) M (k z)) : kR rv E y d pc lv (.long x :: st) M (kr_let x k) := h x
theorem kr_iadd {x z : Int32} (hd : decode y.2.1 pc = .ok (.iadd, 1)) (k : kR rv E y d (pc + 1) lv (.int (x + z) :: st) M res) : kR rv E y d pc lv (.int z :: .int x :: st) M res := by
  intro q hq p e s m args below meth c H locs ls C hX hS hl
  exact lv_iadd C.1 C.2.1 hd (k q hq p e s m args below meth c H locs ls C hX hS hl)
theorem kr_isub {x z : Int32} (hd : decode y.2.1 pc = .ok (.isub, 1)) (k : kR rv E y d (pc + 1) lv (.int (x - z) :: st) M res) : kR rv E y d pc lv (.int z :: .int x :: st) M res := by
  intro q hq p e s m args below meth c H locs ls C hX hS hl
  exact lv_isub C.1 C.2.1 hd (k q hq p e s m args below meth c H locs ls C hX hS hl)
theorem kr_imul {x z : Int32} (hd : decode y.2.1 pc = .ok (.imul, 1)) (k : kR rv E y d (pc + 1) lv (.int (x * z) :: st) M res) : kR rv E y d pc lv (.int z :: .int x :: st) M res := by
  intro q hq p e s m args below meth c H locs ls C hX hS hl
  exact lv_imul C.1 C.2.1 hd (k q hq p e s m args below meth c H locs ls C hX hS hl)
theorem kr_iand {x z : Int32} (hd : decode y.2.1 pc = .ok (.iand, 1)) (k : kR rv E y d (pc + 1) lv (.int (x &&& z) :: st) M res) : kR rv E y d pc lv (.int z :: .int x :: st) M res := by
  intro q hq p e s m args below meth c H locs ls C hX hS hl
  exact lv_iand C.1 C.2.1 hd (k q hq p e s m args below meth c H locs ls C hX hS hl)
theorem kr_ior {x z : Int32} (hd : decode y.2.1 pc = .ok (.ior, 1)) (k : kR rv E y d (pc + 1) lv (.int (x ||| z) :: st) M res) : kR rv E y d pc lv (.int z :: .int x :: st) M res := by
  intro q hq p e s m args below meth c H locs ls C hX hS hl
  exact lv_ior C.1 C.2.1 hd (k q hq p e s m args below meth c H locs ls C hX hS hl)
theorem kr_ixor {x z : Int32} (hd : decode y.2.1 pc = .ok (.ixor, 1)) (k : kR rv E y d (pc + 1) lv (.int (x ^^^ z) :: st) M res) : kR rv E y d pc lv (.int z :: .int x :: st) M res := by
  intro q hq p e s m args below meth c H locs ls C hX hS hl
  exact lv_ixor C.1 C.2.1 hd (k q hq p e s m args below meth c H locs ls C hX hS hl)
theorem kr_ishl {x z : Int32} (hd : decode y.2.1 pc = .ok (.ishl, 1)) (k : kR rv E y d (pc + 1) lv (.int (x <<< (z &&& 31)) :: st) M res) : kR rv E y d pc lv (.int z :: .int x :: st) M res := by
  intro q hq p e s m args below meth c H locs ls C hX hS hl
  exact lv_ishl C.1 C.2.1 hd (k q hq p e s m args below meth c H locs ls C hX hS hl)
theorem kr_ishr {x z : Int32} (hd : decode y.2.1 pc = .ok (.ishr, 1)) (k : kR rv E y d (pc + 1) lv (.int (x >>> (z &&& 31)) :: st) M res) : kR rv E y d pc lv (.int z :: .int x :: st) M res := by
  intro q hq p e s m args below meth c H locs ls C hX hS hl
  exact lv_ishr C.1 C.2.1 hd (k q hq p e s m args below meth c H locs ls C hX hS hl)
theorem kr_iushr {x z : Int32} (hd : decode y.2.1 pc = .ok (.iushr, 1)) (k : kR rv E y d (pc + 1) lv (.int ((x.toUInt32 >>> (z.toUInt32 &&& Int32.toUInt32 31)).toInt32) :: st) M res) : kR rv E y d pc lv (.int z :: .int x :: st) M res := by
  intro q hq p e s m args below meth c H locs ls C hX hS hl
  exact lv_iushr C.1 C.2.1 hd rfl (k q hq p e s m args below meth c H locs ls C hX hS hl)
theorem kr_ineg {x : Int32} (hd : decode y.2.1 pc = .ok (.ineg, 1)) (k : kR rv E y d (pc + 1) lv (.int (0 - x) :: st) M res) : kR rv E y d pc lv (.int x :: st) M res := by
  intro q hq p e s m args below meth c H locs ls C hX hS hl
  exact lv_ineg C.1 C.2.1 hd (k q hq p e s m args below meth c H locs ls C hX hS hl)
theorem kr_ladd {x z : Int64} (hd : decode y.2.1 pc = .ok (.ladd, 1)) (k : kR rv E y d (pc + 1) lv (.long (x + z) :: st) M res) : kR rv E y d pc lv (.long z :: .long x :: st) M res := by
  intro q hq p e s m args below meth c H locs ls C hX hS hl
  exact lv_ladd C.1 C.2.1 hd (k q hq p e s m args below meth c H locs ls C hX hS hl)
theorem kr_lsub {x z : Int64} (hd : decode y.2.1 pc = .ok (.lsub, 1)) (k : kR rv E y d (pc + 1) lv (.long (x - z) :: st) M res) : kR rv E y d pc lv (.long z :: .long x :: st) M res := by
  intro q hq p e s m args below meth c H locs ls C hX hS hl
  exact lv_lsub C.1 C.2.1 hd (k q hq p e s m args below meth c H locs ls C hX hS hl)
theorem kr_lmul {x z : Int64} (hd : decode y.2.1 pc = .ok (.lmul, 1)) (k : kR rv E y d (pc + 1) lv (.long (x * z) :: st) M res) : kR rv E y d pc lv (.long z :: .long x :: st) M res := by
  intro q hq p e s m args below meth c H locs ls C hX hS hl
  exact lv_lmul C.1 C.2.1 hd (k q hq p e s m args below meth c H locs ls C hX hS hl)
theorem kr_land {x z : Int64} (hd : decode y.2.1 pc = .ok (.land, 1)) (k : kR rv E y d (pc + 1) lv (.long (x &&& z) :: st) M res) : kR rv E y d pc lv (.long z :: .long x :: st) M res := by
  intro q hq p e s m args below meth c H locs ls C hX hS hl
  exact lv_land C.1 C.2.1 hd (k q hq p e s m args below meth c H locs ls C hX hS hl)
theorem kr_lor {x z : Int64} (hd : decode y.2.1 pc = .ok (.lor, 1)) (k : kR rv E y d (pc + 1) lv (.long (x ||| z) :: st) M res) : kR rv E y d pc lv (.long z :: .long x :: st) M res := by
  intro q hq p e s m args below meth c H locs ls C hX hS hl
  exact lv_lor C.1 C.2.1 hd (k q hq p e s m args below meth c H locs ls C hX hS hl)
theorem kr_idiv {x z : Int32} {r : Option ρ} (hd : decode y.2.1 pc = .ok (.idiv, 1)) (k : ¬ z = 0 → kR rv E y d (pc + 1) lv (.int (x / z) :: st) M r) : kR rv E y d pc lv (.int z :: .int x :: st) M (if z = 0 then none else r) := by
  intro q hq p e s m args below meth c H locs ls C hX hS hl
  by_cases h0 : z = 0
  · rw [if_pos h0] at hq; cases hq
  · rw [if_neg h0] at hq
    exact lv_idiv C.1 C.2.1 hd h0 (k h0 q hq p e s m args below meth c H locs ls C hX hS hl)
theorem kr_irem {x z : Int32} {r : Option ρ} (hd : decode y.2.1 pc = .ok (.irem, 1)) (k : ¬ z = 0 → kR rv E y d (pc + 1) lv (.int (x - x / z * z) :: st) M r) : kR rv E y d pc lv (.int z :: .int x :: st) M (if z = 0 then none else r) := by
  intro q hq p e s m args below meth c H locs ls C hX hS hl
  by_cases h0 : z = 0
  · rw [if_pos h0] at hq; cases hq
  · rw [if_neg h0] at hq
    exact lv_irem C.1 C.2.1 hd h0 (k h0 q hq p e s m args below meth c H locs ls C hX hS hl)
theorem kr_ldiv {x z : Int64} {r : Option ρ} (hd : decode y.2.1 pc = .ok (.ldiv, 1)) (k : ¬ z = 0 → kR rv E y d (pc + 1) lv (.long (x / z) :: st) M r) : kR rv E y d pc lv (.long z :: .long x :: st) M (if z = 0 then none else r) := by
  intro q hq p e s m args below meth c H locs ls C hX hS hl
  by_cases h0 : z = 0
  · rw [if_pos h0] at hq; cases hq
  · rw [if_neg h0] at hq
    exact lv_ldiv C.1 C.2.1 hd h0 (k h0 q hq p e s m args below meth c H locs ls C hX hS hl)
theorem kr_lrem {x z : Int64} {r : Option ρ} (hd : decode y.2.1 pc = .ok (.lrem, 1)) (k : ¬ z = 0 → kR rv E y d (pc + 1) lv (.long (x - x / z * z) :: st) M r) : kR rv E y d pc lv (.long z :: .long x :: st) M (if z = 0 then none else r) := by
  intro q hq p e s m args below meth c H locs ls C hX hS hl
  by_cases h0 : z = 0
  · rw [if_pos h0] at hq; cases hq
  · rw [if_neg h0] at hq
    exact lv_lrem C.1 C.2.1 hd h0 (k h0 q hq p e s m args below meth c H locs ls C hX hS hl)
theorem kr_lushr {x : Int64} {z : Int32} (hd : decode y.2.1 pc = .ok (.lushr, 1)) (k : kR rv E y d (pc + 1) lv (.long ((x.toUInt64 >>> (z.toInt64.toUInt64 &&& Int64.toUInt64 63)).toInt64) :: st) M res) : kR rv E y d pc lv (.int z :: .long x :: st) M res := by
  intro q hq p e s m args below meth c H locs ls C hX hS hl
  exact lv_lushr C.1 C.2.1 hd rfl (k q hq p e s m args below meth c H locs ls C hX hS hl)
theorem kr_lshl {x : Int64} {z : Int32} (hd : decode y.2.1 pc = .ok (.lshl, 1)) (k : kR rv E y d (pc + 1) lv (.long (x <<< (z.toInt64 &&& 63)) :: st) M res) : kR rv E y d pc lv (.int z :: .long x :: st) M res := by
  intro q hq p e s m args below meth c H locs ls C hX hS hl
  exact lv_lshl C.1 C.2.1 hd rfl (k q hq p e s m args below meth c H locs ls C hX hS hl)
theorem kr_i2l {x : Int32} (hd : decode y.2.1 pc = .ok (.i2l, 1)) (k : kR rv E y d (pc + 1) lv (.long (x.toInt64) :: st) M res) : kR rv E y d pc lv (.int x :: st) M res := by
  intro q hq p e s m args below meth c H locs ls C hX hS hl
  exact lv_i2l C.1 C.2.1 hd rfl (k q hq p e s m args below meth c H locs ls C hX hS hl)
theorem kr_l2i {x : Int64} (hd : decode y.2.1 pc = .ok (.l2i, 1)) (k : kR rv E y d (pc + 1) lv (.int (x.toInt32) :: st) M res) : kR rv E y d pc lv (.long x :: st) M res := by
  intro q hq p e s m args below meth c H locs ls C hX hS hl
  exact lv_l2i C.1 C.2.1 hd rfl (k q hq p e s m args below meth c H locs ls C hX hS hl)
theorem kr_i2b {x : Int32} (hd : decode y.2.1 pc = .ok (.i2b, 1)) (k : kR rv E y d (pc + 1) lv (.int (x.toInt8.toInt32) :: st) M res) : kR rv E y d pc lv (.int x :: st) M res := by
  intro q hq p e s m args below meth c H locs ls C hX hS hl
  exact lv_i2b C.1 C.2.1 hd rfl (k q hq p e s m args below meth c H locs ls C hX hS hl)
theorem kr_i2s {x : Int32} (hd : decode y.2.1 pc = .ok (.i2s, 1)) (k : kR rv E y d (pc + 1) lv (.int (x.toInt16.toInt32) :: st) M res) : kR rv E y d pc lv (.int x :: st) M res := by
  intro q hq p e s m args below meth c H locs ls C hX hS hl
  exact lv_i2s C.1 C.2.1 hd rfl (k q hq p e s m args below meth c H locs ls C hX hS hl)
theorem kr_i2c {x : Int32} (hd : decode y.2.1 pc = .ok (.i2c, 1)) (k : kR rv E y d (pc + 1) lv (.int ((x.toUInt32 % 65536).toInt32) :: st) M res) : kR rv E y d pc lv (.int x :: st) M res := by
  intro q hq p e s m args below meth c H locs ls C hX hS hl
  exact lv_i2c C.1 C.2.1 hd rfl (k q hq p e s m args below meth c H locs ls C hX hS hl)
theorem kr_dup {v : Value} (hd : decode y.2.1 pc = .ok (.dup, 1)) (hc : v.category = 1) (k : kR rv E y d (pc + 1) lv (v :: v :: st) M res) : kR rv E y d pc lv (v :: st) M res := by
  intro q hq p e s m args below meth c H locs ls C hX hS hl
  exact lv_dup C.1 C.2.1 hd hc (k q hq p e s m args below meth c H locs ls C hX hS hl)
theorem kr_dup2 {v u : Value} (hd : decode y.2.1 pc = .ok (.dup2, 1)) (hc : v.category = 1) (hu : u.category = 1) (k : kR rv E y d (pc + 1) lv (v :: u :: v :: u :: st) M res) : kR rv E y d pc lv (v :: u :: st) M res := by
  intro q hq p e s m args below meth c H locs ls C hX hS hl
  exact lv_dup2_11 C.1 C.2.1 hd hc hu (k q hq p e s m args below meth c H locs ls C hX hS hl)
theorem kr_if_eq {x : Int32} {off : Int} {tgt : Nat} {ra rb : Option ρ} (hd : decode y.2.1 pc = .ok (.ifCond .eq off, 3)) (ht : (pc : Int) + off = (tgt : Int)) (kt : kR rv E y d tgt lv st M ra) (kf : kR rv E y d (pc + 3) lv st M rb) : kR rv E y d pc lv (.int x :: st) M (if x = 0 then ra else rb) := by
  intro q hq p e s m args below meth c H locs ls C hX hS hl
  refine lv_if_eq C.1 C.2.1 hd ht (fun h => ?_) (fun h => ?_)
  · exact kt q (by rw [if_pos h] at hq; exact hq) p e s m args below meth c H locs ls C hX hS hl
  · exact kf q (by rw [if_neg h] at hq; exact hq) p e s m args below meth c H locs ls C hX hS hl
theorem kr_icmp_eq {x z : Int32} {off : Int} {tgt : Nat} {ra rb : Option ρ} (hd : decode y.2.1 pc = .ok (.if_icmp .eq off, 3)) (ht : (pc : Int) + off = (tgt : Int)) (kt : kR rv E y d tgt lv st M ra) (kf : kR rv E y d (pc + 3) lv st M rb) : kR rv E y d pc lv (.int z :: .int x :: st) M (if x = z then ra else rb) := by
  intro q hq p e s m args below meth c H locs ls C hX hS hl
  refine lv_icmp_eq C.1 C.2.1 hd ht (fun h => ?_) (fun h => ?_)
  · exact kt q (by rw [if_pos h] at hq; exact hq) p e s m args below meth c H locs ls C hX hS hl
  · exact kf q (by rw [if_neg h] at hq; exact hq) p e s m args below meth c H locs ls C hX hS hl
theorem kr_if_ne {x : Int32} {off : Int} {tgt : Nat} {ra rb : Option ρ} (hd : decode y.2.1 pc = .ok (.ifCond .ne off, 3)) (ht : (pc : Int) + off = (tgt : Int)) (kt : kR rv E y d tgt lv st M ra) (kf : kR rv E y d (pc + 3) lv st M rb) : kR rv E y d pc lv (.int x :: st) M (if ¬ x = 0 then ra else rb) := by
  intro q hq p e s m args below meth c H locs ls C hX hS hl
  refine lv_if_ne C.1 C.2.1 hd ht (fun h => ?_) (fun h => ?_)
  · exact kt q (by rw [if_pos h] at hq; exact hq) p e s m args below meth c H locs ls C hX hS hl
  · exact kf q (by rw [if_neg (fun n => n h)] at hq; exact hq) p e s m args below meth c H locs ls C hX hS hl
theorem kr_icmp_ne {x z : Int32} {off : Int} {tgt : Nat} {ra rb : Option ρ} (hd : decode y.2.1 pc = .ok (.if_icmp .ne off, 3)) (ht : (pc : Int) + off = (tgt : Int)) (kt : kR rv E y d tgt lv st M ra) (kf : kR rv E y d (pc + 3) lv st M rb) : kR rv E y d pc lv (.int z :: .int x :: st) M (if ¬ x = z then ra else rb) := by
  intro q hq p e s m args below meth c H locs ls C hX hS hl
  refine lv_icmp_ne C.1 C.2.1 hd ht (fun h => ?_) (fun h => ?_)
  · exact kt q (by rw [if_pos h] at hq; exact hq) p e s m args below meth c H locs ls C hX hS hl
  · exact kf q (by rw [if_neg (fun n => n h)] at hq; exact hq) p e s m args below meth c H locs ls C hX hS hl
theorem kr_if_lt {x : Int32} {off : Int} {tgt : Nat} {ra rb : Option ρ} (hd : decode y.2.1 pc = .ok (.ifCond .lt off, 3)) (ht : (pc : Int) + off = (tgt : Int)) (kt : kR rv E y d tgt lv st M ra) (kf : kR rv E y d (pc + 3) lv st M rb) : kR rv E y d pc lv (.int x :: st) M (if x < 0 then ra else rb) := by
  intro q hq p e s m args below meth c H locs ls C hX hS hl
  refine lv_if_lt C.1 C.2.1 hd ht (fun h => ?_) (fun h => ?_)
  · exact kt q (by rw [if_pos h] at hq; exact hq) p e s m args below meth c H locs ls C hX hS hl
  · exact kf q (by rw [if_neg h] at hq; exact hq) p e s m args below meth c H locs ls C hX hS hl
theorem kr_icmp_lt {x z : Int32} {off : Int} {tgt : Nat} {ra rb : Option ρ} (hd : decode y.2.1 pc = .ok (.if_icmp .lt off, 3)) (ht : (pc : Int) + off = (tgt : Int)) (kt : kR rv E y d tgt lv st M ra) (kf : kR rv E y d (pc + 3) lv st M rb) : kR rv E y d pc lv (.int z :: .int x :: st) M (if x < z then ra else rb) := by
  intro q hq p e s m args below meth c H locs ls C hX hS hl
  refine lv_icmp_lt C.1 C.2.1 hd ht (fun h => ?_) (fun h => ?_)
  · exact kt q (by rw [if_pos h] at hq; exact hq) p e s m args below meth c H locs ls C hX hS hl
  · exact kf q (by rw [if_neg h] at hq; exact hq) p e s m args below meth c H locs ls C hX hS hl
theorem kr_if_ge {x : Int32} {off : Int} {tgt : Nat} {ra rb : Option ρ} (hd : decode y.2.1 pc = .ok (.ifCond .ge off, 3)) (ht : (pc : Int) + off = (tgt : Int)) (kt : kR rv E y d tgt lv st M ra) (kf : kR rv E y d (pc + 3) lv st M rb) : kR rv E y d pc lv (.int x :: st) M (if 0 ≤ x then ra else rb) := by
  intro q hq p e s m args below meth c H locs ls C hX hS hl
  refine lv_if_ge C.1 C.2.1 hd ht (fun h => ?_) (fun h => ?_)
  · exact kt q (by rw [if_pos h] at hq; exact hq) p e s m args below meth c H locs ls C hX hS hl
  · exact kf q (by rw [if_neg h] at hq; exact hq) p e s m args below meth c H locs ls C hX hS hl
theorem kr_icmp_ge {x z : Int32} {off : Int} {tgt : Nat} {ra rb : Option ρ} (hd : decode y.2.1 pc = .ok (.if_icmp .ge off, 3)) (ht : (pc : Int) + off = (tgt : Int)) (kt : kR rv E y d tgt lv st M ra) (kf : kR rv E y d (pc + 3) lv st M rb) : kR rv E y d pc lv (.int z :: .int x :: st) M (if z ≤ x then ra else rb) := by
  intro q hq p e s m args below meth c H locs ls C hX hS hl
  refine lv_icmp_ge C.1 C.2.1 hd ht (fun h => ?_) (fun h => ?_)
  · exact kt q (by rw [if_pos h] at hq; exact hq) p e s m args below meth c H locs ls C hX hS hl
  · exact kf q (by rw [if_neg h] at hq; exact hq) p e s m args below meth c H locs ls C hX hS hl
theorem kr_if_gt {x : Int32} {off : Int} {tgt : Nat} {ra rb : Option ρ} (hd : decode y.2.1 pc = .ok (.ifCond .gt off, 3)) (ht : (pc : Int) + off = (tgt : Int)) (kt : kR rv E y d tgt lv st M ra) (kf : kR rv E y d (pc + 3) lv st M rb) : kR rv E y d pc lv (.int x :: st) M (if 0 < x then ra else rb) := by
  intro q hq p e s m args below meth c H locs ls C hX hS hl
  refine lv_if_gt C.1 C.2.1 hd ht (fun h => ?_) (fun h => ?_)
  · exact kt q (by rw [if_pos h] at hq; exact hq) p e s m args below meth c H locs ls C hX hS hl
  · exact kf q (by rw [if_neg h] at hq; exact hq) p e s m args below meth c H locs ls C hX hS hl
theorem kr_icmp_gt {x z : Int32} {off : Int} {tgt : Nat} {ra rb : Option ρ} (hd : decode y.2.1 pc = .ok (.if_icmp .gt off, 3)) (ht : (pc : Int) + off = (tgt : Int)) (kt : kR rv E y d tgt lv st M ra) (kf : kR rv E y d (pc + 3) lv st M rb) : kR rv E y d pc lv (.int z :: .int x :: st) M (if z < x then ra else rb) := by
  intro q hq p e s m args below meth c H locs ls C hX hS hl
  refine lv_icmp_gt C.1 C.2.1 hd ht (fun h => ?_) (fun h => ?_)
  · exact kt q (by rw [if_pos h] at hq; exact hq) p e s m args below meth c H locs ls C hX hS hl
  · exact kf q (by rw [if_neg h] at hq; exact hq) p e s m args below meth c H locs ls C hX hS hl
theorem kr_if_le {x : Int32} {off : Int} {tgt : Nat} {ra rb : Option ρ} (hd : decode y.2.1 pc = .ok (.ifCond .le off, 3)) (ht : (pc : Int) + off = (tgt : Int)) (kt : kR rv E y d tgt lv st M ra) (kf : kR rv E y d (pc + 3) lv st M rb) : kR rv E y d pc lv (.int x :: st) M (if x ≤ 0 then ra else rb) := by
  intro q hq p e s m args below meth c H locs ls C hX hS hl
  refine lv_if_le C.1 C.2.1 hd ht (fun h => ?_) (fun h => ?_)
  · exact kt q (by rw [if_pos h] at hq; exact hq) p e s m args below meth c H locs ls C hX hS hl
  · exact kf q (by rw [if_neg h] at hq; exact hq) p e s m args below meth c H locs ls C hX hS hl
theorem kr_icmp_le {x z : Int32} {off : Int} {tgt : Nat} {ra rb : Option ρ} (hd : decode y.2.1 pc = .ok (.if_icmp .le off, 3)) (ht : (pc : Int) + off = (tgt : Int)) (kt : kR rv E y d tgt lv st M ra) (kf : kR rv E y d (pc + 3) lv st M rb) : kR rv E y d pc lv (.int z :: .int x :: st) M (if x ≤ z then ra else rb) := by
  intro q hq p e s m args below meth c H locs ls C hX hS hl
  refine lv_icmp_le C.1 C.2.1 hd ht (fun h => ?_) (fun h => ?_)
  · exact kt q (by rw [if_pos h] at hq; exact hq) p e s m args below meth c H locs ls C hX hS hl
  · exact kf q (by rw [if_neg h] at hq; exact hq) p e s m args below meth c H locs ls C hX hS hl
theorem kr_goto {off : Int} {tgt : Nat} (hd : decode y.2.1 pc = .ok (.goto off, 3)) (ht : (pc : Int) + off = (tgt : Int)) (k : kR rv E y d tgt lv st M res) : kR rv E y d pc lv st M res := by
  intro q hq p e s m args below meth c H locs ls C hX hS hl
  exact lv_goto C.1 C.2.1 hd ht (k q hq p e s m args below meth c H locs ls C hX hS hl)
def kr_lc (x z : Int64) : Int32 := if x < z then -1 else if x = z then 0 else 1
end KRR
section KRM
variable {ρ : Type} {rv : ρ → Option Value × kr_M} {E : kr_E} {y : kr_Y} {d pc : Nat} {lv lv' : List (Nat × Value)} {st : List Value} {M : kr_M} {res : Option ρ}
theorem kr_cobj {a ci : Nat} (hs : kr_sh a = (ci, 0)) (hc : ci < 13) : kr_cell E M a = .inr (ci, kr_fs E.2.1 a M ci) := by
  unfold kr_cell
  rw [hs]
  exact if_pos (by show ci < 20; omega)
theorem kr_wobj {a ci : Nat} (hs : kr_sh a = (ci, 0)) (hc : ci < 13) : (kr_ws E M)[a]? = some (E.2.1 + a, .inr (ci, kr_fs E.2.1 a M ci)) := by
  rw [kr_ws_at (kr_lt hs (by intro h; have := congrArg Prod.fst h; simp at this; omega)), kr_cobj hs hc]
theorem kr_carr {a t n : Nat} (hs : kr_sh a = (t, n)) (h1 : 20 ≤ t) (h2 : t < 23) : kr_cell E M a = .inl (E.2.2.2.1 a, n, .inl (M.1 a)) := by
  unfold kr_cell
  rw [hs]
  simp only [show ¬ t < 20 by omega, if_false, h2, if_true]
theorem kr_carl {a n : Nat} (hs : kr_sh a = (23, n)) : kr_cell E M a = .inl (E.2.2.2.1 a, n, .inr (.inl (M.2.1 a))) := by
  unfold kr_cell
  rw [hs]
  simp
theorem kr_carq {a t n : Nat} (hs : kr_sh a = (t, n)) (h1 : 23 < t) : kr_cell E M a = .inl (E.2.2.2.1 a, n, .inr (.inr (.inr (.inr (fun j => some (E.2.1 + (a + kr_ro t j))))))) := by
  unfold kr_cell
  rw [hs]
  simp only [show ¬ t < 20 by omega, show ¬ t < 23 by omega, show ¬ t = 23 by omega, if_false]
theorem kr_ne99 {t n : Nat} (h : t < 99) : ((t, n) : Nat × Nat) ≠ (99, 0) := by
  intro h2
  have := congrArg Prod.fst h2
  simp at this
  omega
theorem kr_tya {a t n : Nat} {ca : Nat → ClassId} (hs : kr_sh a = (t, n)) (h1 : 20 ≤ t) (h2 : t < 99) : (kr_tys ca)[a]? = some (ca a, kr_ty t) := by
  rw [kr_tys_at (kr_lt hs (kr_ne99 h2)) (by rw [hs]; show ¬ t < 20; omega), hs]
theorem kr_fsat {B a ci j : Nat} {q : Nat × Nat} (hf : (kr_fd ci)[j]? = some q) : (kr_fs B a M ci)[j]? = some (kr_fv B a M j q) := by
  simp [kr_fs, List.getElem?_mapIdx, hf]
theorem kr_fdlt {ci j : Nat} {q : Nat × Nat} (hf : (kr_fd ci)[j]? = some q) (hc : ci < 13) : j < kr_cz ci := by
  rw [← kr_fdl ci hc]
  exact (List.getElem?_eq_some_iff.mp hf).1
/-- a field's value, whatever it is -/
theorem kr_getv {a ci j i : Nat} {q : Nat × Nat} (hd : decode y.2.1 pc = .ok (.getfield i, 3)) (hs : kr_sh a = (ci, 0)) (hw : Cond.fieldLink y.1.cls i (kr_ct ci j).1 (kr_ct ci j).2.1 (kr_ct ci j).2.2.1 ∈ kr_T) (hf : (kr_fd ci)[j]? = some q) (hc : ci < 13) (k : kR rv E y d (pc + 3) lv (kr_fv E.2.1 a M j q :: st) M res) : kR rv E y d pc lv (kr_r E a :: st) M res := by
  intro q hq p e s m args below meth c H locs ls C hX hS hl
  exact va_get (own := y.1.cls) (C := kr_cn ci) (T := kr_ct ci) (N := kr_cz ci) C.1 C.2.1 C.words (fun w hw => List.mem_cons_of_mem _ (kr_inT ci hc w hw)) C.own hX.2.1 hX.1 a (kr_wobj hs hc) (kr_clat ci hc) j (kr_fdlt hf hc) (C.word hw) (fun _ h => h) (kr_fsat hf) hd (k q hq p e s m args below meth c H locs ls C hX hS hl)
theorem kr_getI {a ci j i : Nat} {k : Int32 → Option ρ} (hd : decode y.2.1 pc = .ok (.getfield i, 3)) (hs : kr_sh a = (ci, 0)) (hw : Cond.fieldLink y.1.cls i (kr_ct ci j).1 (kr_ct ci j).2.1 (kr_ct ci j).2.2.1 ∈ kr_T) (hf : (kr_fd ci)[j]? = some (0, 0)) (h : ∀ z, kR rv E y d (pc + 3) lv (.int z :: st) M (k z)) (hc : ci < 13 := by decide) : kR rv E y d pc lv (kr_r E a :: st) M (kr_let (M.1 a j) k) := kr_getv hd hs hw hf hc (h _)
theorem kr_getJ {a ci j i : Nat} {k : Int64 → Option ρ} (hd : decode y.2.1 pc = .ok (.getfield i, 3)) (hs : kr_sh a = (ci, 0)) (hw : Cond.fieldLink y.1.cls i (kr_ct ci j).1 (kr_ct ci j).2.1 (kr_ct ci j).2.2.1 ∈ kr_T) (hf : (kr_fd ci)[j]? = some (1, 0)) (h : ∀ z, kR rv E y d (pc + 3) lv (.long z :: st) M (k z)) (hc : ci < 13 := by decide) : kR rv E y d pc lv (kr_r E a :: st) M (kr_let (M.2.1 a j) k) := kr_getv hd hs hw hf hc (h _)
theorem kr_getA {a ci j i o : Nat} (hd : decode y.2.1 pc = .ok (.getfield i, 3)) (hs : kr_sh a = (ci, 0)) (hw : Cond.fieldLink y.1.cls i (kr_ct ci j).1 (kr_ct ci j).2.1 (kr_ct ci j).2.2.1 ∈ kr_T) (hf : (kr_fd ci)[j]? = some (2, o)) (h : kR rv E y d (pc + 3) lv (kr_r E (a + o) :: st) M res) (hc : ci < 13 := by decide) : kR rv E y d pc lv (kr_r E a :: st) M res := kr_getv hd hs hw hf hc h
/-- a reference that changes -/
theorem kr_getG {a ci j i o : Nat} {k : Nat → Option ρ} (hd : decode y.2.1 pc = .ok (.getfield i, 3)) (hs : kr_sh a = (ci, 0)) (hw : Cond.fieldLink y.1.cls i (kr_ct ci j).1 (kr_ct ci j).2.1 (kr_ct ci j).2.2.1 ∈ kr_T) (hf : (kr_fd ci)[j]? = some (3, o)) (h : ∀ z, kr_sh z = (2, 0) → kR rv E y d (pc + 3) lv (kr_r E z :: st) M (k z)) (hc : ci < 13 := by decide) : kR rv E y d pc lv (kr_r E a :: st) M (if kr_sh (kr_gr M o) = (2, 0) then kr_let (kr_gr M o) k else none) := by
  by_cases hg : kr_sh (kr_gr M o) = (2, 0)
  · rw [if_pos hg]
    exact kr_getv hd hs hw hf hc (h _ hg)
  · rw [if_neg hg]
    intro q hq
    cases hq
theorem kr_setX {s : State} {H1 : Heap} {H : Heap} {M' : kr_M} {a : Nat} {e : va_E} (hX : kr_X E M s H) (hP : va_P E.2.2.1 vwCl ((kr_ws E M).set a (E.2.1 + a, e)) H1) (he : kr_cell E M' a = e) (ho : ∀ j, j < kr_N → j ≠ a → kr_cell E M' j = kr_cell E M j) : kr_X E M' s H1 := by
  rw [kr_ws_set he ho] at hP
  exact ⟨hP, hX.2⟩
theorem kr_putv {a ci j i : Nat} {v : Value} {M' : kr_M} {q0 : Nat × Nat} (hd : decode y.2.1 pc = .ok (.putfield i, 3)) (hs : kr_sh a = (ci, 0)) (hw : Cond.fieldLink y.1.cls i (kr_ct ci j).1 (kr_ct ci j).2.1 (kr_ct ci j).2.2.1 ∈ kr_T) (hf : (kr_fd ci)[j]? = some q0) (hfin : (kr_ct ci j).2.2.2 = false) (hn : narrow (kr_cty ci j) v = v) (hfit : fits (kr_cty ci j) v = true) (he : kr_fs E.2.1 a M' ci = (kr_fs E.2.1 a M ci).set j v) (ho : ∀ j, j < kr_N → j ≠ a → kr_cell E M' j = kr_cell E M j) (hc : ci < 13) (k : kR rv E y d (pc + 3) lv st M' res) : kR rv E y d pc lv (v :: kr_r E a :: st) M res := by
  intro q hq p e s m args below meth c H locs ls C hX hS hl
  refine va_put (own := y.1.cls) (C := kr_cn ci) (T := kr_ct ci) (N := kr_cz ci) C.1 C.2.1 C.words (fun w hw => List.mem_cons_of_mem _ (kr_inT ci hc w hw)) (kr_cty ci) (kr_ctyok ci hc) (kr_cnm ci hc) C.own hX.2.1 hX.1 kr_D hS a (kr_wobj hs hc) (kr_clat ci hc) j (kr_fdlt hf hc) (C.word hw) (fun _ h => h) hfin (kr_ctyok ci hc j (kr_fdlt hf hc)) hn hfit (by simp only [kr_fs, List.length_mapIdx, kr_fdl ci hc]; exact kr_fdlt hf hc) hd (fun H1 locs1 hP1 _ hS1 => ?_)
  exact k q hq p e s m args below meth c H1 locs1 ls C (kr_setX hX hP1 (by rw [kr_cobj hs hc, he]) ho) hS1 hl
theorem kr_fsi {B a ci j : Nat} {x : Int32} (hf : (kr_fd ci)[j]? = some (0, 0)) : kr_fs B a (kr_si M a j x) ci = (kr_fs B a M ci).set j (.int x) := by
  apply List.ext_getElem?
  intro i
  simp only [kr_fs, List.getElem?_set, List.getElem?_mapIdx, List.length_mapIdx]
  by_cases hi : j = i
  · subst hi
    have hl := (List.getElem?_eq_some_iff.mp hf).1
    rw [if_pos rfl, if_pos hl, hf]
    simp [kr_fv, kr_si, upd]
  · rw [if_neg hi]
    congr 1
    funext q
    have hij : ¬ i = j := fun h => hi h.symm
    simp [kr_fv, kr_si, upd, kr_gr, hij]
theorem kr_fsl {B a ci j : Nat} {x : Int64} (hf : (kr_fd ci)[j]? = some (1, 0)) : kr_fs B a (kr_sl M a j x) ci = (kr_fs B a M ci).set j (.long x) := by
  apply List.ext_getElem?
  intro i
  simp only [kr_fs, List.getElem?_set, List.getElem?_mapIdx, List.length_mapIdx]
  by_cases hi : j = i
  · subst hi
    have hl := (List.getElem?_eq_some_iff.mp hf).1
    rw [if_pos rfl, if_pos hl, hf]
    simp [kr_fv, kr_sl, vp_updL]
  · rw [if_neg hi]
    congr 1
    funext q
    have hij : ¬ i = j := fun h => hi h.symm
    simp [kr_fv, kr_sl, vp_updL, kr_gr, hij]
theorem kr_si_o {a k j : Nat} {x : Int32} (h : j ≠ a) : kr_cell E (kr_si M a k x) j = kr_cell E M j := kr_cell_congr (by simp [kr_si, h]) rfl rfl
theorem kr_sl_o {a k j : Nat} {x : Int64} (h : j ≠ a) : kr_cell E (kr_sl M a k x) j = kr_cell E M j := kr_cell_congr rfl (by simp [kr_sl, h]) rfl
theorem kr_putI {a ci j i : Nat} {x : Int32} {k : kr_M → Option ρ} (hd : decode y.2.1 pc = .ok (.putfield i, 3)) (hs : kr_sh a = (ci, 0)) (hw : Cond.fieldLink y.1.cls i (kr_ct ci j).1 (kr_ct ci j).2.1 (kr_ct ci j).2.2.1 ∈ kr_T) (hf : (kr_fd ci)[j]? = some (0, 0)) (hfin : (kr_ct ci j).2.2.2 = false) (h : ∀ M1, kR rv E y d (pc + 3) lv st M1 (k M1)) (hc : ci < 13 := by decide) : kR rv E y d pc lv (.int x :: kr_r E a :: st) M (kr_let (kr_si M a j x) k) := by
  have ht := kr_fdI ci hc j (kr_fdlt hf hc) hf
  exact kr_putv (M' := kr_si M a j x) hd hs hw hf hfin (by rw [ht]; rfl) (by rw [ht]; rfl) (kr_fsi hf) (fun j _ h => kr_si_o h) hc (h _)
theorem kr_putJ {a ci j i : Nat} {x : Int64} {k : kr_M → Option ρ} (hd : decode y.2.1 pc = .ok (.putfield i, 3)) (hs : kr_sh a = (ci, 0)) (hw : Cond.fieldLink y.1.cls i (kr_ct ci j).1 (kr_ct ci j).2.1 (kr_ct ci j).2.2.1 ∈ kr_T) (hf : (kr_fd ci)[j]? = some (1, 0)) (hfin : (kr_ct ci j).2.2.2 = false) (h : ∀ M1, kR rv E y d (pc + 3) lv st M1 (k M1)) (hc : ci < 13 := by decide) : kR rv E y d pc lv (.long x :: kr_r E a :: st) M (kr_let (kr_sl M a j x) k) := by
  have ht := kr_fdJ ci hc j (kr_fdlt hf hc) hf
  exact kr_putv (M' := kr_sl M a j x) hd hs hw hf hfin (by rw [ht]; rfl) (by rw [ht]; rfl) (kr_fsl hf) (fun j _ h => kr_sl_o h) hc (h _)
theorem kr_iald {a n : Nat} {x : Int32} {k : Int32 → Option ρ} (hd : decode y.2.1 pc = .ok (.iaload, 1)) (hs : kr_sh a = (20, n)) (h : ∀ z, kR rv E y d (pc + 1) lv (.int z :: st) M (k z)) : kR rv E y d pc lv (.int x :: kr_r E a :: st) M (if kr_in x n then kr_let (M.1 a x.toNatClampNeg) k else none) := by
  intro q hq p e s m args below meth c H locs ls C hX hS hl
  by_cases hi : kr_in x n
  · rw [if_pos hi] at hq
    exact va_iald C.1 C.2.1 hX.2.1 hX.1 a a (by rw [kr_ws_at (kr_lt hs (kr_ne99 (by decide))), kr_carr hs (by decide) (by decide)]) (kr_tya hs (by decide) (by decide)) hi hd (h _ q hq p e s m args below meth c H locs ls C hX hS hl)
  · rw [if_neg hi] at hq; cases hq
theorem kr_bald {a n : Nat} {x : Int32} {k : Int32 → Option ρ} (hd : decode y.2.1 pc = .ok (.baload, 1)) (hs : kr_sh a = (21, n)) (h : ∀ z, kR rv E y d (pc + 1) lv (.int z :: st) M (k z)) : kR rv E y d pc lv (.int x :: kr_r E a :: st) M (if kr_in x n then kr_let (M.1 a x.toNatClampNeg) k else none) := by
  intro q hq p e s m args below meth c H locs ls C hX hS hl
  by_cases hi : kr_in x n
  · rw [if_pos hi] at hq
    exact va_bald C.1 C.2.1 hX.2.1 hX.1 a a (by rw [kr_ws_at (kr_lt hs (kr_ne99 (by decide))), kr_carr hs (by decide) (by decide)]) (kr_tya hs (by decide) (by decide)) hi hd (h _ q hq p e s m args below meth c H locs ls C hX hS hl)
  · rw [if_neg hi] at hq; cases hq
theorem kr_zald {a n : Nat} {x : Int32} {k : Int32 → Option ρ} (hd : decode y.2.1 pc = .ok (.baload, 1)) (hs : kr_sh a = (22, n)) (h : ∀ z, kR rv E y d (pc + 1) lv (.int z :: st) M (k z)) : kR rv E y d pc lv (.int x :: kr_r E a :: st) M (if kr_in x n then kr_let (M.1 a x.toNatClampNeg) k else none) := by
  intro q hq p e s m args below meth c H locs ls C hX hS hl
  by_cases hi : kr_in x n
  · rw [if_pos hi] at hq
    exact va_zald C.1 C.2.1 hX.2.1 hX.1 a a (by rw [kr_ws_at (kr_lt hs (kr_ne99 (by decide))), kr_carr hs (by decide) (by decide)]) (kr_tya hs (by decide) (by decide)) hi hd (h _ q hq p e s m args below meth c H locs ls C hX hS hl)
  · rw [if_neg hi] at hq; cases hq
theorem kr_lald {a n : Nat} {x : Int32} {k : Int64 → Option ρ} (hd : decode y.2.1 pc = .ok (.laload, 1)) (hs : kr_sh a = (23, n)) (h : ∀ z, kR rv E y d (pc + 1) lv (.long z :: st) M (k z)) : kR rv E y d pc lv (.int x :: kr_r E a :: st) M (if kr_in x n then kr_let (M.2.1 a x.toNatClampNeg) k else none) := by
  intro q hq p e s m args below meth c H locs ls C hX hS hl
  by_cases hi : kr_in x n
  · rw [if_pos hi] at hq
    exact va_lald C.1 C.2.1 hX.2.1 hX.1 a a (by rw [kr_ws_at (kr_lt hs (kr_ne99 (by decide))), kr_carl hs]) (kr_tya hs (by decide) (by decide)) hi hd (h _ q hq p e s m args below meth c H locs ls C hX hS hl)
  · rw [if_neg hi] at hq; cases hq
theorem kr_aald {a t n : Nat} {x : Int32} {r : Option ρ} (hd : decode y.2.1 pc = .ok (.aaload, 1)) (hs : kr_sh a = (t, n)) (ht : 23 < t ∧ t < 27) (h : kr_in x n → kR rv E y d (pc + 1) lv (kr_r E (a + kr_ro t x.toNatClampNeg) :: st) M r) : kR rv E y d pc lv (.int x :: kr_r E a :: st) M (if kr_in x n then r else none) := by
  intro q hq p e s m args below meth c H locs ls C hX hS hl
  by_cases hi : kr_in x n
  · rw [if_pos hi] at hq
    have hty : ∃ C0 : String, kr_ty t = .object C0 := by
      rcases (show t = 24 ∨ t = 25 ∨ t = 26 by omega) with rfl | rfl | rfl
      · exact ⟨_, rfl⟩
      · exact ⟨_, rfl⟩
      · exact ⟨_, rfl⟩
    obtain ⟨C0, hC0⟩ := hty
    have h1 := kr_tya (ca := E.2.2.2.1) hs (by omega) (by omega)
    rw [hC0] at h1
    exact va_aldq (C := C0) (f := fun j => some (E.2.1 + (a + kr_ro t j))) C.1 C.2.1 hX.2.1 hX.1 a a (by rw [kr_ws_at (kr_lt hs (kr_ne99 (by omega))), kr_carq hs ht.1]) h1 hi hd (h hi q hq p e s m args below meth c H locs ls C hX hS hl)
  · rw [if_neg hi] at hq; cases hq
theorem kr_iast {a n : Nat} {x z : Int32} {k : kr_M → Option ρ} (hd : decode y.2.1 pc = .ok (.iastore, 1)) (hs : kr_sh a = (20, n)) (h : ∀ M1, kR rv E y d (pc + 1) lv st M1 (k M1)) : kR rv E y d pc lv (.int z :: .int x :: kr_r E a :: st) M (if kr_in x n then kr_let (kr_si M a x.toNatClampNeg z) k else none) := by
  intro q hq p e s m args below meth c H locs ls C hX hS hl
  by_cases hi : kr_in x n
  · rw [if_pos hi] at hq
    refine va_iast C.1 C.2.1 hX.2.1 hX.1 kr_D hS a a (by rw [kr_ws_at (kr_lt hs (kr_ne99 (by decide))), kr_carr hs (by decide) (by decide)]) (kr_tya hs (by decide) (by decide)) hi hd (fun H1 locs1 hP1 _ hS1 => ?_)
    exact h _ q hq p e s m args below meth c H1 locs1 ls C (kr_setX hX hP1 (by rw [kr_carr hs (by decide) (by decide)]; simp [kr_si]) (fun j _ hj => kr_si_o hj)) hS1 hl
  · rw [if_neg hi] at hq; cases hq
theorem kr_bast {a n : Nat} {x z : Int32} {k : kr_M → Option ρ} (hd : decode y.2.1 pc = .ok (.bastore, 1)) (hs : kr_sh a = (21, n)) (h : ∀ M1, kR rv E y d (pc + 1) lv st M1 (k M1)) : kR rv E y d pc lv (.int z :: .int x :: kr_r E a :: st) M (if kr_in x n then kr_let (kr_si M a x.toNatClampNeg (vp_nar .byte z)) k else none) := by
  intro q hq p e s m args below meth c H locs ls C hX hS hl
  by_cases hi : kr_in x n
  · rw [if_pos hi] at hq
    refine va_bast C.1 C.2.1 hX.2.1 hX.1 kr_D hS a a (by rw [kr_ws_at (kr_lt hs (kr_ne99 (by decide))), kr_carr hs (by decide) (by decide)]) (kr_tya hs (by decide) (by decide)) hi hd (fun H1 locs1 hP1 _ hS1 => ?_)
    exact h _ q hq p e s m args below meth c H1 locs1 ls C (kr_setX hX hP1 (by rw [kr_carr hs (by decide) (by decide)]; simp [kr_si]) (fun j _ hj => kr_si_o hj)) hS1 hl
  · rw [if_neg hi] at hq; cases hq
theorem kr_zast {a n : Nat} {x z : Int32} {k : kr_M → Option ρ} (hd : decode y.2.1 pc = .ok (.bastore, 1)) (hs : kr_sh a = (22, n)) (h : ∀ M1, kR rv E y d (pc + 1) lv st M1 (k M1)) : kR rv E y d pc lv (.int z :: .int x :: kr_r E a :: st) M (if kr_in x n then kr_let (kr_si M a x.toNatClampNeg (vp_nar .boolean z)) k else none) := by
  intro q hq p e s m args below meth c H locs ls C hX hS hl
  by_cases hi : kr_in x n
  · rw [if_pos hi] at hq
    refine va_zast C.1 C.2.1 hX.2.1 hX.1 kr_D hS a a (by rw [kr_ws_at (kr_lt hs (kr_ne99 (by decide))), kr_carr hs (by decide) (by decide)]) (kr_tya hs (by decide) (by decide)) hi hd (fun H1 locs1 hP1 _ hS1 => ?_)
    exact h _ q hq p e s m args below meth c H1 locs1 ls C (kr_setX hX hP1 (by rw [kr_carr hs (by decide) (by decide)]; simp [kr_si]) (fun j _ hj => kr_si_o hj)) hS1 hl
  · rw [if_neg hi] at hq; cases hq
theorem kr_last {a n : Nat} {x : Int32} {z : Int64} {k : kr_M → Option ρ} (hd : decode y.2.1 pc = .ok (.lastore, 1)) (hs : kr_sh a = (23, n)) (h : ∀ M1, kR rv E y d (pc + 1) lv st M1 (k M1)) : kR rv E y d pc lv (.long z :: .int x :: kr_r E a :: st) M (if kr_in x n then kr_let (kr_sl M a x.toNatClampNeg z) k else none) := by
  intro q hq p e s m args below meth c H locs ls C hX hS hl
  by_cases hi : kr_in x n
  · rw [if_pos hi] at hq
    refine va_last C.1 C.2.1 hX.2.1 hX.1 kr_D hS a a (by rw [kr_ws_at (kr_lt hs (kr_ne99 (by decide))), kr_carl hs]) (kr_tya hs (by decide) (by decide)) hi hd (fun H1 locs1 hP1 _ hS1 => ?_)
    exact h _ q hq p e s m args below meth c H1 locs1 ls C (kr_setX hX hP1 (by rw [kr_carl hs]; simp [kr_sl]) (fun j _ hj => kr_sl_o hj)) hS1 hl
  · rw [if_neg hi] at hq; cases hq
theorem kr_alen {a n : Nat} (hd : decode y.2.1 pc = .ok (.arraylength, 1)) (hs : kr_sh a = (20, n)) (h : kR rv E y d (pc + 1) lv (.int (Int32.ofNat n) :: st) M res) : kR rv E y d pc lv (kr_r E a :: st) M res := by
  intro q hq p e s m args below meth c H locs ls C hX hS hl
  exact va_alen C.1 C.2.1 hX.2.1 hX.1 a a (by rw [kr_ws_at (kr_lt hs (kr_ne99 (by decide))), kr_carr hs (by decide) (by decide)]) (kr_tya hs (by decide) (by decide)) rfl hd (h q hq p e s m args below meth c H locs ls C hX hS hl)
end KRM

