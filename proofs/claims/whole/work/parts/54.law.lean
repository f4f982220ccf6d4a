/-! THE CLAIM OUT OF ONE WALK OF THE LAW'S BODY. Your part is whole_start (and what it stands on); all else here is the same for every law, but numbers. -/
def R_law : String := "KnotRopeLaw"
def lw_P (b : Addr) (xs : List Int32) (args : Array Value) (s : State) : Prop := args = #[.ref b] ∧ s.IntsAt b xs ∧ xs.length ≤ 3072 ∧ (Jvm.Cond.and given_1 narrow_1).before args s = true
def lw_Q (_ : Array Value) (s : State) (o : Outcome) (t : State) : Prop := o = .returned (some (.int 1)) ∧ Framed s o t [] 600000 7302250
def lw_Z (below : List Frame) (a : Array Value) (s : State) : State → Prop := fun t => ∃ o, t.status = .running ∧ Ended t below o ∧ lw_Q a s o t
/-- the law's own end, with 1 on the stack, nothing written that was there before, its room as the claim has it -/
theorem lw_ret {p : Program} {l : Launch} {e : Env} {s : State} {m : MethodId} {below : List Frame} {meth : Method} {c : Code} {b : Nat} (hx : p.tables.exec = Jvm.exec) (hb : c.code = code) (hr : meth.sig.returnType = ret) (hlocks : meth.locks = false) {pc : Nat} {H : Heap} {ls : Array Slot} (hdg : decode code pc = .ok (.ireturn, 1)) : W p l e room_1 s m #[Value.ref b] below meth c H [] 600000 7302250 (lw_Z below #[Value.ref b] s) (F0 m pc ls [.int 1]) := by
  intro T hT X
  obtain ⟨fs, hret, hrun, hended, hW, hframe⟩ := X.leave (v := some (.int 1)) (hlocks := hlocks) (fun h => by rw [hr] at h; cases h)
  have hmeth' : T.vm.method? m = some meth := X.method'
  refine ⟨T.setFrames fs, ?_, .returned (some (.int 1)), hrun, hended, rfl, ⟨_, rfl⟩, hW, hframe⟩
  jvm_step X.here [X.here.top, hx, hb, hdg, hmeth', hr, ret, narrow_b1]
  (try refine ⟨rfl, ?_⟩); (try refine ⟨rfl, ?_⟩)
  first | (intro acts; rw [hret _ acts rfl rfl rfl]) | rw [hret _ _ rfl rfl rfl]
  exact Steps.refl _
/-- what holds at the law's entry: the machine, the code, the tables' words (any of lw_tbl by 'hts w (by decide +kernel)'), the script of L ints xs at the cell b, what the Statement gives of the start (any of its parts by flat_of_before) -/
def lw_At (p : Program) (s : State) (m : MethodId) (meth : Method) (c : Code) (b L : Nat) (xs : Nat → Int32) : Prop :=
  p.tables.exec = Jvm.exec ∧ c.code = code ∧ meth.sig.returnType = ret ∧ c.maxLocals = 4 ∧ s.vm.findClass R_law = some m.cls ∧ (∀ w ∈ lw_tbl, w.before #[Value.ref b] s = true) ∧ va_X b L xs s s.heap ∧ b < s.heap.size ∧ meth.locks = false ∧ (Jvm.Cond.and given_1 narrow_1).before #[Value.ref b] s = true
section KLR
variable {E : kr_E} {b L : Nat} {xs : Nat → Int32} {pc : Nat} {lv lv' : List (Nat × Value)} {st : List Value} {M : kr_M}
def kL (E : kr_E) (b L : Nat) (xs : Nat → Int32) (pc : Nat) (lv : List (Nat × Value)) (st : List Value) (M : kr_M) : Prop :=
  ∀ (p : Program) (e : Env) (s : State) (m : MethodId) (below : List Frame) (meth : Method) (c : Code) (H : Heap) (ls : Array Slot), lw_At p s m meth c b L xs → E.2.1 = s.heap.size → kr_X E M s H → va_S (fun q => E.2.1 ≤ q) s.heap H [] → lv_has ls 4 lv →
    W p E.1 e room_1 s m #[Value.ref b] below meth c H [] 600000 7302250 (lw_Z below #[Value.ref b] s) (F0 m pc ls st)
theorem lw_At.word {p : Program} {s : State} {m : MethodId} {meth : Method} {c : Code} (C : lw_At p s m meth c b L xs) {w : Cond} (h : w ∈ kr_T) : w.before #[Value.ref b] s = true := C.2.2.2.2.2.1 w ((List.mem_filter.mp h).1)
theorem kl_iconst {n : Int} {v : Int32} (hd : decode code pc = .ok (.iconst n, 1)) (hv : Int32.ofInt n = v) (k : kL E b L xs (pc + 1) lv (.int v :: st) M) : kL E b L xs pc lv st M := by
  intro p e s m below meth c H ls C hB hX hS hl
  exact lv_iconst C.1 C.2.1 hd hv (k p e s m below meth c H ls C hB hX hS hl)
theorem kl_bipush {n : Int} {v : Int32} (hd : decode code pc = .ok (.bipush n, 2)) (hv : (Int8.ofInt n).toInt32 = v) (k : kL E b L xs (pc + 2) lv (.int v :: st) M) : kL E b L xs pc lv st M := by
  intro p e s m below meth c H ls C hB hX hS hl
  exact lv_bipush C.1 C.2.1 hd hv (k p e s m below meth c H ls C hB hX hS hl)
theorem kl_iload_n {f : Fin 4} {i : Nat} {x : Int32} (hd : decode code pc = .ok (.iload_n f, 1)) (hi : (f : Nat) = i) (j : Nat) (hj : lv[j]? = some (i, .int x)) (k : kL E b L xs (pc + 1) lv (.int x :: st) M) : kL E b L xs pc lv st M := by
  intro p e s m below meth c H ls C hB hX hS hl
  exact lv_iload_n C.1 C.2.1 hd hi (lv_at hl j hj) (k p e s m below meth c H ls C hB hX hS hl)
theorem kl_aload_n {f : Fin 4} {i x : Nat} (hd : decode code pc = .ok (.aload_n f, 1)) (hi : (f : Nat) = i) (j : Nat) (hj : lv[j]? = some (i, .ref x)) (k : kL E b L xs (pc + 1) lv (.ref x :: st) M) : kL E b L xs pc lv st M := by
  intro p e s m below meth c H ls C hB hX hS hl
  exact lv_aload_n C.1 C.2.1 hd hi (lv_at hl j hj) (k p e s m below meth c H ls C hB hX hS hl)
theorem kl_iadd {x z : Int32} (hd : decode code pc = .ok (.iadd, 1)) (k : kL E b L xs (pc + 1) lv (.int (x + z) :: st) M) : kL E b L xs pc lv (.int z :: .int x :: st) M := by
  intro p e s m below meth c H ls C hB hX hS hl
  exact lv_iadd C.1 C.2.1 hd (k p e s m below meth c H ls C hB hX hS hl)
theorem kl_isub {x z : Int32} (hd : decode code pc = .ok (.isub, 1)) (k : kL E b L xs (pc + 1) lv (.int (x - z) :: st) M) : kL E b L xs pc lv (.int z :: .int x :: st) M := by
  intro p e s m below meth c H ls C hB hX hS hl
  exact lv_isub C.1 C.2.1 hd (k p e s m below meth c H ls C hB hX hS hl)
theorem kl_iand {x z : Int32} (hd : decode code pc = .ok (.iand, 1)) (k : kL E b L xs (pc + 1) lv (.int (x &&& z) :: st) M) : kL E b L xs pc lv (.int z :: .int x :: st) M := by
  intro p e s m below meth c H ls C hB hX hS hl
  exact lv_iand C.1 C.2.1 hd (k p e s m below meth c H ls C hB hX hS hl)
theorem kl_land {x z : Int64} (hd : decode code pc = .ok (.land, 1)) (k : kL E b L xs (pc + 1) lv (.long (x &&& z) :: st) M) : kL E b L xs pc lv (.long z :: .long x :: st) M := by
  intro p e s m below meth c H ls C hB hX hS hl
  exact lv_land C.1 C.2.1 hd (k p e s m below meth c H ls C hB hX hS hl)
theorem kl_lor {x z : Int64} (hd : decode code pc = .ok (.lor, 1)) (k : kL E b L xs (pc + 1) lv (.long (x ||| z) :: st) M) : kL E b L xs pc lv (.long z :: .long x :: st) M := by
  intro p e s m below meth c H ls C hB hX hS hl
  exact lv_lor C.1 C.2.1 hd (k p e s m below meth c H ls C hB hX hS hl)
theorem kl_lshl {x : Int64} {z : Int32} (hd : decode code pc = .ok (.lshl, 1)) (k : kL E b L xs (pc + 1) lv (.long (x <<< (z.toInt64 &&& 63)) :: st) M) : kL E b L xs pc lv (.int z :: .long x :: st) M := by
  intro p e s m below meth c H ls C hB hX hS hl
  exact lv_lshl C.1 C.2.1 hd rfl (k p e s m below meth c H ls C hB hX hS hl)
theorem kl_i2l {x : Int32} (hd : decode code pc = .ok (.i2l, 1)) (k : kL E b L xs (pc + 1) lv (.long (x.toInt64) :: st) M) : kL E b L xs pc lv (.int x :: st) M := by
  intro p e s m below meth c H ls C hB hX hS hl
  exact lv_i2l C.1 C.2.1 hd rfl (k p e s m below meth c H ls C hB hX hS hl)
theorem kl_ldc2 {i : Nat} {v : Int64} (hd : decode code pc = .ok (.ldc2_w i, 3)) (hw : Cond.constantLong R_law i v ∈ kr_T) (k : kL E b L xs (pc + 3) lv (.long v :: st) M) : kL E b L xs pc lv st M := by
  intro p e s m below meth c H ls C hB hX hS hl
  exact lv_ldc2 C.1 C.2.1 C.2.2.2.2.1 (C.word hw) hd (k p e s m below meth c H ls C hB hX hS hl)
theorem kl_goto {off : Int} {tgt : Nat} (hd : decode code pc = .ok (.goto off, 3)) (ht : (pc : Int) + off = (tgt : Int)) (k : kL E b L xs tgt lv st M) : kL E b L xs pc lv st M := by
  intro p e s m below meth c H ls C hB hX hS hl
  exact lv_goto C.1 C.2.1 hd ht (k p e s m below meth c H ls C hB hX hS hl)
theorem kl_iinc {i j : Nat} {n : Int} {x v : Int32} (hd : decode code pc = .ok (.iinc i n, 3)) (hj : lv[j]? = some (i, .int x)) (hx : x + Int32.ofInt n = v) (hnn : i < 4) (hv : (i, Value.int v) :: lv.filter (fun q => !(q.1 == i) && !(q.1 + 1 == i && q.2.category == 2)) = lv') (k : kL E b L xs (pc + 3) lv' st M) : kL E b L xs pc lv st M := by
  intro p e s m below meth c H ls C hB hX hS hl
  exact lv_iinc C.1 C.2.1 hd hl hj hx hnn hv (fun ls' hl' => k p e s m below meth c H ls' C hB hX hS hl')
theorem kl_sub (ks : List Nat) (h : lv_pick lv ks = lv') (k : kL E b L xs pc lv' st M) : kL E b L xs pc lv st M := by
  intro p e s m below meth c H ls C hB hX hS hl
  exact k p e s m below meth c H ls C hB hX hS (lv_sub hl ks h)
theorem kl_icmp_gt {x z : Int32} {off : Int} {tgt : Nat} (hd : decode code pc = .ok (.if_icmp .gt off, 3)) (ht : (pc : Int) + off = (tgt : Int)) (kt : z < x → kL E b L xs tgt lv st M) (kf : ¬ z < x → kL E b L xs (pc + 3) lv st M) : kL E b L xs pc lv (.int z :: .int x :: st) M := by
  intro p e s m below meth c H ls C hB hX hS hl
  exact lv_icmp_gt C.1 C.2.1 hd ht (fun h => kt h p e s m below meth c H ls C hB hX hS hl) (fun h => kf h p e s m below meth c H ls C hB hX hS hl)
theorem kl_eq {x : Int32} {off : Int} {tgt : Nat} (hd : decode code pc = .ok (.if_icmp .eq off, 3)) (ht : (pc : Int) + off = (tgt : Int)) (kt : kL E b L xs tgt lv st M) : kL E b L xs pc lv (.int x :: .int x :: st) M := by
  intro p e s m below meth c H ls C hB hX hS hl
  exact lv_icmp_eq C.1 C.2.1 hd ht (fun _ => kt p e s m below meth c H ls C hB hX hS hl) (fun h => absurd rfl h)
theorem kl_tin {dflt lo hi : Int} {offs : Array Int} {len : Nat} {x v : Int32} {off : Int} {tgt : Nat} (hx : x = v) (hd : decode code pc = .ok (.tableswitch dflt lo hi offs, len)) (h1 : ¬ v.toInt < lo) (h2 : ¬ hi < v.toInt) (ho : offs[(v.toInt - lo).toNat]? = some off) (ht : (pc : Int) + off = (tgt : Int)) (k : kL E b L xs tgt lv st M) : kL E b L xs pc lv (.int x :: st) M := by
  subst hx
  intro p e s m below meth c H ls C hB hX hS hl
  exact lv_tableIn C.1 C.2.1 hd h1 h2 ho ht (k p e s m below meth c H ls C hB hX hS hl)
theorem kl_tout {dflt lo hi : Int} {offs : Array Int} {len : Nat} {x : Int32} {tgt : Nat} (hd : decode code pc = .ok (.tableswitch dflt lo hi offs, len)) (h : x.toInt < lo ∨ hi < x.toInt) (ht : (pc : Int) + dflt = (tgt : Int)) (k : kL E b L xs tgt lv st M) : kL E b L xs pc lv (.int x :: st) M := by
  intro p e s m below meth c H ls C hB hX hS hl
  exact lv_tableOut C.1 C.2.1 hd h ht (k p e s m below meth c H ls C hB hX hS hl)
theorem kl_slen (hd : decode code pc = .ok (.arraylength, 1)) (k : kL E b L xs (pc + 1) lv (.int (nI L) :: st) M) : kL E b L xs pc lv (.ref b :: st) M := by
  intro p e s m below meth c H ls C hB hX hS hl
  have hbA : ¬ E.2.1 ≤ b := by rw [hB]; exact Nat.not_le.mpr C.2.2.2.2.2.2.2.1
  exact va_slen C.1 C.2.1 C.2.2.2.2.2.2.1 C.2.2.2.2.2.2.2.1 hbA hS hd (k p e s m below meth c H ls C hB hX hS hl)
theorem kl_sld {x : Int32} {j : Nat} (hx : x = nI j) (hj : j < L) (hL : L ≤ 3072) (hd : decode code pc = .ok (.iaload, 1)) (k : kL E b L xs (pc + 1) lv (.int (xs j) :: st) M) : kL E b L xs pc lv (.int x :: .ref b :: st) M := by
  subst hx
  intro p e s m below meth c H ls C hB hX hS hl
  have hbA : ¬ E.2.1 ≤ b := by rw [hB]; exact Nat.not_le.mpr C.2.2.2.2.2.2.2.1
  have h1 := k p e s m below meth c H ls C hB hX hS hl
  refine va_sld C.1 C.2.1 C.2.2.2.2.2.2.1 C.2.2.2.2.2.2.2.1 hbA hS (vp_in_nI hj (by omega)) hd ?_
  rw [nI_clamp (by omega)]
  exact h1
theorem kl_ret (h1 : decode code pc = .ok (.iconst 1, 1)) (h2 : decode code (pc + 1) = .ok (.ireturn, 1)) : kL E b L xs pc lv [] M := by
  intro p e s m below meth c H ls C hB hX hS hl
  refine lv_iconst (v := 1) C.1 C.2.1 h1 (by decide) ?_
  exact lw_ret C.1 C.2.1 C.2.2.1 C.2.2.2.2.2.2.2.2.1 h2
theorem kl_call {z : kr_Y} {d' ci n a i : Nat} {As : List Value} {lv0 : List (Nat × Value)} {f : Option (Int32 × kr_M)} {r : Int32} {M1 : kr_M} {stk : List Value} (Z : kr_Zv z ci n) (hd : decode code pc = .ok (.invokevirtual i, 3)) (hw : Cond.methodLink R_law i z.1 ∈ kr_T) (hs : kr_sh a = (ci, 0)) (h : kR kr_vi E z d' 0 lv0 [] M f) (hf : f = some (r, M1)) (hstk : stk = As.reverse ++ kr_r E a :: st) (hlv : lv_args 0 (kr_r E a :: As) = lv0) (hln : (lg_sl (kr_r E a :: As)).length ≤ z.2.2.1) (hn : As.length = n) (hdd : d' ≤ 100) (hst : (st.map fun v => v.category).sum ≤ 8)
    (hk : kL E b L xs (pc + 3) lv (.int r :: st) M1) : kL E b L xs pc lv stk M := by
  intro p e s m below meth c H ls C hB hX hS hl
  obtain ⟨z1, z2, z3, z4, z5, z6, z7, z8, z9⟩ := Z
  have hM := kr_ofR (E := E) (M := M) z7 hlv hln h hf
  have hts := C.2.2.2.2.2.1
  have hGood : GoodIn lw_tbl (wsV R_law i z.1.cls z.1 (kr_W0 z)) := fun w hw' => by
    have hk : w ∈ kr_T := by
      rcases List.mem_append.mp hw' with h | h
      · simp only [List.mem_cons, List.not_mem_nil, or_false] at h
        rcases h with rfl | rfl | rfl | rfl
        · exact hw
        · exact z2
        · exact z3
        · exact z4
      · rcases List.mem_cons.mp h with h | h
        · rw [h]; exact z1
        · exact h
    exact ⟨(List.mem_filter.mp hk).1, kr_good w hk⟩
  have hrun := va_runV (R := room_1) (locs := []) (cells := 600000) (slots := 7302250) (below := below) (meth := meth) (e := e) (C := z.1.cls) (bytes := z.2.1) (maxL := z.2.2.1) (ret := z.2.2.2) (n := n) (own := R_law) (Ts := lw_tbl) (g := F0 m pc ls stk) (H := H) (b := E.2.1 + a) (As := As) (rest := st) ⟨C.1, C.2.1, C.2.2.2.1, C.2.2.2.2.1, hts⟩ hM
    (cwV n hts hGood rfl rfl rfl ⟨rfl, z8⟩ ⟨by show d' + 1 ≤ 2048; omega, by show 8 + (z.2.2.1 + 11) + 64 * d' ≤ 84000; omega⟩)
    ⟨kr_blind, by rw [z5]; exact va_recv hX.2.1 hX.1 (kr_clat ci z6) (kr_wobj hs z6), fun U hU hW => ⟨rfl, kr_X.enter hW hU hS hX⟩⟩ rfl hn hl.1 hstk (lv_room hst) hd ⟨Nat.le_refl _, Nat.le_refl _⟩
  intro T hT X
  obtain ⟨v, st₀, t, T', L', h0, X', hL', e1, e2, ⟨hv, hP1, hz, hkk⟩, st1⟩ := hrun T hT X
  cases hv
  rw [h0] at hz hkk
  have X2 := Stand.forget (extra := L') X' (fun q hq' => by rw [← hB]; exact hL' q hq')
  obtain ⟨t2, a1, b1⟩ := hk p e s m below meth c T'.heap ls C hB ⟨by rw [e1]; exact hP1, hX.2⟩
    ⟨Nat.le_trans hS.1 (by rw [e1]; exact hz), fun x h1 h2 => by rw [e1, hkk x (Nat.lt_of_lt_of_le h1 hS.1) h2]; exact hS.2.1 x h1 h2, fun x hx => by cases hx⟩ hl T' rfl X2
  exact ⟨t2, st1 t2 a1, b1⟩
end KLR
def kr_op : Nat → (Nat → Int32) → kr_M → Option (Int32 × kr_M)
  | 0, a, M => f_X11_feed (a 1) (a 2) (a 3) (a 4) (a 5) M
  | 1, a, M => f_X11_end (a 1) M
  | 2, a, M => f_X11_gorge M
  | 3, a, M => f_X11_fault (a 1) M
  | 4, a, M => f_X11_knot (a 1) (a 2) M
  | 5, a, M => f_X11_word (a 1) (a 2) M
  | 6, a, M => f_X11_means (a 1) M
  | 7, a, M => f_X11_rope (a 1) (a 2) M
  | 8, a, M => f_X11_at (a 1) (a 2) M
  | 9, a, M => f_X11_person (a 1) (a 2) M
  | 10, a, M => f_X11_reads (a 1) (a 2) M
  | 11, a, M => f_X11_says (a 1) (a 2) (a 3) M
  | 12, a, M => f_X11_sum (a 1) (a 2) (a 3) M
  | 13, a, M => f_X11_has (a 1) (a 2) (a 3) M
  | 14, a, M => f_X11_shortest (a 1) (a 2) M
  | 15, a, M => f_X11_writes (a 1) (a 2) (a 3) M
  | 16, a, M => f_X11_slips (a 1) M
  | 17, a, M => f_X11_spots (a 1) M
  | 18, a, M => f_X11_feel (a 1) M
  | 19, a, M => f_X11_leaves (a 1) M
  | 20, a, M => f_X11_forged (a 1) M
  | 21, a, M => f_X11_forge (a 1) (a 2) M
  | 22, a, M => f_X11_overlap (a 1) (a 2) M
  | 23, a, M => f_X11_all M
  | 24, a, M => f_X11_order (a 1) M
  | 25, a, M => f_X11_part (a 1) (a 2) M
  | 26, a, M => f_X11_errors (a 1) (a 2) M
  | 27, a, M => f_X11_common (a 1) (a 2) M
  | 28, a, M => f_X11_which (a 1) M
  | 29, a, M => f_X11_feels (a 1) M
  | 30, a, M => f_X11_way (a 1) (a 2) (a 3) M
  | 31, a, M => f_X11_by (a 1) (a 2) (a 3) (a 4) M
  | 32, a, M => f_X11_learns (a 1) (a 2) (a 3) (a 4) M
  | 33, a, M => f_X11_keys (a 1) (a 2) (a 3) M
  | 34, a, M => f_X11_ferry (a 1) M
  | 35, a, M => f_X11_groups (a 1) M
  | 36, a, M => f_X11_group (a 1) M
  | 37, a, M => f_X11_lasts (a 1) (a 2) M
  | 38, a, M => f_X11_bears (a 1) M
  | 39, a, M => f_X11_cross (a 1) (a 2) M
  | 40, a, M => f_X11_tie (a 1) (a 2) (a 3) M
  | 41, a, M => f_X11_cut (a 1) (a 2) M
  | 42, a, M => f_X11_splice (a 1) (a 2) M
  | 43, a, M => f_X11_wet (a 1) M
  | 44, a, M => f_X11_undo M
  | 45, a, M => f_X11_anew M
  | 46, a, M => f_X11_drawn (a 1) (a 2) (a 3) M
  | 47, a, M => f_X11_winters (a 1) (a 2) (a 3) M
  | 48, a, M => f_X11_text (a 1) M
  | 49, a, M => f_X11_like (a 1) M
  | 50, a, M => f_X11_found (a 1) M
  | 51, a, M => f_X11_mend (a 1) M
  | 52, a, M => f_X11_mended (a 1) (a 2) M
  | 53, a, M => f_X11_count (a 1) M
  | 54, a, M => f_X11_image (a 1) M
  | 55, a, M => f_X11_back (a 1) M
  | 56, a, M => f_X11_row (a 1) (a 2) (a 3) M
  | 57, a, M => f_X11_write (a 1) (a 2) ((((a 3).toInt64) <<< ((32 : Int32).toInt64 &&& 63)) ||| (((a 4).toInt64) &&& (4294967295 : Int64))) M
  | 58, a, M => f_X11_paste (a 1) (a 2) (a 3) (a 4) (a 5) M
  | _, _, M => some (0, M)
def kr_mo : Nat → (Nat → Int32) → kr_M → Option (Int32 × kr_M)
  | 0, a, M => f_X12_feed (a 1) (a 2) (a 3) (a 4) (a 5) M
  | 1, a, M => f_X12_end (a 1) M
  | 2, a, M => f_X12_gorge M
  | 3, a, M => f_X12_fault (a 1) M
  | 4, a, M => f_X12_knot (a 1) (a 2) M
  | 5, a, M => f_X12_word (a 1) (a 2) M
  | 6, a, M => f_X12_means (a 1) M
  | 7, a, M => f_X12_rope (a 1) (a 2) M
  | 8, a, M => f_X12_at (a 1) (a 2) M
  | 9, a, M => f_X12_person (a 1) (a 2) M
  | 10, a, M => f_X12_reads (a 1) (a 2) M
  | 11, a, M => f_X12_says (a 1) (a 2) (a 3) M
  | 12, a, M => f_X12_sum (a 1) (a 2) (a 3) M
  | 13, a, M => f_X12_has (a 1) (a 2) (a 3) M
  | 14, a, M => f_X12_shortest (a 1) (a 2) M
  | 15, a, M => f_X12_writes (a 1) (a 2) (a 3) M
  | 16, a, M => f_X12_slips (a 1) M
  | 17, a, M => f_X12_spots (a 1) M
  | 18, a, M => f_X12_feel (a 1) M
  | 19, a, M => f_X12_leaves (a 1) M
  | 20, a, M => f_X12_forged (a 1) M
  | 21, a, M => f_X12_forge (a 1) (a 2) M
  | 22, a, M => f_X12_overlap (a 1) (a 2) M
  | 23, a, M => f_X12_all M
  | 24, a, M => f_X12_order (a 1) M
  | 25, a, M => f_X12_part (a 1) (a 2) M
  | 26, a, M => f_X12_errors (a 1) (a 2) M
  | 27, a, M => f_X12_common (a 1) (a 2) M
  | 28, a, M => f_X12_which (a 1) M
  | 29, a, M => f_X12_feels (a 1) M
  | 30, a, M => f_X12_way (a 1) (a 2) (a 3) M
  | 31, a, M => f_X12_by (a 1) (a 2) (a 3) (a 4) M
  | 32, a, M => f_X12_learns (a 1) (a 2) (a 3) (a 4) M
  | 33, a, M => f_X12_keys (a 1) (a 2) (a 3) M
  | 34, a, M => f_X12_ferry (a 1) M
  | 35, a, M => f_X12_groups (a 1) M
  | 36, a, M => f_X12_group (a 1) M
  | 37, a, M => f_X12_lasts (a 1) (a 2) M
  | 38, a, M => f_X12_bears (a 1) M
  | 39, a, M => f_X12_cross (a 1) (a 2) M
  | 40, a, M => f_X12_tie (a 1) (a 2) (a 3) M
  | 41, a, M => f_X12_cut_ (a 1) (a 2) M
  | 42, a, M => f_X12_splice (a 1) (a 2) M
  | 43, a, M => f_X12_wet (a 1) M
  | 44, a, M => f_X12_undo M
  | 45, a, M => f_X12_anew M
  | 46, a, M => f_X12_drawn (a 1) (a 2) (a 3) M
  | 47, a, M => f_X12_winters (a 1) (a 2) (a 3) M
  | 48, a, M => f_X12_text (a 1) M
  | 49, a, M => f_X12_like (a 1) M
  | 50, a, M => f_X12_found (a 1) M
  | 51, a, M => f_X12_mend (a 1) M
  | 52, a, M => f_X12_mended (a 1) (a 2) M
  | 53, a, M => f_X12_count (a 1) M
  | 54, a, M => f_X12_image (a 1) M
  | 55, a, M => f_X12_back (a 1) M
  | 56, a, M => f_X12_row (a 1) (a 2) (a 3) M
  | 57, a, M => f_X12_write (a 1) (a 2) ((((a 3).toInt64) <<< ((32 : Int32).toInt64 &&& 63)) ||| (((a 4).toInt64) &&& (4294967295 : Int64))) M
  | 58, a, M => f_X12_paste (a 1) (a 2) (a 3) (a 4) (a 5) M
  | _, _, M => some (0, M)
/-- what the numbers owe: every call goes through on both sides, with one answer, and the tie between the two states holds again -/
def kr_ok (Sim : kr_M → Prop) : Prop := ∀ k, k < 59 → ∀ (a : Nat → Int32) (M : kr_M), Sim M → ∃ (r : Int32) (M1 M2 : kr_M), kr_op k a M = some (r, M1) ∧ kr_mo k a M1 = some (r, M2) ∧ Sim M2
theorem kl_case_0 {Sim : kr_M → Prop} (hop : kr_ok Sim) (E : kr_E) (b L : Nat) (xs : Nat → Int32) (i : Nat) (hi : i + 6 ≤ L) (hL : L ≤ 3072) (M : kr_M) (hS : Sim M) (hN : ∀ M2, Sim M2 → kL E b L xs 2161 [(0, .ref b), (1, kr_r E 0), (2, kr_r E 346), (3, .int (nI i))] [] M2) : kL E b L xs 284 [(0, .ref b), (1, kr_r E 0), (2, kr_r E 346), (3, .int (nI i))] [] M := by
  obtain ⟨r, M1, M2, h1, h2, h3⟩ := hop 0 (by decide) (fun j => xs (i + j)) M hS
  refine kl_aload_n dL_law_284 rfl 1 rfl ?_
  refine kl_aload_n dL_law_285 rfl 0 rfl ?_
  refine kl_iload_n dL_law_286 rfl 3 rfl ?_
  refine kl_iconst (v := 1) dL_law_287 (by decide) ?_
  refine kl_iadd dL_law_288 ?_
  refine kl_sld (j := i + 1) (by rw [show (1 : Int32) = nI 1 by decide, nI_add]) (by omega) hL dL_law_289 ?_
  refine kl_aload_n dL_law_290 rfl 0 rfl ?_
  refine kl_iload_n dL_law_291 rfl 3 rfl ?_
  refine kl_iconst (v := 2) dL_law_292 (by decide) ?_
  refine kl_iadd dL_law_293 ?_
  refine kl_sld (j := i + 2) (by rw [show (2 : Int32) = nI 2 by decide, nI_add]) (by omega) hL dL_law_294 ?_
  refine kl_aload_n dL_law_295 rfl 0 rfl ?_
  refine kl_iload_n dL_law_296 rfl 3 rfl ?_
  refine kl_iconst (v := 3) dL_law_297 (by decide) ?_
  refine kl_iadd dL_law_298 ?_
  refine kl_sld (j := i + 3) (by rw [show (3 : Int32) = nI 3 by decide, nI_add]) (by omega) hL dL_law_299 ?_
  refine kl_aload_n dL_law_300 rfl 0 rfl ?_
  refine kl_iload_n dL_law_301 rfl 3 rfl ?_
  refine kl_iconst (v := 4) dL_law_302 (by decide) ?_
  refine kl_iadd dL_law_303 ?_
  refine kl_sld (j := i + 4) (by rw [show (4 : Int32) = nI 4 by decide, nI_add]) (by omega) hL dL_law_304 ?_
  refine kl_aload_n dL_law_305 rfl 0 rfl ?_
  refine kl_iload_n dL_law_306 rfl 3 rfl ?_
  refine kl_iconst (v := 5) dL_law_307 (by decide) ?_
  refine kl_iadd dL_law_308 ?_
  refine kl_sld (j := i + 5) (by rw [show (5 : Int32) = nI 5 by decide, nI_add]) (by omega) hL dL_law_309 ?_
  refine kl_call (As := [.int (xs (i + 1)), .int (xs (i + 2)), .int (xs (i + 3)), .int (xs (i + 4)), .int (xs (i + 5))]) (st := []) (f := f_X11_feed (xs (i + 1)) (xs (i + 2)) (xs (i + 3)) (xs (i + 4)) (xs (i + 5)) M) (r := r) (M1 := M1) zv_X11_feed dL_law_310 (kr_t 476 (by decide +kernel) rfl) kr_at_0 (r_X11_feed E (xs (i + 1)) (xs (i + 2)) (xs (i + 3)) (xs (i + 4)) (xs (i + 5)) M) h1 rfl rfl (Nat.le_of_ble_eq_true rfl) rfl (by decide) (Nat.le_of_ble_eq_true rfl) ?_
  refine kl_aload_n dL_law_313 rfl 2 rfl ?_
  refine kl_aload_n dL_law_314 rfl 0 rfl ?_
  refine kl_iload_n dL_law_315 rfl 3 rfl ?_
  refine kl_iconst (v := 1) dL_law_316 (by decide) ?_
  refine kl_iadd dL_law_317 ?_
  refine kl_sld (j := i + 1) (by rw [show (1 : Int32) = nI 1 by decide, nI_add]) (by omega) hL dL_law_318 ?_
  refine kl_aload_n dL_law_319 rfl 0 rfl ?_
  refine kl_iload_n dL_law_320 rfl 3 rfl ?_
  refine kl_iconst (v := 2) dL_law_321 (by decide) ?_
  refine kl_iadd dL_law_322 ?_
  refine kl_sld (j := i + 2) (by rw [show (2 : Int32) = nI 2 by decide, nI_add]) (by omega) hL dL_law_323 ?_
  refine kl_aload_n dL_law_324 rfl 0 rfl ?_
  refine kl_iload_n dL_law_325 rfl 3 rfl ?_
  refine kl_iconst (v := 3) dL_law_326 (by decide) ?_
  refine kl_iadd dL_law_327 ?_
  refine kl_sld (j := i + 3) (by rw [show (3 : Int32) = nI 3 by decide, nI_add]) (by omega) hL dL_law_328 ?_
  refine kl_aload_n dL_law_329 rfl 0 rfl ?_
  refine kl_iload_n dL_law_330 rfl 3 rfl ?_
  refine kl_iconst (v := 4) dL_law_331 (by decide) ?_
  refine kl_iadd dL_law_332 ?_
  refine kl_sld (j := i + 4) (by rw [show (4 : Int32) = nI 4 by decide, nI_add]) (by omega) hL dL_law_333 ?_
  refine kl_aload_n dL_law_334 rfl 0 rfl ?_
  refine kl_iload_n dL_law_335 rfl 3 rfl ?_
  refine kl_iconst (v := 5) dL_law_336 (by decide) ?_
  refine kl_iadd dL_law_337 ?_
  refine kl_sld (j := i + 5) (by rw [show (5 : Int32) = nI 5 by decide, nI_add]) (by omega) hL dL_law_338 ?_
  refine kl_call (As := [.int (xs (i + 1)), .int (xs (i + 2)), .int (xs (i + 3)), .int (xs (i + 4)), .int (xs (i + 5))]) (st := [.int r]) (f := f_X12_feed (xs (i + 1)) (xs (i + 2)) (xs (i + 3)) (xs (i + 4)) (xs (i + 5)) M1) (r := r) (M1 := M2) zv_X12_feed dL_law_339 (kr_t 1541 (by decide +kernel) rfl) kr_at_346 (r_X12_feed E (xs (i + 1)) (xs (i + 2)) (xs (i + 3)) (xs (i + 4)) (xs (i + 5)) M1) h2 rfl rfl (Nat.le_of_ble_eq_true rfl) rfl (by decide) (Nat.le_of_ble_eq_true rfl) ?_
  refine kl_eq (tgt := 2161) dL_law_342 (by decide) ?_
  exact hN M2 h3
theorem kl_case_1 {Sim : kr_M → Prop} (hop : kr_ok Sim) (E : kr_E) (b L : Nat) (xs : Nat → Int32) (i : Nat) (hi : i + 6 ≤ L) (hL : L ≤ 3072) (M : kr_M) (hS : Sim M) (hN : ∀ M2, Sim M2 → kL E b L xs 2161 [(0, .ref b), (1, kr_r E 0), (2, kr_r E 346), (3, .int (nI i))] [] M2) : kL E b L xs 347 [(0, .ref b), (1, kr_r E 0), (2, kr_r E 346), (3, .int (nI i))] [] M := by
  obtain ⟨r, M1, M2, h1, h2, h3⟩ := hop 1 (by decide) (fun j => xs (i + j)) M hS
  refine kl_aload_n dL_law_347 rfl 1 rfl ?_
  refine kl_aload_n dL_law_348 rfl 0 rfl ?_
  refine kl_iload_n dL_law_349 rfl 3 rfl ?_
  refine kl_iconst (v := 1) dL_law_350 (by decide) ?_
  refine kl_iadd dL_law_351 ?_
  refine kl_sld (j := i + 1) (by rw [show (1 : Int32) = nI 1 by decide, nI_add]) (by omega) hL dL_law_352 ?_
  refine kl_call (As := [.int (xs (i + 1))]) (st := []) (f := f_X11_end (xs (i + 1)) M) (r := r) (M1 := M1) zv_X11_end dL_law_353 (kr_t 484 (by decide +kernel) rfl) kr_at_0 (r_X11_end E (xs (i + 1)) M) h1 rfl rfl (Nat.le_of_ble_eq_true rfl) rfl (by decide) (Nat.le_of_ble_eq_true rfl) ?_
  refine kl_aload_n dL_law_356 rfl 2 rfl ?_
  refine kl_aload_n dL_law_357 rfl 0 rfl ?_
  refine kl_iload_n dL_law_358 rfl 3 rfl ?_
  refine kl_iconst (v := 1) dL_law_359 (by decide) ?_
  refine kl_iadd dL_law_360 ?_
  refine kl_sld (j := i + 1) (by rw [show (1 : Int32) = nI 1 by decide, nI_add]) (by omega) hL dL_law_361 ?_
  refine kl_call (As := [.int (xs (i + 1))]) (st := [.int r]) (f := f_X12_end (xs (i + 1)) M1) (r := r) (M1 := M2) zv_X12_end dL_law_362 (kr_t 1549 (by decide +kernel) rfl) kr_at_346 (r_X12_end E (xs (i + 1)) M1) h2 rfl rfl (Nat.le_of_ble_eq_true rfl) rfl (by decide) (Nat.le_of_ble_eq_true rfl) ?_
  refine kl_eq (tgt := 2161) dL_law_365 (by decide) ?_
  exact hN M2 h3
theorem kl_case_2 {Sim : kr_M → Prop} (hop : kr_ok Sim) (E : kr_E) (b L : Nat) (xs : Nat → Int32) (i : Nat) (hi : i + 6 ≤ L) (hL : L ≤ 3072) (M : kr_M) (hS : Sim M) (hN : ∀ M2, Sim M2 → kL E b L xs 2161 [(0, .ref b), (1, kr_r E 0), (2, kr_r E 346), (3, .int (nI i))] [] M2) : kL E b L xs 370 [(0, .ref b), (1, kr_r E 0), (2, kr_r E 346), (3, .int (nI i))] [] M := by
  obtain ⟨r, M1, M2, h1, h2, h3⟩ := hop 2 (by decide) (fun j => xs (i + j)) M hS
  refine kl_aload_n dL_law_370 rfl 1 rfl ?_
  refine kl_call (As := []) (st := []) (f := f_X11_gorge M) (r := r) (M1 := M1) zv_X11_gorge dL_law_371 (kr_t 488 (by decide +kernel) rfl) kr_at_0 (r_X11_gorge E  M) h1 rfl rfl (Nat.le_of_ble_eq_true rfl) rfl (by decide) (Nat.le_of_ble_eq_true rfl) ?_
  refine kl_aload_n dL_law_374 rfl 2 rfl ?_
  refine kl_call (As := []) (st := [.int r]) (f := f_X12_gorge M1) (r := r) (M1 := M2) zv_X12_gorge dL_law_375 (kr_t 1557 (by decide +kernel) rfl) kr_at_346 (r_X12_gorge E  M1) h2 rfl rfl (Nat.le_of_ble_eq_true rfl) rfl (by decide) (Nat.le_of_ble_eq_true rfl) ?_
  refine kl_eq (tgt := 2161) dL_law_378 (by decide) ?_
  exact hN M2 h3
theorem kl_case_3 {Sim : kr_M → Prop} (hop : kr_ok Sim) (E : kr_E) (b L : Nat) (xs : Nat → Int32) (i : Nat) (hi : i + 6 ≤ L) (hL : L ≤ 3072) (M : kr_M) (hS : Sim M) (hN : ∀ M2, Sim M2 → kL E b L xs 2161 [(0, .ref b), (1, kr_r E 0), (2, kr_r E 346), (3, .int (nI i))] [] M2) : kL E b L xs 383 [(0, .ref b), (1, kr_r E 0), (2, kr_r E 346), (3, .int (nI i))] [] M := by
  obtain ⟨r, M1, M2, h1, h2, h3⟩ := hop 3 (by decide) (fun j => xs (i + j)) M hS
  refine kl_aload_n dL_law_383 rfl 1 rfl ?_
  refine kl_aload_n dL_law_384 rfl 0 rfl ?_
  refine kl_iload_n dL_law_385 rfl 3 rfl ?_
  refine kl_iconst (v := 1) dL_law_386 (by decide) ?_
  refine kl_iadd dL_law_387 ?_
  refine kl_sld (j := i + 1) (by rw [show (1 : Int32) = nI 1 by decide, nI_add]) (by omega) hL dL_law_388 ?_
  refine kl_call (As := [.int (xs (i + 1))]) (st := []) (f := f_X11_fault (xs (i + 1)) M) (r := r) (M1 := M1) zv_X11_fault dL_law_389 (kr_t 671 (by decide +kernel) rfl) kr_at_0 (r_X11_fault E (xs (i + 1)) M) h1 rfl rfl (Nat.le_of_ble_eq_true rfl) rfl (by decide) (Nat.le_of_ble_eq_true rfl) ?_
  refine kl_aload_n dL_law_392 rfl 2 rfl ?_
  refine kl_aload_n dL_law_393 rfl 0 rfl ?_
  refine kl_iload_n dL_law_394 rfl 3 rfl ?_
  refine kl_iconst (v := 1) dL_law_395 (by decide) ?_
  refine kl_iadd dL_law_396 ?_
  refine kl_sld (j := i + 1) (by rw [show (1 : Int32) = nI 1 by decide, nI_add]) (by omega) hL dL_law_397 ?_
  refine kl_call (As := [.int (xs (i + 1))]) (st := [.int r]) (f := f_X12_fault (xs (i + 1)) M1) (r := r) (M1 := M2) zv_X12_fault dL_law_398 (kr_t 1553 (by decide +kernel) rfl) kr_at_346 (r_X12_fault E (xs (i + 1)) M1) h2 rfl rfl (Nat.le_of_ble_eq_true rfl) rfl (by decide) (Nat.le_of_ble_eq_true rfl) ?_
  refine kl_eq (tgt := 2161) dL_law_401 (by decide) ?_
  exact hN M2 h3
theorem kl_case_4 {Sim : kr_M → Prop} (hop : kr_ok Sim) (E : kr_E) (b L : Nat) (xs : Nat → Int32) (i : Nat) (hi : i + 6 ≤ L) (hL : L ≤ 3072) (M : kr_M) (hS : Sim M) (hN : ∀ M2, Sim M2 → kL E b L xs 2161 [(0, .ref b), (1, kr_r E 0), (2, kr_r E 346), (3, .int (nI i))] [] M2) : kL E b L xs 406 [(0, .ref b), (1, kr_r E 0), (2, kr_r E 346), (3, .int (nI i))] [] M := by
  obtain ⟨r, M1, M2, h1, h2, h3⟩ := hop 4 (by decide) (fun j => xs (i + j)) M hS
  refine kl_aload_n dL_law_406 rfl 1 rfl ?_
  refine kl_aload_n dL_law_407 rfl 0 rfl ?_
  refine kl_iload_n dL_law_408 rfl 3 rfl ?_
  refine kl_iconst (v := 1) dL_law_409 (by decide) ?_
  refine kl_iadd dL_law_410 ?_
  refine kl_sld (j := i + 1) (by rw [show (1 : Int32) = nI 1 by decide, nI_add]) (by omega) hL dL_law_411 ?_
  refine kl_aload_n dL_law_412 rfl 0 rfl ?_
  refine kl_iload_n dL_law_413 rfl 3 rfl ?_
  refine kl_iconst (v := 2) dL_law_414 (by decide) ?_
  refine kl_iadd dL_law_415 ?_
  refine kl_sld (j := i + 2) (by rw [show (2 : Int32) = nI 2 by decide, nI_add]) (by omega) hL dL_law_416 ?_
  refine kl_call (As := [.int (xs (i + 1)), .int (xs (i + 2))]) (st := []) (f := f_X11_knot (xs (i + 1)) (xs (i + 2)) M) (r := r) (M1 := M1) zv_X11_knot dL_law_417 (kr_t 675 (by decide +kernel) rfl) kr_at_0 (r_X11_knot E (xs (i + 1)) (xs (i + 2)) M) h1 rfl rfl (Nat.le_of_ble_eq_true rfl) rfl (by decide) (Nat.le_of_ble_eq_true rfl) ?_
  refine kl_aload_n dL_law_420 rfl 2 rfl ?_
  refine kl_aload_n dL_law_421 rfl 0 rfl ?_
  refine kl_iload_n dL_law_422 rfl 3 rfl ?_
  refine kl_iconst (v := 1) dL_law_423 (by decide) ?_
  refine kl_iadd dL_law_424 ?_
  refine kl_sld (j := i + 1) (by rw [show (1 : Int32) = nI 1 by decide, nI_add]) (by omega) hL dL_law_425 ?_
  refine kl_aload_n dL_law_426 rfl 0 rfl ?_
  refine kl_iload_n dL_law_427 rfl 3 rfl ?_
  refine kl_iconst (v := 2) dL_law_428 (by decide) ?_
  refine kl_iadd dL_law_429 ?_
  refine kl_sld (j := i + 2) (by rw [show (2 : Int32) = nI 2 by decide, nI_add]) (by omega) hL dL_law_430 ?_
  refine kl_call (As := [.int (xs (i + 1)), .int (xs (i + 2))]) (st := [.int r]) (f := f_X12_knot (xs (i + 1)) (xs (i + 2)) M1) (r := r) (M1 := M2) zv_X12_knot dL_law_431 (kr_t 1686 (by decide +kernel) rfl) kr_at_346 (r_X12_knot E (xs (i + 1)) (xs (i + 2)) M1) h2 rfl rfl (Nat.le_of_ble_eq_true rfl) rfl (by decide) (Nat.le_of_ble_eq_true rfl) ?_
  refine kl_eq (tgt := 2161) dL_law_434 (by decide) ?_
  exact hN M2 h3
theorem kl_case_5 {Sim : kr_M → Prop} (hop : kr_ok Sim) (E : kr_E) (b L : Nat) (xs : Nat → Int32) (i : Nat) (hi : i + 6 ≤ L) (hL : L ≤ 3072) (M : kr_M) (hS : Sim M) (hN : ∀ M2, Sim M2 → kL E b L xs 2161 [(0, .ref b), (1, kr_r E 0), (2, kr_r E 346), (3, .int (nI i))] [] M2) : kL E b L xs 439 [(0, .ref b), (1, kr_r E 0), (2, kr_r E 346), (3, .int (nI i))] [] M := by
  obtain ⟨r, M1, M2, h1, h2, h3⟩ := hop 5 (by decide) (fun j => xs (i + j)) M hS
  refine kl_aload_n dL_law_439 rfl 1 rfl ?_
  refine kl_aload_n dL_law_440 rfl 0 rfl ?_
  refine kl_iload_n dL_law_441 rfl 3 rfl ?_
  refine kl_iconst (v := 1) dL_law_442 (by decide) ?_
  refine kl_iadd dL_law_443 ?_
  refine kl_sld (j := i + 1) (by rw [show (1 : Int32) = nI 1 by decide, nI_add]) (by omega) hL dL_law_444 ?_
  refine kl_aload_n dL_law_445 rfl 0 rfl ?_
  refine kl_iload_n dL_law_446 rfl 3 rfl ?_
  refine kl_iconst (v := 2) dL_law_447 (by decide) ?_
  refine kl_iadd dL_law_448 ?_
  refine kl_sld (j := i + 2) (by rw [show (2 : Int32) = nI 2 by decide, nI_add]) (by omega) hL dL_law_449 ?_
  refine kl_call (As := [.int (xs (i + 1)), .int (xs (i + 2))]) (st := []) (f := f_X11_word (xs (i + 1)) (xs (i + 2)) M) (r := r) (M1 := M1) zv_X11_word dL_law_450 (kr_t 683 (by decide +kernel) rfl) kr_at_0 (r_X11_word E (xs (i + 1)) (xs (i + 2)) M) h1 rfl rfl (Nat.le_of_ble_eq_true rfl) rfl (by decide) (Nat.le_of_ble_eq_true rfl) ?_
  refine kl_aload_n dL_law_453 rfl 2 rfl ?_
  refine kl_aload_n dL_law_454 rfl 0 rfl ?_
  refine kl_iload_n dL_law_455 rfl 3 rfl ?_
  refine kl_iconst (v := 1) dL_law_456 (by decide) ?_
  refine kl_iadd dL_law_457 ?_
  refine kl_sld (j := i + 1) (by rw [show (1 : Int32) = nI 1 by decide, nI_add]) (by omega) hL dL_law_458 ?_
  refine kl_aload_n dL_law_459 rfl 0 rfl ?_
  refine kl_iload_n dL_law_460 rfl 3 rfl ?_
  refine kl_iconst (v := 2) dL_law_461 (by decide) ?_
  refine kl_iadd dL_law_462 ?_
  refine kl_sld (j := i + 2) (by rw [show (2 : Int32) = nI 2 by decide, nI_add]) (by omega) hL dL_law_463 ?_
  refine kl_call (As := [.int (xs (i + 1)), .int (xs (i + 2))]) (st := [.int r]) (f := f_X12_word (xs (i + 1)) (xs (i + 2)) M1) (r := r) (M1 := M2) zv_X12_word dL_law_464 (kr_t 1690 (by decide +kernel) rfl) kr_at_346 (r_X12_word E (xs (i + 1)) (xs (i + 2)) M1) h2 rfl rfl (Nat.le_of_ble_eq_true rfl) rfl (by decide) (Nat.le_of_ble_eq_true rfl) ?_
  refine kl_eq (tgt := 2161) dL_law_467 (by decide) ?_
  exact hN M2 h3
theorem kl_case_6 {Sim : kr_M → Prop} (hop : kr_ok Sim) (E : kr_E) (b L : Nat) (xs : Nat → Int32) (i : Nat) (hi : i + 6 ≤ L) (hL : L ≤ 3072) (M : kr_M) (hS : Sim M) (hN : ∀ M2, Sim M2 → kL E b L xs 2161 [(0, .ref b), (1, kr_r E 0), (2, kr_r E 346), (3, .int (nI i))] [] M2) : kL E b L xs 472 [(0, .ref b), (1, kr_r E 0), (2, kr_r E 346), (3, .int (nI i))] [] M := by
  obtain ⟨r, M1, M2, h1, h2, h3⟩ := hop 6 (by decide) (fun j => xs (i + j)) M hS
  refine kl_aload_n dL_law_472 rfl 1 rfl ?_
  refine kl_aload_n dL_law_473 rfl 0 rfl ?_
  refine kl_iload_n dL_law_474 rfl 3 rfl ?_
  refine kl_iconst (v := 1) dL_law_475 (by decide) ?_
  refine kl_iadd dL_law_476 ?_
  refine kl_sld (j := i + 1) (by rw [show (1 : Int32) = nI 1 by decide, nI_add]) (by omega) hL dL_law_477 ?_
  refine kl_call (As := [.int (xs (i + 1))]) (st := []) (f := f_X11_means (xs (i + 1)) M) (r := r) (M1 := M1) zv_X11_means dL_law_478 (kr_t 695 (by decide +kernel) rfl) kr_at_0 (r_X11_means E (xs (i + 1)) M) h1 rfl rfl (Nat.le_of_ble_eq_true rfl) rfl (by decide) (Nat.le_of_ble_eq_true rfl) ?_
  refine kl_aload_n dL_law_481 rfl 2 rfl ?_
  refine kl_aload_n dL_law_482 rfl 0 rfl ?_
  refine kl_iload_n dL_law_483 rfl 3 rfl ?_
  refine kl_iconst (v := 1) dL_law_484 (by decide) ?_
  refine kl_iadd dL_law_485 ?_
  refine kl_sld (j := i + 1) (by rw [show (1 : Int32) = nI 1 by decide, nI_add]) (by omega) hL dL_law_486 ?_
  refine kl_call (As := [.int (xs (i + 1))]) (st := [.int r]) (f := f_X12_means (xs (i + 1)) M1) (r := r) (M1 := M2) zv_X12_means dL_law_487 (kr_t 1698 (by decide +kernel) rfl) kr_at_346 (r_X12_means E (xs (i + 1)) M1) h2 rfl rfl (Nat.le_of_ble_eq_true rfl) rfl (by decide) (Nat.le_of_ble_eq_true rfl) ?_
  refine kl_eq (tgt := 2161) dL_law_490 (by decide) ?_
  exact hN M2 h3
theorem kl_case_7 {Sim : kr_M → Prop} (hop : kr_ok Sim) (E : kr_E) (b L : Nat) (xs : Nat → Int32) (i : Nat) (hi : i + 6 ≤ L) (hL : L ≤ 3072) (M : kr_M) (hS : Sim M) (hN : ∀ M2, Sim M2 → kL E b L xs 2161 [(0, .ref b), (1, kr_r E 0), (2, kr_r E 346), (3, .int (nI i))] [] M2) : kL E b L xs 495 [(0, .ref b), (1, kr_r E 0), (2, kr_r E 346), (3, .int (nI i))] [] M := by
  obtain ⟨r, M1, M2, h1, h2, h3⟩ := hop 7 (by decide) (fun j => xs (i + j)) M hS
  refine kl_aload_n dL_law_495 rfl 1 rfl ?_
  refine kl_aload_n dL_law_496 rfl 0 rfl ?_
  refine kl_iload_n dL_law_497 rfl 3 rfl ?_
  refine kl_iconst (v := 1) dL_law_498 (by decide) ?_
  refine kl_iadd dL_law_499 ?_
  refine kl_sld (j := i + 1) (by rw [show (1 : Int32) = nI 1 by decide, nI_add]) (by omega) hL dL_law_500 ?_
  refine kl_aload_n dL_law_501 rfl 0 rfl ?_
  refine kl_iload_n dL_law_502 rfl 3 rfl ?_
  refine kl_iconst (v := 2) dL_law_503 (by decide) ?_
  refine kl_iadd dL_law_504 ?_
  refine kl_sld (j := i + 2) (by rw [show (2 : Int32) = nI 2 by decide, nI_add]) (by omega) hL dL_law_505 ?_
  refine kl_call (As := [.int (xs (i + 1)), .int (xs (i + 2))]) (st := []) (f := f_X11_rope (xs (i + 1)) (xs (i + 2)) M) (r := r) (M1 := M1) zv_X11_rope dL_law_506 (kr_t 699 (by decide +kernel) rfl) kr_at_0 (r_X11_rope E (xs (i + 1)) (xs (i + 2)) M) h1 rfl rfl (Nat.le_of_ble_eq_true rfl) rfl (by decide) (Nat.le_of_ble_eq_true rfl) ?_
  refine kl_aload_n dL_law_509 rfl 2 rfl ?_
  refine kl_aload_n dL_law_510 rfl 0 rfl ?_
  refine kl_iload_n dL_law_511 rfl 3 rfl ?_
  refine kl_iconst (v := 1) dL_law_512 (by decide) ?_
  refine kl_iadd dL_law_513 ?_
  refine kl_sld (j := i + 1) (by rw [show (1 : Int32) = nI 1 by decide, nI_add]) (by omega) hL dL_law_514 ?_
  refine kl_aload_n dL_law_515 rfl 0 rfl ?_
  refine kl_iload_n dL_law_516 rfl 3 rfl ?_
  refine kl_iconst (v := 2) dL_law_517 (by decide) ?_
  refine kl_iadd dL_law_518 ?_
  refine kl_sld (j := i + 2) (by rw [show (2 : Int32) = nI 2 by decide, nI_add]) (by omega) hL dL_law_519 ?_
  refine kl_call (As := [.int (xs (i + 1)), .int (xs (i + 2))]) (st := [.int r]) (f := f_X12_rope (xs (i + 1)) (xs (i + 2)) M1) (r := r) (M1 := M2) zv_X12_rope dL_law_520 (kr_t 1702 (by decide +kernel) rfl) kr_at_346 (r_X12_rope E (xs (i + 1)) (xs (i + 2)) M1) h2 rfl rfl (Nat.le_of_ble_eq_true rfl) rfl (by decide) (Nat.le_of_ble_eq_true rfl) ?_
  refine kl_eq (tgt := 2161) dL_law_523 (by decide) ?_
  exact hN M2 h3
theorem kl_case_8 {Sim : kr_M → Prop} (hop : kr_ok Sim) (E : kr_E) (b L : Nat) (xs : Nat → Int32) (i : Nat) (hi : i + 6 ≤ L) (hL : L ≤ 3072) (M : kr_M) (hS : Sim M) (hN : ∀ M2, Sim M2 → kL E b L xs 2161 [(0, .ref b), (1, kr_r E 0), (2, kr_r E 346), (3, .int (nI i))] [] M2) : kL E b L xs 528 [(0, .ref b), (1, kr_r E 0), (2, kr_r E 346), (3, .int (nI i))] [] M := by
  obtain ⟨r, M1, M2, h1, h2, h3⟩ := hop 8 (by decide) (fun j => xs (i + j)) M hS
  refine kl_aload_n dL_law_528 rfl 1 rfl ?_
  refine kl_aload_n dL_law_529 rfl 0 rfl ?_
  refine kl_iload_n dL_law_530 rfl 3 rfl ?_
  refine kl_iconst (v := 1) dL_law_531 (by decide) ?_
  refine kl_iadd dL_law_532 ?_
  refine kl_sld (j := i + 1) (by rw [show (1 : Int32) = nI 1 by decide, nI_add]) (by omega) hL dL_law_533 ?_
  refine kl_aload_n dL_law_534 rfl 0 rfl ?_
  refine kl_iload_n dL_law_535 rfl 3 rfl ?_
  refine kl_iconst (v := 2) dL_law_536 (by decide) ?_
  refine kl_iadd dL_law_537 ?_
  refine kl_sld (j := i + 2) (by rw [show (2 : Int32) = nI 2 by decide, nI_add]) (by omega) hL dL_law_538 ?_
  refine kl_call (As := [.int (xs (i + 1)), .int (xs (i + 2))]) (st := []) (f := f_X11_at (xs (i + 1)) (xs (i + 2)) M) (r := r) (M1 := M1) zv_X11_at dL_law_539 (kr_t 716 (by decide +kernel) rfl) kr_at_0 (r_X11_at E (xs (i + 1)) (xs (i + 2)) M) h1 rfl rfl (Nat.le_of_ble_eq_true rfl) rfl (by decide) (Nat.le_of_ble_eq_true rfl) ?_
  refine kl_aload_n dL_law_542 rfl 2 rfl ?_
  refine kl_aload_n dL_law_543 rfl 0 rfl ?_
  refine kl_iload_n dL_law_544 rfl 3 rfl ?_
  refine kl_iconst (v := 1) dL_law_545 (by decide) ?_
  refine kl_iadd dL_law_546 ?_
  refine kl_sld (j := i + 1) (by rw [show (1 : Int32) = nI 1 by decide, nI_add]) (by omega) hL dL_law_547 ?_
  refine kl_aload_n dL_law_548 rfl 0 rfl ?_
  refine kl_iload_n dL_law_549 rfl 3 rfl ?_
  refine kl_iconst (v := 2) dL_law_550 (by decide) ?_
  refine kl_iadd dL_law_551 ?_
  refine kl_sld (j := i + 2) (by rw [show (2 : Int32) = nI 2 by decide, nI_add]) (by omega) hL dL_law_552 ?_
  refine kl_call (As := [.int (xs (i + 1)), .int (xs (i + 2))]) (st := [.int r]) (f := f_X12_at (xs (i + 1)) (xs (i + 2)) M1) (r := r) (M1 := M2) zv_X12_at dL_law_553 (kr_t 1731 (by decide +kernel) rfl) kr_at_346 (r_X12_at E (xs (i + 1)) (xs (i + 2)) M1) h2 rfl rfl (Nat.le_of_ble_eq_true rfl) rfl (by decide) (Nat.le_of_ble_eq_true rfl) ?_
  refine kl_eq (tgt := 2161) dL_law_556 (by decide) ?_
  exact hN M2 h3
theorem kl_case_9 {Sim : kr_M → Prop} (hop : kr_ok Sim) (E : kr_E) (b L : Nat) (xs : Nat → Int32) (i : Nat) (hi : i + 6 ≤ L) (hL : L ≤ 3072) (M : kr_M) (hS : Sim M) (hN : ∀ M2, Sim M2 → kL E b L xs 2161 [(0, .ref b), (1, kr_r E 0), (2, kr_r E 346), (3, .int (nI i))] [] M2) : kL E b L xs 561 [(0, .ref b), (1, kr_r E 0), (2, kr_r E 346), (3, .int (nI i))] [] M := by
  obtain ⟨r, M1, M2, h1, h2, h3⟩ := hop 9 (by decide) (fun j => xs (i + j)) M hS
  refine kl_aload_n dL_law_561 rfl 1 rfl ?_
  refine kl_aload_n dL_law_562 rfl 0 rfl ?_
  refine kl_iload_n dL_law_563 rfl 3 rfl ?_
  refine kl_iconst (v := 1) dL_law_564 (by decide) ?_
  refine kl_iadd dL_law_565 ?_
  refine kl_sld (j := i + 1) (by rw [show (1 : Int32) = nI 1 by decide, nI_add]) (by omega) hL dL_law_566 ?_
  refine kl_aload_n dL_law_567 rfl 0 rfl ?_
  refine kl_iload_n dL_law_568 rfl 3 rfl ?_
  refine kl_iconst (v := 2) dL_law_569 (by decide) ?_
  refine kl_iadd dL_law_570 ?_
  refine kl_sld (j := i + 2) (by rw [show (2 : Int32) = nI 2 by decide, nI_add]) (by omega) hL dL_law_571 ?_
  refine kl_call (As := [.int (xs (i + 1)), .int (xs (i + 2))]) (st := []) (f := f_X11_person (xs (i + 1)) (xs (i + 2)) M) (r := r) (M1 := M1) zv_X11_person dL_law_572 (kr_t 720 (by decide +kernel) rfl) kr_at_0 (r_X11_person E (xs (i + 1)) (xs (i + 2)) M) h1 rfl rfl (Nat.le_of_ble_eq_true rfl) rfl (by decide) (Nat.le_of_ble_eq_true rfl) ?_
  refine kl_aload_n dL_law_575 rfl 2 rfl ?_
  refine kl_aload_n dL_law_576 rfl 0 rfl ?_
  refine kl_iload_n dL_law_577 rfl 3 rfl ?_
  refine kl_iconst (v := 1) dL_law_578 (by decide) ?_
  refine kl_iadd dL_law_579 ?_
  refine kl_sld (j := i + 1) (by rw [show (1 : Int32) = nI 1 by decide, nI_add]) (by omega) hL dL_law_580 ?_
  refine kl_aload_n dL_law_581 rfl 0 rfl ?_
  refine kl_iload_n dL_law_582 rfl 3 rfl ?_
  refine kl_iconst (v := 2) dL_law_583 (by decide) ?_
  refine kl_iadd dL_law_584 ?_
  refine kl_sld (j := i + 2) (by rw [show (2 : Int32) = nI 2 by decide, nI_add]) (by omega) hL dL_law_585 ?_
  refine kl_call (As := [.int (xs (i + 1)), .int (xs (i + 2))]) (st := [.int r]) (f := f_X12_person (xs (i + 1)) (xs (i + 2)) M1) (r := r) (M1 := M2) zv_X12_person dL_law_586 (kr_t 1735 (by decide +kernel) rfl) kr_at_346 (r_X12_person E (xs (i + 1)) (xs (i + 2)) M1) h2 rfl rfl (Nat.le_of_ble_eq_true rfl) rfl (by decide) (Nat.le_of_ble_eq_true rfl) ?_
  refine kl_eq (tgt := 2161) dL_law_589 (by decide) ?_
  exact hN M2 h3
theorem kl_case_10 {Sim : kr_M → Prop} (hop : kr_ok Sim) (E : kr_E) (b L : Nat) (xs : Nat → Int32) (i : Nat) (hi : i + 6 ≤ L) (hL : L ≤ 3072) (M : kr_M) (hS : Sim M) (hN : ∀ M2, Sim M2 → kL E b L xs 2161 [(0, .ref b), (1, kr_r E 0), (2, kr_r E 346), (3, .int (nI i))] [] M2) : kL E b L xs 594 [(0, .ref b), (1, kr_r E 0), (2, kr_r E 346), (3, .int (nI i))] [] M := by
  obtain ⟨r, M1, M2, h1, h2, h3⟩ := hop 10 (by decide) (fun j => xs (i + j)) M hS
  refine kl_aload_n dL_law_594 rfl 1 rfl ?_
  refine kl_aload_n dL_law_595 rfl 0 rfl ?_
  refine kl_iload_n dL_law_596 rfl 3 rfl ?_
  refine kl_iconst (v := 1) dL_law_597 (by decide) ?_
  refine kl_iadd dL_law_598 ?_
  refine kl_sld (j := i + 1) (by rw [show (1 : Int32) = nI 1 by decide, nI_add]) (by omega) hL dL_law_599 ?_
  refine kl_aload_n dL_law_600 rfl 0 rfl ?_
  refine kl_iload_n dL_law_601 rfl 3 rfl ?_
  refine kl_iconst (v := 2) dL_law_602 (by decide) ?_
  refine kl_iadd dL_law_603 ?_
  refine kl_sld (j := i + 2) (by rw [show (2 : Int32) = nI 2 by decide, nI_add]) (by omega) hL dL_law_604 ?_
  refine kl_call (As := [.int (xs (i + 1)), .int (xs (i + 2))]) (st := []) (f := f_X11_reads (xs (i + 1)) (xs (i + 2)) M) (r := r) (M1 := M1) zv_X11_reads dL_law_605 (kr_t 728 (by decide +kernel) rfl) kr_at_0 (r_X11_reads E (xs (i + 1)) (xs (i + 2)) M) h1 rfl rfl (Nat.le_of_ble_eq_true rfl) rfl (by decide) (Nat.le_of_ble_eq_true rfl) ?_
  refine kl_aload_n dL_law_608 rfl 2 rfl ?_
  refine kl_aload_n dL_law_609 rfl 0 rfl ?_
  refine kl_iload_n dL_law_610 rfl 3 rfl ?_
  refine kl_iconst (v := 1) dL_law_611 (by decide) ?_
  refine kl_iadd dL_law_612 ?_
  refine kl_sld (j := i + 1) (by rw [show (1 : Int32) = nI 1 by decide, nI_add]) (by omega) hL dL_law_613 ?_
  refine kl_aload_n dL_law_614 rfl 0 rfl ?_
  refine kl_iload_n dL_law_615 rfl 3 rfl ?_
  refine kl_iconst (v := 2) dL_law_616 (by decide) ?_
  refine kl_iadd dL_law_617 ?_
  refine kl_sld (j := i + 2) (by rw [show (2 : Int32) = nI 2 by decide, nI_add]) (by omega) hL dL_law_618 ?_
  refine kl_call (As := [.int (xs (i + 1)), .int (xs (i + 2))]) (st := [.int r]) (f := f_X12_reads (xs (i + 1)) (xs (i + 2)) M1) (r := r) (M1 := M2) zv_X12_reads dL_law_619 (kr_t 1744 (by decide +kernel) rfl) kr_at_346 (r_X12_reads E (xs (i + 1)) (xs (i + 2)) M1) h2 rfl rfl (Nat.le_of_ble_eq_true rfl) rfl (by decide) (Nat.le_of_ble_eq_true rfl) ?_
  refine kl_eq (tgt := 2161) dL_law_622 (by decide) ?_
  exact hN M2 h3
theorem kl_case_11 {Sim : kr_M → Prop} (hop : kr_ok Sim) (E : kr_E) (b L : Nat) (xs : Nat → Int32) (i : Nat) (hi : i + 6 ≤ L) (hL : L ≤ 3072) (M : kr_M) (hS : Sim M) (hN : ∀ M2, Sim M2 → kL E b L xs 2161 [(0, .ref b), (1, kr_r E 0), (2, kr_r E 346), (3, .int (nI i))] [] M2) : kL E b L xs 627 [(0, .ref b), (1, kr_r E 0), (2, kr_r E 346), (3, .int (nI i))] [] M := by
  obtain ⟨r, M1, M2, h1, h2, h3⟩ := hop 11 (by decide) (fun j => xs (i + j)) M hS
  refine kl_aload_n dL_law_627 rfl 1 rfl ?_
  refine kl_aload_n dL_law_628 rfl 0 rfl ?_
  refine kl_iload_n dL_law_629 rfl 3 rfl ?_
  refine kl_iconst (v := 1) dL_law_630 (by decide) ?_
  refine kl_iadd dL_law_631 ?_
  refine kl_sld (j := i + 1) (by rw [show (1 : Int32) = nI 1 by decide, nI_add]) (by omega) hL dL_law_632 ?_
  refine kl_aload_n dL_law_633 rfl 0 rfl ?_
  refine kl_iload_n dL_law_634 rfl 3 rfl ?_
  refine kl_iconst (v := 2) dL_law_635 (by decide) ?_
  refine kl_iadd dL_law_636 ?_
  refine kl_sld (j := i + 2) (by rw [show (2 : Int32) = nI 2 by decide, nI_add]) (by omega) hL dL_law_637 ?_
  refine kl_aload_n dL_law_638 rfl 0 rfl ?_
  refine kl_iload_n dL_law_639 rfl 3 rfl ?_
  refine kl_iconst (v := 3) dL_law_640 (by decide) ?_
  refine kl_iadd dL_law_641 ?_
  refine kl_sld (j := i + 3) (by rw [show (3 : Int32) = nI 3 by decide, nI_add]) (by omega) hL dL_law_642 ?_
  refine kl_call (As := [.int (xs (i + 1)), .int (xs (i + 2)), .int (xs (i + 3))]) (st := []) (f := f_X11_says (xs (i + 1)) (xs (i + 2)) (xs (i + 3)) M) (r := r) (M1 := M1) zv_X11_says dL_law_643 (kr_t 763 (by decide +kernel) rfl) kr_at_0 (r_X11_says E (xs (i + 1)) (xs (i + 2)) (xs (i + 3)) M) h1 rfl rfl (Nat.le_of_ble_eq_true rfl) rfl (by decide) (Nat.le_of_ble_eq_true rfl) ?_
  refine kl_aload_n dL_law_646 rfl 2 rfl ?_
  refine kl_aload_n dL_law_647 rfl 0 rfl ?_
  refine kl_iload_n dL_law_648 rfl 3 rfl ?_
  refine kl_iconst (v := 1) dL_law_649 (by decide) ?_
  refine kl_iadd dL_law_650 ?_
  refine kl_sld (j := i + 1) (by rw [show (1 : Int32) = nI 1 by decide, nI_add]) (by omega) hL dL_law_651 ?_
  refine kl_aload_n dL_law_652 rfl 0 rfl ?_
  refine kl_iload_n dL_law_653 rfl 3 rfl ?_
  refine kl_iconst (v := 2) dL_law_654 (by decide) ?_
  refine kl_iadd dL_law_655 ?_
  refine kl_sld (j := i + 2) (by rw [show (2 : Int32) = nI 2 by decide, nI_add]) (by omega) hL dL_law_656 ?_
  refine kl_aload_n dL_law_657 rfl 0 rfl ?_
  refine kl_iload_n dL_law_658 rfl 3 rfl ?_
  refine kl_iconst (v := 3) dL_law_659 (by decide) ?_
  refine kl_iadd dL_law_660 ?_
  refine kl_sld (j := i + 3) (by rw [show (3 : Int32) = nI 3 by decide, nI_add]) (by omega) hL dL_law_661 ?_
  refine kl_call (As := [.int (xs (i + 1)), .int (xs (i + 2)), .int (xs (i + 3))]) (st := [.int r]) (f := f_X12_says (xs (i + 1)) (xs (i + 2)) (xs (i + 3)) M1) (r := r) (M1 := M2) zv_X12_says dL_law_662 (kr_t 1769 (by decide +kernel) rfl) kr_at_346 (r_X12_says E (xs (i + 1)) (xs (i + 2)) (xs (i + 3)) M1) h2 rfl rfl (Nat.le_of_ble_eq_true rfl) rfl (by decide) (Nat.le_of_ble_eq_true rfl) ?_
  refine kl_eq (tgt := 2161) dL_law_665 (by decide) ?_
  exact hN M2 h3
theorem kl_case_12 {Sim : kr_M → Prop} (hop : kr_ok Sim) (E : kr_E) (b L : Nat) (xs : Nat → Int32) (i : Nat) (hi : i + 6 ≤ L) (hL : L ≤ 3072) (M : kr_M) (hS : Sim M) (hN : ∀ M2, Sim M2 → kL E b L xs 2161 [(0, .ref b), (1, kr_r E 0), (2, kr_r E 346), (3, .int (nI i))] [] M2) : kL E b L xs 670 [(0, .ref b), (1, kr_r E 0), (2, kr_r E 346), (3, .int (nI i))] [] M := by
  obtain ⟨r, M1, M2, h1, h2, h3⟩ := hop 12 (by decide) (fun j => xs (i + j)) M hS
  refine kl_aload_n dL_law_670 rfl 1 rfl ?_
  refine kl_aload_n dL_law_671 rfl 0 rfl ?_
  refine kl_iload_n dL_law_672 rfl 3 rfl ?_
  refine kl_iconst (v := 1) dL_law_673 (by decide) ?_
  refine kl_iadd dL_law_674 ?_
  refine kl_sld (j := i + 1) (by rw [show (1 : Int32) = nI 1 by decide, nI_add]) (by omega) hL dL_law_675 ?_
  refine kl_aload_n dL_law_676 rfl 0 rfl ?_
  refine kl_iload_n dL_law_677 rfl 3 rfl ?_
  refine kl_iconst (v := 2) dL_law_678 (by decide) ?_
  refine kl_iadd dL_law_679 ?_
  refine kl_sld (j := i + 2) (by rw [show (2 : Int32) = nI 2 by decide, nI_add]) (by omega) hL dL_law_680 ?_
  refine kl_aload_n dL_law_681 rfl 0 rfl ?_
  refine kl_iload_n dL_law_682 rfl 3 rfl ?_
  refine kl_iconst (v := 3) dL_law_683 (by decide) ?_
  refine kl_iadd dL_law_684 ?_
  refine kl_sld (j := i + 3) (by rw [show (3 : Int32) = nI 3 by decide, nI_add]) (by omega) hL dL_law_685 ?_
  refine kl_call (As := [.int (xs (i + 1)), .int (xs (i + 2)), .int (xs (i + 3))]) (st := []) (f := f_X11_sum (xs (i + 1)) (xs (i + 2)) (xs (i + 3)) M) (r := r) (M1 := M1) zv_X11_sum dL_law_686 (kr_t 775 (by decide +kernel) rfl) kr_at_0 (r_X11_sum E (xs (i + 1)) (xs (i + 2)) (xs (i + 3)) M) h1 rfl rfl (Nat.le_of_ble_eq_true rfl) rfl (by decide) (Nat.le_of_ble_eq_true rfl) ?_
  refine kl_aload_n dL_law_689 rfl 2 rfl ?_
  refine kl_aload_n dL_law_690 rfl 0 rfl ?_
  refine kl_iload_n dL_law_691 rfl 3 rfl ?_
  refine kl_iconst (v := 1) dL_law_692 (by decide) ?_
  refine kl_iadd dL_law_693 ?_
  refine kl_sld (j := i + 1) (by rw [show (1 : Int32) = nI 1 by decide, nI_add]) (by omega) hL dL_law_694 ?_
  refine kl_aload_n dL_law_695 rfl 0 rfl ?_
  refine kl_iload_n dL_law_696 rfl 3 rfl ?_
  refine kl_iconst (v := 2) dL_law_697 (by decide) ?_
  refine kl_iadd dL_law_698 ?_
  refine kl_sld (j := i + 2) (by rw [show (2 : Int32) = nI 2 by decide, nI_add]) (by omega) hL dL_law_699 ?_
  refine kl_aload_n dL_law_700 rfl 0 rfl ?_
  refine kl_iload_n dL_law_701 rfl 3 rfl ?_
  refine kl_iconst (v := 3) dL_law_702 (by decide) ?_
  refine kl_iadd dL_law_703 ?_
  refine kl_sld (j := i + 3) (by rw [show (3 : Int32) = nI 3 by decide, nI_add]) (by omega) hL dL_law_704 ?_
  refine kl_call (As := [.int (xs (i + 1)), .int (xs (i + 2)), .int (xs (i + 3))]) (st := [.int r]) (f := f_X12_sum (xs (i + 1)) (xs (i + 2)) (xs (i + 3)) M1) (r := r) (M1 := M2) zv_X12_sum dL_law_705 (kr_t 1773 (by decide +kernel) rfl) kr_at_346 (r_X12_sum E (xs (i + 1)) (xs (i + 2)) (xs (i + 3)) M1) h2 rfl rfl (Nat.le_of_ble_eq_true rfl) rfl (by decide) (Nat.le_of_ble_eq_true rfl) ?_
  refine kl_eq (tgt := 2161) dL_law_708 (by decide) ?_
  exact hN M2 h3
theorem kl_case_13 {Sim : kr_M → Prop} (hop : kr_ok Sim) (E : kr_E) (b L : Nat) (xs : Nat → Int32) (i : Nat) (hi : i + 6 ≤ L) (hL : L ≤ 3072) (M : kr_M) (hS : Sim M) (hN : ∀ M2, Sim M2 → kL E b L xs 2161 [(0, .ref b), (1, kr_r E 0), (2, kr_r E 346), (3, .int (nI i))] [] M2) : kL E b L xs 713 [(0, .ref b), (1, kr_r E 0), (2, kr_r E 346), (3, .int (nI i))] [] M := by
  obtain ⟨r, M1, M2, h1, h2, h3⟩ := hop 13 (by decide) (fun j => xs (i + j)) M hS
  refine kl_aload_n dL_law_713 rfl 1 rfl ?_
  refine kl_aload_n dL_law_714 rfl 0 rfl ?_
  refine kl_iload_n dL_law_715 rfl 3 rfl ?_
  refine kl_iconst (v := 1) dL_law_716 (by decide) ?_
  refine kl_iadd dL_law_717 ?_
  refine kl_sld (j := i + 1) (by rw [show (1 : Int32) = nI 1 by decide, nI_add]) (by omega) hL dL_law_718 ?_
  refine kl_aload_n dL_law_719 rfl 0 rfl ?_
  refine kl_iload_n dL_law_720 rfl 3 rfl ?_
  refine kl_iconst (v := 2) dL_law_721 (by decide) ?_
  refine kl_iadd dL_law_722 ?_
  refine kl_sld (j := i + 2) (by rw [show (2 : Int32) = nI 2 by decide, nI_add]) (by omega) hL dL_law_723 ?_
  refine kl_aload_n dL_law_724 rfl 0 rfl ?_
  refine kl_iload_n dL_law_725 rfl 3 rfl ?_
  refine kl_iconst (v := 3) dL_law_726 (by decide) ?_
  refine kl_iadd dL_law_727 ?_
  refine kl_sld (j := i + 3) (by rw [show (3 : Int32) = nI 3 by decide, nI_add]) (by omega) hL dL_law_728 ?_
  refine kl_call (As := [.int (xs (i + 1)), .int (xs (i + 2)), .int (xs (i + 3))]) (st := []) (f := f_X11_has (xs (i + 1)) (xs (i + 2)) (xs (i + 3)) M) (r := r) (M1 := M1) zv_X11_has dL_law_729 (kr_t 779 (by decide +kernel) rfl) kr_at_0 (r_X11_has E (xs (i + 1)) (xs (i + 2)) (xs (i + 3)) M) h1 rfl rfl (Nat.le_of_ble_eq_true rfl) rfl (by decide) (Nat.le_of_ble_eq_true rfl) ?_
  refine kl_aload_n dL_law_732 rfl 2 rfl ?_
  refine kl_aload_n dL_law_733 rfl 0 rfl ?_
  refine kl_iload_n dL_law_734 rfl 3 rfl ?_
  refine kl_iconst (v := 1) dL_law_735 (by decide) ?_
  refine kl_iadd dL_law_736 ?_
  refine kl_sld (j := i + 1) (by rw [show (1 : Int32) = nI 1 by decide, nI_add]) (by omega) hL dL_law_737 ?_
  refine kl_aload_n dL_law_738 rfl 0 rfl ?_
  refine kl_iload_n dL_law_739 rfl 3 rfl ?_
  refine kl_iconst (v := 2) dL_law_740 (by decide) ?_
  refine kl_iadd dL_law_741 ?_
  refine kl_sld (j := i + 2) (by rw [show (2 : Int32) = nI 2 by decide, nI_add]) (by omega) hL dL_law_742 ?_
  refine kl_aload_n dL_law_743 rfl 0 rfl ?_
  refine kl_iload_n dL_law_744 rfl 3 rfl ?_
  refine kl_iconst (v := 3) dL_law_745 (by decide) ?_
  refine kl_iadd dL_law_746 ?_
  refine kl_sld (j := i + 3) (by rw [show (3 : Int32) = nI 3 by decide, nI_add]) (by omega) hL dL_law_747 ?_
  refine kl_call (As := [.int (xs (i + 1)), .int (xs (i + 2)), .int (xs (i + 3))]) (st := [.int r]) (f := f_X12_has (xs (i + 1)) (xs (i + 2)) (xs (i + 3)) M1) (r := r) (M1 := M2) zv_X12_has dL_law_748 (kr_t 1777 (by decide +kernel) rfl) kr_at_346 (r_X12_has E (xs (i + 1)) (xs (i + 2)) (xs (i + 3)) M1) h2 rfl rfl (Nat.le_of_ble_eq_true rfl) rfl (by decide) (Nat.le_of_ble_eq_true rfl) ?_
  refine kl_eq (tgt := 2161) dL_law_751 (by decide) ?_
  exact hN M2 h3
theorem kl_case_14 {Sim : kr_M → Prop} (hop : kr_ok Sim) (E : kr_E) (b L : Nat) (xs : Nat → Int32) (i : Nat) (hi : i + 6 ≤ L) (hL : L ≤ 3072) (M : kr_M) (hS : Sim M) (hN : ∀ M2, Sim M2 → kL E b L xs 2161 [(0, .ref b), (1, kr_r E 0), (2, kr_r E 346), (3, .int (nI i))] [] M2) : kL E b L xs 756 [(0, .ref b), (1, kr_r E 0), (2, kr_r E 346), (3, .int (nI i))] [] M := by
  obtain ⟨r, M1, M2, h1, h2, h3⟩ := hop 14 (by decide) (fun j => xs (i + j)) M hS
  refine kl_aload_n dL_law_756 rfl 1 rfl ?_
  refine kl_aload_n dL_law_757 rfl 0 rfl ?_
  refine kl_iload_n dL_law_758 rfl 3 rfl ?_
  refine kl_iconst (v := 1) dL_law_759 (by decide) ?_
  refine kl_iadd dL_law_760 ?_
  refine kl_sld (j := i + 1) (by rw [show (1 : Int32) = nI 1 by decide, nI_add]) (by omega) hL dL_law_761 ?_
  refine kl_aload_n dL_law_762 rfl 0 rfl ?_
  refine kl_iload_n dL_law_763 rfl 3 rfl ?_
  refine kl_iconst (v := 2) dL_law_764 (by decide) ?_
  refine kl_iadd dL_law_765 ?_
  refine kl_sld (j := i + 2) (by rw [show (2 : Int32) = nI 2 by decide, nI_add]) (by omega) hL dL_law_766 ?_
  refine kl_call (As := [.int (xs (i + 1)), .int (xs (i + 2))]) (st := []) (f := f_X11_shortest (xs (i + 1)) (xs (i + 2)) M) (r := r) (M1 := M1) zv_X11_shortest dL_law_767 (kr_t 794 (by decide +kernel) rfl) kr_at_0 (r_X11_shortest E (xs (i + 1)) (xs (i + 2)) M) h1 rfl rfl (Nat.le_of_ble_eq_true rfl) rfl (by decide) (Nat.le_of_ble_eq_true rfl) ?_
  refine kl_aload_n dL_law_770 rfl 2 rfl ?_
  refine kl_aload_n dL_law_771 rfl 0 rfl ?_
  refine kl_iload_n dL_law_772 rfl 3 rfl ?_
  refine kl_iconst (v := 1) dL_law_773 (by decide) ?_
  refine kl_iadd dL_law_774 ?_
  refine kl_sld (j := i + 1) (by rw [show (1 : Int32) = nI 1 by decide, nI_add]) (by omega) hL dL_law_775 ?_
  refine kl_aload_n dL_law_776 rfl 0 rfl ?_
  refine kl_iload_n dL_law_777 rfl 3 rfl ?_
  refine kl_iconst (v := 2) dL_law_778 (by decide) ?_
  refine kl_iadd dL_law_779 ?_
  refine kl_sld (j := i + 2) (by rw [show (2 : Int32) = nI 2 by decide, nI_add]) (by omega) hL dL_law_780 ?_
  refine kl_call (As := [.int (xs (i + 1)), .int (xs (i + 2))]) (st := [.int r]) (f := f_X12_shortest (xs (i + 1)) (xs (i + 2)) M1) (r := r) (M1 := M2) zv_X12_shortest dL_law_781 (kr_t 1790 (by decide +kernel) rfl) kr_at_346 (r_X12_shortest E (xs (i + 1)) (xs (i + 2)) M1) h2 rfl rfl (Nat.le_of_ble_eq_true rfl) rfl (by decide) (Nat.le_of_ble_eq_true rfl) ?_
  refine kl_eq (tgt := 2161) dL_law_784 (by decide) ?_
  exact hN M2 h3
theorem kl_case_15 {Sim : kr_M → Prop} (hop : kr_ok Sim) (E : kr_E) (b L : Nat) (xs : Nat → Int32) (i : Nat) (hi : i + 6 ≤ L) (hL : L ≤ 3072) (M : kr_M) (hS : Sim M) (hN : ∀ M2, Sim M2 → kL E b L xs 2161 [(0, .ref b), (1, kr_r E 0), (2, kr_r E 346), (3, .int (nI i))] [] M2) : kL E b L xs 789 [(0, .ref b), (1, kr_r E 0), (2, kr_r E 346), (3, .int (nI i))] [] M := by
  obtain ⟨r, M1, M2, h1, h2, h3⟩ := hop 15 (by decide) (fun j => xs (i + j)) M hS
  refine kl_aload_n dL_law_789 rfl 1 rfl ?_
  refine kl_aload_n dL_law_790 rfl 0 rfl ?_
  refine kl_iload_n dL_law_791 rfl 3 rfl ?_
  refine kl_iconst (v := 1) dL_law_792 (by decide) ?_
  refine kl_iadd dL_law_793 ?_
  refine kl_sld (j := i + 1) (by rw [show (1 : Int32) = nI 1 by decide, nI_add]) (by omega) hL dL_law_794 ?_
  refine kl_aload_n dL_law_795 rfl 0 rfl ?_
  refine kl_iload_n dL_law_796 rfl 3 rfl ?_
  refine kl_iconst (v := 2) dL_law_797 (by decide) ?_
  refine kl_iadd dL_law_798 ?_
  refine kl_sld (j := i + 2) (by rw [show (2 : Int32) = nI 2 by decide, nI_add]) (by omega) hL dL_law_799 ?_
  refine kl_aload_n dL_law_800 rfl 0 rfl ?_
  refine kl_iload_n dL_law_801 rfl 3 rfl ?_
  refine kl_iconst (v := 3) dL_law_802 (by decide) ?_
  refine kl_iadd dL_law_803 ?_
  refine kl_sld (j := i + 3) (by rw [show (3 : Int32) = nI 3 by decide, nI_add]) (by omega) hL dL_law_804 ?_
  refine kl_call (As := [.int (xs (i + 1)), .int (xs (i + 2)), .int (xs (i + 3))]) (st := []) (f := f_X11_writes (xs (i + 1)) (xs (i + 2)) (xs (i + 3)) M) (r := r) (M1 := M1) zv_X11_writes dL_law_805 (kr_t 823 (by decide +kernel) rfl) kr_at_0 (r_X11_writes E (xs (i + 1)) (xs (i + 2)) (xs (i + 3)) M) h1 rfl rfl (Nat.le_of_ble_eq_true rfl) rfl (by decide) (Nat.le_of_ble_eq_true rfl) ?_
  refine kl_aload_n dL_law_808 rfl 2 rfl ?_
  refine kl_aload_n dL_law_809 rfl 0 rfl ?_
  refine kl_iload_n dL_law_810 rfl 3 rfl ?_
  refine kl_iconst (v := 1) dL_law_811 (by decide) ?_
  refine kl_iadd dL_law_812 ?_
  refine kl_sld (j := i + 1) (by rw [show (1 : Int32) = nI 1 by decide, nI_add]) (by omega) hL dL_law_813 ?_
  refine kl_aload_n dL_law_814 rfl 0 rfl ?_
  refine kl_iload_n dL_law_815 rfl 3 rfl ?_
  refine kl_iconst (v := 2) dL_law_816 (by decide) ?_
  refine kl_iadd dL_law_817 ?_
  refine kl_sld (j := i + 2) (by rw [show (2 : Int32) = nI 2 by decide, nI_add]) (by omega) hL dL_law_818 ?_
  refine kl_aload_n dL_law_819 rfl 0 rfl ?_
  refine kl_iload_n dL_law_820 rfl 3 rfl ?_
  refine kl_iconst (v := 3) dL_law_821 (by decide) ?_
  refine kl_iadd dL_law_822 ?_
  refine kl_sld (j := i + 3) (by rw [show (3 : Int32) = nI 3 by decide, nI_add]) (by omega) hL dL_law_823 ?_
  refine kl_call (As := [.int (xs (i + 1)), .int (xs (i + 2)), .int (xs (i + 3))]) (st := [.int r]) (f := f_X12_writes (xs (i + 1)) (xs (i + 2)) (xs (i + 3)) M1) (r := r) (M1 := M2) zv_X12_writes dL_law_824 (kr_t 1812 (by decide +kernel) rfl) kr_at_346 (r_X12_writes E (xs (i + 1)) (xs (i + 2)) (xs (i + 3)) M1) h2 rfl rfl (Nat.le_of_ble_eq_true rfl) rfl (by decide) (Nat.le_of_ble_eq_true rfl) ?_
  refine kl_eq (tgt := 2161) dL_law_827 (by decide) ?_
  exact hN M2 h3
theorem kl_case_16 {Sim : kr_M → Prop} (hop : kr_ok Sim) (E : kr_E) (b L : Nat) (xs : Nat → Int32) (i : Nat) (hi : i + 6 ≤ L) (hL : L ≤ 3072) (M : kr_M) (hS : Sim M) (hN : ∀ M2, Sim M2 → kL E b L xs 2161 [(0, .ref b), (1, kr_r E 0), (2, kr_r E 346), (3, .int (nI i))] [] M2) : kL E b L xs 832 [(0, .ref b), (1, kr_r E 0), (2, kr_r E 346), (3, .int (nI i))] [] M := by
  obtain ⟨r, M1, M2, h1, h2, h3⟩ := hop 16 (by decide) (fun j => xs (i + j)) M hS
  refine kl_aload_n dL_law_832 rfl 1 rfl ?_
  refine kl_aload_n dL_law_833 rfl 0 rfl ?_
  refine kl_iload_n dL_law_834 rfl 3 rfl ?_
  refine kl_iconst (v := 1) dL_law_835 (by decide) ?_
  refine kl_iadd dL_law_836 ?_
  refine kl_sld (j := i + 1) (by rw [show (1 : Int32) = nI 1 by decide, nI_add]) (by omega) hL dL_law_837 ?_
  refine kl_call (As := [.int (xs (i + 1))]) (st := []) (f := f_X11_slips (xs (i + 1)) M) (r := r) (M1 := M1) zv_X11_slips dL_law_838 (kr_t 835 (by decide +kernel) rfl) kr_at_0 (r_X11_slips E (xs (i + 1)) M) h1 rfl rfl (Nat.le_of_ble_eq_true rfl) rfl (by decide) (Nat.le_of_ble_eq_true rfl) ?_
  refine kl_aload_n dL_law_841 rfl 2 rfl ?_
  refine kl_aload_n dL_law_842 rfl 0 rfl ?_
  refine kl_iload_n dL_law_843 rfl 3 rfl ?_
  refine kl_iconst (v := 1) dL_law_844 (by decide) ?_
  refine kl_iadd dL_law_845 ?_
  refine kl_sld (j := i + 1) (by rw [show (1 : Int32) = nI 1 by decide, nI_add]) (by omega) hL dL_law_846 ?_
  refine kl_call (As := [.int (xs (i + 1))]) (st := [.int r]) (f := f_X12_slips (xs (i + 1)) M1) (r := r) (M1 := M2) zv_X12_slips dL_law_847 (kr_t 1816 (by decide +kernel) rfl) kr_at_346 (r_X12_slips E (xs (i + 1)) M1) h2 rfl rfl (Nat.le_of_ble_eq_true rfl) rfl (by decide) (Nat.le_of_ble_eq_true rfl) ?_
  refine kl_eq (tgt := 2161) dL_law_850 (by decide) ?_
  exact hN M2 h3
theorem kl_case_17 {Sim : kr_M → Prop} (hop : kr_ok Sim) (E : kr_E) (b L : Nat) (xs : Nat → Int32) (i : Nat) (hi : i + 6 ≤ L) (hL : L ≤ 3072) (M : kr_M) (hS : Sim M) (hN : ∀ M2, Sim M2 → kL E b L xs 2161 [(0, .ref b), (1, kr_r E 0), (2, kr_r E 346), (3, .int (nI i))] [] M2) : kL E b L xs 855 [(0, .ref b), (1, kr_r E 0), (2, kr_r E 346), (3, .int (nI i))] [] M := by
  obtain ⟨r, M1, M2, h1, h2, h3⟩ := hop 17 (by decide) (fun j => xs (i + j)) M hS
  refine kl_aload_n dL_law_855 rfl 1 rfl ?_
  refine kl_aload_n dL_law_856 rfl 0 rfl ?_
  refine kl_iload_n dL_law_857 rfl 3 rfl ?_
  refine kl_iconst (v := 1) dL_law_858 (by decide) ?_
  refine kl_iadd dL_law_859 ?_
  refine kl_sld (j := i + 1) (by rw [show (1 : Int32) = nI 1 by decide, nI_add]) (by omega) hL dL_law_860 ?_
  refine kl_call (As := [.int (xs (i + 1))]) (st := []) (f := f_X11_spots (xs (i + 1)) M) (r := r) (M1 := M1) zv_X11_spots dL_law_861 (kr_t 870 (by decide +kernel) rfl) kr_at_0 (r_X11_spots E (xs (i + 1)) M) h1 rfl rfl (Nat.le_of_ble_eq_true rfl) rfl (by decide) (Nat.le_of_ble_eq_true rfl) ?_
  refine kl_aload_n dL_law_864 rfl 2 rfl ?_
  refine kl_aload_n dL_law_865 rfl 0 rfl ?_
  refine kl_iload_n dL_law_866 rfl 3 rfl ?_
  refine kl_iconst (v := 1) dL_law_867 (by decide) ?_
  refine kl_iadd dL_law_868 ?_
  refine kl_sld (j := i + 1) (by rw [show (1 : Int32) = nI 1 by decide, nI_add]) (by omega) hL dL_law_869 ?_
  refine kl_call (As := [.int (xs (i + 1))]) (st := [.int r]) (f := f_X12_spots (xs (i + 1)) M1) (r := r) (M1 := M2) zv_X12_spots dL_law_870 (kr_t 1832 (by decide +kernel) rfl) kr_at_346 (r_X12_spots E (xs (i + 1)) M1) h2 rfl rfl (Nat.le_of_ble_eq_true rfl) rfl (by decide) (Nat.le_of_ble_eq_true rfl) ?_
  refine kl_eq (tgt := 2161) dL_law_873 (by decide) ?_
  exact hN M2 h3
theorem kl_case_18 {Sim : kr_M → Prop} (hop : kr_ok Sim) (E : kr_E) (b L : Nat) (xs : Nat → Int32) (i : Nat) (hi : i + 6 ≤ L) (hL : L ≤ 3072) (M : kr_M) (hS : Sim M) (hN : ∀ M2, Sim M2 → kL E b L xs 2161 [(0, .ref b), (1, kr_r E 0), (2, kr_r E 346), (3, .int (nI i))] [] M2) : kL E b L xs 878 [(0, .ref b), (1, kr_r E 0), (2, kr_r E 346), (3, .int (nI i))] [] M := by
  obtain ⟨r, M1, M2, h1, h2, h3⟩ := hop 18 (by decide) (fun j => xs (i + j)) M hS
  refine kl_aload_n dL_law_878 rfl 1 rfl ?_
  refine kl_aload_n dL_law_879 rfl 0 rfl ?_
  refine kl_iload_n dL_law_880 rfl 3 rfl ?_
  refine kl_iconst (v := 1) dL_law_881 (by decide) ?_
  refine kl_iadd dL_law_882 ?_
  refine kl_sld (j := i + 1) (by rw [show (1 : Int32) = nI 1 by decide, nI_add]) (by omega) hL dL_law_883 ?_
  refine kl_call (As := [.int (xs (i + 1))]) (st := []) (f := f_X11_feel (xs (i + 1)) M) (r := r) (M1 := M1) zv_X11_feel dL_law_884 (kr_t 875 (by decide +kernel) rfl) kr_at_0 (r_X11_feel E (xs (i + 1)) M) h1 rfl rfl (Nat.le_of_ble_eq_true rfl) rfl (by decide) (Nat.le_of_ble_eq_true rfl) ?_
  refine kl_aload_n dL_law_887 rfl 2 rfl ?_
  refine kl_aload_n dL_law_888 rfl 0 rfl ?_
  refine kl_iload_n dL_law_889 rfl 3 rfl ?_
  refine kl_iconst (v := 1) dL_law_890 (by decide) ?_
  refine kl_iadd dL_law_891 ?_
  refine kl_sld (j := i + 1) (by rw [show (1 : Int32) = nI 1 by decide, nI_add]) (by omega) hL dL_law_892 ?_
  refine kl_call (As := [.int (xs (i + 1))]) (st := [.int r]) (f := f_X12_feel (xs (i + 1)) M1) (r := r) (M1 := M2) zv_X12_feel dL_law_893 (kr_t 1836 (by decide +kernel) rfl) kr_at_346 (r_X12_feel E (xs (i + 1)) M1) h2 rfl rfl (Nat.le_of_ble_eq_true rfl) rfl (by decide) (Nat.le_of_ble_eq_true rfl) ?_
  refine kl_eq (tgt := 2161) dL_law_896 (by decide) ?_
  exact hN M2 h3
theorem kl_case_19 {Sim : kr_M → Prop} (hop : kr_ok Sim) (E : kr_E) (b L : Nat) (xs : Nat → Int32) (i : Nat) (hi : i + 6 ≤ L) (hL : L ≤ 3072) (M : kr_M) (hS : Sim M) (hN : ∀ M2, Sim M2 → kL E b L xs 2161 [(0, .ref b), (1, kr_r E 0), (2, kr_r E 346), (3, .int (nI i))] [] M2) : kL E b L xs 901 [(0, .ref b), (1, kr_r E 0), (2, kr_r E 346), (3, .int (nI i))] [] M := by
  obtain ⟨r, M1, M2, h1, h2, h3⟩ := hop 19 (by decide) (fun j => xs (i + j)) M hS
  refine kl_aload_n dL_law_901 rfl 1 rfl ?_
  refine kl_aload_n dL_law_902 rfl 0 rfl ?_
  refine kl_iload_n dL_law_903 rfl 3 rfl ?_
  refine kl_iconst (v := 1) dL_law_904 (by decide) ?_
  refine kl_iadd dL_law_905 ?_
  refine kl_sld (j := i + 1) (by rw [show (1 : Int32) = nI 1 by decide, nI_add]) (by omega) hL dL_law_906 ?_
  refine kl_call (As := [.int (xs (i + 1))]) (st := []) (f := f_X11_leaves (xs (i + 1)) M) (r := r) (M1 := M1) zv_X11_leaves dL_law_907 (kr_t 885 (by decide +kernel) rfl) kr_at_0 (r_X11_leaves E (xs (i + 1)) M) h1 rfl rfl (Nat.le_of_ble_eq_true rfl) rfl (by decide) (Nat.le_of_ble_eq_true rfl) ?_
  refine kl_aload_n dL_law_910 rfl 2 rfl ?_
  refine kl_aload_n dL_law_911 rfl 0 rfl ?_
  refine kl_iload_n dL_law_912 rfl 3 rfl ?_
  refine kl_iconst (v := 1) dL_law_913 (by decide) ?_
  refine kl_iadd dL_law_914 ?_
  refine kl_sld (j := i + 1) (by rw [show (1 : Int32) = nI 1 by decide, nI_add]) (by omega) hL dL_law_915 ?_
  refine kl_call (As := [.int (xs (i + 1))]) (st := [.int r]) (f := f_X12_leaves (xs (i + 1)) M1) (r := r) (M1 := M2) zv_X12_leaves dL_law_916 (kr_t 1844 (by decide +kernel) rfl) kr_at_346 (r_X12_leaves E (xs (i + 1)) M1) h2 rfl rfl (Nat.le_of_ble_eq_true rfl) rfl (by decide) (Nat.le_of_ble_eq_true rfl) ?_
  refine kl_eq (tgt := 2161) dL_law_919 (by decide) ?_
  exact hN M2 h3
theorem kl_case_20 {Sim : kr_M → Prop} (hop : kr_ok Sim) (E : kr_E) (b L : Nat) (xs : Nat → Int32) (i : Nat) (hi : i + 6 ≤ L) (hL : L ≤ 3072) (M : kr_M) (hS : Sim M) (hN : ∀ M2, Sim M2 → kL E b L xs 2161 [(0, .ref b), (1, kr_r E 0), (2, kr_r E 346), (3, .int (nI i))] [] M2) : kL E b L xs 924 [(0, .ref b), (1, kr_r E 0), (2, kr_r E 346), (3, .int (nI i))] [] M := by
  obtain ⟨r, M1, M2, h1, h2, h3⟩ := hop 20 (by decide) (fun j => xs (i + j)) M hS
  refine kl_aload_n dL_law_924 rfl 1 rfl ?_
  refine kl_aload_n dL_law_925 rfl 0 rfl ?_
  refine kl_iload_n dL_law_926 rfl 3 rfl ?_
  refine kl_iconst (v := 1) dL_law_927 (by decide) ?_
  refine kl_iadd dL_law_928 ?_
  refine kl_sld (j := i + 1) (by rw [show (1 : Int32) = nI 1 by decide, nI_add]) (by omega) hL dL_law_929 ?_
  refine kl_call (As := [.int (xs (i + 1))]) (st := []) (f := f_X11_forged (xs (i + 1)) M) (r := r) (M1 := M1) zv_X11_forged dL_law_930 (kr_t 889 (by decide +kernel) rfl) kr_at_0 (r_X11_forged E (xs (i + 1)) M) h1 rfl rfl (Nat.le_of_ble_eq_true rfl) rfl (by decide) (Nat.le_of_ble_eq_true rfl) ?_
  refine kl_aload_n dL_law_933 rfl 2 rfl ?_
  refine kl_aload_n dL_law_934 rfl 0 rfl ?_
  refine kl_iload_n dL_law_935 rfl 3 rfl ?_
  refine kl_iconst (v := 1) dL_law_936 (by decide) ?_
  refine kl_iadd dL_law_937 ?_
  refine kl_sld (j := i + 1) (by rw [show (1 : Int32) = nI 1 by decide, nI_add]) (by omega) hL dL_law_938 ?_
  refine kl_call (As := [.int (xs (i + 1))]) (st := [.int r]) (f := f_X12_forged (xs (i + 1)) M1) (r := r) (M1 := M2) zv_X12_forged dL_law_939 (kr_t 1848 (by decide +kernel) rfl) kr_at_346 (r_X12_forged E (xs (i + 1)) M1) h2 rfl rfl (Nat.le_of_ble_eq_true rfl) rfl (by decide) (Nat.le_of_ble_eq_true rfl) ?_
  refine kl_eq (tgt := 2161) dL_law_942 (by decide) ?_
  exact hN M2 h3
theorem kl_case_21 {Sim : kr_M → Prop} (hop : kr_ok Sim) (E : kr_E) (b L : Nat) (xs : Nat → Int32) (i : Nat) (hi : i + 6 ≤ L) (hL : L ≤ 3072) (M : kr_M) (hS : Sim M) (hN : ∀ M2, Sim M2 → kL E b L xs 2161 [(0, .ref b), (1, kr_r E 0), (2, kr_r E 346), (3, .int (nI i))] [] M2) : kL E b L xs 947 [(0, .ref b), (1, kr_r E 0), (2, kr_r E 346), (3, .int (nI i))] [] M := by
  obtain ⟨r, M1, M2, h1, h2, h3⟩ := hop 21 (by decide) (fun j => xs (i + j)) M hS
  refine kl_aload_n dL_law_947 rfl 1 rfl ?_
  refine kl_aload_n dL_law_948 rfl 0 rfl ?_
  refine kl_iload_n dL_law_949 rfl 3 rfl ?_
  refine kl_iconst (v := 1) dL_law_950 (by decide) ?_
  refine kl_iadd dL_law_951 ?_
  refine kl_sld (j := i + 1) (by rw [show (1 : Int32) = nI 1 by decide, nI_add]) (by omega) hL dL_law_952 ?_
  refine kl_aload_n dL_law_953 rfl 0 rfl ?_
  refine kl_iload_n dL_law_954 rfl 3 rfl ?_
  refine kl_iconst (v := 2) dL_law_955 (by decide) ?_
  refine kl_iadd dL_law_956 ?_
  refine kl_sld (j := i + 2) (by rw [show (2 : Int32) = nI 2 by decide, nI_add]) (by omega) hL dL_law_957 ?_
  refine kl_call (As := [.int (xs (i + 1)), .int (xs (i + 2))]) (st := []) (f := f_X11_forge (xs (i + 1)) (xs (i + 2)) M) (r := r) (M1 := M1) zv_X11_forge dL_law_958 (kr_t 900 (by decide +kernel) rfl) kr_at_0 (r_X11_forge E (xs (i + 1)) (xs (i + 2)) M) h1 rfl rfl (Nat.le_of_ble_eq_true rfl) rfl (by decide) (Nat.le_of_ble_eq_true rfl) ?_
  refine kl_aload_n dL_law_961 rfl 2 rfl ?_
  refine kl_aload_n dL_law_962 rfl 0 rfl ?_
  refine kl_iload_n dL_law_963 rfl 3 rfl ?_
  refine kl_iconst (v := 1) dL_law_964 (by decide) ?_
  refine kl_iadd dL_law_965 ?_
  refine kl_sld (j := i + 1) (by rw [show (1 : Int32) = nI 1 by decide, nI_add]) (by omega) hL dL_law_966 ?_
  refine kl_aload_n dL_law_967 rfl 0 rfl ?_
  refine kl_iload_n dL_law_968 rfl 3 rfl ?_
  refine kl_iconst (v := 2) dL_law_969 (by decide) ?_
  refine kl_iadd dL_law_970 ?_
  refine kl_sld (j := i + 2) (by rw [show (2 : Int32) = nI 2 by decide, nI_add]) (by omega) hL dL_law_971 ?_
  refine kl_call (As := [.int (xs (i + 1)), .int (xs (i + 2))]) (st := [.int r]) (f := f_X12_forge (xs (i + 1)) (xs (i + 2)) M1) (r := r) (M1 := M2) zv_X12_forge dL_law_972 (kr_t 1856 (by decide +kernel) rfl) kr_at_346 (r_X12_forge E (xs (i + 1)) (xs (i + 2)) M1) h2 rfl rfl (Nat.le_of_ble_eq_true rfl) rfl (by decide) (Nat.le_of_ble_eq_true rfl) ?_
  refine kl_eq (tgt := 2161) dL_law_975 (by decide) ?_
  exact hN M2 h3
theorem kl_case_22 {Sim : kr_M → Prop} (hop : kr_ok Sim) (E : kr_E) (b L : Nat) (xs : Nat → Int32) (i : Nat) (hi : i + 6 ≤ L) (hL : L ≤ 3072) (M : kr_M) (hS : Sim M) (hN : ∀ M2, Sim M2 → kL E b L xs 2161 [(0, .ref b), (1, kr_r E 0), (2, kr_r E 346), (3, .int (nI i))] [] M2) : kL E b L xs 980 [(0, .ref b), (1, kr_r E 0), (2, kr_r E 346), (3, .int (nI i))] [] M := by
  obtain ⟨r, M1, M2, h1, h2, h3⟩ := hop 22 (by decide) (fun j => xs (i + j)) M hS
  refine kl_aload_n dL_law_980 rfl 1 rfl ?_
  refine kl_aload_n dL_law_981 rfl 0 rfl ?_
  refine kl_iload_n dL_law_982 rfl 3 rfl ?_
  refine kl_iconst (v := 1) dL_law_983 (by decide) ?_
  refine kl_iadd dL_law_984 ?_
  refine kl_sld (j := i + 1) (by rw [show (1 : Int32) = nI 1 by decide, nI_add]) (by omega) hL dL_law_985 ?_
  refine kl_aload_n dL_law_986 rfl 0 rfl ?_
  refine kl_iload_n dL_law_987 rfl 3 rfl ?_
  refine kl_iconst (v := 2) dL_law_988 (by decide) ?_
  refine kl_iadd dL_law_989 ?_
  refine kl_sld (j := i + 2) (by rw [show (2 : Int32) = nI 2 by decide, nI_add]) (by omega) hL dL_law_990 ?_
  refine kl_call (As := [.int (xs (i + 1)), .int (xs (i + 2))]) (st := []) (f := f_X11_overlap (xs (i + 1)) (xs (i + 2)) M) (r := r) (M1 := M1) zv_X11_overlap dL_law_991 (kr_t 904 (by decide +kernel) rfl) kr_at_0 (r_X11_overlap E (xs (i + 1)) (xs (i + 2)) M) h1 rfl rfl (Nat.le_of_ble_eq_true rfl) rfl (by decide) (Nat.le_of_ble_eq_true rfl) ?_
  refine kl_aload_n dL_law_994 rfl 2 rfl ?_
  refine kl_aload_n dL_law_995 rfl 0 rfl ?_
  refine kl_iload_n dL_law_996 rfl 3 rfl ?_
  refine kl_iconst (v := 1) dL_law_997 (by decide) ?_
  refine kl_iadd dL_law_998 ?_
  refine kl_sld (j := i + 1) (by rw [show (1 : Int32) = nI 1 by decide, nI_add]) (by omega) hL dL_law_999 ?_
  refine kl_aload_n dL_law_1000 rfl 0 rfl ?_
  refine kl_iload_n dL_law_1001 rfl 3 rfl ?_
  refine kl_iconst (v := 2) dL_law_1002 (by decide) ?_
  refine kl_iadd dL_law_1003 ?_
  refine kl_sld (j := i + 2) (by rw [show (2 : Int32) = nI 2 by decide, nI_add]) (by omega) hL dL_law_1004 ?_
  refine kl_call (As := [.int (xs (i + 1)), .int (xs (i + 2))]) (st := [.int r]) (f := f_X12_overlap (xs (i + 1)) (xs (i + 2)) M1) (r := r) (M1 := M2) zv_X12_overlap dL_law_1005 (kr_t 1860 (by decide +kernel) rfl) kr_at_346 (r_X12_overlap E (xs (i + 1)) (xs (i + 2)) M1) h2 rfl rfl (Nat.le_of_ble_eq_true rfl) rfl (by decide) (Nat.le_of_ble_eq_true rfl) ?_
  refine kl_eq (tgt := 2161) dL_law_1008 (by decide) ?_
  exact hN M2 h3
theorem kl_case_23 {Sim : kr_M → Prop} (hop : kr_ok Sim) (E : kr_E) (b L : Nat) (xs : Nat → Int32) (i : Nat) (hi : i + 6 ≤ L) (hL : L ≤ 3072) (M : kr_M) (hS : Sim M) (hN : ∀ M2, Sim M2 → kL E b L xs 2161 [(0, .ref b), (1, kr_r E 0), (2, kr_r E 346), (3, .int (nI i))] [] M2) : kL E b L xs 1013 [(0, .ref b), (1, kr_r E 0), (2, kr_r E 346), (3, .int (nI i))] [] M := by
  obtain ⟨r, M1, M2, h1, h2, h3⟩ := hop 23 (by decide) (fun j => xs (i + j)) M hS
  refine kl_aload_n dL_law_1013 rfl 1 rfl ?_
  refine kl_call (As := []) (st := []) (f := f_X11_all M) (r := r) (M1 := M1) zv_X11_all dL_law_1014 (kr_t 921 (by decide +kernel) rfl) kr_at_0 (r_X11_all E  M) h1 rfl rfl (Nat.le_of_ble_eq_true rfl) rfl (by decide) (Nat.le_of_ble_eq_true rfl) ?_
  refine kl_aload_n dL_law_1017 rfl 2 rfl ?_
  refine kl_call (As := []) (st := [.int r]) (f := f_X12_all M1) (r := r) (M1 := M2) zv_X12_all dL_law_1018 (kr_t 1876 (by decide +kernel) rfl) kr_at_346 (r_X12_all E  M1) h2 rfl rfl (Nat.le_of_ble_eq_true rfl) rfl (by decide) (Nat.le_of_ble_eq_true rfl) ?_
  refine kl_eq (tgt := 2161) dL_law_1021 (by decide) ?_
  exact hN M2 h3
theorem kl_case_24 {Sim : kr_M → Prop} (hop : kr_ok Sim) (E : kr_E) (b L : Nat) (xs : Nat → Int32) (i : Nat) (hi : i + 6 ≤ L) (hL : L ≤ 3072) (M : kr_M) (hS : Sim M) (hN : ∀ M2, Sim M2 → kL E b L xs 2161 [(0, .ref b), (1, kr_r E 0), (2, kr_r E 346), (3, .int (nI i))] [] M2) : kL E b L xs 1026 [(0, .ref b), (1, kr_r E 0), (2, kr_r E 346), (3, .int (nI i))] [] M := by
  obtain ⟨r, M1, M2, h1, h2, h3⟩ := hop 24 (by decide) (fun j => xs (i + j)) M hS
  refine kl_aload_n dL_law_1026 rfl 1 rfl ?_
  refine kl_aload_n dL_law_1027 rfl 0 rfl ?_
  refine kl_iload_n dL_law_1028 rfl 3 rfl ?_
  refine kl_iconst (v := 1) dL_law_1029 (by decide) ?_
  refine kl_iadd dL_law_1030 ?_
  refine kl_sld (j := i + 1) (by rw [show (1 : Int32) = nI 1 by decide, nI_add]) (by omega) hL dL_law_1031 ?_
  refine kl_call (As := [.int (xs (i + 1))]) (st := []) (f := f_X11_order (xs (i + 1)) M) (r := r) (M1 := M1) zv_X11_order dL_law_1032 (kr_t 959 (by decide +kernel) rfl) kr_at_0 (r_X11_order E (xs (i + 1)) M) h1 rfl rfl (Nat.le_of_ble_eq_true rfl) rfl (by decide) (Nat.le_of_ble_eq_true rfl) ?_
  refine kl_aload_n dL_law_1035 rfl 2 rfl ?_
  refine kl_aload_n dL_law_1036 rfl 0 rfl ?_
  refine kl_iload_n dL_law_1037 rfl 3 rfl ?_
  refine kl_iconst (v := 1) dL_law_1038 (by decide) ?_
  refine kl_iadd dL_law_1039 ?_
  refine kl_sld (j := i + 1) (by rw [show (1 : Int32) = nI 1 by decide, nI_add]) (by omega) hL dL_law_1040 ?_
  refine kl_call (As := [.int (xs (i + 1))]) (st := [.int r]) (f := f_X12_order (xs (i + 1)) M1) (r := r) (M1 := M2) zv_X12_order dL_law_1041 (kr_t 1899 (by decide +kernel) rfl) kr_at_346 (r_X12_order E (xs (i + 1)) M1) h2 rfl rfl (Nat.le_of_ble_eq_true rfl) rfl (by decide) (Nat.le_of_ble_eq_true rfl) ?_
  refine kl_eq (tgt := 2161) dL_law_1044 (by decide) ?_
  exact hN M2 h3
theorem kl_case_25 {Sim : kr_M → Prop} (hop : kr_ok Sim) (E : kr_E) (b L : Nat) (xs : Nat → Int32) (i : Nat) (hi : i + 6 ≤ L) (hL : L ≤ 3072) (M : kr_M) (hS : Sim M) (hN : ∀ M2, Sim M2 → kL E b L xs 2161 [(0, .ref b), (1, kr_r E 0), (2, kr_r E 346), (3, .int (nI i))] [] M2) : kL E b L xs 1049 [(0, .ref b), (1, kr_r E 0), (2, kr_r E 346), (3, .int (nI i))] [] M := by
  obtain ⟨r, M1, M2, h1, h2, h3⟩ := hop 25 (by decide) (fun j => xs (i + j)) M hS
  refine kl_aload_n dL_law_1049 rfl 1 rfl ?_
  refine kl_aload_n dL_law_1050 rfl 0 rfl ?_
  refine kl_iload_n dL_law_1051 rfl 3 rfl ?_
  refine kl_iconst (v := 1) dL_law_1052 (by decide) ?_
  refine kl_iadd dL_law_1053 ?_
  refine kl_sld (j := i + 1) (by rw [show (1 : Int32) = nI 1 by decide, nI_add]) (by omega) hL dL_law_1054 ?_
  refine kl_aload_n dL_law_1055 rfl 0 rfl ?_
  refine kl_iload_n dL_law_1056 rfl 3 rfl ?_
  refine kl_iconst (v := 2) dL_law_1057 (by decide) ?_
  refine kl_iadd dL_law_1058 ?_
  refine kl_sld (j := i + 2) (by rw [show (2 : Int32) = nI 2 by decide, nI_add]) (by omega) hL dL_law_1059 ?_
  refine kl_call (As := [.int (xs (i + 1)), .int (xs (i + 2))]) (st := []) (f := f_X11_part (xs (i + 1)) (xs (i + 2)) M) (r := r) (M1 := M1) zv_X11_part dL_law_1060 (kr_t 967 (by decide +kernel) rfl) kr_at_0 (r_X11_part E (xs (i + 1)) (xs (i + 2)) M) h1 rfl rfl (Nat.le_of_ble_eq_true rfl) rfl (by decide) (Nat.le_of_ble_eq_true rfl) ?_
  refine kl_aload_n dL_law_1063 rfl 2 rfl ?_
  refine kl_aload_n dL_law_1064 rfl 0 rfl ?_
  refine kl_iload_n dL_law_1065 rfl 3 rfl ?_
  refine kl_iconst (v := 1) dL_law_1066 (by decide) ?_
  refine kl_iadd dL_law_1067 ?_
  refine kl_sld (j := i + 1) (by rw [show (1 : Int32) = nI 1 by decide, nI_add]) (by omega) hL dL_law_1068 ?_
  refine kl_aload_n dL_law_1069 rfl 0 rfl ?_
  refine kl_iload_n dL_law_1070 rfl 3 rfl ?_
  refine kl_iconst (v := 2) dL_law_1071 (by decide) ?_
  refine kl_iadd dL_law_1072 ?_
  refine kl_sld (j := i + 2) (by rw [show (2 : Int32) = nI 2 by decide, nI_add]) (by omega) hL dL_law_1073 ?_
  refine kl_call (As := [.int (xs (i + 1)), .int (xs (i + 2))]) (st := [.int r]) (f := f_X12_part (xs (i + 1)) (xs (i + 2)) M1) (r := r) (M1 := M2) zv_X12_part dL_law_1074 (kr_t 1903 (by decide +kernel) rfl) kr_at_346 (r_X12_part E (xs (i + 1)) (xs (i + 2)) M1) h2 rfl rfl (Nat.le_of_ble_eq_true rfl) rfl (by decide) (Nat.le_of_ble_eq_true rfl) ?_
  refine kl_eq (tgt := 2161) dL_law_1077 (by decide) ?_
  exact hN M2 h3
theorem kl_case_26 {Sim : kr_M → Prop} (hop : kr_ok Sim) (E : kr_E) (b L : Nat) (xs : Nat → Int32) (i : Nat) (hi : i + 6 ≤ L) (hL : L ≤ 3072) (M : kr_M) (hS : Sim M) (hN : ∀ M2, Sim M2 → kL E b L xs 2161 [(0, .ref b), (1, kr_r E 0), (2, kr_r E 346), (3, .int (nI i))] [] M2) : kL E b L xs 1082 [(0, .ref b), (1, kr_r E 0), (2, kr_r E 346), (3, .int (nI i))] [] M := by
  obtain ⟨r, M1, M2, h1, h2, h3⟩ := hop 26 (by decide) (fun j => xs (i + j)) M hS
  refine kl_aload_n dL_law_1082 rfl 1 rfl ?_
  refine kl_aload_n dL_law_1083 rfl 0 rfl ?_
  refine kl_iload_n dL_law_1084 rfl 3 rfl ?_
  refine kl_iconst (v := 1) dL_law_1085 (by decide) ?_
  refine kl_iadd dL_law_1086 ?_
  refine kl_sld (j := i + 1) (by rw [show (1 : Int32) = nI 1 by decide, nI_add]) (by omega) hL dL_law_1087 ?_
  refine kl_aload_n dL_law_1088 rfl 0 rfl ?_
  refine kl_iload_n dL_law_1089 rfl 3 rfl ?_
  refine kl_iconst (v := 2) dL_law_1090 (by decide) ?_
  refine kl_iadd dL_law_1091 ?_
  refine kl_sld (j := i + 2) (by rw [show (2 : Int32) = nI 2 by decide, nI_add]) (by omega) hL dL_law_1092 ?_
  refine kl_call (As := [.int (xs (i + 1)), .int (xs (i + 2))]) (st := []) (f := f_X11_errors (xs (i + 1)) (xs (i + 2)) M) (r := r) (M1 := M1) zv_X11_errors dL_law_1093 (kr_t 972 (by decide +kernel) rfl) kr_at_0 (r_X11_errors E (xs (i + 1)) (xs (i + 2)) M) h1 rfl rfl (Nat.le_of_ble_eq_true rfl) rfl (by decide) (Nat.le_of_ble_eq_true rfl) ?_
  refine kl_aload_n dL_law_1096 rfl 2 rfl ?_
  refine kl_aload_n dL_law_1097 rfl 0 rfl ?_
  refine kl_iload_n dL_law_1098 rfl 3 rfl ?_
  refine kl_iconst (v := 1) dL_law_1099 (by decide) ?_
  refine kl_iadd dL_law_1100 ?_
  refine kl_sld (j := i + 1) (by rw [show (1 : Int32) = nI 1 by decide, nI_add]) (by omega) hL dL_law_1101 ?_
  refine kl_aload_n dL_law_1102 rfl 0 rfl ?_
  refine kl_iload_n dL_law_1103 rfl 3 rfl ?_
  refine kl_iconst (v := 2) dL_law_1104 (by decide) ?_
  refine kl_iadd dL_law_1105 ?_
  refine kl_sld (j := i + 2) (by rw [show (2 : Int32) = nI 2 by decide, nI_add]) (by omega) hL dL_law_1106 ?_
  refine kl_call (As := [.int (xs (i + 1)), .int (xs (i + 2))]) (st := [.int r]) (f := f_X12_errors (xs (i + 1)) (xs (i + 2)) M1) (r := r) (M1 := M2) zv_X12_errors dL_law_1107 (kr_t 1907 (by decide +kernel) rfl) kr_at_346 (r_X12_errors E (xs (i + 1)) (xs (i + 2)) M1) h2 rfl rfl (Nat.le_of_ble_eq_true rfl) rfl (by decide) (Nat.le_of_ble_eq_true rfl) ?_
  refine kl_eq (tgt := 2161) dL_law_1110 (by decide) ?_
  exact hN M2 h3
theorem kl_case_27 {Sim : kr_M → Prop} (hop : kr_ok Sim) (E : kr_E) (b L : Nat) (xs : Nat → Int32) (i : Nat) (hi : i + 6 ≤ L) (hL : L ≤ 3072) (M : kr_M) (hS : Sim M) (hN : ∀ M2, Sim M2 → kL E b L xs 2161 [(0, .ref b), (1, kr_r E 0), (2, kr_r E 346), (3, .int (nI i))] [] M2) : kL E b L xs 1115 [(0, .ref b), (1, kr_r E 0), (2, kr_r E 346), (3, .int (nI i))] [] M := by
  obtain ⟨r, M1, M2, h1, h2, h3⟩ := hop 27 (by decide) (fun j => xs (i + j)) M hS
  refine kl_aload_n dL_law_1115 rfl 1 rfl ?_
  refine kl_aload_n dL_law_1116 rfl 0 rfl ?_
  refine kl_iload_n dL_law_1117 rfl 3 rfl ?_
  refine kl_iconst (v := 1) dL_law_1118 (by decide) ?_
  refine kl_iadd dL_law_1119 ?_
  refine kl_sld (j := i + 1) (by rw [show (1 : Int32) = nI 1 by decide, nI_add]) (by omega) hL dL_law_1120 ?_
  refine kl_aload_n dL_law_1121 rfl 0 rfl ?_
  refine kl_iload_n dL_law_1122 rfl 3 rfl ?_
  refine kl_iconst (v := 2) dL_law_1123 (by decide) ?_
  refine kl_iadd dL_law_1124 ?_
  refine kl_sld (j := i + 2) (by rw [show (2 : Int32) = nI 2 by decide, nI_add]) (by omega) hL dL_law_1125 ?_
  refine kl_call (As := [.int (xs (i + 1)), .int (xs (i + 2))]) (st := []) (f := f_X11_common (xs (i + 1)) (xs (i + 2)) M) (r := r) (M1 := M1) zv_X11_common dL_law_1126 (kr_t 981 (by decide +kernel) rfl) kr_at_0 (r_X11_common E (xs (i + 1)) (xs (i + 2)) M) h1 rfl rfl (Nat.le_of_ble_eq_true rfl) rfl (by decide) (Nat.le_of_ble_eq_true rfl) ?_
  refine kl_aload_n dL_law_1129 rfl 2 rfl ?_
  refine kl_aload_n dL_law_1130 rfl 0 rfl ?_
  refine kl_iload_n dL_law_1131 rfl 3 rfl ?_
  refine kl_iconst (v := 1) dL_law_1132 (by decide) ?_
  refine kl_iadd dL_law_1133 ?_
  refine kl_sld (j := i + 1) (by rw [show (1 : Int32) = nI 1 by decide, nI_add]) (by omega) hL dL_law_1134 ?_
  refine kl_aload_n dL_law_1135 rfl 0 rfl ?_
  refine kl_iload_n dL_law_1136 rfl 3 rfl ?_
  refine kl_iconst (v := 2) dL_law_1137 (by decide) ?_
  refine kl_iadd dL_law_1138 ?_
  refine kl_sld (j := i + 2) (by rw [show (2 : Int32) = nI 2 by decide, nI_add]) (by omega) hL dL_law_1139 ?_
  refine kl_call (As := [.int (xs (i + 1)), .int (xs (i + 2))]) (st := [.int r]) (f := f_X12_common (xs (i + 1)) (xs (i + 2)) M1) (r := r) (M1 := M2) zv_X12_common dL_law_1140 (kr_t 1915 (by decide +kernel) rfl) kr_at_346 (r_X12_common E (xs (i + 1)) (xs (i + 2)) M1) h2 rfl rfl (Nat.le_of_ble_eq_true rfl) rfl (by decide) (Nat.le_of_ble_eq_true rfl) ?_
  refine kl_eq (tgt := 2161) dL_law_1143 (by decide) ?_
  exact hN M2 h3
theorem kl_case_28 {Sim : kr_M → Prop} (hop : kr_ok Sim) (E : kr_E) (b L : Nat) (xs : Nat → Int32) (i : Nat) (hi : i + 6 ≤ L) (hL : L ≤ 3072) (M : kr_M) (hS : Sim M) (hN : ∀ M2, Sim M2 → kL E b L xs 2161 [(0, .ref b), (1, kr_r E 0), (2, kr_r E 346), (3, .int (nI i))] [] M2) : kL E b L xs 1148 [(0, .ref b), (1, kr_r E 0), (2, kr_r E 346), (3, .int (nI i))] [] M := by
  obtain ⟨r, M1, M2, h1, h2, h3⟩ := hop 28 (by decide) (fun j => xs (i + j)) M hS
  refine kl_aload_n dL_law_1148 rfl 1 rfl ?_
  refine kl_aload_n dL_law_1149 rfl 0 rfl ?_
  refine kl_iload_n dL_law_1150 rfl 3 rfl ?_
  refine kl_iconst (v := 1) dL_law_1151 (by decide) ?_
  refine kl_iadd dL_law_1152 ?_
  refine kl_sld (j := i + 1) (by rw [show (1 : Int32) = nI 1 by decide, nI_add]) (by omega) hL dL_law_1153 ?_
  refine kl_call (As := [.int (xs (i + 1))]) (st := []) (f := f_X11_which (xs (i + 1)) M) (r := r) (M1 := M1) zv_X11_which dL_law_1154 (kr_t 991 (by decide +kernel) rfl) kr_at_0 (r_X11_which E (xs (i + 1)) M) h1 rfl rfl (Nat.le_of_ble_eq_true rfl) rfl (by decide) (Nat.le_of_ble_eq_true rfl) ?_
  refine kl_aload_n dL_law_1157 rfl 2 rfl ?_
  refine kl_aload_n dL_law_1158 rfl 0 rfl ?_
  refine kl_iload_n dL_law_1159 rfl 3 rfl ?_
  refine kl_iconst (v := 1) dL_law_1160 (by decide) ?_
  refine kl_iadd dL_law_1161 ?_
  refine kl_sld (j := i + 1) (by rw [show (1 : Int32) = nI 1 by decide, nI_add]) (by omega) hL dL_law_1162 ?_
  refine kl_call (As := [.int (xs (i + 1))]) (st := [.int r]) (f := f_X12_which (xs (i + 1)) M1) (r := r) (M1 := M2) zv_X12_which dL_law_1163 (kr_t 1919 (by decide +kernel) rfl) kr_at_346 (r_X12_which E (xs (i + 1)) M1) h2 rfl rfl (Nat.le_of_ble_eq_true rfl) rfl (by decide) (Nat.le_of_ble_eq_true rfl) ?_
  refine kl_eq (tgt := 2161) dL_law_1166 (by decide) ?_
  exact hN M2 h3
theorem kl_case_29 {Sim : kr_M → Prop} (hop : kr_ok Sim) (E : kr_E) (b L : Nat) (xs : Nat → Int32) (i : Nat) (hi : i + 6 ≤ L) (hL : L ≤ 3072) (M : kr_M) (hS : Sim M) (hN : ∀ M2, Sim M2 → kL E b L xs 2161 [(0, .ref b), (1, kr_r E 0), (2, kr_r E 346), (3, .int (nI i))] [] M2) : kL E b L xs 1171 [(0, .ref b), (1, kr_r E 0), (2, kr_r E 346), (3, .int (nI i))] [] M := by
  obtain ⟨r, M1, M2, h1, h2, h3⟩ := hop 29 (by decide) (fun j => xs (i + j)) M hS
  refine kl_aload_n dL_law_1171 rfl 1 rfl ?_
  refine kl_aload_n dL_law_1172 rfl 0 rfl ?_
  refine kl_iload_n dL_law_1173 rfl 3 rfl ?_
  refine kl_iconst (v := 1) dL_law_1174 (by decide) ?_
  refine kl_iadd dL_law_1175 ?_
  refine kl_sld (j := i + 1) (by rw [show (1 : Int32) = nI 1 by decide, nI_add]) (by omega) hL dL_law_1176 ?_
  refine kl_call (As := [.int (xs (i + 1))]) (st := []) (f := f_X11_feels (xs (i + 1)) M) (r := r) (M1 := M1) zv_X11_feels dL_law_1177 (kr_t 1020 (by decide +kernel) rfl) kr_at_0 (r_X11_feels E (xs (i + 1)) M) h1 rfl rfl (Nat.le_of_ble_eq_true rfl) rfl (by decide) (Nat.le_of_ble_eq_true rfl) ?_
  refine kl_aload_n dL_law_1180 rfl 2 rfl ?_
  refine kl_aload_n dL_law_1181 rfl 0 rfl ?_
  refine kl_iload_n dL_law_1182 rfl 3 rfl ?_
  refine kl_iconst (v := 1) dL_law_1183 (by decide) ?_
  refine kl_iadd dL_law_1184 ?_
  refine kl_sld (j := i + 1) (by rw [show (1 : Int32) = nI 1 by decide, nI_add]) (by omega) hL dL_law_1185 ?_
  refine kl_call (As := [.int (xs (i + 1))]) (st := [.int r]) (f := f_X12_feels (xs (i + 1)) M1) (r := r) (M1 := M2) zv_X12_feels dL_law_1186 (kr_t 1938 (by decide +kernel) rfl) kr_at_346 (r_X12_feels E (xs (i + 1)) M1) h2 rfl rfl (Nat.le_of_ble_eq_true rfl) rfl (by decide) (Nat.le_of_ble_eq_true rfl) ?_
  refine kl_eq (tgt := 2161) dL_law_1189 (by decide) ?_
  exact hN M2 h3
theorem kl_case_30 {Sim : kr_M → Prop} (hop : kr_ok Sim) (E : kr_E) (b L : Nat) (xs : Nat → Int32) (i : Nat) (hi : i + 6 ≤ L) (hL : L ≤ 3072) (M : kr_M) (hS : Sim M) (hN : ∀ M2, Sim M2 → kL E b L xs 2161 [(0, .ref b), (1, kr_r E 0), (2, kr_r E 346), (3, .int (nI i))] [] M2) : kL E b L xs 1194 [(0, .ref b), (1, kr_r E 0), (2, kr_r E 346), (3, .int (nI i))] [] M := by
  obtain ⟨r, M1, M2, h1, h2, h3⟩ := hop 30 (by decide) (fun j => xs (i + j)) M hS
  refine kl_aload_n dL_law_1194 rfl 1 rfl ?_
  refine kl_aload_n dL_law_1195 rfl 0 rfl ?_
  refine kl_iload_n dL_law_1196 rfl 3 rfl ?_
  refine kl_iconst (v := 1) dL_law_1197 (by decide) ?_
  refine kl_iadd dL_law_1198 ?_
  refine kl_sld (j := i + 1) (by rw [show (1 : Int32) = nI 1 by decide, nI_add]) (by omega) hL dL_law_1199 ?_
  refine kl_aload_n dL_law_1200 rfl 0 rfl ?_
  refine kl_iload_n dL_law_1201 rfl 3 rfl ?_
  refine kl_iconst (v := 2) dL_law_1202 (by decide) ?_
  refine kl_iadd dL_law_1203 ?_
  refine kl_sld (j := i + 2) (by rw [show (2 : Int32) = nI 2 by decide, nI_add]) (by omega) hL dL_law_1204 ?_
  refine kl_aload_n dL_law_1205 rfl 0 rfl ?_
  refine kl_iload_n dL_law_1206 rfl 3 rfl ?_
  refine kl_iconst (v := 3) dL_law_1207 (by decide) ?_
  refine kl_iadd dL_law_1208 ?_
  refine kl_sld (j := i + 3) (by rw [show (3 : Int32) = nI 3 by decide, nI_add]) (by omega) hL dL_law_1209 ?_
  refine kl_call (As := [.int (xs (i + 1)), .int (xs (i + 2)), .int (xs (i + 3))]) (st := []) (f := f_X11_way (xs (i + 1)) (xs (i + 2)) (xs (i + 3)) M) (r := r) (M1 := M1) zv_X11_way dL_law_1210 (kr_t 1024 (by decide +kernel) rfl) kr_at_0 (r_X11_way E (xs (i + 1)) (xs (i + 2)) (xs (i + 3)) M) h1 rfl rfl (Nat.le_of_ble_eq_true rfl) rfl (by decide) (Nat.le_of_ble_eq_true rfl) ?_
  refine kl_aload_n dL_law_1213 rfl 2 rfl ?_
  refine kl_aload_n dL_law_1214 rfl 0 rfl ?_
  refine kl_iload_n dL_law_1215 rfl 3 rfl ?_
  refine kl_iconst (v := 1) dL_law_1216 (by decide) ?_
  refine kl_iadd dL_law_1217 ?_
  refine kl_sld (j := i + 1) (by rw [show (1 : Int32) = nI 1 by decide, nI_add]) (by omega) hL dL_law_1218 ?_
  refine kl_aload_n dL_law_1219 rfl 0 rfl ?_
  refine kl_iload_n dL_law_1220 rfl 3 rfl ?_
  refine kl_iconst (v := 2) dL_law_1221 (by decide) ?_
  refine kl_iadd dL_law_1222 ?_
  refine kl_sld (j := i + 2) (by rw [show (2 : Int32) = nI 2 by decide, nI_add]) (by omega) hL dL_law_1223 ?_
  refine kl_aload_n dL_law_1224 rfl 0 rfl ?_
  refine kl_iload_n dL_law_1225 rfl 3 rfl ?_
  refine kl_iconst (v := 3) dL_law_1226 (by decide) ?_
  refine kl_iadd dL_law_1227 ?_
  refine kl_sld (j := i + 3) (by rw [show (3 : Int32) = nI 3 by decide, nI_add]) (by omega) hL dL_law_1228 ?_
  refine kl_call (As := [.int (xs (i + 1)), .int (xs (i + 2)), .int (xs (i + 3))]) (st := [.int r]) (f := f_X12_way (xs (i + 1)) (xs (i + 2)) (xs (i + 3)) M1) (r := r) (M1 := M2) zv_X12_way dL_law_1229 (kr_t 1942 (by decide +kernel) rfl) kr_at_346 (r_X12_way E (xs (i + 1)) (xs (i + 2)) (xs (i + 3)) M1) h2 rfl rfl (Nat.le_of_ble_eq_true rfl) rfl (by decide) (Nat.le_of_ble_eq_true rfl) ?_
  refine kl_eq (tgt := 2161) dL_law_1232 (by decide) ?_
  exact hN M2 h3
theorem kl_case_31 {Sim : kr_M → Prop} (hop : kr_ok Sim) (E : kr_E) (b L : Nat) (xs : Nat → Int32) (i : Nat) (hi : i + 6 ≤ L) (hL : L ≤ 3072) (M : kr_M) (hS : Sim M) (hN : ∀ M2, Sim M2 → kL E b L xs 2161 [(0, .ref b), (1, kr_r E 0), (2, kr_r E 346), (3, .int (nI i))] [] M2) : kL E b L xs 1237 [(0, .ref b), (1, kr_r E 0), (2, kr_r E 346), (3, .int (nI i))] [] M := by
  obtain ⟨r, M1, M2, h1, h2, h3⟩ := hop 31 (by decide) (fun j => xs (i + j)) M hS
  refine kl_aload_n dL_law_1237 rfl 1 rfl ?_
  refine kl_aload_n dL_law_1238 rfl 0 rfl ?_
  refine kl_iload_n dL_law_1239 rfl 3 rfl ?_
  refine kl_iconst (v := 1) dL_law_1240 (by decide) ?_
  refine kl_iadd dL_law_1241 ?_
  refine kl_sld (j := i + 1) (by rw [show (1 : Int32) = nI 1 by decide, nI_add]) (by omega) hL dL_law_1242 ?_
  refine kl_aload_n dL_law_1243 rfl 0 rfl ?_
  refine kl_iload_n dL_law_1244 rfl 3 rfl ?_
  refine kl_iconst (v := 2) dL_law_1245 (by decide) ?_
  refine kl_iadd dL_law_1246 ?_
  refine kl_sld (j := i + 2) (by rw [show (2 : Int32) = nI 2 by decide, nI_add]) (by omega) hL dL_law_1247 ?_
  refine kl_aload_n dL_law_1248 rfl 0 rfl ?_
  refine kl_iload_n dL_law_1249 rfl 3 rfl ?_
  refine kl_iconst (v := 3) dL_law_1250 (by decide) ?_
  refine kl_iadd dL_law_1251 ?_
  refine kl_sld (j := i + 3) (by rw [show (3 : Int32) = nI 3 by decide, nI_add]) (by omega) hL dL_law_1252 ?_
  refine kl_aload_n dL_law_1253 rfl 0 rfl ?_
  refine kl_iload_n dL_law_1254 rfl 3 rfl ?_
  refine kl_iconst (v := 4) dL_law_1255 (by decide) ?_
  refine kl_iadd dL_law_1256 ?_
  refine kl_sld (j := i + 4) (by rw [show (4 : Int32) = nI 4 by decide, nI_add]) (by omega) hL dL_law_1257 ?_
  refine kl_call (As := [.int (xs (i + 1)), .int (xs (i + 2)), .int (xs (i + 3)), .int (xs (i + 4))]) (st := []) (f := f_X11_by (xs (i + 1)) (xs (i + 2)) (xs (i + 3)) (xs (i + 4)) M) (r := r) (M1 := M1) zv_X11_by dL_law_1258 (kr_t 1060 (by decide +kernel) rfl) kr_at_0 (r_X11_by E (xs (i + 1)) (xs (i + 2)) (xs (i + 3)) (xs (i + 4)) M) h1 rfl rfl (Nat.le_of_ble_eq_true rfl) rfl (by decide) (Nat.le_of_ble_eq_true rfl) ?_
  refine kl_aload_n dL_law_1261 rfl 2 rfl ?_
  refine kl_aload_n dL_law_1262 rfl 0 rfl ?_
  refine kl_iload_n dL_law_1263 rfl 3 rfl ?_
  refine kl_iconst (v := 1) dL_law_1264 (by decide) ?_
  refine kl_iadd dL_law_1265 ?_
  refine kl_sld (j := i + 1) (by rw [show (1 : Int32) = nI 1 by decide, nI_add]) (by omega) hL dL_law_1266 ?_
  refine kl_aload_n dL_law_1267 rfl 0 rfl ?_
  refine kl_iload_n dL_law_1268 rfl 3 rfl ?_
  refine kl_iconst (v := 2) dL_law_1269 (by decide) ?_
  refine kl_iadd dL_law_1270 ?_
  refine kl_sld (j := i + 2) (by rw [show (2 : Int32) = nI 2 by decide, nI_add]) (by omega) hL dL_law_1271 ?_
  refine kl_aload_n dL_law_1272 rfl 0 rfl ?_
  refine kl_iload_n dL_law_1273 rfl 3 rfl ?_
  refine kl_iconst (v := 3) dL_law_1274 (by decide) ?_
  refine kl_iadd dL_law_1275 ?_
  refine kl_sld (j := i + 3) (by rw [show (3 : Int32) = nI 3 by decide, nI_add]) (by omega) hL dL_law_1276 ?_
  refine kl_aload_n dL_law_1277 rfl 0 rfl ?_
  refine kl_iload_n dL_law_1278 rfl 3 rfl ?_
  refine kl_iconst (v := 4) dL_law_1279 (by decide) ?_
  refine kl_iadd dL_law_1280 ?_
  refine kl_sld (j := i + 4) (by rw [show (4 : Int32) = nI 4 by decide, nI_add]) (by omega) hL dL_law_1281 ?_
  refine kl_call (As := [.int (xs (i + 1)), .int (xs (i + 2)), .int (xs (i + 3)), .int (xs (i + 4))]) (st := [.int r]) (f := f_X12_by (xs (i + 1)) (xs (i + 2)) (xs (i + 3)) (xs (i + 4)) M1) (r := r) (M1 := M2) zv_X12_by dL_law_1282 (kr_t 1962 (by decide +kernel) rfl) kr_at_346 (r_X12_by E (xs (i + 1)) (xs (i + 2)) (xs (i + 3)) (xs (i + 4)) M1) h2 rfl rfl (Nat.le_of_ble_eq_true rfl) rfl (by decide) (Nat.le_of_ble_eq_true rfl) ?_
  refine kl_eq (tgt := 2161) dL_law_1285 (by decide) ?_
  exact hN M2 h3
theorem kl_case_32 {Sim : kr_M → Prop} (hop : kr_ok Sim) (E : kr_E) (b L : Nat) (xs : Nat → Int32) (i : Nat) (hi : i + 6 ≤ L) (hL : L ≤ 3072) (M : kr_M) (hS : Sim M) (hN : ∀ M2, Sim M2 → kL E b L xs 2161 [(0, .ref b), (1, kr_r E 0), (2, kr_r E 346), (3, .int (nI i))] [] M2) : kL E b L xs 1290 [(0, .ref b), (1, kr_r E 0), (2, kr_r E 346), (3, .int (nI i))] [] M := by
  obtain ⟨r, M1, M2, h1, h2, h3⟩ := hop 32 (by decide) (fun j => xs (i + j)) M hS
  refine kl_aload_n dL_law_1290 rfl 1 rfl ?_
  refine kl_aload_n dL_law_1291 rfl 0 rfl ?_
  refine kl_iload_n dL_law_1292 rfl 3 rfl ?_
  refine kl_iconst (v := 1) dL_law_1293 (by decide) ?_
  refine kl_iadd dL_law_1294 ?_
  refine kl_sld (j := i + 1) (by rw [show (1 : Int32) = nI 1 by decide, nI_add]) (by omega) hL dL_law_1295 ?_
  refine kl_aload_n dL_law_1296 rfl 0 rfl ?_
  refine kl_iload_n dL_law_1297 rfl 3 rfl ?_
  refine kl_iconst (v := 2) dL_law_1298 (by decide) ?_
  refine kl_iadd dL_law_1299 ?_
  refine kl_sld (j := i + 2) (by rw [show (2 : Int32) = nI 2 by decide, nI_add]) (by omega) hL dL_law_1300 ?_
  refine kl_aload_n dL_law_1301 rfl 0 rfl ?_
  refine kl_iload_n dL_law_1302 rfl 3 rfl ?_
  refine kl_iconst (v := 3) dL_law_1303 (by decide) ?_
  refine kl_iadd dL_law_1304 ?_
  refine kl_sld (j := i + 3) (by rw [show (3 : Int32) = nI 3 by decide, nI_add]) (by omega) hL dL_law_1305 ?_
  refine kl_aload_n dL_law_1306 rfl 0 rfl ?_
  refine kl_iload_n dL_law_1307 rfl 3 rfl ?_
  refine kl_iconst (v := 4) dL_law_1308 (by decide) ?_
  refine kl_iadd dL_law_1309 ?_
  refine kl_sld (j := i + 4) (by rw [show (4 : Int32) = nI 4 by decide, nI_add]) (by omega) hL dL_law_1310 ?_
  refine kl_call (As := [.int (xs (i + 1)), .int (xs (i + 2)), .int (xs (i + 3)), .int (xs (i + 4))]) (st := []) (f := f_X11_learns (xs (i + 1)) (xs (i + 2)) (xs (i + 3)) (xs (i + 4)) M) (r := r) (M1 := M1) zv_X11_learns dL_law_1311 (kr_t 1076 (by decide +kernel) rfl) kr_at_0 (r_X11_learns E (xs (i + 1)) (xs (i + 2)) (xs (i + 3)) (xs (i + 4)) M) h1 rfl rfl (Nat.le_of_ble_eq_true rfl) rfl (by decide) (Nat.le_of_ble_eq_true rfl) ?_
  refine kl_aload_n dL_law_1314 rfl 2 rfl ?_
  refine kl_aload_n dL_law_1315 rfl 0 rfl ?_
  refine kl_iload_n dL_law_1316 rfl 3 rfl ?_
  refine kl_iconst (v := 1) dL_law_1317 (by decide) ?_
  refine kl_iadd dL_law_1318 ?_
  refine kl_sld (j := i + 1) (by rw [show (1 : Int32) = nI 1 by decide, nI_add]) (by omega) hL dL_law_1319 ?_
  refine kl_aload_n dL_law_1320 rfl 0 rfl ?_
  refine kl_iload_n dL_law_1321 rfl 3 rfl ?_
  refine kl_iconst (v := 2) dL_law_1322 (by decide) ?_
  refine kl_iadd dL_law_1323 ?_
  refine kl_sld (j := i + 2) (by rw [show (2 : Int32) = nI 2 by decide, nI_add]) (by omega) hL dL_law_1324 ?_
  refine kl_aload_n dL_law_1325 rfl 0 rfl ?_
  refine kl_iload_n dL_law_1326 rfl 3 rfl ?_
  refine kl_iconst (v := 3) dL_law_1327 (by decide) ?_
  refine kl_iadd dL_law_1328 ?_
  refine kl_sld (j := i + 3) (by rw [show (3 : Int32) = nI 3 by decide, nI_add]) (by omega) hL dL_law_1329 ?_
  refine kl_aload_n dL_law_1330 rfl 0 rfl ?_
  refine kl_iload_n dL_law_1331 rfl 3 rfl ?_
  refine kl_iconst (v := 4) dL_law_1332 (by decide) ?_
  refine kl_iadd dL_law_1333 ?_
  refine kl_sld (j := i + 4) (by rw [show (4 : Int32) = nI 4 by decide, nI_add]) (by omega) hL dL_law_1334 ?_
  refine kl_call (As := [.int (xs (i + 1)), .int (xs (i + 2)), .int (xs (i + 3)), .int (xs (i + 4))]) (st := [.int r]) (f := f_X12_learns (xs (i + 1)) (xs (i + 2)) (xs (i + 3)) (xs (i + 4)) M1) (r := r) (M1 := M2) zv_X12_learns dL_law_1335 (kr_t 1970 (by decide +kernel) rfl) kr_at_346 (r_X12_learns E (xs (i + 1)) (xs (i + 2)) (xs (i + 3)) (xs (i + 4)) M1) h2 rfl rfl (Nat.le_of_ble_eq_true rfl) rfl (by decide) (Nat.le_of_ble_eq_true rfl) ?_
  refine kl_eq (tgt := 2161) dL_law_1338 (by decide) ?_
  exact hN M2 h3
theorem kl_case_33 {Sim : kr_M → Prop} (hop : kr_ok Sim) (E : kr_E) (b L : Nat) (xs : Nat → Int32) (i : Nat) (hi : i + 6 ≤ L) (hL : L ≤ 3072) (M : kr_M) (hS : Sim M) (hN : ∀ M2, Sim M2 → kL E b L xs 2161 [(0, .ref b), (1, kr_r E 0), (2, kr_r E 346), (3, .int (nI i))] [] M2) : kL E b L xs 1343 [(0, .ref b), (1, kr_r E 0), (2, kr_r E 346), (3, .int (nI i))] [] M := by
  obtain ⟨r, M1, M2, h1, h2, h3⟩ := hop 33 (by decide) (fun j => xs (i + j)) M hS
  refine kl_aload_n dL_law_1343 rfl 1 rfl ?_
  refine kl_aload_n dL_law_1344 rfl 0 rfl ?_
  refine kl_iload_n dL_law_1345 rfl 3 rfl ?_
  refine kl_iconst (v := 1) dL_law_1346 (by decide) ?_
  refine kl_iadd dL_law_1347 ?_
  refine kl_sld (j := i + 1) (by rw [show (1 : Int32) = nI 1 by decide, nI_add]) (by omega) hL dL_law_1348 ?_
  refine kl_aload_n dL_law_1349 rfl 0 rfl ?_
  refine kl_iload_n dL_law_1350 rfl 3 rfl ?_
  refine kl_iconst (v := 2) dL_law_1351 (by decide) ?_
  refine kl_iadd dL_law_1352 ?_
  refine kl_sld (j := i + 2) (by rw [show (2 : Int32) = nI 2 by decide, nI_add]) (by omega) hL dL_law_1353 ?_
  refine kl_aload_n dL_law_1354 rfl 0 rfl ?_
  refine kl_iload_n dL_law_1355 rfl 3 rfl ?_
  refine kl_iconst (v := 3) dL_law_1356 (by decide) ?_
  refine kl_iadd dL_law_1357 ?_
  refine kl_sld (j := i + 3) (by rw [show (3 : Int32) = nI 3 by decide, nI_add]) (by omega) hL dL_law_1358 ?_
  refine kl_call (As := [.int (xs (i + 1)), .int (xs (i + 2)), .int (xs (i + 3))]) (st := []) (f := f_X11_keys (xs (i + 1)) (xs (i + 2)) (xs (i + 3)) M) (r := r) (M1 := M1) zv_X11_keys dL_law_1359 (kr_t 1089 (by decide +kernel) rfl) kr_at_0 (r_X11_keys E (xs (i + 1)) (xs (i + 2)) (xs (i + 3)) M) h1 rfl rfl (Nat.le_of_ble_eq_true rfl) rfl (by decide) (Nat.le_of_ble_eq_true rfl) ?_
  refine kl_aload_n dL_law_1362 rfl 2 rfl ?_
  refine kl_aload_n dL_law_1363 rfl 0 rfl ?_
  refine kl_iload_n dL_law_1364 rfl 3 rfl ?_
  refine kl_iconst (v := 1) dL_law_1365 (by decide) ?_
  refine kl_iadd dL_law_1366 ?_
  refine kl_sld (j := i + 1) (by rw [show (1 : Int32) = nI 1 by decide, nI_add]) (by omega) hL dL_law_1367 ?_
  refine kl_aload_n dL_law_1368 rfl 0 rfl ?_
  refine kl_iload_n dL_law_1369 rfl 3 rfl ?_
  refine kl_iconst (v := 2) dL_law_1370 (by decide) ?_
  refine kl_iadd dL_law_1371 ?_
  refine kl_sld (j := i + 2) (by rw [show (2 : Int32) = nI 2 by decide, nI_add]) (by omega) hL dL_law_1372 ?_
  refine kl_aload_n dL_law_1373 rfl 0 rfl ?_
  refine kl_iload_n dL_law_1374 rfl 3 rfl ?_
  refine kl_iconst (v := 3) dL_law_1375 (by decide) ?_
  refine kl_iadd dL_law_1376 ?_
  refine kl_sld (j := i + 3) (by rw [show (3 : Int32) = nI 3 by decide, nI_add]) (by omega) hL dL_law_1377 ?_
  refine kl_call (As := [.int (xs (i + 1)), .int (xs (i + 2)), .int (xs (i + 3))]) (st := [.int r]) (f := f_X12_keys (xs (i + 1)) (xs (i + 2)) (xs (i + 3)) M1) (r := r) (M1 := M2) zv_X12_keys dL_law_1378 (kr_t 1974 (by decide +kernel) rfl) kr_at_346 (r_X12_keys E (xs (i + 1)) (xs (i + 2)) (xs (i + 3)) M1) h2 rfl rfl (Nat.le_of_ble_eq_true rfl) rfl (by decide) (Nat.le_of_ble_eq_true rfl) ?_
  refine kl_eq (tgt := 2161) dL_law_1381 (by decide) ?_
  exact hN M2 h3
theorem kl_case_34 {Sim : kr_M → Prop} (hop : kr_ok Sim) (E : kr_E) (b L : Nat) (xs : Nat → Int32) (i : Nat) (hi : i + 6 ≤ L) (hL : L ≤ 3072) (M : kr_M) (hS : Sim M) (hN : ∀ M2, Sim M2 → kL E b L xs 2161 [(0, .ref b), (1, kr_r E 0), (2, kr_r E 346), (3, .int (nI i))] [] M2) : kL E b L xs 1386 [(0, .ref b), (1, kr_r E 0), (2, kr_r E 346), (3, .int (nI i))] [] M := by
  obtain ⟨r, M1, M2, h1, h2, h3⟩ := hop 34 (by decide) (fun j => xs (i + j)) M hS
  refine kl_aload_n dL_law_1386 rfl 1 rfl ?_
  refine kl_aload_n dL_law_1387 rfl 0 rfl ?_
  refine kl_iload_n dL_law_1388 rfl 3 rfl ?_
  refine kl_iconst (v := 1) dL_law_1389 (by decide) ?_
  refine kl_iadd dL_law_1390 ?_
  refine kl_sld (j := i + 1) (by rw [show (1 : Int32) = nI 1 by decide, nI_add]) (by omega) hL dL_law_1391 ?_
  refine kl_call (As := [.int (xs (i + 1))]) (st := []) (f := f_X11_ferry (xs (i + 1)) M) (r := r) (M1 := M1) zv_X11_ferry dL_law_1392 (kr_t 1098 (by decide +kernel) rfl) kr_at_0 (r_X11_ferry E (xs (i + 1)) M) h1 rfl rfl (Nat.le_of_ble_eq_true rfl) rfl (by decide) (Nat.le_of_ble_eq_true rfl) ?_
  refine kl_aload_n dL_law_1395 rfl 2 rfl ?_
  refine kl_aload_n dL_law_1396 rfl 0 rfl ?_
  refine kl_iload_n dL_law_1397 rfl 3 rfl ?_
  refine kl_iconst (v := 1) dL_law_1398 (by decide) ?_
  refine kl_iadd dL_law_1399 ?_
  refine kl_sld (j := i + 1) (by rw [show (1 : Int32) = nI 1 by decide, nI_add]) (by omega) hL dL_law_1400 ?_
  refine kl_call (As := [.int (xs (i + 1))]) (st := [.int r]) (f := f_X12_ferry (xs (i + 1)) M1) (r := r) (M1 := M2) zv_X12_ferry dL_law_1401 (kr_t 1978 (by decide +kernel) rfl) kr_at_346 (r_X12_ferry E (xs (i + 1)) M1) h2 rfl rfl (Nat.le_of_ble_eq_true rfl) rfl (by decide) (Nat.le_of_ble_eq_true rfl) ?_
  refine kl_eq (tgt := 2161) dL_law_1404 (by decide) ?_
  exact hN M2 h3
theorem kl_case_35 {Sim : kr_M → Prop} (hop : kr_ok Sim) (E : kr_E) (b L : Nat) (xs : Nat → Int32) (i : Nat) (hi : i + 6 ≤ L) (hL : L ≤ 3072) (M : kr_M) (hS : Sim M) (hN : ∀ M2, Sim M2 → kL E b L xs 2161 [(0, .ref b), (1, kr_r E 0), (2, kr_r E 346), (3, .int (nI i))] [] M2) : kL E b L xs 1409 [(0, .ref b), (1, kr_r E 0), (2, kr_r E 346), (3, .int (nI i))] [] M := by
  obtain ⟨r, M1, M2, h1, h2, h3⟩ := hop 35 (by decide) (fun j => xs (i + j)) M hS
  refine kl_aload_n dL_law_1409 rfl 1 rfl ?_
  refine kl_aload_n dL_law_1410 rfl 0 rfl ?_
  refine kl_iload_n dL_law_1411 rfl 3 rfl ?_
  refine kl_iconst (v := 1) dL_law_1412 (by decide) ?_
  refine kl_iadd dL_law_1413 ?_
  refine kl_sld (j := i + 1) (by rw [show (1 : Int32) = nI 1 by decide, nI_add]) (by omega) hL dL_law_1414 ?_
  refine kl_call (As := [.int (xs (i + 1))]) (st := []) (f := f_X11_groups (xs (i + 1)) M) (r := r) (M1 := M1) zv_X11_groups dL_law_1415 (kr_t 1124 (by decide +kernel) rfl) kr_at_0 (r_X11_groups E (xs (i + 1)) M) h1 rfl rfl (Nat.le_of_ble_eq_true rfl) rfl (by decide) (Nat.le_of_ble_eq_true rfl) ?_
  refine kl_aload_n dL_law_1418 rfl 2 rfl ?_
  refine kl_aload_n dL_law_1419 rfl 0 rfl ?_
  refine kl_iload_n dL_law_1420 rfl 3 rfl ?_
  refine kl_iconst (v := 1) dL_law_1421 (by decide) ?_
  refine kl_iadd dL_law_1422 ?_
  refine kl_sld (j := i + 1) (by rw [show (1 : Int32) = nI 1 by decide, nI_add]) (by omega) hL dL_law_1423 ?_
  refine kl_call (As := [.int (xs (i + 1))]) (st := [.int r]) (f := f_X12_groups (xs (i + 1)) M1) (r := r) (M1 := M2) zv_X12_groups dL_law_1424 (kr_t 1998 (by decide +kernel) rfl) kr_at_346 (r_X12_groups E (xs (i + 1)) M1) h2 rfl rfl (Nat.le_of_ble_eq_true rfl) rfl (by decide) (Nat.le_of_ble_eq_true rfl) ?_
  refine kl_eq (tgt := 2161) dL_law_1427 (by decide) ?_
  exact hN M2 h3
theorem kl_case_36 {Sim : kr_M → Prop} (hop : kr_ok Sim) (E : kr_E) (b L : Nat) (xs : Nat → Int32) (i : Nat) (hi : i + 6 ≤ L) (hL : L ≤ 3072) (M : kr_M) (hS : Sim M) (hN : ∀ M2, Sim M2 → kL E b L xs 2161 [(0, .ref b), (1, kr_r E 0), (2, kr_r E 346), (3, .int (nI i))] [] M2) : kL E b L xs 1432 [(0, .ref b), (1, kr_r E 0), (2, kr_r E 346), (3, .int (nI i))] [] M := by
  obtain ⟨r, M1, M2, h1, h2, h3⟩ := hop 36 (by decide) (fun j => xs (i + j)) M hS
  refine kl_aload_n dL_law_1432 rfl 1 rfl ?_
  refine kl_aload_n dL_law_1433 rfl 0 rfl ?_
  refine kl_iload_n dL_law_1434 rfl 3 rfl ?_
  refine kl_iconst (v := 1) dL_law_1435 (by decide) ?_
  refine kl_iadd dL_law_1436 ?_
  refine kl_sld (j := i + 1) (by rw [show (1 : Int32) = nI 1 by decide, nI_add]) (by omega) hL dL_law_1437 ?_
  refine kl_call (As := [.int (xs (i + 1))]) (st := []) (f := f_X11_group (xs (i + 1)) M) (r := r) (M1 := M1) zv_X11_group dL_law_1438 (kr_t 1132 (by decide +kernel) rfl) kr_at_0 (r_X11_group E (xs (i + 1)) M) h1 rfl rfl (Nat.le_of_ble_eq_true rfl) rfl (by decide) (Nat.le_of_ble_eq_true rfl) ?_
  refine kl_aload_n dL_law_1441 rfl 2 rfl ?_
  refine kl_aload_n dL_law_1442 rfl 0 rfl ?_
  refine kl_iload_n dL_law_1443 rfl 3 rfl ?_
  refine kl_iconst (v := 1) dL_law_1444 (by decide) ?_
  refine kl_iadd dL_law_1445 ?_
  refine kl_sld (j := i + 1) (by rw [show (1 : Int32) = nI 1 by decide, nI_add]) (by omega) hL dL_law_1446 ?_
  refine kl_call (As := [.int (xs (i + 1))]) (st := [.int r]) (f := f_X12_group (xs (i + 1)) M1) (r := r) (M1 := M2) zv_X12_group dL_law_1447 (kr_t 2002 (by decide +kernel) rfl) kr_at_346 (r_X12_group E (xs (i + 1)) M1) h2 rfl rfl (Nat.le_of_ble_eq_true rfl) rfl (by decide) (Nat.le_of_ble_eq_true rfl) ?_
  refine kl_eq (tgt := 2161) dL_law_1450 (by decide) ?_
  exact hN M2 h3
theorem kl_case_37 {Sim : kr_M → Prop} (hop : kr_ok Sim) (E : kr_E) (b L : Nat) (xs : Nat → Int32) (i : Nat) (hi : i + 6 ≤ L) (hL : L ≤ 3072) (M : kr_M) (hS : Sim M) (hN : ∀ M2, Sim M2 → kL E b L xs 2161 [(0, .ref b), (1, kr_r E 0), (2, kr_r E 346), (3, .int (nI i))] [] M2) : kL E b L xs 1455 [(0, .ref b), (1, kr_r E 0), (2, kr_r E 346), (3, .int (nI i))] [] M := by
  obtain ⟨r, M1, M2, h1, h2, h3⟩ := hop 37 (by decide) (fun j => xs (i + j)) M hS
  refine kl_aload_n dL_law_1455 rfl 1 rfl ?_
  refine kl_aload_n dL_law_1456 rfl 0 rfl ?_
  refine kl_iload_n dL_law_1457 rfl 3 rfl ?_
  refine kl_iconst (v := 1) dL_law_1458 (by decide) ?_
  refine kl_iadd dL_law_1459 ?_
  refine kl_sld (j := i + 1) (by rw [show (1 : Int32) = nI 1 by decide, nI_add]) (by omega) hL dL_law_1460 ?_
  refine kl_aload_n dL_law_1461 rfl 0 rfl ?_
  refine kl_iload_n dL_law_1462 rfl 3 rfl ?_
  refine kl_iconst (v := 2) dL_law_1463 (by decide) ?_
  refine kl_iadd dL_law_1464 ?_
  refine kl_sld (j := i + 2) (by rw [show (2 : Int32) = nI 2 by decide, nI_add]) (by omega) hL dL_law_1465 ?_
  refine kl_call (As := [.int (xs (i + 1)), .int (xs (i + 2))]) (st := []) (f := f_X11_lasts (xs (i + 1)) (xs (i + 2)) M) (r := r) (M1 := M1) zv_X11_lasts dL_law_1466 (kr_t 1140 (by decide +kernel) rfl) kr_at_0 (r_X11_lasts E (xs (i + 1)) (xs (i + 2)) M) h1 rfl rfl (Nat.le_of_ble_eq_true rfl) rfl (by decide) (Nat.le_of_ble_eq_true rfl) ?_
  refine kl_aload_n dL_law_1469 rfl 2 rfl ?_
  refine kl_aload_n dL_law_1470 rfl 0 rfl ?_
  refine kl_iload_n dL_law_1471 rfl 3 rfl ?_
  refine kl_iconst (v := 1) dL_law_1472 (by decide) ?_
  refine kl_iadd dL_law_1473 ?_
  refine kl_sld (j := i + 1) (by rw [show (1 : Int32) = nI 1 by decide, nI_add]) (by omega) hL dL_law_1474 ?_
  refine kl_aload_n dL_law_1475 rfl 0 rfl ?_
  refine kl_iload_n dL_law_1476 rfl 3 rfl ?_
  refine kl_iconst (v := 2) dL_law_1477 (by decide) ?_
  refine kl_iadd dL_law_1478 ?_
  refine kl_sld (j := i + 2) (by rw [show (2 : Int32) = nI 2 by decide, nI_add]) (by omega) hL dL_law_1479 ?_
  refine kl_call (As := [.int (xs (i + 1)), .int (xs (i + 2))]) (st := [.int r]) (f := f_X12_lasts (xs (i + 1)) (xs (i + 2)) M1) (r := r) (M1 := M2) zv_X12_lasts dL_law_1480 (kr_t 2006 (by decide +kernel) rfl) kr_at_346 (r_X12_lasts E (xs (i + 1)) (xs (i + 2)) M1) h2 rfl rfl (Nat.le_of_ble_eq_true rfl) rfl (by decide) (Nat.le_of_ble_eq_true rfl) ?_
  refine kl_eq (tgt := 2161) dL_law_1483 (by decide) ?_
  exact hN M2 h3
theorem kl_case_38 {Sim : kr_M → Prop} (hop : kr_ok Sim) (E : kr_E) (b L : Nat) (xs : Nat → Int32) (i : Nat) (hi : i + 6 ≤ L) (hL : L ≤ 3072) (M : kr_M) (hS : Sim M) (hN : ∀ M2, Sim M2 → kL E b L xs 2161 [(0, .ref b), (1, kr_r E 0), (2, kr_r E 346), (3, .int (nI i))] [] M2) : kL E b L xs 1488 [(0, .ref b), (1, kr_r E 0), (2, kr_r E 346), (3, .int (nI i))] [] M := by
  obtain ⟨r, M1, M2, h1, h2, h3⟩ := hop 38 (by decide) (fun j => xs (i + j)) M hS
  refine kl_aload_n dL_law_1488 rfl 1 rfl ?_
  refine kl_aload_n dL_law_1489 rfl 0 rfl ?_
  refine kl_iload_n dL_law_1490 rfl 3 rfl ?_
  refine kl_iconst (v := 1) dL_law_1491 (by decide) ?_
  refine kl_iadd dL_law_1492 ?_
  refine kl_sld (j := i + 1) (by rw [show (1 : Int32) = nI 1 by decide, nI_add]) (by omega) hL dL_law_1493 ?_
  refine kl_call (As := [.int (xs (i + 1))]) (st := []) (f := f_X11_bears (xs (i + 1)) M) (r := r) (M1 := M1) zv_X11_bears dL_law_1494 (kr_t 1144 (by decide +kernel) rfl) kr_at_0 (r_X11_bears E (xs (i + 1)) M) h1 rfl rfl (Nat.le_of_ble_eq_true rfl) rfl (by decide) (Nat.le_of_ble_eq_true rfl) ?_
  refine kl_aload_n dL_law_1497 rfl 2 rfl ?_
  refine kl_aload_n dL_law_1498 rfl 0 rfl ?_
  refine kl_iload_n dL_law_1499 rfl 3 rfl ?_
  refine kl_iconst (v := 1) dL_law_1500 (by decide) ?_
  refine kl_iadd dL_law_1501 ?_
  refine kl_sld (j := i + 1) (by rw [show (1 : Int32) = nI 1 by decide, nI_add]) (by omega) hL dL_law_1502 ?_
  refine kl_call (As := [.int (xs (i + 1))]) (st := [.int r]) (f := f_X12_bears (xs (i + 1)) M1) (r := r) (M1 := M2) zv_X12_bears dL_law_1503 (kr_t 2011 (by decide +kernel) rfl) kr_at_346 (r_X12_bears E (xs (i + 1)) M1) h2 rfl rfl (Nat.le_of_ble_eq_true rfl) rfl (by decide) (Nat.le_of_ble_eq_true rfl) ?_
  refine kl_eq (tgt := 2161) dL_law_1506 (by decide) ?_
  exact hN M2 h3
theorem kl_case_39 {Sim : kr_M → Prop} (hop : kr_ok Sim) (E : kr_E) (b L : Nat) (xs : Nat → Int32) (i : Nat) (hi : i + 6 ≤ L) (hL : L ≤ 3072) (M : kr_M) (hS : Sim M) (hN : ∀ M2, Sim M2 → kL E b L xs 2161 [(0, .ref b), (1, kr_r E 0), (2, kr_r E 346), (3, .int (nI i))] [] M2) : kL E b L xs 1511 [(0, .ref b), (1, kr_r E 0), (2, kr_r E 346), (3, .int (nI i))] [] M := by
  obtain ⟨r, M1, M2, h1, h2, h3⟩ := hop 39 (by decide) (fun j => xs (i + j)) M hS
  refine kl_aload_n dL_law_1511 rfl 1 rfl ?_
  refine kl_aload_n dL_law_1512 rfl 0 rfl ?_
  refine kl_iload_n dL_law_1513 rfl 3 rfl ?_
  refine kl_iconst (v := 1) dL_law_1514 (by decide) ?_
  refine kl_iadd dL_law_1515 ?_
  refine kl_sld (j := i + 1) (by rw [show (1 : Int32) = nI 1 by decide, nI_add]) (by omega) hL dL_law_1516 ?_
  refine kl_aload_n dL_law_1517 rfl 0 rfl ?_
  refine kl_iload_n dL_law_1518 rfl 3 rfl ?_
  refine kl_iconst (v := 2) dL_law_1519 (by decide) ?_
  refine kl_iadd dL_law_1520 ?_
  refine kl_sld (j := i + 2) (by rw [show (2 : Int32) = nI 2 by decide, nI_add]) (by omega) hL dL_law_1521 ?_
  refine kl_call (As := [.int (xs (i + 1)), .int (xs (i + 2))]) (st := []) (f := f_X11_cross (xs (i + 1)) (xs (i + 2)) M) (r := r) (M1 := M1) zv_X11_cross dL_law_1522 (kr_t 1153 (by decide +kernel) rfl) kr_at_0 (r_X11_cross E (xs (i + 1)) (xs (i + 2)) M) h1 rfl rfl (Nat.le_of_ble_eq_true rfl) rfl (by decide) (Nat.le_of_ble_eq_true rfl) ?_
  refine kl_aload_n dL_law_1525 rfl 2 rfl ?_
  refine kl_aload_n dL_law_1526 rfl 0 rfl ?_
  refine kl_iload_n dL_law_1527 rfl 3 rfl ?_
  refine kl_iconst (v := 1) dL_law_1528 (by decide) ?_
  refine kl_iadd dL_law_1529 ?_
  refine kl_sld (j := i + 1) (by rw [show (1 : Int32) = nI 1 by decide, nI_add]) (by omega) hL dL_law_1530 ?_
  refine kl_aload_n dL_law_1531 rfl 0 rfl ?_
  refine kl_iload_n dL_law_1532 rfl 3 rfl ?_
  refine kl_iconst (v := 2) dL_law_1533 (by decide) ?_
  refine kl_iadd dL_law_1534 ?_
  refine kl_sld (j := i + 2) (by rw [show (2 : Int32) = nI 2 by decide, nI_add]) (by omega) hL dL_law_1535 ?_
  refine kl_call (As := [.int (xs (i + 1)), .int (xs (i + 2))]) (st := [.int r]) (f := f_X12_cross (xs (i + 1)) (xs (i + 2)) M1) (r := r) (M1 := M2) zv_X12_cross dL_law_1536 (kr_t 2015 (by decide +kernel) rfl) kr_at_346 (r_X12_cross E (xs (i + 1)) (xs (i + 2)) M1) h2 rfl rfl (Nat.le_of_ble_eq_true rfl) rfl (by decide) (Nat.le_of_ble_eq_true rfl) ?_
  refine kl_eq (tgt := 2161) dL_law_1539 (by decide) ?_
  exact hN M2 h3
theorem kl_case_40 {Sim : kr_M → Prop} (hop : kr_ok Sim) (E : kr_E) (b L : Nat) (xs : Nat → Int32) (i : Nat) (hi : i + 6 ≤ L) (hL : L ≤ 3072) (M : kr_M) (hS : Sim M) (hN : ∀ M2, Sim M2 → kL E b L xs 2161 [(0, .ref b), (1, kr_r E 0), (2, kr_r E 346), (3, .int (nI i))] [] M2) : kL E b L xs 1544 [(0, .ref b), (1, kr_r E 0), (2, kr_r E 346), (3, .int (nI i))] [] M := by
  obtain ⟨r, M1, M2, h1, h2, h3⟩ := hop 40 (by decide) (fun j => xs (i + j)) M hS
  refine kl_aload_n dL_law_1544 rfl 1 rfl ?_
  refine kl_aload_n dL_law_1545 rfl 0 rfl ?_
  refine kl_iload_n dL_law_1546 rfl 3 rfl ?_
  refine kl_iconst (v := 1) dL_law_1547 (by decide) ?_
  refine kl_iadd dL_law_1548 ?_
  refine kl_sld (j := i + 1) (by rw [show (1 : Int32) = nI 1 by decide, nI_add]) (by omega) hL dL_law_1549 ?_
  refine kl_aload_n dL_law_1550 rfl 0 rfl ?_
  refine kl_iload_n dL_law_1551 rfl 3 rfl ?_
  refine kl_iconst (v := 2) dL_law_1552 (by decide) ?_
  refine kl_iadd dL_law_1553 ?_
  refine kl_sld (j := i + 2) (by rw [show (2 : Int32) = nI 2 by decide, nI_add]) (by omega) hL dL_law_1554 ?_
  refine kl_aload_n dL_law_1555 rfl 0 rfl ?_
  refine kl_iload_n dL_law_1556 rfl 3 rfl ?_
  refine kl_iconst (v := 3) dL_law_1557 (by decide) ?_
  refine kl_iadd dL_law_1558 ?_
  refine kl_sld (j := i + 3) (by rw [show (3 : Int32) = nI 3 by decide, nI_add]) (by omega) hL dL_law_1559 ?_
  refine kl_call (As := [.int (xs (i + 1)), .int (xs (i + 2)), .int (xs (i + 3))]) (st := []) (f := f_X11_tie (xs (i + 1)) (xs (i + 2)) (xs (i + 3)) M) (r := r) (M1 := M1) zv_X11_tie dL_law_1560 (kr_t 1173 (by decide +kernel) rfl) kr_at_0 (r_X11_tie E (xs (i + 1)) (xs (i + 2)) (xs (i + 3)) M) h1 rfl rfl (Nat.le_of_ble_eq_true rfl) rfl (by decide) (Nat.le_of_ble_eq_true rfl) ?_
  refine kl_aload_n dL_law_1563 rfl 2 rfl ?_
  refine kl_aload_n dL_law_1564 rfl 0 rfl ?_
  refine kl_iload_n dL_law_1565 rfl 3 rfl ?_
  refine kl_iconst (v := 1) dL_law_1566 (by decide) ?_
  refine kl_iadd dL_law_1567 ?_
  refine kl_sld (j := i + 1) (by rw [show (1 : Int32) = nI 1 by decide, nI_add]) (by omega) hL dL_law_1568 ?_
  refine kl_aload_n dL_law_1569 rfl 0 rfl ?_
  refine kl_iload_n dL_law_1570 rfl 3 rfl ?_
  refine kl_iconst (v := 2) dL_law_1571 (by decide) ?_
  refine kl_iadd dL_law_1572 ?_
  refine kl_sld (j := i + 2) (by rw [show (2 : Int32) = nI 2 by decide, nI_add]) (by omega) hL dL_law_1573 ?_
  refine kl_aload_n dL_law_1574 rfl 0 rfl ?_
  refine kl_iload_n dL_law_1575 rfl 3 rfl ?_
  refine kl_iconst (v := 3) dL_law_1576 (by decide) ?_
  refine kl_iadd dL_law_1577 ?_
  refine kl_sld (j := i + 3) (by rw [show (3 : Int32) = nI 3 by decide, nI_add]) (by omega) hL dL_law_1578 ?_
  refine kl_call (As := [.int (xs (i + 1)), .int (xs (i + 2)), .int (xs (i + 3))]) (st := [.int r]) (f := f_X12_tie (xs (i + 1)) (xs (i + 2)) (xs (i + 3)) M1) (r := r) (M1 := M2) zv_X12_tie dL_law_1579 (kr_t 2027 (by decide +kernel) rfl) kr_at_346 (r_X12_tie E (xs (i + 1)) (xs (i + 2)) (xs (i + 3)) M1) h2 rfl rfl (Nat.le_of_ble_eq_true rfl) rfl (by decide) (Nat.le_of_ble_eq_true rfl) ?_
  refine kl_eq (tgt := 2161) dL_law_1582 (by decide) ?_
  exact hN M2 h3
theorem kl_case_41 {Sim : kr_M → Prop} (hop : kr_ok Sim) (E : kr_E) (b L : Nat) (xs : Nat → Int32) (i : Nat) (hi : i + 6 ≤ L) (hL : L ≤ 3072) (M : kr_M) (hS : Sim M) (hN : ∀ M2, Sim M2 → kL E b L xs 2161 [(0, .ref b), (1, kr_r E 0), (2, kr_r E 346), (3, .int (nI i))] [] M2) : kL E b L xs 1587 [(0, .ref b), (1, kr_r E 0), (2, kr_r E 346), (3, .int (nI i))] [] M := by
  obtain ⟨r, M1, M2, h1, h2, h3⟩ := hop 41 (by decide) (fun j => xs (i + j)) M hS
  refine kl_aload_n dL_law_1587 rfl 1 rfl ?_
  refine kl_aload_n dL_law_1588 rfl 0 rfl ?_
  refine kl_iload_n dL_law_1589 rfl 3 rfl ?_
  refine kl_iconst (v := 1) dL_law_1590 (by decide) ?_
  refine kl_iadd dL_law_1591 ?_
  refine kl_sld (j := i + 1) (by rw [show (1 : Int32) = nI 1 by decide, nI_add]) (by omega) hL dL_law_1592 ?_
  refine kl_aload_n dL_law_1593 rfl 0 rfl ?_
  refine kl_iload_n dL_law_1594 rfl 3 rfl ?_
  refine kl_iconst (v := 2) dL_law_1595 (by decide) ?_
  refine kl_iadd dL_law_1596 ?_
  refine kl_sld (j := i + 2) (by rw [show (2 : Int32) = nI 2 by decide, nI_add]) (by omega) hL dL_law_1597 ?_
  refine kl_call (As := [.int (xs (i + 1)), .int (xs (i + 2))]) (st := []) (f := f_X11_cut (xs (i + 1)) (xs (i + 2)) M) (r := r) (M1 := M1) zv_X11_cut dL_law_1598 (kr_t 1177 (by decide +kernel) rfl) kr_at_0 (r_X11_cut E (xs (i + 1)) (xs (i + 2)) M) h1 rfl rfl (Nat.le_of_ble_eq_true rfl) rfl (by decide) (Nat.le_of_ble_eq_true rfl) ?_
  refine kl_aload_n dL_law_1601 rfl 2 rfl ?_
  refine kl_aload_n dL_law_1602 rfl 0 rfl ?_
  refine kl_iload_n dL_law_1603 rfl 3 rfl ?_
  refine kl_iconst (v := 1) dL_law_1604 (by decide) ?_
  refine kl_iadd dL_law_1605 ?_
  refine kl_sld (j := i + 1) (by rw [show (1 : Int32) = nI 1 by decide, nI_add]) (by omega) hL dL_law_1606 ?_
  refine kl_aload_n dL_law_1607 rfl 0 rfl ?_
  refine kl_iload_n dL_law_1608 rfl 3 rfl ?_
  refine kl_iconst (v := 2) dL_law_1609 (by decide) ?_
  refine kl_iadd dL_law_1610 ?_
  refine kl_sld (j := i + 2) (by rw [show (2 : Int32) = nI 2 by decide, nI_add]) (by omega) hL dL_law_1611 ?_
  refine kl_call (As := [.int (xs (i + 1)), .int (xs (i + 2))]) (st := [.int r]) (f := f_X12_cut_ (xs (i + 1)) (xs (i + 2)) M1) (r := r) (M1 := M2) zv_X12_cut_ dL_law_1612 (kr_t 2031 (by decide +kernel) rfl) kr_at_346 (r_X12_cut_ E (xs (i + 1)) (xs (i + 2)) M1) h2 rfl rfl (Nat.le_of_ble_eq_true rfl) rfl (by decide) (Nat.le_of_ble_eq_true rfl) ?_
  refine kl_eq (tgt := 2161) dL_law_1615 (by decide) ?_
  exact hN M2 h3
theorem kl_case_42 {Sim : kr_M → Prop} (hop : kr_ok Sim) (E : kr_E) (b L : Nat) (xs : Nat → Int32) (i : Nat) (hi : i + 6 ≤ L) (hL : L ≤ 3072) (M : kr_M) (hS : Sim M) (hN : ∀ M2, Sim M2 → kL E b L xs 2161 [(0, .ref b), (1, kr_r E 0), (2, kr_r E 346), (3, .int (nI i))] [] M2) : kL E b L xs 1620 [(0, .ref b), (1, kr_r E 0), (2, kr_r E 346), (3, .int (nI i))] [] M := by
  obtain ⟨r, M1, M2, h1, h2, h3⟩ := hop 42 (by decide) (fun j => xs (i + j)) M hS
  refine kl_aload_n dL_law_1620 rfl 1 rfl ?_
  refine kl_aload_n dL_law_1621 rfl 0 rfl ?_
  refine kl_iload_n dL_law_1622 rfl 3 rfl ?_
  refine kl_iconst (v := 1) dL_law_1623 (by decide) ?_
  refine kl_iadd dL_law_1624 ?_
  refine kl_sld (j := i + 1) (by rw [show (1 : Int32) = nI 1 by decide, nI_add]) (by omega) hL dL_law_1625 ?_
  refine kl_aload_n dL_law_1626 rfl 0 rfl ?_
  refine kl_iload_n dL_law_1627 rfl 3 rfl ?_
  refine kl_iconst (v := 2) dL_law_1628 (by decide) ?_
  refine kl_iadd dL_law_1629 ?_
  refine kl_sld (j := i + 2) (by rw [show (2 : Int32) = nI 2 by decide, nI_add]) (by omega) hL dL_law_1630 ?_
  refine kl_call (As := [.int (xs (i + 1)), .int (xs (i + 2))]) (st := []) (f := f_X11_splice (xs (i + 1)) (xs (i + 2)) M) (r := r) (M1 := M1) zv_X11_splice dL_law_1631 (kr_t 1181 (by decide +kernel) rfl) kr_at_0 (r_X11_splice E (xs (i + 1)) (xs (i + 2)) M) h1 rfl rfl (Nat.le_of_ble_eq_true rfl) rfl (by decide) (Nat.le_of_ble_eq_true rfl) ?_
  refine kl_aload_n dL_law_1634 rfl 2 rfl ?_
  refine kl_aload_n dL_law_1635 rfl 0 rfl ?_
  refine kl_iload_n dL_law_1636 rfl 3 rfl ?_
  refine kl_iconst (v := 1) dL_law_1637 (by decide) ?_
  refine kl_iadd dL_law_1638 ?_
  refine kl_sld (j := i + 1) (by rw [show (1 : Int32) = nI 1 by decide, nI_add]) (by omega) hL dL_law_1639 ?_
  refine kl_aload_n dL_law_1640 rfl 0 rfl ?_
  refine kl_iload_n dL_law_1641 rfl 3 rfl ?_
  refine kl_iconst (v := 2) dL_law_1642 (by decide) ?_
  refine kl_iadd dL_law_1643 ?_
  refine kl_sld (j := i + 2) (by rw [show (2 : Int32) = nI 2 by decide, nI_add]) (by omega) hL dL_law_1644 ?_
  refine kl_call (As := [.int (xs (i + 1)), .int (xs (i + 2))]) (st := [.int r]) (f := f_X12_splice (xs (i + 1)) (xs (i + 2)) M1) (r := r) (M1 := M2) zv_X12_splice dL_law_1645 (kr_t 2035 (by decide +kernel) rfl) kr_at_346 (r_X12_splice E (xs (i + 1)) (xs (i + 2)) M1) h2 rfl rfl (Nat.le_of_ble_eq_true rfl) rfl (by decide) (Nat.le_of_ble_eq_true rfl) ?_
  refine kl_eq (tgt := 2161) dL_law_1648 (by decide) ?_
  exact hN M2 h3
theorem kl_case_43 {Sim : kr_M → Prop} (hop : kr_ok Sim) (E : kr_E) (b L : Nat) (xs : Nat → Int32) (i : Nat) (hi : i + 6 ≤ L) (hL : L ≤ 3072) (M : kr_M) (hS : Sim M) (hN : ∀ M2, Sim M2 → kL E b L xs 2161 [(0, .ref b), (1, kr_r E 0), (2, kr_r E 346), (3, .int (nI i))] [] M2) : kL E b L xs 1653 [(0, .ref b), (1, kr_r E 0), (2, kr_r E 346), (3, .int (nI i))] [] M := by
  obtain ⟨r, M1, M2, h1, h2, h3⟩ := hop 43 (by decide) (fun j => xs (i + j)) M hS
  refine kl_aload_n dL_law_1653 rfl 1 rfl ?_
  refine kl_aload_n dL_law_1654 rfl 0 rfl ?_
  refine kl_iload_n dL_law_1655 rfl 3 rfl ?_
  refine kl_iconst (v := 1) dL_law_1656 (by decide) ?_
  refine kl_iadd dL_law_1657 ?_
  refine kl_sld (j := i + 1) (by rw [show (1 : Int32) = nI 1 by decide, nI_add]) (by omega) hL dL_law_1658 ?_
  refine kl_call (As := [.int (xs (i + 1))]) (st := []) (f := f_X11_wet (xs (i + 1)) M) (r := r) (M1 := M1) zv_X11_wet dL_law_1659 (kr_t 1185 (by decide +kernel) rfl) kr_at_0 (r_X11_wet E (xs (i + 1)) M) h1 rfl rfl (Nat.le_of_ble_eq_true rfl) rfl (by decide) (Nat.le_of_ble_eq_true rfl) ?_
  refine kl_aload_n dL_law_1662 rfl 2 rfl ?_
  refine kl_aload_n dL_law_1663 rfl 0 rfl ?_
  refine kl_iload_n dL_law_1664 rfl 3 rfl ?_
  refine kl_iconst (v := 1) dL_law_1665 (by decide) ?_
  refine kl_iadd dL_law_1666 ?_
  refine kl_sld (j := i + 1) (by rw [show (1 : Int32) = nI 1 by decide, nI_add]) (by omega) hL dL_law_1667 ?_
  refine kl_call (As := [.int (xs (i + 1))]) (st := [.int r]) (f := f_X12_wet (xs (i + 1)) M1) (r := r) (M1 := M2) zv_X12_wet dL_law_1668 (kr_t 2039 (by decide +kernel) rfl) kr_at_346 (r_X12_wet E (xs (i + 1)) M1) h2 rfl rfl (Nat.le_of_ble_eq_true rfl) rfl (by decide) (Nat.le_of_ble_eq_true rfl) ?_
  refine kl_eq (tgt := 2161) dL_law_1671 (by decide) ?_
  exact hN M2 h3
theorem kl_case_44 {Sim : kr_M → Prop} (hop : kr_ok Sim) (E : kr_E) (b L : Nat) (xs : Nat → Int32) (i : Nat) (hi : i + 6 ≤ L) (hL : L ≤ 3072) (M : kr_M) (hS : Sim M) (hN : ∀ M2, Sim M2 → kL E b L xs 2161 [(0, .ref b), (1, kr_r E 0), (2, kr_r E 346), (3, .int (nI i))] [] M2) : kL E b L xs 1676 [(0, .ref b), (1, kr_r E 0), (2, kr_r E 346), (3, .int (nI i))] [] M := by
  obtain ⟨r, M1, M2, h1, h2, h3⟩ := hop 44 (by decide) (fun j => xs (i + j)) M hS
  refine kl_aload_n dL_law_1676 rfl 1 rfl ?_
  refine kl_call (As := []) (st := []) (f := f_X11_undo M) (r := r) (M1 := M1) zv_X11_undo dL_law_1677 (kr_t 1189 (by decide +kernel) rfl) kr_at_0 (r_X11_undo E  M) h1 rfl rfl (Nat.le_of_ble_eq_true rfl) rfl (by decide) (Nat.le_of_ble_eq_true rfl) ?_
  refine kl_aload_n dL_law_1680 rfl 2 rfl ?_
  refine kl_call (As := []) (st := [.int r]) (f := f_X12_undo M1) (r := r) (M1 := M2) zv_X12_undo dL_law_1681 (kr_t 2043 (by decide +kernel) rfl) kr_at_346 (r_X12_undo E  M1) h2 rfl rfl (Nat.le_of_ble_eq_true rfl) rfl (by decide) (Nat.le_of_ble_eq_true rfl) ?_
  refine kl_eq (tgt := 2161) dL_law_1684 (by decide) ?_
  exact hN M2 h3
theorem kl_case_45 {Sim : kr_M → Prop} (hop : kr_ok Sim) (E : kr_E) (b L : Nat) (xs : Nat → Int32) (i : Nat) (hi : i + 6 ≤ L) (hL : L ≤ 3072) (M : kr_M) (hS : Sim M) (hN : ∀ M2, Sim M2 → kL E b L xs 2161 [(0, .ref b), (1, kr_r E 0), (2, kr_r E 346), (3, .int (nI i))] [] M2) : kL E b L xs 1689 [(0, .ref b), (1, kr_r E 0), (2, kr_r E 346), (3, .int (nI i))] [] M := by
  obtain ⟨r, M1, M2, h1, h2, h3⟩ := hop 45 (by decide) (fun j => xs (i + j)) M hS
  refine kl_aload_n dL_law_1689 rfl 1 rfl ?_
  refine kl_call (As := []) (st := []) (f := f_X11_anew M) (r := r) (M1 := M1) zv_X11_anew dL_law_1690 (kr_t 1198 (by decide +kernel) rfl) kr_at_0 (r_X11_anew E  M) h1 rfl rfl (Nat.le_of_ble_eq_true rfl) rfl (by decide) (Nat.le_of_ble_eq_true rfl) ?_
  refine kl_aload_n dL_law_1693 rfl 2 rfl ?_
  refine kl_call (As := []) (st := [.int r]) (f := f_X12_anew M1) (r := r) (M1 := M2) zv_X12_anew dL_law_1694 (kr_t 2047 (by decide +kernel) rfl) kr_at_346 (r_X12_anew E  M1) h2 rfl rfl (Nat.le_of_ble_eq_true rfl) rfl (by decide) (Nat.le_of_ble_eq_true rfl) ?_
  refine kl_eq (tgt := 2161) dL_law_1697 (by decide) ?_
  exact hN M2 h3
theorem kl_case_46 {Sim : kr_M → Prop} (hop : kr_ok Sim) (E : kr_E) (b L : Nat) (xs : Nat → Int32) (i : Nat) (hi : i + 6 ≤ L) (hL : L ≤ 3072) (M : kr_M) (hS : Sim M) (hN : ∀ M2, Sim M2 → kL E b L xs 2161 [(0, .ref b), (1, kr_r E 0), (2, kr_r E 346), (3, .int (nI i))] [] M2) : kL E b L xs 1702 [(0, .ref b), (1, kr_r E 0), (2, kr_r E 346), (3, .int (nI i))] [] M := by
  obtain ⟨r, M1, M2, h1, h2, h3⟩ := hop 46 (by decide) (fun j => xs (i + j)) M hS
  refine kl_aload_n dL_law_1702 rfl 1 rfl ?_
  refine kl_aload_n dL_law_1703 rfl 0 rfl ?_
  refine kl_iload_n dL_law_1704 rfl 3 rfl ?_
  refine kl_iconst (v := 1) dL_law_1705 (by decide) ?_
  refine kl_iadd dL_law_1706 ?_
  refine kl_sld (j := i + 1) (by rw [show (1 : Int32) = nI 1 by decide, nI_add]) (by omega) hL dL_law_1707 ?_
  refine kl_aload_n dL_law_1708 rfl 0 rfl ?_
  refine kl_iload_n dL_law_1709 rfl 3 rfl ?_
  refine kl_iconst (v := 2) dL_law_1710 (by decide) ?_
  refine kl_iadd dL_law_1711 ?_
  refine kl_sld (j := i + 2) (by rw [show (2 : Int32) = nI 2 by decide, nI_add]) (by omega) hL dL_law_1712 ?_
  refine kl_aload_n dL_law_1713 rfl 0 rfl ?_
  refine kl_iload_n dL_law_1714 rfl 3 rfl ?_
  refine kl_iconst (v := 3) dL_law_1715 (by decide) ?_
  refine kl_iadd dL_law_1716 ?_
  refine kl_sld (j := i + 3) (by rw [show (3 : Int32) = nI 3 by decide, nI_add]) (by omega) hL dL_law_1717 ?_
  refine kl_call (As := [.int (xs (i + 1)), .int (xs (i + 2)), .int (xs (i + 3))]) (st := []) (f := f_X11_drawn (xs (i + 1)) (xs (i + 2)) (xs (i + 3)) M) (r := r) (M1 := M1) zv_X11_drawn dL_law_1718 (kr_t 1202 (by decide +kernel) rfl) kr_at_0 (r_X11_drawn E (xs (i + 1)) (xs (i + 2)) (xs (i + 3)) M) h1 rfl rfl (Nat.le_of_ble_eq_true rfl) rfl (by decide) (Nat.le_of_ble_eq_true rfl) ?_
  refine kl_aload_n dL_law_1721 rfl 2 rfl ?_
  refine kl_aload_n dL_law_1722 rfl 0 rfl ?_
  refine kl_iload_n dL_law_1723 rfl 3 rfl ?_
  refine kl_iconst (v := 1) dL_law_1724 (by decide) ?_
  refine kl_iadd dL_law_1725 ?_
  refine kl_sld (j := i + 1) (by rw [show (1 : Int32) = nI 1 by decide, nI_add]) (by omega) hL dL_law_1726 ?_
  refine kl_aload_n dL_law_1727 rfl 0 rfl ?_
  refine kl_iload_n dL_law_1728 rfl 3 rfl ?_
  refine kl_iconst (v := 2) dL_law_1729 (by decide) ?_
  refine kl_iadd dL_law_1730 ?_
  refine kl_sld (j := i + 2) (by rw [show (2 : Int32) = nI 2 by decide, nI_add]) (by omega) hL dL_law_1731 ?_
  refine kl_aload_n dL_law_1732 rfl 0 rfl ?_
  refine kl_iload_n dL_law_1733 rfl 3 rfl ?_
  refine kl_iconst (v := 3) dL_law_1734 (by decide) ?_
  refine kl_iadd dL_law_1735 ?_
  refine kl_sld (j := i + 3) (by rw [show (3 : Int32) = nI 3 by decide, nI_add]) (by omega) hL dL_law_1736 ?_
  refine kl_call (As := [.int (xs (i + 1)), .int (xs (i + 2)), .int (xs (i + 3))]) (st := [.int r]) (f := f_X12_drawn (xs (i + 1)) (xs (i + 2)) (xs (i + 3)) M1) (r := r) (M1 := M2) zv_X12_drawn dL_law_1737 (kr_t 2051 (by decide +kernel) rfl) kr_at_346 (r_X12_drawn E (xs (i + 1)) (xs (i + 2)) (xs (i + 3)) M1) h2 rfl rfl (Nat.le_of_ble_eq_true rfl) rfl (by decide) (Nat.le_of_ble_eq_true rfl) ?_
  refine kl_eq (tgt := 2161) dL_law_1740 (by decide) ?_
  exact hN M2 h3
theorem kl_case_47 {Sim : kr_M → Prop} (hop : kr_ok Sim) (E : kr_E) (b L : Nat) (xs : Nat → Int32) (i : Nat) (hi : i + 6 ≤ L) (hL : L ≤ 3072) (M : kr_M) (hS : Sim M) (hN : ∀ M2, Sim M2 → kL E b L xs 2161 [(0, .ref b), (1, kr_r E 0), (2, kr_r E 346), (3, .int (nI i))] [] M2) : kL E b L xs 1745 [(0, .ref b), (1, kr_r E 0), (2, kr_r E 346), (3, .int (nI i))] [] M := by
  obtain ⟨r, M1, M2, h1, h2, h3⟩ := hop 47 (by decide) (fun j => xs (i + j)) M hS
  refine kl_aload_n dL_law_1745 rfl 1 rfl ?_
  refine kl_aload_n dL_law_1746 rfl 0 rfl ?_
  refine kl_iload_n dL_law_1747 rfl 3 rfl ?_
  refine kl_iconst (v := 1) dL_law_1748 (by decide) ?_
  refine kl_iadd dL_law_1749 ?_
  refine kl_sld (j := i + 1) (by rw [show (1 : Int32) = nI 1 by decide, nI_add]) (by omega) hL dL_law_1750 ?_
  refine kl_aload_n dL_law_1751 rfl 0 rfl ?_
  refine kl_iload_n dL_law_1752 rfl 3 rfl ?_
  refine kl_iconst (v := 2) dL_law_1753 (by decide) ?_
  refine kl_iadd dL_law_1754 ?_
  refine kl_sld (j := i + 2) (by rw [show (2 : Int32) = nI 2 by decide, nI_add]) (by omega) hL dL_law_1755 ?_
  refine kl_aload_n dL_law_1756 rfl 0 rfl ?_
  refine kl_iload_n dL_law_1757 rfl 3 rfl ?_
  refine kl_iconst (v := 3) dL_law_1758 (by decide) ?_
  refine kl_iadd dL_law_1759 ?_
  refine kl_sld (j := i + 3) (by rw [show (3 : Int32) = nI 3 by decide, nI_add]) (by omega) hL dL_law_1760 ?_
  refine kl_call (As := [.int (xs (i + 1)), .int (xs (i + 2)), .int (xs (i + 3))]) (st := []) (f := f_X11_winters (xs (i + 1)) (xs (i + 2)) (xs (i + 3)) M) (r := r) (M1 := M1) zv_X11_winters dL_law_1761 (kr_t 1224 (by decide +kernel) rfl) kr_at_0 (r_X11_winters E (xs (i + 1)) (xs (i + 2)) (xs (i + 3)) M) h1 rfl rfl (Nat.le_of_ble_eq_true rfl) rfl (by decide) (Nat.le_of_ble_eq_true rfl) ?_
  refine kl_aload_n dL_law_1764 rfl 2 rfl ?_
  refine kl_aload_n dL_law_1765 rfl 0 rfl ?_
  refine kl_iload_n dL_law_1766 rfl 3 rfl ?_
  refine kl_iconst (v := 1) dL_law_1767 (by decide) ?_
  refine kl_iadd dL_law_1768 ?_
  refine kl_sld (j := i + 1) (by rw [show (1 : Int32) = nI 1 by decide, nI_add]) (by omega) hL dL_law_1769 ?_
  refine kl_aload_n dL_law_1770 rfl 0 rfl ?_
  refine kl_iload_n dL_law_1771 rfl 3 rfl ?_
  refine kl_iconst (v := 2) dL_law_1772 (by decide) ?_
  refine kl_iadd dL_law_1773 ?_
  refine kl_sld (j := i + 2) (by rw [show (2 : Int32) = nI 2 by decide, nI_add]) (by omega) hL dL_law_1774 ?_
  refine kl_aload_n dL_law_1775 rfl 0 rfl ?_
  refine kl_iload_n dL_law_1776 rfl 3 rfl ?_
  refine kl_iconst (v := 3) dL_law_1777 (by decide) ?_
  refine kl_iadd dL_law_1778 ?_
  refine kl_sld (j := i + 3) (by rw [show (3 : Int32) = nI 3 by decide, nI_add]) (by omega) hL dL_law_1779 ?_
  refine kl_call (As := [.int (xs (i + 1)), .int (xs (i + 2)), .int (xs (i + 3))]) (st := [.int r]) (f := f_X12_winters (xs (i + 1)) (xs (i + 2)) (xs (i + 3)) M1) (r := r) (M1 := M2) zv_X12_winters dL_law_1780 (kr_t 2069 (by decide +kernel) rfl) kr_at_346 (r_X12_winters E (xs (i + 1)) (xs (i + 2)) (xs (i + 3)) M1) h2 rfl rfl (Nat.le_of_ble_eq_true rfl) rfl (by decide) (Nat.le_of_ble_eq_true rfl) ?_
  refine kl_eq (tgt := 2161) dL_law_1783 (by decide) ?_
  exact hN M2 h3
theorem kl_case_48 {Sim : kr_M → Prop} (hop : kr_ok Sim) (E : kr_E) (b L : Nat) (xs : Nat → Int32) (i : Nat) (hi : i + 6 ≤ L) (hL : L ≤ 3072) (M : kr_M) (hS : Sim M) (hN : ∀ M2, Sim M2 → kL E b L xs 2161 [(0, .ref b), (1, kr_r E 0), (2, kr_r E 346), (3, .int (nI i))] [] M2) : kL E b L xs 1788 [(0, .ref b), (1, kr_r E 0), (2, kr_r E 346), (3, .int (nI i))] [] M := by
  obtain ⟨r, M1, M2, h1, h2, h3⟩ := hop 48 (by decide) (fun j => xs (i + j)) M hS
  refine kl_aload_n dL_law_1788 rfl 1 rfl ?_
  refine kl_aload_n dL_law_1789 rfl 0 rfl ?_
  refine kl_iload_n dL_law_1790 rfl 3 rfl ?_
  refine kl_iconst (v := 1) dL_law_1791 (by decide) ?_
  refine kl_iadd dL_law_1792 ?_
  refine kl_sld (j := i + 1) (by rw [show (1 : Int32) = nI 1 by decide, nI_add]) (by omega) hL dL_law_1793 ?_
  refine kl_call (As := [.int (xs (i + 1))]) (st := []) (f := f_X11_text (xs (i + 1)) M) (r := r) (M1 := M1) zv_X11_text dL_law_1794 (kr_t 1228 (by decide +kernel) rfl) kr_at_0 (r_X11_text E (xs (i + 1)) M) h1 rfl rfl (Nat.le_of_ble_eq_true rfl) rfl (by decide) (Nat.le_of_ble_eq_true rfl) ?_
  refine kl_aload_n dL_law_1797 rfl 2 rfl ?_
  refine kl_aload_n dL_law_1798 rfl 0 rfl ?_
  refine kl_iload_n dL_law_1799 rfl 3 rfl ?_
  refine kl_iconst (v := 1) dL_law_1800 (by decide) ?_
  refine kl_iadd dL_law_1801 ?_
  refine kl_sld (j := i + 1) (by rw [show (1 : Int32) = nI 1 by decide, nI_add]) (by omega) hL dL_law_1802 ?_
  refine kl_call (As := [.int (xs (i + 1))]) (st := [.int r]) (f := f_X12_text (xs (i + 1)) M1) (r := r) (M1 := M2) zv_X12_text dL_law_1803 (kr_t 2074 (by decide +kernel) rfl) kr_at_346 (r_X12_text E (xs (i + 1)) M1) h2 rfl rfl (Nat.le_of_ble_eq_true rfl) rfl (by decide) (Nat.le_of_ble_eq_true rfl) ?_
  refine kl_eq (tgt := 2161) dL_law_1806 (by decide) ?_
  exact hN M2 h3
theorem kl_case_49 {Sim : kr_M → Prop} (hop : kr_ok Sim) (E : kr_E) (b L : Nat) (xs : Nat → Int32) (i : Nat) (hi : i + 6 ≤ L) (hL : L ≤ 3072) (M : kr_M) (hS : Sim M) (hN : ∀ M2, Sim M2 → kL E b L xs 2161 [(0, .ref b), (1, kr_r E 0), (2, kr_r E 346), (3, .int (nI i))] [] M2) : kL E b L xs 1811 [(0, .ref b), (1, kr_r E 0), (2, kr_r E 346), (3, .int (nI i))] [] M := by
  obtain ⟨r, M1, M2, h1, h2, h3⟩ := hop 49 (by decide) (fun j => xs (i + j)) M hS
  refine kl_aload_n dL_law_1811 rfl 1 rfl ?_
  refine kl_aload_n dL_law_1812 rfl 0 rfl ?_
  refine kl_iload_n dL_law_1813 rfl 3 rfl ?_
  refine kl_iconst (v := 1) dL_law_1814 (by decide) ?_
  refine kl_iadd dL_law_1815 ?_
  refine kl_sld (j := i + 1) (by rw [show (1 : Int32) = nI 1 by decide, nI_add]) (by omega) hL dL_law_1816 ?_
  refine kl_call (As := [.int (xs (i + 1))]) (st := []) (f := f_X11_like (xs (i + 1)) M) (r := r) (M1 := M1) zv_X11_like dL_law_1817 (kr_t 1240 (by decide +kernel) rfl) kr_at_0 (r_X11_like E (xs (i + 1)) M) h1 rfl rfl (Nat.le_of_ble_eq_true rfl) rfl (by decide) (Nat.le_of_ble_eq_true rfl) ?_
  refine kl_aload_n dL_law_1820 rfl 2 rfl ?_
  refine kl_aload_n dL_law_1821 rfl 0 rfl ?_
  refine kl_iload_n dL_law_1822 rfl 3 rfl ?_
  refine kl_iconst (v := 1) dL_law_1823 (by decide) ?_
  refine kl_iadd dL_law_1824 ?_
  refine kl_sld (j := i + 1) (by rw [show (1 : Int32) = nI 1 by decide, nI_add]) (by omega) hL dL_law_1825 ?_
  refine kl_call (As := [.int (xs (i + 1))]) (st := [.int r]) (f := f_X12_like (xs (i + 1)) M1) (r := r) (M1 := M2) zv_X12_like dL_law_1826 (kr_t 2086 (by decide +kernel) rfl) kr_at_346 (r_X12_like E (xs (i + 1)) M1) h2 rfl rfl (Nat.le_of_ble_eq_true rfl) rfl (by decide) (Nat.le_of_ble_eq_true rfl) ?_
  refine kl_eq (tgt := 2161) dL_law_1829 (by decide) ?_
  exact hN M2 h3
theorem kl_case_50 {Sim : kr_M → Prop} (hop : kr_ok Sim) (E : kr_E) (b L : Nat) (xs : Nat → Int32) (i : Nat) (hi : i + 6 ≤ L) (hL : L ≤ 3072) (M : kr_M) (hS : Sim M) (hN : ∀ M2, Sim M2 → kL E b L xs 2161 [(0, .ref b), (1, kr_r E 0), (2, kr_r E 346), (3, .int (nI i))] [] M2) : kL E b L xs 1834 [(0, .ref b), (1, kr_r E 0), (2, kr_r E 346), (3, .int (nI i))] [] M := by
  obtain ⟨r, M1, M2, h1, h2, h3⟩ := hop 50 (by decide) (fun j => xs (i + j)) M hS
  refine kl_aload_n dL_law_1834 rfl 1 rfl ?_
  refine kl_aload_n dL_law_1835 rfl 0 rfl ?_
  refine kl_iload_n dL_law_1836 rfl 3 rfl ?_
  refine kl_iconst (v := 1) dL_law_1837 (by decide) ?_
  refine kl_iadd dL_law_1838 ?_
  refine kl_sld (j := i + 1) (by rw [show (1 : Int32) = nI 1 by decide, nI_add]) (by omega) hL dL_law_1839 ?_
  refine kl_call (As := [.int (xs (i + 1))]) (st := []) (f := f_X11_found (xs (i + 1)) M) (r := r) (M1 := M1) zv_X11_found dL_law_1840 (kr_t 1244 (by decide +kernel) rfl) kr_at_0 (r_X11_found E (xs (i + 1)) M) h1 rfl rfl (Nat.le_of_ble_eq_true rfl) rfl (by decide) (Nat.le_of_ble_eq_true rfl) ?_
  refine kl_aload_n dL_law_1843 rfl 2 rfl ?_
  refine kl_aload_n dL_law_1844 rfl 0 rfl ?_
  refine kl_iload_n dL_law_1845 rfl 3 rfl ?_
  refine kl_iconst (v := 1) dL_law_1846 (by decide) ?_
  refine kl_iadd dL_law_1847 ?_
  refine kl_sld (j := i + 1) (by rw [show (1 : Int32) = nI 1 by decide, nI_add]) (by omega) hL dL_law_1848 ?_
  refine kl_call (As := [.int (xs (i + 1))]) (st := [.int r]) (f := f_X12_found (xs (i + 1)) M1) (r := r) (M1 := M2) zv_X12_found dL_law_1849 (kr_t 2090 (by decide +kernel) rfl) kr_at_346 (r_X12_found E (xs (i + 1)) M1) h2 rfl rfl (Nat.le_of_ble_eq_true rfl) rfl (by decide) (Nat.le_of_ble_eq_true rfl) ?_
  refine kl_eq (tgt := 2161) dL_law_1852 (by decide) ?_
  exact hN M2 h3
theorem kl_case_51 {Sim : kr_M → Prop} (hop : kr_ok Sim) (E : kr_E) (b L : Nat) (xs : Nat → Int32) (i : Nat) (hi : i + 6 ≤ L) (hL : L ≤ 3072) (M : kr_M) (hS : Sim M) (hN : ∀ M2, Sim M2 → kL E b L xs 2161 [(0, .ref b), (1, kr_r E 0), (2, kr_r E 346), (3, .int (nI i))] [] M2) : kL E b L xs 1857 [(0, .ref b), (1, kr_r E 0), (2, kr_r E 346), (3, .int (nI i))] [] M := by
  obtain ⟨r, M1, M2, h1, h2, h3⟩ := hop 51 (by decide) (fun j => xs (i + j)) M hS
  refine kl_aload_n dL_law_1857 rfl 1 rfl ?_
  refine kl_aload_n dL_law_1858 rfl 0 rfl ?_
  refine kl_iload_n dL_law_1859 rfl 3 rfl ?_
  refine kl_iconst (v := 1) dL_law_1860 (by decide) ?_
  refine kl_iadd dL_law_1861 ?_
  refine kl_sld (j := i + 1) (by rw [show (1 : Int32) = nI 1 by decide, nI_add]) (by omega) hL dL_law_1862 ?_
  refine kl_call (As := [.int (xs (i + 1))]) (st := []) (f := f_X11_mend (xs (i + 1)) M) (r := r) (M1 := M1) zv_X11_mend dL_law_1863 (kr_t 1248 (by decide +kernel) rfl) kr_at_0 (r_X11_mend E (xs (i + 1)) M) h1 rfl rfl (Nat.le_of_ble_eq_true rfl) rfl (by decide) (Nat.le_of_ble_eq_true rfl) ?_
  refine kl_aload_n dL_law_1866 rfl 2 rfl ?_
  refine kl_aload_n dL_law_1867 rfl 0 rfl ?_
  refine kl_iload_n dL_law_1868 rfl 3 rfl ?_
  refine kl_iconst (v := 1) dL_law_1869 (by decide) ?_
  refine kl_iadd dL_law_1870 ?_
  refine kl_sld (j := i + 1) (by rw [show (1 : Int32) = nI 1 by decide, nI_add]) (by omega) hL dL_law_1871 ?_
  refine kl_call (As := [.int (xs (i + 1))]) (st := [.int r]) (f := f_X12_mend (xs (i + 1)) M1) (r := r) (M1 := M2) zv_X12_mend dL_law_1872 (kr_t 2094 (by decide +kernel) rfl) kr_at_346 (r_X12_mend E (xs (i + 1)) M1) h2 rfl rfl (Nat.le_of_ble_eq_true rfl) rfl (by decide) (Nat.le_of_ble_eq_true rfl) ?_
  refine kl_eq (tgt := 2161) dL_law_1875 (by decide) ?_
  exact hN M2 h3
theorem kl_case_52 {Sim : kr_M → Prop} (hop : kr_ok Sim) (E : kr_E) (b L : Nat) (xs : Nat → Int32) (i : Nat) (hi : i + 6 ≤ L) (hL : L ≤ 3072) (M : kr_M) (hS : Sim M) (hN : ∀ M2, Sim M2 → kL E b L xs 2161 [(0, .ref b), (1, kr_r E 0), (2, kr_r E 346), (3, .int (nI i))] [] M2) : kL E b L xs 1880 [(0, .ref b), (1, kr_r E 0), (2, kr_r E 346), (3, .int (nI i))] [] M := by
  obtain ⟨r, M1, M2, h1, h2, h3⟩ := hop 52 (by decide) (fun j => xs (i + j)) M hS
  refine kl_aload_n dL_law_1880 rfl 1 rfl ?_
  refine kl_aload_n dL_law_1881 rfl 0 rfl ?_
  refine kl_iload_n dL_law_1882 rfl 3 rfl ?_
  refine kl_iconst (v := 1) dL_law_1883 (by decide) ?_
  refine kl_iadd dL_law_1884 ?_
  refine kl_sld (j := i + 1) (by rw [show (1 : Int32) = nI 1 by decide, nI_add]) (by omega) hL dL_law_1885 ?_
  refine kl_aload_n dL_law_1886 rfl 0 rfl ?_
  refine kl_iload_n dL_law_1887 rfl 3 rfl ?_
  refine kl_iconst (v := 2) dL_law_1888 (by decide) ?_
  refine kl_iadd dL_law_1889 ?_
  refine kl_sld (j := i + 2) (by rw [show (2 : Int32) = nI 2 by decide, nI_add]) (by omega) hL dL_law_1890 ?_
  refine kl_call (As := [.int (xs (i + 1)), .int (xs (i + 2))]) (st := []) (f := f_X11_mended (xs (i + 1)) (xs (i + 2)) M) (r := r) (M1 := M1) zv_X11_mended dL_law_1891 (kr_t 1268 (by decide +kernel) rfl) kr_at_0 (r_X11_mended E (xs (i + 1)) (xs (i + 2)) M) h1 rfl rfl (Nat.le_of_ble_eq_true rfl) rfl (by decide) (Nat.le_of_ble_eq_true rfl) ?_
  refine kl_aload_n dL_law_1894 rfl 2 rfl ?_
  refine kl_aload_n dL_law_1895 rfl 0 rfl ?_
  refine kl_iload_n dL_law_1896 rfl 3 rfl ?_
  refine kl_iconst (v := 1) dL_law_1897 (by decide) ?_
  refine kl_iadd dL_law_1898 ?_
  refine kl_sld (j := i + 1) (by rw [show (1 : Int32) = nI 1 by decide, nI_add]) (by omega) hL dL_law_1899 ?_
  refine kl_aload_n dL_law_1900 rfl 0 rfl ?_
  refine kl_iload_n dL_law_1901 rfl 3 rfl ?_
  refine kl_iconst (v := 2) dL_law_1902 (by decide) ?_
  refine kl_iadd dL_law_1903 ?_
  refine kl_sld (j := i + 2) (by rw [show (2 : Int32) = nI 2 by decide, nI_add]) (by omega) hL dL_law_1904 ?_
  refine kl_call (As := [.int (xs (i + 1)), .int (xs (i + 2))]) (st := [.int r]) (f := f_X12_mended (xs (i + 1)) (xs (i + 2)) M1) (r := r) (M1 := M2) zv_X12_mended dL_law_1905 (kr_t 2106 (by decide +kernel) rfl) kr_at_346 (r_X12_mended E (xs (i + 1)) (xs (i + 2)) M1) h2 rfl rfl (Nat.le_of_ble_eq_true rfl) rfl (by decide) (Nat.le_of_ble_eq_true rfl) ?_
  refine kl_eq (tgt := 2161) dL_law_1908 (by decide) ?_
  exact hN M2 h3
theorem kl_case_53 {Sim : kr_M → Prop} (hop : kr_ok Sim) (E : kr_E) (b L : Nat) (xs : Nat → Int32) (i : Nat) (hi : i + 6 ≤ L) (hL : L ≤ 3072) (M : kr_M) (hS : Sim M) (hN : ∀ M2, Sim M2 → kL E b L xs 2161 [(0, .ref b), (1, kr_r E 0), (2, kr_r E 346), (3, .int (nI i))] [] M2) : kL E b L xs 1913 [(0, .ref b), (1, kr_r E 0), (2, kr_r E 346), (3, .int (nI i))] [] M := by
  obtain ⟨r, M1, M2, h1, h2, h3⟩ := hop 53 (by decide) (fun j => xs (i + j)) M hS
  refine kl_aload_n dL_law_1913 rfl 1 rfl ?_
  refine kl_aload_n dL_law_1914 rfl 0 rfl ?_
  refine kl_iload_n dL_law_1915 rfl 3 rfl ?_
  refine kl_iconst (v := 1) dL_law_1916 (by decide) ?_
  refine kl_iadd dL_law_1917 ?_
  refine kl_sld (j := i + 1) (by rw [show (1 : Int32) = nI 1 by decide, nI_add]) (by omega) hL dL_law_1918 ?_
  refine kl_call (As := [.int (xs (i + 1))]) (st := []) (f := f_X11_count (xs (i + 1)) M) (r := r) (M1 := M1) zv_X11_count dL_law_1919 (kr_t 1276 (by decide +kernel) rfl) kr_at_0 (r_X11_count E (xs (i + 1)) M) h1 rfl rfl (Nat.le_of_ble_eq_true rfl) rfl (by decide) (Nat.le_of_ble_eq_true rfl) ?_
  refine kl_aload_n dL_law_1922 rfl 2 rfl ?_
  refine kl_aload_n dL_law_1923 rfl 0 rfl ?_
  refine kl_iload_n dL_law_1924 rfl 3 rfl ?_
  refine kl_iconst (v := 1) dL_law_1925 (by decide) ?_
  refine kl_iadd dL_law_1926 ?_
  refine kl_sld (j := i + 1) (by rw [show (1 : Int32) = nI 1 by decide, nI_add]) (by omega) hL dL_law_1927 ?_
  refine kl_call (As := [.int (xs (i + 1))]) (st := [.int r]) (f := f_X12_count (xs (i + 1)) M1) (r := r) (M1 := M2) zv_X12_count dL_law_1928 (kr_t 2110 (by decide +kernel) rfl) kr_at_346 (r_X12_count E (xs (i + 1)) M1) h2 rfl rfl (Nat.le_of_ble_eq_true rfl) rfl (by decide) (Nat.le_of_ble_eq_true rfl) ?_
  refine kl_eq (tgt := 2161) dL_law_1931 (by decide) ?_
  exact hN M2 h3
theorem kl_case_54 {Sim : kr_M → Prop} (hop : kr_ok Sim) (E : kr_E) (b L : Nat) (xs : Nat → Int32) (i : Nat) (hi : i + 6 ≤ L) (hL : L ≤ 3072) (M : kr_M) (hS : Sim M) (hN : ∀ M2, Sim M2 → kL E b L xs 2161 [(0, .ref b), (1, kr_r E 0), (2, kr_r E 346), (3, .int (nI i))] [] M2) : kL E b L xs 1936 [(0, .ref b), (1, kr_r E 0), (2, kr_r E 346), (3, .int (nI i))] [] M := by
  obtain ⟨r, M1, M2, h1, h2, h3⟩ := hop 54 (by decide) (fun j => xs (i + j)) M hS
  refine kl_aload_n dL_law_1936 rfl 1 rfl ?_
  refine kl_aload_n dL_law_1937 rfl 0 rfl ?_
  refine kl_iload_n dL_law_1938 rfl 3 rfl ?_
  refine kl_iconst (v := 1) dL_law_1939 (by decide) ?_
  refine kl_iadd dL_law_1940 ?_
  refine kl_sld (j := i + 1) (by rw [show (1 : Int32) = nI 1 by decide, nI_add]) (by omega) hL dL_law_1941 ?_
  refine kl_call (As := [.int (xs (i + 1))]) (st := []) (f := f_X11_image (xs (i + 1)) M) (r := r) (M1 := M1) zv_X11_image dL_law_1942 (kr_t 1288 (by decide +kernel) rfl) kr_at_0 (r_X11_image E (xs (i + 1)) M) h1 rfl rfl (Nat.le_of_ble_eq_true rfl) rfl (by decide) (Nat.le_of_ble_eq_true rfl) ?_
  refine kl_aload_n dL_law_1945 rfl 2 rfl ?_
  refine kl_aload_n dL_law_1946 rfl 0 rfl ?_
  refine kl_iload_n dL_law_1947 rfl 3 rfl ?_
  refine kl_iconst (v := 1) dL_law_1948 (by decide) ?_
  refine kl_iadd dL_law_1949 ?_
  refine kl_sld (j := i + 1) (by rw [show (1 : Int32) = nI 1 by decide, nI_add]) (by omega) hL dL_law_1950 ?_
  refine kl_call (As := [.int (xs (i + 1))]) (st := [.int r]) (f := f_X12_image (xs (i + 1)) M1) (r := r) (M1 := M2) zv_X12_image dL_law_1951 (kr_t 2114 (by decide +kernel) rfl) kr_at_346 (r_X12_image E (xs (i + 1)) M1) h2 rfl rfl (Nat.le_of_ble_eq_true rfl) rfl (by decide) (Nat.le_of_ble_eq_true rfl) ?_
  refine kl_eq (tgt := 2161) dL_law_1954 (by decide) ?_
  exact hN M2 h3
theorem kl_case_55 {Sim : kr_M → Prop} (hop : kr_ok Sim) (E : kr_E) (b L : Nat) (xs : Nat → Int32) (i : Nat) (hi : i + 6 ≤ L) (hL : L ≤ 3072) (M : kr_M) (hS : Sim M) (hN : ∀ M2, Sim M2 → kL E b L xs 2161 [(0, .ref b), (1, kr_r E 0), (2, kr_r E 346), (3, .int (nI i))] [] M2) : kL E b L xs 1959 [(0, .ref b), (1, kr_r E 0), (2, kr_r E 346), (3, .int (nI i))] [] M := by
  obtain ⟨r, M1, M2, h1, h2, h3⟩ := hop 55 (by decide) (fun j => xs (i + j)) M hS
  refine kl_aload_n dL_law_1959 rfl 1 rfl ?_
  refine kl_aload_n dL_law_1960 rfl 0 rfl ?_
  refine kl_iload_n dL_law_1961 rfl 3 rfl ?_
  refine kl_iconst (v := 1) dL_law_1962 (by decide) ?_
  refine kl_iadd dL_law_1963 ?_
  refine kl_sld (j := i + 1) (by rw [show (1 : Int32) = nI 1 by decide, nI_add]) (by omega) hL dL_law_1964 ?_
  refine kl_call (As := [.int (xs (i + 1))]) (st := []) (f := f_X11_back (xs (i + 1)) M) (r := r) (M1 := M1) zv_X11_back dL_law_1965 (kr_t 1301 (by decide +kernel) rfl) kr_at_0 (r_X11_back E (xs (i + 1)) M) h1 rfl rfl (Nat.le_of_ble_eq_true rfl) rfl (by decide) (Nat.le_of_ble_eq_true rfl) ?_
  refine kl_aload_n dL_law_1968 rfl 2 rfl ?_
  refine kl_aload_n dL_law_1969 rfl 0 rfl ?_
  refine kl_iload_n dL_law_1970 rfl 3 rfl ?_
  refine kl_iconst (v := 1) dL_law_1971 (by decide) ?_
  refine kl_iadd dL_law_1972 ?_
  refine kl_sld (j := i + 1) (by rw [show (1 : Int32) = nI 1 by decide, nI_add]) (by omega) hL dL_law_1973 ?_
  refine kl_call (As := [.int (xs (i + 1))]) (st := [.int r]) (f := f_X12_back (xs (i + 1)) M1) (r := r) (M1 := M2) zv_X12_back dL_law_1974 (kr_t 2118 (by decide +kernel) rfl) kr_at_346 (r_X12_back E (xs (i + 1)) M1) h2 rfl rfl (Nat.le_of_ble_eq_true rfl) rfl (by decide) (Nat.le_of_ble_eq_true rfl) ?_
  refine kl_eq (tgt := 2161) dL_law_1977 (by decide) ?_
  exact hN M2 h3
theorem kl_case_56 {Sim : kr_M → Prop} (hop : kr_ok Sim) (E : kr_E) (b L : Nat) (xs : Nat → Int32) (i : Nat) (hi : i + 6 ≤ L) (hL : L ≤ 3072) (M : kr_M) (hS : Sim M) (hN : ∀ M2, Sim M2 → kL E b L xs 2161 [(0, .ref b), (1, kr_r E 0), (2, kr_r E 346), (3, .int (nI i))] [] M2) : kL E b L xs 1982 [(0, .ref b), (1, kr_r E 0), (2, kr_r E 346), (3, .int (nI i))] [] M := by
  obtain ⟨r, M1, M2, h1, h2, h3⟩ := hop 56 (by decide) (fun j => xs (i + j)) M hS
  refine kl_aload_n dL_law_1982 rfl 1 rfl ?_
  refine kl_aload_n dL_law_1983 rfl 0 rfl ?_
  refine kl_iload_n dL_law_1984 rfl 3 rfl ?_
  refine kl_iconst (v := 1) dL_law_1985 (by decide) ?_
  refine kl_iadd dL_law_1986 ?_
  refine kl_sld (j := i + 1) (by rw [show (1 : Int32) = nI 1 by decide, nI_add]) (by omega) hL dL_law_1987 ?_
  refine kl_aload_n dL_law_1988 rfl 0 rfl ?_
  refine kl_iload_n dL_law_1989 rfl 3 rfl ?_
  refine kl_iconst (v := 2) dL_law_1990 (by decide) ?_
  refine kl_iadd dL_law_1991 ?_
  refine kl_sld (j := i + 2) (by rw [show (2 : Int32) = nI 2 by decide, nI_add]) (by omega) hL dL_law_1992 ?_
  refine kl_aload_n dL_law_1993 rfl 0 rfl ?_
  refine kl_iload_n dL_law_1994 rfl 3 rfl ?_
  refine kl_iconst (v := 3) dL_law_1995 (by decide) ?_
  refine kl_iadd dL_law_1996 ?_
  refine kl_sld (j := i + 3) (by rw [show (3 : Int32) = nI 3 by decide, nI_add]) (by omega) hL dL_law_1997 ?_
  refine kl_call (As := [.int (xs (i + 1)), .int (xs (i + 2)), .int (xs (i + 3))]) (st := []) (f := f_X11_row (xs (i + 1)) (xs (i + 2)) (xs (i + 3)) M) (r := r) (M1 := M1) zv_X11_row dL_law_1998 (kr_t 1305 (by decide +kernel) rfl) kr_at_0 (r_X11_row E (xs (i + 1)) (xs (i + 2)) (xs (i + 3)) M) h1 rfl rfl (Nat.le_of_ble_eq_true rfl) rfl (by decide) (Nat.le_of_ble_eq_true rfl) ?_
  refine kl_aload_n dL_law_2001 rfl 2 rfl ?_
  refine kl_aload_n dL_law_2002 rfl 0 rfl ?_
  refine kl_iload_n dL_law_2003 rfl 3 rfl ?_
  refine kl_iconst (v := 1) dL_law_2004 (by decide) ?_
  refine kl_iadd dL_law_2005 ?_
  refine kl_sld (j := i + 1) (by rw [show (1 : Int32) = nI 1 by decide, nI_add]) (by omega) hL dL_law_2006 ?_
  refine kl_aload_n dL_law_2007 rfl 0 rfl ?_
  refine kl_iload_n dL_law_2008 rfl 3 rfl ?_
  refine kl_iconst (v := 2) dL_law_2009 (by decide) ?_
  refine kl_iadd dL_law_2010 ?_
  refine kl_sld (j := i + 2) (by rw [show (2 : Int32) = nI 2 by decide, nI_add]) (by omega) hL dL_law_2011 ?_
  refine kl_aload_n dL_law_2012 rfl 0 rfl ?_
  refine kl_iload_n dL_law_2013 rfl 3 rfl ?_
  refine kl_iconst (v := 3) dL_law_2014 (by decide) ?_
  refine kl_iadd dL_law_2015 ?_
  refine kl_sld (j := i + 3) (by rw [show (3 : Int32) = nI 3 by decide, nI_add]) (by omega) hL dL_law_2016 ?_
  refine kl_call (As := [.int (xs (i + 1)), .int (xs (i + 2)), .int (xs (i + 3))]) (st := [.int r]) (f := f_X12_row (xs (i + 1)) (xs (i + 2)) (xs (i + 3)) M1) (r := r) (M1 := M2) zv_X12_row dL_law_2017 (kr_t 1519 (by decide +kernel) rfl) kr_at_346 (r_X12_row E (xs (i + 1)) (xs (i + 2)) (xs (i + 3)) M1) h2 rfl rfl (Nat.le_of_ble_eq_true rfl) rfl (by decide) (Nat.le_of_ble_eq_true rfl) ?_
  refine kl_eq (tgt := 2161) dL_law_2020 (by decide) ?_
  exact hN M2 h3
theorem kl_case_57 {Sim : kr_M → Prop} (hop : kr_ok Sim) (E : kr_E) (b L : Nat) (xs : Nat → Int32) (i : Nat) (hi : i + 6 ≤ L) (hL : L ≤ 3072) (M : kr_M) (hS : Sim M) (hN : ∀ M2, Sim M2 → kL E b L xs 2161 [(0, .ref b), (1, kr_r E 0), (2, kr_r E 346), (3, .int (nI i))] [] M2) : kL E b L xs 2025 [(0, .ref b), (1, kr_r E 0), (2, kr_r E 346), (3, .int (nI i))] [] M := by
  obtain ⟨r, M1, M2, h1, h2, h3⟩ := hop 57 (by decide) (fun j => xs (i + j)) M hS
  refine kl_aload_n dL_law_2025 rfl 1 rfl ?_
  refine kl_aload_n dL_law_2026 rfl 0 rfl ?_
  refine kl_iload_n dL_law_2027 rfl 3 rfl ?_
  refine kl_iconst (v := 1) dL_law_2028 (by decide) ?_
  refine kl_iadd dL_law_2029 ?_
  refine kl_sld (j := i + 1) (by rw [show (1 : Int32) = nI 1 by decide, nI_add]) (by omega) hL dL_law_2030 ?_
  refine kl_aload_n dL_law_2031 rfl 0 rfl ?_
  refine kl_iload_n dL_law_2032 rfl 3 rfl ?_
  refine kl_iconst (v := 2) dL_law_2033 (by decide) ?_
  refine kl_iadd dL_law_2034 ?_
  refine kl_sld (j := i + 2) (by rw [show (2 : Int32) = nI 2 by decide, nI_add]) (by omega) hL dL_law_2035 ?_
  refine kl_aload_n dL_law_2036 rfl 0 rfl ?_
  refine kl_iload_n dL_law_2037 rfl 3 rfl ?_
  refine kl_iconst (v := 3) dL_law_2038 (by decide) ?_
  refine kl_iadd dL_law_2039 ?_
  refine kl_sld (j := i + 3) (by rw [show (3 : Int32) = nI 3 by decide, nI_add]) (by omega) hL dL_law_2040 ?_
  refine kl_i2l dL_law_2041 ?_
  refine kl_bipush (v := 32) dL_law_2042 (by decide) ?_
  refine kl_lshl dL_law_2044 ?_
  refine kl_aload_n dL_law_2045 rfl 0 rfl ?_
  refine kl_iload_n dL_law_2046 rfl 3 rfl ?_
  refine kl_iconst (v := 4) dL_law_2047 (by decide) ?_
  refine kl_iadd dL_law_2048 ?_
  refine kl_sld (j := i + 4) (by rw [show (4 : Int32) = nI 4 by decide, nI_add]) (by omega) hL dL_law_2049 ?_
  refine kl_i2l dL_law_2050 ?_
  refine kl_ldc2 (v := 4294967295) dL_law_2051 (kr_t 2122 (by decide +kernel) rfl) ?_
  refine kl_land dL_law_2054 ?_
  refine kl_lor dL_law_2055 ?_
  refine kl_call (As := [.int (xs (i + 1)), .int (xs (i + 2)), .long ((((xs (i + 3)).toInt64) <<< ((32 : Int32).toInt64 &&& 63)) ||| (((xs (i + 4)).toInt64) &&& (4294967295 : Int64)))]) (st := []) (f := f_X11_write (xs (i + 1)) (xs (i + 2)) ((((xs (i + 3)).toInt64) <<< ((32 : Int32).toInt64 &&& 63)) ||| (((xs (i + 4)).toInt64) &&& (4294967295 : Int64))) M) (r := r) (M1 := M1) zv_X11_write dL_law_2056 (kr_t 1309 (by decide +kernel) rfl) kr_at_0 (r_X11_write E (xs (i + 1)) (xs (i + 2)) ((((xs (i + 3)).toInt64) <<< ((32 : Int32).toInt64 &&& 63)) ||| (((xs (i + 4)).toInt64) &&& (4294967295 : Int64))) M) h1 rfl rfl (Nat.le_of_ble_eq_true rfl) rfl (by decide) (Nat.le_of_ble_eq_true rfl) ?_
  refine kl_aload_n dL_law_2059 rfl 2 rfl ?_
  refine kl_aload_n dL_law_2060 rfl 0 rfl ?_
  refine kl_iload_n dL_law_2061 rfl 3 rfl ?_
  refine kl_iconst (v := 1) dL_law_2062 (by decide) ?_
  refine kl_iadd dL_law_2063 ?_
  refine kl_sld (j := i + 1) (by rw [show (1 : Int32) = nI 1 by decide, nI_add]) (by omega) hL dL_law_2064 ?_
  refine kl_aload_n dL_law_2065 rfl 0 rfl ?_
  refine kl_iload_n dL_law_2066 rfl 3 rfl ?_
  refine kl_iconst (v := 2) dL_law_2067 (by decide) ?_
  refine kl_iadd dL_law_2068 ?_
  refine kl_sld (j := i + 2) (by rw [show (2 : Int32) = nI 2 by decide, nI_add]) (by omega) hL dL_law_2069 ?_
  refine kl_aload_n dL_law_2070 rfl 0 rfl ?_
  refine kl_iload_n dL_law_2071 rfl 3 rfl ?_
  refine kl_iconst (v := 3) dL_law_2072 (by decide) ?_
  refine kl_iadd dL_law_2073 ?_
  refine kl_sld (j := i + 3) (by rw [show (3 : Int32) = nI 3 by decide, nI_add]) (by omega) hL dL_law_2074 ?_
  refine kl_i2l dL_law_2075 ?_
  refine kl_bipush (v := 32) dL_law_2076 (by decide) ?_
  refine kl_lshl dL_law_2078 ?_
  refine kl_aload_n dL_law_2079 rfl 0 rfl ?_
  refine kl_iload_n dL_law_2080 rfl 3 rfl ?_
  refine kl_iconst (v := 4) dL_law_2081 (by decide) ?_
  refine kl_iadd dL_law_2082 ?_
  refine kl_sld (j := i + 4) (by rw [show (4 : Int32) = nI 4 by decide, nI_add]) (by omega) hL dL_law_2083 ?_
  refine kl_i2l dL_law_2084 ?_
  refine kl_ldc2 (v := 4294967295) dL_law_2085 (kr_t 2122 (by decide +kernel) rfl) ?_
  refine kl_land dL_law_2088 ?_
  refine kl_lor dL_law_2089 ?_
  refine kl_call (As := [.int (xs (i + 1)), .int (xs (i + 2)), .long ((((xs (i + 3)).toInt64) <<< ((32 : Int32).toInt64 &&& 63)) ||| (((xs (i + 4)).toInt64) &&& (4294967295 : Int64)))]) (st := [.int r]) (f := f_X12_write (xs (i + 1)) (xs (i + 2)) ((((xs (i + 3)).toInt64) <<< ((32 : Int32).toInt64 &&& 63)) ||| (((xs (i + 4)).toInt64) &&& (4294967295 : Int64))) M1) (r := r) (M1 := M2) zv_X12_write dL_law_2090 (kr_t 1530 (by decide +kernel) rfl) kr_at_346 (r_X12_write E (xs (i + 1)) (xs (i + 2)) ((((xs (i + 3)).toInt64) <<< ((32 : Int32).toInt64 &&& 63)) ||| (((xs (i + 4)).toInt64) &&& (4294967295 : Int64))) M1) h2 rfl rfl (Nat.le_of_ble_eq_true rfl) rfl (by decide) (Nat.le_of_ble_eq_true rfl) ?_
  refine kl_eq (tgt := 2161) dL_law_2093 (by decide) ?_
  exact hN M2 h3
theorem kl_case_58 {Sim : kr_M → Prop} (hop : kr_ok Sim) (E : kr_E) (b L : Nat) (xs : Nat → Int32) (i : Nat) (hi : i + 6 ≤ L) (hL : L ≤ 3072) (M : kr_M) (hS : Sim M) (hN : ∀ M2, Sim M2 → kL E b L xs 2161 [(0, .ref b), (1, kr_r E 0), (2, kr_r E 346), (3, .int (nI i))] [] M2) : kL E b L xs 2098 [(0, .ref b), (1, kr_r E 0), (2, kr_r E 346), (3, .int (nI i))] [] M := by
  obtain ⟨r, M1, M2, h1, h2, h3⟩ := hop 58 (by decide) (fun j => xs (i + j)) M hS
  refine kl_aload_n dL_law_2098 rfl 1 rfl ?_
  refine kl_aload_n dL_law_2099 rfl 0 rfl ?_
  refine kl_iload_n dL_law_2100 rfl 3 rfl ?_
  refine kl_iconst (v := 1) dL_law_2101 (by decide) ?_
  refine kl_iadd dL_law_2102 ?_
  refine kl_sld (j := i + 1) (by rw [show (1 : Int32) = nI 1 by decide, nI_add]) (by omega) hL dL_law_2103 ?_
  refine kl_aload_n dL_law_2104 rfl 0 rfl ?_
  refine kl_iload_n dL_law_2105 rfl 3 rfl ?_
  refine kl_iconst (v := 2) dL_law_2106 (by decide) ?_
  refine kl_iadd dL_law_2107 ?_
  refine kl_sld (j := i + 2) (by rw [show (2 : Int32) = nI 2 by decide, nI_add]) (by omega) hL dL_law_2108 ?_
  refine kl_aload_n dL_law_2109 rfl 0 rfl ?_
  refine kl_iload_n dL_law_2110 rfl 3 rfl ?_
  refine kl_iconst (v := 3) dL_law_2111 (by decide) ?_
  refine kl_iadd dL_law_2112 ?_
  refine kl_sld (j := i + 3) (by rw [show (3 : Int32) = nI 3 by decide, nI_add]) (by omega) hL dL_law_2113 ?_
  refine kl_aload_n dL_law_2114 rfl 0 rfl ?_
  refine kl_iload_n dL_law_2115 rfl 3 rfl ?_
  refine kl_iconst (v := 4) dL_law_2116 (by decide) ?_
  refine kl_iadd dL_law_2117 ?_
  refine kl_sld (j := i + 4) (by rw [show (4 : Int32) = nI 4 by decide, nI_add]) (by omega) hL dL_law_2118 ?_
  refine kl_aload_n dL_law_2119 rfl 0 rfl ?_
  refine kl_iload_n dL_law_2120 rfl 3 rfl ?_
  refine kl_iconst (v := 5) dL_law_2121 (by decide) ?_
  refine kl_iadd dL_law_2122 ?_
  refine kl_sld (j := i + 5) (by rw [show (5 : Int32) = nI 5 by decide, nI_add]) (by omega) hL dL_law_2123 ?_
  refine kl_call (As := [.int (xs (i + 1)), .int (xs (i + 2)), .int (xs (i + 3)), .int (xs (i + 4)), .int (xs (i + 5))]) (st := []) (f := f_X11_paste (xs (i + 1)) (xs (i + 2)) (xs (i + 3)) (xs (i + 4)) (xs (i + 5)) M) (r := r) (M1 := M1) zv_X11_paste dL_law_2124 (kr_t 1316 (by decide +kernel) rfl) kr_at_0 (r_X11_paste E (xs (i + 1)) (xs (i + 2)) (xs (i + 3)) (xs (i + 4)) (xs (i + 5)) M) h1 rfl rfl (Nat.le_of_ble_eq_true rfl) rfl (by decide) (Nat.le_of_ble_eq_true rfl) ?_
  refine kl_aload_n dL_law_2127 rfl 2 rfl ?_
  refine kl_aload_n dL_law_2128 rfl 0 rfl ?_
  refine kl_iload_n dL_law_2129 rfl 3 rfl ?_
  refine kl_iconst (v := 1) dL_law_2130 (by decide) ?_
  refine kl_iadd dL_law_2131 ?_
  refine kl_sld (j := i + 1) (by rw [show (1 : Int32) = nI 1 by decide, nI_add]) (by omega) hL dL_law_2132 ?_
  refine kl_aload_n dL_law_2133 rfl 0 rfl ?_
  refine kl_iload_n dL_law_2134 rfl 3 rfl ?_
  refine kl_iconst (v := 2) dL_law_2135 (by decide) ?_
  refine kl_iadd dL_law_2136 ?_
  refine kl_sld (j := i + 2) (by rw [show (2 : Int32) = nI 2 by decide, nI_add]) (by omega) hL dL_law_2137 ?_
  refine kl_aload_n dL_law_2138 rfl 0 rfl ?_
  refine kl_iload_n dL_law_2139 rfl 3 rfl ?_
  refine kl_iconst (v := 3) dL_law_2140 (by decide) ?_
  refine kl_iadd dL_law_2141 ?_
  refine kl_sld (j := i + 3) (by rw [show (3 : Int32) = nI 3 by decide, nI_add]) (by omega) hL dL_law_2142 ?_
  refine kl_aload_n dL_law_2143 rfl 0 rfl ?_
  refine kl_iload_n dL_law_2144 rfl 3 rfl ?_
  refine kl_iconst (v := 4) dL_law_2145 (by decide) ?_
  refine kl_iadd dL_law_2146 ?_
  refine kl_sld (j := i + 4) (by rw [show (4 : Int32) = nI 4 by decide, nI_add]) (by omega) hL dL_law_2147 ?_
  refine kl_aload_n dL_law_2148 rfl 0 rfl ?_
  refine kl_iload_n dL_law_2149 rfl 3 rfl ?_
  refine kl_iconst (v := 5) dL_law_2150 (by decide) ?_
  refine kl_iadd dL_law_2151 ?_
  refine kl_sld (j := i + 5) (by rw [show (5 : Int32) = nI 5 by decide, nI_add]) (by omega) hL dL_law_2152 ?_
  refine kl_call (As := [.int (xs (i + 1)), .int (xs (i + 2)), .int (xs (i + 3)), .int (xs (i + 4)), .int (xs (i + 5))]) (st := [.int r]) (f := f_X12_paste (xs (i + 1)) (xs (i + 2)) (xs (i + 3)) (xs (i + 4)) (xs (i + 5)) M1) (r := r) (M1 := M2) zv_X12_paste dL_law_2153 (kr_t 1537 (by decide +kernel) rfl) kr_at_346 (r_X12_paste E (xs (i + 1)) (xs (i + 2)) (xs (i + 3)) (xs (i + 4)) (xs (i + 5)) M1) h2 rfl rfl (Nat.le_of_ble_eq_true rfl) rfl (by decide) (Nat.le_of_ble_eq_true rfl) ?_
  refine kl_eq (tgt := 2161) dL_law_2156 (by decide) ?_
  exact hN M2 h3
theorem kl_loop {Sim : kr_M → Prop} (hop : kr_ok Sim) (E : kr_E) (b L : Nat) (xs : Nat → Int32) (hL : L ≤ 3072) : ∀ (n i : Nat) (M : kr_M), Sim M → L + 6 < i + n → i ≤ L + 6 → kL E b L xs 18 [(0, .ref b), (1, kr_r E 0), (2, kr_r E 346), (3, .int (nI i))] [] M := by
  intro n
  induction n with
  | zero => intro i M hS h1 h2; omega
  | succ n ih =>
    intro i M hSim h1 h2
    refine kl_iload_n dL_law_18 rfl 3 rfl ?_
    refine kl_aload_n dL_law_19 rfl 0 rfl ?_
    refine kl_slen dL_law_20 ?_
    refine kl_bipush (v := 6) dL_law_21 (by decide) ?_
    refine kl_isub dL_law_23 ?_
    have e6 : (nI L - 6).toInt = (L : Int) - 6 := by
      have := pk_sub_toInt (a := L) (b := 6) (by omega) (by omega)
      rw [show (6 : Int32) = nI 6 by decide]
      simpa using this
    have ei : (nI i).toInt = (i : Int) := nI_toInt (by omega)
    refine kl_icmp_gt (tgt := 2167) dL_law_24 (by decide) (fun _ => kl_ret dL_law_2167 dL_law_2168) (fun hc => ?_)
    have hi : i + 6 ≤ L := by
      have h5 : ¬ (nI L - 6).toInt < (nI i).toInt := fun h => hc (Int32.lt_iff_toInt_lt.mpr h)
      rw [e6, ei] at h5
      omega
    have hN : ∀ M2, Sim M2 → kL E b L xs 2161 [(0, .ref b), (1, kr_r E 0), (2, kr_r E 346), (3, .int (nI i))] [] M2 := by
      intro M2 h3
      refine kl_iinc (j := 3) (v := nI (i + 6)) (lv' := [(3, .int (nI (i + 6))), (0, .ref b), (1, kr_r E 0), (2, kr_r E 346)]) dL_law_2161 rfl (by rw [← nI_add]; rfl) (by decide) rfl ?_
      refine kl_goto (tgt := 18) dL_law_2164 (by decide) ?_
      refine kl_sub [1, 2, 3, 0] rfl ?_
      exact ih (i + 6) M2 h3 (by omega) (by omega)
    refine kl_aload_n dL_law_27 rfl 0 rfl ?_
    refine kl_iload_n dL_law_28 rfl 3 rfl ?_
    refine kl_sld (j := i) rfl (by omega) hL dL_law_29 ?_
    refine kl_bipush (v := 63) dL_law_30 (by decide) ?_
    refine kl_iand dL_law_32 ?_
    generalize xs i &&& 63 = v
    by_cases c0 : v = 0
    · exact kl_tin (v := 0) (off := 251) (tgt := 284) c0 dL_law_33 (by decide) (by decide) (by decide) (by decide) (kl_case_0 hop E b L xs i hi hL M hSim hN)
    by_cases c1 : v = 1
    · exact kl_tin (v := 1) (off := 314) (tgt := 347) c1 dL_law_33 (by decide) (by decide) (by decide) (by decide) (kl_case_1 hop E b L xs i hi hL M hSim hN)
    by_cases c2 : v = 2
    · exact kl_tin (v := 2) (off := 337) (tgt := 370) c2 dL_law_33 (by decide) (by decide) (by decide) (by decide) (kl_case_2 hop E b L xs i hi hL M hSim hN)
    by_cases c3 : v = 3
    · exact kl_tin (v := 3) (off := 350) (tgt := 383) c3 dL_law_33 (by decide) (by decide) (by decide) (by decide) (kl_case_3 hop E b L xs i hi hL M hSim hN)
    by_cases c4 : v = 4
    · exact kl_tin (v := 4) (off := 373) (tgt := 406) c4 dL_law_33 (by decide) (by decide) (by decide) (by decide) (kl_case_4 hop E b L xs i hi hL M hSim hN)
    by_cases c5 : v = 5
    · exact kl_tin (v := 5) (off := 406) (tgt := 439) c5 dL_law_33 (by decide) (by decide) (by decide) (by decide) (kl_case_5 hop E b L xs i hi hL M hSim hN)
    by_cases c6 : v = 6
    · exact kl_tin (v := 6) (off := 439) (tgt := 472) c6 dL_law_33 (by decide) (by decide) (by decide) (by decide) (kl_case_6 hop E b L xs i hi hL M hSim hN)
    by_cases c7 : v = 7
    · exact kl_tin (v := 7) (off := 462) (tgt := 495) c7 dL_law_33 (by decide) (by decide) (by decide) (by decide) (kl_case_7 hop E b L xs i hi hL M hSim hN)
    by_cases c8 : v = 8
    · exact kl_tin (v := 8) (off := 495) (tgt := 528) c8 dL_law_33 (by decide) (by decide) (by decide) (by decide) (kl_case_8 hop E b L xs i hi hL M hSim hN)
    by_cases c9 : v = 9
    · exact kl_tin (v := 9) (off := 528) (tgt := 561) c9 dL_law_33 (by decide) (by decide) (by decide) (by decide) (kl_case_9 hop E b L xs i hi hL M hSim hN)
    by_cases c10 : v = 10
    · exact kl_tin (v := 10) (off := 561) (tgt := 594) c10 dL_law_33 (by decide) (by decide) (by decide) (by decide) (kl_case_10 hop E b L xs i hi hL M hSim hN)
    by_cases c11 : v = 11
    · exact kl_tin (v := 11) (off := 594) (tgt := 627) c11 dL_law_33 (by decide) (by decide) (by decide) (by decide) (kl_case_11 hop E b L xs i hi hL M hSim hN)
    by_cases c12 : v = 12
    · exact kl_tin (v := 12) (off := 637) (tgt := 670) c12 dL_law_33 (by decide) (by decide) (by decide) (by decide) (kl_case_12 hop E b L xs i hi hL M hSim hN)
    by_cases c13 : v = 13
    · exact kl_tin (v := 13) (off := 680) (tgt := 713) c13 dL_law_33 (by decide) (by decide) (by decide) (by decide) (kl_case_13 hop E b L xs i hi hL M hSim hN)
    by_cases c14 : v = 14
    · exact kl_tin (v := 14) (off := 723) (tgt := 756) c14 dL_law_33 (by decide) (by decide) (by decide) (by decide) (kl_case_14 hop E b L xs i hi hL M hSim hN)
    by_cases c15 : v = 15
    · exact kl_tin (v := 15) (off := 756) (tgt := 789) c15 dL_law_33 (by decide) (by decide) (by decide) (by decide) (kl_case_15 hop E b L xs i hi hL M hSim hN)
    by_cases c16 : v = 16
    · exact kl_tin (v := 16) (off := 799) (tgt := 832) c16 dL_law_33 (by decide) (by decide) (by decide) (by decide) (kl_case_16 hop E b L xs i hi hL M hSim hN)
    by_cases c17 : v = 17
    · exact kl_tin (v := 17) (off := 822) (tgt := 855) c17 dL_law_33 (by decide) (by decide) (by decide) (by decide) (kl_case_17 hop E b L xs i hi hL M hSim hN)
    by_cases c18 : v = 18
    · exact kl_tin (v := 18) (off := 845) (tgt := 878) c18 dL_law_33 (by decide) (by decide) (by decide) (by decide) (kl_case_18 hop E b L xs i hi hL M hSim hN)
    by_cases c19 : v = 19
    · exact kl_tin (v := 19) (off := 868) (tgt := 901) c19 dL_law_33 (by decide) (by decide) (by decide) (by decide) (kl_case_19 hop E b L xs i hi hL M hSim hN)
    by_cases c20 : v = 20
    · exact kl_tin (v := 20) (off := 891) (tgt := 924) c20 dL_law_33 (by decide) (by decide) (by decide) (by decide) (kl_case_20 hop E b L xs i hi hL M hSim hN)
    by_cases c21 : v = 21
    · exact kl_tin (v := 21) (off := 914) (tgt := 947) c21 dL_law_33 (by decide) (by decide) (by decide) (by decide) (kl_case_21 hop E b L xs i hi hL M hSim hN)
    by_cases c22 : v = 22
    · exact kl_tin (v := 22) (off := 947) (tgt := 980) c22 dL_law_33 (by decide) (by decide) (by decide) (by decide) (kl_case_22 hop E b L xs i hi hL M hSim hN)
    by_cases c23 : v = 23
    · exact kl_tin (v := 23) (off := 980) (tgt := 1013) c23 dL_law_33 (by decide) (by decide) (by decide) (by decide) (kl_case_23 hop E b L xs i hi hL M hSim hN)
    by_cases c24 : v = 24
    · exact kl_tin (v := 24) (off := 993) (tgt := 1026) c24 dL_law_33 (by decide) (by decide) (by decide) (by decide) (kl_case_24 hop E b L xs i hi hL M hSim hN)
    by_cases c25 : v = 25
    · exact kl_tin (v := 25) (off := 1016) (tgt := 1049) c25 dL_law_33 (by decide) (by decide) (by decide) (by decide) (kl_case_25 hop E b L xs i hi hL M hSim hN)
    by_cases c26 : v = 26
    · exact kl_tin (v := 26) (off := 1049) (tgt := 1082) c26 dL_law_33 (by decide) (by decide) (by decide) (by decide) (kl_case_26 hop E b L xs i hi hL M hSim hN)
    by_cases c27 : v = 27
    · exact kl_tin (v := 27) (off := 1082) (tgt := 1115) c27 dL_law_33 (by decide) (by decide) (by decide) (by decide) (kl_case_27 hop E b L xs i hi hL M hSim hN)
    by_cases c28 : v = 28
    · exact kl_tin (v := 28) (off := 1115) (tgt := 1148) c28 dL_law_33 (by decide) (by decide) (by decide) (by decide) (kl_case_28 hop E b L xs i hi hL M hSim hN)
    by_cases c29 : v = 29
    · exact kl_tin (v := 29) (off := 1138) (tgt := 1171) c29 dL_law_33 (by decide) (by decide) (by decide) (by decide) (kl_case_29 hop E b L xs i hi hL M hSim hN)
    by_cases c30 : v = 30
    · exact kl_tin (v := 30) (off := 1161) (tgt := 1194) c30 dL_law_33 (by decide) (by decide) (by decide) (by decide) (kl_case_30 hop E b L xs i hi hL M hSim hN)
    by_cases c31 : v = 31
    · exact kl_tin (v := 31) (off := 1204) (tgt := 1237) c31 dL_law_33 (by decide) (by decide) (by decide) (by decide) (kl_case_31 hop E b L xs i hi hL M hSim hN)
    by_cases c32 : v = 32
    · exact kl_tin (v := 32) (off := 1257) (tgt := 1290) c32 dL_law_33 (by decide) (by decide) (by decide) (by decide) (kl_case_32 hop E b L xs i hi hL M hSim hN)
    by_cases c33 : v = 33
    · exact kl_tin (v := 33) (off := 1310) (tgt := 1343) c33 dL_law_33 (by decide) (by decide) (by decide) (by decide) (kl_case_33 hop E b L xs i hi hL M hSim hN)
    by_cases c34 : v = 34
    · exact kl_tin (v := 34) (off := 1353) (tgt := 1386) c34 dL_law_33 (by decide) (by decide) (by decide) (by decide) (kl_case_34 hop E b L xs i hi hL M hSim hN)
    by_cases c35 : v = 35
    · exact kl_tin (v := 35) (off := 1376) (tgt := 1409) c35 dL_law_33 (by decide) (by decide) (by decide) (by decide) (kl_case_35 hop E b L xs i hi hL M hSim hN)
    by_cases c36 : v = 36
    · exact kl_tin (v := 36) (off := 1399) (tgt := 1432) c36 dL_law_33 (by decide) (by decide) (by decide) (by decide) (kl_case_36 hop E b L xs i hi hL M hSim hN)
    by_cases c37 : v = 37
    · exact kl_tin (v := 37) (off := 1422) (tgt := 1455) c37 dL_law_33 (by decide) (by decide) (by decide) (by decide) (kl_case_37 hop E b L xs i hi hL M hSim hN)
    by_cases c38 : v = 38
    · exact kl_tin (v := 38) (off := 1455) (tgt := 1488) c38 dL_law_33 (by decide) (by decide) (by decide) (by decide) (kl_case_38 hop E b L xs i hi hL M hSim hN)
    by_cases c39 : v = 39
    · exact kl_tin (v := 39) (off := 1478) (tgt := 1511) c39 dL_law_33 (by decide) (by decide) (by decide) (by decide) (kl_case_39 hop E b L xs i hi hL M hSim hN)
    by_cases c40 : v = 40
    · exact kl_tin (v := 40) (off := 1511) (tgt := 1544) c40 dL_law_33 (by decide) (by decide) (by decide) (by decide) (kl_case_40 hop E b L xs i hi hL M hSim hN)
    by_cases c41 : v = 41
    · exact kl_tin (v := 41) (off := 1554) (tgt := 1587) c41 dL_law_33 (by decide) (by decide) (by decide) (by decide) (kl_case_41 hop E b L xs i hi hL M hSim hN)
    by_cases c42 : v = 42
    · exact kl_tin (v := 42) (off := 1587) (tgt := 1620) c42 dL_law_33 (by decide) (by decide) (by decide) (by decide) (kl_case_42 hop E b L xs i hi hL M hSim hN)
    by_cases c43 : v = 43
    · exact kl_tin (v := 43) (off := 1620) (tgt := 1653) c43 dL_law_33 (by decide) (by decide) (by decide) (by decide) (kl_case_43 hop E b L xs i hi hL M hSim hN)
    by_cases c44 : v = 44
    · exact kl_tin (v := 44) (off := 1643) (tgt := 1676) c44 dL_law_33 (by decide) (by decide) (by decide) (by decide) (kl_case_44 hop E b L xs i hi hL M hSim hN)
    by_cases c45 : v = 45
    · exact kl_tin (v := 45) (off := 1656) (tgt := 1689) c45 dL_law_33 (by decide) (by decide) (by decide) (by decide) (kl_case_45 hop E b L xs i hi hL M hSim hN)
    by_cases c46 : v = 46
    · exact kl_tin (v := 46) (off := 1669) (tgt := 1702) c46 dL_law_33 (by decide) (by decide) (by decide) (by decide) (kl_case_46 hop E b L xs i hi hL M hSim hN)
    by_cases c47 : v = 47
    · exact kl_tin (v := 47) (off := 1712) (tgt := 1745) c47 dL_law_33 (by decide) (by decide) (by decide) (by decide) (kl_case_47 hop E b L xs i hi hL M hSim hN)
    by_cases c48 : v = 48
    · exact kl_tin (v := 48) (off := 1755) (tgt := 1788) c48 dL_law_33 (by decide) (by decide) (by decide) (by decide) (kl_case_48 hop E b L xs i hi hL M hSim hN)
    by_cases c49 : v = 49
    · exact kl_tin (v := 49) (off := 1778) (tgt := 1811) c49 dL_law_33 (by decide) (by decide) (by decide) (by decide) (kl_case_49 hop E b L xs i hi hL M hSim hN)
    by_cases c50 : v = 50
    · exact kl_tin (v := 50) (off := 1801) (tgt := 1834) c50 dL_law_33 (by decide) (by decide) (by decide) (by decide) (kl_case_50 hop E b L xs i hi hL M hSim hN)
    by_cases c51 : v = 51
    · exact kl_tin (v := 51) (off := 1824) (tgt := 1857) c51 dL_law_33 (by decide) (by decide) (by decide) (by decide) (kl_case_51 hop E b L xs i hi hL M hSim hN)
    by_cases c52 : v = 52
    · exact kl_tin (v := 52) (off := 1847) (tgt := 1880) c52 dL_law_33 (by decide) (by decide) (by decide) (by decide) (kl_case_52 hop E b L xs i hi hL M hSim hN)
    by_cases c53 : v = 53
    · exact kl_tin (v := 53) (off := 1880) (tgt := 1913) c53 dL_law_33 (by decide) (by decide) (by decide) (by decide) (kl_case_53 hop E b L xs i hi hL M hSim hN)
    by_cases c54 : v = 54
    · exact kl_tin (v := 54) (off := 1903) (tgt := 1936) c54 dL_law_33 (by decide) (by decide) (by decide) (by decide) (kl_case_54 hop E b L xs i hi hL M hSim hN)
    by_cases c55 : v = 55
    · exact kl_tin (v := 55) (off := 1926) (tgt := 1959) c55 dL_law_33 (by decide) (by decide) (by decide) (by decide) (kl_case_55 hop E b L xs i hi hL M hSim hN)
    by_cases c56 : v = 56
    · exact kl_tin (v := 56) (off := 1949) (tgt := 1982) c56 dL_law_33 (by decide) (by decide) (by decide) (by decide) (kl_case_56 hop E b L xs i hi hL M hSim hN)
    by_cases c57 : v = 57
    · exact kl_tin (v := 57) (off := 1992) (tgt := 2025) c57 dL_law_33 (by decide) (by decide) (by decide) (by decide) (kl_case_57 hop E b L xs i hi hL M hSim hN)
    by_cases c58 : v = 58
    · exact kl_tin (v := 58) (off := 2065) (tgt := 2098) c58 dL_law_33 (by decide) (by decide) (by decide) (by decide) (kl_case_58 hop E b L xs i hi hL M hSim hN)
    refine kl_tout (tgt := 2161) dL_law_33 ?_ (by decide) (hN M hSim)
    have z0 := lv_neT c0 (show (0 : Int32).toInt = 0 by decide)
    have z1 := lv_neT c1 (show (1 : Int32).toInt = 1 by decide)
    have z2 := lv_neT c2 (show (2 : Int32).toInt = 2 by decide)
    have z3 := lv_neT c3 (show (3 : Int32).toInt = 3 by decide)
    have z4 := lv_neT c4 (show (4 : Int32).toInt = 4 by decide)
    have z5 := lv_neT c5 (show (5 : Int32).toInt = 5 by decide)
    have z6 := lv_neT c6 (show (6 : Int32).toInt = 6 by decide)
    have z7 := lv_neT c7 (show (7 : Int32).toInt = 7 by decide)
    have z8 := lv_neT c8 (show (8 : Int32).toInt = 8 by decide)
    have z9 := lv_neT c9 (show (9 : Int32).toInt = 9 by decide)
    have z10 := lv_neT c10 (show (10 : Int32).toInt = 10 by decide)
    have z11 := lv_neT c11 (show (11 : Int32).toInt = 11 by decide)
    have z12 := lv_neT c12 (show (12 : Int32).toInt = 12 by decide)
    have z13 := lv_neT c13 (show (13 : Int32).toInt = 13 by decide)
    have z14 := lv_neT c14 (show (14 : Int32).toInt = 14 by decide)
    have z15 := lv_neT c15 (show (15 : Int32).toInt = 15 by decide)
    have z16 := lv_neT c16 (show (16 : Int32).toInt = 16 by decide)
    have z17 := lv_neT c17 (show (17 : Int32).toInt = 17 by decide)
    have z18 := lv_neT c18 (show (18 : Int32).toInt = 18 by decide)
    have z19 := lv_neT c19 (show (19 : Int32).toInt = 19 by decide)
    have z20 := lv_neT c20 (show (20 : Int32).toInt = 20 by decide)
    have z21 := lv_neT c21 (show (21 : Int32).toInt = 21 by decide)
    have z22 := lv_neT c22 (show (22 : Int32).toInt = 22 by decide)
    have z23 := lv_neT c23 (show (23 : Int32).toInt = 23 by decide)
    have z24 := lv_neT c24 (show (24 : Int32).toInt = 24 by decide)
    have z25 := lv_neT c25 (show (25 : Int32).toInt = 25 by decide)
    have z26 := lv_neT c26 (show (26 : Int32).toInt = 26 by decide)
    have z27 := lv_neT c27 (show (27 : Int32).toInt = 27 by decide)
    have z28 := lv_neT c28 (show (28 : Int32).toInt = 28 by decide)
    have z29 := lv_neT c29 (show (29 : Int32).toInt = 29 by decide)
    have z30 := lv_neT c30 (show (30 : Int32).toInt = 30 by decide)
    have z31 := lv_neT c31 (show (31 : Int32).toInt = 31 by decide)
    have z32 := lv_neT c32 (show (32 : Int32).toInt = 32 by decide)
    have z33 := lv_neT c33 (show (33 : Int32).toInt = 33 by decide)
    have z34 := lv_neT c34 (show (34 : Int32).toInt = 34 by decide)
    have z35 := lv_neT c35 (show (35 : Int32).toInt = 35 by decide)
    have z36 := lv_neT c36 (show (36 : Int32).toInt = 36 by decide)
    have z37 := lv_neT c37 (show (37 : Int32).toInt = 37 by decide)
    have z38 := lv_neT c38 (show (38 : Int32).toInt = 38 by decide)
    have z39 := lv_neT c39 (show (39 : Int32).toInt = 39 by decide)
    have z40 := lv_neT c40 (show (40 : Int32).toInt = 40 by decide)
    have z41 := lv_neT c41 (show (41 : Int32).toInt = 41 by decide)
    have z42 := lv_neT c42 (show (42 : Int32).toInt = 42 by decide)
    have z43 := lv_neT c43 (show (43 : Int32).toInt = 43 by decide)
    have z44 := lv_neT c44 (show (44 : Int32).toInt = 44 by decide)
    have z45 := lv_neT c45 (show (45 : Int32).toInt = 45 by decide)
    have z46 := lv_neT c46 (show (46 : Int32).toInt = 46 by decide)
    have z47 := lv_neT c47 (show (47 : Int32).toInt = 47 by decide)
    have z48 := lv_neT c48 (show (48 : Int32).toInt = 48 by decide)
    have z49 := lv_neT c49 (show (49 : Int32).toInt = 49 by decide)
    have z50 := lv_neT c50 (show (50 : Int32).toInt = 50 by decide)
    have z51 := lv_neT c51 (show (51 : Int32).toInt = 51 by decide)
    have z52 := lv_neT c52 (show (52 : Int32).toInt = 52 by decide)
    have z53 := lv_neT c53 (show (53 : Int32).toInt = 53 by decide)
    have z54 := lv_neT c54 (show (54 : Int32).toInt = 54 by decide)
    have z55 := lv_neT c55 (show (55 : Int32).toInt = 55 by decide)
    have z56 := lv_neT c56 (show (56 : Int32).toInt = 56 by decide)
    have z57 := lv_neT c57 (show (57 : Int32).toInt = 57 by decide)
    have z58 := lv_neT c58 (show (58 : Int32).toInt = 58 by decide)
    omega
