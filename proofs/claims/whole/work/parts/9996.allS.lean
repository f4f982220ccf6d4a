/-! all, order of the reference: which ropes are laid, the search (draft, not yet built) -/
theorem lo_R {M : kr_M} {G : GG} {r : Nat} (hV : GV G) (hR : RG M G) (hL : LG M G) (hr : r < gRo G) : ∀ n' o, o ≤ gRo G → gRo G - o < n' → f_X12_isLeftOut_2 (nI r) n' (nI o) M = some (if anyB (loB G r) (gRo G - o) o = true then 1 else 0, M) := by
  have hV' := hV
  obtain ⟨vLi, v0, vPl, vWe, vOd, vKi, vWo, vRo, vPe, vWt, vAc, vIn, vWa, vL, vMn, vW, vA, vB, vAB, vLd, vCr, vN, vK, vWg, vPc, vSt, vD⟩ := hV'
  have hR' := hR
  obtain ⟨r0, rPl, rWe, rOd, rKi, rWo, rRo, rPe, rAc, rInc, rWa, rL, rMn, rW, rA, rB, rLd, rWg, rPc⟩ := hR'
  have hL' := hL
  obtain ⟨lN, lK, lCr, lSt, lWt⟩ := hL'
  intro n'
  induction n' with
  | zero => intro o h1 h2; omega
  | succ n' ih =>
    intro o h1 h2
    apply Wp_eq
    rw [f_X12_isLeftOut_2]
    refine Wp_t (by decide) ?_
    refine Wp_letI ?_; intro v ev
    have rRo' : M.1 353 (5 : Int32).toNatClampNeg = nI (gRo G) := rRo
    rw [rRo'] at ev
    subst ev
    by_cases c : o = gRo G
    · rw [c, Nat.sub_self]
      exact Wp_t (nI_le (Nat.le_refl _) (by omega)) (Wp_some rfl)
    have ho : o < gRo G := by omega
    refine Wp_f (nI_ge (by omega) (by omega)) ?_
    obtain ⟨m, hm⟩ : ∃ m, gRo G - o = m + 1 := ⟨gRo G - o - 1, by omega⟩
    have hm' : gRo G - (o + 1) = m := by omega
    have skip : loB G r o = false → Wp (f_X12_isLeftOut_49 (f_X12_isLeftOut_2 (nI r) n') (nI o) M) (fun x => x = (if anyB (loB G r) (gRo G - o) o = true then 1 else 0, M)) := fun hb => by
      unfold f_X12_isLeftOut_49
      rw [L_1, nI_add, ih (o + 1) (by omega) (by omega), hm', hm]
      refine Wp_some ?_
      rw [anyB, hb, Bool.false_or]
      rfl
    have hit : loB G r o = true → (if anyB (loB G r) (gRo G - o) o = true then (1 : Int32) else 0) = 1 := fun hb => by
      rw [hm, anyB, hb, Bool.true_or]
      rfl
    have no : ¬ (o ≠ r ∧ (gN G r < gN G o ∨ o < r) ∧ inB (gN G o) (gK G o) (gN G r) (gK G r) = true) → loB G r o = false := fun q => Bool.eq_false_iff.mpr (fun z => q (loB_t.mp z))
    by_cases e : o = r
    · exact Wp_t (by rw [e]) (skip (no (fun q => q.1 e)))
    refine Wp_f (fun q => e ((nI_eq (by omega) (by omega)).mp q)) ?_
    rw [partOf_ok hV hL ho hr]
    refine Wp_bis ?_
    have fi := ff_in (m := gN G r) (kt := gK G o) (kq := gK G r) (vN o ho).2
    by_cases d : inB (gN G o) (gK G o) (gN G r) (gK G r) = true
    · refine Wp_f (fun q => (fi.mp q) d) ?_
      have nr := vN r hr
      have no' := vN o ho
      refine Wp_t ((kin_I (by omega)).mpr (by omega)) ?_
      refine Wp_letI ?_; intro v ev
      rw [nI_clamp (by omega), lN o ho] at ev
      subst ev
      refine Wp_t ((kin_I (by omega)).mpr (by omega)) ?_
      refine Wp_letI ?_; intro v ev
      rw [nI_clamp (by omega), lN r hr] at ev
      subst ev
      by_cases h : gN G r < gN G o
      · refine Wp_t ((nI_ltI (by omega) (by omega)).mpr h) (Wp_some ?_)
        rw [hit (loB_t.mpr ⟨e, Or.inl h, d⟩)]
      · refine Wp_f (fun q => h ((nI_ltI (by omega) (by omega)).mp q)) ?_
        by_cases h' : o < r
        · refine Wp_f (nI_ge h' (by omega)) (Wp_some ?_)
          rw [hit (loB_t.mpr ⟨e, Or.inr h', d⟩)]
        · exact Wp_t (nI_le (by omega) (by omega)) (skip (no (fun q => by rcases q.2.1 with z | z <;> omega)))
    · exact Wp_t (fi.mpr d) (skip (no (fun q => d q.2.2)))
theorem lo_ok_R {M : kr_M} {G : GG} {r : Nat} (hV : GV G) (hR : RG M G) (hL : LG M G) (hr : r < gRo G) : f_X12_isLeftOut (nI r) M = some (if loA G r = true then 1 else 0, M) := by
  have hV' := hV
  obtain ⟨vLi, v0, vPl, vWe, vOd, vKi, vWo, vRo, vPe, vWt, vAc, vIn, vWa, vL, vMn, vW, vA, vB, vAB, vLd, vCr, vN, vK, vWg, vPc, vSt, vD⟩ := hV'
  unfold f_X12_isLeftOut loA
  have := lo_R hV hR hL hr kr_F 0 (by omega) (kr_F_gt _ (by omega))
  rw [Nat.sub_zero] at this
  exact this
def alR (M M' : kr_M) (G : GG) (V : Nat → Nat → Nat) : Prop := M'.1 346 51 = nI (V (laS G (gRo G)) 6) ∧ M'.1 346 50 = nI (pc (laS G (gRo G))) ∧ (∀ k, k < pc (laS G (gRo G)) → M'.1 377 k = nI (aP G V k (laS G (gRo G)) 6)) ∧ Fx aX M M'
theorem al_R {M : kr_M} {G : GG} {V : Nat → Nat → Nat} (hV : GV G) (hZ0 : ∀ l, V 0 l = 0) (hZ : ∀ S l, S < 64 → V S l = match aS G V S l (gRo G) with
    | none => 0
    | some (m, _) => m) (hb : ∀ S l, S < 64 → V S l ≤ 24 * pc S) (hR : RG M G) (hL : LG M G) : ∀ n' r, r ≤ gRo G → gRo G - r < n' → Wp (f_X12_laysAll_8 n' (nI (laS G r)) (nI r) M) (fun M' => alR M M' G V) := by
  have hV' := hV
  obtain ⟨vLi, v0, vPl, vWe, vOd, vKi, vWo, vRo, vPe, vWt, vAc, vIn, vWa, vL, vMn, vW, vA, vB, vAB, vLd, vCr, vN, vK, vWg, vPc, vSt, vD⟩ := hV'
  have hR' := hR
  obtain ⟨r0, rPl, rWe, rOd, rKi, rWo, rRo, rPe, rAc, rInc, rWa, rL, rMn, rW, rA, rB, rLd, rWg, rPc⟩ := hR'
  intro n'
  induction n' with
  | zero => intro r h1 h2; omega
  | succ n' ih =>
    intro r h1 h2
    rw [f_X12_laysAll_8]
    refine Wp_t (by decide) ?_
    refine Wp_letI ?_; intro v ev
    have rRo' : M.1 353 (5 : Int32).toNatClampNeg = nI (gRo G) := rRo
    rw [rRo'] at ev
    subst ev
    have lt := laS_lt G r
    have l64 := (st_9 r (by omega)).2.2
    by_cases c : r = gRo G
    · subst c
      refine Wp_t (nI_le (Nat.le_refl _) (by omega)) ?_
      unfold f_X12_laysAll_42
      refine Wp_letI ?_; intro M1 e1
      refine Wp_letI ?_; intro M2 e2
      have hf : Fx aX M M2 := by rw [← e2, ← e1]; exact ((Fx.refl M).si _ (Or.inr (Or.inr ⟨rfl, Or.inr rfl⟩))).si _ (Or.inr (Or.inr ⟨rfl, Or.inl rfl⟩))
      have c1 : M2.1 346 51 = nI 100000000 := by rw [← e2, ← e1, kg_si, if_neg (by omega), kr_si_at]; rfl
      have pcl := (st_pc _ (by omega : laS G (gRo G) < 64)).1
      have vb := hb (laS G (gRo G)) 6 (by omega)
      refine Wp_bv _ (pt_ok (V := V) hV hZ0 hZ 8 0 (laS G (gRo G)) 6 0 100000000 M2 (by omega) (by omega) lt (by omega) (by omega) (by omega) c1 (Or.inl ⟨rfl, rfl⟩) (aXR hR hf) (aXL hL hf)) (fun M3 hM3 => Wp_some ?_)
      obtain ⟨x1, x2, x3, x4⟩ := hM3.1 (by omega)
      refine ⟨by rw [x1, Nat.zero_add], by rw [x2, Nat.zero_add], fun k hk => ?_, hf.trans hM3.2.2.2⟩
      have := x4 k hk
      rw [Nat.zero_add] at this
      exact this
    · refine Wp_f (nI_ge (by omega) (by omega)) ?_
      rw [lo_ok_R hV hR hL (by omega)]
      refine Wp_bis ?_
      have nx := ih (r + 1) (by omega) (by omega)
      by_cases d : loA G r = true
      · rw [if_pos d]
        refine Wp_f (by decide) ?_
        unfold f_X12_laysAll_34
        refine Wp_letI ?_; intro v ev
        rw [Int32.or_zero] at ev
        subst ev
        rw [show laS G (r + 1) = laS G r from if_pos d] at nx
        rw [L_1, nI_add]
        exact nx
      · rw [if_neg d]
        refine Wp_t rfl ?_
        unfold f_X12_laysAll_34
        refine Wp_letI ?_; intro v ev
        rw [(st_9 r (by omega)).1, (st_10 r (by omega) (laS G r) (by omega) lt).2.1] at ev
        subst ev
        rw [show laS G (r + 1) = laS G r + 2 ^ r from if_neg d] at nx
        rw [L_1, nI_add]
        exact nx
