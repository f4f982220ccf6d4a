/-! all, order of the class: which ropes are laid (draft, not yet built) -/
theorem lo_C {M : kr_M} {g r : Nat} {G : GG} (hK : KS M g G) (hr : r < gRo G) : ∀ n' o, o ≤ gRo G → gRo G - o < n' → f_X0_isInAnother_13 g (nI r) (g + 31 + 5 * r + 3) n' (nI o) M = some (if anyB (loB G r) (gRo G - o) o = true then 1 else 0, M) := by
  have hV := hK.V
  have hV' := hV
  obtain ⟨vLi, v0, vPl, vWe, vOd, vKi, vWo, vRo, vPe, vWt, vAc, vIn, vWa, vL, vMn, vW, vA, vB, vAB, vLd, vCr, vN, vK, vWg, vPc, vSt, vD⟩ := hV'
  have hC := hK.C
  obtain ⟨c0, cPl, cWe, cOd, cKi, cWo, cRo, cPe, cWt, cAc, cIn, cWa, cL, cMn, cW, cA, cB, cLd, cCr, cN, cK, cWg, cPc, cSt⟩ := hC
  have tr := hK.txk hr
  intro n'
  induction n' with
  | zero => intro o h1 h2; omega
  | succ n' ih =>
    intro o h1 h2
    apply Wp_eq
    rw [f_X0_isInAnother_13]
    refine Wp_letI ?_; intro v ev
    rw [cRo] at ev
    subst ev
    by_cases c : o = gRo G
    · rw [c, Nat.sub_self]
      exact Wp_t (nI_le (Nat.le_refl _) (by omega)) (Wp_some rfl)
    have ho : o < gRo G := by omega
    have to := hK.txk ho
    have nr := vN r hr
    have no' := vN o ho
    refine Wp_f (nI_ge (by omega) (by omega)) ?_
    obtain ⟨m, hm⟩ : ∃ m, gRo G - o = m + 1 := ⟨gRo G - o - 1, by omega⟩
    have hm' : gRo G - (o + 1) = m := by omega
    have skip : loB G r o = false → Wp (f_X0_isInAnother_82 (f_X0_isInAnother_13 g (nI r) (g + 31 + 5 * r + 3) n') (nI o) M) (fun x => x = (if anyB (loB G r) (gRo G - o) o = true then 1 else 0, M)) := fun hb => by
      unfold f_X0_isInAnother_82
      rw [L_1, nI_add, ih (o + 1) (by omega) (by omega), hm', hm]
      refine Wp_some ?_
      rw [anyB, hb, Bool.false_or]
      rfl
    have hit : loB G r o = true → (if anyB (loB G r) (gRo G - o) o = true then (1 : Int32) else 0) = 1 := fun hb => by
      rw [hm, anyB, hb, Bool.true_or]
      rfl
    have no : ¬ (o ≠ r ∧ (gN G r < gN G o ∨ o < r) ∧ inB (gN G o) (gK G o) (gN G r) (gK G r) = true) → loB G r o = false := fun q => Bool.eq_false_iff.mpr (fun z => q (loB_t.mp z))
    have fi := ff_in (m := gN G r) (kt := gK G o) (kq := gK G r) (vN o ho).2
    have yes : (gN G r < gN G o ∨ o < r) → Wp (f_X0_isInAnother_52 (f_X0_isInAnother_13 g (nI r) (g + 31 + 5 * r + 3) n') (nI r) (g + 31 + 5 * r + 3) (nI o) (g + 31 + 5 * o + 3) M) (fun x => x = (if anyB (loB G r) (gRo G - o) o = true then 1 else 0, M)) := fun hq => by
      unfold f_X0_isInAnother_52 f_X0_isInAnother_57
      by_cases e : o = r
      · exact Wp_t (by rw [e]) (skip (no (fun q => q.1 e)))
      refine Wp_f (fun q => e ((nI_eq (by omega) (by omega)).mp q)) (Wp_f (by decide) ?_)
      rw [placeOf_ok to tr]
      refine Wp_bis ?_
      by_cases d : inB (gN G o) (gK G o) (gN G r) (gK G r) = true
      · refine Wp_f (fun q => (fi.mp q) d) (Wp_some ?_)
        rw [hit (loB_t.mpr ⟨e, hq, d⟩)]
      · exact Wp_t (fi.mpr d) (skip (no (fun q => d q.2.2)))
    refine Wp_t ((kin_I (by omega)).mpr (by omega)) ?_
    rw [kt_rp (by omega)]
    refine Wp_letI ?_; intro v ev
    rw [to.1] at ev
    subst ev
    refine Wp_letI ?_; intro v ev
    rw [tr.1] at ev
    subst ev
    by_cases h : gN G r < gN G o
    · exact Wp_t ((nI_ltI (by omega) (by omega)).mpr h) (yes (Or.inl h))
    · refine Wp_f (fun q => h ((nI_ltI (by omega) (by omega)).mp q)) ?_
      by_cases h' : o < r
      · exact Wp_f (nI_ge h' (by omega)) (yes (Or.inr h'))
      · refine Wp_t (nI_le (by omega) (by omega)) ?_
        have z := no (fun q => by rcases q.2.1 with z | z <;> omega)
        unfold f_X0_isInAnother_57
        by_cases e : o = r
        · exact Wp_t (by rw [e]) (skip z)
        · exact Wp_f (fun q => e ((nI_eq (by omega) (by omega)).mp q)) (Wp_t rfl (skip z))
theorem lo_ok_C {M : kr_M} {g r : Nat} {G : GG} (hK : KS M g G) (hr : r < gRo G) : f_X0_isInAnother g (nI r) M = some (if loA G r = true then 1 else 0, M) := by
  have hV := hK.V
  obtain ⟨vLi, v0, vPl, vWe, vOd, vKi, vWo, vRo, vPe, vWt, vAc, vIn, vWa, vL, vMn, vW, vA, vB, vAB, vLd, vCr, vN, vK, vWg, vPc, vSt, vD⟩ := hV
  have := lo_C hK hr kr_F 0 (by omega) (kr_F_gt _ (by omega))
  rw [Nat.sub_zero] at this
  apply Wp_eq
  unfold f_X0_isInAnother loA
  refine Wp_t ((kin_I (by omega)).mpr (by omega)) ?_
  rw [kt_rp (by omega)]
  exact Wp_of this rfl
/-- the table: sets below n (of the laid ones), last ropes not in them -/
def atC (M : kr_M) (G : GG) (V : Nat → Nat → Nat) (n : Nat) : Prop := ∀ S, S < n → S &&& laS G (gRo G) = S → ∀ l, l < gRo G → ¬ S.testBit l = true → M.1 332 (6 * S + l) = nI (V S l)
abbrev alX : Nat → Nat → Prop := fun a _ => a = 330 ∨ a = 331 ∨ a = 332
theorem al_s : SS alX := fun a j h => by have h : a = 330 ∨ a = 331 ∨ a = 332 := h; omega
theorem al_7 {M0 : kr_M} {g : Nat} {G : GG} {Q : kr_M → Prop} (h : ∀ M', KS M' g G → M'.1 330 0 = nI (laS G (gRo G)) → Fx alX M0 M' → Wp (f_X0_lay_42 g M') Q) : ∀ n' r M, r ≤ gRo G → gRo G - r < n' → KS M g G → M.1 330 0 = nI (laS G r) → Fx alX M0 M → Wp (f_X0_lay_7 g n' (nI r) M) Q := by
  intro n'
  induction n' with
  | zero => intro r M h1 h2; omega
  | succ n' ih =>
    intro r M h1 h2 hK hS hF
    have hV := hK.V
    obtain ⟨vLi, v0, vPl, vWe, vOd, vKi, vWo, vRo, vPe, vWt, vAc, vIn, vWa, vL, vMn, vW, vA, vB, vAB, vLd, vCr, vN, vK, vWg, vPc, vSt, vD⟩ := hV
    have hC := hK.C
    obtain ⟨c0, cPl, cWe, cOd, cKi, cWo, cRo, cPe, cWt, cAc, cIn, cWa, cL, cMn, cW, cA, cB, cLd, cCr, cN, cK, cWg, cPc, cSt⟩ := hC
    rw [f_X0_lay_7]
    refine Wp_letI ?_; intro v ev
    rw [cRo] at ev
    subst ev
    by_cases c : r = gRo G
    · subst c
      exact Wp_t (nI_le (Nat.le_refl _) (by omega)) (h M hK hS hF)
    · refine Wp_f (nI_ge (by omega) (by omega)) ?_
      have lt := laS_lt G r
      have l64 := (st_9 r (by omega)).2.2
      rw [lo_ok_C hK (by omega)]
      refine Wp_bis ?_
      by_cases d : loA G r = true
      · rw [if_pos d]
        refine Wp_t (by decide) ?_
        unfold f_X0_lay_36
        rw [L_1, nI_add]
        exact ih (r + 1) M (by omega) (by omega) hK (by rw [hS, show laS G (r + 1) = laS G r from if_pos d]) hF
      · rw [if_neg d]
        refine Wp_f (fun q => q rfl) ?_
        refine Wp_letI ?_; intro v ev
        rw [hS] at ev
        subst ev
        refine Wp_letI ?_; intro M1 e1
        rw [(st_9 r (by omega)).1, (st_10 r (by omega) (laS G r) (by omega) lt).2.1] at e1
        have hf : Fx alX M M1 := by rw [← e1]; exact (Fx.refl M).si _ (Or.inl rfl)
        unfold f_X0_lay_36
        rw [L_1, nI_add]
        exact ih (r + 1) M1 (by omega) (by omega) (hK.fr (hf.fr al_s)) (by rw [← e1, kr_si_at, show laS G (r + 1) = laS G r + 2 ^ r from if_neg d]) (hF.trans hf)
/-- the class's overlaps, laid -/
def ovC (G : GG) (a b : Nat) : Nat := lf (ovB (gN G a) (gK G a) (gK G b)) (min 24 (min (gN G a) (gN G b)))
theorem ovC_G {G : GG} {a b : Nat} (hV : GV G) (ha : a < gRo G) (hne : a ≠ b) : ovC G a b = ovG G a b := by
  obtain ⟨vLi, v0, vPl, vWe, vOd, vKi, vWo, vRo, vPe, vWt, vAc, vIn, vWa, vL, vMn, vW, vA, vB, vAB, vLd, vCr, vN, vK, vWg, vPc, vSt, vD⟩ := hV
  have := vN a ha
  unfold ovC ovG
  rw [if_neg hne, show min 24 (min (gN G a) (gN G b)) = min (gN G a) (gN G b) by omega]
theorem al_54 {M0 : kr_M} {g a : Nat} {G : GG} {K : Int32 → kr_M → Option kr_M} {Q : kr_M → Prop} (ha : a < gRo G) (h : ∀ M', KS M' g G → (∀ a' b, a' < a + 1 → b < gRo G → M'.1 331 (6 * a' + b) = nI (ovC G a' b)) → M'.1 330 0 = nI (laS G (gRo G)) → Fx alX M0 M' → Wp (K (nI (a + 1)) M') Q) : ∀ n' b M, b ≤ gRo G → gRo G - b < n' → KS M g G → (∀ a' b', a' < a → b' < gRo G → M.1 331 (6 * a' + b') = nI (ovC G a' b')) → (∀ b', b' < b → M.1 331 (6 * a + b') = nI (ovC G a b')) → M.1 330 0 = nI (laS G (gRo G)) → Fx alX M0 M → Wp (f_X0_lay_54 K g (nI a) n' (nI b) M) Q := by
  intro n'
  induction n' with
  | zero => intro b M h1 h2; omega
  | succ n' ih =>
    intro b M h1 h2 hK hA hB hS hF
    have hV := hK.V
    obtain ⟨vLi, v0, vPl, vWe, vOd, vKi, vWo, vRo, vPe, vWt, vAc, vIn, vWa, vL, vMn, vW, vA, vB, vAB, vLd, vCr, vN, vK, vWg, vPc, vSt, vD⟩ := hV
    have hC := hK.C
    obtain ⟨c0, cPl, cWe, cOd, cKi, cWo, cRo, cPe, cWt, cAc, cIn, cWa, cL, cMn, cW, cA, cB, cLd, cCr, cN, cK, cWg, cPc, cSt⟩ := hC
    rw [f_X0_lay_54]
    refine Wp_letI ?_; intro v ev
    rw [cRo] at ev
    subst ev
    by_cases c : b = gRo G
    · subst c
      refine Wp_t (nI_le (Nat.le_refl _) (by omega)) ?_
      unfold f_X0_lay_102
      rw [L_1, nI_add]
      refine h M hK (fun a' b' q1 q2 => ?_) hS hF
      by_cases e : a' = a
      · rw [e]; exact hB b' q2
      · exact hA a' b' (by omega) q2
    · have hb : b < gRo G := by omega
      refine Wp_f (nI_ge (by omega) (by omega)) ?_
      refine Wp_t ((kin_I (by omega)).mpr (by omega)) (Wp_t ((kin_I (by omega)).mpr (by omega)) ?_)
      rw [kt_rp (by omega), kt_rp (by omega)]
      rw [show f_X7_overlapWith (g + 31 + 5 * a + 3) (g + 31 + 5 * b + 3) (24 : Int32) M = _ from ovW_ok (z := 24) (hK.txk ha) (hK.txk hb) (by omega)]
      refine Wp_bis ?_
      rw [show nI a * (6 : Int32) + nI b = nI (6 * a + b) by rw [L_6, pk_mul, nI_add, Nat.mul_comm a 6]]
      refine Wp_t ((kin_I (by omega)).mpr (by omega)) ?_
      refine Wp_letI ?_; intro M1 e1
      rw [nI_clamp (by omega)] at e1
      have hf : Fx alX M M1 := by rw [← e1]; exact (Fx.refl M).si _ (Or.inr (Or.inl rfl))
      rw [L_1, nI_add]
      refine ih (b + 1) M1 (by omega) (by omega) (hK.fr (hf.fr al_s)) (fun a' b' q1 q2 => ?_) (fun b' q => ?_) ?_ (hF.trans hf)
      · rw [← e1, kg_si, if_neg (by omega)]; exact hA a' b' q1 q2
      · rw [← e1, kg_si]
        by_cases e : b' = b
        · rw [e, if_pos ⟨rfl, rfl⟩]; rfl
        · rw [if_neg (by omega)]; exact hB b' (by omega)
      · rw [← e1, kg_si, if_neg (by omega)]; exact hS
/-- what the class knows once all is laid -/
def alC (M : kr_M) (g : Nat) (G : GG) (V : Nat → Nat → Nat) (n : Nat) : Prop := KS M g G ∧ (∀ a b, a < gRo G → b < gRo G → M.1 331 (6 * a + b) = nI (ovC G a b)) ∧ M.1 330 0 = nI (laS G (gRo G)) ∧ atC M G V n
/-- the knots by a rope r next, after l (6: none), of the set S -/
theorem kb_ok {M : kr_M} {g S l r n : Nat} {G : GG} {V : Nat → Nat → Nat} (hM : alC M g G V n) (hS : S < 64) (hn : S ≤ n) (hsub : S &&& laS G (gRo G) = S) (hr : r < gRo G) (hb : S.testBit r = true) (hl : l = 6 ∨ (l < gRo G ∧ l ≠ r)) (hv : V (S - 2 ^ r) r ≤ 1000) (hsub' : (S - 2 ^ r) &&& laS G (gRo G) = S - 2 ^ r) (hnb : ¬ (S - 2 ^ r).testBit r = true) : f_X0_knotsBy g (nI S) (if l = 6 then -1 else nI l) (nI r) M = some (nI (aN G V S l r), M) := by
  obtain ⟨hK, hO, hL, hA⟩ := hM
  have hV := hK.V
  have hV' := hV
  obtain ⟨vLi, v0, vPl, vWe, vOd, vKi, vWo, vRo, vPe, vWt, vAc, vIn, vWa, vL, vMn, vW, vA, vB, vAB, vLd, vCr, vN, vK, vWg, vPc, vSt, vD⟩ := hV'
  have tr := hK.txk hr
  have nr := vN r hr
  obtain ⟨s1, s2, s3, s4, s5⟩ := st_20 S hS r (by omega) hb
  have nle := aN_le (G := G) l r
  have fin : ∀ ov, ov = (if l = 6 then 0 else ovG G l r) → Wp (f_X0_knotsBy_21 g (nI S) (nI r) (nI ov) M) (fun x => x = (nI (aN G V S l r), M)) := fun ov hov => by
    unfold f_X0_knotsBy_21
    refine Wp_letI ?_; intro v ev
    rw [(st_9 r (by omega)).1, s5] at ev
    subst ev
    refine Wp_t ((kin_I (by omega)).mpr (by omega)) ?_
    rw [kt_rp (by omega)]
    refine Wp_letI ?_; intro v ev
    rw [tr.1] at ev
    subst ev
    rw [show nI (S - 2 ^ r) * (6 : Int32) + nI r = nI (6 * (S - 2 ^ r) + r) by rw [L_6, pk_mul, nI_add, Nat.mul_comm]]
    refine Wp_t ((kin_I (by omega)).mpr (by omega)) ?_
    refine Wp_letI ?_; intro v ev
    rw [nI_clamp (by omega), hA (S - 2 ^ r) (by omega) hsub' r hr hnb] at ev
    subst ev
    rw [pk_sub (by omega), nI_add]
    refine Wp_some ?_
    unfold aN
    rw [hov]
  apply Wp_eq
  unfold f_X0_knotsBy
  rcases hl with e | ⟨e1, e2⟩
  · rw [if_pos e]
    exact Wp_f (fun q => q rfl) (fin 0 (by rw [if_pos e]))
  · rw [if_neg (by omega : ¬ l = 6)]
    refine Wp_t (fun q => (nI_m1 (by omega)).mp q) ?_
    rw [show nI l * (6 : Int32) + nI r = nI (6 * l + r) by rw [L_6, pk_mul, nI_add, Nat.mul_comm l 6]]
    refine Wp_t ((kin_I (by omega)).mpr (by omega)) ?_
    refine Wp_letI ?_; intro v ev
    rw [nI_clamp (by omega), hO l r e1 hr, ovC_G hV e1 e2] at ev
    subst ev
    exact fin (ovG G l r) (by rw [if_neg (by omega)])
