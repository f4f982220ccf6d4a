/-! slips of the reference -/
abbrev srX : Nat → Nat → Prop := fun a j => a = 368 ∨ a = 369 ∨ a = 370 ∨ a = 371 ∨ a = 374 ∨ a = 375 ∨ (a = 346 ∧ 42 ≤ j ∧ j ≤ 47)
theorem sr_s : SS srX := fun a j h => by have h : a = 368 ∨ a = 369 ∨ a = 370 ∨ a = 371 ∨ a = 374 ∨ a = 375 ∨ (a = 346 ∧ 42 ≤ j ∧ j ≤ 47) := h; omega
theorem sr_FT {M M' : kr_M} (h : FT M M') : Fx srX M M' := ⟨fun a j q => by have q : ¬ (a = 368 ∨ a = 369 ∨ a = 370 ∨ a = 371 ∨ a = 374 ∨ a = 375 ∨ (a = 346 ∧ 42 ≤ j ∧ j ≤ 47)) := q; rw [h.1 a (by omega) (by omega) (by omega)], h.2⟩
/-- the rows of slips up to place p, kind c; and the rope's own -/
def srT (M : kr_M) (G : GG) (n : Nat) (k : Nat → Nat) (p c : Nat) : Prop := (∀ p' c', (p' < p ∨ (p' = p ∧ c' < c)) → p' < n → c' < gKi G → M.1 374 (6 * p' + c') = (if slB G n k p' c' = true then 1 else 0) ∧ M.1 375 (6 * p' + c') = nI (kw_n (slT G n k p' c'))) ∧ M.1 346 42 = nI (rdT G n k n 0).1 ∧ M.1 346 43 = nI (kw_n (rdO (rdT G n k n 0)))
theorem srT.fx {M M' : kr_M} {G : GG} {n : Nat} {k : Nat → Nat} {p c : Nat} {S : Nat → Nat → Prop} (h : srT M G n k p c) (hf : Fx S M M') (h1 : ∀ j, ¬ S 374 j) (h2 : ∀ j, ¬ S 375 j) (h3 : ¬ S 346 42) (h4 : ¬ S 346 43) : srT M' G n k p c := by
  refine ⟨fun p' c' q1 q2 q3 => ?_, ?_, ?_⟩
  · rw [hf.1 374 _ (h1 _), hf.1 375 _ (h2 _)]; exact h.1 p' c' q1 q2 q3
  · rw [hf.1 346 42 h3]; exact h.2.1
  · rw [hf.1 346 43 h4]; exact h.2.2
/-- a text with another knot -/
theorem RX.up {M : kr_M} {G : GG} {n : Nat} {k : Nat → Nat} {p y : Nat} {x : Nat} (h : RX M G n (upK k p y)) (hx : x < 6) : RX (kr_si M 368 p (nI x)) G n (upK k p x) := by
  obtain ⟨a1, a2, a3, a4, a5, a6⟩ := h
  refine ⟨a1, a2.fx (S := fun a _ => a = 368) ((Fx.refl M).si _ rfl) (fun a j p q z => by have z : a = 368 := z; omega), by rw [kg_si, if_neg (by omega)]; exact a3, fun i hi => ?_, a5, fun i hi => ?_⟩
  · rw [kg_si]
    by_cases e : i = p
    · subst e; rw [if_pos ⟨rfl, rfl⟩, show upK k i x i = x from if_pos rfl]
    · rw [if_neg (fun q => e q.2), a4 i hi, show upK k p x i = k i from if_neg e, show upK k p y i = k i from if_neg e]
  · by_cases e : i = p
    · rw [show upK k p x i = x from if_pos e]; exact hx
    · have := a6 i hi
      rw [show upK k p y i = k i from if_neg e] at this
      rw [show upK k p x i = k i from if_neg e]; exact this
theorem upK_id {k : Nat → Nat} {p : Nat} : upK k p (k p) = k := by
  funext i
  unfold upK
  by_cases e : i = p
  · rw [if_pos e, e]
  · rw [if_neg e]
theorem nar0 : vp_nar .boolean (0 : Int32) = 0 := by decide
theorem sr_46 {M0 : kr_M} {n p : Nat} {G : GG} {k : Nat → Nat} {K : Int32 → kr_M → Option kr_M} {Q : kr_M → Prop} (hp : p < n) (hk : k p < 6) (h : ∀ M', RX M' G n k → srT M' G n k (p + 1) 0 → Fx srX M0 M' → Wp (K (nI (p + 1)) M') Q) : ∀ n' c M, c ≤ gKi G → gKi G - c < n' → (∃ y, RX M G n (upK k p y)) → srT M G n k p c → Fx srX M0 M → Wp (f_X12_laysSlips_46 K (nI p) (nI (k p)) n' (nI c) M) Q := by
  intro n'
  induction n' with
  | zero => intro c M h1 h2; omega
  | succ n' ih =>
    intro c M h1 h2 ⟨y, hX⟩ hT hF
    have hV := hX.1
    have hV' := hV
    obtain ⟨vLi, v0, vPl, vWe, vOd, vKi, vWo, vRo, vPe, vWt, vAc, vIn, vWa, vL, vMn, vW, vA, vB, vAB, vLd, vCr, vN, vK, vWg, vPc, vSt, vD⟩ := hV'
    have hR := hX.2.1
    obtain ⟨r0, rPl, rWe, rOd, rKi, rWo, rRo, rPe, rAc, rInc, rWa, rL, rMn, rW, rA, rB, rLd, rWg, rPc⟩ := hR
    have hn := hX.2.2.2.2.1
    rw [f_X12_laysSlips_46]
    refine Wp_t (by decide) ?_
    refine Wp_letI ?_; intro v ev
    have rKi' : M.1 353 (3 : Int32).toNatClampNeg = nI (gKi G) := rKi
    rw [rKi'] at ev
    subst ev
    by_cases d : c = gKi G
    · subst d
      refine Wp_t (nI_le (Nat.le_refl _) (by omega)) ?_
      unfold f_X12_laysSlips_125
      refine Wp_t ((kin_I (by omega)).mpr (by omega)) ?_
      refine Wp_letI ?_; intro M1 e1
      rw [nI_clamp (by omega)] at e1
      have hf : Fx (fun a _ => a = 368) M M1 := by rw [← e1]; exact (Fx.refl M).si _ rfl
      rw [L_1, nI_add]
      have hX1 := hX.up (x := k p) hk
      rw [upK_id, e1] at hX1
      refine h M1 hX1 ?_ (hF.trans (hf.mono (fun a j q => Or.inl q)))
      have hT1 := hT.fx hf (fun j q => by have q : 374 = 368 := q; omega) (fun j q => by have q : 375 = 368 := q; omega) (fun q => by have q : 346 = 368 := q; omega) (fun q => by have q : 346 = 368 := q; omega)
      exact ⟨fun p' c' q1 q2 q3 => hT1.1 p' c' (by omega) q2 q3, hT1.2⟩
    · have hc : c < gKi G := by omega
      refine Wp_f (nI_ge (by omega) (by omega)) ?_
      refine Wp_t ((kin_I (by omega)).mpr (by omega)) ?_
      refine Wp_letI ?_; intro M2 e2
      rw [nI_clamp (by omega)] at e2
      have hf2 : Fx (fun a _ => a = 368) M M2 := by rw [← e2]; exact (Fx.refl M).si _ rfl
      have hX2 := hX.up (x := c) (by omega)
      rw [e2] at hX2
      have hT2 := hT.fx hf2 (fun j q => by have q : 374 = 368 := q; omega) (fun j q => by have q : 375 = 368 := q; omega) (fun q => by have q : 346 = 368 := q; omega) (fun q => by have q : 346 = 368 := q; omega)
      refine Wp_bv _ (readings_ok hX2) (fun M3 ⟨hX3, hRT, hFT⟩ => ?_)
      have hf3 : Fx (fun a _ => a = 369 ∨ a = 370 ∨ a = 371) M2 M3 := ⟨fun a j q => by have q : ¬ (a = 369 ∨ a = 370 ∨ a = 371) := q; rw [hFT.1 a (by omega) (by omega) (by omega)], hFT.2⟩
      have hT3 := hT2.fx hf3 (fun j q => by have q : 374 = 369 ∨ 374 = 370 ∨ 374 = 371 := q; omega) (fun j q => by have q : 375 = 369 ∨ 375 = 370 ∨ 375 = 371 := q; omega) (fun q => by have q : 346 = 369 ∨ 346 = 370 ∨ 346 = 371 := q; omega) (fun q => by have q : 346 = 369 ∨ 346 = 370 ∨ 346 = 371 := q; omega)
      have hF3 : Fx srX M0 M3 := (hF.trans (hf2.mono (fun a j q => Or.inl q))).trans (sr_FT hFT)
      obtain ⟨t1, t2, t3⟩ := hRT 0 (by omega) (by omega)
      have rb := (rdT_b (k := upK k p c) hV n (Nat.le_refl _) 0 (by omega) (by omega)).1
      have p2 := p24 (show n - 0 ≤ 24 by omega)
      have ei : (6 : Int32) * nI p + nI c = nI (6 * p + c) := by rw [L_6, pk_mul, nI_add]
      have put : ∀ z : Int32, (z = if slB G n k p c = true then 1 else 0) → Wp (f_X12_laysSlips_100 (f_X12_laysSlips_46 K (nI p) (nI (k p)) n') (nI p) (nI c) z ((6 : Int32) * nI p + nI c) M3) Q := fun z hz => by
        unfold f_X12_laysSlips_100
        rw [ei]
        refine Wp_t ((kin_I (by omega)).mpr (by omega)) ?_
        refine Wp_letI ?_; intro M4 e4
        have nz : vp_nar .boolean z = if slB G n k p c = true then 1 else 0 := by
          rw [hz]
          by_cases b : slB G n k p c = true
          · rw [if_pos b]; exact nar1
          · rw [if_neg b]; exact nar0
        rw [nI_clamp (by omega), nz] at e4
        refine Wp_t (by decide) ?_
        refine Wp_letI ?_; intro v ev
        have ev : M4.1 370 0 = v := ev
        rw [← e4, kg_si, if_neg (by omega), t2, rdO_f] at ev
        refine Wp_t ((kin_I (by omega)).mpr (by omega)) ?_
        refine Wp_letI ?_; intro M5 e5
        rw [nI_clamp (by omega), ← ev] at e5
        have hf5 : Fx (fun a _ => a = 374 ∨ a = 375) M3 M5 := by rw [← e5, ← e4]; exact ((Fx.refl M3).si _ (Or.inl rfl)).si _ (Or.inr rfl)
        rw [L_1, nI_add]
        refine ih (c + 1) M5 (by omega) (by omega) ⟨c, hX3.fx hf5 (fun a j p q z => by have z : a = 374 ∨ a = 375 := z; omega) (fun j z => by have z : 368 = 374 ∨ 368 = 375 := z; omega) (fun z => by have z : 346 = 374 ∨ 346 = 375 := z; omega)⟩ ⟨fun p' c' q1 q2 q3 => ?_, ?_, ?_⟩ (hF3.trans (hf5.mono (fun a j q => ?_)))
        · rw [← e5, ← e4]
          by_cases e : p' = p ∧ c' = c
          · obtain ⟨rfl, rfl⟩ := e
            refine ⟨?_, ?_⟩
            · rw [kg_si, if_neg (by omega), kg_si, if_pos ⟨rfl, rfl⟩]
            · rw [kg_si, if_pos ⟨rfl, rfl⟩]; rfl
          · refine ⟨?_, ?_⟩
            · rw [kg_si, if_neg (by omega), kg_si, if_neg (by omega)]; exact (hT3.1 p' c' (by omega) q2 q3).1
            · rw [kg_si, if_neg (by omega), kg_si, if_neg (by omega)]; exact (hT3.1 p' c' (by omega) q2 q3).2
        · rw [hf5.1 346 42 (fun z => by have z : 346 = 374 ∨ 346 = 375 := z; omega)]; exact hT3.2.1
        · rw [hf5.1 346 43 (fun z => by have z : 346 = 374 ∨ 346 = 375 := z; omega)]; exact hT3.2.2
        · have q : a = 374 ∨ a = 375 := q
          show a = 368 ∨ a = 369 ∨ a = 370 ∨ a = 371 ∨ a = 374 ∨ a = 375 ∨ (a = 346 ∧ 42 ≤ j ∧ j ≤ 47)
          omega
      by_cases b1 : c = k p
      · refine Wp_t (by rw [b1]) ?_
        unfold f_X12_laysSlips_99
        exact put 0 (by rw [if_neg (fun q => (slB_t.mp q).1 b1)])
      · refine Wp_f (fun q => b1 ((nI_eq (by omega) (by omega)).mp q)) ?_
        refine Wp_t (by decide) ?_
        refine Wp_letI ?_; intro v ev
        have ev : M3.1 369 0 = v := ev
        rw [t1] at ev
        subst ev
        by_cases b2 : (rdT G n (upK k p c) n 0).1 = 0
        · refine Wp_t (nI_le (b := 0) (by omega) (by omega)) ?_
          unfold f_X12_laysSlips_99
          exact put 0 (by rw [if_neg (fun q => (slB_t.mp q).2 (rdO_n.mpr b2))])
        · refine Wp_f (nI_ge (a := 0) (by omega) (by omega)) ?_
          exact put 1 (by rw [if_pos (slB_t.mpr ⟨b1, fun q => b2 (rdO_n.mp q)⟩)])
theorem sr_28 {M0 : kr_M} {n : Nat} {G : GG} {k : Nat → Nat} : ∀ n' p M, p ≤ n → n - p < n' → RX M G n k → srT M G n k p 0 → Fx srX M0 M → Wp (f_X12_laysSlips_28 n' (nI p) M) (fun M' => RX M' G n k ∧ srT M' G n k n 0 ∧ Fx srX M0 M') := by
  intro n'
  induction n' with
  | zero => intro p M h1 h2; omega
  | succ n' ih =>
    intro p M h1 h2 hX hT hF
    have hn := hX.2.2.2.2.1
    rw [f_X12_laysSlips_28]
    refine Wp_letI ?_; intro v ev
    rw [hX.2.2.1] at ev
    subst ev
    by_cases d : p = n
    · subst d
      exact Wp_t (nI_le (Nat.le_refl _) (by omega)) (Wp_some ⟨hX, hT, hF⟩)
    · refine Wp_f (nI_ge (by omega) (by omega)) ?_
      refine Wp_t ((kin_I (by omega)).mpr (by omega)) ?_
      refine Wp_letI ?_; intro v ev
      rw [nI_clamp (by omega), hX.2.2.2.1 p (by omega)] at ev
      subst ev
      have hV := hX.1
      obtain ⟨vLi, v0, vPl, vWe, vOd, vKi, vWo, vRo, vPe, vWt, vAc, vIn, vWa, vL, vMn, vW, vA, vB, vAB, vLd, vCr, vN, vK, vWg, vPc, vSt, vD⟩ := hV
      exact sr_46 (M0 := M0) (show p < n by omega) (hX.2.2.2.2.2 p (by omega)) (fun M' q1 q2 q3 => ih (p + 1) M' (by omega) (by omega) q1 q2 q3) kr_F 0 M (by omega) (kr_F_gt _ (by omega)) ⟨k p, by rw [upK_id]; exact hX⟩ hT hF
theorem sr_ok {M : kr_M} {g r : Nat} {G : GG} (hK : KS M g G) (hr : r < gRo G) : Wp (f_X12_laysSlips (nI r) M) (fun M' => RX M' G (gN G r) (rev (gN G r) (gK G r) 0) ∧ srT M' G (gN G r) (rev (gN G r) (gK G r) 0) (gN G r) 0 ∧ Fr M M') := by
  unfold f_X12_laysSlips
  refine Wp_bv _ (reads0_ok hK hr (b := 0) (by omega)) (fun M1 ⟨a1, a2, a3, a4⟩ => ?_)
  have hn := a1.2.2.2.2.1
  obtain ⟨t1, t2, t3⟩ := a2 0 (by omega) (by omega)
  refine Wp_t (by decide) ?_
  refine Wp_letI ?_; intro v ev
  have ev : M1.1 369 0 = v := ev
  rw [t1] at ev
  subst ev
  refine Wp_letI ?_; intro M4 e4
  refine Wp_t (by decide) ?_
  refine Wp_letI ?_; intro v ev
  have ev : M4.1 370 0 = v := ev
  rw [← e4, kg_si, if_neg (by omega), t2, rdO_f] at ev
  subst ev
  refine Wp_letI ?_; intro M6 e6
  have hf : Fx (fun a j => a = 346 ∧ (j = 42 ∨ j = 43)) M1 M6 := by rw [← e6, ← e4]; exact ((Fx.refl M1).si _ ⟨rfl, Or.inl rfl⟩).si _ ⟨rfl, Or.inr rfl⟩
  refine Wp_mono (sr_28 (M0 := M6) kr_F 0 M6 (by omega) (kr_F_gt _ (by omega)) (a1.fx hf (fun a j p q z => by have z : a = 346 ∧ (j = 42 ∨ j = 43) := z; omega) (fun j z => by have z : 368 = 346 ∧ (j = 42 ∨ j = 43) := z; omega) (fun z => by have z : 346 = 346 ∧ (34 = 42 ∨ 34 = 43) := z; omega)) ⟨fun p' c' q1 q2 q3 => by omega, ?_, ?_⟩ (Fx.refl M6)) (fun M' ⟨b1, b2, b3⟩ => ⟨b1, b2, (a4.trans (hf.fr (fun a j z => ?_))).trans (b3.fr sr_s)⟩)
  · rw [← e6, kg_si, if_neg (by omega), ← e4, kr_si_at]
  · rw [← e6, kr_si_at]
  · have z : a = 346 ∧ (j = 42 ∨ j = 43) := z
    omega
/-! what is read off -/
theorem rA_4 {M : kr_M} {n p : Nat} {G : GG} {k : Nat → Nat} (hX : RX M G n k) (hT : srT M G n k n 0) (hp : p < n) : ∀ n' c, c ≤ gKi G → gKi G - c < n' → f_X12_slipsAt_4 (nI p) n' (nI (slN G n k p c)) (nI c) M = some (nI (slN G n k p (gKi G)), M) := by
  have hV := hX.1
  obtain ⟨vLi, v0, vPl, vWe, vOd, vKi, vWo, vRo, vPe, vWt, vAc, vIn, vWa, vL, vMn, vW, vA, vB, vAB, vLd, vCr, vN, vK, vWg, vPc, vSt, vD⟩ := hV
  have hR := hX.2.1
  obtain ⟨r0, rPl, rWe, rOd, rKi, rWo, rRo, rPe, rAc, rInc, rWa, rL, rMn, rW, rA, rB, rLd, rWg, rPc⟩ := hR
  have hn := hX.2.2.2.2.1
  intro n'
  induction n' with
  | zero => intro c h1 h2; omega
  | succ n' ih =>
    intro c h1 h2
    apply Wp_eq
    rw [f_X12_slipsAt_4]
    refine Wp_t (by decide) ?_
    refine Wp_letI ?_; intro v ev
    have rKi' : M.1 353 (3 : Int32).toNatClampNeg = nI (gKi G) := rKi
    rw [rKi'] at ev
    subst ev
    by_cases d : c = gKi G
    · subst d
      exact Wp_t (nI_le (Nat.le_refl _) (by omega)) (Wp_some rfl)
    · refine Wp_f (nI_ge (by omega) (by omega)) ?_
      rw [show (6 : Int32) * nI p + nI c = nI (6 * p + c) by rw [L_6, pk_mul, nI_add]]
      refine Wp_t ((kin_I (by omega)).mpr (by omega)) ?_
      refine Wp_letI ?_; intro v ev
      rw [nI_clamp (by omega), (hT.1 p c (Or.inl hp) hp (by omega)).1] at ev
      subst ev
      have nx := ih (c + 1) (by omega) (by omega)
      unfold f_X12_slipsAt_34
      by_cases b : slB G n k p c = true
      · rw [slN, if_pos b] at nx
        rw [if_pos b]
        refine Wp_f (by decide) ?_
        refine Wp_letI ?_; intro v ev
        rw [L_1, nI_add] at ev
        subst ev
        rw [L_1, nI_add]
        exact Wp_of nx rfl
      · rw [slN, if_neg b] at nx
        rw [if_neg b]
        refine Wp_t rfl ?_
        refine Wp_letI ?_; intro v ev
        rw [L_0, nI_add] at ev
        subst ev
        rw [L_1, nI_add]
        exact Wp_of nx rfl
theorem rA_ok {M : kr_M} {n p : Nat} {G : GG} {k : Nat → Nat} (hX : RX M G n k) (hT : srT M G n k n 0) (hp : p < n) : f_X12_slipsAt (nI p) M = some (nI (slN G n k p (gKi G)), M) := by
  have hV := hX.1
  obtain ⟨vLi, v0, vPl, vWe, vOd, vKi, vWo, vRo, vPe, vWt, vAc, vIn, vWa, vL, vMn, vW, vA, vB, vAB, vLd, vCr, vN, vK, vWg, vPc, vSt, vD⟩ := hV
  exact rA_4 hX hT hp kr_F 0 (by omega) (kr_F_gt _ (by omega))
theorem rI_4 {M : kr_M} {n : Nat} {G : GG} {k : Nat → Nat} (hX : RX M G n k) (hT : srT M G n k n 0) : ∀ n' p, p ≤ n → n - p < n' → f_X12_slipsAll_4 n' (nI (slA G n k p)) (nI p) M = some (nI (slA G n k n), M) := by
  have hn := hX.2.2.2.2.1
  intro n'
  induction n' with
  | zero => intro p h1 h2; omega
  | succ n' ih =>
    intro p h1 h2
    apply Wp_eq
    rw [f_X12_slipsAll_4]
    refine Wp_letI ?_; intro v ev
    rw [hX.2.2.1] at ev
    subst ev
    by_cases d : p = n
    · rw [d]
      exact Wp_t (nI_le (Nat.le_refl _) (by omega)) (Wp_some rfl)
    · refine Wp_f (nI_ge (by omega) (by omega)) ?_
      rw [rA_ok hX hT (by omega)]
      refine Wp_bis ?_
      refine Wp_letI ?_; intro v ev
      rw [nI_add] at ev
      subst ev
      rw [L_1, nI_add]
      have nx := ih (p + 1) (by omega) (by omega)
      rw [slA] at nx
      exact Wp_of nx rfl
theorem rI_ok {M : kr_M} {n : Nat} {G : GG} {k : Nat → Nat} (hX : RX M G n k) (hT : srT M G n k n 0) : f_X12_slipsAll M = some (nI (slA G n k n), M) := rI_4 hX hT kr_F 0 (by omega) (kr_F_gt _ (by have := hX.2.2.2.2.1; omega))
theorem rp_25 {M : kr_M} {n : Nat} {G : GG} {k : Nat → Nat} (hX : RX M G n k) (hT : srT M G n k n 0) : ∀ n' p, p ≤ n → n - p < n' → f_X12_spots_25 n' (spF G n k p) (nI p) M = some (spF G n k n, M) := by
  have hn := hX.2.2.2.2.1
  intro n'
  induction n' with
  | zero => intro p h1 h2; omega
  | succ n' ih =>
    intro p h1 h2
    apply Wp_eq
    rw [f_X12_spots_25]
    refine Wp_letI ?_; intro v ev
    rw [hX.2.2.1] at ev
    subst ev
    by_cases d : p = n
    · rw [d]
      exact Wp_t (nI_le (Nat.le_refl _) (by omega)) (Wp_some rfl)
    · refine Wp_f (nI_ge (by omega) (by omega)) ?_
      rw [rA_ok hX hT (by omega)]
      refine Wp_bis ?_
      have nx := ih (p + 1) (by omega) (by omega)
      have le := slN_le G n k p (gKi G)
      have hV := hX.1
      obtain ⟨vLi, v0, vPl, vWe, vOd, vKi, vWo, vRo, vPe, vWt, vAc, vIn, vWa, vL, vMn, vW, vA, vB, vAB, vLd, vCr, vN, vK, vWg, vPc, vSt, vD⟩ := hV
      unfold f_X12_spots_49
      by_cases b : 0 < slN G n k p (gKi G)
      · rw [spF, if_pos b] at nx
        refine Wp_f (nI_ge (a := 0) b (by omega)) ?_
        refine Wp_letI ?_; intro v ev
        subst ev
        rw [show nI p + (1 : Int32) = nI (p + 1) by rw [L_1, nI_add]]
        exact Wp_of nx rfl
      · rw [spF, if_neg b] at nx
        refine Wp_t (nI_le (b := 0) (by omega) (by omega)) ?_
        refine Wp_letI ?_; intro v ev
        rw [Int32.or_zero] at ev
        subst ev
        rw [show nI p + (1 : Int32) = nI (p + 1) by rw [L_1, nI_add]]
        exact Wp_of nx rfl
abbrev s46 : Nat → Nat → Prop := fun a j => a = 346 ∧ 44 ≤ j ∧ j ≤ 47
theorem s46_s : SS s46 := fun a j h => by have h : a = 346 ∧ 44 ≤ j ∧ j ≤ 47 := h; omega
theorem RX.x46 {M M' : kr_M} {G : GG} {n : Nat} {k : Nat → Nat} (h : RX M G n k) (hf : Fx s46 M M') : RX M' G n k := h.fx hf (fun a j p q z => by have z : a = 346 ∧ 44 ≤ j ∧ j ≤ 47 := z; omega) (fun j z => by have z : 368 = 346 ∧ 44 ≤ j ∧ j ≤ 47 := z; omega) (fun z => by have z : 346 = 346 ∧ 44 ≤ 34 ∧ 34 ≤ 47 := z; omega)
theorem srT.x46 {M M' : kr_M} {G : GG} {n p c : Nat} {k : Nat → Nat} (h : srT M G n k p c) (hf : Fx s46 M M') : srT M' G n k p c := h.fx hf (fun j z => by have z : 374 = 346 ∧ 44 ≤ j ∧ j ≤ 47 := z; omega) (fun j z => by have z : 375 = 346 ∧ 44 ≤ j ∧ j ≤ 47 := z; omega) (fun z => by have z : 346 = 346 ∧ 44 ≤ 42 ∧ 42 ≤ 47 := z; omega) (fun z => by have z : 346 = 346 ∧ 44 ≤ 43 ∧ 43 ≤ 47 := z; omega)
theorem frF_35 {M0 : kr_M} {n t : Nat} {G : GG} {k : Nat → Nat} (ht : slA G n k n ≤ t) (ht2 : t ≤ 200) : ∀ n' p M, p ≤ n → n - p < n' → RX M G n k → srT M G n k n 0 → M.1 346 44 = (flF G n k t p).1 → M.1 346 45 = nI (flF G n k t p).2 → Fx s46 M0 M → Wp (f_X12_laysFeel_35 (nI t) n' (nI p) M) (fun M' => M'.1 346 44 = (flF G n k t n).1 ∧ M'.1 346 45 = nI (flF G n k t n).2 ∧ Fx s46 M0 M') := by
  intro n'
  induction n' with
  | zero => intro p M h1 h2; omega
  | succ n' ih =>
    intro p M h1 h2 hX hT x8 x9 hF
    have hn := hX.2.2.2.2.1
    rw [f_X12_laysFeel_35]
    refine Wp_letI ?_; intro v ev
    rw [hX.2.2.1] at ev
    subst ev
    by_cases d : p = n
    · subst d
      exact Wp_t (nI_le (Nat.le_refl _) (by omega)) (Wp_some ⟨x8, x9, hF⟩)
    · refine Wp_f (nI_ge (by omega) (by omega)) ?_
      rw [rA_ok hX hT (by omega)]
      refine Wp_bis ?_
      have le := slA_ge (G := G) (n := n) (k := k) n p (by omega)
      have fle := flF_le G n k t p
      refine Wp_letI ?_; intro v ev
      rw [pk_sub (by omega)] at ev
      subst ev
      have wle : flW G n k t p ≤ 200 := by unfold flW; omega
      have go : ∀ z, z = flW G n k t p → Wp (f_X12_laysFeel_71 (f_X12_laysFeel_35 (nI t) n') (nI p) (nI z) M) (fun M' => M'.1 346 44 = (flF G n k t n).1 ∧ M'.1 346 45 = nI (flF G n k t n).2 ∧ Fx s46 M0 M') := fun z hz => by
        subst hz
        unfold f_X12_laysFeel_71
        refine Wp_letI ?_; intro v ev
        rw [x9] at ev
        subst ev
        by_cases c : flW G n k t p < (flF G n k t p).2
        · refine Wp_t ((nI_ltI (by omega) (by omega)).mpr c) ?_
          refine Wp_letI ?_; intro M1 e1
          refine Wp_letI ?_; intro M2 e2
          have hf : Fx s46 M M2 := by rw [← e2, ← e1]; exact ((Fx.refl M).si _ ⟨rfl, by omega, by omega⟩).si _ ⟨rfl, by omega, by omega⟩
          unfold f_X12_laysFeel_96
          rw [L_1, nI_add]
          have ef : flF G n k t (p + 1) = (nI p, flW G n k t p) := by rw [flF, if_pos c]
          refine ih (p + 1) M2 (by omega) (by omega) (hX.x46 hf) (hT.x46 hf) ?_ ?_ (hF.trans hf)
          · rw [ef, ← e2, kg_si, if_neg (by omega), ← e1, kr_si_at]
          · rw [ef, ← e2, kr_si_at]
        · refine Wp_f (fun q => c ((nI_ltI (by omega) (by omega)).mp q)) ?_
          unfold f_X12_laysFeel_96
          rw [L_1, nI_add]
          have ef : flF G n k t (p + 1) = flF G n k t p := by rw [flF, if_neg c]
          exact ih (p + 1) M (by omega) (by omega) hX hT (by rw [ef]; exact x8) (by rw [ef]; exact x9) hF
      unfold f_X12_laysFeel_69
      by_cases c0 : t - slN G n k p (gKi G) = 0
      · refine Wp_f (fun q => q (by rw [c0]; rfl)) ?_
        rw [rA_ok hX hT (by omega)]
        refine Wp_bis ?_
        by_cases c1 : 0 < slN G n k p (gKi G)
        · refine Wp_f (nI_ge (a := 0) c1 (by omega)) ?_
          exact go 1 (by unfold flW; omega)
        · refine Wp_t (nI_le (b := 0) (by omega) (by omega)) ?_
          exact go _ (by unfold flW; omega)
      · refine Wp_t (fun q => c0 ((nI_eq (b := 0) (by omega) (by omega)).mp q)) ?_
        exact go _ (by unfold flW; omega)
theorem frF_ok {M : kr_M} {g r : Nat} {G : GG} (hK : KS M g G) (hr : r < gRo G) : Wp (f_X12_laysFeel (nI r) M) (fun M' => M'.1 346 44 = (flF G (gN G r) (rev (gN G r) (gK G r) 0) (slS G (gN G r) (rev (gN G r) (gK G r) 0)) (gN G r)).1 ∧ M'.1 346 45 = nI (flF G (gN G r) (rev (gN G r) (gK G r) 0) (slS G (gN G r) (rev (gN G r) (gK G r) 0)) (gN G r)).2 ∧ Fr M M') := by
  unfold f_X12_laysFeel
  refine Wp_bv _ (sr_ok hK hr) (fun M1 ⟨hX, hT, hF⟩ => ?_)
  generalize hk : rev (gN G r) (gK G r) 0 = k at *
  generalize hnn : gN G r = n at *
  have hn := hX.2.2.2.2.1
  have al := slA_le (n := n) (k := k) hX.1 n
  have rb := (rdT_b (k := k) hX.1 n (Nat.le_refl _) 0 (by omega) (by omega)).1
  have p2 := p24 (show n - 0 ≤ 24 by omega)
  rw [rI_ok hX hT]
  refine Wp_bis ?_
  refine Wp_letI ?_; intro v ev
  rw [hT.2.1] at ev
  subst ev
  have go : ∀ z, slS G n k = slA G n k n + z → Wp (f_X12_laysFeel_21 (nI z) (nI (slA G n k n)) M1) (fun M' => M'.1 346 44 = (flF G n k (slS G n k) n).1 ∧ M'.1 346 45 = nI (flF G n k (slS G n k) n).2 ∧ Fr M M') := fun z hz => by
    have zl : z ≤ 1 := by
      unfold slS at hz
      split at hz <;> omega
    unfold f_X12_laysFeel_21
    refine Wp_letI ?_; intro v ev
    rw [nI_add, ← hz] at ev
    subst ev
    refine Wp_letI ?_; intro M2 e2
    refine Wp_letI ?_; intro M3 e3
    have hf : Fx s46 M1 M3 := by rw [← e3, ← e2]; exact ((Fx.refl M1).si _ ⟨rfl, by omega, by omega⟩).si _ ⟨rfl, by omega, by omega⟩
    refine Wp_mono (frF_35 (M0 := M1) (by omega) (by omega) kr_F 0 M3 (by omega) (kr_F_gt _ (by omega)) (hX.x46 hf) (hT.x46 hf) ?_ ?_ hf) (fun M' ⟨q1, q2, q3⟩ => ⟨q1, q2, hF.trans (q3.fr s46_s)⟩)
    · rw [← e3, kg_si, if_neg (by omega), ← e2, kr_si_at]; rfl
    · rw [← e3, kr_si_at]; rfl
  by_cases c : (rdT G n k n 0).1 = 0
  · refine Wp_t (nI_le (b := 0) (by omega) (by omega)) (go 0 (by unfold slS; rw [if_pos c]))
  · refine Wp_f (nI_ge (a := 0) (by omega) (by omega)) (go 1 (by unfold slS; rw [if_neg c]))
/-! forged -/
def fg4 (o : Option (Nat × Nat)) : Int32 := match o with
  | none => -1
  | some (_, a) => nI a
def fgJ (M : kr_M) (o : Option (Nat × Nat)) : Prop := M.1 346 46 = fg1 o ∧ M.1 346 47 = fg4 o
theorem rg_17 {M0 : kr_M} {n : Nat} {G : GG} {k : Nat → Nat} : ∀ n' q M, q ≤ 6 * n → 6 * n - q < n' → RX M G n k → srT M G n k n 0 → ((rdT G n k n 0).1 ≠ 0 → fgJ M (fgF G n k q)) → ((rdT G n k n 0).1 = 0 → fgJ M none) → Fx s46 M0 M → Wp (f_X12_laysForged_17 n' (nI q) M) (fun M' => fgJ M' (fgO G n k) ∧ Fx s46 M0 M') := by
  intro n'
  induction n' with
  | zero => intro q M h1 h2; omega
  | succ n' ih =>
    intro q M h1 h2 hX hT hI hN hF
    have hV := hX.1
    have hV' := hV
    obtain ⟨vLi, v0, vPl, vWe, vOd, vKi, vWo, vRo, vPe, vWt, vAc, vIn, vWa, vL, vMn, vW, vA, vB, vAB, vLd, vCr, vN, vK, vWg, vPc, vSt, vD⟩ := hV'
    have hR := hX.2.1
    obtain ⟨r0, rPl, rWe, rOd, rKi, rWo, rRo, rPe, rAc, rInc, rWa, rL, rMn, rW, rA, rB, rLd, rWg, rPc⟩ := hR
    have hn := hX.2.2.2.2.1
    have rb := (rdT_b (k := k) hV n (Nat.le_refl _) 0 (by omega) (by omega)).1
    have p2 := p24 (show n - 0 ≤ 24 by omega)
    rw [f_X12_laysForged_17]
    refine Wp_letI ?_; intro v ev
    rw [hX.2.2.1] at ev
    subst ev
    rw [show (6 : Int32) * nI n = nI (6 * n) by rw [L_6, pk_mul]]
    by_cases d : q = 6 * n
    · refine Wp_t (nI_le (by omega) (by omega)) (Wp_some ⟨?_, hF⟩)
      unfold fgO
      by_cases c : (rdT G n k n 0).1 = 0
      · rw [if_pos c]; exact hN c
      · rw [if_neg c, ← d]; exact hI c
    refine Wp_f (nI_ge (by omega) (by omega)) ?_
    refine Wp_letI ?_; intro v ev
    rw [hT.2.1] at ev
    subst ev
    by_cases c : (rdT G n k n 0).1 = 0
    · refine Wp_t (nI_le (b := 0) (by omega) (by omega)) (Wp_some ⟨?_, hF⟩)
      unfold fgO
      rw [if_pos c]; exact hN c
    refine Wp_f (nI_ge (a := 0) (by omega) (by omega)) ?_
    refine Wp_f (by decide) ?_
    refine Wp_t (by decide) ?_
    refine Wp_letI ?_; intro v ev
    have rKi' : M.1 353 (3 : Int32).toNatClampNeg = nI (gKi G) := rKi
    rw [rKi'] at ev
    subst ev
    have em : nI q - nI q / (6 : Int32) * (6 : Int32) = nI (q % 6) := by
      rw [L_6, pk_div (by omega) (by omega) (by omega), pk_mul, pk_sub (by omega), show q - q / 6 * 6 = q % 6 by omega]
    rw [em]
    have skip : fgF G n k (q + 1) = fgF G n k q → Wp (f_X12_laysForged_120 (f_X12_laysForged_17 n') (nI q) M) (fun M' => fgJ M' (fgO G n k) ∧ Fx s46 M0 M') := fun e => by
      unfold f_X12_laysForged_120
      rw [L_1, nI_add]
      exact ih (q + 1) M (by omega) (by omega) hX hT (fun z => by rw [e]; exact hI z) hN hF
    by_cases d1 : q % 6 < gKi G
    · refine Wp_f (nI_ge d1 (by omega)) ?_
      refine Wp_t ((kin_I (by omega)).mpr (by omega)) ?_
      obtain ⟨t1, t2⟩ := hT.1 (q / 6) (q % 6) (Or.inl (by omega)) (by omega) d1
      rw [show 6 * (q / 6) + q % 6 = q by omega] at t1 t2
      refine Wp_letI ?_; intro v ev
      rw [nI_clamp (by omega), t1] at ev
      subst ev
      by_cases b : slB G n k (q / 6) (q % 6) = true
      · rw [if_pos b]
        refine Wp_t (by decide) ?_
        refine Wp_t ((kin_I (by omega)).mpr (by omega)) ?_
        obtain ⟨x, hx⟩ : ∃ x, slT G n k (q / 6) (q % 6) = some x := Option.ne_none_iff_exists'.mp (slB_t.mp b).2
        obtain ⟨y, hy⟩ : ∃ y, rdO (rdT G n k n 0) = some y := Option.ne_none_iff_exists'.mp (fun z => c (rdO_n.mp z))
        have bx := slT_b hV hx
        have by' := (pa_b hV ((rd_is (k := k) hV n (Nat.le_refl _) 0 (by omega) (by omega)).1 y hy)).2.1
        have ev : fgV G n k q = fgD x y := by unfold fgV; rw [hx, hy]; rfl
        have vb := fgV_b (k := k) hV hn q
        have t2 : M.1 375 q = nI x := by rw [t2, hx]; rfl
        have t3 : M.1 346 43 = nI y := by rw [hT.2.2, hy]; rfl
        have es' : fgF G n k (q + 1) = (match fgF G n k q with
          | none => some (fgV G n k q, q)
          | some (v, a) => if v < fgV G n k q then some (fgV G n k q, q) else some (v, a)) := by rw [fgF, if_pos ⟨d1, b⟩]; rfl
        have go : ∀ z, z = fgV G n k q → Wp (f_X12_laysForged_98 (f_X12_laysForged_17 n') (nI q) (nI z) M) (fun M' => fgJ M' (fgO G n k) ∧ Fx s46 M0 M') := fun z hz => by
          subst hz
          unfold f_X12_laysForged_98
          obtain ⟨i1, i2⟩ := hI c
          refine Wp_letI ?_; intro v8 e8
          rw [i1] at e8
          have put : fgF G n k (q + 1) = some (fgV G n k q, q) → v8 < nI (fgV G n k q) → Wp (if v8 < nI (fgV G n k q) then kr_let (kr_si M 346 46 (nI (fgV G n k q))) fun M2 => kr_let (kr_si M2 346 47 (nI q)) fun M3 => (f_X12_laysForged_120 (f_X12_laysForged_17 n') (nI q) M3) else (f_X12_laysForged_120 (f_X12_laysForged_17 n') (nI q) M)) (fun M' => fgJ M' (fgO G n k) ∧ Fx s46 M0 M') := fun q1 q2 => by
            refine Wp_t q2 ?_
            refine Wp_letI ?_; intro M1 y1
            refine Wp_letI ?_; intro M2 y2
            have hf : Fx s46 M M2 := by rw [← y2, ← y1]; exact ((Fx.refl M).si _ ⟨rfl, by omega, by omega⟩).si _ ⟨rfl, by omega, by omega⟩
            unfold f_X12_laysForged_120
            rw [L_1, nI_add]
            refine ih (q + 1) M2 (by omega) (by omega) (hX.x46 hf) (hT.x46 hf) (fun _ => ?_) (fun z => absurd z c) (hF.trans hf)
            rw [q1]
            refine ⟨?_, ?_⟩
            · rw [← y2, kg_si, if_neg (by omega), ← y1, kr_si_at]; rfl
            · rw [← y2, kr_si_at]; rfl
          cases e : fgF G n k q with
          | none =>
            rw [e] at es' e8
            have e8 : (-1 : Int32) = v8 := e8
            refine put es' ?_
            rw [← e8, kz_lt, nI_toInt (by omega), show (-1 : Int32).toInt = -1 from rfl]
            omega
          | some y =>
            obtain ⟨u, a⟩ := y
            have ub := (fgF_b _ u a e).2
            have ub2 := fgV_b (k := k) hV hn a
            rw [e] at es' e8
            have e8 : nI u = v8 := e8
            have es' : fgF G n k (q + 1) = if u < fgV G n k q then some (fgV G n k q, q) else some (u, a) := es'
            by_cases z : u < fgV G n k q
            · rw [if_pos z] at es'
              exact put es' (by rw [← e8]; exact (nI_ltI (by omega) (by omega)).mpr z)
            · rw [if_neg z] at es'
              refine Wp_f (by rw [← e8]; exact fun w => z ((nI_ltI (by omega) (by omega)).mp w)) ?_
              exact skip (by rw [es', e])
        refine Wp_letI ?_; intro v ev6
        rw [nI_clamp (by omega), t2] at ev6
        subst ev6
        refine Wp_letI ?_; intro v ev7
        rw [t3] at ev7
        subst ev7
        by_cases le : x ≤ y
        · refine Wp_t (nI_le le (by omega)) ?_
          refine Wp_letI ?_; intro v ev8
          rw [t3] at ev8
          subst ev8
          refine Wp_t ((kin_I (by omega)).mpr (by omega)) ?_
          refine Wp_letI ?_; intro v ev9
          rw [nI_clamp (by omega), t2] at ev9
          subst ev9
          rw [pk_sub le]
          exact go _ (by rw [ev]; unfold fgD; omega)
        · refine Wp_f (nI_ge (by omega) (by omega)) ?_
          refine Wp_t ((kin_I (by omega)).mpr (by omega)) ?_
          refine Wp_letI ?_; intro v ev9
          rw [nI_clamp (by omega), t2] at ev9
          subst ev9
          refine Wp_letI ?_; intro v ev8
          rw [t3] at ev8
          subst ev8
          rw [pk_sub (by omega)]
          exact go _ (by rw [ev]; unfold fgD; omega)
      · rw [if_neg b]
        refine Wp_f (fun z => z rfl) (skip ?_)
        rw [fgF, if_neg (fun z => b z.2)]
    · refine Wp_t (nI_le (by omega) (by omega)) (skip ?_)
      rw [fgF, if_neg (fun z => d1 z.1)]
theorem rg_ok {M : kr_M} {g r : Nat} {G : GG} (hK : KS M g G) (hr : r < gRo G) : Wp (f_X12_laysForged (nI r) M) (fun M' => fgJ M' (fgO G (gN G r) (rev (gN G r) (gK G r) 0)) ∧ Fr M M') := by
  unfold f_X12_laysForged
  refine Wp_bv _ (sr_ok hK hr) (fun M1 ⟨hX, hT, hF⟩ => ?_)
  have hn := hX.2.2.2.2.1
  refine Wp_letI ?_; intro M2 y2
  refine Wp_letI ?_; intro M3 y3
  have hf : Fx s46 M1 M3 := by rw [← y3, ← y2]; exact ((Fx.refl M1).si _ ⟨rfl, by omega, by omega⟩).si _ ⟨rfl, by omega, by omega⟩
  have hI : fgJ M3 none := by
    refine ⟨?_, ?_⟩
    · rw [← y3, kg_si, if_neg (by omega), ← y2, kr_si_at]; rfl
    · rw [← y3, kr_si_at]; rfl
  exact Wp_mono (rg_17 (M0 := M1) kr_F 0 M3 (by omega) (kr_F_gt _ (by omega)) (hX.x46 hf) (hT.x46 hf) (fun _ => hI) (fun _ => hI) hf) (fun M' ⟨q1, q2⟩ => ⟨q1, hF.trans (q2.fr s46_s)⟩)
