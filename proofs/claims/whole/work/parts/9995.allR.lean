/-! all, order of the reference -/
abbrev aX : Nat → Nat → Prop := fun a j => a = 376 ∨ a = 377 ∨ (a = 346 ∧ (j = 50 ∨ j = 51))
theorem a_s : SS aX := fun a j h => by have h : a = 376 ∨ a = 377 ∨ (a = 346 ∧ (j = 50 ∨ j = 51)) := h; omega
theorem aXR {M M' : kr_M} {G : GG} (h : RG M G) (hf : Fx aX M M') : RG M' G := h.fx hf (fun a j p q z => by have z : a = 376 ∨ a = 377 ∨ (a = 346 ∧ (j = 50 ∨ j = 51)) := z; omega)
theorem aXL {M M' : kr_M} {G : GG} (h : LG M G) (hf : Fx aX M M') : LG M' G := h.fx hf (fun a j p q z => by have z : a = 376 ∨ a = 377 ∨ (a = 346 ∧ (j = 50 ∨ j = 51)) := z; omega) (fun z => by have z : 346 = 376 ∨ 346 = 377 ∨ (346 = 346 ∧ (32 = 50 ∨ 32 = 51)) := z; omega)
theorem st_21 {n S : Nat} (h : S < 2 ^ n) (hb : ∀ r, r < n → ¬ S.testBit r = true) : S = 0 := by
  apply Nat.eq_of_testBit_eq
  intro i
  rw [Nat.zero_testBit]
  by_cases c : i < n
  · exact Bool.eq_false_iff.mpr (hb i c)
  · exact Nat.testBit_lt_two_pow (Nat.lt_of_lt_of_le h (Nat.pow_le_pow_right (by omega) (by omega)))
def aQ (M M1 : kr_M) (G : GG) (V : Nat → Nat → Nat) (pos S l len B : Nat) (acc : Option (Nat × Nat)) : Prop :=
  (match acc with
    | none => M1.1 346 51 = nI B ∧ M1.1 346 50 = M.1 346 50 ∧ M1.1 377 = M.1 377
    | some (m, a) => (len + m < B → M1.1 346 51 = nI (len + m) ∧ M1.1 346 50 = nI (pos + pc S) ∧ (∀ k, k < pos → M1.1 377 k = M.1 376 k) ∧ M1.1 377 pos = nI a ∧ ∀ k, k + 1 < pc S → M1.1 377 (pos + 1 + k) = nI (aP G V k (S - 2 ^ a) a)) ∧ (¬ len + m < B → M1.1 346 51 = nI B ∧ M1.1 346 50 = M.1 346 50 ∧ M1.1 377 = M.1 377)) ∧ (∀ k, k < pos → M1.1 376 k = M.1 376 k) ∧ Fx aX M M1
def aWs (M M1 : kr_M) (G : GG) (V : Nat → Nat → Nat) (pos S l len B : Nat) : Prop :=
  (len + V S l < B → M1.1 346 51 = nI (len + V S l) ∧ M1.1 346 50 = nI (pos + pc S) ∧ (∀ k, k < pos → M1.1 377 k = M.1 376 k) ∧ ∀ k, k < pc S → M1.1 377 (pos + k) = nI (aP G V k S l)) ∧ (¬ len + V S l < B → M1.1 346 51 = nI B ∧ M1.1 346 50 = M.1 346 50 ∧ M1.1 377 = M.1 377) ∧ (∀ k, k < pos → M1.1 376 k = M.1 376 k) ∧ Fx aX M M1
theorem aW_cp {M0 : kr_M} {pos : Nat} {R : Int32 → Int32 → Int32 → kr_M → Option kr_M} (hp : pos ≤ 6) : ∀ n' k M, k ≤ pos → pos - k < n' → (∀ j, j < k → M.1 377 j = M0.1 376 j) → Fx (fun a _ => a = 377) M0 M → Wp (f_X12_puts_26 R (nI pos) n' (nI k) M) (fun M' => (∀ j, j < pos → M'.1 377 j = M0.1 376 j) ∧ Fx (fun a _ => a = 377) M0 M') := by
  intro n'
  induction n' with
  | zero => intro k M h1 h2; omega
  | succ n' ih =>
    intro k M h1 h2 hT hF
    rw [f_X12_puts_26]
    by_cases c : k = pos
    · subst c
      exact Wp_t (nI_le (Nat.le_refl _) (by omega)) (Wp_some ⟨hT, hF⟩)
    · refine Wp_f (nI_ge (by omega) (by omega)) ?_
      refine Wp_t ((kin_I (by omega)).mpr (by omega)) ?_
      refine Wp_letI ?_; intro v ev
      rw [nI_clamp (by omega)] at ev
      refine Wp_t ((kin_I (by omega)).mpr (by omega)) ?_
      refine Wp_letI ?_; intro M1 e1
      rw [nI_clamp (by omega)] at e1
      have hf : Fx (fun a _ => a = 377) M M1 := by rw [← e1]; exact (Fx.refl M).si _ rfl
      rw [L_1, nI_add]
      refine ih (k + 1) M1 (by omega) (by omega) (fun j hj => ?_) (hF.trans hf)
      rw [← e1, kg_si]
      by_cases e : j = k
      · subst e
        rw [if_pos ⟨rfl, rfl⟩, ← ev]
        exact hF.1 376 j (fun q => by have q : 376 = 377 := q; omega)
      · rw [if_neg (fun q => e q.2)]
        exact hT j (by omega)
theorem aN_le {G : GG} (l r : Nat) : (if l = 6 then 0 else ovG G l r) ≤ gN G r := by
  split
  · omega
  · by_cases e : l = r
    · subst e; exact (ovG_le G l l).1
    · exact (ovG_le G l r).2 e
theorem pt_in {M : kr_M} {G : GG} {V : Nat → Nat → Nat} {pos S l len B : Nat} {R : Int32 → Int32 → Int32 → kr_M → Option kr_M} (hV : GV G) (hS : S < 64) (hS2 : S < 2 ^ gRo G) (hpos : pos + pc S ≤ 6) (hlen : len ≤ 24 * pos) (hB : B ≤ 100000000)
    (hl : (pos = 0 ∧ l = 6) ∨ (0 < pos ∧ l < gRo G ∧ M.1 376 (pos - 1) = nI l))
    (hR : ∀ r M1, r < gRo G → S.testBit r = true → RG M1 G → LG M1 G → ∀ B1, B1 ≤ 100000000 → M1.1 346 51 = nI B1 → M1.1 376 pos = nI r → Wp (R (nI (pos + 1)) (nI (S - 2 ^ r)) (nI (len + (gN G r - (if l = 6 then 0 else ovG G l r)))) M1) (fun M2 => aWs M1 M2 G V (pos + 1) (S - 2 ^ r) r (len + (gN G r - (if l = 6 then 0 else ovG G l r))) B1)) :
    ∀ n' r M1, r ≤ gRo G → gRo G - r < n' → RG M1 G → LG M1 G → aQ M M1 G V pos S l len B (aS G V S l r) → Wp (f_X12_puts_56 R (nI pos) (nI S) (nI len) n' (nI r) M1) (fun M2 => aQ M M2 G V pos S l len B (aS G V S l (gRo G))) := by
  have hV' := hV
  obtain ⟨vLi, v0, vPl, vWe, vOd, vKi, vWo, vRo, vPe, vWt, vAc, vIn, vWa, vL, vMn, vW, vA, vB, vAB, vLd, vCr, vN, vK, vWg, vPc, vSt, vD⟩ := hV'
  intro n'
  induction n' with
  | zero => intro r M1 h1 h2; omega
  | succ n' ih =>
    intro r M1 h1 h2 hR1 hL1 hQ
    have hR1' := hR1
    obtain ⟨r0, rPl, rWe, rOd, rKi, rWo, rRo, rPe, rAc, rInc, rWa, rL, rMn, rW, rA, rB, rLd, rWg, rPc⟩ := hR1'
    have hL1' := hL1
    obtain ⟨lN, lK, lCr, lSt, lWt⟩ := hL1'
    rw [f_X12_puts_56]
    refine Wp_t (by decide) ?_
    refine Wp_letI ?_; intro v ev
    have rRo' : M1.1 353 (5 : Int32).toNatClampNeg = nI (gRo G) := rRo
    rw [rRo'] at ev
    subst ev
    by_cases c : r = gRo G
    · subst c
      exact Wp_t (nI_le (Nat.le_refl _) (by omega)) (Wp_some hQ)
    have hr : r < gRo G := by omega
    refine Wp_f (nI_ge (by omega) (by omega)) ?_
    by_cases d : S.testBit r = true
    · obtain ⟨s1, s2, s3, s4, s5⟩ := st_20 S hS r (by omega) d
      rw [isBit_t hS (by omega) d]
      refine Wp_bis (Wp_t (by decide) ?_)
      refine Wp_t ((kin_I (by omega)).mpr (by omega)) ?_
      refine Wp_letI ?_; intro M4 e4
      rw [nI_clamp (by omega)] at e4
      have hf : Fx aX M1 M4 := by rw [← e4]; exact (Fx.refl M1).si _ (Or.inl rfl)
      have hR4 := aXR hR1 hf
      have hL4 := aXL hL1 hf
      have hL4' := hL4
      refine Wp_t ((kin_I (by omega)).mpr (by omega)) ?_
      refine Wp_letI ?_; intro v ev
      have lN4 : M4.1 365 r = nI (gN G r) := by rw [← e4, kr_si_ne _ _ _ (by omega)]; exact lN r hr
      rw [nI_clamp (by omega), lN4] at ev
      subst ev
      have w4 : M4.1 376 pos = nI r := by rw [← e4, kr_si_at]
      have k4 : ∀ k, k < pos → M4.1 376 k = M.1 376 k := fun k hk => by
        rw [← e4, kg_si, if_neg (by omega)]; exact hQ.2.1 k hk
      have r7 : M4.1 377 = M1.1 377 := by rw [← e4]; funext j; rw [kg_si, if_neg (by omega)]
      have r6 : ∀ j, M4.1 346 j = M1.1 346 j := fun j => by rw [← e4, kg_si, if_neg (by omega)]
      have nle := aN_le (G := G) l r
      have hN := vN r hr
      have bit := (st_9 r (by omega)).1
      have rest : ∀ (ov : Nat), ov = (if l = 6 then 0 else ovG G l r) → Wp (f_X12_puts_130 R (f_X12_puts_56 R (nI pos) (nI S) (nI len) n') (nI r) (nI ov) (nI len + nI (gN G r)) (nI S &&& (((1 : Int32) <<< (nI r &&& 31)) ^^^ (-1 : Int32))) (nI pos + (1 : Int32)) M4) (fun M2 => aQ M M2 G V pos S l len B (aS G V S l (gRo G))) := fun ov hov => by
        unfold f_X12_puts_130
        rw [bit, s5, nI_add, pk_sub (by omega), L_1, nI_add, show len + gN G r - ov = len + (gN G r - (if l = 6 then 0 else ovG G l r)) by omega]
        have eN : len + (gN G r - (if l = 6 then 0 else ovG G l r)) + V (S - 2 ^ r) r = len + aN G V S l r := by unfold aN; omega
        have es : aS G V S l (r + 1) = (match aS G V S l r with
          | none => some (aN G V S l r, r)
          | some (m, a) => if m ≤ aN G V S l r then some (m, a) else some (aN G V S l r, r)) := if_pos d
        have go : ∀ B1, B1 ≤ 100000000 → M1.1 346 51 = nI B1 → (∀ M2, aWs M4 M2 G V (pos + 1) (S - 2 ^ r) r (len + (gN G r - (if l = 6 then 0 else ovG G l r))) B1 → aQ M M2 G V pos S l len B (aS G V S l (r + 1))) → Wp (kr_bv (R (nI (pos + 1)) (nI (S - 2 ^ r)) (nI (len + (gN G r - (if l = 6 then 0 else ovG G l r)))) M4) fun M1_1 => f_X12_puts_134 R (f_X12_puts_56 R (nI pos) (nI S) (nI len) n') (nI r) M1_1) (fun M2 => aQ M M2 G V pos S l len B (aS G V S l (gRo G))) := fun B1 hB1 hb1 hh => by
          refine Wp_bv _ (hR r M4 hr d hR4 hL4 B1 hB1 (by rw [r6]; exact hb1) w4) (fun M2 hM2 => ?_)
          unfold f_X12_puts_134
          rw [L_1, nI_add]
          exact ih (r + 1) M2 (by omega) (by omega) (aXR hR4 hM2.2.2.2) (aXL hL4 hM2.2.2.2) (hh M2 hM2)
        -- what a new best is, and what none is
        have new : ∀ B1 M2, aWs M4 M2 G V (pos + 1) (S - 2 ^ r) r (len + (gN G r - (if l = 6 then 0 else ovG G l r))) B1 → len + aN G V S l r < B1 → M2.1 346 51 = nI (len + aN G V S l r) ∧ M2.1 346 50 = nI (pos + pc S) ∧ (∀ k, k < pos → M2.1 377 k = M.1 376 k) ∧ M2.1 377 pos = nI r ∧ ∀ k, k + 1 < pc S → M2.1 377 (pos + 1 + k) = nI (aP G V k (S - 2 ^ r) r) := fun B1 M2 hM2 hlt => by
          obtain ⟨x1, x2, x3, x4⟩ := hM2.1 (by rw [eN]; exact hlt)
          rw [eN] at x1
          refine ⟨x1, by rw [x2, show pos + 1 + pc (S - 2 ^ r) = pos + pc S by omega], fun k hk => by rw [x3 k (by omega)]; exact k4 k hk, by rw [x3 pos (by omega)]; exact w4, fun k hk => x4 k (by omega)⟩
        have old : ∀ B1 M2, aWs M4 M2 G V (pos + 1) (S - 2 ^ r) r (len + (gN G r - (if l = 6 then 0 else ovG G l r))) B1 → ¬ len + aN G V S l r < B1 → M2.1 346 51 = nI B1 ∧ M2.1 346 50 = M1.1 346 50 ∧ M2.1 377 = M1.1 377 := fun B1 M2 hM2 hlt => by
          obtain ⟨x1, x2, x3⟩ := hM2.2.1 (by rw [eN]; exact hlt)
          exact ⟨x1, by rw [x2, r6], by rw [x3, r7]⟩
        have fr : ∀ B1 M2, aWs M4 M2 G V (pos + 1) (S - 2 ^ r) r (len + (gN G r - (if l = 6 then 0 else ovG G l r))) B1 → (∀ k, k < pos → M2.1 376 k = M.1 376 k) ∧ Fx aX M M2 := fun B1 M2 hM2 => ⟨fun k hk => by rw [hM2.2.2.1 k (by omega)]; exact k4 k hk, (hQ.2.2.trans hf).trans hM2.2.2.2⟩
        cases ea : aS G V S l r with
        | none =>
          rw [ea] at hQ es
          have es : aS G V S l (r + 1) = some (aN G V S l r, r) := es
          have q : M1.1 346 51 = nI B ∧ M1.1 346 50 = M.1 346 50 ∧ M1.1 377 = M.1 377 := hQ.1
          refine go B hB q.1 (fun M2 hM2 => ?_)
          rw [es]
          refine ⟨⟨fun hlt => new B M2 hM2 hlt, fun hlt => ?_⟩, fr B M2 hM2⟩
          obtain ⟨x1, x2, x3⟩ := old B M2 hM2 hlt
          exact ⟨x1, by rw [x2, q.2.1], by rw [x3, q.2.2]⟩
        | some y =>
          obtain ⟨m, a⟩ := y
          rw [ea] at hQ es
          have es : aS G V S l (r + 1) = if m ≤ aN G V S l r then some (m, a) else some (aN G V S l r, r) := es
          have q : (len + m < B → M1.1 346 51 = nI (len + m) ∧ M1.1 346 50 = nI (pos + pc S) ∧ (∀ k, k < pos → M1.1 377 k = M.1 376 k) ∧ M1.1 377 pos = nI a ∧ ∀ k, k + 1 < pc S → M1.1 377 (pos + 1 + k) = nI (aP G V k (S - 2 ^ a) a)) ∧ (¬ len + m < B → M1.1 346 51 = nI B ∧ M1.1 346 50 = M.1 346 50 ∧ M1.1 377 = M.1 377) := hQ.1
          by_cases h : len + m < B
          · obtain ⟨x1, x2, x3, x4, x5⟩ := q.1 h
            refine go (len + m) (by omega) x1 (fun M2 hM2 => ?_)
            rw [es]
            by_cases hm : m ≤ aN G V S l r
            · rw [if_pos hm]
              obtain ⟨y1, y2, y3⟩ := old _ M2 hM2 (by omega)
              refine ⟨⟨fun _ => ⟨y1, by rw [y2, x2], fun k hk => by rw [y3]; exact x3 k hk, by rw [y3]; exact x4, fun k hk => by rw [y3]; exact x5 k hk⟩, fun hn => absurd h hn⟩, fr _ M2 hM2⟩
            · rw [if_neg hm]
              exact ⟨⟨fun _ => new _ M2 hM2 (by omega), fun hn => by omega⟩, fr _ M2 hM2⟩
          · obtain ⟨x1, x2, x3⟩ := q.2 h
            refine go B hB x1 (fun M2 hM2 => ?_)
            rw [es]
            by_cases hm : m ≤ aN G V S l r
            · rw [if_pos hm]
              obtain ⟨y1, y2, y3⟩ := old _ M2 hM2 (by omega)
              exact ⟨⟨fun hn => absurd hn h, fun _ => ⟨y1, by rw [y2, x2], by rw [y3, x3]⟩⟩, fr _ M2 hM2⟩
            · rw [if_neg hm]
              refine ⟨⟨fun hlt => new _ M2 hM2 hlt, fun hlt => ?_⟩, fr _ M2 hM2⟩
              obtain ⟨y1, y2, y3⟩ := old _ M2 hM2 hlt
              exact ⟨y1, by rw [y2, x2], by rw [y3, x3]⟩
      rcases hl with ⟨h0, h6⟩ | ⟨h0, h6, h7⟩
      · refine Wp_t (by rw [h0]; decide) ?_
        exact rest 0 (by rw [if_pos h6])
      · refine Wp_f (nI_ge (a := 0) (by omega) (by omega)) ?_
        rw [L_1, pk_sub (by omega)]
        refine Wp_t ((kin_I (by omega)).mpr (by omega)) ?_
        refine Wp_letI ?_; intro v ev
        rw [nI_clamp (by omega), k4 _ (by omega), h7] at ev
        subst ev
        rw [ovO_ok hV hL4 h6 hr]
        refine Wp_bis ?_
        exact rest (ovG G l r) (by rw [if_neg (by omega)])
    · rw [isBit_f hS (by omega) d]
      refine Wp_bis (Wp_f (fun q => q rfl) ?_)
      unfold f_X12_puts_134
      rw [L_1, nI_add]
      refine ih (r + 1) M1 (by omega) (by omega) hR1 hL1 ?_
      have es : aS G V S l (r + 1) = aS G V S l r := if_neg d
      rw [es]
      exact hQ
theorem pt_ok {G : GG} {V : Nat → Nat → Nat} (hV : GV G) (hZ0 : ∀ l, V 0 l = 0) (hZ : ∀ S l, S < 64 → V S l = match aS G V S l (gRo G) with
    | none => 0
    | some (m, _) => m) : ∀ n' pos S l len B M, pc S < n' → S < 64 → S < 2 ^ gRo G → pos + pc S ≤ 6 → len ≤ 24 * pos → B ≤ 100000000 → M.1 346 51 = nI B → ((pos = 0 ∧ l = 6) ∨ (0 < pos ∧ l < gRo G ∧ M.1 376 (pos - 1) = nI l)) → RG M G → LG M G → Wp (f_X12_puts n' (nI pos) (nI S) (nI len) M) (fun M1 => aWs M M1 G V pos S l len B) := by
  have hV' := hV
  obtain ⟨vLi, v0, vPl, vWe, vOd, vKi, vWo, vRo, vPe, vWt, vAc, vIn, vWa, vL, vMn, vW, vA, vB, vAB, vLd, vCr, vN, vK, vWg, vPc, vSt, vD⟩ := hV'
  intro n'
  induction n' with
  | zero => intro pos S l len B M h; omega
  | succ n' ih =>
    intro pos S l len B M h1 h2 h3 h4 h5 h6 h7 h8 hR hL
    rw [f_X12_puts]
    unfold f_X12_puts_b
    by_cases c : S = 0
    · subst c
      have z0 := hZ0 l
      have p0 : pc 0 = 0 := rfl
      refine Wp_f (fun q => q rfl) ?_
      refine Wp_letI ?_; intro v ev
      rw [h7] at ev
      subst ev
      by_cases d : len < B
      · refine Wp_t ((nI_ltI (by omega) (by omega)).mpr d) ?_
        refine Wp_letI ?_; intro M2 e2
        refine Wp_letI ?_; intro M3 e3
        have hf : Fx aX M M3 := by rw [← e3, ← e2]; exact ((Fx.refl M).si _ (Or.inr (Or.inr ⟨rfl, Or.inr rfl⟩))).si _ (Or.inr (Or.inr ⟨rfl, Or.inl rfl⟩))
        have c1 : M3.1 346 51 = nI len := by rw [← e3, ← e2, kg_si, if_neg (by omega), kr_si_at]
        have c2 : M3.1 346 50 = nI pos := by rw [← e3, kr_si_at]
        have c3 : ∀ k, M3.1 376 k = M.1 376 k := fun k => by rw [← e3, ← e2, kg_si, if_neg (by omega), kg_si, if_neg (by omega)]
        refine Wp_mono (aW_cp (M0 := M3) (by omega) kr_F 0 M3 (by omega) (kr_F_gt _ (by omega)) (fun j hj => by omega) (Fx.refl M3)) (fun M4 ⟨q1, q2⟩ => ?_)
        have r6 : M4.1 346 = M3.1 346 := q2.row (fun j q => by have q : 346 = 377 := q; omega)
        have r5 : M4.1 376 = M3.1 376 := q2.row (fun j q => by have q : 376 = 377 := q; omega)
        refine ⟨fun _ => ⟨by rw [r6, c1, z0]; rfl, by rw [r6, c2, p0]; rfl, fun k hk => by rw [q1 k hk]; exact c3 k, fun k hk => by omega⟩, fun q => absurd d (by omega), fun k hk => by rw [r5]; exact c3 k, hf.trans (q2.mono (fun a j q => Or.inr (Or.inl q)))⟩
      · refine Wp_f (fun q => d ((nI_ltI (by omega) (by omega)).mp q)) (Wp_some ⟨fun q => absurd q (by omega), fun _ => ⟨h7, rfl, rfl⟩, fun k hk => rfl, Fx.refl M⟩)
    · refine Wp_t (fun q => c ((nI_eq (b := 0) (by omega) (by omega)).mp q)) ?_
      refine Wp_mono (pt_in (V := V) (M := M) (B := B) (l := l) hV h2 h3 h4 h5 h6 h8 (fun r M1 hr hb q1 q2 B1 q3 q4 q5 => ?_) kr_F 0 M (by omega) (kr_F_gt _ (by omega)) hR hL ⟨⟨h7, rfl, rfl⟩, fun k hk => rfl, Fx.refl M⟩) (fun M2 hM2 => ?_)
      · obtain ⟨s1, s2, s3, s4, s5⟩ := st_20 S h2 r (by omega) hb
        have hN := vN r hr
        exact ih (pos + 1) (S - 2 ^ r) r _ B1 M1 (by omega) (by omega) (Nat.lt_of_le_of_lt (Nat.sub_le _ _) h3) (by omega) (by omega) q3 q4 (Or.inr ⟨by omega, hr, by rw [show pos + 1 - 1 = pos by omega]; exact q5⟩) q1 q2
      · have zf := hZ S l h2
        cases e : aS G V S l (gRo G) with
        | none => exact absurd (st_21 h3 (aS_n _ e)) c
        | some y =>
          obtain ⟨m, a⟩ := y
          rw [e] at hM2 zf
          have zf : V S l = m := zf
          obtain ⟨q, q2, q3⟩ := hM2
          have q : (len + m < B → M2.1 346 51 = nI (len + m) ∧ M2.1 346 50 = nI (pos + pc S) ∧ (∀ k, k < pos → M2.1 377 k = M.1 376 k) ∧ M2.1 377 pos = nI a ∧ ∀ k, k + 1 < pc S → M2.1 377 (pos + 1 + k) = nI (aP G V k (S - 2 ^ a) a)) ∧ (¬ len + m < B → M2.1 346 51 = nI B ∧ M2.1 346 50 = M.1 346 50 ∧ M2.1 377 = M.1 377) := q
          refine ⟨fun hlt => ?_, fun hlt => ?_, q2, q3⟩
          · rw [zf] at hlt ⊢
            obtain ⟨x1, x2, x3, x4, x5⟩ := q.1 hlt
            refine ⟨x1, x2, x3, fun k hk => ?_⟩
            cases k with
            | zero =>
              rw [Nat.add_zero, x4]
              unfold aP
              rw [e]
            | succ k =>
              rw [show pos + (k + 1) = pos + 1 + k by omega, x5 k (by omega)]
              conv => rhs; unfold aP
              rw [e]
          · rw [zf] at hlt
            exact q.2 hlt
