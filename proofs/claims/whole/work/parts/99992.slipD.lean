/-! slips of the class: what is read off the tables -/
abbrev s15 : Nat → Nat → Prop := fun a _ => a = 315
theorem slC.fx {M M' : kr_M} {g n : Nat} {G : GG} {k : Nat → Nat} (h : slC M g G n k) (hf : Fx s15 M M') : slC M' g G n k := by
  refine ⟨h.1.fx (hf.mono (fun a j q => Or.inl q)), fun p c h1 h2 => ?_, ?_, ?_⟩
  · rw [hf.1 322 _ (fun q => by have q : 322 = 315 := q; omega)]; exact h.2.1 p c h1 h2
  · rw [hf.1 318 _ (fun q => by have q : 318 = 315 := q; omega)]; exact h.2.2.1
  · rw [hf.1 319 _ (fun q => by have q : 319 = 315 := q; omega)]; exact h.2.2.2
theorem canSlip_ok {M : kr_M} {g n p c : Nat} {G : GG} {k : Nat → Nat} (h : slC M g G n k) (hp : p < n) (hc : c < 6) : f_X4_canSlip (nI p) (nI c) M = some (if slB G n k p c = true then 1 else 0, M) := by
  obtain ⟨⟨hK, e2, hTx, hn⟩, hD, _, _⟩ := h
  have hk := hTx.2.2.2.2 p hp
  apply Wp_eq
  unfold f_X4_canSlip
  refine Wp_t ((kin_I (by omega)).mpr (by omega)) ?_
  refine Wp_letI ?_; intro v ev
  rw [nI_clamp (by omega), show M.1 317 p = nI (k p) from hTx.2.1 p hp] at ev
  subst ev
  by_cases d : c = k p
  · refine Wp_t (by rw [d]) (Wp_some ?_)
    rw [if_neg (fun q => (slB_t.mp q).1 d)]
  · refine Wp_f (fun q => d ((nI_eq (by omega) (by omega)).mp q)) ?_
    rw [L_6, pk_mul, nI_add, Nat.mul_comm p 6]
    refine Wp_t ((kin_I (by omega)).mpr (by omega)) ?_
    refine Wp_letI ?_; intro v ev
    rw [nI_clamp (by omega), hD p c hp hc] at ev
    subst ev
    cases e : slT G n k p c with
    | none =>
      refine Wp_t rfl (Wp_some ?_)
      rw [if_neg (fun q => (slB_t.mp q).2 e)]
    | some u =>
      have := slT_b hK.V e
      refine Wp_f (fun q => (nI_m1 (a := u) (by omega)).mp q) (Wp_some ?_)
      rw [if_pos (slB_t.mpr ⟨d, by rw [e]; simp⟩)]
theorem sA_4 {M : kr_M} {g n p : Nat} {G : GG} {k : Nat → Nat} (h : slC M g G n k) (hp : p < n) : ∀ n' c, c ≤ gKi G → gKi G - c < n' → f_X4_slipsAt_4 (nI p) n' (nI (slN G n k p c)) (nI c) M = some (nI (slN G n k p (gKi G)), M) := by
  have hK := h.1.1
  have hV := hK.V
  obtain ⟨vLi, v0, vPl, vWe, vOd, vKi, vWo, vRo, vPe, vWt, vAc, vIn, vWa, vL, vMn, vW, vA, vB, vAB, vLd, vCr, vN, vK, vWg, vPc, vSt, vD⟩ := hV
  have hC := hK.C
  obtain ⟨c0, cPl, cWe, cOd, cKi, cWo, cRo, cPe, cWt, cAc, cIn, cWa, cL, cMn, cW, cA, cB, cLd, cCr, cN, cK, cWg, cPc, cSt⟩ := hC
  have e2 := h.1.2.1
  have es := hK.sh
  intro n'
  induction n' with
  | zero => intro c h1 h2; omega
  | succ n' ih =>
    intro c h1 h2
    apply Wp_eq
    rw [f_X4_slipsAt_4]
    refine Wp_t (by rw [e2]; exact es) ?_
    refine Wp_letI ?_; intro v ev
    rw [e2] at ev
    subst ev
    refine Wp_letI ?_; intro v ev
    rw [cKi] at ev
    subst ev
    by_cases d : c = gKi G
    · subst d
      exact Wp_t (nI_le (Nat.le_refl _) (by omega)) (Wp_some rfl)
    · refine Wp_f (nI_ge (by omega) (by omega)) ?_
      rw [canSlip_ok h hp (by omega)]
      refine Wp_bis ?_
      have nx := ih (c + 1) (by omega) (by omega)
      by_cases b : slB G n k p c = true
      · rw [slN, if_pos b] at nx
        rw [if_pos b]
        refine Wp_f (by decide) ?_
        unfold f_X4_slipsAt_27
        rw [L_1, nI_add, nI_add]
        exact Wp_of nx rfl
      · rw [slN, if_neg b, Nat.add_zero] at nx
        rw [if_neg b]
        refine Wp_t rfl ?_
        unfold f_X4_slipsAt_27
        rw [L_1, nI_add]
        exact Wp_of nx rfl
theorem sA_ok {M : kr_M} {g n p : Nat} {G : GG} {k : Nat → Nat} (h : slC M g G n k) (hp : p < n) : f_X4_slipsAt (nI p) M = some (nI (slN G n k p (gKi G)), M) := by
  have hV := h.1.1.V
  obtain ⟨vLi, v0, vPl, vWe, vOd, vKi, vWo, vRo, vPe, vWt, vAc, vIn, vWa, vL, vMn, vW, vA, vB, vAB, vLd, vCr, vN, vK, vWg, vPc, vSt, vD⟩ := hV
  exact sA_4 h hp kr_F 0 (by omega) (kr_F_gt _ (by omega))
theorem sI_4 {M : kr_M} {g n : Nat} {G : GG} {k : Nat → Nat} (h : slC M g G n k) : ∀ n' p, p ≤ n → n - p < n' → f_X4_slipsInAll_4 n' (nI (slA G n k p)) (nI p) M = some (nI (slA G n k n), M) := by
  have tx := h.1.2.2.1.1
  have hn := h.1.2.2.2
  intro n'
  induction n' with
  | zero => intro p h1 h2; omega
  | succ n' ih =>
    intro p h1 h2
    apply Wp_eq
    rw [f_X4_slipsInAll_4]
    refine Wp_letI ?_; intro v ev
    rw [tx] at ev
    subst ev
    by_cases d : p = n
    · rw [d]
      exact Wp_t (nI_le (Nat.le_refl _) (by omega)) (Wp_some rfl)
    · refine Wp_f (nI_ge (by omega) (by omega)) ?_
      rw [sA_ok h (by omega)]
      refine Wp_bis ?_
      refine Wp_letI ?_; intro v ev
      rw [nI_add] at ev
      subst ev
      rw [L_1, nI_add]
      have nx := ih (p + 1) (by omega) (by omega)
      rw [slA] at nx
      exact Wp_of nx rfl
theorem sI_ok {M : kr_M} {g n : Nat} {G : GG} {k : Nat → Nat} (h : slC M g G n k) : f_X4_slipsInAll M = some (nI (slA G n k n), M) := sI_4 h kr_F 0 (by omega) (kr_F_gt _ (by have := h.1.2.2.2; omega))
theorem sp_15 {M : kr_M} {g n : Nat} {G : GG} {k : Nat → Nat} (h : slC M g G n k) : ∀ n' p, p ≤ n → n - p < n' → f_X11_spots_15 n' (spF G n k p) (nI p) M = some (spF G n k n, M) := by
  have tx := h.1.2.2.1.1
  have hn := h.1.2.2.2
  intro n'
  induction n' with
  | zero => intro p h1 h2; omega
  | succ n' ih =>
    intro p h1 h2
    apply Wp_eq
    rw [f_X11_spots_15]
    refine Wp_letI ?_; intro v ev
    rw [tx] at ev
    subst ev
    by_cases d : p = n
    · rw [d]
      exact Wp_t (nI_le (Nat.le_refl _) (by omega)) (Wp_some rfl)
    · refine Wp_f (nI_ge (by omega) (by omega)) ?_
      rw [sA_ok h (by omega)]
      refine Wp_bis ?_
      have nx := ih (p + 1) (by omega) (by omega)
      have le := slN_le G n k p (gKi G)
      have hV := h.1.1.V
      obtain ⟨vLi, v0, vPl, vWe, vOd, vKi, vWo, vRo, vPe, vWt, vAc, vIn, vWa, vL, vMn, vW, vA, vB, vAB, vLd, vCr, vN, vK, vWg, vPc, vSt, vD⟩ := hV
      by_cases b : 0 < slN G n k p (gKi G)
      · rw [spF, if_pos b] at nx
        refine Wp_f (nI_ge (a := 0) b (by omega)) ?_
        refine Wp_letI ?_; intro v ev
        subst ev
        unfold f_X11_spots_46
        rw [show nI p + (1 : Int32) = nI (p + 1) by rw [L_1, nI_add]]
        exact Wp_of nx rfl
      · rw [spF, if_neg b] at nx
        refine Wp_t (nI_le (b := 0) (by omega) (by omega)) ?_
        unfold f_X11_spots_46
        rw [show nI p + (1 : Int32) = nI (p + 1) by rw [L_1, nI_add]]
        exact Wp_of nx rfl
/-! feel -/
theorem fl_32 {M0 : kr_M} {g n t : Nat} {G : GG} {k : Nat → Nat} (ht : slA G n k n ≤ t) (ht2 : t ≤ 200) : ∀ n' p M, p ≤ n → n - p < n' → slC M g G n k → M.1 315 8 = (flF G n k t p).1 → M.1 315 9 = nI (flF G n k t p).2 → Fx s15 M0 M → Wp (f_X4_studyFeel_32 (nI t) n' (nI p) M) (fun M' => M'.1 315 8 = (flF G n k t n).1 ∧ M'.1 315 9 = nI (flF G n k t n).2 ∧ Fx s15 M0 M') := by
  intro n'
  induction n' with
  | zero => intro p M h1 h2; omega
  | succ n' ih =>
    intro p M h1 h2 h x8 x9 hF
    have tx := h.1.2.2.1.1
    have hn := h.1.2.2.2
    rw [f_X4_studyFeel_32]
    refine Wp_letI ?_; intro v ev
    rw [tx] at ev
    subst ev
    by_cases d : p = n
    · subst d
      exact Wp_t (nI_le (Nat.le_refl _) (by omega)) (Wp_some ⟨x8, x9, hF⟩)
    · refine Wp_f (nI_ge (by omega) (by omega)) ?_
      rw [sA_ok h (by omega)]
      refine Wp_bis ?_
      have le := slA_ge (G := G) (n := n) (k := k) n p (by omega)
      have fle := flF_le G n k t p
      refine Wp_letI ?_; intro v ev
      rw [L_1, kx_min (by omega) (by omega), pk_sub (by omega), kx_max (by omega) (by omega)] at ev
      have ev : nI (flW G n k t p) = v := ev
      subst ev
      have wle : flW G n k t p ≤ 200 := by unfold flW; omega
      refine Wp_letI ?_; intro v ev
      rw [x9] at ev
      subst ev
      by_cases c : flW G n k t p < (flF G n k t p).2
      · refine Wp_f (nI_ge c (by omega)) ?_
        refine Wp_letI ?_; intro M1 e1
        refine Wp_letI ?_; intro M2 e2
        have hf : Fx s15 M M2 := by rw [← e2, ← e1]; exact ((Fx.refl (S := s15) M).si _ rfl).si _ rfl
        unfold f_X4_studyFeel_82
        rw [L_1, nI_add]
        have ef : flF G n k t (p + 1) = (nI p, flW G n k t p) := by rw [flF, if_pos c]
        refine ih (p + 1) M2 (by omega) (by omega) (h.fx hf) ?_ ?_ (hF.trans hf)
        · rw [ef, ← e2, kr_si_at]
        · rw [ef, ← e2, kg_si, if_neg (by omega), ← e1, kr_si_at]
      · refine Wp_t (nI_le (by omega) (by omega)) ?_
        unfold f_X4_studyFeel_82
        rw [L_1, nI_add]
        have ef : flF G n k t (p + 1) = flF G n k t p := by rw [flF, if_neg c]
        exact ih (p + 1) M (by omega) (by omega) h (by rw [ef]; exact x8) (by rw [ef]; exact x9) hF
theorem fl_C {M : kr_M} {g n : Nat} {G : GG} {k : Nat → Nat} (h : slC M g G n k) : Wp (f_X4_studyFeel M) (fun M' => M'.1 315 8 = (flF G n k (slS G n k) n).1 ∧ M'.1 315 9 = nI (flF G n k (slS G n k) n).2 ∧ Fx s15 M M') := by
  have hn := h.1.2.2.2
  have al := slA_le (n := n) (k := k) h.1.1.V n
  have rb := (rdT_b (k := k) h.1.1.V n (Nat.le_refl _) 0 (by omega) (by omega)).1
  have p2 := p24 (show n - 0 ≤ 24 by omega)
  have go : ∀ z, slS G n k = slA G n k n + z → Wp (f_X4_studyFeel_18 (nI z) (nI (slA G n k n)) M) (fun M' => M'.1 315 8 = (flF G n k (slS G n k) n).1 ∧ M'.1 315 9 = nI (flF G n k (slS G n k) n).2 ∧ Fx s15 M M') := fun z hz => by
    have zl : z ≤ 1 := by
      unfold slS at hz
      split at hz <;> omega
    unfold f_X4_studyFeel_18
    refine Wp_letI ?_; intro v ev
    rw [nI_add, ← hz] at ev
    subst ev
    refine Wp_letI ?_; intro M1 e1
    refine Wp_letI ?_; intro M2 e2
    have hf : Fx s15 M M2 := by rw [← e2, ← e1]; exact ((Fx.refl (S := s15) M).si _ rfl).si _ rfl
    refine fl_32 (M0 := M) (by omega) (by omega) kr_F 0 M2 (by omega) (kr_F_gt _ (by omega)) (h.fx hf) ?_ ?_ hf
    · rw [← e2, kg_si, if_neg (by omega), ← e1, kr_si_at]; rfl
    · rw [← e2, kr_si_at]; rfl
  unfold f_X4_studyFeel
  rw [sI_ok h]
  refine Wp_bis (Wp_t (by decide) ?_)
  refine Wp_letI ?_; intro v ev
  have ev : M.1 318 0 = v := ev
  rw [h.2.2.1] at ev
  subst ev
  by_cases c : (rdT G n k n 0).1 = 0
  · refine Wp_t (nI_le (b := 0) (by omega) (by omega)) (go 0 (by unfold slS; rw [if_pos c]))
  · refine Wp_f (nI_ge (a := 0) (by omega) (by omega)) (go 1 (by unfold slS; rw [if_neg c]))
/-! forged -/
def fg1 (o : Option (Nat × Nat)) : Int32 := match o with
  | none => -1
  | some (v, _) => nI v
def fg2 (o : Option (Nat × Nat)) : Int32 := match o with
  | none => -1
  | some (_, a) => nI (a / 6)
def fg3 (o : Option (Nat × Nat)) : Int32 := match o with
  | none => -1
  | some (_, a) => nI (a % 6)
def fgI (M : kr_M) (o : Option (Nat × Nat)) : Prop := M.1 315 10 = fg1 o ∧ M.1 315 11 = fg2 o ∧ M.1 315 12 = fg3 o
theorem kx_abs {a b : Nat} (ha : a < 2 ^ 31) (hb : b < 2 ^ 31) : kr_abs (nI a - nI b) = nI (fgD a b) := by
  unfold kr_abs fgD
  by_cases c : b ≤ a
  · rw [pk_sub c, L_0, if_pos ((nI_leI (by omega) (by omega)).mpr (by omega)), show a - b + (b - a) = a - b by omega]
  · have t1 := nI_toInt (n := a) (by omega)
    have t2 := nI_toInt (n := b) (by omega)
    have t3 : (nI a - nI b).toInt = (a : Int) - b := by rw [kz_sub (by omega) (by omega), t1, t2]
    have z0 : (0 : Int32).toInt = 0 := rfl
    rw [if_neg (by rw [kz_le, t3, z0]; omega), kz_eq, kz_sub (by omega) (by omega), t3, z0, nI_toInt (by omega)]
    omega
theorem fg_39 {M0 : kr_M} {g n p : Nat} {G : GG} {k : Nat → Nat} {K : Int32 → kr_M → Option kr_M} {Q : kr_M → Prop} (hp : p < n) (hr : (rdT G n k n 0).1 ≠ 0) (h : ∀ M', slC M' g G n k → fgI M' (fgF G n k (6 * (p + 1))) → Fx s15 M0 M' → Wp (K (nI (p + 1)) M') Q) : ∀ n' c M, c ≤ gKi G → gKi G - c < n' → slC M g G n k → fgI M (fgF G n k (6 * p + c)) → Fx s15 M0 M → Wp (f_X4_studyForgery_39 K (nI p) n' (nI c) M) Q := by
  intro n'
  induction n' with
  | zero => intro c M h1 h2; omega
  | succ n' ih =>
    intro c M h1 h2 hS hI hF
    have hK := hS.1.1
    have hV := hK.V
    have hV' := hV
    obtain ⟨vLi, v0, vPl, vWe, vOd, vKi, vWo, vRo, vPe, vWt, vAc, vIn, vWa, vL, vMn, vW, vA, vB, vAB, vLd, vCr, vN, vK, vWg, vPc, vSt, vD⟩ := hV'
    have hC := hK.C
    obtain ⟨c0, cPl, cWe, cOd, cKi, cWo, cRo, cPe, cWt, cAc, cIn, cWa, cL, cMn, cW, cA, cB, cLd, cCr, cN, cK, cWg, cPc, cSt⟩ := hC
    have e2 := hS.1.2.1
    have es := hK.sh
    have hn := hS.1.2.2.2
    rw [f_X4_studyForgery_39]
    refine Wp_t (by rw [e2]; exact es) ?_
    refine Wp_letI ?_; intro v ev
    rw [e2] at ev
    subst ev
    refine Wp_letI ?_; intro v ev
    rw [cKi] at ev
    subst ev
    by_cases d : c = gKi G
    · subst d
      refine Wp_t (nI_le (Nat.le_refl _) (by omega)) ?_
      unfold f_X4_studyForgery_110
      rw [L_1, nI_add]
      refine h M hS ?_ hF
      have := fgF_skip (G := G) (n := n) (k := k) (p := p) (6 - gKi G) (by omega)
      rw [show 6 * p + gKi G + (6 - gKi G) = 6 * (p + 1) by omega] at this
      rw [this]
      exact hI
    · refine Wp_f (nI_ge (by omega) (by omega)) ?_
      have ei : nI p * (6 : Int32) + nI c = nI (6 * p + c) := by rw [L_6, pk_mul, nI_add, Nat.mul_comm p 6]
      rw [ei]
      refine Wp_t ((kin_I (by omega)).mpr (by omega)) ?_
      refine Wp_letI ?_; intro v3 e3
      rw [nI_clamp (by omega), hS.2.1 p c hp (by omega)] at e3
      refine Wp_t (by decide) ?_
      refine Wp_letI ?_; intro v4 e4
      have e4 : M.1 319 0 = v4 := e4
      rw [hS.2.2.2] at e4
      refine Wp_letI ?_; intro v5 e5
      rw [canSlip_ok hS hp (by omega)]
      refine Wp_bis ?_
      have q6 : (6 * p + c) / 6 = p := by omega
      have q7 : (6 * p + c) % 6 = c := by omega
      have nx := ih (c + 1)
      by_cases b : slB G n k p c = true
      · rw [if_pos b]
        refine Wp_f (by decide) ?_
        have es' : fgF G n k (6 * p + c + 1) = (match fgF G n k (6 * p + c) with
          | none => some (fgV G n k (6 * p + c), 6 * p + c)
          | some (v, a) => if v < fgV G n k (6 * p + c) then some (fgV G n k (6 * p + c), 6 * p + c) else some (v, a)) := by rw [fgF, q6, q7, if_pos ⟨by omega, b⟩]; rfl
        obtain ⟨x, hx⟩ : ∃ x, slT G n k p c = some x := Option.ne_none_iff_exists'.mp (slB_t.mp b).2
        obtain ⟨y, hy⟩ : ∃ y, rdO (rdT G n k n 0) = some y := Option.ne_none_iff_exists'.mp (fun q => hr (rdO_n.mp q))
        have bx := slT_b hV hx
        have by' := (pa_b hV ((rd_is (k := k) hV n (Nat.le_refl _) 0 (by omega) (by omega)).1 y hy)).2.1
        have ev : fgV G n k (6 * p + c) = fgD x y := by unfold fgV; rw [q6, q7, hx, hy]; rfl
        have vb := fgV_b (k := k) hV hn (6 * p + c)
        rw [hx] at e3
        rw [hy] at e4
        have e3 : nI x = v3 := e3
        have e4 : nI y = v4 := e4
        rw [← e3, ← e4, kx_abs (by omega) (by omega), ← ev] at e5
        subst e5
        obtain ⟨i1, i2, i3⟩ := hI
        refine Wp_letI ?_; intro v8 e8
        rw [i1] at e8
        have put : fgF G n k (6 * p + c + 1) = some (fgV G n k (6 * p + c), 6 * p + c) → ¬ nI (fgV G n k (6 * p + c)) ≤ v8 → Wp (if nI (fgV G n k (6 * p + c)) ≤ v8 then (f_X4_studyForgery_104 (f_X4_studyForgery_39 K (nI p) n') (nI c) M) else kr_let (kr_si M 315 10 (nI (fgV G n k (6 * p + c)))) fun M9 => kr_let (kr_si M9 315 11 (nI p)) fun M10 => kr_let (kr_si M10 315 12 (nI c)) fun M11 => (f_X4_studyForgery_104 (f_X4_studyForgery_39 K (nI p) n') (nI c) M11)) Q := fun q1 q2 => by
          refine Wp_f q2 ?_
          refine Wp_letI ?_; intro M1 y1
          refine Wp_letI ?_; intro M2 y2
          refine Wp_letI ?_; intro M3 y3
          have hf : Fx s15 M M3 := by rw [← y3, ← y2, ← y1]; exact (((Fx.refl (S := s15) M).si _ rfl).si _ rfl).si _ rfl
          unfold f_X4_studyForgery_104
          rw [L_1, nI_add]
          refine nx M3 (by omega) (by omega) (hS.fx hf) ?_ (hF.trans hf)
          rw [show 6 * p + (c + 1) = 6 * p + c + 1 by omega, q1]
          refine ⟨?_, ?_, ?_⟩
          · rw [← y3, kg_si, if_neg (by omega), ← y2, kg_si, if_neg (by omega), ← y1, kr_si_at]; rfl
          · rw [← y3, kg_si, if_neg (by omega), ← y2, kr_si_at]; show nI p = nI ((6 * p + c) / 6); rw [q6]
          · rw [← y3, kr_si_at]; show nI c = nI ((6 * p + c) % 6); rw [q7]
        cases e : fgF G n k (6 * p + c) with
        | none =>
          rw [e] at es' e8
          have e8 : (-1 : Int32) = v8 := e8
          refine put es' (fun q => ?_)
          rw [← e8, kz_le, nI_toInt (by omega), show (-1 : Int32).toInt = -1 from rfl] at q
          omega
        | some y =>
          obtain ⟨u, a⟩ := y
          have ub := (fgF_b _ u a e).2
          have ub2 := fgV_b (k := k) hV hn a
          rw [e] at es' e8
          have e8 : nI u = v8 := e8
          have es' : fgF G n k (6 * p + c + 1) = if u < fgV G n k (6 * p + c) then some (fgV G n k (6 * p + c), 6 * p + c) else some (u, a) := es'
          by_cases z : u < fgV G n k (6 * p + c)
          · rw [if_pos z] at es'
            exact put es' (by rw [← e8]; exact nI_ge z (by omega))
          · rw [if_neg z] at es'
            refine Wp_t (by rw [← e8]; exact nI_le (by omega) (by omega)) ?_
            unfold f_X4_studyForgery_104
            rw [L_1, nI_add]
            refine nx M (by omega) (by omega) hS ?_ hF
            rw [show 6 * p + (c + 1) = 6 * p + c + 1 by omega, es', ← e]
            exact ⟨i1, i2, i3⟩
      · rw [if_neg b]
        refine Wp_t rfl ?_
        unfold f_X4_studyForgery_104
        rw [L_1, nI_add]
        refine nx M (by omega) (by omega) hS ?_ hF
        rw [show 6 * p + (c + 1) = 6 * p + c + 1 by omega, fgF, q6, q7, if_neg (fun q => b q.2)]
        exact hI
theorem fg_17 {M0 : kr_M} {g n : Nat} {G : GG} {k : Nat → Nat} : ∀ n' p M, p ≤ n → n - p < n' → slC M g G n k → ((rdT G n k n 0).1 ≠ 0 → fgI M (fgF G n k (6 * p))) → ((rdT G n k n 0).1 = 0 → fgI M none) → Fx s15 M0 M → Wp (f_X4_studyForgery_17 n' (nI p) M) (fun M' => fgI M' (if (rdT G n k n 0).1 = 0 then none else fgF G n k (6 * n)) ∧ Fx s15 M0 M') := by
  intro n'
  induction n' with
  | zero => intro p M h1 h2; omega
  | succ n' ih =>
    intro p M h1 h2 h hI hN hF
    have tx := h.1.2.2.1.1
    have hn := h.1.2.2.2
    have hV := h.1.1.V
    have rb := (rdT_b (k := k) hV n (Nat.le_refl _) 0 (by omega) (by omega)).1
    have p2 := p24 (show n - 0 ≤ 24 by omega)
    rw [f_X4_studyForgery_17]
    refine Wp_letI ?_; intro v ev
    rw [tx] at ev
    subst ev
    by_cases d : p = n
    · subst d
      refine Wp_t (nI_le (Nat.le_refl _) (by omega)) (Wp_some ⟨?_, hF⟩)
      by_cases c : (rdT G p k p 0).1 = 0
      · rw [if_pos c]; exact hN c
      · rw [if_neg c]; exact hI c
    · refine Wp_f (nI_ge (by omega) (by omega)) ?_
      refine Wp_t (by decide) ?_
      refine Wp_letI ?_; intro v ev
      have ev : M.1 318 0 = v := ev
      rw [h.2.2.1] at ev
      subst ev
      by_cases c : (rdT G n k n 0).1 = 0
      · refine Wp_t (nI_le (b := 0) (by omega) (by omega)) (Wp_some ⟨?_, hF⟩)
        rw [if_pos c]; exact hN c
      · refine Wp_f (nI_ge (a := 0) (by omega) (by omega)) ?_
        obtain ⟨vLi, v0, vPl, vWe, vOd, vKi, vWo, vRo, vPe, vWt, vAc, vIn, vWa, vL, vMn, vW, vA, vB, vAB, vLd, vCr, vN, vK, vWg, vPc, vSt, vD⟩ := hV
        exact fg_39 (M0 := M0) (show p < n by omega) c (fun M' q1 q2 q3 => ih (p + 1) M' (by omega) (by omega) q1 (fun _ => q2) (fun z => absurd z c) q3) kr_F 0 M (by omega) (kr_F_gt _ (by omega)) h (hI c) hF
def fgO (G : GG) (n : Nat) (k : Nat → Nat) : Option (Nat × Nat) := if (rdT G n k n 0).1 = 0 then none else fgF G n k (6 * n)
theorem fg_C {M : kr_M} {g n : Nat} {G : GG} {k : Nat → Nat} (h : slC M g G n k) : Wp (f_X4_studyForgery M) (fun M' => fgI M' (fgO G n k) ∧ Fx s15 M M') := by
  have hn := h.1.2.2.2
  unfold f_X4_studyForgery
  refine Wp_letI ?_; intro M1 y1
  refine Wp_letI ?_; intro M2 y2
  refine Wp_letI ?_; intro M3 y3
  have hf : Fx s15 M M3 := by rw [← y3, ← y2, ← y1]; exact (((Fx.refl (S := s15) M).si _ rfl).si _ rfl).si _ rfl
  have hI : fgI M3 none := by
    refine ⟨?_, ?_, ?_⟩
    · rw [← y3, kg_si, if_neg (by omega), ← y2, kg_si, if_neg (by omega), ← y1, kr_si_at]; rfl
    · rw [← y3, kg_si, if_neg (by omega), ← y2, kr_si_at]; rfl
    · rw [← y3, kr_si_at]; rfl
  exact fg_17 (M0 := M) kr_F 0 M3 (by omega) (kr_F_gt _ (by omega)) (h.fx hf) (fun _ => hI) (fun _ => hI) hf
theorem opS_t {M : kr_M} {g r : Nat} {G : GG} (hK : KS M g G) (hr : r < gRo G) : Wp (f_X11_opensSlips (nI r) M) (fun z => z.1 = 1 ∧ slC z.2 g G (gN G r) (rev (gN G r) (gK G r) 0) ∧ Fr M z.2) := by
  unfold f_X11_opensSlips
  refine Wp_bi _ (opens_t hK hr (b := 0) (by omega)) (fun z M1 ⟨q1, q2, q3⟩ => ?_)
  have q1 : z = 1 := q1
  subst q1
  refine Wp_t (by decide) ?_
  exact Wp_bv _ (slC_ok q2) (fun M2 ⟨a1, a2⟩ => Wp_some ⟨rfl, a1, q3.fr.trans (a2.fr sl_s)⟩)
theorem opS_f {M : kr_M} {g : Nat} {G : GG} {p : Int32} (hK : KS M g G) (h : p.toInt < 0 ∨ (gRo G : Int) ≤ p.toInt) : f_X11_opensSlips p M = some (0, M) := by
  apply Wp_eq
  unfold f_X11_opensSlips
  rw [opens_r hK h]
  exact Wp_bis (Wp_f (fun q => q rfl) (Wp_some rfl))
