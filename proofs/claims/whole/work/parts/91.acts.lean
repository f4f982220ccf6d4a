/-! acts -/
theorem rp_1c {M M' : kr_M} {g k : Nat} {R : rp_S} (hr : ∀ r, r < 6 → M'.1 (g + 31 + 5 * r) 0 = M.1 (g + 31 + 5 * r) 0 ∧ M'.1 (g + 31 + 5 * r) 1 = M.1 (g + 31 + 5 * r) 1) (hd : ∀ j, j < 4 → rp_d M' g k j = rp_d M g k j) (h5 : rp_d M g k 0 = 0 → zn (rp_d M g k 2) ≤ 5) : rp_1 M' g R k = rp_1 M g R k := by
  unfold rp_1
  rw [hd 0 (by omega), hd 1 (by omega), hd 2 (by omega), hd 3 (by omega)]
  by_cases c : rp_d M g k 0 = 0
  · have q := hr _ (show zn (rp_d M g k 2) < 6 by have := h5 c; omega)
    have ho : ∀ p, rp_oe M' g (zn (rp_d M g k 2)) p = rp_oe M g (zn (rp_d M g k 2)) p := fun p => by unfold rp_oe; rw [q.1, q.2]
    simp only [ho]
  · simp only [c, if_false]
theorem rp_nc {M M' : kr_M} {g : Nat} (h6 : (M.1 g 6).toInt ≤ 6) (h8 : M'.1 (g + 8) = M.1 (g + 8)) (hr : ∀ r, r < 6 → M'.1 (g + 31 + 5 * r) 0 = M.1 (g + 31 + 5 * r) 0 ∧ M'.1 (g + 31 + 5 * r) 1 = M.1 (g + 31 + 5 * r) 1 ∧ M'.1 (g + 32 + 5 * r) 1 = M.1 (g + 32 + 5 * r) 1 ∧ M'.1 (g + 33 + 5 * r) = M.1 (g + 33 + 5 * r)) : ∀ n, (∀ k j, k < n → j < 4 → rp_d M' g k j = rp_d M g k j) → (∀ k, k < n → rp_v M g (rp_n M g k) k) → rp_n M' g n = rp_n M g n
  | 0, _, _ => by
    show rp_0 M' g = rp_0 M g
    unfold rp_0
    have e1 : (fun r i => if r < 6 then M'.1 (g + 33 + 5 * r) i else 0) = (fun r i => if r < 6 then M.1 (g + 33 + 5 * r) i else (0 : Int32)) := by
      funext r i
      by_cases c : r < 6
      · rw [if_pos c, if_pos c, (hr r c).2.2.2]
      · rw [if_neg c, if_neg c]
    have e2 : (fun r => if r < 6 then zn (M'.1 (g + 32 + 5 * r) 1) else 0) = (fun r => if r < 6 then zn (M.1 (g + 32 + 5 * r) 1) else 0) := by
      funext r
      by_cases c : r < 6
      · rw [if_pos c, if_pos c, (hr r c).2.2.1]
      · rw [if_neg c, if_neg c]
    rw [e1, e2, h8]
  | n + 1, hd, hv => by
    have ih := rp_nc h6 h8 hr n (fun k j hk hj => hd k j (by omega) hj) (fun k hk => hv k (by omega))
    show rp_1 M' g (rp_n M' g n) n = rp_1 M g (rp_n M g n) n
    rw [ih]
    exact rp_1c (fun r q => ⟨(hr r q).1, (hr r q).2.1⟩) (fun j hj => hd n j (by omega) hj) (rp_vlt h6 (hv n (by omega)))
def scr (a j : Nat) : Prop := (313 ≤ a ∧ a < 346) ∨ (a = 346 ∧ j ≠ 6 ∧ j ≠ 14 ∧ j ≠ 15) ∨ 363 < a
def uS (g a j : Nat) : Prop := bS g a j ∨ a = g + 10 ∨ (a = 353 ∧ j = 7) ∨ (a = 362 ∧ j < 160) ∨ scr a j
theorem FL.fx {M M' : kr_M} (h : FL M M') : Fx scr M M' := by
  refine ⟨fun a j q => ?_, h.2.2⟩
  by_cases c : a = 346
  · subst c
    exact h.2.1 j (fun z => q (by unfold scr; omega))
  · rw [h.1 a (Decidable.byContradiction (fun z => q (by unfold scr; omega))) c]
theorem thr_fx (M : kr_M) (x : Int32) : Fx scr M (kr_si M 346 0 x) := (Fx.refl M).si _ (by unfold scr; omega)
theorem GS_re {M M2 : kr_M} {g n : Nat} (hS : GS M g 0) (hg : g = 3 ∨ g = 64) (hn : n ≤ 40) (hF : Fx (uS g) M M2) (hli : ¬ M.1 g 0 = 0) (h9 : M2.1 g 9 = nI n) (h3 : M2.1 353 7 = nI n) (hd : ∀ j, j < 4 * n → M2.1 (g + 10) j = M2.1 362 j) (hv : ∀ k, k < n → rp_v M2 g (rp_n M2 g k) k) (hC : CP M2 g M2 (rp_n M2 g n)) : GS M2 g 0 := by
  obtain ⟨⟨t1, t2, t3, t4, t5, t6, t7, t8⟩, ⟨v1, v2, v3, v4, v5, v6, v7, v8, v9, v10, v11, v12, v13, v14, v15, v16⟩, -⟩ := hS
  have f := hF.1
  have e : ∀ j, j < 8 → M2.1 g j = M.1 g j := fun j hj => f g j (by unfold uS bS pS scr; omega)
  have e0 := e 0 (by omega)
  have e1 := e 1 (by omega)
  have e2 := e 2 (by omega)
  have e3 := e 3 (by omega)
  have e4 := e 4 (by omega)
  have e5 := e 5 (by omega)
  have e6 := e 6 (by omega)
  have e7 := e 7 (by omega)
  have k6 : zn (M.1 g 4) ≤ 6 := zn_le v6.2
  have w10 : zn (M.1 g 5) ≤ 10 := zn_le v7.2
  have r6 : zn (M.1 g 6) ≤ 6 := zn_le v8.2
  have p6 : zn (M.1 g 7) ≤ 6 := zn_le v9.2
  have z9 : zn (M2.1 g 9) = n := by rw [h9, zn_nI (by omega)]
  have row : ∀ a, (g + 1 ≤ a ∧ a ≤ g + 30 ∧ a ≠ g + 9 ∧ a ≠ g + 10) ∨ a = 352 ∨ (354 ≤ a ∧ a ≤ 361) → M2.1 a = M.1 a := fun a ha => funext fun j => f a j (by unfold uS bS pS scr; omega)
  have rr : ∀ r, r < 6 → (∀ j, j < 3 → M2.1 (g + 31 + 5 * r) j = M.1 (g + 31 + 5 * r) j) ∧ M2.1 (g + 32 + 5 * r) = M.1 (g + 32 + 5 * r) ∧ M2.1 (g + 33 + 5 * r) = M.1 (g + 33 + 5 * r) := fun r hr => ⟨fun j hj => f _ _ (by unfold uS bS pS scr; omega), funext fun j => f _ _ (by unfold uS bS pS scr; omega), funext fun j => f _ _ (by unfold uS bS pS scr; omega)⟩
  refine ⟨?_, ?_, ?_⟩
  · refine ⟨by rw [e0, row 352 (by omega)]; exact t1, fun j hj => by rw [e (j + 1) (by omega), f 353 (8 * 0 + j) (by unfold uS bS pS scr; omega)]; exact t2 j hj, by rw [h9, show 8 * 0 + 7 = 7 from rfl, h3], fun k hk => ?_, fun w hw => ?_, fun r hr => ?_, fun p hp => ?_, fun k hk => ?_⟩
    · rw [e4] at hk
      rw [row (g + 1) (by omega), row (g + 2) (by omega), row 354 (by omega), row 355 (by omega)]
      exact t4 k hk
    · rw [e5] at hw
      rw [row (g + 11 + 2 * w) (by omega), row (g + 12 + 2 * w) (by omega), row (g + 4) (by omega), row 356 (by omega), row 357 (by omega), row 358 (by omega)]
      exact t5 w hw
    · rw [e6] at hr
      obtain ⟨a1, a2, a3⟩ := rr r (by omega)
      obtain ⟨s1, s2, s3⟩ := t6 r hr
      rw [a2, a3, row 359 (by omega), row 360 (by omega)]
      exact ⟨fun j hj => by rw [a1 j hj]; exact s1 j hj, s2, s3⟩
    · rw [e7] at hp
      rw [row (g + 6) (by omega), row (g + 7) (by omega), row (g + 8) (by omega), row 361 (by omega)]
      exact t7 p hp
    · rw [z9] at hk
      rw [show 160 * 0 + k = k by omega]
      exact hd k hk
  · unfold gs_V
    rw [e0, e1, e2, e3, e4, e5, e6, e7, z9]
    refine ⟨v1, fun q => absurd q hli, v3, v4, v5, v6, v7, v8, v9, by rw [h9, kz_nI (by omega)]; omega, fun k hk => ?_, fun w hw => ?_, fun r hr => ?_, fun p hp => ?_, hv, fun w v hvw hw => ?_⟩
    · rw [row (g + 1) (by omega), row (g + 2) (by omega)]
      exact v11 k hk
    · rw [row (g + 11 + 2 * w) (by omega), row (g + 12 + 2 * w) (by omega), row (g + 4) (by omega)]
      exact v12 w hw
    · obtain ⟨a1, a2, a3⟩ := rr r (by omega)
      rw [a1 0 (by omega), a1 1 (by omega), a1 2 (by omega), a2, a3]
      exact v13 r hr
    · rw [row (g + 6) (by omega), row (g + 7) (by omega), row (g + 8) (by omega)]
      exact v14 p hp
    · rw [row (g + 11 + 2 * w) (by omega), row (g + 12 + 2 * w) (by omega), row (g + 11 + 2 * v) (by omega), row (g + 12 + 2 * v) (by omega)]
      exact v16 w v hvw hw
  · obtain ⟨c1, c2, c3⟩ := hC
    unfold gs_C
    rw [z9]
    refine ⟨fun r hr => ?_, c2, c3⟩
    obtain ⟨d1, d2, d3⟩ := c1 r hr
    rw [show g + 31 + 5 * r + 3 = g + 34 + 5 * r by omega] at d1
    refine ⟨d1, d2, fun i hi => ?_⟩
    have := d3 i hi
    rw [show g + 31 + 5 * r + 3 + 1 = g + 35 + 5 * r by omega] at this
    exact this
/-! what the class knows of the present -/
theorem KS.gs {M : kr_M} {g : Nat} {G : GG} (h : KS M g G) : GS M g 0 := by rw [h.2.1]; exact h.1.2.2.2.2
theorem CP_of {M : kr_M} {g : Nat} {G : GG} (h : KS M g G) : CP M g M (rp_n M g (gAc G)) := by
  have hS := h.gs
  have hC := h.C
  have hV := h.V
  obtain ⟨c0, cPl, cWe, cOd, cKi, cWo, cRo, cPe, cWt, cAc, cIn, cWa, cL, cMn, cW, cA, cB, cLd, cCr, cN, cK, cWg, cPc, cSt⟩ := hC
  obtain ⟨vLi, v0, vPl, vWe, vOd, vKi, vWo, vRo, vPe, vWt, vAc, vIn, vWa, vL, vMn, vW, vA, vB, vAB, vLd, vCr, vN, vK, vWg, vPc, vSt, vD⟩ := hV
  obtain ⟨-, -, C1, C2, C3⟩ := hS
  rw [cAc, zn_nI (by omega)] at C1 C2 C3
  refine ⟨fun r hr => ?_, C2, C3⟩
  obtain ⟨d1, d2, d3⟩ := C1 r hr
  refine ⟨by rw [show g + 31 + 5 * r + 3 = g + 34 + 5 * r by omega]; exact d1, d2, fun i hi => ?_⟩
  rw [show g + 31 + 5 * r + 3 + 1 = g + 35 + 5 * r by omega]
  exact d3 i hi
theorem RN_of {M : kr_M} {g : Nat} {G : GG} (h : KS M g G) : (∀ r, r < gRo G → (rp_n M g (gAc G)).2.1 r = gN G r) ∧ (∀ p, p < gPe G → (rp_n M g (gAc G)).2.2.2.1 p = nI (gSt G p)) := by
  have hS := h.gs
  have hB := rp_ok hS.2.1
  obtain ⟨c1, c2, c3⟩ := CP_of h
  have hC := h.C
  have hV := h.V
  obtain ⟨c0, cPl, cWe, cOd, cKi, cWo, cRo, cPe, cWt, cAc, cIn, cWa, cL, cMn, cW, cA, cB, cLd, cCr, cN, cK, cWg, cPc, cSt⟩ := hC
  obtain ⟨vLi, v0, vPl, vWe, vOd, vKi, vWo, vRo, vPe, vWt, vAc, vIn, vWa, vL, vMn, vW, vA, vB, vAB, vLd, vCr, vN, vK, vWg, vPc, vSt, vD⟩ := hV
  have z6 : zn (M.1 g 6) = gRo G := by rw [cRo, zn_nI (by omega)]
  have z7 : zn (M.1 g 7) = gPe G := by rw [cPe, zn_nI (by omega)]
  have z9 : zn (M.1 g 9) = gAc G := by rw [cAc, zn_nI (by omega)]
  refine ⟨fun r hr => ?_, fun p hp => ?_⟩
  · have b := ((hB (gAc G) (by omega)).1 r (by omega)).2.1
    have a := (c1 r (by omega)).1
    rw [cN r hr] at a
    have := vN r hr
    exact ((nI_eq (by omega) (by omega)).mp a).symm
  · rw [← c2 p (by omega), cSt p hp]
/-! taking back -/
theorem tb_l {B : kr_M} {g st : Nat} {G : GG} (hK : KS B g G) (hst : st ≤ gAc G) : ∀ n' i Mc, i ≤ st → st - i < n' → CP B g Mc (rp_n B g i) → Mc.1 g 9 = nI st → Fx (bS g) B Mc → Wp (f_X2_takeBackTo_11 g (nI st) n' (nI i) Mc) (fun M' => CP B g M' (rp_n B g st) ∧ M'.1 g 9 = nI st ∧ Fx (bS g) B M') := by
  have hg := hK.g36
  have hS := hK.gs
  have hB := rp_ok hS.2.1
  have hC := hK.C
  have hV := hK.V
  obtain ⟨c0, cPl, cWe, cOd, cKi, cWo, cRo, cPe, cWt, cAc, cIn, cWa, cL, cMn, cW, cA, cB, cLd, cCr, cN, cK, cWg, cPc, cSt⟩ := hC
  obtain ⟨vLi, v0, vPl, vWe, vOd, vKi, vWo, vRo, vPe, vWt, vAc, vIn, vWa, vL, vMn, vW, vA, vB, vAB, vLd, vCr, vN, vK, vWg, vPc, vSt, vD⟩ := hV
  have z9 : zn (B.1 g 9) = gAc G := by rw [cAc, zn_nI (by omega)]
  have hvv : ∀ k, k < gAc G → rp_v B g (rp_n B g k) k := by
    obtain ⟨-, ⟨-, -, -, -, -, -, -, -, -, -, -, -, -, -, a, -⟩, -⟩ := hS
    rw [z9] at a
    exact a
  intro n'
  induction n' with
  | zero => intro i Mc h1 h2; omega
  | succ n' ih =>
    intro i Mc h1 h2 hP h9 hF
    rw [f_X2_takeBackTo_11]
    by_cases c : i = st
    · subst c
      (repeat (first | with_reducible refine Wp_some ?_ | (with_reducible refine Wp_letI ?_; intro v_ hv_; (try simp (disch := omega) only [L_0, L_1, L_2, L_3, L_4, L_5, L_6, L_7, L_8, L_9, L_10, L_11, L_12, L_16, L_18, L_20, L_24, L_25, L_30, L_32, L_38, L_40, L_48, L_50, L_60, L_63, L_64, L_72, L_99, L_100, L_160, L_500, L_999, L_1380, L_1400, L_2400, L_2401, L_60025, L_100000, L_1000000, L_100000000, L_2000000000, nI_add, pk_mul, nI_clamp, nI_leI, nI_ltI, nI_eq, kin_I, pk_sub, nI_m1, m1_nI, nI_am1, kx_max, kx_min, kt_tx, kt_rp, kg_si, kg_sl, kq_si, kq_sl, kv_si, kv_sl, Nat.reduceAdd, Nat.reduceMul, Nat.reduceSub, Nat.reduceEqDiff, Nat.reduceLT, Nat.reduceLeDiff, ne_eq, not_true_eq_false, not_false_eq_true, or_true, true_or, or_false, false_or, and_true, true_and, false_and, and_false, if_true, if_false, ite_true, ite_false, reduceIte, kl_0, kl_1, kl_2, kl_3, kl_6, kl_20, kl_50, kl_500, kl_999, kl_2400, kl_2g, in_t, in_tt, in_f, in_ff, in_n, if_pos, if_neg, eq_self, nI_n1, n1_nI, nI_an1, lesser_n1, lesser_rn, lesser_n, kx_n1] at hv_); subst hv_) | (with_reducible refine Wp_biI ?_; intro c_ hc_; simp (disch := omega) only [L_0, L_1, L_2, L_3, L_4, L_5, L_6, L_7, L_8, L_9, L_10, L_11, L_12, L_16, L_18, L_20, L_24, L_25, L_30, L_32, L_38, L_40, L_48, L_50, L_60, L_63, L_64, L_72, L_99, L_100, L_160, L_500, L_999, L_1380, L_1400, L_2400, L_2401, L_60025, L_100000, L_1000000, L_100000000, L_2000000000, nI_add, pk_mul, nI_clamp, nI_leI, nI_ltI, nI_eq, kin_I, pk_sub, nI_m1, m1_nI, nI_am1, kx_max, kx_min, kt_tx, kt_rp, kg_si, kg_sl, kq_si, kq_sl, kv_si, kv_sl, Nat.reduceAdd, Nat.reduceMul, Nat.reduceSub, Nat.reduceEqDiff, Nat.reduceLT, Nat.reduceLeDiff, ne_eq, not_true_eq_false, not_false_eq_true, or_true, true_or, or_false, false_or, and_true, true_and, false_and, and_false, if_true, if_false, ite_true, ite_false, reduceIte, kl_0, kl_1, kl_2, kl_3, kl_6, kl_20, kl_50, kl_500, kl_999, kl_2400, kl_2g, in_t, in_tt, in_f, in_ff, in_n, if_pos, if_neg, eq_self, nI_n1, n1_nI, nI_an1, lesser_n1, lesser_rn, lesser_n, kx_n1] at hc_; subst hc_; with_reducible refine Wp_bis ?_) | (with_reducible refine Wp_bvI ?_; intro c_ hc_; simp (disch := omega) only [L_0, L_1, L_2, L_3, L_4, L_5, L_6, L_7, L_8, L_9, L_10, L_11, L_12, L_16, L_18, L_20, L_24, L_25, L_30, L_32, L_38, L_40, L_48, L_50, L_60, L_63, L_64, L_72, L_99, L_100, L_160, L_500, L_999, L_1380, L_1400, L_2400, L_2401, L_60025, L_100000, L_1000000, L_100000000, L_2000000000, nI_add, pk_mul, nI_clamp, nI_leI, nI_ltI, nI_eq, kin_I, pk_sub, nI_m1, m1_nI, nI_am1, kx_max, kx_min, kt_tx, kt_rp, kg_si, kg_sl, kq_si, kq_sl, kv_si, kv_sl, Nat.reduceAdd, Nat.reduceMul, Nat.reduceSub, Nat.reduceEqDiff, Nat.reduceLT, Nat.reduceLeDiff, ne_eq, not_true_eq_false, not_false_eq_true, or_true, true_or, or_false, false_or, and_true, true_and, false_and, and_false, if_true, if_false, ite_true, ite_false, reduceIte, kl_0, kl_1, kl_2, kl_3, kl_6, kl_20, kl_50, kl_500, kl_999, kl_2400, kl_2g, in_t, in_tt, in_f, in_ff, in_n, if_pos, if_neg, eq_self, nI_n1, n1_nI, nI_an1, lesser_n1, lesser_rn, lesser_n, kx_n1] at hc_; subst hc_; with_reducible refine Wp_bvs ?_) | (with_reducible refine Wp_t (by (first | (simp (disch := omega) only [L_0, L_1, L_2, L_3, L_4, L_5, L_6, L_7, L_8, L_9, L_10, L_11, L_12, L_16, L_18, L_20, L_24, L_25, L_30, L_32, L_38, L_40, L_48, L_50, L_60, L_63, L_64, L_72, L_99, L_100, L_160, L_500, L_999, L_1380, L_1400, L_2400, L_2401, L_60025, L_100000, L_1000000, L_100000000, L_2000000000, nI_add, pk_mul, nI_clamp, nI_leI, nI_ltI, nI_eq, kin_I, pk_sub, nI_m1, m1_nI, nI_am1, kx_max, kx_min, kt_tx, kt_rp, kg_si, kg_sl, kq_si, kq_sl, kv_si, kv_sl, Nat.reduceAdd, Nat.reduceMul, Nat.reduceSub, Nat.reduceEqDiff, Nat.reduceLT, Nat.reduceLeDiff, ne_eq, not_true_eq_false, not_false_eq_true, or_true, true_or, or_false, false_or, and_true, true_and, false_and, and_false, if_true, if_false, ite_true, ite_false, reduceIte, kl_0, kl_1, kl_2, kl_3, kl_6, kl_20, kl_50, kl_500, kl_999, kl_2400, kl_2g, in_t, in_tt, in_f, in_ff, in_n, if_pos, if_neg, eq_self, nI_n1, n1_nI, nI_an1, lesser_n1, lesser_rn, lesser_n, kx_n1]; done) | (simp (disch := omega) only [L_0, L_1, L_2, L_3, L_4, L_5, L_6, L_7, L_8, L_9, L_10, L_11, L_12, L_16, L_18, L_20, L_24, L_25, L_30, L_32, L_38, L_40, L_48, L_50, L_60, L_63, L_64, L_72, L_99, L_100, L_160, L_500, L_999, L_1380, L_1400, L_2400, L_2401, L_60025, L_100000, L_1000000, L_100000000, L_2000000000, nI_add, pk_mul, nI_clamp, nI_leI, nI_ltI, nI_eq, kin_I, pk_sub, nI_m1, m1_nI, nI_am1, kx_max, kx_min, kt_tx, kt_rp, kg_si, kg_sl, kq_si, kq_sl, kv_si, kv_sl, Nat.reduceAdd, Nat.reduceMul, Nat.reduceSub, Nat.reduceEqDiff, Nat.reduceLT, Nat.reduceLeDiff, ne_eq, not_true_eq_false, not_false_eq_true, or_true, true_or, or_false, false_or, and_true, true_and, false_and, and_false, if_true, if_false, ite_true, ite_false, reduceIte, kl_0, kl_1, kl_2, kl_3, kl_6, kl_20, kl_50, kl_500, kl_999, kl_2400, kl_2g, in_t, in_tt, in_f, in_ff, in_n, if_pos, if_neg, eq_self, nI_n1, n1_nI, nI_an1, lesser_n1, lesser_rn, lesser_n, kx_n1]; omega) | decide)) ?_) | (with_reducible refine Wp_f (by (first | (simp (disch := omega) only [L_0, L_1, L_2, L_3, L_4, L_5, L_6, L_7, L_8, L_9, L_10, L_11, L_12, L_16, L_18, L_20, L_24, L_25, L_30, L_32, L_38, L_40, L_48, L_50, L_60, L_63, L_64, L_72, L_99, L_100, L_160, L_500, L_999, L_1380, L_1400, L_2400, L_2401, L_60025, L_100000, L_1000000, L_100000000, L_2000000000, nI_add, pk_mul, nI_clamp, nI_leI, nI_ltI, nI_eq, kin_I, pk_sub, nI_m1, m1_nI, nI_am1, kx_max, kx_min, kt_tx, kt_rp, kg_si, kg_sl, kq_si, kq_sl, kv_si, kv_sl, Nat.reduceAdd, Nat.reduceMul, Nat.reduceSub, Nat.reduceEqDiff, Nat.reduceLT, Nat.reduceLeDiff, ne_eq, not_true_eq_false, not_false_eq_true, or_true, true_or, or_false, false_or, and_true, true_and, false_and, and_false, if_true, if_false, ite_true, ite_false, reduceIte, kl_0, kl_1, kl_2, kl_3, kl_6, kl_20, kl_50, kl_500, kl_999, kl_2400, kl_2g, in_t, in_tt, in_f, in_ff, in_n, if_pos, if_neg, eq_self, nI_n1, n1_nI, nI_an1, lesser_n1, lesser_rn, lesser_n, kx_n1]; done) | (simp (disch := omega) only [L_0, L_1, L_2, L_3, L_4, L_5, L_6, L_7, L_8, L_9, L_10, L_11, L_12, L_16, L_18, L_20, L_24, L_25, L_30, L_32, L_38, L_40, L_48, L_50, L_60, L_63, L_64, L_72, L_99, L_100, L_160, L_500, L_999, L_1380, L_1400, L_2400, L_2401, L_60025, L_100000, L_1000000, L_100000000, L_2000000000, nI_add, pk_mul, nI_clamp, nI_leI, nI_ltI, nI_eq, kin_I, pk_sub, nI_m1, m1_nI, nI_am1, kx_max, kx_min, kt_tx, kt_rp, kg_si, kg_sl, kq_si, kq_sl, kv_si, kv_sl, Nat.reduceAdd, Nat.reduceMul, Nat.reduceSub, Nat.reduceEqDiff, Nat.reduceLT, Nat.reduceLeDiff, ne_eq, not_true_eq_false, not_false_eq_true, or_true, true_or, or_false, false_or, and_true, true_and, false_and, and_false, if_true, if_false, ite_true, ite_false, reduceIte, kl_0, kl_1, kl_2, kl_3, kl_6, kl_20, kl_50, kl_500, kl_999, kl_2400, kl_2g, in_t, in_tt, in_f, in_ff, in_n, if_pos, if_neg, eq_self, nI_n1, n1_nI, nI_an1, lesser_n1, lesser_rn, lesser_n, kx_n1]; omega) | decide)) ?_))); try simp (disch := omega) only [nI_1, kt_rp, kt_tx]
      exact ⟨hP, h9, hF⟩
    · refine Wp_f (nI_ge (by omega) (by omega)) ?_
      rw [L_4, pk_mul]
      refine Wp_bv _ (carry_ok hg (by rw [cRo, kz_nI (by omega)]; omega) (by rw [cPe, kz_nI (by omega)]; omega) (hB i (by omega)) (hvv i (by omega)) (by omega) hP hF) (fun M' ⟨p1, p2⟩ => ?_)
      rw [nI_1]
      refine ih (i + 1) M' (by omega) (by omega) p1 (by rw [p2.1 g 9 (by unfold pS; omega)]; exact h9) ⟨fun a j q => ?_, by rw [p2.2]; exact hF.2⟩
      rw [p2.1 a j (fun z => q (by unfold bS; exact Or.inl z))]
      exact hF.1 a j q
theorem tb_ok {M : kr_M} {g st : Nat} {G : GG} (hK : KS M g G) (hst : st ≤ gAc G) : Wp (f_X2_takeBackTo g (nI st) M) (fun M' => CP M g M' (rp_n M g st) ∧ M'.1 g 9 = nI st ∧ Fx (bS g) M M') := by
  have hg := hK.g36
  have hS := hK.gs
  have hC := hK.C
  have hV := hK.V
  obtain ⟨c0, cPl, cWe, cOd, cKi, cWo, cRo, cPe, cWt, cAc, cIn, cWa, cL, cMn, cW, cA, cB, cLd, cCr, cN, cK, cWg, cPc, cSt⟩ := hC
  obtain ⟨vLi, v0, vPl, vWe, vOd, vKi, vWo, vRo, vPe, vWt, vAc, vIn, vWa, vL, vMn, vW, vA, vB, vAB, vLd, vCr, vN, vK, vWg, vPc, vSt, vD⟩ := hV
  have z6 : zn (M.1 g 6) = gRo G := by rw [cRo, zn_nI (by omega)]
  have z7 : zn (M.1 g 7) = gPe G := by rw [cPe, zn_nI (by omega)]
  have hv13 : ∀ r, r < gRo G → M.1 (g + 31 + 5 * r + 1) 1 = nI (zn (M.1 (g + 31 + 5 * r + 1) 1)) ∧ zn (M.1 (g + 31 + 5 * r + 1) 1) ≤ 12 := fun r hr => by
    obtain ⟨-, ⟨-, -, -, -, -, -, -, -, -, -, -, -, v13, -⟩, -⟩ := hS
    obtain ⟨-, -, -, -, -, -, -, a1, a2, -⟩ := v13 r (by omega)
    rw [show g + 31 + 5 * r + 1 = g + 32 + 5 * r by omega]
    exact ⟨zn_of (by omega), zn_le a2⟩
  unfold f_X2_takeBackTo
  refine Wp_bv _ (beT_ok (tn := fun r => zn (M.1 (g + 31 + 5 * r + 1) 1)) hg vRo cRo hv13) (fun M1 ⟨b1, b2, b3, b4, b5⟩ => ?_)
  refine Wp_letI ?_
  intro M3 hM3
  have n3 : ∀ a j, ¬ (a = g ∧ j = 9) → M3.1 a j = M1.1 a j := fun a j q => by rw [← hM3, kg_si, if_neg q]
  refine tb_l hK hst kr_F 0 M3 (by omega) (kr_F_gt _ (by omega)) ⟨fun r hr => ?_, fun p hp => ?_, ?_⟩ ?_ ?_
  · obtain ⟨d1, d2, d3⟩ := b1 r (by omega)
    have r6 : r < 6 := by omega
    simp only [rp_n, rp_0, if_pos r6]
    rw [show g + 32 + 5 * r = g + 31 + 5 * r + 1 by omega, show g + 33 + 5 * r = g + 31 + 5 * r + 1 + 1 by omega]
    refine ⟨by rw [n3 _ _ (by omega)]; exact d2, by rw [n3 _ _ (by omega)]; exact d1, fun i hi => by rw [n3 _ _ (by omega)]; exact d3 i hi⟩
  · rw [n3 _ _ (by omega)]
    exact b4 p (by omega)
  · rw [n3 _ _ (by omega)]
    exact b2
  · rw [← hM3, kr_si_at]
  · rw [← hM3]
    exact b5.si _ (by unfold bS; omega)
/-! a new act -/
def dM (M : kr_M) (g k : Nat) (d0 d1 d2 d3 : Int32) : kr_M := kr_si (kr_si (kr_si (kr_si (kr_si M (g + 10) (4 * k) d0) (g + 10) (4 * k + 1) d1) (g + 10) (4 * k + 2) d2) (g + 10) (4 * k + 3) d3) g 9 (nI (k + 1))
theorem dM_ne (M : kr_M) (g k : Nat) (d0 d1 d2 d3 : Int32) (a j : Nat) (h : ¬ (a = g ∧ j = 9)) (h2 : ¬ (a = g + 10 ∧ 4 * k ≤ j ∧ j < 4 * k + 4)) : (dM M g k d0 d1 d2 d3).1 a j = M.1 a j := by
  unfold dM
  rw [kg_si, if_neg h, kg_si, if_neg (by omega), kg_si, if_neg (by omega), kg_si, if_neg (by omega), kg_si, if_neg (by omega)]
theorem dM_d (M : kr_M) (g k : Nat) (d0 d1 d2 d3 : Int32) : rp_d (dM M g k d0 d1 d2 d3) g k 0 = d0 ∧ rp_d (dM M g k d0 d1 d2 d3) g k 1 = d1 ∧ rp_d (dM M g k d0 d1 d2 d3) g k 2 = d2 ∧ rp_d (dM M g k d0 d1 d2 d3) g k 3 = d3 := by
  unfold rp_d dM
  refine ⟨?_, ?_, ?_, ?_⟩
  · rw [kg_si, if_neg (by omega), kg_si, if_neg (by omega), kg_si, if_neg (by omega), kg_si, if_neg (by omega), kg_si, if_pos (by omega)]
  · rw [kg_si, if_neg (by omega), kg_si, if_neg (by omega), kg_si, if_neg (by omega), kg_si, if_pos (by omega)]
  · rw [kg_si, if_neg (by omega), kg_si, if_neg (by omega), kg_si, if_pos (by omega)]
  · rw [kg_si, if_neg (by omega), kg_si, if_pos (by omega)]
theorem dM_n {M : kr_M} {g : Nat} {G : GG} (hK : KS M g G) (d0 d1 d2 d3 : Int32) : ∀ n, n ≤ gAc G → rp_n (dM M g (gAc G) d0 d1 d2 d3) g n = rp_n M g n := by
  have hS := hK.gs
  have hg := hK.g36
  have hC := hK.C
  have hV := hK.V
  obtain ⟨c0, cPl, cWe, cOd, cKi, cWo, cRo, cPe, cWt, cAc, cIn, cWa, cL, cMn, cW, cA, cB, cLd, cCr, cN, cK, cWg, cPc, cSt⟩ := hC
  obtain ⟨vLi, v0, vPl, vWe, vOd, vKi, vWo, vRo, vPe, vWt, vAc, vIn, vWa, vL, vMn, vW, vA, vB, vAB, vLd, vCr, vN, vK, vWg, vPc, vSt, vD⟩ := hV
  have z9 : zn (M.1 g 9) = gAc G := by rw [cAc, zn_nI (by omega)]
  have hvv : ∀ k, k < gAc G → rp_v M g (rp_n M g k) k := by
    obtain ⟨-, ⟨-, -, -, -, -, -, -, -, -, -, -, -, -, -, a, -⟩, -⟩ := hS
    rw [z9] at a
    exact a
  intro n hn
  refine rp_nc (by rw [cRo, kz_nI (by omega)]; omega) (funext fun j => dM_ne _ _ _ _ _ _ _ _ _ (by omega) (by omega)) (fun r hr => ⟨dM_ne _ _ _ _ _ _ _ _ _ (by omega) (by omega), dM_ne _ _ _ _ _ _ _ _ _ (by omega) (by omega), dM_ne _ _ _ _ _ _ _ _ _ (by omega) (by omega), funext fun j => dM_ne _ _ _ _ _ _ _ _ _ (by omega) (by omega)⟩) n (fun k j hk hj => dM_ne _ _ _ _ _ _ _ _ _ (by omega) (by omega)) (fun k hk => hvv k (by omega))
theorem tired_f {M : kr_M} {g : Nat} {G : GG} (hC : CG M g G) (hV : GV G) (h : gAc G < 40) : f_X2_isTired g M = some (0, M) := by
  apply Wp_eq
  obtain ⟨c0, cPl, cWe, cOd, cKi, cWo, cRo, cPe, cWt, cAc, cIn, cWa, cL, cMn, cW, cA, cB, cLd, cCr, cN, cK, cWg, cPc, cSt⟩ := hC
  obtain ⟨vLi, v0, vPl, vWe, vOd, vKi, vWo, vRo, vPe, vWt, vAc, vIn, vWa, vL, vMn, vW, vA, vB, vAB, vLd, vCr, vN, vK, vWg, vPc, vSt, vD⟩ := hV
  unfold f_X2_isTired
  (repeat (first | with_reducible refine Wp_some ?_ | (with_reducible refine Wp_letI ?_; intro v_ hv_; (try simp (disch := omega) only [L_0, L_1, L_2, L_3, L_4, L_5, L_6, L_7, L_8, L_9, L_10, L_11, L_12, L_16, L_18, L_20, L_24, L_25, L_30, L_32, L_38, L_40, L_48, L_50, L_60, L_63, L_64, L_72, L_99, L_100, L_160, L_500, L_999, L_1380, L_1400, L_2400, L_2401, L_60025, L_100000, L_1000000, L_100000000, L_2000000000, nI_add, pk_mul, nI_clamp, nI_leI, nI_ltI, nI_eq, kin_I, pk_sub, nI_m1, m1_nI, nI_am1, kx_max, kx_min, kt_tx, kt_rp, kg_si, kg_sl, kq_si, kq_sl, kv_si, kv_sl, Nat.reduceAdd, Nat.reduceMul, Nat.reduceSub, Nat.reduceEqDiff, Nat.reduceLT, Nat.reduceLeDiff, ne_eq, not_true_eq_false, not_false_eq_true, or_true, true_or, or_false, false_or, and_true, true_and, false_and, and_false, if_true, if_false, ite_true, ite_false, reduceIte, kl_0, kl_1, kl_2, kl_3, kl_6, kl_20, kl_50, kl_500, kl_999, kl_2400, kl_2g, in_t, in_tt, in_f, in_ff, in_n, if_pos, if_neg, eq_self, nI_n1, n1_nI, nI_an1, lesser_n1, lesser_rn, lesser_n, kx_n1, cAc] at hv_); subst hv_) | (with_reducible refine Wp_biI ?_; intro c_ hc_; simp (disch := omega) only [L_0, L_1, L_2, L_3, L_4, L_5, L_6, L_7, L_8, L_9, L_10, L_11, L_12, L_16, L_18, L_20, L_24, L_25, L_30, L_32, L_38, L_40, L_48, L_50, L_60, L_63, L_64, L_72, L_99, L_100, L_160, L_500, L_999, L_1380, L_1400, L_2400, L_2401, L_60025, L_100000, L_1000000, L_100000000, L_2000000000, nI_add, pk_mul, nI_clamp, nI_leI, nI_ltI, nI_eq, kin_I, pk_sub, nI_m1, m1_nI, nI_am1, kx_max, kx_min, kt_tx, kt_rp, kg_si, kg_sl, kq_si, kq_sl, kv_si, kv_sl, Nat.reduceAdd, Nat.reduceMul, Nat.reduceSub, Nat.reduceEqDiff, Nat.reduceLT, Nat.reduceLeDiff, ne_eq, not_true_eq_false, not_false_eq_true, or_true, true_or, or_false, false_or, and_true, true_and, false_and, and_false, if_true, if_false, ite_true, ite_false, reduceIte, kl_0, kl_1, kl_2, kl_3, kl_6, kl_20, kl_50, kl_500, kl_999, kl_2400, kl_2g, in_t, in_tt, in_f, in_ff, in_n, if_pos, if_neg, eq_self, nI_n1, n1_nI, nI_an1, lesser_n1, lesser_rn, lesser_n, kx_n1, cAc] at hc_; subst hc_; with_reducible refine Wp_bis ?_) | (with_reducible refine Wp_bvI ?_; intro c_ hc_; simp (disch := omega) only [L_0, L_1, L_2, L_3, L_4, L_5, L_6, L_7, L_8, L_9, L_10, L_11, L_12, L_16, L_18, L_20, L_24, L_25, L_30, L_32, L_38, L_40, L_48, L_50, L_60, L_63, L_64, L_72, L_99, L_100, L_160, L_500, L_999, L_1380, L_1400, L_2400, L_2401, L_60025, L_100000, L_1000000, L_100000000, L_2000000000, nI_add, pk_mul, nI_clamp, nI_leI, nI_ltI, nI_eq, kin_I, pk_sub, nI_m1, m1_nI, nI_am1, kx_max, kx_min, kt_tx, kt_rp, kg_si, kg_sl, kq_si, kq_sl, kv_si, kv_sl, Nat.reduceAdd, Nat.reduceMul, Nat.reduceSub, Nat.reduceEqDiff, Nat.reduceLT, Nat.reduceLeDiff, ne_eq, not_true_eq_false, not_false_eq_true, or_true, true_or, or_false, false_or, and_true, true_and, false_and, and_false, if_true, if_false, ite_true, ite_false, reduceIte, kl_0, kl_1, kl_2, kl_3, kl_6, kl_20, kl_50, kl_500, kl_999, kl_2400, kl_2g, in_t, in_tt, in_f, in_ff, in_n, if_pos, if_neg, eq_self, nI_n1, n1_nI, nI_an1, lesser_n1, lesser_rn, lesser_n, kx_n1, cAc] at hc_; subst hc_; with_reducible refine Wp_bvs ?_) | (with_reducible refine Wp_t (by (first | (simp (disch := omega) only [L_0, L_1, L_2, L_3, L_4, L_5, L_6, L_7, L_8, L_9, L_10, L_11, L_12, L_16, L_18, L_20, L_24, L_25, L_30, L_32, L_38, L_40, L_48, L_50, L_60, L_63, L_64, L_72, L_99, L_100, L_160, L_500, L_999, L_1380, L_1400, L_2400, L_2401, L_60025, L_100000, L_1000000, L_100000000, L_2000000000, nI_add, pk_mul, nI_clamp, nI_leI, nI_ltI, nI_eq, kin_I, pk_sub, nI_m1, m1_nI, nI_am1, kx_max, kx_min, kt_tx, kt_rp, kg_si, kg_sl, kq_si, kq_sl, kv_si, kv_sl, Nat.reduceAdd, Nat.reduceMul, Nat.reduceSub, Nat.reduceEqDiff, Nat.reduceLT, Nat.reduceLeDiff, ne_eq, not_true_eq_false, not_false_eq_true, or_true, true_or, or_false, false_or, and_true, true_and, false_and, and_false, if_true, if_false, ite_true, ite_false, reduceIte, kl_0, kl_1, kl_2, kl_3, kl_6, kl_20, kl_50, kl_500, kl_999, kl_2400, kl_2g, in_t, in_tt, in_f, in_ff, in_n, if_pos, if_neg, eq_self, nI_n1, n1_nI, nI_an1, lesser_n1, lesser_rn, lesser_n, kx_n1, cAc]; done) | (simp (disch := omega) only [L_0, L_1, L_2, L_3, L_4, L_5, L_6, L_7, L_8, L_9, L_10, L_11, L_12, L_16, L_18, L_20, L_24, L_25, L_30, L_32, L_38, L_40, L_48, L_50, L_60, L_63, L_64, L_72, L_99, L_100, L_160, L_500, L_999, L_1380, L_1400, L_2400, L_2401, L_60025, L_100000, L_1000000, L_100000000, L_2000000000, nI_add, pk_mul, nI_clamp, nI_leI, nI_ltI, nI_eq, kin_I, pk_sub, nI_m1, m1_nI, nI_am1, kx_max, kx_min, kt_tx, kt_rp, kg_si, kg_sl, kq_si, kq_sl, kv_si, kv_sl, Nat.reduceAdd, Nat.reduceMul, Nat.reduceSub, Nat.reduceEqDiff, Nat.reduceLT, Nat.reduceLeDiff, ne_eq, not_true_eq_false, not_false_eq_true, or_true, true_or, or_false, false_or, and_true, true_and, false_and, and_false, if_true, if_false, ite_true, ite_false, reduceIte, kl_0, kl_1, kl_2, kl_3, kl_6, kl_20, kl_50, kl_500, kl_999, kl_2400, kl_2g, in_t, in_tt, in_f, in_ff, in_n, if_pos, if_neg, eq_self, nI_n1, n1_nI, nI_an1, lesser_n1, lesser_rn, lesser_n, kx_n1, cAc]; omega) | decide)) ?_) | (with_reducible refine Wp_f (by (first | (simp (disch := omega) only [L_0, L_1, L_2, L_3, L_4, L_5, L_6, L_7, L_8, L_9, L_10, L_11, L_12, L_16, L_18, L_20, L_24, L_25, L_30, L_32, L_38, L_40, L_48, L_50, L_60, L_63, L_64, L_72, L_99, L_100, L_160, L_500, L_999, L_1380, L_1400, L_2400, L_2401, L_60025, L_100000, L_1000000, L_100000000, L_2000000000, nI_add, pk_mul, nI_clamp, nI_leI, nI_ltI, nI_eq, kin_I, pk_sub, nI_m1, m1_nI, nI_am1, kx_max, kx_min, kt_tx, kt_rp, kg_si, kg_sl, kq_si, kq_sl, kv_si, kv_sl, Nat.reduceAdd, Nat.reduceMul, Nat.reduceSub, Nat.reduceEqDiff, Nat.reduceLT, Nat.reduceLeDiff, ne_eq, not_true_eq_false, not_false_eq_true, or_true, true_or, or_false, false_or, and_true, true_and, false_and, and_false, if_true, if_false, ite_true, ite_false, reduceIte, kl_0, kl_1, kl_2, kl_3, kl_6, kl_20, kl_50, kl_500, kl_999, kl_2400, kl_2g, in_t, in_tt, in_f, in_ff, in_n, if_pos, if_neg, eq_self, nI_n1, n1_nI, nI_an1, lesser_n1, lesser_rn, lesser_n, kx_n1, cAc]; done) | (simp (disch := omega) only [L_0, L_1, L_2, L_3, L_4, L_5, L_6, L_7, L_8, L_9, L_10, L_11, L_12, L_16, L_18, L_20, L_24, L_25, L_30, L_32, L_38, L_40, L_48, L_50, L_60, L_63, L_64, L_72, L_99, L_100, L_160, L_500, L_999, L_1380, L_1400, L_2400, L_2401, L_60025, L_100000, L_1000000, L_100000000, L_2000000000, nI_add, pk_mul, nI_clamp, nI_leI, nI_ltI, nI_eq, kin_I, pk_sub, nI_m1, m1_nI, nI_am1, kx_max, kx_min, kt_tx, kt_rp, kg_si, kg_sl, kq_si, kq_sl, kv_si, kv_sl, Nat.reduceAdd, Nat.reduceMul, Nat.reduceSub, Nat.reduceEqDiff, Nat.reduceLT, Nat.reduceLeDiff, ne_eq, not_true_eq_false, not_false_eq_true, or_true, true_or, or_false, false_or, and_true, true_and, false_and, and_false, if_true, if_false, ite_true, ite_false, reduceIte, kl_0, kl_1, kl_2, kl_3, kl_6, kl_20, kl_50, kl_500, kl_999, kl_2400, kl_2g, in_t, in_tt, in_f, in_ff, in_n, if_pos, if_neg, eq_self, nI_n1, n1_nI, nI_an1, lesser_n1, lesser_rn, lesser_n, kx_n1, cAc]; omega) | decide)) ?_))); try simp (disch := omega) only [nI_1, kt_rp, kt_tx]
  first | done | rfl
theorem tired_t {M : kr_M} {g : Nat} {G : GG} (hC : CG M g G) (hV : GV G) (h : ¬ gAc G < 40) : f_X2_isTired g M = some (1, M) := by
  apply Wp_eq
  obtain ⟨c0, cPl, cWe, cOd, cKi, cWo, cRo, cPe, cWt, cAc, cIn, cWa, cL, cMn, cW, cA, cB, cLd, cCr, cN, cK, cWg, cPc, cSt⟩ := hC
  obtain ⟨vLi, v0, vPl, vWe, vOd, vKi, vWo, vRo, vPe, vWt, vAc, vIn, vWa, vL, vMn, vW, vA, vB, vAB, vLd, vCr, vN, vK, vWg, vPc, vSt, vD⟩ := hV
  unfold f_X2_isTired
  (repeat (first | with_reducible refine Wp_some ?_ | (with_reducible refine Wp_letI ?_; intro v_ hv_; (try simp (disch := omega) only [L_0, L_1, L_2, L_3, L_4, L_5, L_6, L_7, L_8, L_9, L_10, L_11, L_12, L_16, L_18, L_20, L_24, L_25, L_30, L_32, L_38, L_40, L_48, L_50, L_60, L_63, L_64, L_72, L_99, L_100, L_160, L_500, L_999, L_1380, L_1400, L_2400, L_2401, L_60025, L_100000, L_1000000, L_100000000, L_2000000000, nI_add, pk_mul, nI_clamp, nI_leI, nI_ltI, nI_eq, kin_I, pk_sub, nI_m1, m1_nI, nI_am1, kx_max, kx_min, kt_tx, kt_rp, kg_si, kg_sl, kq_si, kq_sl, kv_si, kv_sl, Nat.reduceAdd, Nat.reduceMul, Nat.reduceSub, Nat.reduceEqDiff, Nat.reduceLT, Nat.reduceLeDiff, ne_eq, not_true_eq_false, not_false_eq_true, or_true, true_or, or_false, false_or, and_true, true_and, false_and, and_false, if_true, if_false, ite_true, ite_false, reduceIte, kl_0, kl_1, kl_2, kl_3, kl_6, kl_20, kl_50, kl_500, kl_999, kl_2400, kl_2g, in_t, in_tt, in_f, in_ff, in_n, if_pos, if_neg, eq_self, nI_n1, n1_nI, nI_an1, lesser_n1, lesser_rn, lesser_n, kx_n1, cAc] at hv_); subst hv_) | (with_reducible refine Wp_biI ?_; intro c_ hc_; simp (disch := omega) only [L_0, L_1, L_2, L_3, L_4, L_5, L_6, L_7, L_8, L_9, L_10, L_11, L_12, L_16, L_18, L_20, L_24, L_25, L_30, L_32, L_38, L_40, L_48, L_50, L_60, L_63, L_64, L_72, L_99, L_100, L_160, L_500, L_999, L_1380, L_1400, L_2400, L_2401, L_60025, L_100000, L_1000000, L_100000000, L_2000000000, nI_add, pk_mul, nI_clamp, nI_leI, nI_ltI, nI_eq, kin_I, pk_sub, nI_m1, m1_nI, nI_am1, kx_max, kx_min, kt_tx, kt_rp, kg_si, kg_sl, kq_si, kq_sl, kv_si, kv_sl, Nat.reduceAdd, Nat.reduceMul, Nat.reduceSub, Nat.reduceEqDiff, Nat.reduceLT, Nat.reduceLeDiff, ne_eq, not_true_eq_false, not_false_eq_true, or_true, true_or, or_false, false_or, and_true, true_and, false_and, and_false, if_true, if_false, ite_true, ite_false, reduceIte, kl_0, kl_1, kl_2, kl_3, kl_6, kl_20, kl_50, kl_500, kl_999, kl_2400, kl_2g, in_t, in_tt, in_f, in_ff, in_n, if_pos, if_neg, eq_self, nI_n1, n1_nI, nI_an1, lesser_n1, lesser_rn, lesser_n, kx_n1, cAc] at hc_; subst hc_; with_reducible refine Wp_bis ?_) | (with_reducible refine Wp_bvI ?_; intro c_ hc_; simp (disch := omega) only [L_0, L_1, L_2, L_3, L_4, L_5, L_6, L_7, L_8, L_9, L_10, L_11, L_12, L_16, L_18, L_20, L_24, L_25, L_30, L_32, L_38, L_40, L_48, L_50, L_60, L_63, L_64, L_72, L_99, L_100, L_160, L_500, L_999, L_1380, L_1400, L_2400, L_2401, L_60025, L_100000, L_1000000, L_100000000, L_2000000000, nI_add, pk_mul, nI_clamp, nI_leI, nI_ltI, nI_eq, kin_I, pk_sub, nI_m1, m1_nI, nI_am1, kx_max, kx_min, kt_tx, kt_rp, kg_si, kg_sl, kq_si, kq_sl, kv_si, kv_sl, Nat.reduceAdd, Nat.reduceMul, Nat.reduceSub, Nat.reduceEqDiff, Nat.reduceLT, Nat.reduceLeDiff, ne_eq, not_true_eq_false, not_false_eq_true, or_true, true_or, or_false, false_or, and_true, true_and, false_and, and_false, if_true, if_false, ite_true, ite_false, reduceIte, kl_0, kl_1, kl_2, kl_3, kl_6, kl_20, kl_50, kl_500, kl_999, kl_2400, kl_2g, in_t, in_tt, in_f, in_ff, in_n, if_pos, if_neg, eq_self, nI_n1, n1_nI, nI_an1, lesser_n1, lesser_rn, lesser_n, kx_n1, cAc] at hc_; subst hc_; with_reducible refine Wp_bvs ?_) | (with_reducible refine Wp_t (by (first | (simp (disch := omega) only [L_0, L_1, L_2, L_3, L_4, L_5, L_6, L_7, L_8, L_9, L_10, L_11, L_12, L_16, L_18, L_20, L_24, L_25, L_30, L_32, L_38, L_40, L_48, L_50, L_60, L_63, L_64, L_72, L_99, L_100, L_160, L_500, L_999, L_1380, L_1400, L_2400, L_2401, L_60025, L_100000, L_1000000, L_100000000, L_2000000000, nI_add, pk_mul, nI_clamp, nI_leI, nI_ltI, nI_eq, kin_I, pk_sub, nI_m1, m1_nI, nI_am1, kx_max, kx_min, kt_tx, kt_rp, kg_si, kg_sl, kq_si, kq_sl, kv_si, kv_sl, Nat.reduceAdd, Nat.reduceMul, Nat.reduceSub, Nat.reduceEqDiff, Nat.reduceLT, Nat.reduceLeDiff, ne_eq, not_true_eq_false, not_false_eq_true, or_true, true_or, or_false, false_or, and_true, true_and, false_and, and_false, if_true, if_false, ite_true, ite_false, reduceIte, kl_0, kl_1, kl_2, kl_3, kl_6, kl_20, kl_50, kl_500, kl_999, kl_2400, kl_2g, in_t, in_tt, in_f, in_ff, in_n, if_pos, if_neg, eq_self, nI_n1, n1_nI, nI_an1, lesser_n1, lesser_rn, lesser_n, kx_n1, cAc]; done) | (simp (disch := omega) only [L_0, L_1, L_2, L_3, L_4, L_5, L_6, L_7, L_8, L_9, L_10, L_11, L_12, L_16, L_18, L_20, L_24, L_25, L_30, L_32, L_38, L_40, L_48, L_50, L_60, L_63, L_64, L_72, L_99, L_100, L_160, L_500, L_999, L_1380, L_1400, L_2400, L_2401, L_60025, L_100000, L_1000000, L_100000000, L_2000000000, nI_add, pk_mul, nI_clamp, nI_leI, nI_ltI, nI_eq, kin_I, pk_sub, nI_m1, m1_nI, nI_am1, kx_max, kx_min, kt_tx, kt_rp, kg_si, kg_sl, kq_si, kq_sl, kv_si, kv_sl, Nat.reduceAdd, Nat.reduceMul, Nat.reduceSub, Nat.reduceEqDiff, Nat.reduceLT, Nat.reduceLeDiff, ne_eq, not_true_eq_false, not_false_eq_true, or_true, true_or, or_false, false_or, and_true, true_and, false_and, and_false, if_true, if_false, ite_true, ite_false, reduceIte, kl_0, kl_1, kl_2, kl_3, kl_6, kl_20, kl_50, kl_500, kl_999, kl_2400, kl_2g, in_t, in_tt, in_f, in_ff, in_n, if_pos, if_neg, eq_self, nI_n1, n1_nI, nI_an1, lesser_n1, lesser_rn, lesser_n, kx_n1, cAc]; omega) | decide)) ?_) | (with_reducible refine Wp_f (by (first | (simp (disch := omega) only [L_0, L_1, L_2, L_3, L_4, L_5, L_6, L_7, L_8, L_9, L_10, L_11, L_12, L_16, L_18, L_20, L_24, L_25, L_30, L_32, L_38, L_40, L_48, L_50, L_60, L_63, L_64, L_72, L_99, L_100, L_160, L_500, L_999, L_1380, L_1400, L_2400, L_2401, L_60025, L_100000, L_1000000, L_100000000, L_2000000000, nI_add, pk_mul, nI_clamp, nI_leI, nI_ltI, nI_eq, kin_I, pk_sub, nI_m1, m1_nI, nI_am1, kx_max, kx_min, kt_tx, kt_rp, kg_si, kg_sl, kq_si, kq_sl, kv_si, kv_sl, Nat.reduceAdd, Nat.reduceMul, Nat.reduceSub, Nat.reduceEqDiff, Nat.reduceLT, Nat.reduceLeDiff, ne_eq, not_true_eq_false, not_false_eq_true, or_true, true_or, or_false, false_or, and_true, true_and, false_and, and_false, if_true, if_false, ite_true, ite_false, reduceIte, kl_0, kl_1, kl_2, kl_3, kl_6, kl_20, kl_50, kl_500, kl_999, kl_2400, kl_2g, in_t, in_tt, in_f, in_ff, in_n, if_pos, if_neg, eq_self, nI_n1, n1_nI, nI_an1, lesser_n1, lesser_rn, lesser_n, kx_n1, cAc]; done) | (simp (disch := omega) only [L_0, L_1, L_2, L_3, L_4, L_5, L_6, L_7, L_8, L_9, L_10, L_11, L_12, L_16, L_18, L_20, L_24, L_25, L_30, L_32, L_38, L_40, L_48, L_50, L_60, L_63, L_64, L_72, L_99, L_100, L_160, L_500, L_999, L_1380, L_1400, L_2400, L_2401, L_60025, L_100000, L_1000000, L_100000000, L_2000000000, nI_add, pk_mul, nI_clamp, nI_leI, nI_ltI, nI_eq, kin_I, pk_sub, nI_m1, m1_nI, nI_am1, kx_max, kx_min, kt_tx, kt_rp, kg_si, kg_sl, kq_si, kq_sl, kv_si, kv_sl, Nat.reduceAdd, Nat.reduceMul, Nat.reduceSub, Nat.reduceEqDiff, Nat.reduceLT, Nat.reduceLeDiff, ne_eq, not_true_eq_false, not_false_eq_true, or_true, true_or, or_false, false_or, and_true, true_and, false_and, and_false, if_true, if_false, ite_true, ite_false, reduceIte, kl_0, kl_1, kl_2, kl_3, kl_6, kl_20, kl_50, kl_500, kl_999, kl_2400, kl_2g, in_t, in_tt, in_f, in_ff, in_n, if_pos, if_neg, eq_self, nI_n1, n1_nI, nI_an1, lesser_n1, lesser_rn, lesser_n, kx_n1, cAc]; omega) | decide)) ?_))); try simp (disch := omega) only [nI_1, kt_rp, kt_tx]
  first | done | rfl
theorem full_f {M : kr_M} {G : GG} (hR : RG M G) (hV : GV G) (h : gAc G < 40) : f_X12_isFull M = some (0, M) := by
  apply Wp_eq
  obtain ⟨r0, rPl, rWe, rOd, rKi, rWo, rRo, rPe, rAc, rInc, rWa, rL, rMn, rW, rA, rB, rLd, rWg, rPc⟩ := hR
  obtain ⟨vLi, v0, vPl, vWe, vOd, vKi, vWo, vRo, vPe, vWt, vAc, vIn, vWa, vL, vMn, vW, vA, vB, vAB, vLd, vCr, vN, vK, vWg, vPc, vSt, vD⟩ := hV
  unfold f_X12_isFull
  (repeat (first | with_reducible refine Wp_some ?_ | (with_reducible refine Wp_letI ?_; intro v_ hv_; (try simp (disch := omega) only [L_0, L_1, L_2, L_3, L_4, L_5, L_6, L_7, L_8, L_9, L_10, L_11, L_12, L_16, L_18, L_20, L_24, L_25, L_30, L_32, L_38, L_40, L_48, L_50, L_60, L_63, L_64, L_72, L_99, L_100, L_160, L_500, L_999, L_1380, L_1400, L_2400, L_2401, L_60025, L_100000, L_1000000, L_100000000, L_2000000000, nI_add, pk_mul, nI_clamp, nI_leI, nI_ltI, nI_eq, kin_I, pk_sub, nI_m1, m1_nI, nI_am1, kx_max, kx_min, kt_tx, kt_rp, kg_si, kg_sl, kq_si, kq_sl, kv_si, kv_sl, Nat.reduceAdd, Nat.reduceMul, Nat.reduceSub, Nat.reduceEqDiff, Nat.reduceLT, Nat.reduceLeDiff, ne_eq, not_true_eq_false, not_false_eq_true, or_true, true_or, or_false, false_or, and_true, true_and, false_and, and_false, if_true, if_false, ite_true, ite_false, reduceIte, kl_0, kl_1, kl_2, kl_3, kl_6, kl_20, kl_50, kl_500, kl_999, kl_2400, kl_2g, in_t, in_tt, in_f, in_ff, in_n, if_pos, if_neg, eq_self, nI_n1, n1_nI, nI_an1, lesser_n1, lesser_rn, lesser_n, kx_n1, rAc] at hv_); subst hv_) | (with_reducible refine Wp_biI ?_; intro c_ hc_; simp (disch := omega) only [L_0, L_1, L_2, L_3, L_4, L_5, L_6, L_7, L_8, L_9, L_10, L_11, L_12, L_16, L_18, L_20, L_24, L_25, L_30, L_32, L_38, L_40, L_48, L_50, L_60, L_63, L_64, L_72, L_99, L_100, L_160, L_500, L_999, L_1380, L_1400, L_2400, L_2401, L_60025, L_100000, L_1000000, L_100000000, L_2000000000, nI_add, pk_mul, nI_clamp, nI_leI, nI_ltI, nI_eq, kin_I, pk_sub, nI_m1, m1_nI, nI_am1, kx_max, kx_min, kt_tx, kt_rp, kg_si, kg_sl, kq_si, kq_sl, kv_si, kv_sl, Nat.reduceAdd, Nat.reduceMul, Nat.reduceSub, Nat.reduceEqDiff, Nat.reduceLT, Nat.reduceLeDiff, ne_eq, not_true_eq_false, not_false_eq_true, or_true, true_or, or_false, false_or, and_true, true_and, false_and, and_false, if_true, if_false, ite_true, ite_false, reduceIte, kl_0, kl_1, kl_2, kl_3, kl_6, kl_20, kl_50, kl_500, kl_999, kl_2400, kl_2g, in_t, in_tt, in_f, in_ff, in_n, if_pos, if_neg, eq_self, nI_n1, n1_nI, nI_an1, lesser_n1, lesser_rn, lesser_n, kx_n1, rAc] at hc_; subst hc_; with_reducible refine Wp_bis ?_) | (with_reducible refine Wp_bvI ?_; intro c_ hc_; simp (disch := omega) only [L_0, L_1, L_2, L_3, L_4, L_5, L_6, L_7, L_8, L_9, L_10, L_11, L_12, L_16, L_18, L_20, L_24, L_25, L_30, L_32, L_38, L_40, L_48, L_50, L_60, L_63, L_64, L_72, L_99, L_100, L_160, L_500, L_999, L_1380, L_1400, L_2400, L_2401, L_60025, L_100000, L_1000000, L_100000000, L_2000000000, nI_add, pk_mul, nI_clamp, nI_leI, nI_ltI, nI_eq, kin_I, pk_sub, nI_m1, m1_nI, nI_am1, kx_max, kx_min, kt_tx, kt_rp, kg_si, kg_sl, kq_si, kq_sl, kv_si, kv_sl, Nat.reduceAdd, Nat.reduceMul, Nat.reduceSub, Nat.reduceEqDiff, Nat.reduceLT, Nat.reduceLeDiff, ne_eq, not_true_eq_false, not_false_eq_true, or_true, true_or, or_false, false_or, and_true, true_and, false_and, and_false, if_true, if_false, ite_true, ite_false, reduceIte, kl_0, kl_1, kl_2, kl_3, kl_6, kl_20, kl_50, kl_500, kl_999, kl_2400, kl_2g, in_t, in_tt, in_f, in_ff, in_n, if_pos, if_neg, eq_self, nI_n1, n1_nI, nI_an1, lesser_n1, lesser_rn, lesser_n, kx_n1, rAc] at hc_; subst hc_; with_reducible refine Wp_bvs ?_) | (with_reducible refine Wp_t (by (first | (simp (disch := omega) only [L_0, L_1, L_2, L_3, L_4, L_5, L_6, L_7, L_8, L_9, L_10, L_11, L_12, L_16, L_18, L_20, L_24, L_25, L_30, L_32, L_38, L_40, L_48, L_50, L_60, L_63, L_64, L_72, L_99, L_100, L_160, L_500, L_999, L_1380, L_1400, L_2400, L_2401, L_60025, L_100000, L_1000000, L_100000000, L_2000000000, nI_add, pk_mul, nI_clamp, nI_leI, nI_ltI, nI_eq, kin_I, pk_sub, nI_m1, m1_nI, nI_am1, kx_max, kx_min, kt_tx, kt_rp, kg_si, kg_sl, kq_si, kq_sl, kv_si, kv_sl, Nat.reduceAdd, Nat.reduceMul, Nat.reduceSub, Nat.reduceEqDiff, Nat.reduceLT, Nat.reduceLeDiff, ne_eq, not_true_eq_false, not_false_eq_true, or_true, true_or, or_false, false_or, and_true, true_and, false_and, and_false, if_true, if_false, ite_true, ite_false, reduceIte, kl_0, kl_1, kl_2, kl_3, kl_6, kl_20, kl_50, kl_500, kl_999, kl_2400, kl_2g, in_t, in_tt, in_f, in_ff, in_n, if_pos, if_neg, eq_self, nI_n1, n1_nI, nI_an1, lesser_n1, lesser_rn, lesser_n, kx_n1, rAc]; done) | (simp (disch := omega) only [L_0, L_1, L_2, L_3, L_4, L_5, L_6, L_7, L_8, L_9, L_10, L_11, L_12, L_16, L_18, L_20, L_24, L_25, L_30, L_32, L_38, L_40, L_48, L_50, L_60, L_63, L_64, L_72, L_99, L_100, L_160, L_500, L_999, L_1380, L_1400, L_2400, L_2401, L_60025, L_100000, L_1000000, L_100000000, L_2000000000, nI_add, pk_mul, nI_clamp, nI_leI, nI_ltI, nI_eq, kin_I, pk_sub, nI_m1, m1_nI, nI_am1, kx_max, kx_min, kt_tx, kt_rp, kg_si, kg_sl, kq_si, kq_sl, kv_si, kv_sl, Nat.reduceAdd, Nat.reduceMul, Nat.reduceSub, Nat.reduceEqDiff, Nat.reduceLT, Nat.reduceLeDiff, ne_eq, not_true_eq_false, not_false_eq_true, or_true, true_or, or_false, false_or, and_true, true_and, false_and, and_false, if_true, if_false, ite_true, ite_false, reduceIte, kl_0, kl_1, kl_2, kl_3, kl_6, kl_20, kl_50, kl_500, kl_999, kl_2400, kl_2g, in_t, in_tt, in_f, in_ff, in_n, if_pos, if_neg, eq_self, nI_n1, n1_nI, nI_an1, lesser_n1, lesser_rn, lesser_n, kx_n1, rAc]; omega) | decide)) ?_) | (with_reducible refine Wp_f (by (first | (simp (disch := omega) only [L_0, L_1, L_2, L_3, L_4, L_5, L_6, L_7, L_8, L_9, L_10, L_11, L_12, L_16, L_18, L_20, L_24, L_25, L_30, L_32, L_38, L_40, L_48, L_50, L_60, L_63, L_64, L_72, L_99, L_100, L_160, L_500, L_999, L_1380, L_1400, L_2400, L_2401, L_60025, L_100000, L_1000000, L_100000000, L_2000000000, nI_add, pk_mul, nI_clamp, nI_leI, nI_ltI, nI_eq, kin_I, pk_sub, nI_m1, m1_nI, nI_am1, kx_max, kx_min, kt_tx, kt_rp, kg_si, kg_sl, kq_si, kq_sl, kv_si, kv_sl, Nat.reduceAdd, Nat.reduceMul, Nat.reduceSub, Nat.reduceEqDiff, Nat.reduceLT, Nat.reduceLeDiff, ne_eq, not_true_eq_false, not_false_eq_true, or_true, true_or, or_false, false_or, and_true, true_and, false_and, and_false, if_true, if_false, ite_true, ite_false, reduceIte, kl_0, kl_1, kl_2, kl_3, kl_6, kl_20, kl_50, kl_500, kl_999, kl_2400, kl_2g, in_t, in_tt, in_f, in_ff, in_n, if_pos, if_neg, eq_self, nI_n1, n1_nI, nI_an1, lesser_n1, lesser_rn, lesser_n, kx_n1, rAc]; done) | (simp (disch := omega) only [L_0, L_1, L_2, L_3, L_4, L_5, L_6, L_7, L_8, L_9, L_10, L_11, L_12, L_16, L_18, L_20, L_24, L_25, L_30, L_32, L_38, L_40, L_48, L_50, L_60, L_63, L_64, L_72, L_99, L_100, L_160, L_500, L_999, L_1380, L_1400, L_2400, L_2401, L_60025, L_100000, L_1000000, L_100000000, L_2000000000, nI_add, pk_mul, nI_clamp, nI_leI, nI_ltI, nI_eq, kin_I, pk_sub, nI_m1, m1_nI, nI_am1, kx_max, kx_min, kt_tx, kt_rp, kg_si, kg_sl, kq_si, kq_sl, kv_si, kv_sl, Nat.reduceAdd, Nat.reduceMul, Nat.reduceSub, Nat.reduceEqDiff, Nat.reduceLT, Nat.reduceLeDiff, ne_eq, not_true_eq_false, not_false_eq_true, or_true, true_or, or_false, false_or, and_true, true_and, false_and, and_false, if_true, if_false, ite_true, ite_false, reduceIte, kl_0, kl_1, kl_2, kl_3, kl_6, kl_20, kl_50, kl_500, kl_999, kl_2400, kl_2g, in_t, in_tt, in_f, in_ff, in_n, if_pos, if_neg, eq_self, nI_n1, n1_nI, nI_an1, lesser_n1, lesser_rn, lesser_n, kx_n1, rAc]; omega) | decide)) ?_))); try simp (disch := omega) only [nI_1, kt_rp, kt_tx]
  first | done | rfl
theorem full_t {M : kr_M} {G : GG} (hR : RG M G) (hV : GV G) (h : ¬ gAc G < 40) : f_X12_isFull M = some (1, M) := by
  apply Wp_eq
  obtain ⟨r0, rPl, rWe, rOd, rKi, rWo, rRo, rPe, rAc, rInc, rWa, rL, rMn, rW, rA, rB, rLd, rWg, rPc⟩ := hR
  obtain ⟨vLi, v0, vPl, vWe, vOd, vKi, vWo, vRo, vPe, vWt, vAc, vIn, vWa, vL, vMn, vW, vA, vB, vAB, vLd, vCr, vN, vK, vWg, vPc, vSt, vD⟩ := hV
  unfold f_X12_isFull
  have e : gAc G = 40 := by omega
  (repeat (first | with_reducible refine Wp_some ?_ | (with_reducible refine Wp_letI ?_; intro v_ hv_; (try simp (disch := omega) only [L_0, L_1, L_2, L_3, L_4, L_5, L_6, L_7, L_8, L_9, L_10, L_11, L_12, L_16, L_18, L_20, L_24, L_25, L_30, L_32, L_38, L_40, L_48, L_50, L_60, L_63, L_64, L_72, L_99, L_100, L_160, L_500, L_999, L_1380, L_1400, L_2400, L_2401, L_60025, L_100000, L_1000000, L_100000000, L_2000000000, nI_add, pk_mul, nI_clamp, nI_leI, nI_ltI, nI_eq, kin_I, pk_sub, nI_m1, m1_nI, nI_am1, kx_max, kx_min, kt_tx, kt_rp, kg_si, kg_sl, kq_si, kq_sl, kv_si, kv_sl, Nat.reduceAdd, Nat.reduceMul, Nat.reduceSub, Nat.reduceEqDiff, Nat.reduceLT, Nat.reduceLeDiff, ne_eq, not_true_eq_false, not_false_eq_true, or_true, true_or, or_false, false_or, and_true, true_and, false_and, and_false, if_true, if_false, ite_true, ite_false, reduceIte, kl_0, kl_1, kl_2, kl_3, kl_6, kl_20, kl_50, kl_500, kl_999, kl_2400, kl_2g, in_t, in_tt, in_f, in_ff, in_n, if_pos, if_neg, eq_self, nI_n1, n1_nI, nI_an1, lesser_n1, lesser_rn, lesser_n, kx_n1, rAc, e] at hv_); subst hv_) | (with_reducible refine Wp_biI ?_; intro c_ hc_; simp (disch := omega) only [L_0, L_1, L_2, L_3, L_4, L_5, L_6, L_7, L_8, L_9, L_10, L_11, L_12, L_16, L_18, L_20, L_24, L_25, L_30, L_32, L_38, L_40, L_48, L_50, L_60, L_63, L_64, L_72, L_99, L_100, L_160, L_500, L_999, L_1380, L_1400, L_2400, L_2401, L_60025, L_100000, L_1000000, L_100000000, L_2000000000, nI_add, pk_mul, nI_clamp, nI_leI, nI_ltI, nI_eq, kin_I, pk_sub, nI_m1, m1_nI, nI_am1, kx_max, kx_min, kt_tx, kt_rp, kg_si, kg_sl, kq_si, kq_sl, kv_si, kv_sl, Nat.reduceAdd, Nat.reduceMul, Nat.reduceSub, Nat.reduceEqDiff, Nat.reduceLT, Nat.reduceLeDiff, ne_eq, not_true_eq_false, not_false_eq_true, or_true, true_or, or_false, false_or, and_true, true_and, false_and, and_false, if_true, if_false, ite_true, ite_false, reduceIte, kl_0, kl_1, kl_2, kl_3, kl_6, kl_20, kl_50, kl_500, kl_999, kl_2400, kl_2g, in_t, in_tt, in_f, in_ff, in_n, if_pos, if_neg, eq_self, nI_n1, n1_nI, nI_an1, lesser_n1, lesser_rn, lesser_n, kx_n1, rAc, e] at hc_; subst hc_; with_reducible refine Wp_bis ?_) | (with_reducible refine Wp_bvI ?_; intro c_ hc_; simp (disch := omega) only [L_0, L_1, L_2, L_3, L_4, L_5, L_6, L_7, L_8, L_9, L_10, L_11, L_12, L_16, L_18, L_20, L_24, L_25, L_30, L_32, L_38, L_40, L_48, L_50, L_60, L_63, L_64, L_72, L_99, L_100, L_160, L_500, L_999, L_1380, L_1400, L_2400, L_2401, L_60025, L_100000, L_1000000, L_100000000, L_2000000000, nI_add, pk_mul, nI_clamp, nI_leI, nI_ltI, nI_eq, kin_I, pk_sub, nI_m1, m1_nI, nI_am1, kx_max, kx_min, kt_tx, kt_rp, kg_si, kg_sl, kq_si, kq_sl, kv_si, kv_sl, Nat.reduceAdd, Nat.reduceMul, Nat.reduceSub, Nat.reduceEqDiff, Nat.reduceLT, Nat.reduceLeDiff, ne_eq, not_true_eq_false, not_false_eq_true, or_true, true_or, or_false, false_or, and_true, true_and, false_and, and_false, if_true, if_false, ite_true, ite_false, reduceIte, kl_0, kl_1, kl_2, kl_3, kl_6, kl_20, kl_50, kl_500, kl_999, kl_2400, kl_2g, in_t, in_tt, in_f, in_ff, in_n, if_pos, if_neg, eq_self, nI_n1, n1_nI, nI_an1, lesser_n1, lesser_rn, lesser_n, kx_n1, rAc, e] at hc_; subst hc_; with_reducible refine Wp_bvs ?_) | (with_reducible refine Wp_t (by (first | (simp (disch := omega) only [L_0, L_1, L_2, L_3, L_4, L_5, L_6, L_7, L_8, L_9, L_10, L_11, L_12, L_16, L_18, L_20, L_24, L_25, L_30, L_32, L_38, L_40, L_48, L_50, L_60, L_63, L_64, L_72, L_99, L_100, L_160, L_500, L_999, L_1380, L_1400, L_2400, L_2401, L_60025, L_100000, L_1000000, L_100000000, L_2000000000, nI_add, pk_mul, nI_clamp, nI_leI, nI_ltI, nI_eq, kin_I, pk_sub, nI_m1, m1_nI, nI_am1, kx_max, kx_min, kt_tx, kt_rp, kg_si, kg_sl, kq_si, kq_sl, kv_si, kv_sl, Nat.reduceAdd, Nat.reduceMul, Nat.reduceSub, Nat.reduceEqDiff, Nat.reduceLT, Nat.reduceLeDiff, ne_eq, not_true_eq_false, not_false_eq_true, or_true, true_or, or_false, false_or, and_true, true_and, false_and, and_false, if_true, if_false, ite_true, ite_false, reduceIte, kl_0, kl_1, kl_2, kl_3, kl_6, kl_20, kl_50, kl_500, kl_999, kl_2400, kl_2g, in_t, in_tt, in_f, in_ff, in_n, if_pos, if_neg, eq_self, nI_n1, n1_nI, nI_an1, lesser_n1, lesser_rn, lesser_n, kx_n1, rAc, e]; done) | (simp (disch := omega) only [L_0, L_1, L_2, L_3, L_4, L_5, L_6, L_7, L_8, L_9, L_10, L_11, L_12, L_16, L_18, L_20, L_24, L_25, L_30, L_32, L_38, L_40, L_48, L_50, L_60, L_63, L_64, L_72, L_99, L_100, L_160, L_500, L_999, L_1380, L_1400, L_2400, L_2401, L_60025, L_100000, L_1000000, L_100000000, L_2000000000, nI_add, pk_mul, nI_clamp, nI_leI, nI_ltI, nI_eq, kin_I, pk_sub, nI_m1, m1_nI, nI_am1, kx_max, kx_min, kt_tx, kt_rp, kg_si, kg_sl, kq_si, kq_sl, kv_si, kv_sl, Nat.reduceAdd, Nat.reduceMul, Nat.reduceSub, Nat.reduceEqDiff, Nat.reduceLT, Nat.reduceLeDiff, ne_eq, not_true_eq_false, not_false_eq_true, or_true, true_or, or_false, false_or, and_true, true_and, false_and, and_false, if_true, if_false, ite_true, ite_false, reduceIte, kl_0, kl_1, kl_2, kl_3, kl_6, kl_20, kl_50, kl_500, kl_999, kl_2400, kl_2g, in_t, in_tt, in_f, in_ff, in_n, if_pos, if_neg, eq_self, nI_n1, n1_nI, nI_an1, lesser_n1, lesser_rn, lesser_n, kx_n1, rAc, e]; omega) | decide)) ?_) | (with_reducible refine Wp_f (by (first | (simp (disch := omega) only [L_0, L_1, L_2, L_3, L_4, L_5, L_6, L_7, L_8, L_9, L_10, L_11, L_12, L_16, L_18, L_20, L_24, L_25, L_30, L_32, L_38, L_40, L_48, L_50, L_60, L_63, L_64, L_72, L_99, L_100, L_160, L_500, L_999, L_1380, L_1400, L_2400, L_2401, L_60025, L_100000, L_1000000, L_100000000, L_2000000000, nI_add, pk_mul, nI_clamp, nI_leI, nI_ltI, nI_eq, kin_I, pk_sub, nI_m1, m1_nI, nI_am1, kx_max, kx_min, kt_tx, kt_rp, kg_si, kg_sl, kq_si, kq_sl, kv_si, kv_sl, Nat.reduceAdd, Nat.reduceMul, Nat.reduceSub, Nat.reduceEqDiff, Nat.reduceLT, Nat.reduceLeDiff, ne_eq, not_true_eq_false, not_false_eq_true, or_true, true_or, or_false, false_or, and_true, true_and, false_and, and_false, if_true, if_false, ite_true, ite_false, reduceIte, kl_0, kl_1, kl_2, kl_3, kl_6, kl_20, kl_50, kl_500, kl_999, kl_2400, kl_2g, in_t, in_tt, in_f, in_ff, in_n, if_pos, if_neg, eq_self, nI_n1, n1_nI, nI_an1, lesser_n1, lesser_rn, lesser_n, kx_n1, rAc, e]; done) | (simp (disch := omega) only [L_0, L_1, L_2, L_3, L_4, L_5, L_6, L_7, L_8, L_9, L_10, L_11, L_12, L_16, L_18, L_20, L_24, L_25, L_30, L_32, L_38, L_40, L_48, L_50, L_60, L_63, L_64, L_72, L_99, L_100, L_160, L_500, L_999, L_1380, L_1400, L_2400, L_2401, L_60025, L_100000, L_1000000, L_100000000, L_2000000000, nI_add, pk_mul, nI_clamp, nI_leI, nI_ltI, nI_eq, kin_I, pk_sub, nI_m1, m1_nI, nI_am1, kx_max, kx_min, kt_tx, kt_rp, kg_si, kg_sl, kq_si, kq_sl, kv_si, kv_sl, Nat.reduceAdd, Nat.reduceMul, Nat.reduceSub, Nat.reduceEqDiff, Nat.reduceLT, Nat.reduceLeDiff, ne_eq, not_true_eq_false, not_false_eq_true, or_true, true_or, or_false, false_or, and_true, true_and, false_and, and_false, if_true, if_false, ite_true, ite_false, reduceIte, kl_0, kl_1, kl_2, kl_3, kl_6, kl_20, kl_50, kl_500, kl_999, kl_2400, kl_2g, in_t, in_tt, in_f, in_ff, in_n, if_pos, if_neg, eq_self, nI_n1, n1_nI, nI_an1, lesser_n1, lesser_rn, lesser_n, kx_n1, rAc, e]; omega) | decide)) ?_))); try simp (disch := omega) only [nI_1, kt_rp, kt_tx]
  first | done | rfl
/-- what an act leaves on the class's side -/
def AC (M : kr_M) (g : Nat) (G : GG) (d0 d1 d2 d3 : Int32) (M1 : kr_M) : Prop := CP (dM M g (gAc G) d0 d1 d2 d3) g M1 (rp_1 (dM M g (gAc G) d0 d1 d2 d3) g (rp_n M g (gAc G)) (gAc G)) ∧ Fx (pS g) (dM M g (gAc G) d0 d1 d2 d3) M1
theorem act_ok {M : kr_M} {g : Nat} {G : GG} (hK : KS M g G) (h40 : gAc G < 40) {d0 d1 d2 d3 : Int32} (hv : rp_v (dM M g (gAc G) d0 d1 d2 d3) g (rp_n M g (gAc G)) (gAc G)) : Wp (f_X2_act g d0 d1 d2 d3 M) (AC M g G d0 d1 d2 d3) := by
  have hg := hK.g36
  have hS := hK.gs
  have hB := rp_ok hS.2.1
  have hP := CP_of hK
  have hC := hK.C
  have hC' := hC
  have hV := hK.V
  have hV' := hV
  obtain ⟨c0, cPl, cWe, cOd, cKi, cWo, cRo, cPe, cWt, cAc, cIn, cWa, cL, cMn, cW, cA, cB, cLd, cCr, cN, cK, cWg, cPc, cSt⟩ := hC'
  obtain ⟨vLi, v0, vPl, vWe, vOd, vKi, vWo, vRo, vPe, vWt, vAc, vIn, vWa, vL, vMn, vW, vA, vB, vAB, vLd, vCr, vN, vK, vWg, vPc, vSt, vD⟩ := hV'
  have z6 : zn (M.1 g 6) = gRo G := by rw [cRo, zn_nI (by omega)]
  have z7 : zn (M.1 g 7) = gPe G := by rw [cPe, zn_nI (by omega)]
  have z9 : zn (M.1 g 9) = gAc G := by rw [cAc, zn_nI (by omega)]
  have ne := dM_ne M g (gAc G) d0 d1 d2 d3
  have ex : (dM M g (gAc G) d0 d1 d2 d3) = kr_si (kr_si (kr_si (kr_si (kr_si M (g + 10) (4 * (gAc G)) d0) (g + 10) (4 * (gAc G) + 1) d1) (g + 10) (4 * (gAc G) + 2) d2) (g + 10) (4 * (gAc G) + 3) d3) g 9 (nI (gAc G + 1)) := rfl
  unfold AC
  generalize dM M g (gAc G) d0 d1 d2 d3 = D at hv ne ex
  have y6 : D.1 g 6 = M.1 g 6 := ne _ _ (by omega) (by omega)
  have y7 : D.1 g 7 = M.1 g 7 := ne _ _ (by omega) (by omega)
  have y4 : D.1 g 4 = M.1 g 4 := ne _ _ (by omega) (by omega)
  have y1 : D.1 g 1 = M.1 g 1 := ne _ _ (by omega) (by omega)
  have hBD : rp_B D g (gAc G) (rp_n M g (gAc G)) := by
    have := hB (gAc G) (by omega)
    unfold rp_B at this ⊢
    rw [y6, y7, y4, y1]
    exact this
  have hPD : CP D g D (rp_n M g (gAc G)) := by
    obtain ⟨c1, c2, c3⟩ := hP
    unfold CP
    rw [y6, y7]
    refine ⟨fun r hr => ?_, fun p hp => ?_, by rw [ne _ _ (by omega) (by omega)]; exact c3⟩
    · obtain ⟨e1, e2, e3⟩ := c1 r hr
      exact ⟨by rw [ne _ _ (by omega) (by omega)]; exact e1, by rw [ne _ _ (by omega) (by omega)]; exact e2, fun i hi => by rw [ne _ _ (by omega) (by omega)]; exact e3 i hi⟩
    · rw [ne _ _ (by omega) (by omega)]; exact c2 p hp
  have key := carry_ok (B := D) (Mc := D) hg (by rw [y6, cRo, kz_nI (by omega)]; omega) (by rw [y7, cPe, kz_nI (by omega)]; omega) hBD hv h40 hPD (Fx.refl D)
  unfold f_X2_act
  (repeat (first | with_reducible refine Wp_some ?_ | (with_reducible refine Wp_letI ?_; intro v_ hv_; (try simp (disch := omega) only [L_0, L_1, L_2, L_3, L_4, L_5, L_6, L_7, L_8, L_9, L_10, L_11, L_12, L_16, L_18, L_20, L_24, L_25, L_30, L_32, L_38, L_40, L_48, L_50, L_60, L_63, L_64, L_72, L_99, L_100, L_160, L_500, L_999, L_1380, L_1400, L_2400, L_2401, L_60025, L_100000, L_1000000, L_100000000, L_2000000000, nI_add, pk_mul, nI_clamp, nI_leI, nI_ltI, nI_eq, kin_I, pk_sub, nI_m1, m1_nI, nI_am1, kx_max, kx_min, kt_tx, kt_rp, kg_si, kg_sl, kq_si, kq_sl, kv_si, kv_sl, Nat.reduceAdd, Nat.reduceMul, Nat.reduceSub, Nat.reduceEqDiff, Nat.reduceLT, Nat.reduceLeDiff, ne_eq, not_true_eq_false, not_false_eq_true, or_true, true_or, or_false, false_or, and_true, true_and, false_and, and_false, if_true, if_false, ite_true, ite_false, reduceIte, kl_0, kl_1, kl_2, kl_3, kl_6, kl_20, kl_50, kl_500, kl_999, kl_2400, kl_2g, in_t, in_tt, in_f, in_ff, in_n, if_pos, if_neg, eq_self, nI_n1, n1_nI, nI_an1, lesser_n1, lesser_rn, lesser_n, kx_n1, tired_f hC hV h40, cAc] at hv_); subst hv_) | (with_reducible refine Wp_biI ?_; intro c_ hc_; simp (disch := omega) only [L_0, L_1, L_2, L_3, L_4, L_5, L_6, L_7, L_8, L_9, L_10, L_11, L_12, L_16, L_18, L_20, L_24, L_25, L_30, L_32, L_38, L_40, L_48, L_50, L_60, L_63, L_64, L_72, L_99, L_100, L_160, L_500, L_999, L_1380, L_1400, L_2400, L_2401, L_60025, L_100000, L_1000000, L_100000000, L_2000000000, nI_add, pk_mul, nI_clamp, nI_leI, nI_ltI, nI_eq, kin_I, pk_sub, nI_m1, m1_nI, nI_am1, kx_max, kx_min, kt_tx, kt_rp, kg_si, kg_sl, kq_si, kq_sl, kv_si, kv_sl, Nat.reduceAdd, Nat.reduceMul, Nat.reduceSub, Nat.reduceEqDiff, Nat.reduceLT, Nat.reduceLeDiff, ne_eq, not_true_eq_false, not_false_eq_true, or_true, true_or, or_false, false_or, and_true, true_and, false_and, and_false, if_true, if_false, ite_true, ite_false, reduceIte, kl_0, kl_1, kl_2, kl_3, kl_6, kl_20, kl_50, kl_500, kl_999, kl_2400, kl_2g, in_t, in_tt, in_f, in_ff, in_n, if_pos, if_neg, eq_self, nI_n1, n1_nI, nI_an1, lesser_n1, lesser_rn, lesser_n, kx_n1, tired_f hC hV h40, cAc] at hc_; subst hc_; with_reducible refine Wp_bis ?_) | (with_reducible refine Wp_bvI ?_; intro c_ hc_; simp (disch := omega) only [L_0, L_1, L_2, L_3, L_4, L_5, L_6, L_7, L_8, L_9, L_10, L_11, L_12, L_16, L_18, L_20, L_24, L_25, L_30, L_32, L_38, L_40, L_48, L_50, L_60, L_63, L_64, L_72, L_99, L_100, L_160, L_500, L_999, L_1380, L_1400, L_2400, L_2401, L_60025, L_100000, L_1000000, L_100000000, L_2000000000, nI_add, pk_mul, nI_clamp, nI_leI, nI_ltI, nI_eq, kin_I, pk_sub, nI_m1, m1_nI, nI_am1, kx_max, kx_min, kt_tx, kt_rp, kg_si, kg_sl, kq_si, kq_sl, kv_si, kv_sl, Nat.reduceAdd, Nat.reduceMul, Nat.reduceSub, Nat.reduceEqDiff, Nat.reduceLT, Nat.reduceLeDiff, ne_eq, not_true_eq_false, not_false_eq_true, or_true, true_or, or_false, false_or, and_true, true_and, false_and, and_false, if_true, if_false, ite_true, ite_false, reduceIte, kl_0, kl_1, kl_2, kl_3, kl_6, kl_20, kl_50, kl_500, kl_999, kl_2400, kl_2g, in_t, in_tt, in_f, in_ff, in_n, if_pos, if_neg, eq_self, nI_n1, n1_nI, nI_an1, lesser_n1, lesser_rn, lesser_n, kx_n1, tired_f hC hV h40, cAc] at hc_; subst hc_; with_reducible refine Wp_bvs ?_) | (with_reducible refine Wp_t (by (first | (simp (disch := omega) only [L_0, L_1, L_2, L_3, L_4, L_5, L_6, L_7, L_8, L_9, L_10, L_11, L_12, L_16, L_18, L_20, L_24, L_25, L_30, L_32, L_38, L_40, L_48, L_50, L_60, L_63, L_64, L_72, L_99, L_100, L_160, L_500, L_999, L_1380, L_1400, L_2400, L_2401, L_60025, L_100000, L_1000000, L_100000000, L_2000000000, nI_add, pk_mul, nI_clamp, nI_leI, nI_ltI, nI_eq, kin_I, pk_sub, nI_m1, m1_nI, nI_am1, kx_max, kx_min, kt_tx, kt_rp, kg_si, kg_sl, kq_si, kq_sl, kv_si, kv_sl, Nat.reduceAdd, Nat.reduceMul, Nat.reduceSub, Nat.reduceEqDiff, Nat.reduceLT, Nat.reduceLeDiff, ne_eq, not_true_eq_false, not_false_eq_true, or_true, true_or, or_false, false_or, and_true, true_and, false_and, and_false, if_true, if_false, ite_true, ite_false, reduceIte, kl_0, kl_1, kl_2, kl_3, kl_6, kl_20, kl_50, kl_500, kl_999, kl_2400, kl_2g, in_t, in_tt, in_f, in_ff, in_n, if_pos, if_neg, eq_self, nI_n1, n1_nI, nI_an1, lesser_n1, lesser_rn, lesser_n, kx_n1, tired_f hC hV h40, cAc]; done) | (simp (disch := omega) only [L_0, L_1, L_2, L_3, L_4, L_5, L_6, L_7, L_8, L_9, L_10, L_11, L_12, L_16, L_18, L_20, L_24, L_25, L_30, L_32, L_38, L_40, L_48, L_50, L_60, L_63, L_64, L_72, L_99, L_100, L_160, L_500, L_999, L_1380, L_1400, L_2400, L_2401, L_60025, L_100000, L_1000000, L_100000000, L_2000000000, nI_add, pk_mul, nI_clamp, nI_leI, nI_ltI, nI_eq, kin_I, pk_sub, nI_m1, m1_nI, nI_am1, kx_max, kx_min, kt_tx, kt_rp, kg_si, kg_sl, kq_si, kq_sl, kv_si, kv_sl, Nat.reduceAdd, Nat.reduceMul, Nat.reduceSub, Nat.reduceEqDiff, Nat.reduceLT, Nat.reduceLeDiff, ne_eq, not_true_eq_false, not_false_eq_true, or_true, true_or, or_false, false_or, and_true, true_and, false_and, and_false, if_true, if_false, ite_true, ite_false, reduceIte, kl_0, kl_1, kl_2, kl_3, kl_6, kl_20, kl_50, kl_500, kl_999, kl_2400, kl_2g, in_t, in_tt, in_f, in_ff, in_n, if_pos, if_neg, eq_self, nI_n1, n1_nI, nI_an1, lesser_n1, lesser_rn, lesser_n, kx_n1, tired_f hC hV h40, cAc]; omega) | decide)) ?_) | (with_reducible refine Wp_f (by (first | (simp (disch := omega) only [L_0, L_1, L_2, L_3, L_4, L_5, L_6, L_7, L_8, L_9, L_10, L_11, L_12, L_16, L_18, L_20, L_24, L_25, L_30, L_32, L_38, L_40, L_48, L_50, L_60, L_63, L_64, L_72, L_99, L_100, L_160, L_500, L_999, L_1380, L_1400, L_2400, L_2401, L_60025, L_100000, L_1000000, L_100000000, L_2000000000, nI_add, pk_mul, nI_clamp, nI_leI, nI_ltI, nI_eq, kin_I, pk_sub, nI_m1, m1_nI, nI_am1, kx_max, kx_min, kt_tx, kt_rp, kg_si, kg_sl, kq_si, kq_sl, kv_si, kv_sl, Nat.reduceAdd, Nat.reduceMul, Nat.reduceSub, Nat.reduceEqDiff, Nat.reduceLT, Nat.reduceLeDiff, ne_eq, not_true_eq_false, not_false_eq_true, or_true, true_or, or_false, false_or, and_true, true_and, false_and, and_false, if_true, if_false, ite_true, ite_false, reduceIte, kl_0, kl_1, kl_2, kl_3, kl_6, kl_20, kl_50, kl_500, kl_999, kl_2400, kl_2g, in_t, in_tt, in_f, in_ff, in_n, if_pos, if_neg, eq_self, nI_n1, n1_nI, nI_an1, lesser_n1, lesser_rn, lesser_n, kx_n1, tired_f hC hV h40, cAc]; done) | (simp (disch := omega) only [L_0, L_1, L_2, L_3, L_4, L_5, L_6, L_7, L_8, L_9, L_10, L_11, L_12, L_16, L_18, L_20, L_24, L_25, L_30, L_32, L_38, L_40, L_48, L_50, L_60, L_63, L_64, L_72, L_99, L_100, L_160, L_500, L_999, L_1380, L_1400, L_2400, L_2401, L_60025, L_100000, L_1000000, L_100000000, L_2000000000, nI_add, pk_mul, nI_clamp, nI_leI, nI_ltI, nI_eq, kin_I, pk_sub, nI_m1, m1_nI, nI_am1, kx_max, kx_min, kt_tx, kt_rp, kg_si, kg_sl, kq_si, kq_sl, kv_si, kv_sl, Nat.reduceAdd, Nat.reduceMul, Nat.reduceSub, Nat.reduceEqDiff, Nat.reduceLT, Nat.reduceLeDiff, ne_eq, not_true_eq_false, not_false_eq_true, or_true, true_or, or_false, false_or, and_true, true_and, false_and, and_false, if_true, if_false, ite_true, ite_false, reduceIte, kl_0, kl_1, kl_2, kl_3, kl_6, kl_20, kl_50, kl_500, kl_999, kl_2400, kl_2g, in_t, in_tt, in_f, in_ff, in_n, if_pos, if_neg, eq_self, nI_n1, n1_nI, nI_an1, lesser_n1, lesser_rn, lesser_n, kx_n1, tired_f hC hV h40, cAc]; omega) | decide)) ?_))); try simp (disch := omega) only [nI_1, kt_rp, kt_tx]
  rw [← ex]
  exact Wp_bv _ key (fun M' hM' => Wp_some hM')
def eM (M : kr_M) (k : Nat) (d0 d1 d2 d3 : Int32) : kr_M := kr_si (kr_si (kr_si (kr_si (kr_si M 362 (4 * k) d0) 362 (4 * k + 1) d1) 362 (4 * k + 2) d2) 362 (4 * k + 3) d3) 353 7 (nI (k + 1))
theorem eM_ne (M : kr_M) (k : Nat) (d0 d1 d2 d3 : Int32) (a j : Nat) (h : ¬ (a = 353 ∧ j = 7)) (h2 : ¬ (a = 362 ∧ 4 * k ≤ j ∧ j < 4 * k + 4)) : (eM M k d0 d1 d2 d3).1 a j = M.1 a j := by
  unfold eM
  rw [kg_si, if_neg h, kg_si, if_neg (by omega), kg_si, if_neg (by omega), kg_si, if_neg (by omega), kg_si, if_neg (by omega)]
theorem eM_d (M : kr_M) (k : Nat) (d0 d1 d2 d3 : Int32) : (eM M k d0 d1 d2 d3).1 362 (4 * k) = d0 ∧ (eM M k d0 d1 d2 d3).1 362 (4 * k + 1) = d1 ∧ (eM M k d0 d1 d2 d3).1 362 (4 * k + 2) = d2 ∧ (eM M k d0 d1 d2 d3).1 362 (4 * k + 3) = d3 := by
  unfold eM
  refine ⟨?_, ?_, ?_, ?_⟩
  · rw [kg_si, if_neg (by omega), kg_si, if_neg (by omega), kg_si, if_neg (by omega), kg_si, if_neg (by omega), kg_si, if_pos (by omega)]
  · rw [kg_si, if_neg (by omega), kg_si, if_neg (by omega), kg_si, if_neg (by omega), kg_si, if_pos (by omega)]
  · rw [kg_si, if_neg (by omega), kg_si, if_neg (by omega), kg_si, if_pos (by omega)]
  · rw [kg_si, if_neg (by omega), kg_si, if_pos (by omega)]
theorem actR_ok {M : kr_M} {G : GG} (hR : RG M G) (hV : GV G) (h40 : gAc G < 40) (d0 d1 d2 d3 : Int32) : f_X12_acts d0 d1 d2 d3 M = some (eM M (gAc G) d0 d1 d2 d3) := by
  obtain ⟨r0, rPl, rWe, rOd, rKi, rWo, rRo, rPe, rAc, rInc, rWa, rL, rMn, rW, rA, rB, rLd, rWg, rPc⟩ := hR
  apply Wp_eq
  unfold f_X12_acts
  (repeat (first | with_reducible refine Wp_some ?_ | (with_reducible refine Wp_letI ?_; intro v_ hv_; (try simp (disch := omega) only [L_0, L_1, L_2, L_3, L_4, L_5, L_6, L_7, L_8, L_9, L_10, L_11, L_12, L_16, L_18, L_20, L_24, L_25, L_30, L_32, L_38, L_40, L_48, L_50, L_60, L_63, L_64, L_72, L_99, L_100, L_160, L_500, L_999, L_1380, L_1400, L_2400, L_2401, L_60025, L_100000, L_1000000, L_100000000, L_2000000000, nI_add, pk_mul, nI_clamp, nI_leI, nI_ltI, nI_eq, kin_I, pk_sub, nI_m1, m1_nI, nI_am1, kx_max, kx_min, kt_tx, kt_rp, kg_si, kg_sl, kq_si, kq_sl, kv_si, kv_sl, Nat.reduceAdd, Nat.reduceMul, Nat.reduceSub, Nat.reduceEqDiff, Nat.reduceLT, Nat.reduceLeDiff, ne_eq, not_true_eq_false, not_false_eq_true, or_true, true_or, or_false, false_or, and_true, true_and, false_and, and_false, if_true, if_false, ite_true, ite_false, reduceIte, kl_0, kl_1, kl_2, kl_3, kl_6, kl_20, kl_50, kl_500, kl_999, kl_2400, kl_2g, in_t, in_tt, in_f, in_ff, in_n, if_pos, if_neg, eq_self, nI_n1, n1_nI, nI_an1, lesser_n1, lesser_rn, lesser_n, kx_n1, rAc] at hv_); subst hv_) | (with_reducible refine Wp_biI ?_; intro c_ hc_; simp (disch := omega) only [L_0, L_1, L_2, L_3, L_4, L_5, L_6, L_7, L_8, L_9, L_10, L_11, L_12, L_16, L_18, L_20, L_24, L_25, L_30, L_32, L_38, L_40, L_48, L_50, L_60, L_63, L_64, L_72, L_99, L_100, L_160, L_500, L_999, L_1380, L_1400, L_2400, L_2401, L_60025, L_100000, L_1000000, L_100000000, L_2000000000, nI_add, pk_mul, nI_clamp, nI_leI, nI_ltI, nI_eq, kin_I, pk_sub, nI_m1, m1_nI, nI_am1, kx_max, kx_min, kt_tx, kt_rp, kg_si, kg_sl, kq_si, kq_sl, kv_si, kv_sl, Nat.reduceAdd, Nat.reduceMul, Nat.reduceSub, Nat.reduceEqDiff, Nat.reduceLT, Nat.reduceLeDiff, ne_eq, not_true_eq_false, not_false_eq_true, or_true, true_or, or_false, false_or, and_true, true_and, false_and, and_false, if_true, if_false, ite_true, ite_false, reduceIte, kl_0, kl_1, kl_2, kl_3, kl_6, kl_20, kl_50, kl_500, kl_999, kl_2400, kl_2g, in_t, in_tt, in_f, in_ff, in_n, if_pos, if_neg, eq_self, nI_n1, n1_nI, nI_an1, lesser_n1, lesser_rn, lesser_n, kx_n1, rAc] at hc_; subst hc_; with_reducible refine Wp_bis ?_) | (with_reducible refine Wp_bvI ?_; intro c_ hc_; simp (disch := omega) only [L_0, L_1, L_2, L_3, L_4, L_5, L_6, L_7, L_8, L_9, L_10, L_11, L_12, L_16, L_18, L_20, L_24, L_25, L_30, L_32, L_38, L_40, L_48, L_50, L_60, L_63, L_64, L_72, L_99, L_100, L_160, L_500, L_999, L_1380, L_1400, L_2400, L_2401, L_60025, L_100000, L_1000000, L_100000000, L_2000000000, nI_add, pk_mul, nI_clamp, nI_leI, nI_ltI, nI_eq, kin_I, pk_sub, nI_m1, m1_nI, nI_am1, kx_max, kx_min, kt_tx, kt_rp, kg_si, kg_sl, kq_si, kq_sl, kv_si, kv_sl, Nat.reduceAdd, Nat.reduceMul, Nat.reduceSub, Nat.reduceEqDiff, Nat.reduceLT, Nat.reduceLeDiff, ne_eq, not_true_eq_false, not_false_eq_true, or_true, true_or, or_false, false_or, and_true, true_and, false_and, and_false, if_true, if_false, ite_true, ite_false, reduceIte, kl_0, kl_1, kl_2, kl_3, kl_6, kl_20, kl_50, kl_500, kl_999, kl_2400, kl_2g, in_t, in_tt, in_f, in_ff, in_n, if_pos, if_neg, eq_self, nI_n1, n1_nI, nI_an1, lesser_n1, lesser_rn, lesser_n, kx_n1, rAc] at hc_; subst hc_; with_reducible refine Wp_bvs ?_) | (with_reducible refine Wp_t (by (first | (simp (disch := omega) only [L_0, L_1, L_2, L_3, L_4, L_5, L_6, L_7, L_8, L_9, L_10, L_11, L_12, L_16, L_18, L_20, L_24, L_25, L_30, L_32, L_38, L_40, L_48, L_50, L_60, L_63, L_64, L_72, L_99, L_100, L_160, L_500, L_999, L_1380, L_1400, L_2400, L_2401, L_60025, L_100000, L_1000000, L_100000000, L_2000000000, nI_add, pk_mul, nI_clamp, nI_leI, nI_ltI, nI_eq, kin_I, pk_sub, nI_m1, m1_nI, nI_am1, kx_max, kx_min, kt_tx, kt_rp, kg_si, kg_sl, kq_si, kq_sl, kv_si, kv_sl, Nat.reduceAdd, Nat.reduceMul, Nat.reduceSub, Nat.reduceEqDiff, Nat.reduceLT, Nat.reduceLeDiff, ne_eq, not_true_eq_false, not_false_eq_true, or_true, true_or, or_false, false_or, and_true, true_and, false_and, and_false, if_true, if_false, ite_true, ite_false, reduceIte, kl_0, kl_1, kl_2, kl_3, kl_6, kl_20, kl_50, kl_500, kl_999, kl_2400, kl_2g, in_t, in_tt, in_f, in_ff, in_n, if_pos, if_neg, eq_self, nI_n1, n1_nI, nI_an1, lesser_n1, lesser_rn, lesser_n, kx_n1, rAc]; done) | (simp (disch := omega) only [L_0, L_1, L_2, L_3, L_4, L_5, L_6, L_7, L_8, L_9, L_10, L_11, L_12, L_16, L_18, L_20, L_24, L_25, L_30, L_32, L_38, L_40, L_48, L_50, L_60, L_63, L_64, L_72, L_99, L_100, L_160, L_500, L_999, L_1380, L_1400, L_2400, L_2401, L_60025, L_100000, L_1000000, L_100000000, L_2000000000, nI_add, pk_mul, nI_clamp, nI_leI, nI_ltI, nI_eq, kin_I, pk_sub, nI_m1, m1_nI, nI_am1, kx_max, kx_min, kt_tx, kt_rp, kg_si, kg_sl, kq_si, kq_sl, kv_si, kv_sl, Nat.reduceAdd, Nat.reduceMul, Nat.reduceSub, Nat.reduceEqDiff, Nat.reduceLT, Nat.reduceLeDiff, ne_eq, not_true_eq_false, not_false_eq_true, or_true, true_or, or_false, false_or, and_true, true_and, false_and, and_false, if_true, if_false, ite_true, ite_false, reduceIte, kl_0, kl_1, kl_2, kl_3, kl_6, kl_20, kl_50, kl_500, kl_999, kl_2400, kl_2g, in_t, in_tt, in_f, in_ff, in_n, if_pos, if_neg, eq_self, nI_n1, n1_nI, nI_an1, lesser_n1, lesser_rn, lesser_n, kx_n1, rAc]; omega) | decide)) ?_) | (with_reducible refine Wp_f (by (first | (simp (disch := omega) only [L_0, L_1, L_2, L_3, L_4, L_5, L_6, L_7, L_8, L_9, L_10, L_11, L_12, L_16, L_18, L_20, L_24, L_25, L_30, L_32, L_38, L_40, L_48, L_50, L_60, L_63, L_64, L_72, L_99, L_100, L_160, L_500, L_999, L_1380, L_1400, L_2400, L_2401, L_60025, L_100000, L_1000000, L_100000000, L_2000000000, nI_add, pk_mul, nI_clamp, nI_leI, nI_ltI, nI_eq, kin_I, pk_sub, nI_m1, m1_nI, nI_am1, kx_max, kx_min, kt_tx, kt_rp, kg_si, kg_sl, kq_si, kq_sl, kv_si, kv_sl, Nat.reduceAdd, Nat.reduceMul, Nat.reduceSub, Nat.reduceEqDiff, Nat.reduceLT, Nat.reduceLeDiff, ne_eq, not_true_eq_false, not_false_eq_true, or_true, true_or, or_false, false_or, and_true, true_and, false_and, and_false, if_true, if_false, ite_true, ite_false, reduceIte, kl_0, kl_1, kl_2, kl_3, kl_6, kl_20, kl_50, kl_500, kl_999, kl_2400, kl_2g, in_t, in_tt, in_f, in_ff, in_n, if_pos, if_neg, eq_self, nI_n1, n1_nI, nI_an1, lesser_n1, lesser_rn, lesser_n, kx_n1, rAc]; done) | (simp (disch := omega) only [L_0, L_1, L_2, L_3, L_4, L_5, L_6, L_7, L_8, L_9, L_10, L_11, L_12, L_16, L_18, L_20, L_24, L_25, L_30, L_32, L_38, L_40, L_48, L_50, L_60, L_63, L_64, L_72, L_99, L_100, L_160, L_500, L_999, L_1380, L_1400, L_2400, L_2401, L_60025, L_100000, L_1000000, L_100000000, L_2000000000, nI_add, pk_mul, nI_clamp, nI_leI, nI_ltI, nI_eq, kin_I, pk_sub, nI_m1, m1_nI, nI_am1, kx_max, kx_min, kt_tx, kt_rp, kg_si, kg_sl, kq_si, kq_sl, kv_si, kv_sl, Nat.reduceAdd, Nat.reduceMul, Nat.reduceSub, Nat.reduceEqDiff, Nat.reduceLT, Nat.reduceLeDiff, ne_eq, not_true_eq_false, not_false_eq_true, or_true, true_or, or_false, false_or, and_true, true_and, false_and, and_false, if_true, if_false, ite_true, ite_false, reduceIte, kl_0, kl_1, kl_2, kl_3, kl_6, kl_20, kl_50, kl_500, kl_999, kl_2400, kl_2g, in_t, in_tt, in_f, in_ff, in_n, if_pos, if_neg, eq_self, nI_n1, n1_nI, nI_an1, lesser_n1, lesser_rn, lesser_n, kx_n1, rAc]; omega) | decide)) ?_))); try simp (disch := omega) only [nI_1, kt_rp, kt_tx]
  rfl
theorem act_fin {M M1 M6 : kr_M} {g : Nat} {G : GG} (hK : KS M g G) (h40 : gAc G < 40) (hli : 0 < gLi G) {d0 d1 d2 d3 : Int32} (hv : rp_v (dM M g (gAc G) d0 d1 d2 d3) g (rp_n M g (gAc G)) (gAc G)) (hA : AC M g G d0 d1 d2 d3 M1) (hF : Fx scr M1 M6) : Sim (eM M6 (gAc G) d0 d1 d2 d3) := by
  have hg := hK.g36
  have hS := hK.gs
  have hdn := dM_n hK d0 d1 d2 d3
  have hdd := dM_d M g (gAc G) d0 d1 d2 d3
  have ned := dM_ne M g (gAc G) d0 d1 d2 d3
  have nee := eM_ne M6 (gAc G) d0 d1 d2 d3
  have eed := eM_d M6 (gAc G) d0 d1 d2 d3
  have e37 : (eM M6 (gAc G) d0 d1 d2 d3).1 353 7 = nI (gAc G + 1) := by unfold eM; rw [kr_si_at]
  have ee2 : (eM M6 (gAc G) d0 d1 d2 d3).2 = M6.2 := rfl
  have dd2 : (dM M g (gAc G) d0 d1 d2 d3).2 = M.2 := rfl
  have d9 : (dM M g (gAc G) d0 d1 d2 d3).1 g 9 = nI (gAc G + 1) := by unfold dM; rw [kr_si_at]
  obtain ⟨hA1, hA2⟩ := hA
  have hC := hK.C
  have hV := hK.V
  obtain ⟨c0, cPl, cWe, cOd, cKi, cWo, cRo, cPe, cWt, cAc, cIn, cWa, cL, cMn, cW, cA, cB, cLd, cCr, cN, cK, cWg, cPc, cSt⟩ := hC
  obtain ⟨vLi, v0, vPl, vWe, vOd, vKi, vWo, vRo, vPe, vWt, vAc, vIn, vWa, vL, vMn, vW, vA, vB, vAB, vLd, vCr, vN, vK, vWg, vPc, vSt, vD⟩ := hV
  generalize dM M g (gAc G) d0 d1 d2 d3 = D at *
  generalize eM M6 (gAc G) d0 d1 d2 d3 = E at *
  have z9 : zn (M.1 g 9) = gAc G := by rw [cAc, zn_nI (by omega)]
  have hvv : ∀ k, k < gAc G → rp_v M g (rp_n M g k) k := by
    obtain ⟨-, ⟨-, -, -, -, -, -, -, -, -, -, -, -, -, -, a, -⟩, -⟩ := hS
    rw [z9] at a
    exact a
  have t8 : ∀ k, k < 4 * gAc G → M.1 (g + 10) k = M.1 362 k := by
    obtain ⟨⟨-, -, -, -, -, -, -, t8⟩, -, -⟩ := hS
    intro k hk
    have := t8 k (by rw [z9]; exact hk)
    rw [show 160 * 0 + k = k by omega] at this
    exact this
  -- E against D, at the class's cells that are not of the present
  have eD : ∀ a j, ¬ pS g a j → ¬ scr a j → ¬ (a = 353 ∧ j = 7) → ¬ (a = 362 ∧ 4 * gAc G ≤ j ∧ j < 4 * gAc G + 4) → E.1 a j = D.1 a j := fun a j q1 q2 q3 q4 => by
    rw [nee a j q3 q4, hF.1 a j q2, hA2.1 a j q1]
  have eM1 : ∀ a j, ¬ scr a j → ¬ (a = 353 ∧ j = 7) → ¬ (a = 362 ∧ 4 * gAc G ≤ j ∧ j < 4 * gAc G + 4) → E.1 a j = M1.1 a j := fun a j q2 q3 q4 => by
    rw [nee a j q3 q4, hF.1 a j q2]
  have hFx : Fx (uS g) M E := by
    refine ⟨fun a j q => ?_, by rw [ee2, hF.2, hA2.2, dd2]⟩
    rw [eD a j (fun z => q (Or.inl (Or.inl z))) (fun z => q (Or.inr (Or.inr (Or.inr (Or.inr z))))) (fun z => q (by unfold uS; omega)) (fun z => q (by unfold uS; omega)), ned a j (fun z => q (by unfold uS bS; omega)) (fun z => q (by unfold uS; omega))]
  have hdE : ∀ k j, j < 4 → rp_d E g k j = rp_d D g k j := fun k j hj => eD _ _ (by unfold pS; omega) (by unfold scr; omega) (by omega) (by omega)
  have y6D : D.1 g 6 = nI (gRo G) := by rw [ned _ _ (by omega) (by omega)]; exact cRo
  have i6D : (D.1 g 6).toInt ≤ 6 := by rw [y6D, kz_nI (by omega)]; omega
  have y6 : E.1 g 6 = D.1 g 6 := eD _ _ (by unfold pS; omega) (by unfold scr; omega) (by omega) (by omega)
  have y7 : E.1 g 7 = D.1 g 7 := eD _ _ (by unfold pS; omega) (by unfold scr; omega) (by omega) (by omega)
  have y4 : E.1 g 4 = D.1 g 4 := eD _ _ (by unfold pS; omega) (by unfold scr; omega) (by omega) (by omega)
  have vD : ∀ k, k < gAc G + 1 → rp_v D g (rp_n D g k) k := fun k hk => by
    by_cases c : k = gAc G
    · subst c
      rw [hdn _ (Nat.le_refl _)]
      exact hv
    · rw [hdn _ (by omega)]
      have w := hvv k (by omega)
      unfold rp_v at w ⊢
      rw [show rp_d D g k 0 = rp_d M g k 0 from ned _ _ (by omega) (by omega), show rp_d D g k 1 = rp_d M g k 1 from ned _ _ (by omega) (by omega), show rp_d D g k 2 = rp_d M g k 2 from ned _ _ (by omega) (by omega), show rp_d D g k 3 = rp_d M g k 3 from ned _ _ (by omega) (by omega), show D.1 g 7 = M.1 g 7 from ned _ _ (by omega) (by omega), show D.1 g 6 = M.1 g 6 from ned _ _ (by omega) (by omega), show D.1 g 4 = M.1 g 4 from ned _ _ (by omega) (by omega), show D.1 (g + 31 + 5 * zn (rp_d M g k 2)) 0 = M.1 (g + 31 + 5 * zn (rp_d M g k 2)) 0 from ned _ _ (by omega) (by omega), show D.1 (g + 31 + 5 * zn (rp_d M g k 2)) 1 = M.1 (g + 31 + 5 * zn (rp_d M g k 2)) 1 from ned _ _ (by omega) (by omega)]
      exact w
  have hr : ∀ r, r < 6 → E.1 (g + 31 + 5 * r) 0 = D.1 (g + 31 + 5 * r) 0 ∧ E.1 (g + 31 + 5 * r) 1 = D.1 (g + 31 + 5 * r) 1 ∧ E.1 (g + 32 + 5 * r) 1 = D.1 (g + 32 + 5 * r) 1 ∧ E.1 (g + 33 + 5 * r) = D.1 (g + 33 + 5 * r) := fun r hr => ⟨eD _ _ (by unfold pS; omega) (by unfold scr; omega) (by omega) (by omega), eD _ _ (by unfold pS; omega) (by unfold scr; omega) (by omega) (by omega), eD _ _ (by unfold pS; omega) (by unfold scr; omega) (by omega) (by omega), funext fun j => eD _ _ (by unfold pS; omega) (by unfold scr; omega) (by omega) (by omega)⟩
  have hnE : ∀ n, n ≤ gAc G + 1 → rp_n E g n = rp_n D g n := fun n hn => rp_nc i6D (funext fun j => eD _ _ (by unfold pS; omega) (by unfold scr; omega) (by omega) (by omega)) hr n (fun k j hk hj => hdE k j hj) (fun k hk => vD k (by omega))
  have hG : GS E g 0 := by
    refine GS_re (n := gAc G + 1) hS hg (by omega) hFx (by rw [c0, kz_eq, kz_nI (by omega)]; have : (0 : Int32).toInt = 0 := rfl; omega) ?_ e37 (fun j hj => ?_) (fun k hk => ?_) ?_
    · rw [eD _ _ (by unfold pS; omega) (by unfold scr; omega) (by omega) (by omega)]; exact d9
    · by_cases c : j < 4 * gAc G
      · rw [eD _ _ (by unfold pS; omega) (by unfold scr; omega) (by omega) (by omega), ned _ _ (by omega) (by omega), eD _ _ (by unfold pS; omega) (by unfold scr; omega) (by omega) (by omega), ned _ _ (by omega) (by omega)]
        exact t8 j c
      · obtain ⟨q0, q1, q2, q3⟩ := eed
        obtain ⟨w0, w1, w2, w3⟩ := hdd
        have u : ∀ i, i < 4 → E.1 (g + 10) (4 * gAc G + i) = rp_d D g (gAc G) i := fun i hi => hdE (gAc G) i hi
        obtain rfl | rfl | rfl | rfl : j = 4 * gAc G ∨ j = 4 * gAc G + 1 ∨ j = 4 * gAc G + 2 ∨ j = 4 * gAc G + 3 := by omega
        · rw [q0, ← w0]; exact u 0 (by omega)
        · rw [q1, ← w1]; exact u 1 (by omega)
        · rw [q2, ← w2]; exact u 2 (by omega)
        · rw [q3, ← w3]; exact u 3 (by omega)
    · rw [hnE k (by omega)]
      have w := vD k hk
      unfold rp_v at w ⊢
      by_cases cz : rp_d D g k 0 = 0
      · have h5 := rp_vlt i6D (vD k hk) cz
        rw [hdE k 0 (by omega), hdE k 1 (by omega), hdE k 2 (by omega), hdE k 3 (by omega), y7, y6, y4, (hr _ (show zn (rp_d D g k 2) < 6 by omega)).1, (hr _ (show zn (rp_d D g k 2) < 6 by omega)).2.1]
        exact w
      · rw [hdE k 0 (by omega), hdE k 1 (by omega), hdE k 2 (by omega), hdE k 3 (by omega), y7, y6, y4]
        rcases w with w | w
        · exact absurd w.1 cz
        · exact Or.inr w
    · rw [hnE _ (Nat.le_refl _)]
      show CP E g E (rp_1 D g (rp_n D g (gAc G)) (gAc G))
      rw [hdn _ (Nat.le_refl _)]
      obtain ⟨a1, a2, a3⟩ := hA1
      unfold CP
      rw [y6, y7]
      refine ⟨fun r hr => ?_, fun p hp => ?_, by rw [eM1 _ _ (by unfold scr; omega) (by omega) (by omega)]; exact a3⟩
      · have r6 : r < 6 := by unfold zn at hr; omega
        obtain ⟨e1, e2, e3⟩ := a1 r hr
        exact ⟨by rw [eM1 _ _ (by unfold scr; omega) (by omega) (by omega)]; exact e1, by rw [eM1 _ _ (by unfold scr; omega) (by omega) (by omega)]; exact e2, fun i hi => by rw [eM1 _ _ (by unfold scr; omega) (by omega) (by omega)]; exact e3 i hi⟩
      · rw [eM1 _ _ (by unfold scr; omega) (by omega) (by omega)]; exact a2 p hp
  refine Sim_re hK.1 hK.2.1 ⟨fun a j q => hFx.1 a j (fun z => q ?_), hFx.2⟩ hG
  unfold uS bS pS scr at z
  unfold sS sX
  omega
