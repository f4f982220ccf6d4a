/-! slips of the class: the tables -/
abbrev slX : Nat → Nat → Prop := fun a _ => a = 315 ∨ (318 ≤ a ∧ a ≤ 322)
theorem sl_s : SS slX := fun a j h => by have h : a = 315 ∨ (318 ≤ a ∧ a ≤ 322) := h; omega
theorem sl_FS {M M' : kr_M} (h : FS M M') : Fx slX M M' := ⟨fun a j q => by have q : ¬ (a = 315 ∨ (318 ≤ a ∧ a ≤ 322)) := q; rw [h.1 a (by omega) (by omega) (by omega)], h.2⟩
theorem RD.fx {M M' : kr_M} {g n : Nat} {G : GG} {k : Nat → Nat} (h : RD M g G n k) (hf : Fx slX M M') : RD M' g G n k := by
  refine ⟨h.1.fr (hf.fr sl_s), ?_, h.2.2.1.fx hf (fun j q => by have q : 316 = 315 ∨ (318 ≤ 316 ∧ 316 ≤ 322) := q; omega) (fun j q => by have q : 317 = 315 ∨ (318 ≤ 317 ∧ 317 ≤ 322) := q; omega), h.2.2.2⟩
  have := h.2.1
  unfold kr_gr at this ⊢
  rw [hf.2]
  exact this
/-- the least sums ahead -/
def ahI (M : kr_M) (G : GG) (n : Nat) (k : Nat → Nat) (f w : Nat) : Prop := ∀ j, j ≤ n → ∃ o, M.1 321 j = kw_e o ∧ isD o (ahP G n k f w j)
theorem ahP_b {G : GG} {n : Nat} {k : Nat → Nat} (hV : GV G) {f w j s : Nat} (h : ahP G n k f w j s) : s ≤ 99 * j := by
  rcases h with ⟨e1, e2⟩ | ⟨f', w', q1, q2, q3, q4, q5, q6⟩
  · omega
  · have := (pa_b hV (pa_cat q6 (pa_1 q2 q3))).2.1
    omega
theorem ah_30 {M0 : kr_M} {g n f : Nat} {G : GG} {k : Nat → Nat} {K : Int32 → kr_M → Option kr_M} {Q : kr_M → Prop} (hf : f < n) (h : ∀ M', RD M' g G n k → ahI M' G n k (f + 1) 0 → Fx (fun a _ => a = 321) M0 M' → Wp (K (nI (f + 1)) M') Q) : ∀ n' w M, w ≤ gWo G → gWo G - w < n' → RD M g G n k → ahI M G n k f w → Fx (fun a _ => a = 321) M0 M → Wp (f_X4_studyAhead_30 K (nI f) n' (nI w) M) Q := by
  intro n'
  induction n' with
  | zero => intro w M h1 h2; omega
  | succ n' ih =>
    intro w M h1 h2 hR hA hF
    rw [f_X4_studyAhead_30]
    have hR' := hR
    obtain ⟨hK, e2, hTx, hn⟩ := hR'
    have hV := hK.V
    have hV' := hV
    have hC := hK.C
    have es := hK.sh
    obtain ⟨vLi, v0, vPl, vWe, vOd, vKi, vWo, vRo, vPe, vWt, vAc, vIn, vWa, vL, vMn, vW, vA, vB, vAB, vLd, vCr, vN, vK, vWg, vPc, vSt, vD⟩ := hV'
    obtain ⟨c0, cPl, cWe, cOd, cKi, cWo, cRo, cPe, cWt, cAc, cIn, cWa, cL, cMn, cW, cA, cB, cLd, cCr, cN, cK, cWg, cPc, cSt⟩ := hC
    by_cases c : w = gWo G
    · subst c
      (repeat (first | with_reducible refine Wp_some ?_ | (with_reducible refine Wp_letI ?_; intro v_ hv_; (try simp (disch := omega) only [L_0, L_1, L_2, L_3, L_4, L_5, L_6, L_7, L_8, L_9, L_10, L_11, L_12, L_16, L_18, L_20, L_24, L_25, L_30, L_32, L_38, L_40, L_48, L_50, L_60, L_63, L_64, L_72, L_99, L_100, L_160, L_500, L_999, L_1380, L_1400, L_2400, L_2401, L_60025, L_100000, L_1000000, L_100000000, L_2000000000, nI_add, pk_mul, nI_clamp, nI_leI, nI_ltI, nI_eq, kin_I, pk_sub, nI_m1, m1_nI, nI_am1, kx_max, kx_min, kt_tx, kt_rp, kg_si, kg_sl, kq_si, kq_sl, kv_si, kv_sl, Nat.reduceAdd, Nat.reduceMul, Nat.reduceSub, Nat.reduceEqDiff, Nat.reduceLT, Nat.reduceLeDiff, ne_eq, not_true_eq_false, not_false_eq_true, or_true, true_or, or_false, false_or, and_true, true_and, false_and, and_false, if_true, if_false, ite_true, ite_false, reduceIte, kl_0, kl_1, kl_2, kl_3, kl_6, kl_20, kl_50, kl_500, kl_999, kl_2400, kl_2g, in_t, in_tt, in_f, in_ff, in_n, if_pos, if_neg, eq_self, nI_n1, n1_nI, nI_an1, lesser_n1, lesser_rn, lesser_n, kx_n1, e2, es, cWo] at hv_); subst hv_) | (with_reducible refine Wp_biI ?_; intro c_ hc_; simp (disch := omega) only [L_0, L_1, L_2, L_3, L_4, L_5, L_6, L_7, L_8, L_9, L_10, L_11, L_12, L_16, L_18, L_20, L_24, L_25, L_30, L_32, L_38, L_40, L_48, L_50, L_60, L_63, L_64, L_72, L_99, L_100, L_160, L_500, L_999, L_1380, L_1400, L_2400, L_2401, L_60025, L_100000, L_1000000, L_100000000, L_2000000000, nI_add, pk_mul, nI_clamp, nI_leI, nI_ltI, nI_eq, kin_I, pk_sub, nI_m1, m1_nI, nI_am1, kx_max, kx_min, kt_tx, kt_rp, kg_si, kg_sl, kq_si, kq_sl, kv_si, kv_sl, Nat.reduceAdd, Nat.reduceMul, Nat.reduceSub, Nat.reduceEqDiff, Nat.reduceLT, Nat.reduceLeDiff, ne_eq, not_true_eq_false, not_false_eq_true, or_true, true_or, or_false, false_or, and_true, true_and, false_and, and_false, if_true, if_false, ite_true, ite_false, reduceIte, kl_0, kl_1, kl_2, kl_3, kl_6, kl_20, kl_50, kl_500, kl_999, kl_2400, kl_2g, in_t, in_tt, in_f, in_ff, in_n, if_pos, if_neg, eq_self, nI_n1, n1_nI, nI_an1, lesser_n1, lesser_rn, lesser_n, kx_n1, e2, es, cWo] at hc_; subst hc_; with_reducible refine Wp_bis ?_) | (with_reducible refine Wp_bvI ?_; intro c_ hc_; simp (disch := omega) only [L_0, L_1, L_2, L_3, L_4, L_5, L_6, L_7, L_8, L_9, L_10, L_11, L_12, L_16, L_18, L_20, L_24, L_25, L_30, L_32, L_38, L_40, L_48, L_50, L_60, L_63, L_64, L_72, L_99, L_100, L_160, L_500, L_999, L_1380, L_1400, L_2400, L_2401, L_60025, L_100000, L_1000000, L_100000000, L_2000000000, nI_add, pk_mul, nI_clamp, nI_leI, nI_ltI, nI_eq, kin_I, pk_sub, nI_m1, m1_nI, nI_am1, kx_max, kx_min, kt_tx, kt_rp, kg_si, kg_sl, kq_si, kq_sl, kv_si, kv_sl, Nat.reduceAdd, Nat.reduceMul, Nat.reduceSub, Nat.reduceEqDiff, Nat.reduceLT, Nat.reduceLeDiff, ne_eq, not_true_eq_false, not_false_eq_true, or_true, true_or, or_false, false_or, and_true, true_and, false_and, and_false, if_true, if_false, ite_true, ite_false, reduceIte, kl_0, kl_1, kl_2, kl_3, kl_6, kl_20, kl_50, kl_500, kl_999, kl_2400, kl_2g, in_t, in_tt, in_f, in_ff, in_n, if_pos, if_neg, eq_self, nI_n1, n1_nI, nI_an1, lesser_n1, lesser_rn, lesser_n, kx_n1, e2, es, cWo] at hc_; subst hc_; with_reducible refine Wp_bvs ?_) | (with_reducible refine Wp_t (by (first | (simp (disch := omega) only [L_0, L_1, L_2, L_3, L_4, L_5, L_6, L_7, L_8, L_9, L_10, L_11, L_12, L_16, L_18, L_20, L_24, L_25, L_30, L_32, L_38, L_40, L_48, L_50, L_60, L_63, L_64, L_72, L_99, L_100, L_160, L_500, L_999, L_1380, L_1400, L_2400, L_2401, L_60025, L_100000, L_1000000, L_100000000, L_2000000000, nI_add, pk_mul, nI_clamp, nI_leI, nI_ltI, nI_eq, kin_I, pk_sub, nI_m1, m1_nI, nI_am1, kx_max, kx_min, kt_tx, kt_rp, kg_si, kg_sl, kq_si, kq_sl, kv_si, kv_sl, Nat.reduceAdd, Nat.reduceMul, Nat.reduceSub, Nat.reduceEqDiff, Nat.reduceLT, Nat.reduceLeDiff, ne_eq, not_true_eq_false, not_false_eq_true, or_true, true_or, or_false, false_or, and_true, true_and, false_and, and_false, if_true, if_false, ite_true, ite_false, reduceIte, kl_0, kl_1, kl_2, kl_3, kl_6, kl_20, kl_50, kl_500, kl_999, kl_2400, kl_2g, in_t, in_tt, in_f, in_ff, in_n, if_pos, if_neg, eq_self, nI_n1, n1_nI, nI_an1, lesser_n1, lesser_rn, lesser_n, kx_n1, e2, es, cWo]; done) | (simp (disch := omega) only [L_0, L_1, L_2, L_3, L_4, L_5, L_6, L_7, L_8, L_9, L_10, L_11, L_12, L_16, L_18, L_20, L_24, L_25, L_30, L_32, L_38, L_40, L_48, L_50, L_60, L_63, L_64, L_72, L_99, L_100, L_160, L_500, L_999, L_1380, L_1400, L_2400, L_2401, L_60025, L_100000, L_1000000, L_100000000, L_2000000000, nI_add, pk_mul, nI_clamp, nI_leI, nI_ltI, nI_eq, kin_I, pk_sub, nI_m1, m1_nI, nI_am1, kx_max, kx_min, kt_tx, kt_rp, kg_si, kg_sl, kq_si, kq_sl, kv_si, kv_sl, Nat.reduceAdd, Nat.reduceMul, Nat.reduceSub, Nat.reduceEqDiff, Nat.reduceLT, Nat.reduceLeDiff, ne_eq, not_true_eq_false, not_false_eq_true, or_true, true_or, or_false, false_or, and_true, true_and, false_and, and_false, if_true, if_false, ite_true, ite_false, reduceIte, kl_0, kl_1, kl_2, kl_3, kl_6, kl_20, kl_50, kl_500, kl_999, kl_2400, kl_2g, in_t, in_tt, in_f, in_ff, in_n, if_pos, if_neg, eq_self, nI_n1, n1_nI, nI_an1, lesser_n1, lesser_rn, lesser_n, kx_n1, e2, es, cWo]; omega) | decide)) ?_) | (with_reducible refine Wp_f (by (first | (simp (disch := omega) only [L_0, L_1, L_2, L_3, L_4, L_5, L_6, L_7, L_8, L_9, L_10, L_11, L_12, L_16, L_18, L_20, L_24, L_25, L_30, L_32, L_38, L_40, L_48, L_50, L_60, L_63, L_64, L_72, L_99, L_100, L_160, L_500, L_999, L_1380, L_1400, L_2400, L_2401, L_60025, L_100000, L_1000000, L_100000000, L_2000000000, nI_add, pk_mul, nI_clamp, nI_leI, nI_ltI, nI_eq, kin_I, pk_sub, nI_m1, m1_nI, nI_am1, kx_max, kx_min, kt_tx, kt_rp, kg_si, kg_sl, kq_si, kq_sl, kv_si, kv_sl, Nat.reduceAdd, Nat.reduceMul, Nat.reduceSub, Nat.reduceEqDiff, Nat.reduceLT, Nat.reduceLeDiff, ne_eq, not_true_eq_false, not_false_eq_true, or_true, true_or, or_false, false_or, and_true, true_and, false_and, and_false, if_true, if_false, ite_true, ite_false, reduceIte, kl_0, kl_1, kl_2, kl_3, kl_6, kl_20, kl_50, kl_500, kl_999, kl_2400, kl_2g, in_t, in_tt, in_f, in_ff, in_n, if_pos, if_neg, eq_self, nI_n1, n1_nI, nI_an1, lesser_n1, lesser_rn, lesser_n, kx_n1, e2, es, cWo]; done) | (simp (disch := omega) only [L_0, L_1, L_2, L_3, L_4, L_5, L_6, L_7, L_8, L_9, L_10, L_11, L_12, L_16, L_18, L_20, L_24, L_25, L_30, L_32, L_38, L_40, L_48, L_50, L_60, L_63, L_64, L_72, L_99, L_100, L_160, L_500, L_999, L_1380, L_1400, L_2400, L_2401, L_60025, L_100000, L_1000000, L_100000000, L_2000000000, nI_add, pk_mul, nI_clamp, nI_leI, nI_ltI, nI_eq, kin_I, pk_sub, nI_m1, m1_nI, nI_am1, kx_max, kx_min, kt_tx, kt_rp, kg_si, kg_sl, kq_si, kq_sl, kv_si, kv_sl, Nat.reduceAdd, Nat.reduceMul, Nat.reduceSub, Nat.reduceEqDiff, Nat.reduceLT, Nat.reduceLeDiff, ne_eq, not_true_eq_false, not_false_eq_true, or_true, true_or, or_false, false_or, and_true, true_and, false_and, and_false, if_true, if_false, ite_true, ite_false, reduceIte, kl_0, kl_1, kl_2, kl_3, kl_6, kl_20, kl_50, kl_500, kl_999, kl_2400, kl_2g, in_t, in_tt, in_f, in_ff, in_n, if_pos, if_neg, eq_self, nI_n1, n1_nI, nI_an1, lesser_n1, lesser_rn, lesser_n, kx_n1, e2, es, cWo]; omega) | decide)) ?_))); try simp (disch := omega) only [nI_1, kt_rp, kt_tx]
      unfold f_X4_studyAhead_123
      (repeat (first | with_reducible refine Wp_some ?_ | (with_reducible refine Wp_letI ?_; intro v_ hv_; (try simp (disch := omega) only [L_0, L_1, L_2, L_3, L_4, L_5, L_6, L_7, L_8, L_9, L_10, L_11, L_12, L_16, L_18, L_20, L_24, L_25, L_30, L_32, L_38, L_40, L_48, L_50, L_60, L_63, L_64, L_72, L_99, L_100, L_160, L_500, L_999, L_1380, L_1400, L_2400, L_2401, L_60025, L_100000, L_1000000, L_100000000, L_2000000000, nI_add, pk_mul, nI_clamp, nI_leI, nI_ltI, nI_eq, kin_I, pk_sub, nI_m1, m1_nI, nI_am1, kx_max, kx_min, kt_tx, kt_rp, kg_si, kg_sl, kq_si, kq_sl, kv_si, kv_sl, Nat.reduceAdd, Nat.reduceMul, Nat.reduceSub, Nat.reduceEqDiff, Nat.reduceLT, Nat.reduceLeDiff, ne_eq, not_true_eq_false, not_false_eq_true, or_true, true_or, or_false, false_or, and_true, true_and, false_and, and_false, if_true, if_false, ite_true, ite_false, reduceIte, kl_0, kl_1, kl_2, kl_3, kl_6, kl_20, kl_50, kl_500, kl_999, kl_2400, kl_2g, in_t, in_tt, in_f, in_ff, in_n, if_pos, if_neg, eq_self, nI_n1, n1_nI, nI_an1, lesser_n1, lesser_rn, lesser_n, kx_n1] at hv_); subst hv_) | (with_reducible refine Wp_biI ?_; intro c_ hc_; simp (disch := omega) only [L_0, L_1, L_2, L_3, L_4, L_5, L_6, L_7, L_8, L_9, L_10, L_11, L_12, L_16, L_18, L_20, L_24, L_25, L_30, L_32, L_38, L_40, L_48, L_50, L_60, L_63, L_64, L_72, L_99, L_100, L_160, L_500, L_999, L_1380, L_1400, L_2400, L_2401, L_60025, L_100000, L_1000000, L_100000000, L_2000000000, nI_add, pk_mul, nI_clamp, nI_leI, nI_ltI, nI_eq, kin_I, pk_sub, nI_m1, m1_nI, nI_am1, kx_max, kx_min, kt_tx, kt_rp, kg_si, kg_sl, kq_si, kq_sl, kv_si, kv_sl, Nat.reduceAdd, Nat.reduceMul, Nat.reduceSub, Nat.reduceEqDiff, Nat.reduceLT, Nat.reduceLeDiff, ne_eq, not_true_eq_false, not_false_eq_true, or_true, true_or, or_false, false_or, and_true, true_and, false_and, and_false, if_true, if_false, ite_true, ite_false, reduceIte, kl_0, kl_1, kl_2, kl_3, kl_6, kl_20, kl_50, kl_500, kl_999, kl_2400, kl_2g, in_t, in_tt, in_f, in_ff, in_n, if_pos, if_neg, eq_self, nI_n1, n1_nI, nI_an1, lesser_n1, lesser_rn, lesser_n, kx_n1] at hc_; subst hc_; with_reducible refine Wp_bis ?_) | (with_reducible refine Wp_bvI ?_; intro c_ hc_; simp (disch := omega) only [L_0, L_1, L_2, L_3, L_4, L_5, L_6, L_7, L_8, L_9, L_10, L_11, L_12, L_16, L_18, L_20, L_24, L_25, L_30, L_32, L_38, L_40, L_48, L_50, L_60, L_63, L_64, L_72, L_99, L_100, L_160, L_500, L_999, L_1380, L_1400, L_2400, L_2401, L_60025, L_100000, L_1000000, L_100000000, L_2000000000, nI_add, pk_mul, nI_clamp, nI_leI, nI_ltI, nI_eq, kin_I, pk_sub, nI_m1, m1_nI, nI_am1, kx_max, kx_min, kt_tx, kt_rp, kg_si, kg_sl, kq_si, kq_sl, kv_si, kv_sl, Nat.reduceAdd, Nat.reduceMul, Nat.reduceSub, Nat.reduceEqDiff, Nat.reduceLT, Nat.reduceLeDiff, ne_eq, not_true_eq_false, not_false_eq_true, or_true, true_or, or_false, false_or, and_true, true_and, false_and, and_false, if_true, if_false, ite_true, ite_false, reduceIte, kl_0, kl_1, kl_2, kl_3, kl_6, kl_20, kl_50, kl_500, kl_999, kl_2400, kl_2g, in_t, in_tt, in_f, in_ff, in_n, if_pos, if_neg, eq_self, nI_n1, n1_nI, nI_an1, lesser_n1, lesser_rn, lesser_n, kx_n1] at hc_; subst hc_; with_reducible refine Wp_bvs ?_) | (with_reducible refine Wp_t (by (first | (simp (disch := omega) only [L_0, L_1, L_2, L_3, L_4, L_5, L_6, L_7, L_8, L_9, L_10, L_11, L_12, L_16, L_18, L_20, L_24, L_25, L_30, L_32, L_38, L_40, L_48, L_50, L_60, L_63, L_64, L_72, L_99, L_100, L_160, L_500, L_999, L_1380, L_1400, L_2400, L_2401, L_60025, L_100000, L_1000000, L_100000000, L_2000000000, nI_add, pk_mul, nI_clamp, nI_leI, nI_ltI, nI_eq, kin_I, pk_sub, nI_m1, m1_nI, nI_am1, kx_max, kx_min, kt_tx, kt_rp, kg_si, kg_sl, kq_si, kq_sl, kv_si, kv_sl, Nat.reduceAdd, Nat.reduceMul, Nat.reduceSub, Nat.reduceEqDiff, Nat.reduceLT, Nat.reduceLeDiff, ne_eq, not_true_eq_false, not_false_eq_true, or_true, true_or, or_false, false_or, and_true, true_and, false_and, and_false, if_true, if_false, ite_true, ite_false, reduceIte, kl_0, kl_1, kl_2, kl_3, kl_6, kl_20, kl_50, kl_500, kl_999, kl_2400, kl_2g, in_t, in_tt, in_f, in_ff, in_n, if_pos, if_neg, eq_self, nI_n1, n1_nI, nI_an1, lesser_n1, lesser_rn, lesser_n, kx_n1]; done) | (simp (disch := omega) only [L_0, L_1, L_2, L_3, L_4, L_5, L_6, L_7, L_8, L_9, L_10, L_11, L_12, L_16, L_18, L_20, L_24, L_25, L_30, L_32, L_38, L_40, L_48, L_50, L_60, L_63, L_64, L_72, L_99, L_100, L_160, L_500, L_999, L_1380, L_1400, L_2400, L_2401, L_60025, L_100000, L_1000000, L_100000000, L_2000000000, nI_add, pk_mul, nI_clamp, nI_leI, nI_ltI, nI_eq, kin_I, pk_sub, nI_m1, m1_nI, nI_am1, kx_max, kx_min, kt_tx, kt_rp, kg_si, kg_sl, kq_si, kq_sl, kv_si, kv_sl, Nat.reduceAdd, Nat.reduceMul, Nat.reduceSub, Nat.reduceEqDiff, Nat.reduceLT, Nat.reduceLeDiff, ne_eq, not_true_eq_false, not_false_eq_true, or_true, true_or, or_false, false_or, and_true, true_and, false_and, and_false, if_true, if_false, ite_true, ite_false, reduceIte, kl_0, kl_1, kl_2, kl_3, kl_6, kl_20, kl_50, kl_500, kl_999, kl_2400, kl_2g, in_t, in_tt, in_f, in_ff, in_n, if_pos, if_neg, eq_self, nI_n1, n1_nI, nI_an1, lesser_n1, lesser_rn, lesser_n, kx_n1]; omega) | decide)) ?_) | (with_reducible refine Wp_f (by (first | (simp (disch := omega) only [L_0, L_1, L_2, L_3, L_4, L_5, L_6, L_7, L_8, L_9, L_10, L_11, L_12, L_16, L_18, L_20, L_24, L_25, L_30, L_32, L_38, L_40, L_48, L_50, L_60, L_63, L_64, L_72, L_99, L_100, L_160, L_500, L_999, L_1380, L_1400, L_2400, L_2401, L_60025, L_100000, L_1000000, L_100000000, L_2000000000, nI_add, pk_mul, nI_clamp, nI_leI, nI_ltI, nI_eq, kin_I, pk_sub, nI_m1, m1_nI, nI_am1, kx_max, kx_min, kt_tx, kt_rp, kg_si, kg_sl, kq_si, kq_sl, kv_si, kv_sl, Nat.reduceAdd, Nat.reduceMul, Nat.reduceSub, Nat.reduceEqDiff, Nat.reduceLT, Nat.reduceLeDiff, ne_eq, not_true_eq_false, not_false_eq_true, or_true, true_or, or_false, false_or, and_true, true_and, false_and, and_false, if_true, if_false, ite_true, ite_false, reduceIte, kl_0, kl_1, kl_2, kl_3, kl_6, kl_20, kl_50, kl_500, kl_999, kl_2400, kl_2g, in_t, in_tt, in_f, in_ff, in_n, if_pos, if_neg, eq_self, nI_n1, n1_nI, nI_an1, lesser_n1, lesser_rn, lesser_n, kx_n1]; done) | (simp (disch := omega) only [L_0, L_1, L_2, L_3, L_4, L_5, L_6, L_7, L_8, L_9, L_10, L_11, L_12, L_16, L_18, L_20, L_24, L_25, L_30, L_32, L_38, L_40, L_48, L_50, L_60, L_63, L_64, L_72, L_99, L_100, L_160, L_500, L_999, L_1380, L_1400, L_2400, L_2401, L_60025, L_100000, L_1000000, L_100000000, L_2000000000, nI_add, pk_mul, nI_clamp, nI_leI, nI_ltI, nI_eq, kin_I, pk_sub, nI_m1, m1_nI, nI_am1, kx_max, kx_min, kt_tx, kt_rp, kg_si, kg_sl, kq_si, kq_sl, kv_si, kv_sl, Nat.reduceAdd, Nat.reduceMul, Nat.reduceSub, Nat.reduceEqDiff, Nat.reduceLT, Nat.reduceLeDiff, ne_eq, not_true_eq_false, not_false_eq_true, or_true, true_or, or_false, false_or, and_true, true_and, false_and, and_false, if_true, if_false, ite_true, ite_false, reduceIte, kl_0, kl_1, kl_2, kl_3, kl_6, kl_20, kl_50, kl_500, kl_999, kl_2400, kl_2g, in_t, in_tt, in_f, in_ff, in_n, if_pos, if_neg, eq_self, nI_n1, n1_nI, nI_an1, lesser_n1, lesser_rn, lesser_n, kx_n1]; omega) | decide)) ?_))); try simp (disch := omega) only [nI_1, kt_rp, kt_tx]
      refine h M hR (fun j hj => ?_) hF
      obtain ⟨o, q1, q2⟩ := hA j hj
      exact ⟨o, q1, idC_ q2 (fun s => ahP_w)⟩
    · have hw : w < gWo G := by omega
      have hl := vL w hw
      have hm := vMn w hw
      obtain ⟨o, eo, do'⟩ := hA f (by omega)
      have dp := idC_ do' (fun s => ahP_pa hV (Nat.le_refl f))
      cases ho : o with
      | none =>
        rw [ho] at eo
        have eo : M.1 321 f = -nI 1 := eo
        (repeat (first | with_reducible refine Wp_some ?_ | (with_reducible refine Wp_letI ?_; intro v_ hv_; (try simp (disch := omega) only [L_0, L_1, L_2, L_3, L_4, L_5, L_6, L_7, L_8, L_9, L_10, L_11, L_12, L_16, L_18, L_20, L_24, L_25, L_30, L_32, L_38, L_40, L_48, L_50, L_60, L_63, L_64, L_72, L_99, L_100, L_160, L_500, L_999, L_1380, L_1400, L_2400, L_2401, L_60025, L_100000, L_1000000, L_100000000, L_2000000000, nI_add, pk_mul, nI_clamp, nI_leI, nI_ltI, nI_eq, kin_I, pk_sub, nI_m1, m1_nI, nI_am1, kx_max, kx_min, kt_tx, kt_rp, kg_si, kg_sl, kq_si, kq_sl, kv_si, kv_sl, Nat.reduceAdd, Nat.reduceMul, Nat.reduceSub, Nat.reduceEqDiff, Nat.reduceLT, Nat.reduceLeDiff, ne_eq, not_true_eq_false, not_false_eq_true, or_true, true_or, or_false, false_or, and_true, true_and, false_and, and_false, if_true, if_false, ite_true, ite_false, reduceIte, kl_0, kl_1, kl_2, kl_3, kl_6, kl_20, kl_50, kl_500, kl_999, kl_2400, kl_2g, in_t, in_tt, in_f, in_ff, in_n, if_pos, if_neg, eq_self, nI_n1, n1_nI, nI_an1, lesser_n1, lesser_rn, lesser_n, kx_n1, e2, es, cWo, eo] at hv_); subst hv_) | (with_reducible refine Wp_biI ?_; intro c_ hc_; simp (disch := omega) only [L_0, L_1, L_2, L_3, L_4, L_5, L_6, L_7, L_8, L_9, L_10, L_11, L_12, L_16, L_18, L_20, L_24, L_25, L_30, L_32, L_38, L_40, L_48, L_50, L_60, L_63, L_64, L_72, L_99, L_100, L_160, L_500, L_999, L_1380, L_1400, L_2400, L_2401, L_60025, L_100000, L_1000000, L_100000000, L_2000000000, nI_add, pk_mul, nI_clamp, nI_leI, nI_ltI, nI_eq, kin_I, pk_sub, nI_m1, m1_nI, nI_am1, kx_max, kx_min, kt_tx, kt_rp, kg_si, kg_sl, kq_si, kq_sl, kv_si, kv_sl, Nat.reduceAdd, Nat.reduceMul, Nat.reduceSub, Nat.reduceEqDiff, Nat.reduceLT, Nat.reduceLeDiff, ne_eq, not_true_eq_false, not_false_eq_true, or_true, true_or, or_false, false_or, and_true, true_and, false_and, and_false, if_true, if_false, ite_true, ite_false, reduceIte, kl_0, kl_1, kl_2, kl_3, kl_6, kl_20, kl_50, kl_500, kl_999, kl_2400, kl_2g, in_t, in_tt, in_f, in_ff, in_n, if_pos, if_neg, eq_self, nI_n1, n1_nI, nI_an1, lesser_n1, lesser_rn, lesser_n, kx_n1, e2, es, cWo, eo] at hc_; subst hc_; with_reducible refine Wp_bis ?_) | (with_reducible refine Wp_bvI ?_; intro c_ hc_; simp (disch := omega) only [L_0, L_1, L_2, L_3, L_4, L_5, L_6, L_7, L_8, L_9, L_10, L_11, L_12, L_16, L_18, L_20, L_24, L_25, L_30, L_32, L_38, L_40, L_48, L_50, L_60, L_63, L_64, L_72, L_99, L_100, L_160, L_500, L_999, L_1380, L_1400, L_2400, L_2401, L_60025, L_100000, L_1000000, L_100000000, L_2000000000, nI_add, pk_mul, nI_clamp, nI_leI, nI_ltI, nI_eq, kin_I, pk_sub, nI_m1, m1_nI, nI_am1, kx_max, kx_min, kt_tx, kt_rp, kg_si, kg_sl, kq_si, kq_sl, kv_si, kv_sl, Nat.reduceAdd, Nat.reduceMul, Nat.reduceSub, Nat.reduceEqDiff, Nat.reduceLT, Nat.reduceLeDiff, ne_eq, not_true_eq_false, not_false_eq_true, or_true, true_or, or_false, false_or, and_true, true_and, false_and, and_false, if_true, if_false, ite_true, ite_false, reduceIte, kl_0, kl_1, kl_2, kl_3, kl_6, kl_20, kl_50, kl_500, kl_999, kl_2400, kl_2g, in_t, in_tt, in_f, in_ff, in_n, if_pos, if_neg, eq_self, nI_n1, n1_nI, nI_an1, lesser_n1, lesser_rn, lesser_n, kx_n1, e2, es, cWo, eo] at hc_; subst hc_; with_reducible refine Wp_bvs ?_) | (with_reducible refine Wp_t (by (first | (simp (disch := omega) only [L_0, L_1, L_2, L_3, L_4, L_5, L_6, L_7, L_8, L_9, L_10, L_11, L_12, L_16, L_18, L_20, L_24, L_25, L_30, L_32, L_38, L_40, L_48, L_50, L_60, L_63, L_64, L_72, L_99, L_100, L_160, L_500, L_999, L_1380, L_1400, L_2400, L_2401, L_60025, L_100000, L_1000000, L_100000000, L_2000000000, nI_add, pk_mul, nI_clamp, nI_leI, nI_ltI, nI_eq, kin_I, pk_sub, nI_m1, m1_nI, nI_am1, kx_max, kx_min, kt_tx, kt_rp, kg_si, kg_sl, kq_si, kq_sl, kv_si, kv_sl, Nat.reduceAdd, Nat.reduceMul, Nat.reduceSub, Nat.reduceEqDiff, Nat.reduceLT, Nat.reduceLeDiff, ne_eq, not_true_eq_false, not_false_eq_true, or_true, true_or, or_false, false_or, and_true, true_and, false_and, and_false, if_true, if_false, ite_true, ite_false, reduceIte, kl_0, kl_1, kl_2, kl_3, kl_6, kl_20, kl_50, kl_500, kl_999, kl_2400, kl_2g, in_t, in_tt, in_f, in_ff, in_n, if_pos, if_neg, eq_self, nI_n1, n1_nI, nI_an1, lesser_n1, lesser_rn, lesser_n, kx_n1, e2, es, cWo, eo]; done) | (simp (disch := omega) only [L_0, L_1, L_2, L_3, L_4, L_5, L_6, L_7, L_8, L_9, L_10, L_11, L_12, L_16, L_18, L_20, L_24, L_25, L_30, L_32, L_38, L_40, L_48, L_50, L_60, L_63, L_64, L_72, L_99, L_100, L_160, L_500, L_999, L_1380, L_1400, L_2400, L_2401, L_60025, L_100000, L_1000000, L_100000000, L_2000000000, nI_add, pk_mul, nI_clamp, nI_leI, nI_ltI, nI_eq, kin_I, pk_sub, nI_m1, m1_nI, nI_am1, kx_max, kx_min, kt_tx, kt_rp, kg_si, kg_sl, kq_si, kq_sl, kv_si, kv_sl, Nat.reduceAdd, Nat.reduceMul, Nat.reduceSub, Nat.reduceEqDiff, Nat.reduceLT, Nat.reduceLeDiff, ne_eq, not_true_eq_false, not_false_eq_true, or_true, true_or, or_false, false_or, and_true, true_and, false_and, and_false, if_true, if_false, ite_true, ite_false, reduceIte, kl_0, kl_1, kl_2, kl_3, kl_6, kl_20, kl_50, kl_500, kl_999, kl_2400, kl_2g, in_t, in_tt, in_f, in_ff, in_n, if_pos, if_neg, eq_self, nI_n1, n1_nI, nI_an1, lesser_n1, lesser_rn, lesser_n, kx_n1, e2, es, cWo, eo]; omega) | decide)) ?_) | (with_reducible refine Wp_f (by (first | (simp (disch := omega) only [L_0, L_1, L_2, L_3, L_4, L_5, L_6, L_7, L_8, L_9, L_10, L_11, L_12, L_16, L_18, L_20, L_24, L_25, L_30, L_32, L_38, L_40, L_48, L_50, L_60, L_63, L_64, L_72, L_99, L_100, L_160, L_500, L_999, L_1380, L_1400, L_2400, L_2401, L_60025, L_100000, L_1000000, L_100000000, L_2000000000, nI_add, pk_mul, nI_clamp, nI_leI, nI_ltI, nI_eq, kin_I, pk_sub, nI_m1, m1_nI, nI_am1, kx_max, kx_min, kt_tx, kt_rp, kg_si, kg_sl, kq_si, kq_sl, kv_si, kv_sl, Nat.reduceAdd, Nat.reduceMul, Nat.reduceSub, Nat.reduceEqDiff, Nat.reduceLT, Nat.reduceLeDiff, ne_eq, not_true_eq_false, not_false_eq_true, or_true, true_or, or_false, false_or, and_true, true_and, false_and, and_false, if_true, if_false, ite_true, ite_false, reduceIte, kl_0, kl_1, kl_2, kl_3, kl_6, kl_20, kl_50, kl_500, kl_999, kl_2400, kl_2g, in_t, in_tt, in_f, in_ff, in_n, if_pos, if_neg, eq_self, nI_n1, n1_nI, nI_an1, lesser_n1, lesser_rn, lesser_n, kx_n1, e2, es, cWo, eo]; done) | (simp (disch := omega) only [L_0, L_1, L_2, L_3, L_4, L_5, L_6, L_7, L_8, L_9, L_10, L_11, L_12, L_16, L_18, L_20, L_24, L_25, L_30, L_32, L_38, L_40, L_48, L_50, L_60, L_63, L_64, L_72, L_99, L_100, L_160, L_500, L_999, L_1380, L_1400, L_2400, L_2401, L_60025, L_100000, L_1000000, L_100000000, L_2000000000, nI_add, pk_mul, nI_clamp, nI_leI, nI_ltI, nI_eq, kin_I, pk_sub, nI_m1, m1_nI, nI_am1, kx_max, kx_min, kt_tx, kt_rp, kg_si, kg_sl, kq_si, kq_sl, kv_si, kv_sl, Nat.reduceAdd, Nat.reduceMul, Nat.reduceSub, Nat.reduceEqDiff, Nat.reduceLT, Nat.reduceLeDiff, ne_eq, not_true_eq_false, not_false_eq_true, or_true, true_or, or_false, false_or, and_true, true_and, false_and, and_false, if_true, if_false, ite_true, ite_false, reduceIte, kl_0, kl_1, kl_2, kl_3, kl_6, kl_20, kl_50, kl_500, kl_999, kl_2400, kl_2g, in_t, in_tt, in_f, in_ff, in_n, if_pos, if_neg, eq_self, nI_n1, n1_nI, nI_an1, lesser_n1, lesser_rn, lesser_n, kx_n1, e2, es, cWo, eo]; omega) | decide)) ?_))); try simp (disch := omega) only [nI_1, kt_rp, kt_tx]
        unfold f_X4_studyAhead_123
        (repeat (first | with_reducible refine Wp_some ?_ | (with_reducible refine Wp_letI ?_; intro v_ hv_; (try simp (disch := omega) only [L_0, L_1, L_2, L_3, L_4, L_5, L_6, L_7, L_8, L_9, L_10, L_11, L_12, L_16, L_18, L_20, L_24, L_25, L_30, L_32, L_38, L_40, L_48, L_50, L_60, L_63, L_64, L_72, L_99, L_100, L_160, L_500, L_999, L_1380, L_1400, L_2400, L_2401, L_60025, L_100000, L_1000000, L_100000000, L_2000000000, nI_add, pk_mul, nI_clamp, nI_leI, nI_ltI, nI_eq, kin_I, pk_sub, nI_m1, m1_nI, nI_am1, kx_max, kx_min, kt_tx, kt_rp, kg_si, kg_sl, kq_si, kq_sl, kv_si, kv_sl, Nat.reduceAdd, Nat.reduceMul, Nat.reduceSub, Nat.reduceEqDiff, Nat.reduceLT, Nat.reduceLeDiff, ne_eq, not_true_eq_false, not_false_eq_true, or_true, true_or, or_false, false_or, and_true, true_and, false_and, and_false, if_true, if_false, ite_true, ite_false, reduceIte, kl_0, kl_1, kl_2, kl_3, kl_6, kl_20, kl_50, kl_500, kl_999, kl_2400, kl_2g, in_t, in_tt, in_f, in_ff, in_n, if_pos, if_neg, eq_self, nI_n1, n1_nI, nI_an1, lesser_n1, lesser_rn, lesser_n, kx_n1] at hv_); subst hv_) | (with_reducible refine Wp_biI ?_; intro c_ hc_; simp (disch := omega) only [L_0, L_1, L_2, L_3, L_4, L_5, L_6, L_7, L_8, L_9, L_10, L_11, L_12, L_16, L_18, L_20, L_24, L_25, L_30, L_32, L_38, L_40, L_48, L_50, L_60, L_63, L_64, L_72, L_99, L_100, L_160, L_500, L_999, L_1380, L_1400, L_2400, L_2401, L_60025, L_100000, L_1000000, L_100000000, L_2000000000, nI_add, pk_mul, nI_clamp, nI_leI, nI_ltI, nI_eq, kin_I, pk_sub, nI_m1, m1_nI, nI_am1, kx_max, kx_min, kt_tx, kt_rp, kg_si, kg_sl, kq_si, kq_sl, kv_si, kv_sl, Nat.reduceAdd, Nat.reduceMul, Nat.reduceSub, Nat.reduceEqDiff, Nat.reduceLT, Nat.reduceLeDiff, ne_eq, not_true_eq_false, not_false_eq_true, or_true, true_or, or_false, false_or, and_true, true_and, false_and, and_false, if_true, if_false, ite_true, ite_false, reduceIte, kl_0, kl_1, kl_2, kl_3, kl_6, kl_20, kl_50, kl_500, kl_999, kl_2400, kl_2g, in_t, in_tt, in_f, in_ff, in_n, if_pos, if_neg, eq_self, nI_n1, n1_nI, nI_an1, lesser_n1, lesser_rn, lesser_n, kx_n1] at hc_; subst hc_; with_reducible refine Wp_bis ?_) | (with_reducible refine Wp_bvI ?_; intro c_ hc_; simp (disch := omega) only [L_0, L_1, L_2, L_3, L_4, L_5, L_6, L_7, L_8, L_9, L_10, L_11, L_12, L_16, L_18, L_20, L_24, L_25, L_30, L_32, L_38, L_40, L_48, L_50, L_60, L_63, L_64, L_72, L_99, L_100, L_160, L_500, L_999, L_1380, L_1400, L_2400, L_2401, L_60025, L_100000, L_1000000, L_100000000, L_2000000000, nI_add, pk_mul, nI_clamp, nI_leI, nI_ltI, nI_eq, kin_I, pk_sub, nI_m1, m1_nI, nI_am1, kx_max, kx_min, kt_tx, kt_rp, kg_si, kg_sl, kq_si, kq_sl, kv_si, kv_sl, Nat.reduceAdd, Nat.reduceMul, Nat.reduceSub, Nat.reduceEqDiff, Nat.reduceLT, Nat.reduceLeDiff, ne_eq, not_true_eq_false, not_false_eq_true, or_true, true_or, or_false, false_or, and_true, true_and, false_and, and_false, if_true, if_false, ite_true, ite_false, reduceIte, kl_0, kl_1, kl_2, kl_3, kl_6, kl_20, kl_50, kl_500, kl_999, kl_2400, kl_2g, in_t, in_tt, in_f, in_ff, in_n, if_pos, if_neg, eq_self, nI_n1, n1_nI, nI_an1, lesser_n1, lesser_rn, lesser_n, kx_n1] at hc_; subst hc_; with_reducible refine Wp_bvs ?_) | (with_reducible refine Wp_t (by (first | (simp (disch := omega) only [L_0, L_1, L_2, L_3, L_4, L_5, L_6, L_7, L_8, L_9, L_10, L_11, L_12, L_16, L_18, L_20, L_24, L_25, L_30, L_32, L_38, L_40, L_48, L_50, L_60, L_63, L_64, L_72, L_99, L_100, L_160, L_500, L_999, L_1380, L_1400, L_2400, L_2401, L_60025, L_100000, L_1000000, L_100000000, L_2000000000, nI_add, pk_mul, nI_clamp, nI_leI, nI_ltI, nI_eq, kin_I, pk_sub, nI_m1, m1_nI, nI_am1, kx_max, kx_min, kt_tx, kt_rp, kg_si, kg_sl, kq_si, kq_sl, kv_si, kv_sl, Nat.reduceAdd, Nat.reduceMul, Nat.reduceSub, Nat.reduceEqDiff, Nat.reduceLT, Nat.reduceLeDiff, ne_eq, not_true_eq_false, not_false_eq_true, or_true, true_or, or_false, false_or, and_true, true_and, false_and, and_false, if_true, if_false, ite_true, ite_false, reduceIte, kl_0, kl_1, kl_2, kl_3, kl_6, kl_20, kl_50, kl_500, kl_999, kl_2400, kl_2g, in_t, in_tt, in_f, in_ff, in_n, if_pos, if_neg, eq_self, nI_n1, n1_nI, nI_an1, lesser_n1, lesser_rn, lesser_n, kx_n1]; done) | (simp (disch := omega) only [L_0, L_1, L_2, L_3, L_4, L_5, L_6, L_7, L_8, L_9, L_10, L_11, L_12, L_16, L_18, L_20, L_24, L_25, L_30, L_32, L_38, L_40, L_48, L_50, L_60, L_63, L_64, L_72, L_99, L_100, L_160, L_500, L_999, L_1380, L_1400, L_2400, L_2401, L_60025, L_100000, L_1000000, L_100000000, L_2000000000, nI_add, pk_mul, nI_clamp, nI_leI, nI_ltI, nI_eq, kin_I, pk_sub, nI_m1, m1_nI, nI_am1, kx_max, kx_min, kt_tx, kt_rp, kg_si, kg_sl, kq_si, kq_sl, kv_si, kv_sl, Nat.reduceAdd, Nat.reduceMul, Nat.reduceSub, Nat.reduceEqDiff, Nat.reduceLT, Nat.reduceLeDiff, ne_eq, not_true_eq_false, not_false_eq_true, or_true, true_or, or_false, false_or, and_true, true_and, false_and, and_false, if_true, if_false, ite_true, ite_false, reduceIte, kl_0, kl_1, kl_2, kl_3, kl_6, kl_20, kl_50, kl_500, kl_999, kl_2400, kl_2g, in_t, in_tt, in_f, in_ff, in_n, if_pos, if_neg, eq_self, nI_n1, n1_nI, nI_an1, lesser_n1, lesser_rn, lesser_n, kx_n1]; omega) | decide)) ?_) | (with_reducible refine Wp_f (by (first | (simp (disch := omega) only [L_0, L_1, L_2, L_3, L_4, L_5, L_6, L_7, L_8, L_9, L_10, L_11, L_12, L_16, L_18, L_20, L_24, L_25, L_30, L_32, L_38, L_40, L_48, L_50, L_60, L_63, L_64, L_72, L_99, L_100, L_160, L_500, L_999, L_1380, L_1400, L_2400, L_2401, L_60025, L_100000, L_1000000, L_100000000, L_2000000000, nI_add, pk_mul, nI_clamp, nI_leI, nI_ltI, nI_eq, kin_I, pk_sub, nI_m1, m1_nI, nI_am1, kx_max, kx_min, kt_tx, kt_rp, kg_si, kg_sl, kq_si, kq_sl, kv_si, kv_sl, Nat.reduceAdd, Nat.reduceMul, Nat.reduceSub, Nat.reduceEqDiff, Nat.reduceLT, Nat.reduceLeDiff, ne_eq, not_true_eq_false, not_false_eq_true, or_true, true_or, or_false, false_or, and_true, true_and, false_and, and_false, if_true, if_false, ite_true, ite_false, reduceIte, kl_0, kl_1, kl_2, kl_3, kl_6, kl_20, kl_50, kl_500, kl_999, kl_2400, kl_2g, in_t, in_tt, in_f, in_ff, in_n, if_pos, if_neg, eq_self, nI_n1, n1_nI, nI_an1, lesser_n1, lesser_rn, lesser_n, kx_n1]; done) | (simp (disch := omega) only [L_0, L_1, L_2, L_3, L_4, L_5, L_6, L_7, L_8, L_9, L_10, L_11, L_12, L_16, L_18, L_20, L_24, L_25, L_30, L_32, L_38, L_40, L_48, L_50, L_60, L_63, L_64, L_72, L_99, L_100, L_160, L_500, L_999, L_1380, L_1400, L_2400, L_2401, L_60025, L_100000, L_1000000, L_100000000, L_2000000000, nI_add, pk_mul, nI_clamp, nI_leI, nI_ltI, nI_eq, kin_I, pk_sub, nI_m1, m1_nI, nI_am1, kx_max, kx_min, kt_tx, kt_rp, kg_si, kg_sl, kq_si, kq_sl, kv_si, kv_sl, Nat.reduceAdd, Nat.reduceMul, Nat.reduceSub, Nat.reduceEqDiff, Nat.reduceLT, Nat.reduceLeDiff, ne_eq, not_true_eq_false, not_false_eq_true, or_true, true_or, or_false, false_or, and_true, true_and, false_and, and_false, if_true, if_false, ite_true, ite_false, reduceIte, kl_0, kl_1, kl_2, kl_3, kl_6, kl_20, kl_50, kl_500, kl_999, kl_2400, kl_2g, in_t, in_tt, in_f, in_ff, in_n, if_pos, if_neg, eq_self, nI_n1, n1_nI, nI_an1, lesser_n1, lesser_rn, lesser_n, kx_n1]; omega) | decide)) ?_))); try simp (disch := omega) only [nI_1, kt_rp, kt_tx]
        refine h M hR (fun j hj => ?_) hF
        obtain ⟨o', q1, q2⟩ := hA j hj
        refine ⟨o', q1, idC_ q2 (fun s => ⟨fun q => ?_, fun q => ?_⟩)⟩
        · rcases q with q | ⟨f', w', r1, r2⟩
          · exact Or.inl q
          · exact Or.inr ⟨f', w', Or.inl (by omega), r2⟩
        · rcases q with q | ⟨f', w', r1, r2, r3, r4, r5, r6⟩
          · exact Or.inl q
          · by_cases e : f' = f
            · rw [e] at r6
              exact absurd r6 (idZ_ dp ho _)
            · exact Or.inr ⟨f', w', Or.inl (by omega), r2, r3, r4, r5, r6⟩
      | some v =>
        rw [ho] at eo dp
        have eo : M.1 321 f = nI v := eo
        have hv := (pa_b hV (dp.1 v rfl)).2.1
        have hh : f_X7_holds 316 (g + 11 + 2 * w) (nI f) M = some (if hW G n k w f = true then 1 else 0, M) := holds_ok hTx (hK.txw hw) f (by omega)
        by_cases d : hW G n k w f = true
        · rw [if_pos d] at hh
          have hin := (hW_iff.mp d).1
          obtain ⟨u, eu, du⟩ := hA (f + gL G w) hin
          have hvb : ∀ z, some (v + gMn G w) = some z → z < 2 ^ 31 := fun z hz => by
            have hz : v + gMn G w = z := by simpa using hz
            omega
          have hle : f_X11_lesser (kw_e u) (nI (v + gMn G w)) M = some (kw_e (kw_m u (some (v + gMn G w))), M) := kw_les (b := some (v + gMn G w)) (fun z hz => by have := ahP_b hV (du.1 z hz); omega) hvb M
          (repeat (first | with_reducible refine Wp_some ?_ | (with_reducible refine Wp_letI ?_; intro v_ hv_; (try simp (disch := omega) only [L_0, L_1, L_2, L_3, L_4, L_5, L_6, L_7, L_8, L_9, L_10, L_11, L_12, L_16, L_18, L_20, L_24, L_25, L_30, L_32, L_38, L_40, L_48, L_50, L_60, L_63, L_64, L_72, L_99, L_100, L_160, L_500, L_999, L_1380, L_1400, L_2400, L_2401, L_60025, L_100000, L_1000000, L_100000000, L_2000000000, nI_add, pk_mul, nI_clamp, nI_leI, nI_ltI, nI_eq, kin_I, pk_sub, nI_m1, m1_nI, nI_am1, kx_max, kx_min, kt_tx, kt_rp, kg_si, kg_sl, kq_si, kq_sl, kv_si, kv_sl, Nat.reduceAdd, Nat.reduceMul, Nat.reduceSub, Nat.reduceEqDiff, Nat.reduceLT, Nat.reduceLeDiff, ne_eq, not_true_eq_false, not_false_eq_true, or_true, true_or, or_false, false_or, and_true, true_and, false_and, and_false, if_true, if_false, ite_true, ite_false, reduceIte, kl_0, kl_1, kl_2, kl_3, kl_6, kl_20, kl_50, kl_500, kl_999, kl_2400, kl_2g, in_t, in_tt, in_f, in_ff, in_n, if_pos, if_neg, eq_self, nI_n1, n1_nI, nI_an1, lesser_n1, lesser_rn, lesser_n, kx_n1, e2, es, cWo, eo, hh, cL w hw, eu, cMn w hw, hle] at hv_); subst hv_) | (with_reducible refine Wp_biI ?_; intro c_ hc_; simp (disch := omega) only [L_0, L_1, L_2, L_3, L_4, L_5, L_6, L_7, L_8, L_9, L_10, L_11, L_12, L_16, L_18, L_20, L_24, L_25, L_30, L_32, L_38, L_40, L_48, L_50, L_60, L_63, L_64, L_72, L_99, L_100, L_160, L_500, L_999, L_1380, L_1400, L_2400, L_2401, L_60025, L_100000, L_1000000, L_100000000, L_2000000000, nI_add, pk_mul, nI_clamp, nI_leI, nI_ltI, nI_eq, kin_I, pk_sub, nI_m1, m1_nI, nI_am1, kx_max, kx_min, kt_tx, kt_rp, kg_si, kg_sl, kq_si, kq_sl, kv_si, kv_sl, Nat.reduceAdd, Nat.reduceMul, Nat.reduceSub, Nat.reduceEqDiff, Nat.reduceLT, Nat.reduceLeDiff, ne_eq, not_true_eq_false, not_false_eq_true, or_true, true_or, or_false, false_or, and_true, true_and, false_and, and_false, if_true, if_false, ite_true, ite_false, reduceIte, kl_0, kl_1, kl_2, kl_3, kl_6, kl_20, kl_50, kl_500, kl_999, kl_2400, kl_2g, in_t, in_tt, in_f, in_ff, in_n, if_pos, if_neg, eq_self, nI_n1, n1_nI, nI_an1, lesser_n1, lesser_rn, lesser_n, kx_n1, e2, es, cWo, eo, hh, cL w hw, eu, cMn w hw, hle] at hc_; subst hc_; with_reducible refine Wp_bis ?_) | (with_reducible refine Wp_bvI ?_; intro c_ hc_; simp (disch := omega) only [L_0, L_1, L_2, L_3, L_4, L_5, L_6, L_7, L_8, L_9, L_10, L_11, L_12, L_16, L_18, L_20, L_24, L_25, L_30, L_32, L_38, L_40, L_48, L_50, L_60, L_63, L_64, L_72, L_99, L_100, L_160, L_500, L_999, L_1380, L_1400, L_2400, L_2401, L_60025, L_100000, L_1000000, L_100000000, L_2000000000, nI_add, pk_mul, nI_clamp, nI_leI, nI_ltI, nI_eq, kin_I, pk_sub, nI_m1, m1_nI, nI_am1, kx_max, kx_min, kt_tx, kt_rp, kg_si, kg_sl, kq_si, kq_sl, kv_si, kv_sl, Nat.reduceAdd, Nat.reduceMul, Nat.reduceSub, Nat.reduceEqDiff, Nat.reduceLT, Nat.reduceLeDiff, ne_eq, not_true_eq_false, not_false_eq_true, or_true, true_or, or_false, false_or, and_true, true_and, false_and, and_false, if_true, if_false, ite_true, ite_false, reduceIte, kl_0, kl_1, kl_2, kl_3, kl_6, kl_20, kl_50, kl_500, kl_999, kl_2400, kl_2g, in_t, in_tt, in_f, in_ff, in_n, if_pos, if_neg, eq_self, nI_n1, n1_nI, nI_an1, lesser_n1, lesser_rn, lesser_n, kx_n1, e2, es, cWo, eo, hh, cL w hw, eu, cMn w hw, hle] at hc_; subst hc_; with_reducible refine Wp_bvs ?_) | (with_reducible refine Wp_t (by (first | (simp (disch := omega) only [L_0, L_1, L_2, L_3, L_4, L_5, L_6, L_7, L_8, L_9, L_10, L_11, L_12, L_16, L_18, L_20, L_24, L_25, L_30, L_32, L_38, L_40, L_48, L_50, L_60, L_63, L_64, L_72, L_99, L_100, L_160, L_500, L_999, L_1380, L_1400, L_2400, L_2401, L_60025, L_100000, L_1000000, L_100000000, L_2000000000, nI_add, pk_mul, nI_clamp, nI_leI, nI_ltI, nI_eq, kin_I, pk_sub, nI_m1, m1_nI, nI_am1, kx_max, kx_min, kt_tx, kt_rp, kg_si, kg_sl, kq_si, kq_sl, kv_si, kv_sl, Nat.reduceAdd, Nat.reduceMul, Nat.reduceSub, Nat.reduceEqDiff, Nat.reduceLT, Nat.reduceLeDiff, ne_eq, not_true_eq_false, not_false_eq_true, or_true, true_or, or_false, false_or, and_true, true_and, false_and, and_false, if_true, if_false, ite_true, ite_false, reduceIte, kl_0, kl_1, kl_2, kl_3, kl_6, kl_20, kl_50, kl_500, kl_999, kl_2400, kl_2g, in_t, in_tt, in_f, in_ff, in_n, if_pos, if_neg, eq_self, nI_n1, n1_nI, nI_an1, lesser_n1, lesser_rn, lesser_n, kx_n1, e2, es, cWo, eo, hh, cL w hw, eu, cMn w hw, hle]; done) | (simp (disch := omega) only [L_0, L_1, L_2, L_3, L_4, L_5, L_6, L_7, L_8, L_9, L_10, L_11, L_12, L_16, L_18, L_20, L_24, L_25, L_30, L_32, L_38, L_40, L_48, L_50, L_60, L_63, L_64, L_72, L_99, L_100, L_160, L_500, L_999, L_1380, L_1400, L_2400, L_2401, L_60025, L_100000, L_1000000, L_100000000, L_2000000000, nI_add, pk_mul, nI_clamp, nI_leI, nI_ltI, nI_eq, kin_I, pk_sub, nI_m1, m1_nI, nI_am1, kx_max, kx_min, kt_tx, kt_rp, kg_si, kg_sl, kq_si, kq_sl, kv_si, kv_sl, Nat.reduceAdd, Nat.reduceMul, Nat.reduceSub, Nat.reduceEqDiff, Nat.reduceLT, Nat.reduceLeDiff, ne_eq, not_true_eq_false, not_false_eq_true, or_true, true_or, or_false, false_or, and_true, true_and, false_and, and_false, if_true, if_false, ite_true, ite_false, reduceIte, kl_0, kl_1, kl_2, kl_3, kl_6, kl_20, kl_50, kl_500, kl_999, kl_2400, kl_2g, in_t, in_tt, in_f, in_ff, in_n, if_pos, if_neg, eq_self, nI_n1, n1_nI, nI_an1, lesser_n1, lesser_rn, lesser_n, kx_n1, e2, es, cWo, eo, hh, cL w hw, eu, cMn w hw, hle]; omega) | decide)) ?_) | (with_reducible refine Wp_f (by (first | (simp (disch := omega) only [L_0, L_1, L_2, L_3, L_4, L_5, L_6, L_7, L_8, L_9, L_10, L_11, L_12, L_16, L_18, L_20, L_24, L_25, L_30, L_32, L_38, L_40, L_48, L_50, L_60, L_63, L_64, L_72, L_99, L_100, L_160, L_500, L_999, L_1380, L_1400, L_2400, L_2401, L_60025, L_100000, L_1000000, L_100000000, L_2000000000, nI_add, pk_mul, nI_clamp, nI_leI, nI_ltI, nI_eq, kin_I, pk_sub, nI_m1, m1_nI, nI_am1, kx_max, kx_min, kt_tx, kt_rp, kg_si, kg_sl, kq_si, kq_sl, kv_si, kv_sl, Nat.reduceAdd, Nat.reduceMul, Nat.reduceSub, Nat.reduceEqDiff, Nat.reduceLT, Nat.reduceLeDiff, ne_eq, not_true_eq_false, not_false_eq_true, or_true, true_or, or_false, false_or, and_true, true_and, false_and, and_false, if_true, if_false, ite_true, ite_false, reduceIte, kl_0, kl_1, kl_2, kl_3, kl_6, kl_20, kl_50, kl_500, kl_999, kl_2400, kl_2g, in_t, in_tt, in_f, in_ff, in_n, if_pos, if_neg, eq_self, nI_n1, n1_nI, nI_an1, lesser_n1, lesser_rn, lesser_n, kx_n1, e2, es, cWo, eo, hh, cL w hw, eu, cMn w hw, hle]; done) | (simp (disch := omega) only [L_0, L_1, L_2, L_3, L_4, L_5, L_6, L_7, L_8, L_9, L_10, L_11, L_12, L_16, L_18, L_20, L_24, L_25, L_30, L_32, L_38, L_40, L_48, L_50, L_60, L_63, L_64, L_72, L_99, L_100, L_160, L_500, L_999, L_1380, L_1400, L_2400, L_2401, L_60025, L_100000, L_1000000, L_100000000, L_2000000000, nI_add, pk_mul, nI_clamp, nI_leI, nI_ltI, nI_eq, kin_I, pk_sub, nI_m1, m1_nI, nI_am1, kx_max, kx_min, kt_tx, kt_rp, kg_si, kg_sl, kq_si, kq_sl, kv_si, kv_sl, Nat.reduceAdd, Nat.reduceMul, Nat.reduceSub, Nat.reduceEqDiff, Nat.reduceLT, Nat.reduceLeDiff, ne_eq, not_true_eq_false, not_false_eq_true, or_true, true_or, or_false, false_or, and_true, true_and, false_and, and_false, if_true, if_false, ite_true, ite_false, reduceIte, kl_0, kl_1, kl_2, kl_3, kl_6, kl_20, kl_50, kl_500, kl_999, kl_2400, kl_2g, in_t, in_tt, in_f, in_ff, in_n, if_pos, if_neg, eq_self, nI_n1, n1_nI, nI_an1, lesser_n1, lesser_rn, lesser_n, kx_n1, e2, es, cWo, eo, hh, cL w hw, eu, cMn w hw, hle]; omega) | decide)) ?_))); try simp (disch := omega) only [nI_1, kt_rp, kt_tx]
          unfold f_X4_studyAhead_117
          (repeat (first | with_reducible refine Wp_some ?_ | (with_reducible refine Wp_letI ?_; intro v_ hv_; (try simp (disch := omega) only [L_0, L_1, L_2, L_3, L_4, L_5, L_6, L_7, L_8, L_9, L_10, L_11, L_12, L_16, L_18, L_20, L_24, L_25, L_30, L_32, L_38, L_40, L_48, L_50, L_60, L_63, L_64, L_72, L_99, L_100, L_160, L_500, L_999, L_1380, L_1400, L_2400, L_2401, L_60025, L_100000, L_1000000, L_100000000, L_2000000000, nI_add, pk_mul, nI_clamp, nI_leI, nI_ltI, nI_eq, kin_I, pk_sub, nI_m1, m1_nI, nI_am1, kx_max, kx_min, kt_tx, kt_rp, kg_si, kg_sl, kq_si, kq_sl, kv_si, kv_sl, Nat.reduceAdd, Nat.reduceMul, Nat.reduceSub, Nat.reduceEqDiff, Nat.reduceLT, Nat.reduceLeDiff, ne_eq, not_true_eq_false, not_false_eq_true, or_true, true_or, or_false, false_or, and_true, true_and, false_and, and_false, if_true, if_false, ite_true, ite_false, reduceIte, kl_0, kl_1, kl_2, kl_3, kl_6, kl_20, kl_50, kl_500, kl_999, kl_2400, kl_2g, in_t, in_tt, in_f, in_ff, in_n, if_pos, if_neg, eq_self, nI_n1, n1_nI, nI_an1, lesser_n1, lesser_rn, lesser_n, kx_n1] at hv_); subst hv_) | (with_reducible refine Wp_biI ?_; intro c_ hc_; simp (disch := omega) only [L_0, L_1, L_2, L_3, L_4, L_5, L_6, L_7, L_8, L_9, L_10, L_11, L_12, L_16, L_18, L_20, L_24, L_25, L_30, L_32, L_38, L_40, L_48, L_50, L_60, L_63, L_64, L_72, L_99, L_100, L_160, L_500, L_999, L_1380, L_1400, L_2400, L_2401, L_60025, L_100000, L_1000000, L_100000000, L_2000000000, nI_add, pk_mul, nI_clamp, nI_leI, nI_ltI, nI_eq, kin_I, pk_sub, nI_m1, m1_nI, nI_am1, kx_max, kx_min, kt_tx, kt_rp, kg_si, kg_sl, kq_si, kq_sl, kv_si, kv_sl, Nat.reduceAdd, Nat.reduceMul, Nat.reduceSub, Nat.reduceEqDiff, Nat.reduceLT, Nat.reduceLeDiff, ne_eq, not_true_eq_false, not_false_eq_true, or_true, true_or, or_false, false_or, and_true, true_and, false_and, and_false, if_true, if_false, ite_true, ite_false, reduceIte, kl_0, kl_1, kl_2, kl_3, kl_6, kl_20, kl_50, kl_500, kl_999, kl_2400, kl_2g, in_t, in_tt, in_f, in_ff, in_n, if_pos, if_neg, eq_self, nI_n1, n1_nI, nI_an1, lesser_n1, lesser_rn, lesser_n, kx_n1] at hc_; subst hc_; with_reducible refine Wp_bis ?_) | (with_reducible refine Wp_bvI ?_; intro c_ hc_; simp (disch := omega) only [L_0, L_1, L_2, L_3, L_4, L_5, L_6, L_7, L_8, L_9, L_10, L_11, L_12, L_16, L_18, L_20, L_24, L_25, L_30, L_32, L_38, L_40, L_48, L_50, L_60, L_63, L_64, L_72, L_99, L_100, L_160, L_500, L_999, L_1380, L_1400, L_2400, L_2401, L_60025, L_100000, L_1000000, L_100000000, L_2000000000, nI_add, pk_mul, nI_clamp, nI_leI, nI_ltI, nI_eq, kin_I, pk_sub, nI_m1, m1_nI, nI_am1, kx_max, kx_min, kt_tx, kt_rp, kg_si, kg_sl, kq_si, kq_sl, kv_si, kv_sl, Nat.reduceAdd, Nat.reduceMul, Nat.reduceSub, Nat.reduceEqDiff, Nat.reduceLT, Nat.reduceLeDiff, ne_eq, not_true_eq_false, not_false_eq_true, or_true, true_or, or_false, false_or, and_true, true_and, false_and, and_false, if_true, if_false, ite_true, ite_false, reduceIte, kl_0, kl_1, kl_2, kl_3, kl_6, kl_20, kl_50, kl_500, kl_999, kl_2400, kl_2g, in_t, in_tt, in_f, in_ff, in_n, if_pos, if_neg, eq_self, nI_n1, n1_nI, nI_an1, lesser_n1, lesser_rn, lesser_n, kx_n1] at hc_; subst hc_; with_reducible refine Wp_bvs ?_) | (with_reducible refine Wp_t (by (first | (simp (disch := omega) only [L_0, L_1, L_2, L_3, L_4, L_5, L_6, L_7, L_8, L_9, L_10, L_11, L_12, L_16, L_18, L_20, L_24, L_25, L_30, L_32, L_38, L_40, L_48, L_50, L_60, L_63, L_64, L_72, L_99, L_100, L_160, L_500, L_999, L_1380, L_1400, L_2400, L_2401, L_60025, L_100000, L_1000000, L_100000000, L_2000000000, nI_add, pk_mul, nI_clamp, nI_leI, nI_ltI, nI_eq, kin_I, pk_sub, nI_m1, m1_nI, nI_am1, kx_max, kx_min, kt_tx, kt_rp, kg_si, kg_sl, kq_si, kq_sl, kv_si, kv_sl, Nat.reduceAdd, Nat.reduceMul, Nat.reduceSub, Nat.reduceEqDiff, Nat.reduceLT, Nat.reduceLeDiff, ne_eq, not_true_eq_false, not_false_eq_true, or_true, true_or, or_false, false_or, and_true, true_and, false_and, and_false, if_true, if_false, ite_true, ite_false, reduceIte, kl_0, kl_1, kl_2, kl_3, kl_6, kl_20, kl_50, kl_500, kl_999, kl_2400, kl_2g, in_t, in_tt, in_f, in_ff, in_n, if_pos, if_neg, eq_self, nI_n1, n1_nI, nI_an1, lesser_n1, lesser_rn, lesser_n, kx_n1]; done) | (simp (disch := omega) only [L_0, L_1, L_2, L_3, L_4, L_5, L_6, L_7, L_8, L_9, L_10, L_11, L_12, L_16, L_18, L_20, L_24, L_25, L_30, L_32, L_38, L_40, L_48, L_50, L_60, L_63, L_64, L_72, L_99, L_100, L_160, L_500, L_999, L_1380, L_1400, L_2400, L_2401, L_60025, L_100000, L_1000000, L_100000000, L_2000000000, nI_add, pk_mul, nI_clamp, nI_leI, nI_ltI, nI_eq, kin_I, pk_sub, nI_m1, m1_nI, nI_am1, kx_max, kx_min, kt_tx, kt_rp, kg_si, kg_sl, kq_si, kq_sl, kv_si, kv_sl, Nat.reduceAdd, Nat.reduceMul, Nat.reduceSub, Nat.reduceEqDiff, Nat.reduceLT, Nat.reduceLeDiff, ne_eq, not_true_eq_false, not_false_eq_true, or_true, true_or, or_false, false_or, and_true, true_and, false_and, and_false, if_true, if_false, ite_true, ite_false, reduceIte, kl_0, kl_1, kl_2, kl_3, kl_6, kl_20, kl_50, kl_500, kl_999, kl_2400, kl_2g, in_t, in_tt, in_f, in_ff, in_n, if_pos, if_neg, eq_self, nI_n1, n1_nI, nI_an1, lesser_n1, lesser_rn, lesser_n, kx_n1]; omega) | decide)) ?_) | (with_reducible refine Wp_f (by (first | (simp (disch := omega) only [L_0, L_1, L_2, L_3, L_4, L_5, L_6, L_7, L_8, L_9, L_10, L_11, L_12, L_16, L_18, L_20, L_24, L_25, L_30, L_32, L_38, L_40, L_48, L_50, L_60, L_63, L_64, L_72, L_99, L_100, L_160, L_500, L_999, L_1380, L_1400, L_2400, L_2401, L_60025, L_100000, L_1000000, L_100000000, L_2000000000, nI_add, pk_mul, nI_clamp, nI_leI, nI_ltI, nI_eq, kin_I, pk_sub, nI_m1, m1_nI, nI_am1, kx_max, kx_min, kt_tx, kt_rp, kg_si, kg_sl, kq_si, kq_sl, kv_si, kv_sl, Nat.reduceAdd, Nat.reduceMul, Nat.reduceSub, Nat.reduceEqDiff, Nat.reduceLT, Nat.reduceLeDiff, ne_eq, not_true_eq_false, not_false_eq_true, or_true, true_or, or_false, false_or, and_true, true_and, false_and, and_false, if_true, if_false, ite_true, ite_false, reduceIte, kl_0, kl_1, kl_2, kl_3, kl_6, kl_20, kl_50, kl_500, kl_999, kl_2400, kl_2g, in_t, in_tt, in_f, in_ff, in_n, if_pos, if_neg, eq_self, nI_n1, n1_nI, nI_an1, lesser_n1, lesser_rn, lesser_n, kx_n1]; done) | (simp (disch := omega) only [L_0, L_1, L_2, L_3, L_4, L_5, L_6, L_7, L_8, L_9, L_10, L_11, L_12, L_16, L_18, L_20, L_24, L_25, L_30, L_32, L_38, L_40, L_48, L_50, L_60, L_63, L_64, L_72, L_99, L_100, L_160, L_500, L_999, L_1380, L_1400, L_2400, L_2401, L_60025, L_100000, L_1000000, L_100000000, L_2000000000, nI_add, pk_mul, nI_clamp, nI_leI, nI_ltI, nI_eq, kin_I, pk_sub, nI_m1, m1_nI, nI_am1, kx_max, kx_min, kt_tx, kt_rp, kg_si, kg_sl, kq_si, kq_sl, kv_si, kv_sl, Nat.reduceAdd, Nat.reduceMul, Nat.reduceSub, Nat.reduceEqDiff, Nat.reduceLT, Nat.reduceLeDiff, ne_eq, not_true_eq_false, not_false_eq_true, or_true, true_or, or_false, false_or, and_true, true_and, false_and, and_false, if_true, if_false, ite_true, ite_false, reduceIte, kl_0, kl_1, kl_2, kl_3, kl_6, kl_20, kl_50, kl_500, kl_999, kl_2400, kl_2g, in_t, in_tt, in_f, in_ff, in_n, if_pos, if_neg, eq_self, nI_n1, n1_nI, nI_an1, lesser_n1, lesser_rn, lesser_n, kx_n1]; omega) | decide)) ?_))); try simp (disch := omega) only [nI_1, kt_rp, kt_tx]
          have hfx : ∀ z, Fx (fun a _ => a = 321) M (kr_si M 321 (f + gL G w) z) := fun z => (Fx.refl M).si _ rfl
          refine ih (w + 1) _ (by omega) (by omega) (hR.fx ((hfx _).mono (fun a j q => by have q : a = 321 := q; show a = 315 ∨ (318 ≤ a ∧ a ≤ 322); omega))) (fun j hj => ?_) (hF.trans (hfx _))
          rw [kg_si]
          by_cases e : j = f + gL G w
          · subst e
            rw [if_pos ⟨rfl, rfl⟩]
            refine ⟨_, rfl, idC_ (idM_ du (idA_ dp (gMn G w))) (fun s => ⟨fun q => ?_, fun q => ?_⟩)⟩
            · rcases q with (q | ⟨f', w', r1, r2⟩) | ⟨r1, r2⟩
              · exact Or.inl q
              · exact Or.inr ⟨f', w', by omega, r2⟩
              · exact Or.inr ⟨f, w, Or.inr ⟨rfl, by omega⟩, hw, d, rfl, r1, r2⟩
            · rcases q with q | ⟨f', w', r1, r2, r3, r4, r5, r6⟩
              · exact Or.inl (Or.inl q)
              · by_cases z : f' = f ∧ w' = w
                · obtain ⟨rfl, rfl⟩ := z
                  exact Or.inr ⟨r5, r6⟩
                · exact Or.inl (Or.inr ⟨f', w', by omega, r2, r3, r4, r5, r6⟩)
          · rw [if_neg (fun q => e q.2)]
            obtain ⟨o', q1, q2⟩ := hA j hj
            refine ⟨o', q1, idC_ q2 (fun s => ⟨fun q => ?_, fun q => ?_⟩)⟩
            · rcases q with q | ⟨f', w', r1, r2⟩
              · exact Or.inl q
              · exact Or.inr ⟨f', w', by omega, r2⟩
            · rcases q with q | ⟨f', w', r1, r2, r3, r4, r5, r6⟩
              · exact Or.inl q
              · by_cases z : f' = f ∧ w' = w
                · obtain ⟨rfl, rfl⟩ := z
                  exact absurd r4.symm e
                · exact Or.inr ⟨f', w', by omega, r2, r3, r4, r5, r6⟩
        · rw [if_neg d] at hh
          (repeat (first | with_reducible refine Wp_some ?_ | (with_reducible refine Wp_letI ?_; intro v_ hv_; (try simp (disch := omega) only [L_0, L_1, L_2, L_3, L_4, L_5, L_6, L_7, L_8, L_9, L_10, L_11, L_12, L_16, L_18, L_20, L_24, L_25, L_30, L_32, L_38, L_40, L_48, L_50, L_60, L_63, L_64, L_72, L_99, L_100, L_160, L_500, L_999, L_1380, L_1400, L_2400, L_2401, L_60025, L_100000, L_1000000, L_100000000, L_2000000000, nI_add, pk_mul, nI_clamp, nI_leI, nI_ltI, nI_eq, kin_I, pk_sub, nI_m1, m1_nI, nI_am1, kx_max, kx_min, kt_tx, kt_rp, kg_si, kg_sl, kq_si, kq_sl, kv_si, kv_sl, Nat.reduceAdd, Nat.reduceMul, Nat.reduceSub, Nat.reduceEqDiff, Nat.reduceLT, Nat.reduceLeDiff, ne_eq, not_true_eq_false, not_false_eq_true, or_true, true_or, or_false, false_or, and_true, true_and, false_and, and_false, if_true, if_false, ite_true, ite_false, reduceIte, kl_0, kl_1, kl_2, kl_3, kl_6, kl_20, kl_50, kl_500, kl_999, kl_2400, kl_2g, in_t, in_tt, in_f, in_ff, in_n, if_pos, if_neg, eq_self, nI_n1, n1_nI, nI_an1, lesser_n1, lesser_rn, lesser_n, kx_n1, e2, es, cWo, eo, hh] at hv_); subst hv_) | (with_reducible refine Wp_biI ?_; intro c_ hc_; simp (disch := omega) only [L_0, L_1, L_2, L_3, L_4, L_5, L_6, L_7, L_8, L_9, L_10, L_11, L_12, L_16, L_18, L_20, L_24, L_25, L_30, L_32, L_38, L_40, L_48, L_50, L_60, L_63, L_64, L_72, L_99, L_100, L_160, L_500, L_999, L_1380, L_1400, L_2400, L_2401, L_60025, L_100000, L_1000000, L_100000000, L_2000000000, nI_add, pk_mul, nI_clamp, nI_leI, nI_ltI, nI_eq, kin_I, pk_sub, nI_m1, m1_nI, nI_am1, kx_max, kx_min, kt_tx, kt_rp, kg_si, kg_sl, kq_si, kq_sl, kv_si, kv_sl, Nat.reduceAdd, Nat.reduceMul, Nat.reduceSub, Nat.reduceEqDiff, Nat.reduceLT, Nat.reduceLeDiff, ne_eq, not_true_eq_false, not_false_eq_true, or_true, true_or, or_false, false_or, and_true, true_and, false_and, and_false, if_true, if_false, ite_true, ite_false, reduceIte, kl_0, kl_1, kl_2, kl_3, kl_6, kl_20, kl_50, kl_500, kl_999, kl_2400, kl_2g, in_t, in_tt, in_f, in_ff, in_n, if_pos, if_neg, eq_self, nI_n1, n1_nI, nI_an1, lesser_n1, lesser_rn, lesser_n, kx_n1, e2, es, cWo, eo, hh] at hc_; subst hc_; with_reducible refine Wp_bis ?_) | (with_reducible refine Wp_bvI ?_; intro c_ hc_; simp (disch := omega) only [L_0, L_1, L_2, L_3, L_4, L_5, L_6, L_7, L_8, L_9, L_10, L_11, L_12, L_16, L_18, L_20, L_24, L_25, L_30, L_32, L_38, L_40, L_48, L_50, L_60, L_63, L_64, L_72, L_99, L_100, L_160, L_500, L_999, L_1380, L_1400, L_2400, L_2401, L_60025, L_100000, L_1000000, L_100000000, L_2000000000, nI_add, pk_mul, nI_clamp, nI_leI, nI_ltI, nI_eq, kin_I, pk_sub, nI_m1, m1_nI, nI_am1, kx_max, kx_min, kt_tx, kt_rp, kg_si, kg_sl, kq_si, kq_sl, kv_si, kv_sl, Nat.reduceAdd, Nat.reduceMul, Nat.reduceSub, Nat.reduceEqDiff, Nat.reduceLT, Nat.reduceLeDiff, ne_eq, not_true_eq_false, not_false_eq_true, or_true, true_or, or_false, false_or, and_true, true_and, false_and, and_false, if_true, if_false, ite_true, ite_false, reduceIte, kl_0, kl_1, kl_2, kl_3, kl_6, kl_20, kl_50, kl_500, kl_999, kl_2400, kl_2g, in_t, in_tt, in_f, in_ff, in_n, if_pos, if_neg, eq_self, nI_n1, n1_nI, nI_an1, lesser_n1, lesser_rn, lesser_n, kx_n1, e2, es, cWo, eo, hh] at hc_; subst hc_; with_reducible refine Wp_bvs ?_) | (with_reducible refine Wp_t (by (first | (simp (disch := omega) only [L_0, L_1, L_2, L_3, L_4, L_5, L_6, L_7, L_8, L_9, L_10, L_11, L_12, L_16, L_18, L_20, L_24, L_25, L_30, L_32, L_38, L_40, L_48, L_50, L_60, L_63, L_64, L_72, L_99, L_100, L_160, L_500, L_999, L_1380, L_1400, L_2400, L_2401, L_60025, L_100000, L_1000000, L_100000000, L_2000000000, nI_add, pk_mul, nI_clamp, nI_leI, nI_ltI, nI_eq, kin_I, pk_sub, nI_m1, m1_nI, nI_am1, kx_max, kx_min, kt_tx, kt_rp, kg_si, kg_sl, kq_si, kq_sl, kv_si, kv_sl, Nat.reduceAdd, Nat.reduceMul, Nat.reduceSub, Nat.reduceEqDiff, Nat.reduceLT, Nat.reduceLeDiff, ne_eq, not_true_eq_false, not_false_eq_true, or_true, true_or, or_false, false_or, and_true, true_and, false_and, and_false, if_true, if_false, ite_true, ite_false, reduceIte, kl_0, kl_1, kl_2, kl_3, kl_6, kl_20, kl_50, kl_500, kl_999, kl_2400, kl_2g, in_t, in_tt, in_f, in_ff, in_n, if_pos, if_neg, eq_self, nI_n1, n1_nI, nI_an1, lesser_n1, lesser_rn, lesser_n, kx_n1, e2, es, cWo, eo, hh]; done) | (simp (disch := omega) only [L_0, L_1, L_2, L_3, L_4, L_5, L_6, L_7, L_8, L_9, L_10, L_11, L_12, L_16, L_18, L_20, L_24, L_25, L_30, L_32, L_38, L_40, L_48, L_50, L_60, L_63, L_64, L_72, L_99, L_100, L_160, L_500, L_999, L_1380, L_1400, L_2400, L_2401, L_60025, L_100000, L_1000000, L_100000000, L_2000000000, nI_add, pk_mul, nI_clamp, nI_leI, nI_ltI, nI_eq, kin_I, pk_sub, nI_m1, m1_nI, nI_am1, kx_max, kx_min, kt_tx, kt_rp, kg_si, kg_sl, kq_si, kq_sl, kv_si, kv_sl, Nat.reduceAdd, Nat.reduceMul, Nat.reduceSub, Nat.reduceEqDiff, Nat.reduceLT, Nat.reduceLeDiff, ne_eq, not_true_eq_false, not_false_eq_true, or_true, true_or, or_false, false_or, and_true, true_and, false_and, and_false, if_true, if_false, ite_true, ite_false, reduceIte, kl_0, kl_1, kl_2, kl_3, kl_6, kl_20, kl_50, kl_500, kl_999, kl_2400, kl_2g, in_t, in_tt, in_f, in_ff, in_n, if_pos, if_neg, eq_self, nI_n1, n1_nI, nI_an1, lesser_n1, lesser_rn, lesser_n, kx_n1, e2, es, cWo, eo, hh]; omega) | decide)) ?_) | (with_reducible refine Wp_f (by (first | (simp (disch := omega) only [L_0, L_1, L_2, L_3, L_4, L_5, L_6, L_7, L_8, L_9, L_10, L_11, L_12, L_16, L_18, L_20, L_24, L_25, L_30, L_32, L_38, L_40, L_48, L_50, L_60, L_63, L_64, L_72, L_99, L_100, L_160, L_500, L_999, L_1380, L_1400, L_2400, L_2401, L_60025, L_100000, L_1000000, L_100000000, L_2000000000, nI_add, pk_mul, nI_clamp, nI_leI, nI_ltI, nI_eq, kin_I, pk_sub, nI_m1, m1_nI, nI_am1, kx_max, kx_min, kt_tx, kt_rp, kg_si, kg_sl, kq_si, kq_sl, kv_si, kv_sl, Nat.reduceAdd, Nat.reduceMul, Nat.reduceSub, Nat.reduceEqDiff, Nat.reduceLT, Nat.reduceLeDiff, ne_eq, not_true_eq_false, not_false_eq_true, or_true, true_or, or_false, false_or, and_true, true_and, false_and, and_false, if_true, if_false, ite_true, ite_false, reduceIte, kl_0, kl_1, kl_2, kl_3, kl_6, kl_20, kl_50, kl_500, kl_999, kl_2400, kl_2g, in_t, in_tt, in_f, in_ff, in_n, if_pos, if_neg, eq_self, nI_n1, n1_nI, nI_an1, lesser_n1, lesser_rn, lesser_n, kx_n1, e2, es, cWo, eo, hh]; done) | (simp (disch := omega) only [L_0, L_1, L_2, L_3, L_4, L_5, L_6, L_7, L_8, L_9, L_10, L_11, L_12, L_16, L_18, L_20, L_24, L_25, L_30, L_32, L_38, L_40, L_48, L_50, L_60, L_63, L_64, L_72, L_99, L_100, L_160, L_500, L_999, L_1380, L_1400, L_2400, L_2401, L_60025, L_100000, L_1000000, L_100000000, L_2000000000, nI_add, pk_mul, nI_clamp, nI_leI, nI_ltI, nI_eq, kin_I, pk_sub, nI_m1, m1_nI, nI_am1, kx_max, kx_min, kt_tx, kt_rp, kg_si, kg_sl, kq_si, kq_sl, kv_si, kv_sl, Nat.reduceAdd, Nat.reduceMul, Nat.reduceSub, Nat.reduceEqDiff, Nat.reduceLT, Nat.reduceLeDiff, ne_eq, not_true_eq_false, not_false_eq_true, or_true, true_or, or_false, false_or, and_true, true_and, false_and, and_false, if_true, if_false, ite_true, ite_false, reduceIte, kl_0, kl_1, kl_2, kl_3, kl_6, kl_20, kl_50, kl_500, kl_999, kl_2400, kl_2g, in_t, in_tt, in_f, in_ff, in_n, if_pos, if_neg, eq_self, nI_n1, n1_nI, nI_an1, lesser_n1, lesser_rn, lesser_n, kx_n1, e2, es, cWo, eo, hh]; omega) | decide)) ?_))); try simp (disch := omega) only [nI_1, kt_rp, kt_tx]
          unfold f_X4_studyAhead_117
          (repeat (first | with_reducible refine Wp_some ?_ | (with_reducible refine Wp_letI ?_; intro v_ hv_; (try simp (disch := omega) only [L_0, L_1, L_2, L_3, L_4, L_5, L_6, L_7, L_8, L_9, L_10, L_11, L_12, L_16, L_18, L_20, L_24, L_25, L_30, L_32, L_38, L_40, L_48, L_50, L_60, L_63, L_64, L_72, L_99, L_100, L_160, L_500, L_999, L_1380, L_1400, L_2400, L_2401, L_60025, L_100000, L_1000000, L_100000000, L_2000000000, nI_add, pk_mul, nI_clamp, nI_leI, nI_ltI, nI_eq, kin_I, pk_sub, nI_m1, m1_nI, nI_am1, kx_max, kx_min, kt_tx, kt_rp, kg_si, kg_sl, kq_si, kq_sl, kv_si, kv_sl, Nat.reduceAdd, Nat.reduceMul, Nat.reduceSub, Nat.reduceEqDiff, Nat.reduceLT, Nat.reduceLeDiff, ne_eq, not_true_eq_false, not_false_eq_true, or_true, true_or, or_false, false_or, and_true, true_and, false_and, and_false, if_true, if_false, ite_true, ite_false, reduceIte, kl_0, kl_1, kl_2, kl_3, kl_6, kl_20, kl_50, kl_500, kl_999, kl_2400, kl_2g, in_t, in_tt, in_f, in_ff, in_n, if_pos, if_neg, eq_self, nI_n1, n1_nI, nI_an1, lesser_n1, lesser_rn, lesser_n, kx_n1] at hv_); subst hv_) | (with_reducible refine Wp_biI ?_; intro c_ hc_; simp (disch := omega) only [L_0, L_1, L_2, L_3, L_4, L_5, L_6, L_7, L_8, L_9, L_10, L_11, L_12, L_16, L_18, L_20, L_24, L_25, L_30, L_32, L_38, L_40, L_48, L_50, L_60, L_63, L_64, L_72, L_99, L_100, L_160, L_500, L_999, L_1380, L_1400, L_2400, L_2401, L_60025, L_100000, L_1000000, L_100000000, L_2000000000, nI_add, pk_mul, nI_clamp, nI_leI, nI_ltI, nI_eq, kin_I, pk_sub, nI_m1, m1_nI, nI_am1, kx_max, kx_min, kt_tx, kt_rp, kg_si, kg_sl, kq_si, kq_sl, kv_si, kv_sl, Nat.reduceAdd, Nat.reduceMul, Nat.reduceSub, Nat.reduceEqDiff, Nat.reduceLT, Nat.reduceLeDiff, ne_eq, not_true_eq_false, not_false_eq_true, or_true, true_or, or_false, false_or, and_true, true_and, false_and, and_false, if_true, if_false, ite_true, ite_false, reduceIte, kl_0, kl_1, kl_2, kl_3, kl_6, kl_20, kl_50, kl_500, kl_999, kl_2400, kl_2g, in_t, in_tt, in_f, in_ff, in_n, if_pos, if_neg, eq_self, nI_n1, n1_nI, nI_an1, lesser_n1, lesser_rn, lesser_n, kx_n1] at hc_; subst hc_; with_reducible refine Wp_bis ?_) | (with_reducible refine Wp_bvI ?_; intro c_ hc_; simp (disch := omega) only [L_0, L_1, L_2, L_3, L_4, L_5, L_6, L_7, L_8, L_9, L_10, L_11, L_12, L_16, L_18, L_20, L_24, L_25, L_30, L_32, L_38, L_40, L_48, L_50, L_60, L_63, L_64, L_72, L_99, L_100, L_160, L_500, L_999, L_1380, L_1400, L_2400, L_2401, L_60025, L_100000, L_1000000, L_100000000, L_2000000000, nI_add, pk_mul, nI_clamp, nI_leI, nI_ltI, nI_eq, kin_I, pk_sub, nI_m1, m1_nI, nI_am1, kx_max, kx_min, kt_tx, kt_rp, kg_si, kg_sl, kq_si, kq_sl, kv_si, kv_sl, Nat.reduceAdd, Nat.reduceMul, Nat.reduceSub, Nat.reduceEqDiff, Nat.reduceLT, Nat.reduceLeDiff, ne_eq, not_true_eq_false, not_false_eq_true, or_true, true_or, or_false, false_or, and_true, true_and, false_and, and_false, if_true, if_false, ite_true, ite_false, reduceIte, kl_0, kl_1, kl_2, kl_3, kl_6, kl_20, kl_50, kl_500, kl_999, kl_2400, kl_2g, in_t, in_tt, in_f, in_ff, in_n, if_pos, if_neg, eq_self, nI_n1, n1_nI, nI_an1, lesser_n1, lesser_rn, lesser_n, kx_n1] at hc_; subst hc_; with_reducible refine Wp_bvs ?_) | (with_reducible refine Wp_t (by (first | (simp (disch := omega) only [L_0, L_1, L_2, L_3, L_4, L_5, L_6, L_7, L_8, L_9, L_10, L_11, L_12, L_16, L_18, L_20, L_24, L_25, L_30, L_32, L_38, L_40, L_48, L_50, L_60, L_63, L_64, L_72, L_99, L_100, L_160, L_500, L_999, L_1380, L_1400, L_2400, L_2401, L_60025, L_100000, L_1000000, L_100000000, L_2000000000, nI_add, pk_mul, nI_clamp, nI_leI, nI_ltI, nI_eq, kin_I, pk_sub, nI_m1, m1_nI, nI_am1, kx_max, kx_min, kt_tx, kt_rp, kg_si, kg_sl, kq_si, kq_sl, kv_si, kv_sl, Nat.reduceAdd, Nat.reduceMul, Nat.reduceSub, Nat.reduceEqDiff, Nat.reduceLT, Nat.reduceLeDiff, ne_eq, not_true_eq_false, not_false_eq_true, or_true, true_or, or_false, false_or, and_true, true_and, false_and, and_false, if_true, if_false, ite_true, ite_false, reduceIte, kl_0, kl_1, kl_2, kl_3, kl_6, kl_20, kl_50, kl_500, kl_999, kl_2400, kl_2g, in_t, in_tt, in_f, in_ff, in_n, if_pos, if_neg, eq_self, nI_n1, n1_nI, nI_an1, lesser_n1, lesser_rn, lesser_n, kx_n1]; done) | (simp (disch := omega) only [L_0, L_1, L_2, L_3, L_4, L_5, L_6, L_7, L_8, L_9, L_10, L_11, L_12, L_16, L_18, L_20, L_24, L_25, L_30, L_32, L_38, L_40, L_48, L_50, L_60, L_63, L_64, L_72, L_99, L_100, L_160, L_500, L_999, L_1380, L_1400, L_2400, L_2401, L_60025, L_100000, L_1000000, L_100000000, L_2000000000, nI_add, pk_mul, nI_clamp, nI_leI, nI_ltI, nI_eq, kin_I, pk_sub, nI_m1, m1_nI, nI_am1, kx_max, kx_min, kt_tx, kt_rp, kg_si, kg_sl, kq_si, kq_sl, kv_si, kv_sl, Nat.reduceAdd, Nat.reduceMul, Nat.reduceSub, Nat.reduceEqDiff, Nat.reduceLT, Nat.reduceLeDiff, ne_eq, not_true_eq_false, not_false_eq_true, or_true, true_or, or_false, false_or, and_true, true_and, false_and, and_false, if_true, if_false, ite_true, ite_false, reduceIte, kl_0, kl_1, kl_2, kl_3, kl_6, kl_20, kl_50, kl_500, kl_999, kl_2400, kl_2g, in_t, in_tt, in_f, in_ff, in_n, if_pos, if_neg, eq_self, nI_n1, n1_nI, nI_an1, lesser_n1, lesser_rn, lesser_n, kx_n1]; omega) | decide)) ?_) | (with_reducible refine Wp_f (by (first | (simp (disch := omega) only [L_0, L_1, L_2, L_3, L_4, L_5, L_6, L_7, L_8, L_9, L_10, L_11, L_12, L_16, L_18, L_20, L_24, L_25, L_30, L_32, L_38, L_40, L_48, L_50, L_60, L_63, L_64, L_72, L_99, L_100, L_160, L_500, L_999, L_1380, L_1400, L_2400, L_2401, L_60025, L_100000, L_1000000, L_100000000, L_2000000000, nI_add, pk_mul, nI_clamp, nI_leI, nI_ltI, nI_eq, kin_I, pk_sub, nI_m1, m1_nI, nI_am1, kx_max, kx_min, kt_tx, kt_rp, kg_si, kg_sl, kq_si, kq_sl, kv_si, kv_sl, Nat.reduceAdd, Nat.reduceMul, Nat.reduceSub, Nat.reduceEqDiff, Nat.reduceLT, Nat.reduceLeDiff, ne_eq, not_true_eq_false, not_false_eq_true, or_true, true_or, or_false, false_or, and_true, true_and, false_and, and_false, if_true, if_false, ite_true, ite_false, reduceIte, kl_0, kl_1, kl_2, kl_3, kl_6, kl_20, kl_50, kl_500, kl_999, kl_2400, kl_2g, in_t, in_tt, in_f, in_ff, in_n, if_pos, if_neg, eq_self, nI_n1, n1_nI, nI_an1, lesser_n1, lesser_rn, lesser_n, kx_n1]; done) | (simp (disch := omega) only [L_0, L_1, L_2, L_3, L_4, L_5, L_6, L_7, L_8, L_9, L_10, L_11, L_12, L_16, L_18, L_20, L_24, L_25, L_30, L_32, L_38, L_40, L_48, L_50, L_60, L_63, L_64, L_72, L_99, L_100, L_160, L_500, L_999, L_1380, L_1400, L_2400, L_2401, L_60025, L_100000, L_1000000, L_100000000, L_2000000000, nI_add, pk_mul, nI_clamp, nI_leI, nI_ltI, nI_eq, kin_I, pk_sub, nI_m1, m1_nI, nI_am1, kx_max, kx_min, kt_tx, kt_rp, kg_si, kg_sl, kq_si, kq_sl, kv_si, kv_sl, Nat.reduceAdd, Nat.reduceMul, Nat.reduceSub, Nat.reduceEqDiff, Nat.reduceLT, Nat.reduceLeDiff, ne_eq, not_true_eq_false, not_false_eq_true, or_true, true_or, or_false, false_or, and_true, true_and, false_and, and_false, if_true, if_false, ite_true, ite_false, reduceIte, kl_0, kl_1, kl_2, kl_3, kl_6, kl_20, kl_50, kl_500, kl_999, kl_2400, kl_2g, in_t, in_tt, in_f, in_ff, in_n, if_pos, if_neg, eq_self, nI_n1, n1_nI, nI_an1, lesser_n1, lesser_rn, lesser_n, kx_n1]; omega) | decide)) ?_))); try simp (disch := omega) only [nI_1, kt_rp, kt_tx]
          refine ih (w + 1) M (by omega) (by omega) hR (fun j hj => ?_) hF
          obtain ⟨o', q1, q2⟩ := hA j hj
          refine ⟨o', q1, idC_ q2 (fun s => ⟨fun q => ?_, fun q => ?_⟩)⟩
          · rcases q with q | ⟨f', w', r1, r2⟩
            · exact Or.inl q
            · exact Or.inr ⟨f', w', by omega, r2⟩
          · rcases q with q | ⟨f', w', r1, r2, r3, r4, r5, r6⟩
            · exact Or.inl q
            · by_cases z : f' = f ∧ w' = w
              · obtain ⟨rfl, rfl⟩ := z
                exact absurd r3 d
              · exact Or.inr ⟨f', w', by omega, r2, r3, r4, r5, r6⟩
def ahC (M : kr_M) (G : GG) (n : Nat) (k : Nat → Nat) : Prop := ∀ j, j ≤ n → ∃ o, M.1 321 j = kw_e o ∧ isD o (pa G n k 0 j)
theorem ah_17 {M0 : kr_M} {g n : Nat} {G : GG} {k : Nat → Nat} : ∀ n' f M, f ≤ n → n - f < n' → RD M g G n k → ahI M G n k f 0 → Fx (fun a _ => a = 321) M0 M → Wp (f_X4_studyAhead_17 n' (nI f) M) (fun M' => RD M' g G n k ∧ ahC M' G n k ∧ Fx (fun a _ => a = 321) M0 M') := by
  intro n'
  induction n' with
  | zero => intro f M h1 h2; omega
  | succ n' ih =>
    intro f M h1 h2 hR hA hF
    rw [f_X4_studyAhead_17]
    have tx := hR.2.2.1.1
    have hn := hR.2.2.2
    by_cases c : f = n
    · subst c
      refine Wp_letI ?_; intro v ev
      rw [tx] at ev
      subst ev
      refine Wp_t (nI_le (Nat.le_refl _) (by omega)) (Wp_some ⟨hR, fun j hj => ?_, hF⟩)
      obtain ⟨o, q1, q2⟩ := hA j hj
      exact ⟨o, q1, idC_ q2 (fun s => ahP_pa hR.1.V hj)⟩
    · refine Wp_letI ?_; intro v ev
      rw [tx] at ev
      subst ev
      refine Wp_f (nI_ge (by omega) (by omega)) ?_
      refine ah_30 (M0 := M0) (show f < n by omega) (fun M' q1 q2 q3 => ih (f + 1) M' (by omega) (by omega) q1 q2 q3) kr_F 0 M (by omega) (kr_F_gt _ ?_) hR hA hF
      have hV := hR.1.V
      obtain ⟨vLi, v0, vPl, vWe, vOd, vKi, vWo, vRo, vPe, vWt, vAc, vIn, vWa, vL, vMn, vW, vA, vB, vAB, vLd, vCr, vN, vK, vWg, vPc, vSt, vD⟩ := hV
      omega
theorem ah_ok {M : kr_M} {g n : Nat} {G : GG} {k : Nat → Nat} (hR : RD M g G n k) : Wp (f_X4_studyAhead M) (fun M' => RD M' g G n k ∧ ahC M' G n k ∧ Fx (fun a _ => a = 321) M M') := by
  have hn := hR.2.2.2
  unfold f_X4_studyAhead
  refine Wp_bv _ (fill_ok (M := M) (a := 321) (L := 25) (-1) rfl (by omega)) (fun M1 ⟨q1, q2⟩ => ?_)
  have q2 : Fx (fun a _ => a = 321) M M1 := q2
  refine Wp_t (by decide) ?_
  refine Wp_letI ?_; intro M3 e3
  have hf : Fx (fun a _ => a = 321) M M3 := by rw [← e3]; exact q2.trans ((Fx.refl M1).si _ rfl)
  have e3 : kr_si M1 321 0 (0 : Int32) = M3 := e3
  refine ah_17 (M0 := M) kr_F 0 M3 (by omega) (kr_F_gt _ (by omega)) (hR.fx (hf.mono (fun a j q => by have q : a = 321 := q; show a = 315 ∨ (318 ≤ a ∧ a ≤ 322); omega))) (fun j hj => ?_) hf
  rw [← e3, kg_si]
  by_cases c : j = 0
  · subst c
    rw [if_pos ⟨rfl, rfl⟩]
    exact ⟨some 0, rfl, idS_ (Or.inl ⟨rfl, rfl⟩) (fun s _ => Nat.zero_le _)⟩
  · rw [if_neg (fun q => c q.2), q1 j (by omega)]
    refine ⟨none, rfl, idN_ (fun s q => ?_)⟩
    rcases q with ⟨z, _⟩ | ⟨f', w', r1, _⟩
    · exact c z
    · omega
/-- one word more over the place -/
theorem ov_step {G : GG} {n : Nat} {k : Nat → Nat} {p c W i s : Nat} (hW' : W < gWo G) (h1 : i < gL G W) (h2 : i ≤ p) : ovP G n k p c W (i + 1) s ↔ (ovP G n k p c W i s ∨ (hW G n (upK k p c) W (p - i) = true ∧ ∃ a b, pa G n k 0 (p - i) a ∧ pa G n k (p - i + gL G W) n b ∧ s = a + gMn G W + b)) := by
  constructor
  · intro ⟨w, f, a, b, q1, q2, q3, q4, q5, q6, q7, q8⟩
    by_cases e : w = W ∧ p - f = i
    · obtain ⟨rfl, e⟩ := e
      obtain rfl : f = p - i := by omega
      exact Or.inr ⟨q5, a, b, q6, q7, q8⟩
    · exact Or.inl ⟨w, f, a, b, by omega, q2, q3, q4, q5, q6, q7, q8⟩
  · intro q
    rcases q with ⟨w, f, a, b, q1, q2, q3, q4, q5, q6, q7, q8⟩ | ⟨q5, a, b, q6, q7, q8⟩
    · exact ⟨w, f, a, b, by omega, q2, q3, q4, q5, q6, q7, q8⟩
    · exact ⟨W, p - i, a, b, Or.inr ⟨rfl, by omega⟩, hW', by omega, by omega, q5, q6, q7, q8⟩
theorem ov_end {G : GG} {n : Nat} {k : Nat → Nat} {p c W i s : Nat} (h : gL G W ≤ i ∨ p < i) : ovP G n k p c W i s ↔ ovP G n k p c (W + 1) 0 s := by
  constructor
  · intro ⟨w, f, a, b, q1, q⟩
    exact ⟨w, f, a, b, by omega, q⟩
  · intro ⟨w, f, a, b, q1, q2, q3, q4, q⟩
    refine ⟨w, f, a, b, ?_, q2, q3, q4, q⟩
    by_cases e : w = W
    · subst e; exact Or.inr ⟨rfl, by omega⟩
    · exact Or.inl (by omega)
/-- what the reader knows while the slips are laid -/
def slK (M : kr_M) (g : Nat) (G : GG) (n : Nat) (k : Nat → Nat) : Prop := RD M g G n k ∧ ahC M G n k ∧ CT M n (rdT G n k n) 0
theorem slK.fx {M M' : kr_M} {g n : Nat} {G : GG} {k : Nat → Nat} (h : slK M g G n k) (hf : Fx (fun a _ => a = 322) M M') : slK M' g G n k := by
  refine ⟨h.1.fx (hf.mono (fun a j q => by have q : a = 322 := q; show a = 315 ∨ (318 ≤ a ∧ a ≤ 322); omega)), fun j hj => ?_, fun j h1 h2 => ?_⟩
  · rw [hf.1 321 j (fun q => by have q : 321 = 322 := q; omega)]; exact h.2.1 j hj
  · rw [hf.1 318 j (fun q => by have q : 318 = 322 := q; omega), hf.1 319 j (fun q => by have q : 319 = 322 := q; omega), hf.1 320 j (fun q => by have q : 320 = 322 := q; omega)]; exact h.2.2 j h1 h2
def tbI (M : kr_M) (G : GG) (n : Nat) (k : Nat → Nat) (p W i : Nat) : Prop := ∀ c, c < 6 → ∃ o, M.1 322 (6 * p + c) = kw_e o ∧ isD o (ovP G n k p c W i)
theorem ovP_b {G : GG} {n : Nat} {k : Nat → Nat} (hV : GV G) {p c W i s : Nat} (hp : p < n) (h : ovP G n k p c W i s) : s ≤ 99 * n := by
  obtain ⟨w, f, a, b, q1, q2, q3, q4, q5, q6, q7, q8⟩ := h
  have h1 := (pa_b hV q6).2.1
  have h2 := (pa_b hV q7).2
  have h3 := (pa_b hV q7).1
  obtain ⟨vLi, v0, vPl, vWe, vOd, vKi, vWo, vRo, vPe, vWt, vAc, vIn, vWa, vL, vMn, vW, vA, vB, vAB, vLd, vCr, vN, vK, vWg, vPc, vSt, vD⟩ := hV
  have := vMn w q2
  have := vL w q2
  have := (hW_iff.mp q5).1
  omega
theorem lo_13 {M0 : kr_M} {g n p W : Nat} {G : GG} {k : Nat → Nat} (hp : p < n) (hW' : W < gWo G) : ∀ n' i M, i ≤ gL G W → gL G W - i < n' → slK M g G n k → tbI M G n k p W i → Fx (fun a j => a = 322 ∧ 6 * p ≤ j ∧ j < 6 * p + 6) M0 M → Wp (f_X4_layOver_13 (nI p) (nI W) (g + 11 + 2 * W) n' (nI i) M) (fun M' => slK M' g G n k ∧ tbI M' G n k p (W + 1) 0 ∧ Fx (fun a j => a = 322 ∧ 6 * p ≤ j ∧ j < 6 * p + 6) M0 M') := by
  intro n'
  induction n' with
  | zero => intro i M h1 h2; omega
  | succ n' ih =>
    intro i M h1 h2 hS hT hF
    rw [f_X4_layOver_13]
    have hS' := hS
    obtain ⟨⟨hK, e2, hTx, hn⟩, hA, hB⟩ := hS'
    have hV := hK.V
    have hV' := hV
    have hC := hK.C
    have es := hK.sh
    obtain ⟨vLi, v0, vPl, vWe, vOd, vKi, vWo, vRo, vPe, vWt, vAc, vIn, vWa, vL, vMn, vW, vA, vB, vAB, vLd, vCr, vN, vK, vWg, vPc, vSt, vD⟩ := hV'
    obtain ⟨c0, cPl, cWe, cOd, cKi, cWo, cRo, cPe, cWt, cAc, cIn, cWa, cL, cMn, cW, cA, cB, cLd, cCr, cN, cK, cWg, cPc, cSt⟩ := hC
    have hl := vL W hW'
    have hm := vMn W hW'
    have tw := hK.txw hW'
    have ltw := tw.2.2.1
    have fin : (gL G W ≤ i ∨ p < i) → Wp (some M) (fun M' => slK M' g G n k ∧ tbI M' G n k p (W + 1) 0 ∧ Fx (fun a j => a = 322 ∧ 6 * p ≤ j ∧ j < 6 * p + 6) M0 M') := fun q => by
      refine Wp_some ⟨hS, fun c hc => ?_, hF⟩
      obtain ⟨o, q1, q2⟩ := hT c hc
      exact ⟨o, q1, idC_ q2 (fun s => ov_end q)⟩
    refine Wp_letI ?_; intro v ev
    rw [tw.1] at ev
    subst ev
    by_cases c1 : i = gL G W
    · exact Wp_t (nI_le (by omega) (by omega)) (fin (Or.inl (by omega)))
    refine Wp_f (nI_ge (by omega) (by omega)) ?_
    by_cases c2 : p < i
    · exact Wp_t ((nI_ltI (by omega) (by omega)).mpr c2) (fin (Or.inr c2))
    refine Wp_f (fun q => c2 ((nI_ltI (by omega) (by omega)).mp q)) ?_
    rw [pk_sub (by omega)]
    refine Wp_letI ?_; intro v ev
    subst ev
    refine Wp_letI ?_; intro v ev
    rw [tw.1] at ev
    subst ev
    rw [nI_add]
    refine Wp_letI ?_; intro v ev
    subst ev
    rw [holdsBut_ok hTx tw (nI p) (p - i) (by omega)]
    refine Wp_bis ?_
    have nx : ∀ M1, slK M1 g G n k → tbI M1 G n k p W (i + 1) → Fx (fun a j => a = 322 ∧ 6 * p ≤ j ∧ j < 6 * p + 6) M0 M1 → Wp (f_X4_layOver_135 (f_X4_layOver_13 (nI p) (nI W) (g + 11 + 2 * W) n') (nI i) M1) (fun M' => slK M' g G n k ∧ tbI M' G n k p (W + 1) 0 ∧ Fx (fun a j => a = 322 ∧ 6 * p ≤ j ∧ j < 6 * p + 6) M0 M') := fun M1 a1 a2 a3 => by
      unfold f_X4_layOver_135
      rw [L_1, nI_add]
      exact ih (i + 1) M1 (by omega) (by omega) a1 a2 a3
    have same : (∀ c s, ¬ (hW G n (upK k p c) W (p - i) = true ∧ ∃ a b, pa G n k 0 (p - i) a ∧ pa G n k (p - i + gL G W) n b ∧ s = a + gMn G W + b)) → tbI M G n k p W (i + 1) := fun q c hc => by
      obtain ⟨o, q1, q2⟩ := hT c hc
      refine ⟨o, q1, idC_ q2 (fun s => ?_)⟩
      rw [ov_step hW' (by omega) (by omega)]
      exact ⟨Or.inl, fun z => z.elim id (fun z => absurd z (q c s))⟩
    by_cases d : p - i + gL G W ≤ n ∧ ∀ j, j < gL G W → (nI (p - i + j) = nI p ∨ k (p - i + j) = gW G W j)
    · rw [if_pos d]
      refine Wp_f (by decide) ?_
      refine Wp_t ((kin_I (by omega)).mpr (by omega)) ?_
      refine Wp_letI ?_; intro v ev
      rw [nI_clamp (by omega)] at ev
      subst ev
      have ha : ∀ c, hW G n (upK k p c) W (p - i) = true ↔ gW G W i = c := fun c => by
        rw [hW_at (by omega) (by omega), show p - (p - i) = i by omega]
        refine ⟨fun q => q.2.2, fun q => ⟨d.1, fun j hj => ?_, q⟩⟩
        rcases d.2 j hj with z | z
        · exact Or.inl ((nI_eq (by omega) (by omega)).mp z)
        · exact Or.inr z
      obtain ⟨oa, ea, da⟩ := hA (p - i) (by omega)
      have eb := (hB (p - i + gL G W) (by omega) d.1).2.1
      have db := rd_is (k := k) hV n (Nat.le_refl _) (p - i + gL G W) (by omega) d.1
      rw [rdO_e] at eb
      rw [ea]
      cases hoa : oa with
      | none =>
        refine Wp_t rfl (nx M hS (same (fun c s ⟨_, a, b, q1, _⟩ => idZ_ da hoa a q1)) hF)
      | some va =>
        have ba := (pa_b hV (da.1 va hoa)).2.1
        refine Wp_f (fun q => (nI_m1 (a := va) (by omega)).mp q) ?_
        refine Wp_t ((kin_I (by omega)).mpr (by omega)) ?_
        refine Wp_letI ?_; intro v ev
        rw [nI_clamp (by omega), eb] at ev
        subst ev
        cases hob : rdO (rdT G n k n (p - i + gL G W)) with
        | none =>
          refine Wp_t rfl (nx M hS (same (fun c s ⟨_, a, b, _, q1, _⟩ => idZ_ db hob b q1)) hF)
        | some vb =>
          have bb := (pa_b hV (db.1 vb hob)).2.1
          refine Wp_f (fun q => (nI_m1 (a := vb) (by omega)).mp q) ?_
          have gw := vW W i hW' (by omega)
          refine Wp_t ((kin_I (by omega)).mpr (by omega)) ?_
          refine Wp_letI ?_; intro v ev
          rw [nI_clamp (by omega), cW W i hW' (by omega)] at ev
          subst ev
          refine Wp_letI ?_; intro v ev
          rw [L_6, pk_mul, nI_add, Nat.mul_comm p 6] at ev
          subst ev
          refine Wp_t ((kin_I (by omega)).mpr (by omega)) ?_
          obtain ⟨oc, ec, dc⟩ := hT (gW G W i) (by omega)
          refine Wp_letI ?_; intro v ev
          rw [nI_clamp (by omega), ec] at ev
          subst ev
          refine Wp_t ((kin_I (by omega)).mpr (by omega)) ?_
          refine Wp_letI ?_; intro v ev
          rw [nI_clamp (by omega), ea, hoa] at ev
          have ev : nI va = v := ev
          subst ev
          refine Wp_t (by rw [e2]; exact es) ?_
          refine Wp_letI ?_; intro v ev
          rw [e2] at ev
          subst ev
          refine Wp_t ((kin_I (by omega)).mpr (by omega)) ?_
          refine Wp_letI ?_; intro v ev
          rw [nI_clamp (by omega), cMn W hW'] at ev
          subst ev
          refine Wp_t ((kin_I (by omega)).mpr (by omega)) ?_
          refine Wp_letI ?_; intro v ev
          rw [nI_clamp (by omega), eb, hob] at ev
          have ev : nI vb = v := ev
          subst ev
          rw [nI_add, nI_add]
          rw [show f_X11_lesser (kw_e oc) (nI (va + gMn G W + vb)) M = some (kw_e (kw_m oc (some (va + gMn G W + vb))), M) from kw_les (b := some (va + gMn G W + vb)) (fun z hz => by have := ovP_b hV hp (dc.1 z hz); omega) (fun z hz => by
            have hz : va + gMn G W + vb = z := by simpa using hz
            omega) M]
          refine Wp_bis ?_
          refine Wp_t ((kin_I (by omega)).mpr (by omega)) ?_
          refine Wp_letI ?_; intro M1 e1
          rw [nI_clamp (by omega)] at e1
          have hf : Fx (fun a j => a = 322 ∧ 6 * p ≤ j ∧ j < 6 * p + 6) M M1 := by rw [← e1]; exact (Fx.refl M).si _ ⟨rfl, by omega, by omega⟩
          refine nx M1 (hS.fx (hf.mono (fun a j q => q.1))) (fun c hc => ?_) (hF.trans hf)
          rw [← e1, kg_si]
          by_cases e : c = gW G W i
          · rw [if_pos ⟨rfl, by omega⟩]
            refine ⟨_, rfl, ?_⟩
            have dn : isD (some (va + gMn G W + vb)) (fun s => ∃ a b, pa G n k 0 (p - i) a ∧ pa G n k (p - i + gL G W) n b ∧ s = a + gMn G W + b) := by
              refine idS_ ⟨va, vb, da.1 va hoa, db.1 vb hob, rfl⟩ (fun s ⟨a, b, z1, z2, z3⟩ => ?_)
              obtain ⟨u1, y1, y2⟩ := da.2 a z1
              obtain ⟨u2, y3, y4⟩ := db.2 b z2
              rw [hoa] at y1
              rw [hob] at y3
              have y1 : va = u1 := by simpa using y1
              have y3 : vb = u2 := by simpa using y3
              omega
            rw [e]
            refine idC_ (idM_ dc dn) (fun s => ?_)
            rw [ov_step hW' (by omega) (by omega), ha]
            exact ⟨fun z => z.elim Or.inl (fun z => Or.inr ⟨rfl, z⟩), fun z => z.elim Or.inl (fun z => Or.inr z.2)⟩
          · rw [if_neg (by omega)]
            obtain ⟨o, q1, q2⟩ := hT c hc
            refine ⟨o, q1, idC_ q2 (fun s => ?_)⟩
            rw [ov_step hW' (by omega) (by omega), ha]
            exact ⟨Or.inl, fun z => z.elim id (fun z => absurd z.1.symm e)⟩
    · rw [if_neg d]
      refine Wp_t rfl (nx M hS (same (fun c s ⟨q, _⟩ => d ?_)) hF)
      have q := (hW_at (by omega) (by omega)).mp q
      exact ⟨q.1, fun j hj => (q.2.1 j hj).elim (fun z => Or.inl (by rw [z])) Or.inr⟩
def slD (M : kr_M) (G : GG) (n : Nat) (k : Nat → Nat) (p : Nat) : Prop := ∀ p' c, p' < p → c < 6 → M.1 322 (6 * p' + c) = kw_e (slT G n k p' c)
def slE (M : kr_M) (n p : Nat) : Prop := ∀ p' c, p ≤ p' → p' < n → c < 6 → M.1 322 (6 * p' + c) = -1
theorem ss_31 {M0 : kr_M} {g n p : Nat} {G : GG} {k : Nat → Nat} {K : Int32 → kr_M → Option kr_M} {Q : kr_M → Prop} (hp : p < n) (h : ∀ M', slK M' g G n k → slD M' G n k (p + 1) → slE M' n (p + 1) → Fx (fun a _ => a = 322) M0 M' → Wp (K (nI (p + 1)) M') Q) : ∀ n' w M, w ≤ gWo G → gWo G - w < n' → slK M g G n k → tbI M G n k p w 0 → slD M G n k p → slE M n (p + 1) → Fx (fun a _ => a = 322) M0 M → Wp (f_X4_studySlips_31 K (nI p) n' (nI w) M) Q := by
  intro n'
  induction n' with
  | zero => intro w M h1 h2; omega
  | succ n' ih =>
    intro w M h1 h2 hS hT hD hE hF
    rw [f_X4_studySlips_31]
    have hS' := hS
    obtain ⟨⟨hK, e2, hTx, hn⟩, hA, hB⟩ := hS'
    have hV := hK.V
    have hV' := hV
    have hC := hK.C
    have es := hK.sh
    obtain ⟨vLi, v0, vPl, vWe, vOd, vKi, vWo, vRo, vPe, vWt, vAc, vIn, vWa, vL, vMn, vW, vA, vB, vAB, vLd, vCr, vN, vK, vWg, vPc, vSt, vD⟩ := hV'
    obtain ⟨c0, cPl, cWe, cOd, cKi, cWo, cRo, cPe, cWt, cAc, cIn, cWa, cL, cMn, cW, cA, cB, cLd, cCr, cN, cK, cWg, cPc, cSt⟩ := hC
    refine Wp_t (by rw [e2]; exact es) ?_
    refine Wp_letI ?_; intro v ev
    rw [e2] at ev
    subst ev
    refine Wp_letI ?_; intro v ev
    rw [cWo] at ev
    subst ev
    by_cases c : w = gWo G
    · subst c
      refine Wp_t (nI_le (Nat.le_refl _) (by omega)) ?_
      unfold f_X4_studySlips_54
      rw [L_1, nI_add]
      refine h M hS (fun p' c h1 h2 => ?_) hE hF
      by_cases e : p' = p
      · subst e
        obtain ⟨o, q1, q2⟩ := hT c h2
        rw [q1, isD_u (idC_ q2 (fun s => ovP_all hV hp s)) (slT_is hV)]
      · exact hD p' c (by omega) h2
    · have hw : w < gWo G := by omega
      refine Wp_f (nI_ge (by omega) (by omega)) ?_
      have key : Wp (f_X4_layOver (nI p) (nI w) M) (fun M' => slK M' g G n k ∧ tbI M' G n k p (w + 1) 0 ∧ Fx (fun a j => a = 322 ∧ 6 * p ≤ j ∧ j < 6 * p + 6) M M') := by
        unfold f_X4_layOver
        refine Wp_t (by rw [e2]; exact es) ?_
        refine Wp_letI ?_; intro v ev
        rw [e2] at ev
        subst ev
        refine Wp_t ((kin_I (by omega)).mpr (by omega)) ?_
        rw [kt_tx (by omega)]
        have := vL w hw
        exact lo_13 (M0 := M) hp hw kr_F 0 M (by omega) (kr_F_gt _ (by omega)) hS hT (Fx.refl M)
      refine Wp_bv _ key (fun M1 ⟨a1, a2, a3⟩ => ?_)
      rw [L_1, nI_add]
      refine ih (w + 1) M1 (by omega) (by omega) a1 a2 (fun p' c h1 h2 => ?_) (fun p' c h1 h2 h3 => ?_) (hF.trans (a3.mono (fun a j q => q.1)))
      · rw [a3.1 322 (6 * p' + c) (fun q => by have q : 322 = 322 ∧ 6 * p ≤ 6 * p' + c ∧ 6 * p' + c < 6 * p + 6 := q; omega)]; exact hD p' c h1 h2
      · rw [a3.1 322 (6 * p' + c) (fun q => by have q : 322 = 322 ∧ 6 * p ≤ 6 * p' + c ∧ 6 * p' + c < 6 * p + 6 := q; omega)]; exact hE p' c h1 h2 h3
theorem ss_18 {M0 : kr_M} {g n : Nat} {G : GG} {k : Nat → Nat} : ∀ n' p M, p ≤ n → n - p < n' → slK M g G n k → slD M G n k p → slE M n p → Fx (fun a _ => a = 322) M0 M → Wp (f_X4_studySlips_18 n' (nI p) M) (fun M' => slK M' g G n k ∧ slD M' G n k n ∧ Fx (fun a _ => a = 322) M0 M') := by
  intro n'
  induction n' with
  | zero => intro p M h1 h2; omega
  | succ n' ih =>
    intro p M h1 h2 hS hD hE hF
    rw [f_X4_studySlips_18]
    have tx := hS.1.2.2.1.1
    have hn := hS.1.2.2.2
    refine Wp_letI ?_; intro v ev
    rw [tx] at ev
    subst ev
    by_cases c : p = n
    · subst c
      exact Wp_t (nI_le (Nat.le_refl _) (by omega)) (Wp_some ⟨hS, hD, hF⟩)
    · refine Wp_f (nI_ge (by omega) (by omega)) ?_
      have hV := hS.1.1.V
      obtain ⟨vLi, v0, vPl, vWe, vOd, vKi, vWo, vRo, vPe, vWt, vAc, vIn, vWa, vL, vMn, vW, vA, vB, vAB, vLd, vCr, vN, vK, vWg, vPc, vSt, vD⟩ := hV
      refine ss_31 (M0 := M0) (show p < n by omega) (fun M' q1 q2 q3 q4 => ih (p + 1) M' (by omega) (by omega) q1 q2 q3 q4) kr_F 0 M (by omega) (kr_F_gt _ (by omega)) hS (fun c hc => ?_) hD (fun p' c h1 h2 h3 => hE p' c (by omega) h2 h3) hF
      refine ⟨none, hE p c (Nat.le_refl _) (by omega) hc, idN_ (fun s ⟨w, f, a, b, q1, _⟩ => by omega)⟩
/-- what the reader knows of slips -/
def slC (M : kr_M) (g : Nat) (G : GG) (n : Nat) (k : Nat → Nat) : Prop := RD M g G n k ∧ slD M G n k n ∧ M.1 318 0 = nI (rdT G n k n 0).1 ∧ M.1 319 0 = kw_e (rdO (rdT G n k n 0))
theorem slC_ok {M : kr_M} {g n : Nat} {G : GG} {k : Nat → Nat} (hR : RD M g G n k) : Wp (f_X4_studySlips M) (fun M' => slC M' g G n k ∧ Fx slX M M') := by
  have hn := hR.2.2.2
  unfold f_X4_studySlips
  refine Wp_bv _ (study_ok hR) (fun M1 ⟨a1, a2, a3⟩ => ?_)
  refine Wp_bv _ (ah_ok a1) (fun M2 ⟨b1, b2, b3⟩ => ?_)
  refine Wp_bv _ (fill_ok (M := M2) (a := 322) (L := 144) (-1) rfl (by omega)) (fun M3 ⟨c1, c2⟩ => ?_)
  have c2 : Fx (fun a _ => a = 322) M2 M3 := c2
  have sk : slK M2 g G n k := ⟨b1, b2, fun j h1 h2 => by
    rw [b3.1 318 j (fun q => by have q : 318 = 321 := q; omega), b3.1 319 j (fun q => by have q : 319 = 321 := q; omega), b3.1 320 j (fun q => by have q : 320 = 321 := q; omega)]; exact a2 j h1 h2⟩
  refine Wp_mono (ss_18 (M0 := M2) kr_F 0 M3 (by omega) (kr_F_gt _ (by omega)) (sk.fx c2) (fun p' c h1 h2 => by omega) (fun p' c h1 h2 h3 => c1 _ (by omega)) c2) (fun M4 ⟨d1, d2, d3⟩ => ?_)
  obtain ⟨e1, e2, e3⟩ := d1.2.2 0 (Nat.le_refl _) (by omega)
  refine ⟨⟨d1.1, d2, e1, by rw [e2, rdO_e]⟩, ((sl_FS a3).trans (b3.mono (fun a j q => ?_))).trans (d3.mono (fun a j q => ?_))⟩
  · have q : a = 321 := q
    show a = 315 ∨ (318 ≤ a ∧ a ≤ 322)
    omega
  · have q : a = 322 := q
    show a = 315 ∨ (318 ≤ a ∧ a ≤ 322)
    omega
