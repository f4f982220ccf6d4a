/-! way, keys -/
theorem sdO {M : kr_M} {g p a b : Nat} {G : GG} (hK : KS M g G) (hp : p < gPe G) (wo : Int32) (ha : a < gPl G) (hb : b < gPl G) : ∃ o, isD o (sd G p wo a b) ∧ ∀ v, o = some v → v ≤ 140000 := by
  obtain ⟨M', _, ⟨T, t1, t2, t3, t4⟩, _⟩ := wy_ok (wo := wo) hK hp
  exact ⟨T a b, t2 a b ha hb, fun v hv => t3 a b v hv⟩
theorem ow_t {M : kr_M} {g p a b : Nat} {G : GG} (hK : KS M g G) (hp : p < gPe G) (ha : a < gPl G) (hb : b < gPl G) : Wp (f_X11_opensWays (nI p) (nI a) (nI b) M) (fun x => x.1 = 1 ∧ wyK x.2 G p (-1) ∧ Fx wyX M x.2) := by
  have hC := hK.C
  have hV := hK.V
  have eg := hK.gr
  have es := hK.sh
  unfold f_X11_opensWays
  rw [eg]
  refine Wp_t es ?_
  refine Wp_letI ?_; intro v ev; subst ev
  rw [kcPe_t hC hV hp]
  refine Wp_bis (Wp_f (by decide) ?_)
  rw [eg]
  refine Wp_t es ?_
  refine Wp_letI ?_; intro v ev; subst ev
  rw [kcPl_t hC hV ha]
  refine Wp_bis (Wp_f (by decide) ?_)
  rw [eg]
  refine Wp_t es ?_
  refine Wp_letI ?_; intro v ev; subst ev
  rw [kcPl_t hC hV hb]
  refine Wp_bis (Wp_t (by decide) ?_)
  rw [eg]
  refine Wp_t es ?_
  refine Wp_letI ?_; intro v ev; subst ev
  exact Wp_bv _ (wy_ok hK hp) (fun M1 ⟨q1, q2⟩ => Wp_some ⟨rfl, q1, q2⟩)
theorem iw_t {M : kr_M} {p a b : Nat} {G : GG} (hV : GV G) (hR : RG M G) (hp : p < gPe G) (ha : a < gPl G) (hb : b < gPl G) : f_X12_isWay (nI p) (nI a) (nI b) M = some (1, M) := by
  apply Wp_eq
  unfold f_X12_isWay
  rw [krPe_t hR hV hp]
  refine Wp_bis (Wp_f (by decide) ?_)
  rw [krPl_t hR hV ha]
  refine Wp_bis (Wp_f (by decide) ?_)
  rw [krPl_t hR hV hb]
  exact Wp_bis (Wp_f (by decide) (Wp_some rfl))
theorem wa_c {G : GG} (hV : GV G) (p1 p2 p3 : Int32) : (∃ p a b, p < gPe G ∧ a < gPl G ∧ b < gPl G ∧ p1 = nI p ∧ p2 = nI a ∧ p3 = nI b) ∨ ((∀ M g, KS M g G → f_X11_opensWays p1 p2 p3 M = some (0, M)) ∧ ∀ M, RG M G → f_X12_isWay p1 p2 p3 M = some (0, M)) := by
  have hV' := hV
  obtain ⟨vLi, v0, vPl, vWe, vOd, vKi, vWo, vRo, vPe, vWt, vAc, vIn, vWa, vL, vMn, vW, vA, vB, vAB, vLd, vCr, vN, vK, vWg, vPc, vSt, vD⟩ := hV'
  rcases arg_c p1 (show gPe G < 2 ^ 31 by omega) with ⟨p, hp, rfl⟩ | h1
  · rcases arg_c p2 (show gPl G < 2 ^ 31 by omega) with ⟨a, ha, rfl⟩ | h2
    · rcases arg_c p3 (show gPl G < 2 ^ 31 by omega) with ⟨b, hb, rfl⟩ | h3
      · exact Or.inl ⟨p, a, b, hp, ha, hb, rfl, rfl, rfl⟩
      · refine Or.inr ⟨fun M g hK => ?_, fun M hR => ?_⟩
        · apply Wp_eq
          unfold f_X11_opensWays
          rw [hK.gr]
          refine Wp_t hK.sh ?_
          refine Wp_letI ?_; intro v ev; subst ev
          rw [kcPe_t hK.C hV hp]
          refine Wp_bis (Wp_f (by decide) ?_)
          rw [hK.gr]
          refine Wp_t hK.sh ?_
          refine Wp_letI ?_; intro v ev; subst ev
          rw [kcPl_t hK.C hV ha]
          refine Wp_bis (Wp_f (by decide) ?_)
          rw [hK.gr]
          refine Wp_t hK.sh ?_
          refine Wp_letI ?_; intro v ev; subst ev
          rw [kcPl_f hK.C hV h3]
          exact Wp_bis (Wp_f (by decide) (Wp_some rfl))
        · apply Wp_eq
          unfold f_X12_isWay
          rw [krPe_t hR hV hp]
          refine Wp_bis (Wp_f (by decide) ?_)
          rw [krPl_t hR hV ha]
          refine Wp_bis (Wp_f (by decide) ?_)
          rw [krPl_f hR hV h3]
          exact Wp_bis (Wp_t (by decide) (Wp_some rfl))
    · refine Or.inr ⟨fun M g hK => ?_, fun M hR => ?_⟩
      · apply Wp_eq
        unfold f_X11_opensWays
        rw [hK.gr]
        refine Wp_t hK.sh ?_
        refine Wp_letI ?_; intro v ev; subst ev
        rw [kcPe_t hK.C hV hp]
        refine Wp_bis (Wp_f (by decide) ?_)
        rw [hK.gr]
        refine Wp_t hK.sh ?_
        refine Wp_letI ?_; intro v ev; subst ev
        rw [kcPl_f hK.C hV h2]
        exact Wp_bis (Wp_t (by decide) (Wp_some rfl))
      · apply Wp_eq
        unfold f_X12_isWay
        rw [krPe_t hR hV hp]
        refine Wp_bis (Wp_f (by decide) ?_)
        rw [krPl_f hR hV h2]
        exact Wp_bis (Wp_t (by decide) (Wp_some rfl))
  · refine Or.inr ⟨fun M g hK => ?_, fun M hR => ?_⟩
    · apply Wp_eq
      unfold f_X11_opensWays
      rw [hK.gr]
      refine Wp_t hK.sh ?_
      refine Wp_letI ?_; intro v ev; subst ev
      rw [kcPe_f hK.C hV h1]
      exact Wp_bis (Wp_t (by decide) (Wp_some rfl))
    · apply Wp_eq
      unfold f_X12_isWay
      rw [krPe_f hR hV h1]
      exact Wp_bis (Wp_t (by decide) (Wp_some rfl))
theorem op_30 (p1 p2 p3 : Int32) (M : kr_M) (h : Sim M) : ∃ (r : Int32) (M1 M2 : kr_M), f_X11_way p1 p2 p3 M = some (r, M1) ∧ f_X12_way p1 p2 p3 M1 = some (r, M2) ∧ Sim M2 := by
  refine op_q (c := f_X11_way p1 p2 p3) (f := f_X12_way p1 p2 p3) h (fun g G hK => ?_)
  have hV := hK.V
  have hV' := hV
  have hC := hK.C
  have hC' := hC
  have eg := hK.gr
  have es := hK.sh
  obtain ⟨vLi, v0, vPl, vWe, vOd, vKi, vWo, vRo, vPe, vWt, vAc, vIn, vWa, vL, vMn, vW, vA, vB, vAB, vLd, vCr, vN, vK, vWg, vPc, vSt, vD⟩ := hV'
  obtain ⟨c0, cPl, cWe, cOd, cKi, cWo, cRo, cPe, cWt, cAc, cIn, cWa, cL, cMn, cW, cA, cB, cLd, cCr, cN, cK, cWg, cPc, cSt⟩ := hC'
  rcases wa_c hV p1 p2 p3 with ⟨p, a, b, hp, ha, hb, rfl, rfl, rfl⟩ | ⟨w1, w2⟩
  · obtain ⟨o, ho, hbo⟩ := sdO hK hp (-1) ha hb
    refine ⟨kw_e o, ?_, fun M hK => ?_⟩
    · unfold f_X11_way
      refine Wp_bi _ (ow_t hK hp ha hb) (fun x M1 ⟨q1, ⟨T, t1, t2, t3, t4⟩, q3⟩ => ?_)
      have q1 : x = 1 := q1
      subst q1
      refine Wp_t (by decide) ?_
      have t1 : wT M1 (gPl G) T := t1
      rw [tF_ok (by omega) t1 ha hb, isD_u (t2 a b ha hb) ho]
      exact Wp_bis (Wp_some ⟨rfl, q3.fr wy_s⟩)
    · unfold f_X12_way; refine Wp_letI ?_; intro M1 hM1; have hK1 : KS M1 g G := (by rw [← hM1]; exact hK.fr (Fr.thrown _ _)); have hF1 : Fr M M1 := (by rw [← hM1]; exact Fr.thrown _ _); clear hM1; have hV := hK1.V; have hR1 := hK1.R; have hR2 := hR1; obtain ⟨r0, rPl, rWe, rOd, rKi, rWo, rRo, rPe, rAc, rInc, rWa, rL, rMn, rW, rA, rB, rLd, rWg, rPc⟩ := hR2
      rw [iw_t hV hR1 hp ha hb]
      refine Wp_bis (Wp_t (by decide) ?_)
      refine Wp_bv _ hK1.lays (fun M2 ⟨hL, hFL, hK2⟩ => ?_); have hF2 := hF1.trans hFL.fr; have hR2 := hK2.R; have hL' := hL; have hR2' := hR2; obtain ⟨lN, lK, lCr, lSt, lWt⟩ := hL'; obtain ⟨r0, rPl, rWe, rOd, rKi, rWo, rRo, rPe, rAc, rInc, rWa, rL, rMn, rW, rA, rB, rLd, rWg, rPc⟩ := hR2'
      refine Wp_bv _ (tm_ok (wo := -1) hV hR2 hL hp (by omega : b < 6)) (fun M3 ⟨⟨t, t1, t2, t3⟩, f3⟩ => ?_)
      have e := t1 a (by omega)
      rw [isD_u (t2 a) ho] at e
      cases o with
      | none =>
        have e : M3.1 381 a = nI 100000000 := e
        (repeat (first | with_reducible refine Wp_some ?_ | (with_reducible refine Wp_letI ?_; intro v_ hv_; (try simp (disch := omega) only [L_0, L_1, L_2, L_3, L_4, L_5, L_6, L_7, L_8, L_9, L_10, L_11, L_12, L_16, L_18, L_20, L_24, L_25, L_30, L_32, L_38, L_40, L_48, L_50, L_60, L_63, L_64, L_72, L_99, L_100, L_160, L_500, L_999, L_1380, L_1400, L_2400, L_2401, L_60025, L_100000, L_1000000, L_100000000, L_2000000000, nI_add, pk_mul, nI_clamp, nI_leI, nI_ltI, nI_eq, kin_I, pk_sub, nI_m1, m1_nI, nI_am1, kx_max, kx_min, kt_tx, kt_rp, kg_si, kg_sl, kq_si, kq_sl, kv_si, kv_sl, Nat.reduceAdd, Nat.reduceMul, Nat.reduceSub, Nat.reduceEqDiff, Nat.reduceLT, Nat.reduceLeDiff, ne_eq, not_true_eq_false, not_false_eq_true, or_true, true_or, or_false, false_or, and_true, true_and, false_and, and_false, if_true, if_false, ite_true, ite_false, reduceIte, kl_0, kl_1, kl_2, kl_3, kl_6, kl_20, kl_50, kl_500, kl_999, kl_2400, kl_2g, in_t, in_tt, in_f, in_ff, in_n, if_pos, if_neg, eq_self, nI_n1, n1_nI, nI_an1, lesser_n1, lesser_rn, lesser_n, kx_n1, e] at hv_); subst hv_) | (with_reducible refine Wp_biI ?_; intro c_ hc_; simp (disch := omega) only [L_0, L_1, L_2, L_3, L_4, L_5, L_6, L_7, L_8, L_9, L_10, L_11, L_12, L_16, L_18, L_20, L_24, L_25, L_30, L_32, L_38, L_40, L_48, L_50, L_60, L_63, L_64, L_72, L_99, L_100, L_160, L_500, L_999, L_1380, L_1400, L_2400, L_2401, L_60025, L_100000, L_1000000, L_100000000, L_2000000000, nI_add, pk_mul, nI_clamp, nI_leI, nI_ltI, nI_eq, kin_I, pk_sub, nI_m1, m1_nI, nI_am1, kx_max, kx_min, kt_tx, kt_rp, kg_si, kg_sl, kq_si, kq_sl, kv_si, kv_sl, Nat.reduceAdd, Nat.reduceMul, Nat.reduceSub, Nat.reduceEqDiff, Nat.reduceLT, Nat.reduceLeDiff, ne_eq, not_true_eq_false, not_false_eq_true, or_true, true_or, or_false, false_or, and_true, true_and, false_and, and_false, if_true, if_false, ite_true, ite_false, reduceIte, kl_0, kl_1, kl_2, kl_3, kl_6, kl_20, kl_50, kl_500, kl_999, kl_2400, kl_2g, in_t, in_tt, in_f, in_ff, in_n, if_pos, if_neg, eq_self, nI_n1, n1_nI, nI_an1, lesser_n1, lesser_rn, lesser_n, kx_n1, e] at hc_; subst hc_; with_reducible refine Wp_bis ?_) | (with_reducible refine Wp_bvI ?_; intro c_ hc_; simp (disch := omega) only [L_0, L_1, L_2, L_3, L_4, L_5, L_6, L_7, L_8, L_9, L_10, L_11, L_12, L_16, L_18, L_20, L_24, L_25, L_30, L_32, L_38, L_40, L_48, L_50, L_60, L_63, L_64, L_72, L_99, L_100, L_160, L_500, L_999, L_1380, L_1400, L_2400, L_2401, L_60025, L_100000, L_1000000, L_100000000, L_2000000000, nI_add, pk_mul, nI_clamp, nI_leI, nI_ltI, nI_eq, kin_I, pk_sub, nI_m1, m1_nI, nI_am1, kx_max, kx_min, kt_tx, kt_rp, kg_si, kg_sl, kq_si, kq_sl, kv_si, kv_sl, Nat.reduceAdd, Nat.reduceMul, Nat.reduceSub, Nat.reduceEqDiff, Nat.reduceLT, Nat.reduceLeDiff, ne_eq, not_true_eq_false, not_false_eq_true, or_true, true_or, or_false, false_or, and_true, true_and, false_and, and_false, if_true, if_false, ite_true, ite_false, reduceIte, kl_0, kl_1, kl_2, kl_3, kl_6, kl_20, kl_50, kl_500, kl_999, kl_2400, kl_2g, in_t, in_tt, in_f, in_ff, in_n, if_pos, if_neg, eq_self, nI_n1, n1_nI, nI_an1, lesser_n1, lesser_rn, lesser_n, kx_n1, e] at hc_; subst hc_; with_reducible refine Wp_bvs ?_) | (with_reducible refine Wp_t (by (first | (simp (disch := omega) only [L_0, L_1, L_2, L_3, L_4, L_5, L_6, L_7, L_8, L_9, L_10, L_11, L_12, L_16, L_18, L_20, L_24, L_25, L_30, L_32, L_38, L_40, L_48, L_50, L_60, L_63, L_64, L_72, L_99, L_100, L_160, L_500, L_999, L_1380, L_1400, L_2400, L_2401, L_60025, L_100000, L_1000000, L_100000000, L_2000000000, nI_add, pk_mul, nI_clamp, nI_leI, nI_ltI, nI_eq, kin_I, pk_sub, nI_m1, m1_nI, nI_am1, kx_max, kx_min, kt_tx, kt_rp, kg_si, kg_sl, kq_si, kq_sl, kv_si, kv_sl, Nat.reduceAdd, Nat.reduceMul, Nat.reduceSub, Nat.reduceEqDiff, Nat.reduceLT, Nat.reduceLeDiff, ne_eq, not_true_eq_false, not_false_eq_true, or_true, true_or, or_false, false_or, and_true, true_and, false_and, and_false, if_true, if_false, ite_true, ite_false, reduceIte, kl_0, kl_1, kl_2, kl_3, kl_6, kl_20, kl_50, kl_500, kl_999, kl_2400, kl_2g, in_t, in_tt, in_f, in_ff, in_n, if_pos, if_neg, eq_self, nI_n1, n1_nI, nI_an1, lesser_n1, lesser_rn, lesser_n, kx_n1, e]; done) | (simp (disch := omega) only [L_0, L_1, L_2, L_3, L_4, L_5, L_6, L_7, L_8, L_9, L_10, L_11, L_12, L_16, L_18, L_20, L_24, L_25, L_30, L_32, L_38, L_40, L_48, L_50, L_60, L_63, L_64, L_72, L_99, L_100, L_160, L_500, L_999, L_1380, L_1400, L_2400, L_2401, L_60025, L_100000, L_1000000, L_100000000, L_2000000000, nI_add, pk_mul, nI_clamp, nI_leI, nI_ltI, nI_eq, kin_I, pk_sub, nI_m1, m1_nI, nI_am1, kx_max, kx_min, kt_tx, kt_rp, kg_si, kg_sl, kq_si, kq_sl, kv_si, kv_sl, Nat.reduceAdd, Nat.reduceMul, Nat.reduceSub, Nat.reduceEqDiff, Nat.reduceLT, Nat.reduceLeDiff, ne_eq, not_true_eq_false, not_false_eq_true, or_true, true_or, or_false, false_or, and_true, true_and, false_and, and_false, if_true, if_false, ite_true, ite_false, reduceIte, kl_0, kl_1, kl_2, kl_3, kl_6, kl_20, kl_50, kl_500, kl_999, kl_2400, kl_2g, in_t, in_tt, in_f, in_ff, in_n, if_pos, if_neg, eq_self, nI_n1, n1_nI, nI_an1, lesser_n1, lesser_rn, lesser_n, kx_n1, e]; omega) | decide)) ?_) | (with_reducible refine Wp_f (by (first | (simp (disch := omega) only [L_0, L_1, L_2, L_3, L_4, L_5, L_6, L_7, L_8, L_9, L_10, L_11, L_12, L_16, L_18, L_20, L_24, L_25, L_30, L_32, L_38, L_40, L_48, L_50, L_60, L_63, L_64, L_72, L_99, L_100, L_160, L_500, L_999, L_1380, L_1400, L_2400, L_2401, L_60025, L_100000, L_1000000, L_100000000, L_2000000000, nI_add, pk_mul, nI_clamp, nI_leI, nI_ltI, nI_eq, kin_I, pk_sub, nI_m1, m1_nI, nI_am1, kx_max, kx_min, kt_tx, kt_rp, kg_si, kg_sl, kq_si, kq_sl, kv_si, kv_sl, Nat.reduceAdd, Nat.reduceMul, Nat.reduceSub, Nat.reduceEqDiff, Nat.reduceLT, Nat.reduceLeDiff, ne_eq, not_true_eq_false, not_false_eq_true, or_true, true_or, or_false, false_or, and_true, true_and, false_and, and_false, if_true, if_false, ite_true, ite_false, reduceIte, kl_0, kl_1, kl_2, kl_3, kl_6, kl_20, kl_50, kl_500, kl_999, kl_2400, kl_2g, in_t, in_tt, in_f, in_ff, in_n, if_pos, if_neg, eq_self, nI_n1, n1_nI, nI_an1, lesser_n1, lesser_rn, lesser_n, kx_n1, e]; done) | (simp (disch := omega) only [L_0, L_1, L_2, L_3, L_4, L_5, L_6, L_7, L_8, L_9, L_10, L_11, L_12, L_16, L_18, L_20, L_24, L_25, L_30, L_32, L_38, L_40, L_48, L_50, L_60, L_63, L_64, L_72, L_99, L_100, L_160, L_500, L_999, L_1380, L_1400, L_2400, L_2401, L_60025, L_100000, L_1000000, L_100000000, L_2000000000, nI_add, pk_mul, nI_clamp, nI_leI, nI_ltI, nI_eq, kin_I, pk_sub, nI_m1, m1_nI, nI_am1, kx_max, kx_min, kt_tx, kt_rp, kg_si, kg_sl, kq_si, kq_sl, kv_si, kv_sl, Nat.reduceAdd, Nat.reduceMul, Nat.reduceSub, Nat.reduceEqDiff, Nat.reduceLT, Nat.reduceLeDiff, ne_eq, not_true_eq_false, not_false_eq_true, or_true, true_or, or_false, false_or, and_true, true_and, false_and, and_false, if_true, if_false, ite_true, ite_false, reduceIte, kl_0, kl_1, kl_2, kl_3, kl_6, kl_20, kl_50, kl_500, kl_999, kl_2400, kl_2g, in_t, in_tt, in_f, in_ff, in_n, if_pos, if_neg, eq_self, nI_n1, n1_nI, nI_an1, lesser_n1, lesser_rn, lesser_n, kx_n1, e]; omega) | decide)) ?_))); try simp (disch := omega) only [nI_1, kt_rp, kt_tx]
        first | exact ⟨rfl, hF2.trans (f3.fr tm_s)⟩ | exact ⟨trivial, hF2.trans (f3.fr tm_s)⟩
      | some v =>
        have hv := hbo v rfl
        have e : M3.1 381 a = nI v := e
        (repeat (first | with_reducible refine Wp_some ?_ | (with_reducible refine Wp_letI ?_; intro v_ hv_; (try simp (disch := omega) only [L_0, L_1, L_2, L_3, L_4, L_5, L_6, L_7, L_8, L_9, L_10, L_11, L_12, L_16, L_18, L_20, L_24, L_25, L_30, L_32, L_38, L_40, L_48, L_50, L_60, L_63, L_64, L_72, L_99, L_100, L_160, L_500, L_999, L_1380, L_1400, L_2400, L_2401, L_60025, L_100000, L_1000000, L_100000000, L_2000000000, nI_add, pk_mul, nI_clamp, nI_leI, nI_ltI, nI_eq, kin_I, pk_sub, nI_m1, m1_nI, nI_am1, kx_max, kx_min, kt_tx, kt_rp, kg_si, kg_sl, kq_si, kq_sl, kv_si, kv_sl, Nat.reduceAdd, Nat.reduceMul, Nat.reduceSub, Nat.reduceEqDiff, Nat.reduceLT, Nat.reduceLeDiff, ne_eq, not_true_eq_false, not_false_eq_true, or_true, true_or, or_false, false_or, and_true, true_and, false_and, and_false, if_true, if_false, ite_true, ite_false, reduceIte, kl_0, kl_1, kl_2, kl_3, kl_6, kl_20, kl_50, kl_500, kl_999, kl_2400, kl_2g, in_t, in_tt, in_f, in_ff, in_n, if_pos, if_neg, eq_self, nI_n1, n1_nI, nI_an1, lesser_n1, lesser_rn, lesser_n, kx_n1, e] at hv_); subst hv_) | (with_reducible refine Wp_biI ?_; intro c_ hc_; simp (disch := omega) only [L_0, L_1, L_2, L_3, L_4, L_5, L_6, L_7, L_8, L_9, L_10, L_11, L_12, L_16, L_18, L_20, L_24, L_25, L_30, L_32, L_38, L_40, L_48, L_50, L_60, L_63, L_64, L_72, L_99, L_100, L_160, L_500, L_999, L_1380, L_1400, L_2400, L_2401, L_60025, L_100000, L_1000000, L_100000000, L_2000000000, nI_add, pk_mul, nI_clamp, nI_leI, nI_ltI, nI_eq, kin_I, pk_sub, nI_m1, m1_nI, nI_am1, kx_max, kx_min, kt_tx, kt_rp, kg_si, kg_sl, kq_si, kq_sl, kv_si, kv_sl, Nat.reduceAdd, Nat.reduceMul, Nat.reduceSub, Nat.reduceEqDiff, Nat.reduceLT, Nat.reduceLeDiff, ne_eq, not_true_eq_false, not_false_eq_true, or_true, true_or, or_false, false_or, and_true, true_and, false_and, and_false, if_true, if_false, ite_true, ite_false, reduceIte, kl_0, kl_1, kl_2, kl_3, kl_6, kl_20, kl_50, kl_500, kl_999, kl_2400, kl_2g, in_t, in_tt, in_f, in_ff, in_n, if_pos, if_neg, eq_self, nI_n1, n1_nI, nI_an1, lesser_n1, lesser_rn, lesser_n, kx_n1, e] at hc_; subst hc_; with_reducible refine Wp_bis ?_) | (with_reducible refine Wp_bvI ?_; intro c_ hc_; simp (disch := omega) only [L_0, L_1, L_2, L_3, L_4, L_5, L_6, L_7, L_8, L_9, L_10, L_11, L_12, L_16, L_18, L_20, L_24, L_25, L_30, L_32, L_38, L_40, L_48, L_50, L_60, L_63, L_64, L_72, L_99, L_100, L_160, L_500, L_999, L_1380, L_1400, L_2400, L_2401, L_60025, L_100000, L_1000000, L_100000000, L_2000000000, nI_add, pk_mul, nI_clamp, nI_leI, nI_ltI, nI_eq, kin_I, pk_sub, nI_m1, m1_nI, nI_am1, kx_max, kx_min, kt_tx, kt_rp, kg_si, kg_sl, kq_si, kq_sl, kv_si, kv_sl, Nat.reduceAdd, Nat.reduceMul, Nat.reduceSub, Nat.reduceEqDiff, Nat.reduceLT, Nat.reduceLeDiff, ne_eq, not_true_eq_false, not_false_eq_true, or_true, true_or, or_false, false_or, and_true, true_and, false_and, and_false, if_true, if_false, ite_true, ite_false, reduceIte, kl_0, kl_1, kl_2, kl_3, kl_6, kl_20, kl_50, kl_500, kl_999, kl_2400, kl_2g, in_t, in_tt, in_f, in_ff, in_n, if_pos, if_neg, eq_self, nI_n1, n1_nI, nI_an1, lesser_n1, lesser_rn, lesser_n, kx_n1, e] at hc_; subst hc_; with_reducible refine Wp_bvs ?_) | (with_reducible refine Wp_t (by (first | (simp (disch := omega) only [L_0, L_1, L_2, L_3, L_4, L_5, L_6, L_7, L_8, L_9, L_10, L_11, L_12, L_16, L_18, L_20, L_24, L_25, L_30, L_32, L_38, L_40, L_48, L_50, L_60, L_63, L_64, L_72, L_99, L_100, L_160, L_500, L_999, L_1380, L_1400, L_2400, L_2401, L_60025, L_100000, L_1000000, L_100000000, L_2000000000, nI_add, pk_mul, nI_clamp, nI_leI, nI_ltI, nI_eq, kin_I, pk_sub, nI_m1, m1_nI, nI_am1, kx_max, kx_min, kt_tx, kt_rp, kg_si, kg_sl, kq_si, kq_sl, kv_si, kv_sl, Nat.reduceAdd, Nat.reduceMul, Nat.reduceSub, Nat.reduceEqDiff, Nat.reduceLT, Nat.reduceLeDiff, ne_eq, not_true_eq_false, not_false_eq_true, or_true, true_or, or_false, false_or, and_true, true_and, false_and, and_false, if_true, if_false, ite_true, ite_false, reduceIte, kl_0, kl_1, kl_2, kl_3, kl_6, kl_20, kl_50, kl_500, kl_999, kl_2400, kl_2g, in_t, in_tt, in_f, in_ff, in_n, if_pos, if_neg, eq_self, nI_n1, n1_nI, nI_an1, lesser_n1, lesser_rn, lesser_n, kx_n1, e]; done) | (simp (disch := omega) only [L_0, L_1, L_2, L_3, L_4, L_5, L_6, L_7, L_8, L_9, L_10, L_11, L_12, L_16, L_18, L_20, L_24, L_25, L_30, L_32, L_38, L_40, L_48, L_50, L_60, L_63, L_64, L_72, L_99, L_100, L_160, L_500, L_999, L_1380, L_1400, L_2400, L_2401, L_60025, L_100000, L_1000000, L_100000000, L_2000000000, nI_add, pk_mul, nI_clamp, nI_leI, nI_ltI, nI_eq, kin_I, pk_sub, nI_m1, m1_nI, nI_am1, kx_max, kx_min, kt_tx, kt_rp, kg_si, kg_sl, kq_si, kq_sl, kv_si, kv_sl, Nat.reduceAdd, Nat.reduceMul, Nat.reduceSub, Nat.reduceEqDiff, Nat.reduceLT, Nat.reduceLeDiff, ne_eq, not_true_eq_false, not_false_eq_true, or_true, true_or, or_false, false_or, and_true, true_and, false_and, and_false, if_true, if_false, ite_true, ite_false, reduceIte, kl_0, kl_1, kl_2, kl_3, kl_6, kl_20, kl_50, kl_500, kl_999, kl_2400, kl_2g, in_t, in_tt, in_f, in_ff, in_n, if_pos, if_neg, eq_self, nI_n1, n1_nI, nI_an1, lesser_n1, lesser_rn, lesser_n, kx_n1, e]; omega) | decide)) ?_) | (with_reducible refine Wp_f (by (first | (simp (disch := omega) only [L_0, L_1, L_2, L_3, L_4, L_5, L_6, L_7, L_8, L_9, L_10, L_11, L_12, L_16, L_18, L_20, L_24, L_25, L_30, L_32, L_38, L_40, L_48, L_50, L_60, L_63, L_64, L_72, L_99, L_100, L_160, L_500, L_999, L_1380, L_1400, L_2400, L_2401, L_60025, L_100000, L_1000000, L_100000000, L_2000000000, nI_add, pk_mul, nI_clamp, nI_leI, nI_ltI, nI_eq, kin_I, pk_sub, nI_m1, m1_nI, nI_am1, kx_max, kx_min, kt_tx, kt_rp, kg_si, kg_sl, kq_si, kq_sl, kv_si, kv_sl, Nat.reduceAdd, Nat.reduceMul, Nat.reduceSub, Nat.reduceEqDiff, Nat.reduceLT, Nat.reduceLeDiff, ne_eq, not_true_eq_false, not_false_eq_true, or_true, true_or, or_false, false_or, and_true, true_and, false_and, and_false, if_true, if_false, ite_true, ite_false, reduceIte, kl_0, kl_1, kl_2, kl_3, kl_6, kl_20, kl_50, kl_500, kl_999, kl_2400, kl_2g, in_t, in_tt, in_f, in_ff, in_n, if_pos, if_neg, eq_self, nI_n1, n1_nI, nI_an1, lesser_n1, lesser_rn, lesser_n, kx_n1, e]; done) | (simp (disch := omega) only [L_0, L_1, L_2, L_3, L_4, L_5, L_6, L_7, L_8, L_9, L_10, L_11, L_12, L_16, L_18, L_20, L_24, L_25, L_30, L_32, L_38, L_40, L_48, L_50, L_60, L_63, L_64, L_72, L_99, L_100, L_160, L_500, L_999, L_1380, L_1400, L_2400, L_2401, L_60025, L_100000, L_1000000, L_100000000, L_2000000000, nI_add, pk_mul, nI_clamp, nI_leI, nI_ltI, nI_eq, kin_I, pk_sub, nI_m1, m1_nI, nI_am1, kx_max, kx_min, kt_tx, kt_rp, kg_si, kg_sl, kq_si, kq_sl, kv_si, kv_sl, Nat.reduceAdd, Nat.reduceMul, Nat.reduceSub, Nat.reduceEqDiff, Nat.reduceLT, Nat.reduceLeDiff, ne_eq, not_true_eq_false, not_false_eq_true, or_true, true_or, or_false, false_or, and_true, true_and, false_and, and_false, if_true, if_false, ite_true, ite_false, reduceIte, kl_0, kl_1, kl_2, kl_3, kl_6, kl_20, kl_50, kl_500, kl_999, kl_2400, kl_2g, in_t, in_tt, in_f, in_ff, in_n, if_pos, if_neg, eq_self, nI_n1, n1_nI, nI_an1, lesser_n1, lesser_rn, lesser_n, kx_n1, e]; omega) | decide)) ?_))); try simp (disch := omega) only [nI_1, kt_rp, kt_tx]
        first | exact ⟨rfl, hF2.trans (f3.fr tm_s)⟩ | exact ⟨trivial, hF2.trans (f3.fr tm_s)⟩
  · refine ⟨-2, ?_, fun M hK => ?_⟩
    · unfold f_X11_way
      rw [w1 M g hK]
      exact Wp_bis (Wp_f (fun q => q rfl) (Wp_some ⟨rfl, Fr.refl M⟩))
    · unfold f_X12_way; refine Wp_letI ?_; intro M1 hM1; have hK1 : KS M1 g G := (by rw [← hM1]; exact hK.fr (Fr.thrown _ _)); have hF1 : Fr M M1 := (by rw [← hM1]; exact Fr.thrown _ _); clear hM1; have hV := hK1.V; have hR1 := hK1.R; have hR2 := hR1; obtain ⟨r0, rPl, rWe, rOd, rKi, rWo, rRo, rPe, rAc, rInc, rWa, rL, rMn, rW, rA, rB, rLd, rWg, rPc⟩ := hR2
      rw [w2 M1 hR1]
      exact Wp_bis (Wp_f (fun q => q rfl) (Wp_some ⟨rfl, hF1⟩))
noncomputable def kyB (G : GG) (p a b r : Nat) : Bool := @decide (∃ v, sd G p (nI r) a b v) (Classical.propDecidable _)
theorem kyB_t {G : GG} {p a b r : Nat} : kyB G p a b r = true ↔ ∃ v, sd G p (nI r) a b v := by unfold kyB; exact @decide_eq_true_iff _ (Classical.propDecidable _)
theorem isD_n {P : Nat → Prop} (h : isD none P) : ¬ ∃ v, P v := fun ⟨v, hv⟩ => by
  obtain ⟨u, hu, _⟩ := h.2 v hv
  exact absurd hu (by simp)
theorem ky_C {M0 : kr_M} {g p a b : Nat} {G : GG} (hp : p < gPe G) (ha : a < gPl G) (hb : b < gPl G) : ∀ n' r M x, r ≤ gRo G → gRo G - r < n' → KS M g G → Fx wyX M0 M → Wp (f_X9_ropesOnAll_19 g (nI p) (nI a) (nI b) n' x (nI r) M) (fun y => y.1 = orF (fun r => !kyB G p a b r) (gRo G - r) r x ∧ Fx wyX M0 y.2) := by
  intro n'
  induction n' with
  | zero => intro r M x h1 h2; omega
  | succ n' ih =>
    intro r M x h1 h2 hK hF
    have hV := hK.V
    obtain ⟨vLi, v0, vPl, vWe, vOd, vKi, vWo, vRo, vPe, vWt, vAc, vIn, vWa, vL, vMn, vW, vA, vB, vAB, vLd, vCr, vN, vK, vWg, vPc, vSt, vD⟩ := hV
    have hC := hK.C
    obtain ⟨c0, cPl, cWe, cOd, cKi, cWo, cRo, cPe, cWt, cAc, cIn, cWa, cL, cMn, cW, cA, cB, cLd, cCr, cN, cK, cWg, cPc, cSt⟩ := hC
    rw [f_X9_ropesOnAll_19]
    refine Wp_letI ?_; intro v ev
    rw [cRo] at ev
    subst ev
    by_cases c : r = gRo G
    · subst c
      refine Wp_t (nI_le (Nat.le_refl _) (by omega)) (Wp_some ⟨?_, hF⟩)
      rw [Nat.sub_self]; rfl
    · refine Wp_f (nI_ge (by omega) (by omega)) ?_
      refine Wp_bv _ (wy_ok (wo := nI r) hK hp) (fun M1 ⟨⟨T, t1, t2, t3, t4⟩, q3⟩ => ?_)
      rw [tF_ok (by omega) t1 ha hb]
      refine Wp_bis ?_
      obtain ⟨m, hm⟩ : ∃ m, gRo G - r = m + 1 := ⟨gRo G - r - 1, by omega⟩
      have hm' : gRo G - (r + 1) = m := by omega
      have nx := ih (r + 1) M1
      rw [hm'] at nx
      rw [hm]
      have hD := t2 a b ha hb
      cases e : T a b with
      | none =>
        rw [e] at hD
        have k : kyB G p a b r = false := by
          cases z : kyB G p a b r with
          | false => rfl
          | true => exact absurd (kyB_t.mp z) (isD_n hD)
        refine Wp_f (fun q => q rfl) ?_
        refine Wp_letI ?_; intro v ev
        unfold f_X9_ropesOnAll_56
        rw [L_1, nI_add]
        refine Wp_mono (nx v (by omega) (by omega) (hK.fr (q3.fr wy_s)) (hF.trans q3)) (fun y ⟨y1, y2⟩ => ⟨?_, y2⟩)
        rw [y1, ← ev]
        show _ = orF _ m (r + 1) (if (!kyB G p a b r) = true then _ else _)
        rw [k]
        rfl
      | some w =>
        rw [e] at hD
        have k : kyB G p a b r = true := kyB_t.mpr ⟨w, hD.1 w rfl⟩
        have hw := t3 a b w e
        refine Wp_t (fun q => (nI_m1 (by omega)).mp q) ?_
        unfold f_X9_ropesOnAll_56
        rw [L_1, nI_add]
        refine Wp_mono (nx x (by omega) (by omega) (hK.fr (q3.fr wy_s)) (hF.trans q3)) (fun y ⟨y1, y2⟩ => ⟨?_, y2⟩)
        rw [y1]
        show _ = orF _ m (r + 1) (if (!kyB G p a b r) = true then _ else _)
        rw [k]
        rfl
theorem ky_R {M0 : kr_M} {p a b : Nat} {G : GG} (hV : GV G) (hp : p < gPe G) (ha : a < gPl G) (hb : b < gPl G) : ∀ n' r M x, r ≤ gRo G → gRo G - r < n' → RG M G → LG M G → Fx tmX M0 M → Wp (f_X12_keys_49 (nI p) (nI a) (nI b) n' x (nI r) M) (fun y => y.1 = orF (fun r => !kyB G p a b r) (gRo G - r) r x ∧ Fx tmX M0 y.2) := by
  have hV' := hV
  obtain ⟨vLi, v0, vPl, vWe, vOd, vKi, vWo, vRo, vPe, vWt, vAc, vIn, vWa, vL, vMn, vW, vA, vB, vAB, vLd, vCr, vN, vK, vWg, vPc, vSt, vD⟩ := hV'
  intro n'
  induction n' with
  | zero => intro r M x h1 h2; omega
  | succ n' ih =>
    intro r M x h1 h2 hR hL hF
    have hR' := hR
    obtain ⟨r0, rPl, rWe, rOd, rKi, rWo, rRo, rPe, rAc, rInc, rWa, rL, rMn, rW, rA, rB, rLd, rWg, rPc⟩ := hR'
    rw [f_X12_keys_49]
    refine Wp_t (by decide) ?_
    refine Wp_letI ?_; intro v ev
    have rRo' : M.1 353 (5 : Int32).toNatClampNeg = nI (gRo G) := rRo
    rw [rRo'] at ev
    subst ev
    by_cases c : r = gRo G
    · subst c
      refine Wp_t (nI_le (Nat.le_refl _) (by omega)) (Wp_some ⟨?_, hF⟩)
      rw [Nat.sub_self]; rfl
    · refine Wp_f (nI_ge (by omega) (by omega)) ?_
      refine Wp_bv _ (tm_ok (wo := nI r) hV hR hL hp (by omega : b < 6)) (fun M1 ⟨⟨t, t1, t2, t3⟩, q3⟩ => ?_)
      refine Wp_t ((kin_I (by omega)).mpr (by omega)) ?_
      refine Wp_letI ?_; intro v ev
      have e1 := t1 a (by omega)
      rw [nI_clamp (by omega), e1] at ev
      obtain ⟨m, hm⟩ : ∃ m, gRo G - r = m + 1 := ⟨gRo G - r - 1, by omega⟩
      have hm' : gRo G - (r + 1) = m := by omega
      have nx := ih (r + 1) M1
      rw [hm'] at nx
      rw [hm]
      have hD := t2 a
      cases e : t a with
      | none =>
        rw [e] at hD ev
        have ev : nI 100000000 = v := ev
        subst ev
        have k : kyB G p a b r = false := by
          cases z : kyB G p a b r with
          | false => rfl
          | true => exact absurd (kyB_t.mp z) (isD_n hD)
        refine Wp_f (by decide) ?_
        unfold f_X12_keys_90
        refine Wp_letI ?_; intro v ev
        rw [L_1, nI_add]
        refine Wp_mono (nx v (by omega) (by omega) (tmG hR q3) (tmL hL q3) (hF.trans q3)) (fun y ⟨y1, y2⟩ => ⟨?_, y2⟩)
        rw [y1, ← ev]
        show _ = orF _ m (r + 1) (if (!kyB G p a b r) = true then _ else _)
        rw [k]
        rfl
      | some w =>
        rw [e] at hD ev
        have ev : nI w = v := ev
        subst ev
        have k : kyB G p a b r = true := kyB_t.mpr ⟨w, hD.1 w rfl⟩
        have hw := t3 a w e
        refine Wp_t (by rw [L_100000000]; exact (nI_ltI (by omega) (by omega)).mpr (by omega)) ?_
        unfold f_X12_keys_90
        refine Wp_letI ?_; intro v ev
        rw [Int32.or_zero] at ev
        rw [L_1, nI_add]
        refine Wp_mono (nx v (by omega) (by omega) (tmG hR q3) (tmL hL q3) (hF.trans q3)) (fun y ⟨y1, y2⟩ => ⟨?_, y2⟩)
        rw [y1, ← ev]
        show _ = orF _ m (r + 1) (if (!kyB G p a b r) = true then _ else _)
        rw [k]
        rfl
theorem op_33 (p1 p2 p3 : Int32) (M : kr_M) (h : Sim M) : ∃ (r : Int32) (M1 M2 : kr_M), f_X11_keys p1 p2 p3 M = some (r, M1) ∧ f_X12_keys p1 p2 p3 M1 = some (r, M2) ∧ Sim M2 := by
  refine op_q (c := f_X11_keys p1 p2 p3) (f := f_X12_keys p1 p2 p3) h (fun g G hK => ?_)
  have hV := hK.V
  have hV' := hV
  have hC := hK.C
  have hC' := hC
  have eg := hK.gr
  have es := hK.sh
  obtain ⟨vLi, v0, vPl, vWe, vOd, vKi, vWo, vRo, vPe, vWt, vAc, vIn, vWa, vL, vMn, vW, vA, vB, vAB, vLd, vCr, vN, vK, vWg, vPc, vSt, vD⟩ := hV'
  obtain ⟨c0, cPl, cWe, cOd, cKi, cWo, cRo, cPe, cWt, cAc, cIn, cWa, cL, cMn, cW, cA, cB, cLd, cCr, cN, cK, cWg, cPc, cSt⟩ := hC'
  rcases wa_c hV p1 p2 p3 with ⟨p, a, b, hp, ha, hb, rfl, rfl, rfl⟩ | ⟨w1, w2⟩
  · obtain ⟨o, ho, hbo⟩ := sdO hK hp (-1) ha hb
    refine ⟨if o = none then 0 else orF (fun r => !kyB G p a b r) (gRo G - 0) 0 0, ?_, fun M hK => ?_⟩
    · unfold f_X11_keys
      refine Wp_bi _ (ow_t hK hp ha hb) (fun x M1 ⟨q1, ⟨T, t1, t2, t3, t4⟩, q3⟩ => ?_)
      have q1 : x = 1 := q1
      subst q1
      refine Wp_t (by decide) ?_
      have t1 : wT M1 (gPl G) T := t1
      have q3 : Fx wyX M M1 := q3
      have hK1 := hK.fr (q3.fr wy_s)
      rw [hK1.gr]
      refine Wp_t hK1.sh ?_
      refine Wp_letI ?_; intro v ev; subst ev
      unfold f_X9_ropesOnAll
      rw [tF_ok (by omega) t1 ha hb, isD_u (t2 a b ha hb) ho]
      cases o with
      | none => exact Wp_bis (Wp_some ⟨(if_pos rfl).symm, q3.fr wy_s⟩)
      | some v =>
        have hv := hbo v rfl
        refine Wp_bi _ (Wp_bis (Wp_t (fun q => (nI_m1 (by omega)).mp q) (ky_C (M0 := M1) hp ha hb kr_F 0 M1 0 (by omega) (kr_F_gt _ (by omega)) hK1 (Fx.refl M1)))) (fun y M2 ⟨y1, y2⟩ => Wp_some ⟨?_, (q3.trans y2).fr wy_s⟩)
        have y1 : y = orF (fun r => !kyB G p a b r) (gRo G - 0) 0 0 := y1
        rw [y1]
        exact (if_neg (by simp)).symm
    · unfold f_X12_keys; refine Wp_letI ?_; intro M1 hM1; have hK1 : KS M1 g G := (by rw [← hM1]; exact hK.fr (Fr.thrown _ _)); have hF1 : Fr M M1 := (by rw [← hM1]; exact Fr.thrown _ _); clear hM1; have hV := hK1.V; have hR1 := hK1.R; have hR2 := hR1; obtain ⟨r0, rPl, rWe, rOd, rKi, rWo, rRo, rPe, rAc, rInc, rWa, rL, rMn, rW, rA, rB, rLd, rWg, rPc⟩ := hR2
      rw [iw_t hV hR1 hp ha hb]
      refine Wp_bis (Wp_t (by decide) ?_)
      refine Wp_bv _ hK1.lays (fun M2 ⟨hL, hFL, hK2⟩ => ?_); have hF2 := hF1.trans hFL.fr; have hR2 := hK2.R; have hL' := hL; have hR2' := hR2; obtain ⟨lN, lK, lCr, lSt, lWt⟩ := hL'; obtain ⟨r0, rPl, rWe, rOd, rKi, rWo, rRo, rPe, rAc, rInc, rWa, rL, rMn, rW, rA, rB, rLd, rWg, rPc⟩ := hR2'
      refine Wp_bv _ (tm_ok (wo := -1) hV hR2 hL hp (by omega : b < 6)) (fun M3 ⟨⟨t, t1, t2, t3⟩, f3⟩ => ?_)
      have e := t1 a (by omega)
      rw [isD_u (t2 a) ho] at e
      cases o with
      | none =>
        have e : M3.1 381 a = nI 100000000 := e
        (repeat (first | with_reducible refine Wp_some ?_ | (with_reducible refine Wp_letI ?_; intro v_ hv_; (try simp (disch := omega) only [L_0, L_1, L_2, L_3, L_4, L_5, L_6, L_7, L_8, L_9, L_10, L_11, L_12, L_16, L_18, L_20, L_24, L_25, L_30, L_32, L_38, L_40, L_48, L_50, L_60, L_63, L_64, L_72, L_99, L_100, L_160, L_500, L_999, L_1380, L_1400, L_2400, L_2401, L_60025, L_100000, L_1000000, L_100000000, L_2000000000, nI_add, pk_mul, nI_clamp, nI_leI, nI_ltI, nI_eq, kin_I, pk_sub, nI_m1, m1_nI, nI_am1, kx_max, kx_min, kt_tx, kt_rp, kg_si, kg_sl, kq_si, kq_sl, kv_si, kv_sl, Nat.reduceAdd, Nat.reduceMul, Nat.reduceSub, Nat.reduceEqDiff, Nat.reduceLT, Nat.reduceLeDiff, ne_eq, not_true_eq_false, not_false_eq_true, or_true, true_or, or_false, false_or, and_true, true_and, false_and, and_false, if_true, if_false, ite_true, ite_false, reduceIte, kl_0, kl_1, kl_2, kl_3, kl_6, kl_20, kl_50, kl_500, kl_999, kl_2400, kl_2g, in_t, in_tt, in_f, in_ff, in_n, if_pos, if_neg, eq_self, nI_n1, n1_nI, nI_an1, lesser_n1, lesser_rn, lesser_n, kx_n1, e] at hv_); subst hv_) | (with_reducible refine Wp_biI ?_; intro c_ hc_; simp (disch := omega) only [L_0, L_1, L_2, L_3, L_4, L_5, L_6, L_7, L_8, L_9, L_10, L_11, L_12, L_16, L_18, L_20, L_24, L_25, L_30, L_32, L_38, L_40, L_48, L_50, L_60, L_63, L_64, L_72, L_99, L_100, L_160, L_500, L_999, L_1380, L_1400, L_2400, L_2401, L_60025, L_100000, L_1000000, L_100000000, L_2000000000, nI_add, pk_mul, nI_clamp, nI_leI, nI_ltI, nI_eq, kin_I, pk_sub, nI_m1, m1_nI, nI_am1, kx_max, kx_min, kt_tx, kt_rp, kg_si, kg_sl, kq_si, kq_sl, kv_si, kv_sl, Nat.reduceAdd, Nat.reduceMul, Nat.reduceSub, Nat.reduceEqDiff, Nat.reduceLT, Nat.reduceLeDiff, ne_eq, not_true_eq_false, not_false_eq_true, or_true, true_or, or_false, false_or, and_true, true_and, false_and, and_false, if_true, if_false, ite_true, ite_false, reduceIte, kl_0, kl_1, kl_2, kl_3, kl_6, kl_20, kl_50, kl_500, kl_999, kl_2400, kl_2g, in_t, in_tt, in_f, in_ff, in_n, if_pos, if_neg, eq_self, nI_n1, n1_nI, nI_an1, lesser_n1, lesser_rn, lesser_n, kx_n1, e] at hc_; subst hc_; with_reducible refine Wp_bis ?_) | (with_reducible refine Wp_bvI ?_; intro c_ hc_; simp (disch := omega) only [L_0, L_1, L_2, L_3, L_4, L_5, L_6, L_7, L_8, L_9, L_10, L_11, L_12, L_16, L_18, L_20, L_24, L_25, L_30, L_32, L_38, L_40, L_48, L_50, L_60, L_63, L_64, L_72, L_99, L_100, L_160, L_500, L_999, L_1380, L_1400, L_2400, L_2401, L_60025, L_100000, L_1000000, L_100000000, L_2000000000, nI_add, pk_mul, nI_clamp, nI_leI, nI_ltI, nI_eq, kin_I, pk_sub, nI_m1, m1_nI, nI_am1, kx_max, kx_min, kt_tx, kt_rp, kg_si, kg_sl, kq_si, kq_sl, kv_si, kv_sl, Nat.reduceAdd, Nat.reduceMul, Nat.reduceSub, Nat.reduceEqDiff, Nat.reduceLT, Nat.reduceLeDiff, ne_eq, not_true_eq_false, not_false_eq_true, or_true, true_or, or_false, false_or, and_true, true_and, false_and, and_false, if_true, if_false, ite_true, ite_false, reduceIte, kl_0, kl_1, kl_2, kl_3, kl_6, kl_20, kl_50, kl_500, kl_999, kl_2400, kl_2g, in_t, in_tt, in_f, in_ff, in_n, if_pos, if_neg, eq_self, nI_n1, n1_nI, nI_an1, lesser_n1, lesser_rn, lesser_n, kx_n1, e] at hc_; subst hc_; with_reducible refine Wp_bvs ?_) | (with_reducible refine Wp_t (by (first | (simp (disch := omega) only [L_0, L_1, L_2, L_3, L_4, L_5, L_6, L_7, L_8, L_9, L_10, L_11, L_12, L_16, L_18, L_20, L_24, L_25, L_30, L_32, L_38, L_40, L_48, L_50, L_60, L_63, L_64, L_72, L_99, L_100, L_160, L_500, L_999, L_1380, L_1400, L_2400, L_2401, L_60025, L_100000, L_1000000, L_100000000, L_2000000000, nI_add, pk_mul, nI_clamp, nI_leI, nI_ltI, nI_eq, kin_I, pk_sub, nI_m1, m1_nI, nI_am1, kx_max, kx_min, kt_tx, kt_rp, kg_si, kg_sl, kq_si, kq_sl, kv_si, kv_sl, Nat.reduceAdd, Nat.reduceMul, Nat.reduceSub, Nat.reduceEqDiff, Nat.reduceLT, Nat.reduceLeDiff, ne_eq, not_true_eq_false, not_false_eq_true, or_true, true_or, or_false, false_or, and_true, true_and, false_and, and_false, if_true, if_false, ite_true, ite_false, reduceIte, kl_0, kl_1, kl_2, kl_3, kl_6, kl_20, kl_50, kl_500, kl_999, kl_2400, kl_2g, in_t, in_tt, in_f, in_ff, in_n, if_pos, if_neg, eq_self, nI_n1, n1_nI, nI_an1, lesser_n1, lesser_rn, lesser_n, kx_n1, e]; done) | (simp (disch := omega) only [L_0, L_1, L_2, L_3, L_4, L_5, L_6, L_7, L_8, L_9, L_10, L_11, L_12, L_16, L_18, L_20, L_24, L_25, L_30, L_32, L_38, L_40, L_48, L_50, L_60, L_63, L_64, L_72, L_99, L_100, L_160, L_500, L_999, L_1380, L_1400, L_2400, L_2401, L_60025, L_100000, L_1000000, L_100000000, L_2000000000, nI_add, pk_mul, nI_clamp, nI_leI, nI_ltI, nI_eq, kin_I, pk_sub, nI_m1, m1_nI, nI_am1, kx_max, kx_min, kt_tx, kt_rp, kg_si, kg_sl, kq_si, kq_sl, kv_si, kv_sl, Nat.reduceAdd, Nat.reduceMul, Nat.reduceSub, Nat.reduceEqDiff, Nat.reduceLT, Nat.reduceLeDiff, ne_eq, not_true_eq_false, not_false_eq_true, or_true, true_or, or_false, false_or, and_true, true_and, false_and, and_false, if_true, if_false, ite_true, ite_false, reduceIte, kl_0, kl_1, kl_2, kl_3, kl_6, kl_20, kl_50, kl_500, kl_999, kl_2400, kl_2g, in_t, in_tt, in_f, in_ff, in_n, if_pos, if_neg, eq_self, nI_n1, n1_nI, nI_an1, lesser_n1, lesser_rn, lesser_n, kx_n1, e]; omega) | decide)) ?_) | (with_reducible refine Wp_f (by (first | (simp (disch := omega) only [L_0, L_1, L_2, L_3, L_4, L_5, L_6, L_7, L_8, L_9, L_10, L_11, L_12, L_16, L_18, L_20, L_24, L_25, L_30, L_32, L_38, L_40, L_48, L_50, L_60, L_63, L_64, L_72, L_99, L_100, L_160, L_500, L_999, L_1380, L_1400, L_2400, L_2401, L_60025, L_100000, L_1000000, L_100000000, L_2000000000, nI_add, pk_mul, nI_clamp, nI_leI, nI_ltI, nI_eq, kin_I, pk_sub, nI_m1, m1_nI, nI_am1, kx_max, kx_min, kt_tx, kt_rp, kg_si, kg_sl, kq_si, kq_sl, kv_si, kv_sl, Nat.reduceAdd, Nat.reduceMul, Nat.reduceSub, Nat.reduceEqDiff, Nat.reduceLT, Nat.reduceLeDiff, ne_eq, not_true_eq_false, not_false_eq_true, or_true, true_or, or_false, false_or, and_true, true_and, false_and, and_false, if_true, if_false, ite_true, ite_false, reduceIte, kl_0, kl_1, kl_2, kl_3, kl_6, kl_20, kl_50, kl_500, kl_999, kl_2400, kl_2g, in_t, in_tt, in_f, in_ff, in_n, if_pos, if_neg, eq_self, nI_n1, n1_nI, nI_an1, lesser_n1, lesser_rn, lesser_n, kx_n1, e]; done) | (simp (disch := omega) only [L_0, L_1, L_2, L_3, L_4, L_5, L_6, L_7, L_8, L_9, L_10, L_11, L_12, L_16, L_18, L_20, L_24, L_25, L_30, L_32, L_38, L_40, L_48, L_50, L_60, L_63, L_64, L_72, L_99, L_100, L_160, L_500, L_999, L_1380, L_1400, L_2400, L_2401, L_60025, L_100000, L_1000000, L_100000000, L_2000000000, nI_add, pk_mul, nI_clamp, nI_leI, nI_ltI, nI_eq, kin_I, pk_sub, nI_m1, m1_nI, nI_am1, kx_max, kx_min, kt_tx, kt_rp, kg_si, kg_sl, kq_si, kq_sl, kv_si, kv_sl, Nat.reduceAdd, Nat.reduceMul, Nat.reduceSub, Nat.reduceEqDiff, Nat.reduceLT, Nat.reduceLeDiff, ne_eq, not_true_eq_false, not_false_eq_true, or_true, true_or, or_false, false_or, and_true, true_and, false_and, and_false, if_true, if_false, ite_true, ite_false, reduceIte, kl_0, kl_1, kl_2, kl_3, kl_6, kl_20, kl_50, kl_500, kl_999, kl_2400, kl_2g, in_t, in_tt, in_f, in_ff, in_n, if_pos, if_neg, eq_self, nI_n1, n1_nI, nI_an1, lesser_n1, lesser_rn, lesser_n, kx_n1, e]; omega) | decide)) ?_))); try simp (disch := omega) only [nI_1, kt_rp, kt_tx]
        first | exact ⟨rfl, hF2.trans (f3.fr tm_s)⟩ | exact ⟨trivial, hF2.trans (f3.fr tm_s)⟩
      | some v =>
        have hv := hbo v rfl
        have e : M3.1 381 a = nI v := e
        (repeat (first | with_reducible refine Wp_some ?_ | (with_reducible refine Wp_letI ?_; intro v_ hv_; (try simp (disch := omega) only [L_0, L_1, L_2, L_3, L_4, L_5, L_6, L_7, L_8, L_9, L_10, L_11, L_12, L_16, L_18, L_20, L_24, L_25, L_30, L_32, L_38, L_40, L_48, L_50, L_60, L_63, L_64, L_72, L_99, L_100, L_160, L_500, L_999, L_1380, L_1400, L_2400, L_2401, L_60025, L_100000, L_1000000, L_100000000, L_2000000000, nI_add, pk_mul, nI_clamp, nI_leI, nI_ltI, nI_eq, kin_I, pk_sub, nI_m1, m1_nI, nI_am1, kx_max, kx_min, kt_tx, kt_rp, kg_si, kg_sl, kq_si, kq_sl, kv_si, kv_sl, Nat.reduceAdd, Nat.reduceMul, Nat.reduceSub, Nat.reduceEqDiff, Nat.reduceLT, Nat.reduceLeDiff, ne_eq, not_true_eq_false, not_false_eq_true, or_true, true_or, or_false, false_or, and_true, true_and, false_and, and_false, if_true, if_false, ite_true, ite_false, reduceIte, kl_0, kl_1, kl_2, kl_3, kl_6, kl_20, kl_50, kl_500, kl_999, kl_2400, kl_2g, in_t, in_tt, in_f, in_ff, in_n, if_pos, if_neg, eq_self, nI_n1, n1_nI, nI_an1, lesser_n1, lesser_rn, lesser_n, kx_n1, e] at hv_); subst hv_) | (with_reducible refine Wp_biI ?_; intro c_ hc_; simp (disch := omega) only [L_0, L_1, L_2, L_3, L_4, L_5, L_6, L_7, L_8, L_9, L_10, L_11, L_12, L_16, L_18, L_20, L_24, L_25, L_30, L_32, L_38, L_40, L_48, L_50, L_60, L_63, L_64, L_72, L_99, L_100, L_160, L_500, L_999, L_1380, L_1400, L_2400, L_2401, L_60025, L_100000, L_1000000, L_100000000, L_2000000000, nI_add, pk_mul, nI_clamp, nI_leI, nI_ltI, nI_eq, kin_I, pk_sub, nI_m1, m1_nI, nI_am1, kx_max, kx_min, kt_tx, kt_rp, kg_si, kg_sl, kq_si, kq_sl, kv_si, kv_sl, Nat.reduceAdd, Nat.reduceMul, Nat.reduceSub, Nat.reduceEqDiff, Nat.reduceLT, Nat.reduceLeDiff, ne_eq, not_true_eq_false, not_false_eq_true, or_true, true_or, or_false, false_or, and_true, true_and, false_and, and_false, if_true, if_false, ite_true, ite_false, reduceIte, kl_0, kl_1, kl_2, kl_3, kl_6, kl_20, kl_50, kl_500, kl_999, kl_2400, kl_2g, in_t, in_tt, in_f, in_ff, in_n, if_pos, if_neg, eq_self, nI_n1, n1_nI, nI_an1, lesser_n1, lesser_rn, lesser_n, kx_n1, e] at hc_; subst hc_; with_reducible refine Wp_bis ?_) | (with_reducible refine Wp_bvI ?_; intro c_ hc_; simp (disch := omega) only [L_0, L_1, L_2, L_3, L_4, L_5, L_6, L_7, L_8, L_9, L_10, L_11, L_12, L_16, L_18, L_20, L_24, L_25, L_30, L_32, L_38, L_40, L_48, L_50, L_60, L_63, L_64, L_72, L_99, L_100, L_160, L_500, L_999, L_1380, L_1400, L_2400, L_2401, L_60025, L_100000, L_1000000, L_100000000, L_2000000000, nI_add, pk_mul, nI_clamp, nI_leI, nI_ltI, nI_eq, kin_I, pk_sub, nI_m1, m1_nI, nI_am1, kx_max, kx_min, kt_tx, kt_rp, kg_si, kg_sl, kq_si, kq_sl, kv_si, kv_sl, Nat.reduceAdd, Nat.reduceMul, Nat.reduceSub, Nat.reduceEqDiff, Nat.reduceLT, Nat.reduceLeDiff, ne_eq, not_true_eq_false, not_false_eq_true, or_true, true_or, or_false, false_or, and_true, true_and, false_and, and_false, if_true, if_false, ite_true, ite_false, reduceIte, kl_0, kl_1, kl_2, kl_3, kl_6, kl_20, kl_50, kl_500, kl_999, kl_2400, kl_2g, in_t, in_tt, in_f, in_ff, in_n, if_pos, if_neg, eq_self, nI_n1, n1_nI, nI_an1, lesser_n1, lesser_rn, lesser_n, kx_n1, e] at hc_; subst hc_; with_reducible refine Wp_bvs ?_) | (with_reducible refine Wp_t (by (first | (simp (disch := omega) only [L_0, L_1, L_2, L_3, L_4, L_5, L_6, L_7, L_8, L_9, L_10, L_11, L_12, L_16, L_18, L_20, L_24, L_25, L_30, L_32, L_38, L_40, L_48, L_50, L_60, L_63, L_64, L_72, L_99, L_100, L_160, L_500, L_999, L_1380, L_1400, L_2400, L_2401, L_60025, L_100000, L_1000000, L_100000000, L_2000000000, nI_add, pk_mul, nI_clamp, nI_leI, nI_ltI, nI_eq, kin_I, pk_sub, nI_m1, m1_nI, nI_am1, kx_max, kx_min, kt_tx, kt_rp, kg_si, kg_sl, kq_si, kq_sl, kv_si, kv_sl, Nat.reduceAdd, Nat.reduceMul, Nat.reduceSub, Nat.reduceEqDiff, Nat.reduceLT, Nat.reduceLeDiff, ne_eq, not_true_eq_false, not_false_eq_true, or_true, true_or, or_false, false_or, and_true, true_and, false_and, and_false, if_true, if_false, ite_true, ite_false, reduceIte, kl_0, kl_1, kl_2, kl_3, kl_6, kl_20, kl_50, kl_500, kl_999, kl_2400, kl_2g, in_t, in_tt, in_f, in_ff, in_n, if_pos, if_neg, eq_self, nI_n1, n1_nI, nI_an1, lesser_n1, lesser_rn, lesser_n, kx_n1, e]; done) | (simp (disch := omega) only [L_0, L_1, L_2, L_3, L_4, L_5, L_6, L_7, L_8, L_9, L_10, L_11, L_12, L_16, L_18, L_20, L_24, L_25, L_30, L_32, L_38, L_40, L_48, L_50, L_60, L_63, L_64, L_72, L_99, L_100, L_160, L_500, L_999, L_1380, L_1400, L_2400, L_2401, L_60025, L_100000, L_1000000, L_100000000, L_2000000000, nI_add, pk_mul, nI_clamp, nI_leI, nI_ltI, nI_eq, kin_I, pk_sub, nI_m1, m1_nI, nI_am1, kx_max, kx_min, kt_tx, kt_rp, kg_si, kg_sl, kq_si, kq_sl, kv_si, kv_sl, Nat.reduceAdd, Nat.reduceMul, Nat.reduceSub, Nat.reduceEqDiff, Nat.reduceLT, Nat.reduceLeDiff, ne_eq, not_true_eq_false, not_false_eq_true, or_true, true_or, or_false, false_or, and_true, true_and, false_and, and_false, if_true, if_false, ite_true, ite_false, reduceIte, kl_0, kl_1, kl_2, kl_3, kl_6, kl_20, kl_50, kl_500, kl_999, kl_2400, kl_2g, in_t, in_tt, in_f, in_ff, in_n, if_pos, if_neg, eq_self, nI_n1, n1_nI, nI_an1, lesser_n1, lesser_rn, lesser_n, kx_n1, e]; omega) | decide)) ?_) | (with_reducible refine Wp_f (by (first | (simp (disch := omega) only [L_0, L_1, L_2, L_3, L_4, L_5, L_6, L_7, L_8, L_9, L_10, L_11, L_12, L_16, L_18, L_20, L_24, L_25, L_30, L_32, L_38, L_40, L_48, L_50, L_60, L_63, L_64, L_72, L_99, L_100, L_160, L_500, L_999, L_1380, L_1400, L_2400, L_2401, L_60025, L_100000, L_1000000, L_100000000, L_2000000000, nI_add, pk_mul, nI_clamp, nI_leI, nI_ltI, nI_eq, kin_I, pk_sub, nI_m1, m1_nI, nI_am1, kx_max, kx_min, kt_tx, kt_rp, kg_si, kg_sl, kq_si, kq_sl, kv_si, kv_sl, Nat.reduceAdd, Nat.reduceMul, Nat.reduceSub, Nat.reduceEqDiff, Nat.reduceLT, Nat.reduceLeDiff, ne_eq, not_true_eq_false, not_false_eq_true, or_true, true_or, or_false, false_or, and_true, true_and, false_and, and_false, if_true, if_false, ite_true, ite_false, reduceIte, kl_0, kl_1, kl_2, kl_3, kl_6, kl_20, kl_50, kl_500, kl_999, kl_2400, kl_2g, in_t, in_tt, in_f, in_ff, in_n, if_pos, if_neg, eq_self, nI_n1, n1_nI, nI_an1, lesser_n1, lesser_rn, lesser_n, kx_n1, e]; done) | (simp (disch := omega) only [L_0, L_1, L_2, L_3, L_4, L_5, L_6, L_7, L_8, L_9, L_10, L_11, L_12, L_16, L_18, L_20, L_24, L_25, L_30, L_32, L_38, L_40, L_48, L_50, L_60, L_63, L_64, L_72, L_99, L_100, L_160, L_500, L_999, L_1380, L_1400, L_2400, L_2401, L_60025, L_100000, L_1000000, L_100000000, L_2000000000, nI_add, pk_mul, nI_clamp, nI_leI, nI_ltI, nI_eq, kin_I, pk_sub, nI_m1, m1_nI, nI_am1, kx_max, kx_min, kt_tx, kt_rp, kg_si, kg_sl, kq_si, kq_sl, kv_si, kv_sl, Nat.reduceAdd, Nat.reduceMul, Nat.reduceSub, Nat.reduceEqDiff, Nat.reduceLT, Nat.reduceLeDiff, ne_eq, not_true_eq_false, not_false_eq_true, or_true, true_or, or_false, false_or, and_true, true_and, false_and, and_false, if_true, if_false, ite_true, ite_false, reduceIte, kl_0, kl_1, kl_2, kl_3, kl_6, kl_20, kl_50, kl_500, kl_999, kl_2400, kl_2g, in_t, in_tt, in_f, in_ff, in_n, if_pos, if_neg, eq_self, nI_n1, n1_nI, nI_an1, lesser_n1, lesser_rn, lesser_n, kx_n1, e]; omega) | decide)) ?_))); try simp (disch := omega) only [nI_1, kt_rp, kt_tx]
        refine Wp_mono (ky_R (M0 := M3) hV hp ha hb kr_F 0 M3 0 (by omega) (kr_F_gt _ (by omega)) (tmG hR2 f3) (tmL hL f3) (Fx.refl M3)) (fun y ⟨y1, y2⟩ => ⟨?_, hF2.trans ((f3.trans y2).fr tm_s)⟩)
        rw [y1]
        exact (if_neg (by simp)).symm
  · refine ⟨-2, ?_, fun M hK => ?_⟩
    · unfold f_X11_keys
      rw [w1 M g hK]
      exact Wp_bis (Wp_f (fun q => q rfl) (Wp_some ⟨rfl, Fr.refl M⟩))
    · unfold f_X12_keys; refine Wp_letI ?_; intro M1 hM1; have hK1 : KS M1 g G := (by rw [← hM1]; exact hK.fr (Fr.thrown _ _)); have hF1 : Fr M M1 := (by rw [← hM1]; exact Fr.thrown _ _); clear hM1; have hV := hK1.V; have hR1 := hK1.R; have hR2 := hR1; obtain ⟨r0, rPl, rWe, rOd, rKi, rWo, rRo, rPe, rAc, rInc, rWa, rL, rMn, rW, rA, rB, rLd, rWg, rPc⟩ := hR2
      rw [w2 M1 hR1]
      exact Wp_bis (Wp_f (fun q => q rfl) (Wp_some ⟨rfl, hF1⟩))
