/-! GORGE: the class's words and ropes, its lines, its reading of all -/
theorem len_tw0 : ∀ w, w < 10 → kr_len (3 + 11 + 2 * w + 1) = 4 ∧ kr_len (64 + 11 + 2 * w + 1) = 4 := by decide +kernel
theorem len_tw {g w : Nat} (hg : g = 3 ∨ g = 64) (hw : w < 10) : kr_len (g + 11 + 2 * w + 1) = 4 := by
  rcases hg with rfl | rfl
  · exact (len_tw0 w hw).1
  · exact (len_tw0 w hw).2
theorem isLk {M : kr_M} {t q m k : Nat} {f h : Nat → Nat} (ht : TX M t m f) (hq : TX M q k h) : f_X7_isLike t q M = some (if m = k ∧ ∀ i, i < k → f i = h i then 1 else 0, M) := by
  have l1 := ht.2.2.1
  have l2 := ht.2.2.2.1
  have l3 := hq.2.2.1
  have l4 := hq.2.2.2.1
  apply Wp_eq
  unfold f_X7_isLike
  refine Wp_letI ?_; intro v ev
  rw [ht.1] at ev
  subst ev
  refine Wp_letI ?_; intro v ev
  rw [hq.1] at ev
  subst ev
  by_cases c : m = k
  · refine Wp_f (fun z => z (by rw [c])) ?_
    rw [show f_X7_holds t q (0 : Int32) M = _ from holds_ok ht hq 0 (by omega)]
    refine Wp_bis ?_
    have e : hB m f k h 0 = true ↔ ∀ i, i < k → f i = h i := by
      rw [hB_iff]
      exact ⟨fun z i hi => by have := z.2 i hi; rw [Nat.zero_add] at this; exact this, fun z => ⟨by omega, fun i hi => by rw [Nat.zero_add]; exact z i hi⟩⟩
    by_cases d : ∀ i, i < k → f i = h i
    · rw [if_pos (e.mpr d)]
      refine Wp_f (by decide) (Wp_some ?_)
      rw [if_pos ⟨c, d⟩]
    · rw [if_neg (fun z => d (e.mp z))]
      refine Wp_t rfl (Wp_some ?_)
      rw [if_neg (fun z => d z.2)]
  · refine Wp_t (fun z => c ((nI_eq (by omega) (by omega)).mp z)) (Wp_some ?_)
    rw [if_neg (fun z => c z.1)]
theorem CPg.tx {M : kr_M} {g w : Nat} {P : GG} (hg : g = 3 ∨ g = 64) (hC : CPg M g P) (hV : PV P) (hw : w < P.1 5) : TX M (g + 11 + 2 * w) (P.2.1 2 w) (fun i => P.2.2 0 w i) := by
  obtain ⟨v0, v1, v2, v3, v4, v5, v6, vk, vw, vr, vp, vd⟩ := hV
  obtain ⟨q1, q2, q3⟩ := hC.2.2.1 w hw
  obtain ⟨w1, w2, w3, w4⟩ := vw w hw
  have l := len_tw hg (show w < 10 by omega)
  refine ⟨q1, fun i hi => ?_, by omega, by omega, fun i hi => by have := w4 i hi; show P.2.2 0 w i < 6; omega⟩
  rw [show g + 11 + 2 * w + 1 = g + 12 + 2 * w by omega]
  exact q3 i hi
theorem spl_2 {M : kr_M} {g t m : Nat} {f : Nat → Nat} {P : GG} (hg : g = 3 ∨ g = 64) (hC : CPg M g P) (hV : PV P) (ht : TX M t m f) : ∀ n' v, v ≤ P.1 5 → P.1 5 - v < n' → f_X2_isSpelledAhead_2 g t n' (nI v) M = some (if anyB (dpB P m f) (P.1 5 - v) v = true then 1 else 0, M) := by
  have hV' := hV
  obtain ⟨v0, v1, v2, v3, v4, v5, v6, vk, vw, vr, vp, vd⟩ := hV'
  intro n'
  induction n' with
  | zero => intro v h1 h2; omega
  | succ n' ih =>
    intro v h1 h2
    apply Wp_eq
    rw [f_X2_isSpelledAhead_2]
    refine Wp_letI ?_; intro x ev
    rw [hC.1 5 (by omega)] at ev
    subst ev
    by_cases c : v = P.1 5
    · refine Wp_t (nI_le (by omega) (by omega)) (Wp_some ?_)
      rw [show P.1 5 - v = 0 by omega]
      rfl
    · refine Wp_f (nI_ge (by omega) (by omega)) ?_
      refine Wp_t ((kin_I (by omega)).mpr (by omega)) ?_
      rw [kt_tx (by omega), isLk (hC.tx hg hV (show v < P.1 5 by omega)) ht]
      refine Wp_bis ?_
      obtain ⟨d, hd⟩ : ∃ d, P.1 5 - v = d + 1 := ⟨P.1 5 - v - 1, by omega⟩
      by_cases e : P.2.1 2 v = m ∧ ∀ i, i < m → P.2.2 0 v i = f i
      · rw [if_pos e]
        refine Wp_f (by decide) (Wp_some ?_)
        rw [hd, anyB, dpB_t.mpr e, Bool.true_or]
        rfl
      · rw [if_neg e]
        refine Wp_t rfl ?_
        have nx := ih (v + 1) (by omega) (by omega)
        rw [show nI v + (1 : Int32) = nI (v + 1) by rw [L_1, nI_add]]
        refine Wp_of nx ?_
        rw [hd, anyB, show P.1 5 - (v + 1) = d by omega, show dpB P m f v = false from Bool.eq_false_iff.mpr (fun z => e (dpB_t.mp z)), Bool.false_or]
theorem spl_ok {M : kr_M} {g t m : Nat} {f : Nat → Nat} {P : GG} (hg : g = 3 ∨ g = 64) (hC : CPg M g P) (hV : PV P) (ht : TX M t m f) : f_X2_isSpelledAhead g t M = some (if dpA P m f = true then 1 else 0, M) := by
  have hV' := hV
  obtain ⟨v0, v1, v2, v3, v4, v5, v6, vk, vw, vr, vp, vd⟩ := hV'
  exact spl_2 hg hC hV ht kr_F 0 (by omega) (kr_F_gt _ (by omega))
theorem lf_4 {g c a j : Nat} {P : GG} (h : lfX g P 8 a j) : lfX g P c a j := by
  rcases h with q | q | q
  · exact Or.inl q
  · exact Or.inr (Or.inl q)
  · exact Or.inr (Or.inl ⟨by omega, by omega, by unfold dsc; omega⟩)
theorem lc_W {M : kr_M} {b : Nat → Int32} {n g : Nat} {P : GG} {σ : SG} (hg' : g = 3 ∨ g = 64) (hT : TC M b n) (hS : St M b n σ) (hC : CPg M g P) (hV : PV P) : Wp (f_X6_wordLine g M) (LQ M b n g (lnW b n P σ)) := by
  have hg : 3 ≤ g := by omega
  have hV' := hV
  obtain ⟨v0, v1, v2, v3, v4, v5, v6, vk, vw, vr, vp, vd⟩ := hV'
  unfold f_X6_wordLine lnW
  refine Wp_letI ?_; intro v ev
  rw [hC.1 5 (by omega)] at ev
  subst ev
  by_cases c : P.1 5 = 10
  · rw [if_pos c]
    exact Wp_f (fun q => by have := (nI_ltI (b := 10) (by omega) (by omega)).mp q; omega) (lc_fail (k := 3) hg (by omega) hS hC hV)
  rw [if_neg c]
  refine Wp_t ((nI_ltI (b := 10) (by omega) (by omega)).mpr (by omega)) ?_
  refine Wp_bv _ (k_next hT hS) (fun M2 ⟨a1, a2⟩ => ?_)
  have f2 : Fx (lfX g P 8) M M2 := lf_tp a2
  have hC2 := hC.fx hg f2
  refine Wp_letI ?_; intro v ev
  rw [hC2.1 5 (by omega)] at ev
  subst ev
  refine Wp_t ((kin_I (by omega)).mpr (by omega)) ?_
  refine Wp_letI ?_; intro v ev
  rw [hC2.1 4 (by omega)] at ev
  subst ev
  rw [kt_tx (by omega)]
  have len := len_tw hg' (show P.1 5 < 10 by omega)
  refine Wp_bv _ (kc_ok (most := 4) len (by omega) (by omega) v3 (by omega) (hT.lf hg f2) a1) (fun M7 ⟨b1, b2, b3, b4, b5⟩ => ?_)
  have f7 : Fx (lfX g P 8) M M7 := f2.trans (b5.mono (fun a j q => by
    rcases q with q | q | q
    · exact Or.inl q
    · exact Or.inr (Or.inl ⟨by omega, by omega, by unfold dsc; omega⟩)
    · exact Or.inr (Or.inl ⟨by omega, by omega, by unfold dsc; omega⟩)))
  have hT7 := hT.lf hg f7
  have hC7 := hC.fx hg f7
  have fin : ∀ M9 τ, Fx tpX M7 M9 → TC M9 b n → St M9 b n τ → τ = dupC b n P (knS b n 4 (P.1 4) (sNext b n σ)).2 (fun i => tv b n (nxs b n (sNext b n σ).2 i)) (knS b n 4 (P.1 4) (sNext b n σ)).1 → Wp (f_X6_wordLine_61 g M9) (LQ M b n g (u1 (u2 (u2 (u3 P 0 (P.1 5) (fun i => tv b n (nxs b n (sNext b n σ).2 i))) 2 (P.1 5) (knS b n 4 (P.1 4) (sNext b n σ)).2) 3 (P.1 5) (nmV b n 8 (dupC b n P (knS b n 4 (P.1 4) (sNext b n σ)).2 (fun i => tv b n (nxs b n (sNext b n σ).2 i)) (knS b n 4 (P.1 4) (sNext b n σ)).1))) 5 (P.1 5 + 1), nmS b n 8 0 100 (dupC b n P (knS b n 4 (P.1 4) (sNext b n σ)).2 (fun i => tv b n (nxs b n (sNext b n σ).2 i)) (knS b n 4 (P.1 4) (sNext b n σ)).1))) := fun M9 τ k1 hT9 k2 hτ => by
    have f9 : Fx (lfX g P 8) M M9 := f7.trans (lf_tp k1)
    have hC9 := hC.fx hg f9
    unfold f_X6_wordLine_61
    refine Wp_letI ?_; intro v ev
    rw [hC9.1 5 (by omega)] at ev
    subst ev
    refine Wp_bi _ (k_named (l := 8) (lo := 0) (hi := 100) hT9 (by omega) (by omega) rfl k2) (fun r3 M3 ⟨c1, c2, c3⟩ => ?_)
    refine Wp_t ((kin_I (by omega)).mpr (by omega)) ?_
    refine Wp_letI ?_; intro M4 e4
    rw [nI_clamp (by omega)] at e4
    have f4 : Fx (lfX g P 8) M M4 := by
      rw [← e4]
      exact (f9.trans (lf_tp c2)).si _ (Or.inr (Or.inl ⟨by omega, by omega, by unfold dsc; omega⟩))
    have hC4 := hC.fx hg f4
    refine Wp_letI ?_; intro v ev
    rw [hC4.1 5 (by omega)] at ev
    subst ev
    refine Wp_letI ?_; intro M6 e6
    rw [L_1, nI_add] at e6
    have f6 : Fx (lfX g P 5) M M6 := by
      rw [← e6]
      exact (f4.mono (fun a j q => lf_4 q)).si _ (Or.inr (Or.inr ⟨rfl, rfl⟩))
    have c1 : St M3 b n (sNum b n 0 100 (sName b n 8 τ)) := c1
    have c3 : (sNum b n 0 100 (sName b n 8 τ)).1 = none → r3 = nI (tv b n (sName b n 8 τ).2) := c3
    rw [hτ] at c1 c3
    refine Wp_some ⟨?_, fun gq => ?_, Cq_of hg (by omega) hC hV f6, lf_g f6⟩
    · rw [← e6, ← e4]; exact (St.si c1 _ (by omega)).si _ (by omega)
    · have g2 := (nmS_g gq).1
      have g1 := (dupC_g g2).2.1
      obtain ⟨t1, t2⟩ := b2 g1
      have up : ∀ a j, ¬ a = 1 → ¬ (a = g + 4 ∧ j = P.1 5) → ¬ (a = g ∧ j = 5) → M6.1 a j = M7.1 a j := fun a j q1 q2 q3 => by
        rw [← e6, kg_si, if_neg q3, ← e4, kg_si, if_neg q2, c2.1 a j (fun z => q1 z.1), k1.1 a j (fun z => q1 z.1)]
      refine CPg.addW hg hC f6 (by rw [← e6, kr_si_at]) ?_ ?_ (fun i hi => ?_)
      · rw [up _ _ (by omega) (by omega) (by omega)]; exact t1
      · rw [← e6, kg_si, if_neg (by omega), ← e4, kr_si_at]
        exact c3 gq
      · rw [up _ _ (by omega) (by omega) (by omega), show g + 12 + 2 * P.1 5 = g + 11 + 2 * P.1 5 + 1 by omega]; exact t2 i hi
  by_cases gd : (knS b n 4 (P.1 4) (sNext b n σ)).1.1 = none
  · obtain ⟨r, hr, hr2⟩ := k_anyW (l := 8) hT7 (by omega) b1
    have hr2 := hr2 gd
    rw [hr]
    refine Wp_bis ?_
    by_cases w8 : isW b n (knS b n 4 (P.1 4) (sNext b n σ)).1.2 8 = true
    · rw [if_pos w8] at hr2
      subst hr2
      refine Wp_f (by decide) ?_
      obtain ⟨t1, t2⟩ := b2 gd
      obtain ⟨k1, k2, k3⟩ := knS_v (by omega) gd
      have tx : TX M7 (g + 11 + 2 * P.1 5) (knS b n 4 (P.1 4) (sNext b n σ)).2 (fun i => tv b n (nxs b n (sNext b n σ).2 i)) := ⟨t1, t2, by omega, by omega, fun i hi => by have := k3 i hi; show tv b n (nxs b n (sNext b n σ).2 i) < 6; omega⟩
      rw [spl_ok hg' hC7 hV tx]
      refine Wp_bis ?_
      by_cases dd : dpA P (knS b n 4 (P.1 4) (sNext b n σ)).2 (fun i => tv b n (nxs b n (sNext b n σ).2 i)) = true
      · rw [if_pos dd]
        refine Wp_f (by decide) ?_
        refine Wp_bv _ (k_blame (k := 2) (by omega) b1) (fun M9 ⟨q1, q2⟩ => ?_)
        refine fin M9 _ q2 (hT7.tp q2) q1 ?_
        unfold dupC
        rw [if_pos ⟨gd, w8, dd⟩]
      · rw [if_neg dd]
        refine Wp_t rfl (fin M7 _ (Fx.refl M7) hT7 b1 ?_)
        unfold dupC
        rw [if_neg (fun q => dd q.2.2)]
    · rw [if_neg w8] at hr2
      subst hr2
      refine Wp_t rfl (fin M7 _ (Fx.refl M7) hT7 b1 ?_)
      unfold dupC
      rw [if_neg (fun q => w8 q.2.1)]
  · have t0 := b4 gd
    have hw : f_X6_isWord 8 M7 = some (0, M7) := by
      apply Wp_eq
      unfold f_X6_isWord
      refine Wp_letI ?_; intro v ev
      rw [t0] at ev
      subst ev
      exact Wp_t (by decide) (Wp_some rfl)
    rw [hw]
    refine Wp_bis (Wp_t rfl (fin M7 _ (Fx.refl M7) hT7 b1 ?_))
    unfold dupC
    rw [if_neg (fun q => gd q.1)]
theorem lc_R {M : kr_M} {b : Nat → Int32} {n g : Nat} {P : GG} {σ : SG} (hg' : g = 3 ∨ g = 64) (hT : TC M b n) (hS : St M b n σ) (h0 : ¬ P.1 0 = 0) (hC : CPg M g P) (hV : PV P) : Wp (f_X6_ropeLine g M) (LQ M b n g (lnR b n P σ)) := by
  have hg : 3 ≤ g := by omega
  have hV' := hV
  obtain ⟨v0, v1, v2, v3, v4, v5, v6, vk, vw, vr, vp, vd⟩ := hV'
  have l1 := (PV_1 hV h0).2
  unfold f_X6_ropeLine lnR
  refine Wp_letI ?_; intro v ev
  rw [hC.1 6 (by omega)] at ev
  subst ev
  by_cases c : P.1 6 = 6
  · rw [if_pos c]
    exact Wp_f (fun q => by have := (nI_ltI (b := 6) (by omega) (by omega)).mp q; omega) (lc_fail (k := 3) hg (by omega) hS hC hV)
  rw [if_neg c]
  refine Wp_t ((nI_ltI (b := 6) (by omega) (by omega)).mpr (by omega)) ?_
  refine Wp_bv _ (k_next hT hS) (fun M2 ⟨a1, a2⟩ => ?_)
  have f2 : Fx (lfX g P 8) M M2 := lf_tp a2
  have hC2 := hC.fx hg f2
  refine Wp_letI ?_; intro v ev
  rw [hC2.1 6 (by omega)] at ev
  subst ev
  refine Wp_t ((kin_I (by omega)).mpr (by omega)) ?_
  refine Wp_letI ?_; intro v ev
  rw [hC2.1 1 (by omega)] at ev
  subst ev
  rw [kt_rp (by omega)]
  refine Wp_bi _ (k_num (lo := 0) (hi := P.1 1) (hT.lf hg f2) (by omega) (kim1 (by omega)) a1) (fun r8 M7 ⟨b1, b2, b3⟩ => ?_)
  refine Wp_letI ?_; intro M9 e9
  have f9 : Fx (lfX g P 8) M M9 := by
    rw [← e9]
    exact (f2.trans (lf_tp b2)).si _ (Or.inr (Or.inl ⟨by omega, by omega, by unfold dsc; omega⟩))
  have hS9 : St M9 b n (sNum b n 0 (P.1 1) (sNext b n σ)) := by rw [← e9]; exact St.si b1 _ (by omega)
  refine Wp_bv _ (k_name (l := 10) (hT.lf hg f9) (by omega) hS9) (fun M10 ⟨c1, c2⟩ => ?_)
  have f10 : Fx (lfX g P 8) M M10 := f9.trans (lf_tp c2)
  have hT10 := hT.lf hg f10
  have x0 : M10.1 (g + 31 + 5 * P.1 6) 0 = r8 := by rw [c2.1 _ _ (fun q => by have q : g + 31 + 5 * P.1 6 = 1 ∧ 2 ≤ 0 ∧ 0 ≤ 7 := q; omega), ← e9, kr_si_at]
  have fin : ∀ M12, Fx tpX M10 M12 → St M12 b n (lnR2 b n P σ) → Wp (f_X6_ropeLine_74 g (g + 31 + 5 * P.1 6) M12) (LQ M b n g (u1 (u2 (u2 (u2 (u2 (u3 P 1 (P.1 6) (fun i => tv b n (nxs b n (lnR7 b n P σ).2 i))) 7 (P.1 6) (knS b n 12 (P.1 4) (lnR7 b n P σ)).2) 4 (P.1 6) (tv b n (sNext b n σ).2)) 5 (P.1 6) (tv b n (lnR2 b n P σ).2)) 6 (P.1 6) (nmV b n 11 (lnR5 b n P σ))) 6 (P.1 6 + 1), (knS b n 12 (P.1 4) (lnR7 b n P σ)).1)) := fun M12 k1 k2 => by
    have f12 : Fx (lfX g P 8) M M12 := f10.trans (lf_tp k1)
    have hC12 := hC.fx hg f12
    unfold f_X6_ropeLine_74
    refine Wp_letI ?_; intro v ev
    rw [hC12.1 1 (by omega)] at ev
    subst ev
    refine Wp_bi _ (k_num (lo := 0) (hi := P.1 1) (hT.lf hg f12) (by omega) (kim1 (by omega)) k2) (fun r3 M3 ⟨d1, d2, d3⟩ => ?_)
    refine Wp_letI ?_; intro M4 e4
    have f4 : Fx (lfX g P 8) M M4 := by
      rw [← e4]
      exact (f12.trans (lf_tp d2)).si _ (Or.inr (Or.inl ⟨by omega, by omega, by unfold dsc; omega⟩))
    have hS4 : St M4 b n (lnR5 b n P σ) := by rw [← e4]; exact St.si d1 _ (by omega)
    refine Wp_bi _ (k_named (l := 11) (lo := 1) (hi := 1000) (hT.lf hg f4) (by omega) (by omega) rfl hS4) (fun r6 M5 ⟨g1, g2, g3⟩ => ?_)
    refine Wp_letI ?_; intro M7' e7
    have f7 : Fx (lfX g P 8) M M7' := by
      rw [← e7]
      exact (f4.trans (lf_tp g2)).si _ (Or.inr (Or.inl ⟨by omega, by omega, by unfold dsc; omega⟩))
    have hS7 : St M7' b n (nmS b n 11 1 1000 (lnR5 b n P σ)) := by rw [← e7]; exact St.si g1 _ (by omega)
    refine Wp_bv _ (k_name (l := 12) (hT.lf hg f7) (by omega) hS7) (fun M8 ⟨i1, i2⟩ => ?_)
    have f8 : Fx (lfX g P 8) M M8 := f7.trans (lf_tp i2)
    have hC8 := hC.fx hg f8
    refine Wp_letI ?_; intro v ev
    rw [hC8.1 4 (by omega)] at ev
    subst ev
    have len := len_tl hg' (show P.1 6 < 6 by omega)
    refine Wp_bv _ (kc_ok (t := g + 31 + 5 * P.1 6 + 1) (most := 12) len (by omega) (by omega) v3 (by omega) (hT.lf hg f8) i1) (fun M11 ⟨j1, j2, j3, j4, j5⟩ => ?_)
    have f11 : Fx (lfX g P 8) M M11 := f8.trans (j5.mono (fun a j q => by
      rcases q with q | q | q
      · exact Or.inl q
      · exact Or.inr (Or.inl ⟨by omega, by omega, by unfold dsc; omega⟩)
      · exact Or.inr (Or.inl ⟨by omega, by omega, by unfold dsc; omega⟩)))
    have hC11 := hC.fx hg f11
    refine Wp_letI ?_; intro v ev
    rw [hC11.1 6 (by omega)] at ev
    subst ev
    refine Wp_letI ?_; intro M14 e14
    rw [L_1, nI_add] at e14
    have f14 : Fx (lfX g P 6) M M14 := by
      rw [← e14]
      exact (f11.mono (fun a j q => lf_4 q)).si _ (Or.inr (Or.inr ⟨rfl, rfl⟩))
    have w11 : ∀ j, M14.1 (g + 31 + 5 * P.1 6) j = M8.1 (g + 31 + 5 * P.1 6) j := fun j => by
      rw [← e14, kg_si, if_neg (by omega), j5.1 _ _ (fun q => by rcases q with q | q | q <;> omega)]
    have tpr : ∀ {A B : kr_M}, Fx tpX A B → ∀ j, B.1 (g + 31 + 5 * P.1 6) j = A.1 (g + 31 + 5 * P.1 6) j := fun h j => h.1 _ _ (fun q => by have := q.1; omega)
    refine Wp_some ⟨?_, fun gq => ?_, ?_, lf_g f14⟩
    · rw [← e14]; exact St.si j1 _ (by omega)
    · have h7 := knS_g gq
      have h6 : (nmS b n 11 1 1000 (lnR5 b n P σ)).1 = none := sName_g h7
      have h5 : (lnR5 b n P σ).1 = none := (nmS_g h6).1
      have h2 : (lnR2 b n P σ).1 = none := (sNum_g h5).1
      have h1 : (sNum b n 0 (P.1 1) (sNext b n σ)).1 = none := sName_g (samC_g h2).2.1
      obtain ⟨t1, t2⟩ := j2 gq
      refine CPg.addR hg hC f14 (by rw [← e14, kr_si_at]) ?_ ?_ ?_ ?_ (fun i hi => ?_)
      · rw [w11, tpr i2, ← e7, kg_si, if_neg (by omega), tpr g2, ← e4, kg_si, if_neg (by omega), tpr d2, tpr k1, x0]
        exact b3 h1
      · rw [w11, tpr i2, ← e7, kg_si, if_neg (by omega), tpr g2, ← e4, kr_si_at]
        exact d3 h5
      · rw [w11, tpr i2, ← e7, kr_si_at]
        exact g3 h6
      · rw [← e14, kg_si, if_neg (by omega), show g + 32 + 5 * P.1 6 = g + 31 + 5 * P.1 6 + 1 by omega]
        exact t1
      · rw [← e14, kg_si, if_neg (by omega), show g + 33 + 5 * P.1 6 = g + 31 + 5 * P.1 6 + 1 + 1 by omega]
        exact t2 i hi
    · obtain ⟨z, z1, z2⟩ := j3
      refine ⟨P.1 6 + 1, fun r => if r = P.1 6 then z else P.2.1 7 r, by omega, by rw [← e14, kr_si_at], fun r hr => ?_⟩
      by_cases e : r = P.1 6
      · simp only [if_pos e]
        rw [e]
        refine ⟨?_, z1⟩
        rw [← e14, kg_si, if_neg (by omega)]; exact z2
      · simp only [if_neg e]
        refine ⟨?_, (vr r (by omega)).2.2.2.2.2.2.1⟩
        rw [show g + 31 + 5 * r + 1 = g + 32 + 5 * r by omega, lf_d hg f14 _ _ (by unfold dsc; omega) (by omega)]
        exact (hC.2.2.2.1 r (by omega)).2.2.2.1
  -- the second place is the first
  have st10 : St M10 b n (sName b n 10 (sNum b n 0 (P.1 1) (sNext b n σ))) := c1
  by_cases gd : (sName b n 10 (sNum b n 0 (P.1 1) (sNext b n σ))).1 = none
  · have r8v : r8 = nI (tv b n (sNext b n σ).2) := b3 (sName_g gd)
    have vb1 := tv_b b n (sNext b n σ).2
    generalize hτ : sName b n 10 (sNum b n 0 (P.1 1) (sNext b n σ)) = τ at *
    obtain ⟨o, s⟩ := τ
    have gd : o = none := gd
    subst gd
    have st := st10
    obtain ⟨q1, q2, q3, q4, q5, q6, q7⟩ := st
    have kb := tk_b b n s
    have vb := tv_b b n s
    have e2 : lnR2 b n P σ = samC b n (tv b n (sNext b n σ).2) (none, s) := by unfold lnR2; rw [hτ]
    refine Wp_letI ?_; intro v ev
    rw [q4] at ev
    subst ev
    by_cases k2 : tk b n s = 2
    · refine Wp_f (fun q => q (by rw [k2]; rfl)) ?_
      refine Wp_letI ?_; intro v ev
      rw [q7] at ev
      subst ev
      refine Wp_letI ?_; intro v ev
      rw [x0, r8v] at ev
      subst ev
      by_cases k3 : tv b n s = tv b n (sNext b n σ).2
      · refine Wp_f (fun q => q (by rw [k3])) ?_
        refine Wp_bv _ (k_blame (k := 2) (by omega) st10) (fun M12 ⟨y1, y2⟩ => fin M12 y2 ?_)
        rw [e2]
        unfold samC
        rw [if_pos ⟨rfl, k2, k3⟩]
        exact y1
      · refine Wp_t (fun q => k3 ((nI_eq (by omega) (by omega)).mp q)) (fin M10 (Fx.refl M10) ?_)
        rw [e2]
        unfold samC
        rw [if_neg (fun q => k3 q.2.2)]
        exact st10
    · refine Wp_t (fun q => k2 ((nI_eq (b := 2) (by omega) (by omega)).mp q)) (fin M10 (Fx.refl M10) ?_)
      rw [e2]
      unfold samC
      rw [if_neg (fun q => k2 q.2.1)]
      exact st10
  · have e2 : lnR2 b n P σ = sName b n 10 (sNum b n 0 (P.1 1) (sNext b n σ)) := by
      unfold lnR2 samC
      rw [if_neg (fun q => gd q.1)]
    have st2 : St M10 b n (lnR2 b n P σ) := by rw [e2]; exact st10
    have e3 : sFail 2 (lnR2 b n P σ) = lnR2 b n P σ := by
      rw [e2]
      generalize sName b n 10 (sNum b n 0 (P.1 1) (sNext b n σ)) = τ at *
      obtain ⟨o, s⟩ := τ
      cases o with
      | none => exact absurd rfl gd
      | some e => rfl
    refine Wp_letI ?_; intro v ev
    refine Wp_c (fun _ => fin M10 (Fx.refl M10) st2) (fun _ => ?_)
    refine Wp_letI ?_; intro v2 ev2
    refine Wp_letI ?_; intro v3 ev3
    refine Wp_c (fun _ => fin M10 (Fx.refl M10) st2) (fun _ => ?_)
    refine Wp_bv _ (k_blame (k := 2) (by omega) st2) (fun M12 ⟨y1, y2⟩ => fin M12 y2 ?_)
    rw [e3] at y1
    exact y1
