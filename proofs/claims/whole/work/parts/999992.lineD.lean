/-! GORGE: the class's lines, one by one -/
def LQ (M : kr_M) (b : Nat → Int32) (n g : Nat) (z : GG × SG) (M' : kr_M) : Prop := St M' b n z.2 ∧ (z.2.1 = none → CPg M' g z.1) ∧ Cq M' g ∧ Fx (fun a j => (a = 1 ∧ 2 ≤ j ∧ j ≤ 7) ∨ (g ≤ a ∧ a ≤ g + 60)) M M'
theorem lf_g {M M' : kr_M} {g c : Nat} {P : GG} (h : Fx (lfX g P c) M M') : Fx (fun a j => (a = 1 ∧ 2 ≤ j ∧ j ≤ 7) ∨ (g ≤ a ∧ a ≤ g + 60)) M M' := h.mono (fun a j q => by
  rcases q with q | q | q
  · exact Or.inl q
  · exact Or.inr ⟨q.1, q.2.1⟩
  · exact Or.inr (by omega))
theorem lc_fail {M : kr_M} {b : Nat → Int32} {n g k : Nat} {P : GG} {σ : SG} (hg : 3 ≤ g) (hk : 1 ≤ k ∧ k ≤ 3) (hS : St M b n σ) (hC : CPg M g P) (hV : PV P) : Wp (kr_bv (f_X6_blame (nI k) M) fun M1 => some M1) (LQ M b n g (P, sFail k σ)) :=
  Wp_bv _ (k_blame hk hS) (fun M' q => Wp_some ⟨q.1, fun z => (sFail_g z).elim, Cq_of (c := 8) hg (by omega) hC hV (lf_tp q.2), lf_g (P := P) (c := 8) (lf_tp q.2)⟩)
theorem lc_G {M : kr_M} {b : Nat → Int32} {n g : Nat} {P : GG} {σ : SG} (hg : 3 ≤ g) (hT : TC M b n) (hS : St M b n σ) (hw : sName b n 0 σ = sNext b n σ) (hC : CPg M g P) (hV : PV P) : Wp (f_X6_gorgeLine g M) (LQ M b n g (lnG b n P σ)) := by
  unfold f_X6_gorgeLine
  refine Wp_bv _ (k_next hT hS) (fun M1 ⟨a1, a2⟩ => ?_)
  rw [← hw] at a1
  have hT1 := hT.tp a2
  refine Wp_bi _ (k_named (l := 1) (lo := 2) (hi := 7) hT1 (by omega) (by omega) rfl a1) (fun r3 M3 ⟨b1, b2, b3⟩ => ?_)
  refine Wp_letI ?_; intro M5 e5
  have f5 : Fx tpX M M3 := a2.trans b2
  have hT5 : TC M5 b n := (hT.tp f5).fx (S := fun a j => a = g) (by rw [← e5]; exact (Fx.refl M3).si _ rfl) (fun q => by have q : 1 = g := q; omega) (fun j q => by have q : 2 = g := q; omega)
  have hS5 : St M5 b n (nmS b n 1 2 7 (sName b n 0 σ)) := by rw [← e5]; exact St.si b1 _ (by omega)
  refine Wp_bi _ (k_named (l := 2) (lo := 0) (hi := 100) hT5 (by omega) (by omega) rfl hS5) (fun r6 M6 ⟨c1, c2, c3⟩ => ?_)
  refine Wp_letI ?_; intro M8 e8
  have hT8 : TC M8 b n := (hT5.tp c2).fx (S := fun a j => a = g) (by rw [← e8]; exact (Fx.refl M6).si _ rfl) (fun q => by have q : 1 = g := q; omega) (fun j q => by have q : 2 = g := q; omega)
  have hS8 : St M8 b n (nmS b n 2 0 100 (nmS b n 1 2 7 (sName b n 0 σ))) := by rw [← e8]; exact St.si c1 _ (by omega)
  refine Wp_bi _ (k_named (l := 3) (lo := 0) (hi := 101) hT8 (by omega) (by omega) rfl hS8) (fun r9 M9 ⟨d1, d2, d3⟩ => ?_)
  refine Wp_letI ?_; intro M11 e11
  have tpg : ∀ {A B : kr_M}, Fx tpX A B → ∀ a j, ¬ a = 1 → B.1 a j = A.1 a j := fun h a j q => h.1 a j (fun z => q z.1)
  have fd : ∀ a j, ¬ a = 1 → ¬ (a = g ∧ (j = 1 ∨ j = 2 ∨ j = 3)) → M11.1 a j = M.1 a j := fun a j q1 q2 => by
    rw [← e11, kg_si, if_neg (by omega), tpg d2 a j q1, ← e8, kg_si, if_neg (by omega), tpg c2 a j q1, ← e5, kg_si, if_neg (by omega), tpg f5 a j q1]
  have x1 : M11.1 g 1 = r3 := by rw [← e11, kg_si, if_neg (by omega), tpg d2 _ _ (by omega), ← e8, kg_si, if_neg (by omega), tpg c2 _ _ (by omega), ← e5, kr_si_at]
  have x2 : M11.1 g 2 = r6 := by rw [← e11, kg_si, if_neg (by omega), tpg d2 _ _ (by omega), ← e8, kr_si_at]
  have x3 : M11.1 g 3 = r9 := by rw [← e11, kr_si_at]
  have hF : Fx (fun a j => (a = 1 ∧ 2 ≤ j ∧ j ≤ 7) ∨ (g ≤ a ∧ a ≤ g + 60)) M M11 := by
    rw [← e11]
    refine Fx.si ?_ _ (Or.inr (by omega))
    refine Fx.trans ?_ (d2.mono (fun a j q => Or.inl q))
    rw [← e8]
    refine Fx.si ?_ _ (Or.inr (by omega))
    refine Fx.trans ?_ (c2.mono (fun a j q => Or.inl q))
    rw [← e5]
    refine Fx.si ?_ _ (Or.inr (by omega))
    exact f5.mono (fun a j q => Or.inl q)
  have hd : ∀ a j, dsc g P a j → ¬ a = g → M11.1 a j = M.1 a j := fun a j q1 q2 => fd a j (by unfold dsc at q1; omega) (fun q => q2 q.1)
  obtain ⟨h0, h1, h2, h3, h4⟩ := hC
  refine Wp_some ⟨?_, fun gq => ?_, ?_, hF⟩
  · rw [← e11]; exact St.si d1 _ (by omega)
  · have gq : (nmS b n 3 0 101 (nmS b n 2 0 100 (nmS b n 1 2 7 (sName b n 0 σ)))).1 = none := gq
    have g2 := (nmS_g gq).1
    have g1 := (nmS_g g2).1
    refine ⟨fun j hj => ?_, h1.fr hd, h2.fr hd, h3.fr hd, h4.fr hd⟩
    by_cases k1 : j = 1
    · subst k1; rw [x1]; exact b3 g1
    by_cases k2 : j = 2
    · subst k2; rw [x2]; exact c3 g2
    by_cases k3 : j = 3
    · subst k3; rw [x3]; exact d3 gq
    · simp only [lnG, u1, if_neg k1, if_neg k2, if_neg k3]
      rw [fd g j (by omega) (by omega)]; exact h0 j hj
  · obtain ⟨v0, v1, v2, v3, v4, v5, v6, vk, vw, vr, vp, vd⟩ := hV
    refine ⟨P.1 6, fun r => P.2.1 7 r, v5, by rw [fd g 6 (by omega) (by omega)]; exact h0 6 (by omega), fun r hr => ⟨?_, (vr r hr).2.2.2.2.2.2.1⟩⟩
    rw [show g + 31 + 5 * r + 1 = g + 32 + 5 * r by omega, fd _ _ (by omega) (by omega)]
    exact (h3 r hr).2.2.2.1
theorem lc_K {M : kr_M} {b : Nat → Int32} {n g : Nat} {P : GG} {σ : SG} (hg : 3 ≤ g) (hT : TC M b n) (hS : St M b n σ) (hC : CPg M g P) (hV : PV P) : Wp (f_X6_knotLine g M) (LQ M b n g (lnK b n P σ)) := by
  have hV' := hV
  obtain ⟨v0, v1, v2, v3, v4, v5, v6, vk, vw, vr, vp, vd⟩ := hV'
  unfold f_X6_knotLine lnK
  refine Wp_letI ?_; intro v ev
  rw [hC.1 4 (by omega)] at ev
  subst ev
  by_cases c : P.1 4 = 6
  · rw [if_pos c]
    exact Wp_f (fun q => by have := (nI_ltI (b := 6) (by omega) (by omega)).mp q; omega) (lc_fail (k := 3) hg (by omega) hS hC hV)
  rw [if_neg c]
  refine Wp_t ((nI_ltI (b := 6) (by omega) (by omega)).mpr (by omega)) ?_
  refine Wp_bv _ (k_next hT hS) (fun M2 ⟨a1, a2⟩ => ?_)
  have f2 : Fx (lfX g P 8) M M2 := lf_tp a2
  have hC2 := hC.fx hg f2
  refine Wp_letI ?_; intro v ev
  rw [hC2.1 4 (by omega)] at ev
  subst ev
  refine Wp_bi _ (k_named (l := 5) (lo := 1) (hi := 10) (hT.lf hg f2) (by omega) (by omega) rfl a1) (fun r6 M5 ⟨b1, b2, b3⟩ => ?_)
  refine Wp_t ((kin_I (by omega)).mpr (by omega)) ?_
  refine Wp_letI ?_; intro M7 e7
  rw [nI_clamp (by omega)] at e7
  have f7 : Fx (lfX g P 8) M M7 := by
    rw [← e7]
    exact (f2.trans (lf_tp b2)).si _ (Or.inr (Or.inl ⟨by omega, by omega, by unfold dsc; omega⟩))
  have hC7 := hC.fx hg f7
  have hS7 : St M7 b n (nmS b n 5 1 10 (sNext b n σ)) := by rw [← e7]; exact St.si b1 _ (by omega)
  refine Wp_letI ?_; intro v ev
  rw [hC7.1 4 (by omega)] at ev
  subst ev
  refine Wp_bi _ (k_named (l := 6) (lo := 0) (hi := 51) (hT.lf hg f7) (by omega) (by omega) rfl hS7) (fun r10 M9 ⟨c1, c2, c3⟩ => ?_)
  refine Wp_t ((kin_I (by omega)).mpr (by omega)) ?_
  refine Wp_letI ?_; intro M11 e11
  rw [nI_clamp (by omega)] at e11
  have f11 : Fx (lfX g P 8) M M11 := by
    rw [← e11]
    exact (f7.trans (lf_tp c2)).si _ (Or.inr (Or.inl ⟨by omega, by omega, by unfold dsc; omega⟩))
  have hC11 := hC.fx hg f11
  refine Wp_letI ?_; intro v ev
  rw [hC11.1 4 (by omega)] at ev
  subst ev
  refine Wp_letI ?_; intro M13 e13
  rw [L_1, nI_add] at e13
  have f13 : Fx (lfX g P 4) M M13 := by
    rw [← e13]
    exact (f11.mono (fun a j q => by
      rcases q with q | q | q
      · exact Or.inl q
      · exact Or.inr (Or.inl q)
      · exact Or.inr (Or.inl ⟨by omega, by omega, by unfold dsc; omega⟩))).si _ (Or.inr (Or.inr ⟨rfl, rfl⟩))
  refine Wp_some ⟨?_, fun gq => ?_, Cq_of hg (by omega) hC hV f13, lf_g f13⟩
  · rw [← e13, ← e11]; exact (St.si c1 _ (by omega)).si _ (by omega)
  · have gq : (nmS b n 6 0 51 (nmS b n 5 1 10 (sNext b n σ))).1 = none := gq
    have g1 := (nmS_g gq).1
    refine CPg.addK hg hC f13 (by rw [← e13, kr_si_at]) ?_ ?_
    · rw [← e13, kg_si, if_neg (by omega), ← e11, kg_si, if_neg (by omega), c2.1 _ _ (fun q => by have q : g + 1 = 1 ∧ 2 ≤ P.1 4 ∧ P.1 4 ≤ 7 := q; omega), ← e7, kr_si_at]
      exact b3 g1
    · rw [← e13, kg_si, if_neg (by omega), ← e11, kr_si_at]
      exact c3 gq
theorem lc_P {M : kr_M} {b : Nat → Int32} {n g : Nat} {P : GG} {σ : SG} (hg : 3 ≤ g) (hT : TC M b n) (hS : St M b n σ) (h0 : ¬ P.1 0 = 0) (hC : CPg M g P) (hV : PV P) : Wp (f_X6_personLine g M) (LQ M b n g (lnQ b n P σ)) := by
  have hV' := hV
  obtain ⟨v0, v1, v2, v3, v4, v5, v6, vk, vw, vr, vp, vd⟩ := hV'
  have l1 := (PV_1 hV h0).2
  unfold f_X6_personLine lnQ
  refine Wp_letI ?_; intro v ev
  rw [hC.1 7 (by omega)] at ev
  subst ev
  by_cases c : P.1 7 = 6
  · rw [if_pos c]
    exact Wp_f (fun q => by have := (nI_ltI (b := 6) (by omega) (by omega)).mp q; omega) (lc_fail (k := 3) hg (by omega) hS hC hV)
  rw [if_neg c]
  refine Wp_t ((nI_ltI (b := 6) (by omega) (by omega)).mpr (by omega)) ?_
  refine Wp_bv _ (k_next hT hS) (fun M2 ⟨a1, a2⟩ => ?_)
  have f2 : Fx (lfX g P 8) M M2 := lf_tp a2
  have hC2 := hC.fx hg f2
  refine Wp_letI ?_; intro v ev
  rw [hC2.1 7 (by omega)] at ev
  subst ev
  refine Wp_bi _ (k_named (l := 14) (lo := 1) (hi := 1000) (hT.lf hg f2) (by omega) (by omega) rfl a1) (fun r6 M5 ⟨b1, b2, b3⟩ => ?_)
  refine Wp_t ((kin_I (by omega)).mpr (by omega)) ?_
  refine Wp_letI ?_; intro M7 e7
  rw [nI_clamp (by omega)] at e7
  have f7 : Fx (lfX g P 8) M M7 := by
    rw [← e7]
    exact (f2.trans (lf_tp b2)).si _ (Or.inr (Or.inl ⟨by omega, by omega, by unfold dsc; omega⟩))
  have hC7 := hC.fx hg f7
  have hS7 : St M7 b n (nmS b n 14 1 1000 (sNext b n σ)) := by rw [← e7]; exact St.si b1 _ (by omega)
  refine Wp_letI ?_; intro v ev
  rw [hC7.1 7 (by omega)] at ev
  subst ev
  refine Wp_bi _ (k_named (l := 15) (lo := 1) (hi := 10) (hT.lf hg f7) (by omega) (by omega) rfl hS7) (fun r10 M9 ⟨c1, c2, c3⟩ => ?_)
  refine Wp_t ((kin_I (by omega)).mpr (by omega)) ?_
  refine Wp_letI ?_; intro M11 e11
  rw [nI_clamp (by omega)] at e11
  have f11 : Fx (lfX g P 8) M M11 := by
    rw [← e11]
    exact (f7.trans (lf_tp c2)).si _ (Or.inr (Or.inl ⟨by omega, by omega, by unfold dsc; omega⟩))
  have hC11 := hC.fx hg f11
  have hS11 : St M11 b n (nmS b n 15 1 10 (nmS b n 14 1 1000 (sNext b n σ))) := by rw [← e11]; exact St.si c1 _ (by omega)
  refine Wp_letI ?_; intro v ev
  rw [hC11.1 7 (by omega)] at ev
  subst ev
  refine Wp_letI ?_; intro v ev
  rw [hC11.1 1 (by omega)] at ev
  subst ev
  refine Wp_bi _ (k_named (l := 16) (lo := 0) (hi := P.1 1) (hT.lf hg f11) (by omega) (by omega) (kim1 (by omega)) hS11) (fun r15 M14 ⟨d1, d2, d3⟩ => ?_)
  refine Wp_t ((kin_I (by omega)).mpr (by omega)) ?_
  refine Wp_letI ?_; intro M16 e16
  rw [nI_clamp (by omega)] at e16
  have f16 : Fx (lfX g P 8) M M16 := by
    rw [← e16]
    exact (f11.trans (lf_tp d2)).si _ (Or.inr (Or.inl ⟨by omega, by omega, by unfold dsc; omega⟩))
  have hC16 := hC.fx hg f16
  refine Wp_letI ?_; intro v ev
  rw [hC16.1 7 (by omega)] at ev
  subst ev
  refine Wp_letI ?_; intro M18 e18
  rw [L_1, nI_add] at e18
  have f18 : Fx (lfX g P 7) M M18 := by
    rw [← e18]
    exact (f16.mono (fun a j q => by
      rcases q with q | q | q
      · exact Or.inl q
      · exact Or.inr (Or.inl q)
      · exact Or.inr (Or.inl ⟨by omega, by omega, by unfold dsc; omega⟩))).si _ (Or.inr (Or.inr ⟨rfl, rfl⟩))
  refine Wp_some ⟨?_, fun gq => ?_, Cq_of hg (by omega) hC hV f18, lf_g f18⟩
  · rw [← e18, ← e16]; exact (St.si d1 _ (by omega)).si _ (by omega)
  · have gq : (nmS b n 16 0 (P.1 1) (nmS b n 15 1 10 (nmS b n 14 1 1000 (sNext b n σ)))).1 = none := gq
    have g2 := (nmS_g gq).1
    have g1 := (nmS_g g2).1
    refine CPg.addP hg hC f18 (by rw [← e18, kr_si_at]) ?_ ?_ ?_
    · rw [← e18, kg_si, if_neg (by omega), ← e16, kg_si, if_neg (by omega), d2.1 _ _ (fun q => by have q : g + 6 = 1 ∧ 2 ≤ P.1 7 ∧ P.1 7 ≤ 7 := q; omega), ← e11, kg_si, if_neg (by omega), c2.1 _ _ (fun q => by have q : g + 6 = 1 ∧ 2 ≤ P.1 7 ∧ P.1 7 ≤ 7 := q; omega), ← e7, kr_si_at]
      exact b3 g1
    · rw [← e18, kg_si, if_neg (by omega), ← e16, kg_si, if_neg (by omega), d2.1 _ _ (fun q => by have q : g + 7 = 1 ∧ 2 ≤ P.1 7 ∧ P.1 7 ≤ 7 := q; omega), ← e11, kr_si_at]
      exact c3 g2
    · rw [← e18, kg_si, if_neg (by omega), ← e16, kr_si_at]
      exact d3 gq
