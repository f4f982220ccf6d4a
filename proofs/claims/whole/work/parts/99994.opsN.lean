/-! slips, spots, feel, leaves, forged, forge -/
theorem nI_nlt0 {a : Nat} (h : a < 2 ^ 31) : ¬ nI a < 0 := fun q => by have := (nI_ltI (b := 0) h (by omega)).mp q; omega
theorem op_16 (p1 : Int32) (M : kr_M) (h : Sim M) : ∃ (r : Int32) (M1 M2 : kr_M), f_X11_slips p1 M = some (r, M1) ∧ f_X12_slips p1 M1 = some (r, M2) ∧ Sim M2 := by
  refine op_q (c := f_X11_slips p1) (f := f_X12_slips p1) h (fun g G hK => ?_)
  have hV := hK.V
  have hV' := hV
  have hC := hK.C
  have hC' := hC
  have eg := hK.gr
  have es := hK.sh
  obtain ⟨vLi, v0, vPl, vWe, vOd, vKi, vWo, vRo, vPe, vWt, vAc, vIn, vWa, vL, vMn, vW, vA, vB, vAB, vLd, vCr, vN, vK, vWg, vPc, vSt, vD⟩ := hV'
  obtain ⟨c0, cPl, cWe, cOd, cKi, cWo, cRo, cPe, cWt, cAc, cIn, cWa, cL, cMn, cW, cA, cB, cLd, cCr, cN, cK, cWg, cPc, cSt⟩ := hC'
  rcases arg_c p1 (show gRo G < 2 ^ 31 by omega) with ⟨r, hr, rfl⟩ | hp
  · refine ⟨nI (slA G (gN G r) (rev (gN G r) (gK G r) 0) (gN G r)), ?_, fun M hK => ?_⟩
    · unfold f_X11_slips
      refine Wp_bi _ (opS_t hK hr) (fun z M1 ⟨q1, q2, q3⟩ => ?_)
      have q1 : z = 1 := q1
      subst q1
      refine Wp_t (by decide) ?_
      rw [sI_ok q2]
      exact Wp_bis (Wp_some ⟨rfl, q3⟩)
    · unfold f_X12_slips; refine Wp_letI ?_; intro M1 hM1; have hK1 : KS M1 g G := (by rw [← hM1]; exact hK.fr (Fr.thrown _ _)); have hF1 : Fr M M1 := (by rw [← hM1]; exact Fr.thrown _ _); clear hM1; have hV := hK1.V; have hR1 := hK1.R; have hR2 := hR1; obtain ⟨r0, rPl, rWe, rOd, rKi, rWo, rRo, rPe, rAc, rInc, rWa, rL, rMn, rW, rA, rB, rLd, rWg, rPc⟩ := hR2
      rw [krRo_t hR1 hV hr]
      refine Wp_bis (Wp_t (by decide) ?_)
      refine Wp_bv _ (sr_ok hK1 hr) (fun M2 ⟨hX, hT, hF⟩ => ?_)
      rw [rI_ok hX hT]
      exact Wp_bis (Wp_some ⟨rfl, hF1.trans hF⟩)
  · refine ⟨-2, ?_, fun M hK => ?_⟩
    · unfold f_X11_slips
      rw [opS_f hK hp]
      exact Wp_bis (Wp_f (fun q => q rfl) (Wp_some ⟨rfl, Fr.refl M⟩))
    · unfold f_X12_slips; refine Wp_letI ?_; intro M1 hM1; have hK1 : KS M1 g G := (by rw [← hM1]; exact hK.fr (Fr.thrown _ _)); have hF1 : Fr M M1 := (by rw [← hM1]; exact Fr.thrown _ _); clear hM1; have hV := hK1.V; have hR1 := hK1.R; have hR2 := hR1; obtain ⟨r0, rPl, rWe, rOd, rKi, rWo, rRo, rPe, rAc, rInc, rWa, rL, rMn, rW, rA, rB, rLd, rWg, rPc⟩ := hR2
      rw [krRo_f hR1 hV hp]
      exact Wp_bis (Wp_f (fun q => q rfl) (Wp_some ⟨rfl, hF1⟩))
theorem op_17 (p1 : Int32) (M : kr_M) (h : Sim M) : ∃ (r : Int32) (M1 M2 : kr_M), f_X11_spots p1 M = some (r, M1) ∧ f_X12_spots p1 M1 = some (r, M2) ∧ Sim M2 := by
  refine op_q (c := f_X11_spots p1) (f := f_X12_spots p1) h (fun g G hK => ?_)
  have hV := hK.V
  have hV' := hV
  have hC := hK.C
  have hC' := hC
  have eg := hK.gr
  have es := hK.sh
  obtain ⟨vLi, v0, vPl, vWe, vOd, vKi, vWo, vRo, vPe, vWt, vAc, vIn, vWa, vL, vMn, vW, vA, vB, vAB, vLd, vCr, vN, vK, vWg, vPc, vSt, vD⟩ := hV'
  obtain ⟨c0, cPl, cWe, cOd, cKi, cWo, cRo, cPe, cWt, cAc, cIn, cWa, cL, cMn, cW, cA, cB, cLd, cCr, cN, cK, cWg, cPc, cSt⟩ := hC'
  rcases arg_c p1 (show gRo G < 2 ^ 31 by omega) with ⟨r, hr, rfl⟩ | hp
  · refine ⟨spF G (gN G r) (rev (gN G r) (gK G r) 0) (gN G r), ?_, fun M hK => ?_⟩
    · unfold f_X11_spots
      refine Wp_bi _ (opS_t hK hr) (fun z M1 ⟨q1, q2, q3⟩ => ?_)
      have q1 : z = 1 := q1
      subst q1
      refine Wp_t (by decide) ?_
      exact Wp_of (sp_15 q2 kr_F 0 (by omega) (kr_F_gt _ (by have := q2.1.2.2.2; omega))) ⟨rfl, q3⟩
    · unfold f_X12_spots; refine Wp_letI ?_; intro M1 hM1; have hK1 : KS M1 g G := (by rw [← hM1]; exact hK.fr (Fr.thrown _ _)); have hF1 : Fr M M1 := (by rw [← hM1]; exact Fr.thrown _ _); clear hM1; have hV := hK1.V; have hR1 := hK1.R; have hR2 := hR1; obtain ⟨r0, rPl, rWe, rOd, rKi, rWo, rRo, rPe, rAc, rInc, rWa, rL, rMn, rW, rA, rB, rLd, rWg, rPc⟩ := hR2
      rw [krRo_t hR1 hV hr]
      refine Wp_bis (Wp_t (by decide) ?_)
      refine Wp_bv _ (sr_ok hK1 hr) (fun M2 ⟨hX, hT, hF⟩ => ?_)
      exact Wp_of (rp_25 hX hT kr_F 0 (by omega) (kr_F_gt _ (by have := hX.2.2.2.2.1; omega))) ⟨rfl, hF1.trans hF⟩
  · refine ⟨-2, ?_, fun M hK => ?_⟩
    · unfold f_X11_spots
      rw [opS_f hK hp]
      exact Wp_bis (Wp_f (fun q => q rfl) (Wp_some ⟨rfl, Fr.refl M⟩))
    · unfold f_X12_spots; refine Wp_letI ?_; intro M1 hM1; have hK1 : KS M1 g G := (by rw [← hM1]; exact hK.fr (Fr.thrown _ _)); have hF1 : Fr M M1 := (by rw [← hM1]; exact Fr.thrown _ _); clear hM1; have hV := hK1.V; have hR1 := hK1.R; have hR2 := hR1; obtain ⟨r0, rPl, rWe, rOd, rKi, rWo, rRo, rPe, rAc, rInc, rWa, rL, rMn, rW, rA, rB, rLd, rWg, rPc⟩ := hR2
      rw [krRo_f hR1 hV hp]
      exact Wp_bis (Wp_f (fun q => q rfl) (Wp_some ⟨rfl, hF1⟩))
theorem s15_s : SS s15 := fun a j h => by have h : a = 315 := h; omega
theorem op_18 (p1 : Int32) (M : kr_M) (h : Sim M) : ∃ (r : Int32) (M1 M2 : kr_M), f_X11_feel p1 M = some (r, M1) ∧ f_X12_feel p1 M1 = some (r, M2) ∧ Sim M2 := by
  refine op_q (c := f_X11_feel p1) (f := f_X12_feel p1) h (fun g G hK => ?_)
  have hV := hK.V
  have hV' := hV
  have hC := hK.C
  have hC' := hC
  have eg := hK.gr
  have es := hK.sh
  obtain ⟨vLi, v0, vPl, vWe, vOd, vKi, vWo, vRo, vPe, vWt, vAc, vIn, vWa, vL, vMn, vW, vA, vB, vAB, vLd, vCr, vN, vK, vWg, vPc, vSt, vD⟩ := hV'
  obtain ⟨c0, cPl, cWe, cOd, cKi, cWo, cRo, cPe, cWt, cAc, cIn, cWa, cL, cMn, cW, cA, cB, cLd, cCr, cN, cK, cWg, cPc, cSt⟩ := hC'
  rcases arg_c p1 (show gRo G < 2 ^ 31 by omega) with ⟨r, hr, rfl⟩ | hp
  · refine ⟨(flF G (gN G r) (rev (gN G r) (gK G r) 0) (slS G (gN G r) (rev (gN G r) (gK G r) 0)) (gN G r)).1, ?_, fun M hK => ?_⟩
    · unfold f_X11_feel
      refine Wp_bi _ (opS_t hK hr) (fun z M1 ⟨q1, q2, q3⟩ => ?_)
      have q1 : z = 1 := q1
      subst q1
      refine Wp_t (by decide) ?_
      refine Wp_bv _ (fl_C q2) (fun M2 ⟨a1, a2, a3⟩ => ?_)
      refine Wp_letI ?_; intro v ev
      rw [a1] at ev
      exact Wp_some ⟨ev.symm, q3.trans (a3.fr s15_s)⟩
    · unfold f_X12_feel; refine Wp_letI ?_; intro M1 hM1; have hK1 : KS M1 g G := (by rw [← hM1]; exact hK.fr (Fr.thrown _ _)); have hF1 : Fr M M1 := (by rw [← hM1]; exact Fr.thrown _ _); clear hM1; have hV := hK1.V; have hR1 := hK1.R; have hR2 := hR1; obtain ⟨r0, rPl, rWe, rOd, rKi, rWo, rRo, rPe, rAc, rInc, rWa, rL, rMn, rW, rA, rB, rLd, rWg, rPc⟩ := hR2
      rw [krRo_t hR1 hV hr]
      refine Wp_bis (Wp_t (by decide) ?_)
      refine Wp_bv _ (frF_ok hK1 hr) (fun M2 ⟨a1, a2, a3⟩ => ?_)
      refine Wp_letI ?_; intro v ev
      rw [a1] at ev
      exact Wp_some ⟨ev.symm, hF1.trans a3⟩
  · refine ⟨-2, ?_, fun M hK => ?_⟩
    · unfold f_X11_feel
      rw [opS_f hK hp]
      exact Wp_bis (Wp_f (fun q => q rfl) (Wp_some ⟨rfl, Fr.refl M⟩))
    · unfold f_X12_feel; refine Wp_letI ?_; intro M1 hM1; have hK1 : KS M1 g G := (by rw [← hM1]; exact hK.fr (Fr.thrown _ _)); have hF1 : Fr M M1 := (by rw [← hM1]; exact Fr.thrown _ _); clear hM1; have hV := hK1.V; have hR1 := hK1.R; have hR2 := hR1; obtain ⟨r0, rPl, rWe, rOd, rKi, rWo, rRo, rPe, rAc, rInc, rWa, rL, rMn, rW, rA, rB, rLd, rWg, rPc⟩ := hR2
      rw [krRo_f hR1 hV hp]
      exact Wp_bis (Wp_f (fun q => q rfl) (Wp_some ⟨rfl, hF1⟩))
theorem op_19 (p1 : Int32) (M : kr_M) (h : Sim M) : ∃ (r : Int32) (M1 M2 : kr_M), f_X11_leaves p1 M = some (r, M1) ∧ f_X12_leaves p1 M1 = some (r, M2) ∧ Sim M2 := by
  refine op_q (c := f_X11_leaves p1) (f := f_X12_leaves p1) h (fun g G hK => ?_)
  have hV := hK.V
  have hV' := hV
  have hC := hK.C
  have hC' := hC
  have eg := hK.gr
  have es := hK.sh
  obtain ⟨vLi, v0, vPl, vWe, vOd, vKi, vWo, vRo, vPe, vWt, vAc, vIn, vWa, vL, vMn, vW, vA, vB, vAB, vLd, vCr, vN, vK, vWg, vPc, vSt, vD⟩ := hV'
  obtain ⟨c0, cPl, cWe, cOd, cKi, cWo, cRo, cPe, cWt, cAc, cIn, cWa, cL, cMn, cW, cA, cB, cLd, cCr, cN, cK, cWg, cPc, cSt⟩ := hC'
  rcases arg_c p1 (show gRo G < 2 ^ 31 by omega) with ⟨r, hr, rfl⟩ | hp
  · refine ⟨nI (flF G (gN G r) (rev (gN G r) (gK G r) 0) (slS G (gN G r) (rev (gN G r) (gK G r) 0)) (gN G r)).2, ?_, fun M hK => ?_⟩
    · unfold f_X11_leaves
      refine Wp_bi _ (opS_t hK hr) (fun z M1 ⟨q1, q2, q3⟩ => ?_)
      have q1 : z = 1 := q1
      subst q1
      refine Wp_t (by decide) ?_
      refine Wp_bv _ (fl_C q2) (fun M2 ⟨a1, a2, a3⟩ => ?_)
      refine Wp_letI ?_; intro v ev
      rw [a2] at ev
      exact Wp_some ⟨ev.symm, q3.trans (a3.fr s15_s)⟩
    · unfold f_X12_leaves; refine Wp_letI ?_; intro M1 hM1; have hK1 : KS M1 g G := (by rw [← hM1]; exact hK.fr (Fr.thrown _ _)); have hF1 : Fr M M1 := (by rw [← hM1]; exact Fr.thrown _ _); clear hM1; have hV := hK1.V; have hR1 := hK1.R; have hR2 := hR1; obtain ⟨r0, rPl, rWe, rOd, rKi, rWo, rRo, rPe, rAc, rInc, rWa, rL, rMn, rW, rA, rB, rLd, rWg, rPc⟩ := hR2
      rw [krRo_t hR1 hV hr]
      refine Wp_bis (Wp_t (by decide) ?_)
      refine Wp_bv _ (frF_ok hK1 hr) (fun M2 ⟨a1, a2, a3⟩ => ?_)
      refine Wp_letI ?_; intro v ev
      rw [a2] at ev
      exact Wp_some ⟨ev.symm, hF1.trans a3⟩
  · refine ⟨-2, ?_, fun M hK => ?_⟩
    · unfold f_X11_leaves
      rw [opS_f hK hp]
      exact Wp_bis (Wp_f (fun q => q rfl) (Wp_some ⟨rfl, Fr.refl M⟩))
    · unfold f_X12_leaves; refine Wp_letI ?_; intro M1 hM1; have hK1 : KS M1 g G := (by rw [← hM1]; exact hK.fr (Fr.thrown _ _)); have hF1 : Fr M M1 := (by rw [← hM1]; exact Fr.thrown _ _); clear hM1; have hV := hK1.V; have hR1 := hK1.R; have hR2 := hR1; obtain ⟨r0, rPl, rWe, rOd, rKi, rWo, rRo, rPe, rAc, rInc, rWa, rL, rMn, rW, rA, rB, rLd, rWg, rPc⟩ := hR2
      rw [krRo_f hR1 hV hp]
      exact Wp_bis (Wp_f (fun q => q rfl) (Wp_some ⟨rfl, hF1⟩))
theorem op_20 (p1 : Int32) (M : kr_M) (h : Sim M) : ∃ (r : Int32) (M1 M2 : kr_M), f_X11_forged p1 M = some (r, M1) ∧ f_X12_forged p1 M1 = some (r, M2) ∧ Sim M2 := by
  refine op_q (c := f_X11_forged p1) (f := f_X12_forged p1) h (fun g G hK => ?_)
  have hV := hK.V
  have hV' := hV
  have hC := hK.C
  have hC' := hC
  have eg := hK.gr
  have es := hK.sh
  obtain ⟨vLi, v0, vPl, vWe, vOd, vKi, vWo, vRo, vPe, vWt, vAc, vIn, vWa, vL, vMn, vW, vA, vB, vAB, vLd, vCr, vN, vK, vWg, vPc, vSt, vD⟩ := hV'
  obtain ⟨c0, cPl, cWe, cOd, cKi, cWo, cRo, cPe, cWt, cAc, cIn, cWa, cL, cMn, cW, cA, cB, cLd, cCr, cN, cK, cWg, cPc, cSt⟩ := hC'
  rcases arg_c p1 (show gRo G < 2 ^ 31 by omega) with ⟨r, hr, rfl⟩ | hp
  · refine ⟨fg1 (fgO G (gN G r) (rev (gN G r) (gK G r) 0)), ?_, fun M hK => ?_⟩
    · unfold f_X11_forged
      refine Wp_bi _ (opS_t hK hr) (fun z M1 ⟨q1, q2, q3⟩ => ?_)
      have q1 : z = 1 := q1
      subst q1
      refine Wp_t (by decide) ?_
      refine Wp_bv _ (fg_C q2) (fun M2 ⟨⟨a1, a2, a3⟩, a4⟩ => ?_)
      refine Wp_letI ?_; intro v ev
      rw [a1] at ev
      exact Wp_some ⟨ev.symm, q3.trans (a4.fr s15_s)⟩
    · unfold f_X12_forged; refine Wp_letI ?_; intro M1 hM1; have hK1 : KS M1 g G := (by rw [← hM1]; exact hK.fr (Fr.thrown _ _)); have hF1 : Fr M M1 := (by rw [← hM1]; exact Fr.thrown _ _); clear hM1; have hV := hK1.V; have hR1 := hK1.R; have hR2 := hR1; obtain ⟨r0, rPl, rWe, rOd, rKi, rWo, rRo, rPe, rAc, rInc, rWa, rL, rMn, rW, rA, rB, rLd, rWg, rPc⟩ := hR2
      rw [krRo_t hR1 hV hr]
      refine Wp_bis (Wp_t (by decide) ?_)
      refine Wp_bv _ (rg_ok hK1 hr) (fun M2 ⟨⟨a1, a2⟩, a3⟩ => ?_)
      refine Wp_letI ?_; intro v ev
      rw [a1] at ev
      exact Wp_some ⟨ev.symm, hF1.trans a3⟩
  · refine ⟨-2, ?_, fun M hK => ?_⟩
    · unfold f_X11_forged
      rw [opS_f hK hp]
      exact Wp_bis (Wp_f (fun q => q rfl) (Wp_some ⟨rfl, Fr.refl M⟩))
    · unfold f_X12_forged; refine Wp_letI ?_; intro M1 hM1; have hK1 : KS M1 g G := (by rw [← hM1]; exact hK.fr (Fr.thrown _ _)); have hF1 : Fr M M1 := (by rw [← hM1]; exact Fr.thrown _ _); clear hM1; have hV := hK1.V; have hR1 := hK1.R; have hR2 := hR1; obtain ⟨r0, rPl, rWe, rOd, rKi, rWo, rRo, rPe, rAc, rInc, rWa, rL, rMn, rW, rA, rB, rLd, rWg, rPc⟩ := hR2
      rw [krRo_f hR1 hV hp]
      exact Wp_bis (Wp_f (fun q => q rfl) (Wp_some ⟨rfl, hF1⟩))
theorem fgO_b {G : GG} {n : Nat} {k : Nat → Nat} (hn : n ≤ 24) {v a : Nat} (h : fgO G n k = some (v, a)) : a < 144 := by
  unfold fgO at h
  by_cases c : (rdT G n k n 0).1 = 0
  · rw [if_pos c] at h; exact absurd h (by simp)
  · rw [if_neg c] at h
    have := (fgF_b _ v a h).1
    omega
theorem op_21 (p1 p2 : Int32) (M : kr_M) (h : Sim M) : ∃ (r : Int32) (M1 M2 : kr_M), f_X11_forge p1 p2 M = some (r, M1) ∧ f_X12_forge p1 p2 M1 = some (r, M2) ∧ Sim M2 := by
  refine op_q (c := f_X11_forge p1 p2) (f := f_X12_forge p1 p2) h (fun g G hK => ?_)
  have hV := hK.V
  have hV' := hV
  have hC := hK.C
  have hC' := hC
  have eg := hK.gr
  have es := hK.sh
  obtain ⟨vLi, v0, vPl, vWe, vOd, vKi, vWo, vRo, vPe, vWt, vAc, vIn, vWa, vL, vMn, vW, vA, vB, vAB, vLd, vCr, vN, vK, vWg, vPc, vSt, vD⟩ := hV'
  obtain ⟨c0, cPl, cWe, cOd, cKi, cWo, cRo, cPe, cWt, cAc, cIn, cWa, cL, cMn, cW, cA, cB, cLd, cCr, cN, cK, cWg, cPc, cSt⟩ := hC'
  rcases arg_c p2 (n := 2) (by omega) with ⟨b, hb, rfl⟩ | hq
  · rcases arg_c p1 (show gRo G < 2 ^ 31 by omega) with ⟨r, hr, rfl⟩ | hp
    · refine ⟨if b = 0 then fg2 (fgO G (gN G r) (rev (gN G r) (gK G r) 0)) else fg3 (fgO G (gN G r) (rev (gN G r) (gK G r) 0)), ?_, fun M hK => ?_⟩
      · unfold f_X11_forge
        refine Wp_f (nI_nlt0 (by omega)) (Wp_f (fun q => by have := (nI_ltI (a := 1) (by omega) (by omega)).mp q; omega) ?_)
        refine Wp_bi _ (opS_t hK hr) (fun z M1 ⟨q1, q2, q3⟩ => ?_)
        have q1 : z = 1 := q1
        subst q1
        refine Wp_t (by decide) ?_
        refine Wp_bv _ (fg_C q2) (fun M2 ⟨⟨a1, a2, a3⟩, a4⟩ => ?_)
        by_cases c : b = 0
        · refine Wp_f (fun q => q (by rw [c]; rfl)) ?_
          refine Wp_letI ?_; intro v ev
          rw [a2] at ev
          rw [if_pos c]
          exact Wp_some ⟨ev.symm, q3.trans (a4.fr s15_s)⟩
        · refine Wp_t (fun q => c ((nI_eq (b := 0) (by omega) (by omega)).mp q)) ?_
          refine Wp_letI ?_; intro v ev
          rw [a3] at ev
          rw [if_neg c]
          exact Wp_some ⟨ev.symm, q3.trans (a4.fr s15_s)⟩
      · unfold f_X12_forge; refine Wp_letI ?_; intro M1 hM1; have hK1 : KS M1 g G := (by rw [← hM1]; exact hK.fr (Fr.thrown _ _)); have hF1 : Fr M M1 := (by rw [← hM1]; exact Fr.thrown _ _); clear hM1; have hV := hK1.V; have hR1 := hK1.R; have hR2 := hR1; obtain ⟨r0, rPl, rWe, rOd, rKi, rWo, rRo, rPe, rAc, rInc, rWa, rL, rMn, rW, rA, rB, rLd, rWg, rPc⟩ := hR2
        rw [krRo_t hR1 hV hr]
        refine Wp_bis (Wp_f (by decide) ?_)
        rw [show f_X12_in (nI b).toInt64 (0 : Int64) (1 : Int64) M1 = some (1, M1) from in_t (lo := 0) (hi := 1) (by omega) (by omega) (by omega) M1]
        refine Wp_bis (Wp_t (by decide) ?_)
        refine Wp_bv _ (rg_ok hK1 hr) (fun M2 ⟨⟨a1, a2⟩, a3⟩ => ?_)
        refine Wp_letI ?_; intro v ev
        rw [a2] at ev
        have nb := (vN r hr).2
        cases e : fgO G (gN G r) (rev (gN G r) (gK G r) 0) with
        | none =>
          rw [e] at ev
          have ev : (-1 : Int32) = v := ev
          refine Wp_f (fun q => q ev.symm) (Wp_some ⟨?_, hF1.trans a3⟩)
          show (-1 : Int32) = if b = 0 then (-1 : Int32) else -1
          split <;> rfl
        | some y =>
          obtain ⟨u, a⟩ := y
          have ab := fgO_b nb e
          rw [e] at ev a2
          have ev : nI a = v := ev
          have a2 : M2.1 346 47 = nI a := a2
          refine Wp_t (fun q => (nI_m1 (a := a) (by omega)).mp (ev.trans q)) ?_
          by_cases c : b = 0
          · refine Wp_f (fun q => q (by rw [c]; rfl)) ?_
            refine Wp_letI ?_; intro v9 e9
            rw [a2] at e9
            subst e9
            refine Wp_f (by decide) (Wp_some ⟨?_, hF1.trans a3⟩)
            rw [if_pos c]
            show nI a / (6 : Int32) = nI (a / 6)
            rw [L_6, pk_div (by omega) (by omega) (by omega)]
          · refine Wp_t (fun q => c ((nI_eq (b := 0) (by omega) (by omega)).mp q)) ?_
            refine Wp_letI ?_; intro v9 e9
            rw [a2] at e9
            subst e9
            refine Wp_f (by decide) (Wp_some ⟨?_, hF1.trans a3⟩)
            rw [if_neg c]
            show nI a - nI a / (6 : Int32) * (6 : Int32) = nI (a % 6)
            rw [L_6, pk_div (by omega) (by omega) (by omega), pk_mul, pk_sub (by omega), show a - a / 6 * 6 = a % 6 by omega]
    · refine ⟨-2, ?_, fun M hK => ?_⟩
      · unfold f_X11_forge
        refine Wp_f (nI_nlt0 (by omega)) (Wp_f (fun q => by have := (nI_ltI (a := 1) (by omega) (by omega)).mp q; omega) ?_)
        rw [opS_f hK hp]
        exact Wp_bis (Wp_f (fun q => q rfl) (Wp_some ⟨rfl, Fr.refl M⟩))
      · unfold f_X12_forge; refine Wp_letI ?_; intro M1 hM1; have hK1 : KS M1 g G := (by rw [← hM1]; exact hK.fr (Fr.thrown _ _)); have hF1 : Fr M M1 := (by rw [← hM1]; exact Fr.thrown _ _); clear hM1; have hV := hK1.V; have hR1 := hK1.R; have hR2 := hR1; obtain ⟨r0, rPl, rWe, rOd, rKi, rWo, rRo, rPe, rAc, rInc, rWa, rL, rMn, rW, rA, rB, rLd, rWg, rPc⟩ := hR2
        rw [krRo_f hR1 hV hp]
        exact Wp_bis (Wp_t rfl (Wp_some ⟨rfl, hF1⟩))
  · refine ⟨-2, ?_, fun M hK => ?_⟩
    · unfold f_X11_forge
      refine Wp_c (fun c => Wp_some ⟨rfl, Fr.refl M⟩) (fun c1 => ?_)
      refine Wp_c (fun c => Wp_some ⟨rfl, Fr.refl M⟩) (fun c2 => ?_)
      rw [kz_lt] at c1 c2
      have z0 : (0 : Int32).toInt = 0 := rfl
      have z1 : (1 : Int32).toInt = 1 := rfl
      omega
    · unfold f_X12_forge; refine Wp_letI ?_; intro M1 hM1; have hK1 : KS M1 g G := (by rw [← hM1]; exact hK.fr (Fr.thrown _ _)); have hF1 : Fr M M1 := (by rw [← hM1]; exact Fr.thrown _ _); clear hM1; have hV := hK1.V; have hR1 := hK1.R; have hR2 := hR1; obtain ⟨r0, rPl, rWe, rOd, rKi, rWo, rRo, rPe, rAc, rInc, rWa, rL, rMn, rW, rA, rB, rLd, rWg, rPc⟩ := hR2
      rcases arg_c p1 (show gRo G < 2 ^ 31 by omega) with ⟨r, hr, rfl⟩ | hp
      · rw [krRo_t hR1 hV hr]
        refine Wp_bis (Wp_f (by decide) ?_)
        rw [show f_X12_in p2.toInt64 (0 : Int64) (1 : Int64) M1 = some (0, M1) from in_f (lo := 0) (hi := 1) (by omega) (by omega) (by omega) M1]
        exact Wp_bis (Wp_f (fun q => q rfl) (Wp_some ⟨rfl, hF1⟩))
      · rw [krRo_f hR1 hV hp]
        exact Wp_bis (Wp_t rfl (Wp_some ⟨rfl, hF1⟩))
