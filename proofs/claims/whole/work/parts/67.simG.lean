/-! from the tie to the ghost -/
theorem simG {M : kr_M} {g : Nat} (h : GS M g 0) : GV (gG M g) ∧ CG M g (gG M g) ∧ RG M (gG M g) := by
  obtain ⟨hT, hV, hC⟩ := h
  have hB := rp_ok hV _ (Nat.le_refl _)
  obtain ⟨v1, v2, v3, v4, v5, v6, v7, v8, v9, v10, v11, v12, v13, v14, v15, v16⟩ := hV
  obtain ⟨B1, B2, B3, B4⟩ := hB
  obtain ⟨C1, C2, C3⟩ := hC
  obtain ⟨t1, t2, t3, t4, t5, t6, t7, t8⟩ := hT
  revert B1 B2 B3 B4 C1 C2 C3
  generalize rp_n M g (zn (M.1 g 9)) = R
  intro B1 B2 B3 B4 C1 C2 C3
  have z0 : (0 : Int32).toInt = 0 := rfl
  have z1 : (1 : Int32).toInt = 1 := rfl
  have w8 : 0 ≤ (M.1 g 8).toInt ∧ (M.1 g 8).toInt ≤ 1 := by rw [C3]; rcases B4 with q | q <;> rw [q] <;> omega
  have hpl : 0 ≤ (M.1 g 1).toInt ∧ (M.1 g 1).toInt ≤ 6 := by
    by_cases c : M.1 g 0 = 0
    · rw [v2 c 1 (by omega) (by omega)]; omega
    · have := v3 c; omega
  have nN : ∀ r, r < zn (M.1 g 6) → zn (M.1 (g + 34 + 5 * r) 1) = R.2.1 r := fun r hr => by
    have := B1 r hr
    rw [(C1 r hr).1, zn_nI (by omega)]
  have ea : ∀ r, g + 31 + 5 * r + 3 = g + 34 + 5 * r := fun r => by omega
  have eb : ∀ r, g + 31 + 5 * r + 3 + 1 = g + 35 + 5 * r := fun r => by omega
  have ec : ∀ w, g + 11 + 2 * w + 1 = g + 12 + 2 * w := fun r => by omega
  have kB : ∀ r i, r < zn (M.1 g 6) → i < zn (M.1 (g + 34 + 5 * r) 1) → 0 ≤ (M.1 (g + 35 + 5 * r) i).toInt ∧ (M.1 (g + 35 + 5 * r) i).toInt < (M.1 g 4).toInt := fun r i hr hi => by
    rw [nN r hr] at hi
    rw [(C1 r hr).2.2 i hi]
    exact (B1 r hr).2.2 i hi
  have sB : ∀ p, p < zn (M.1 g 7) → 0 ≤ (M.1 (g + 9) p).toInt ∧ (M.1 (g + 9) p).toInt < (M.1 g 1).toInt := fun p hp => by rw [C2 p hp]; exact B3 p hp
  have k40 : zn (M.1 g 9) ≤ 40 := zn_le (by omega)
  have crB : ∀ r, r < zn (M.1 g 6) → 0 ≤ (M.1 (g + 31 + 5 * r) 3).toInt ∧ (M.1 (g + 31 + 5 * r) 3).toInt ≤ 40 := fun r hr => by
    have := B2 r hr
    rw [(C1 r hr).2.1, kz_nI (by omega)]
    omega
  refine ⟨?_, ?_, ?_⟩
  · refine ⟨zn_le v1.2, fun q => ?_, zn_le hpl.2, zn_le v4.2, zn_le v5.2, zn_le v6.2, zn_le v7.2, zn_le v8.2, zn_le v9.2, zn_le w8.2, zn_le v10.2, fun k hk => ?_, fun k hk => ?_, fun w hw => ?_, fun w hw => ?_, fun w i hw hi => ?_, fun r hr => ?_, fun r hr => ?_, fun r hr => ?_, fun r hr => ?_, fun r hr => ?_, fun r hr => ?_, fun r i hr hi => ?_, fun p hp => ?_, fun p hp => ?_, fun p hp => ?_, fun w v hvw hw he hh => ?_⟩
    · have c : M.1 g 0 = 0 := by
        rw [zn_of v1.1]
        rw [gG_gLi] at q
        rw [q]; rfl
      have w := v2 c
      rw [gG_gPl, gG_gWe, gG_gOd, gG_gKi, gG_gWo, gG_gRo, gG_gPe, gG_gWt, gG_gAc, w 1 (by omega) (by omega), w 2 (by omega) (by omega), w 3 (by omega) (by omega), w 4 (by omega) (by omega), w 5 (by omega) (by omega), w 6 (by omega) (by omega), w 7 (by omega) (by omega), w 8 (by omega) (by omega), w 9 (by omega) (by omega)]
      exact ⟨rfl, rfl, rfl, rfl, rfl, rfl, rfl, rfl, rfl⟩
    · obtain ⟨a1, a2, a3, a4⟩ := v11 k hk
      rw [gG_gIn]; unfold zn; omega
    · obtain ⟨a1, a2, a3, a4⟩ := v11 k hk
      rw [gG_gWa]; unfold zn; omega
    · obtain ⟨a1, a2, a3, a4, a5⟩ := v12 w hw
      rw [gG_gL]; unfold zn; omega
    · obtain ⟨a1, a2, a3, a4, a5⟩ := v12 w hw
      rw [gG_gMn]; unfold zn; omega
    · obtain ⟨a1, a2, a3, a4, a5⟩ := v12 w hw
      have := a5 i hi
      rw [gG_gW, gG_gKi]; unfold zn; omega
    · obtain ⟨a1, a2, a3, a4, a5, a6, a7, a8, a9, a10⟩ := v13 r hr
      rw [gG_gA, gG_gPl]; unfold zn; omega
    · obtain ⟨a1, a2, a3, a4, a5, a6, a7, a8, a9, a10⟩ := v13 r hr
      rw [gG_gB, gG_gPl]; unfold zn; omega
    · obtain ⟨a1, a2, a3, a4, a5, a6, a7, a8, a9, a10⟩ := v13 r hr
      rw [gG_gA, gG_gB]
      intro q
      exact a5 (by rw [zn_of a1, q, ← zn_of a3])
    · obtain ⟨a1, a2, a3, a4, a5, a6, a7, a8, a9, a10⟩ := v13 r hr
      rw [gG_gLd]; unfold zn; omega
    · have := crB r hr
      rw [gG_gCr]; unfold zn; omega
    · rw [gG_gN, nN r hr]
      have := B1 r hr
      exact ⟨this.1, this.2.1⟩
    · have := kB r i hr hi
      rw [gG_gK, gG_gKi]; unfold zn; omega
    · obtain ⟨a1, a2, a3, a4, a5, a6⟩ := v14 p hp
      rw [gG_gWg]; unfold zn; omega
    · obtain ⟨a1, a2, a3, a4, a5, a6⟩ := v14 p hp
      rw [gG_gPc]; unfold zn; omega
    · have := sB p hp
      rw [gG_gSt, gG_gPl]; unfold zn; omega
    · have hv : v < zn (M.1 g 5) := Nat.lt_trans hvw hw
      obtain ⟨a1, a2, a3, a4, a5⟩ := v12 w hw
      obtain ⟨b1, b2, b3, b4, b5⟩ := v12 v hv
      rw [gG_gL, gG_gL] at he
      refine v16 w v hvw hw ?_ (fun i hi => ?_)
      · rw [zn_of (show 0 ≤ (M.1 (g + 11 + 2 * v) 1).toInt by omega), he, ← zn_of (show 0 ≤ (M.1 (g + 11 + 2 * w) 1).toInt by omega)]
      · have q := hh i hi
        rw [gG_gW, gG_gW] at q
        rw [zn_of (b5 i hi).1, q, ← zn_of (a5 i (by rw [← he]; exact hi)).1]
  · refine ⟨zn_of v1.1, zn_of hpl.1, zn_of v4.1, zn_of v5.1, zn_of v6.1, zn_of v7.1, zn_of v8.1, zn_of v9.1, zn_of w8.1, zn_of v10.1, fun k hk => ?_, fun k hk => ?_, fun w hw => ?_, fun w hw => ?_, fun w i hw hi => ?_, fun r hr => ?_, fun r hr => ?_, fun r hr => ?_, fun r hr => ?_, fun r hr => ?_, fun r i hr hi => ?_, fun p hp => ?_, fun p hp => ?_, fun p hp => ?_⟩
    · obtain ⟨a1, a2, a3, a4⟩ := v11 k hk
      exact zn_of (by omega)
    · obtain ⟨a1, a2, a3, a4⟩ := v11 k hk
      exact zn_of (by omega)
    · obtain ⟨a1, a2, a3, a4, a5⟩ := v12 w hw
      exact zn_of (by omega)
    · obtain ⟨a1, a2, a3, a4, a5⟩ := v12 w hw
      exact zn_of (by omega)
    · obtain ⟨a1, a2, a3, a4, a5⟩ := v12 w hw
      rw [ec]
      exact zn_of (a5 i hi).1
    · exact zn_of (v13 r hr).1
    · exact zn_of (v13 r hr).2.2.1
    · have := (v13 r hr).2.2.2.2.2.1
      exact zn_of (by omega)
    · exact zn_of (crB r hr).1
    · rw [ea, (C1 r hr).1, gG_gN, nN r hr]
    · rw [eb]
      exact zn_of (kB r i hr hi).1
    · have := (v14 p hp).1
      exact zn_of (by omega)
    · have := (v14 p hp).2.2.1
      exact zn_of (by omega)
    · exact zn_of (sB p hp).1
  · have tj : ∀ j, j < 7 → M.1 353 j = M.1 g (j + 1) := fun j hj => by rw [t2 j hj, show 8 * 0 + j = j by omega]
    refine ⟨by rw [← t1]; exact zn_of v1.1, by rw [tj 0 (by omega)]; exact zn_of hpl.1, by rw [tj 1 (by omega)]; exact zn_of v4.1, by rw [tj 2 (by omega)]; exact zn_of v5.1, by rw [tj 3 (by omega)]; exact zn_of v6.1, by rw [tj 4 (by omega)]; exact zn_of v7.1, by rw [tj 5 (by omega)]; exact zn_of v8.1, by rw [tj 6 (by omega)]; exact zn_of v9.1, by have q := t3; rw [show 8 * 0 + 7 = 7 from rfl] at q; rw [← q]; exact zn_of v10.1, fun k hk => ?_, fun k hk => ?_, fun w hw => ?_, fun w hw => ?_, fun w i hw hi => ?_, fun r hr => ?_, fun r hr => ?_, fun r hr => ?_, fun p hp => ?_, fun p hp => ?_⟩
    · obtain ⟨a1, a2, a3, a4⟩ := v11 k hk
      have q := (t4 k hk).1
      rw [show 6 * 0 + k = k by omega] at q
      rw [← q]; exact zn_of (by omega)
    · obtain ⟨a1, a2, a3, a4⟩ := v11 k hk
      have q := (t4 k hk).2
      rw [show 6 * 0 + k = k by omega] at q
      rw [← q]; exact zn_of (by omega)
    · obtain ⟨a1, a2, a3, a4, a5⟩ := v12 w hw
      have q := (t5 w hw).1
      rw [show 10 * 0 + w = w by omega] at q
      rw [← q]; exact zn_of (by omega)
    · obtain ⟨a1, a2, a3, a4, a5⟩ := v12 w hw
      have q := (t5 w hw).2.1
      rw [show 10 * 0 + w = w by omega] at q
      rw [← q]; exact zn_of (by omega)
    · obtain ⟨a1, a2, a3, a4, a5⟩ := v12 w hw
      have q := (t5 w hw).2.2 i hi
      rw [show 40 * 0 + (4 * w + i) = 4 * w + i by omega] at q
      rw [← q]; exact zn_of (a5 i hi).1
    · have q := (t6 r hr).1 0 (by omega)
      rw [show 24 * 0 + (4 * r + 0) = 4 * r by omega] at q
      rw [← q]; exact zn_of (v13 r hr).1
    · have q := (t6 r hr).1 1 (by omega)
      rw [show 24 * 0 + (4 * r + 1) = 4 * r + 1 by omega] at q
      rw [← q]; exact zn_of (v13 r hr).2.2.1
    · have q := (t6 r hr).1 2 (by omega)
      rw [show 24 * 0 + (4 * r + 2) = 4 * r + 2 by omega] at q
      have := (v13 r hr).2.2.2.2.2.1
      rw [← q]; exact zn_of (by omega)
    · have q := (t7 p hp).1
      rw [show 18 * 0 + 3 * p = 3 * p by omega] at q
      have := (v14 p hp).1
      rw [← q]; exact zn_of (by omega)
    · have q := (t7 p hp).2.1
      rw [show 18 * 0 + (3 * p + 1) = 3 * p + 1 by omega] at q
      have := (v14 p hp).2.2.1
      rw [← q]; exact zn_of (by omega)
