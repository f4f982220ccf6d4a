/-! THE GHOST: what a gorge is, in numbers -/
abbrev GG : Type := (Nat → Nat) × (Nat → Nat → Nat) × (Nat → Nat → Nat → Nat)
def gLi (G : GG) : Nat := G.1 0
def gPl (G : GG) : Nat := G.1 1
def gWe (G : GG) : Nat := G.1 2
def gOd (G : GG) : Nat := G.1 3
def gKi (G : GG) : Nat := G.1 4
def gWo (G : GG) : Nat := G.1 5
def gRo (G : GG) : Nat := G.1 6
def gPe (G : GG) : Nat := G.1 7
def gWt (G : GG) : Nat := G.1 8
def gAc (G : GG) : Nat := G.1 9
def gIn (G : GG) (k : Nat) : Nat := G.2.1 0 k
def gWa (G : GG) (k : Nat) : Nat := G.2.1 1 k
def gL (G : GG) (k : Nat) : Nat := G.2.1 2 k
def gMn (G : GG) (k : Nat) : Nat := G.2.1 3 k
def gA (G : GG) (k : Nat) : Nat := G.2.1 4 k
def gB (G : GG) (k : Nat) : Nat := G.2.1 5 k
def gLd (G : GG) (k : Nat) : Nat := G.2.1 6 k
def gN (G : GG) (k : Nat) : Nat := G.2.1 7 k
def gCr (G : GG) (k : Nat) : Nat := G.2.1 8 k
def gWg (G : GG) (k : Nat) : Nat := G.2.1 9 k
def gPc (G : GG) (k : Nat) : Nat := G.2.1 10 k
def gSt (G : GG) (k : Nat) : Nat := G.2.1 11 k
def gW (G : GG) (w i : Nat) : Nat := G.2.2 0 w i
def gK (G : GG) (r i : Nat) : Nat := G.2.2 1 r i
def gG (M : kr_M) (g : Nat) : GG := (fun j => zn (M.1 g j), fun a k => if a = 0 then zn (M.1 (g + 1) k) else if a = 1 then zn (M.1 (g + 2) k) else if a = 2 then zn (M.1 (g + 11 + 2 * k) 1) else if a = 3 then zn (M.1 (g + 4) k) else if a = 4 then zn (M.1 (g + 31 + 5 * k) 0) else if a = 5 then zn (M.1 (g + 31 + 5 * k) 1) else if a = 6 then zn (M.1 (g + 31 + 5 * k) 2) else if a = 7 then zn (M.1 (g + 34 + 5 * k) 1) else if a = 8 then zn (M.1 (g + 31 + 5 * k) 3) else if a = 9 then zn (M.1 (g + 6) k) else if a = 10 then zn (M.1 (g + 7) k) else zn (M.1 (g + 9) k), fun t a i => if t = 0 then zn (M.1 (g + 12 + 2 * a) i) else zn (M.1 (g + 35 + 5 * a) i))
theorem gG_gLi (M : kr_M) (g : Nat) : gLi (gG M g) = zn (M.1 g 0) := rfl
theorem gG_gPl (M : kr_M) (g : Nat) : gPl (gG M g) = zn (M.1 g 1) := rfl
theorem gG_gWe (M : kr_M) (g : Nat) : gWe (gG M g) = zn (M.1 g 2) := rfl
theorem gG_gOd (M : kr_M) (g : Nat) : gOd (gG M g) = zn (M.1 g 3) := rfl
theorem gG_gKi (M : kr_M) (g : Nat) : gKi (gG M g) = zn (M.1 g 4) := rfl
theorem gG_gWo (M : kr_M) (g : Nat) : gWo (gG M g) = zn (M.1 g 5) := rfl
theorem gG_gRo (M : kr_M) (g : Nat) : gRo (gG M g) = zn (M.1 g 6) := rfl
theorem gG_gPe (M : kr_M) (g : Nat) : gPe (gG M g) = zn (M.1 g 7) := rfl
theorem gG_gWt (M : kr_M) (g : Nat) : gWt (gG M g) = zn (M.1 g 8) := rfl
theorem gG_gAc (M : kr_M) (g : Nat) : gAc (gG M g) = zn (M.1 g 9) := rfl
theorem gG_gIn (M : kr_M) (g k : Nat) : gIn (gG M g) k = zn (M.1 (g + 1) k) := rfl
theorem gG_gWa (M : kr_M) (g k : Nat) : gWa (gG M g) k = zn (M.1 (g + 2) k) := rfl
theorem gG_gL (M : kr_M) (g k : Nat) : gL (gG M g) k = zn (M.1 (g + 11 + 2 * k) 1) := rfl
theorem gG_gMn (M : kr_M) (g k : Nat) : gMn (gG M g) k = zn (M.1 (g + 4) k) := rfl
theorem gG_gA (M : kr_M) (g k : Nat) : gA (gG M g) k = zn (M.1 (g + 31 + 5 * k) 0) := rfl
theorem gG_gB (M : kr_M) (g k : Nat) : gB (gG M g) k = zn (M.1 (g + 31 + 5 * k) 1) := rfl
theorem gG_gLd (M : kr_M) (g k : Nat) : gLd (gG M g) k = zn (M.1 (g + 31 + 5 * k) 2) := rfl
theorem gG_gN (M : kr_M) (g k : Nat) : gN (gG M g) k = zn (M.1 (g + 34 + 5 * k) 1) := rfl
theorem gG_gCr (M : kr_M) (g k : Nat) : gCr (gG M g) k = zn (M.1 (g + 31 + 5 * k) 3) := rfl
theorem gG_gWg (M : kr_M) (g k : Nat) : gWg (gG M g) k = zn (M.1 (g + 6) k) := rfl
theorem gG_gPc (M : kr_M) (g k : Nat) : gPc (gG M g) k = zn (M.1 (g + 7) k) := rfl
theorem gG_gSt (M : kr_M) (g k : Nat) : gSt (gG M g) k = zn (M.1 (g + 9) k) := rfl
theorem gG_gW (M : kr_M) (g a i : Nat) : gW (gG M g) a i = zn (M.1 (g + 12 + 2 * a) i) := rfl
theorem gG_gK (M : kr_M) (g a i : Nat) : gK (gG M g) a i = zn (M.1 (g + 35 + 5 * a) i) := rfl
def CG (M : kr_M) (g : Nat) (G : GG) : Prop := M.1 g 0 = nI (gLi G) ∧ M.1 g 1 = nI (gPl G) ∧ M.1 g 2 = nI (gWe G) ∧ M.1 g 3 = nI (gOd G) ∧ M.1 g 4 = nI (gKi G) ∧ M.1 g 5 = nI (gWo G) ∧ M.1 g 6 = nI (gRo G) ∧ M.1 g 7 = nI (gPe G) ∧ M.1 g 8 = nI (gWt G) ∧ M.1 g 9 = nI (gAc G) ∧ (∀ k, k < gKi G → M.1 (g + 1) k = nI (gIn G k)) ∧ (∀ k, k < gKi G → M.1 (g + 2) k = nI (gWa G k)) ∧ (∀ w, w < gWo G → M.1 (g + 11 + 2 * w) 1 = nI (gL G w)) ∧ (∀ w, w < gWo G → M.1 (g + 4) w = nI (gMn G w)) ∧ (∀ w i, w < gWo G → i < gL G w → M.1 (g + 11 + 2 * w + 1) i = nI (gW G w i)) ∧ (∀ r, r < gRo G → M.1 (g + 31 + 5 * r) 0 = nI (gA G r)) ∧ (∀ r, r < gRo G → M.1 (g + 31 + 5 * r) 1 = nI (gB G r)) ∧ (∀ r, r < gRo G → M.1 (g + 31 + 5 * r) 2 = nI (gLd G r)) ∧ (∀ r, r < gRo G → M.1 (g + 31 + 5 * r) 3 = nI (gCr G r)) ∧ (∀ r, r < gRo G → M.1 (g + 31 + 5 * r + 3) 1 = nI (gN G r)) ∧ (∀ r i, r < gRo G → i < gN G r → M.1 (g + 31 + 5 * r + 3 + 1) i = nI (gK G r i)) ∧ (∀ p, p < gPe G → M.1 (g + 6) p = nI (gWg G p)) ∧ (∀ p, p < gPe G → M.1 (g + 7) p = nI (gPc G p)) ∧ (∀ p, p < gPe G → M.1 (g + 9) p = nI (gSt G p))
def RG (M : kr_M) (G : GG) : Prop := M.1 352 0 = nI (gLi G) ∧ M.1 353 0 = nI (gPl G) ∧ M.1 353 1 = nI (gWe G) ∧ M.1 353 2 = nI (gOd G) ∧ M.1 353 3 = nI (gKi G) ∧ M.1 353 4 = nI (gWo G) ∧ M.1 353 5 = nI (gRo G) ∧ M.1 353 6 = nI (gPe G) ∧ M.1 353 7 = nI (gAc G) ∧ (∀ k, k < gKi G → M.1 354 k = nI (gIn G k)) ∧ (∀ k, k < gKi G → M.1 355 k = nI (gWa G k)) ∧ (∀ w, w < gWo G → M.1 356 w = nI (gL G w)) ∧ (∀ w, w < gWo G → M.1 357 w = nI (gMn G w)) ∧ (∀ w i, w < gWo G → i < gL G w → M.1 358 (4 * w + i) = nI (gW G w i)) ∧ (∀ r, r < gRo G → M.1 359 (4 * r) = nI (gA G r)) ∧ (∀ r, r < gRo G → M.1 359 (4 * r + 1) = nI (gB G r)) ∧ (∀ r, r < gRo G → M.1 359 (4 * r + 2) = nI (gLd G r)) ∧ (∀ p, p < gPe G → M.1 361 (3 * p) = nI (gWg G p)) ∧ (∀ p, p < gPe G → M.1 361 (3 * p + 1) = nI (gPc G p))
def LG (M : kr_M) (G : GG) : Prop := (∀ r, r < gRo G → M.1 365 r = nI (gN G r)) ∧ (∀ r i, r < gRo G → i < gN G r → M.1 364 (24 * r + i) = nI (gK G r i)) ∧ (∀ r, r < gRo G → M.1 366 r = nI (gCr G r)) ∧ (∀ p, p < gPe G → M.1 367 p = nI (gSt G p)) ∧ M.1 346 32 = nI (gWt G)
def GV (G : GG) : Prop := gLi G ≤ 30 ∧ (gLi G = 0 → gPl G = 0 ∧ gWe G = 0 ∧ gOd G = 0 ∧ gKi G = 0 ∧ gWo G = 0 ∧ gRo G = 0 ∧ gPe G = 0 ∧ gWt G = 0 ∧ gAc G = 0) ∧ gPl G ≤ 6 ∧ gWe G ≤ 99 ∧ gOd G ≤ 100 ∧ gKi G ≤ 6 ∧ gWo G ≤ 10 ∧ gRo G ≤ 6 ∧ gPe G ≤ 6 ∧ gWt G ≤ 1 ∧ gAc G ≤ 40 ∧ (∀ k, k < gKi G → 1 ≤ gIn G k ∧ gIn G k ≤ 9) ∧ (∀ k, k < gKi G → gWa G k ≤ 50) ∧ (∀ w, w < gWo G → 1 ≤ gL G w ∧ gL G w ≤ 4) ∧ (∀ w, w < gWo G → gMn G w ≤ 99) ∧ (∀ w i, w < gWo G → i < gL G w → gW G w i < gKi G) ∧ (∀ r, r < gRo G → gA G r < gPl G) ∧ (∀ r, r < gRo G → gB G r < gPl G) ∧ (∀ r, r < gRo G → gA G r ≠ gB G r) ∧ (∀ r, r < gRo G → 1 ≤ gLd G r ∧ gLd G r ≤ 999) ∧ (∀ r, r < gRo G → gCr G r ≤ 40) ∧ (∀ r, r < gRo G → 1 ≤ gN G r ∧ gN G r ≤ 24) ∧ (∀ r i, r < gRo G → i < gN G r → gK G r i < gKi G) ∧ (∀ p, p < gPe G → 1 ≤ gWg G p ∧ gWg G p ≤ 999) ∧ (∀ p, p < gPe G → 1 ≤ gPc G p ∧ gPc G p ≤ 9) ∧ (∀ p, p < gPe G → gSt G p < gPl G) ∧ (∀ w v, v < w → w < gWo G → gL G v = gL G w → ¬ ∀ i, i < gL G v → gW G v i = gW G w i)
theorem zn_nI {n : Nat} (h : n < 2 ^ 31) : zn (nI n) = n := by unfold zn; rw [nI_toInt h]; omega
theorem zn_of {x : Int32} (h : 0 ≤ x.toInt) : x = nI (zn x) := kz_of h
theorem zn_le {x : Int32} {n : Nat} (h : x.toInt ≤ n) : zn x ≤ n := by unfold zn; omega
theorem zn_lt {x y : Int32} (h0 : 0 ≤ x.toInt) (h : x.toInt < y.toInt) : zn x < zn y := by unfold zn; omega
def rp_B (M : kr_M) (g k : Nat) (R : rp_S) : Prop := (∀ r, r < zn (M.1 g 6) → 1 ≤ R.2.1 r ∧ R.2.1 r ≤ 24 ∧ ∀ i, i < R.2.1 r → 0 ≤ (R.1 r i).toInt ∧ (R.1 r i).toInt < (M.1 g 4).toInt) ∧ (∀ r, r < zn (M.1 g 6) → R.2.2.1 r ≤ k) ∧ (∀ p, p < zn (M.1 g 7) → 0 ≤ (R.2.2.2.1 p).toInt ∧ (R.2.2.2.1 p).toInt < (M.1 g 1).toInt) ∧ (R.2.2.2.2 = 0 ∨ R.2.2.2.2 = 1)
theorem rp_ok {M : kr_M} {g : Nat} (hV : gs_V M g) : ∀ k, k ≤ zn (M.1 g 9) → rp_B M g k (rp_n M g k) := by
  obtain ⟨v1, v2, v3, v4, v5, v6, v7, v8, v9, v10, v11, v12, v13, v14, v15, v16⟩ := hV
  intro k
  induction k with
  | zero =>
    intro _
    refine ⟨fun r hr => ?_, fun r hr => Nat.le_refl _, fun p hp => ?_, Or.inl rfl⟩
    · obtain ⟨-, -, -, -, -, -, -, a1, a2, a3⟩ := v13 r hr
      have r6 : r < 6 := by unfold zn at hr; omega
      simp only [rp_n, rp_0, if_pos r6]
      refine ⟨by unfold zn; omega, by unfold zn; omega, fun i hi => a3 i hi⟩
    · exact (v14 p hp).2.2.2.2
  | succ k ih =>
    intro hk
    obtain ⟨b1, b2, b3, b4⟩ := ih (by omega)
    have hv := v15 k (by omega)
    show rp_B M g (k + 1) (rp_1 M g (rp_n M g k) k)
    revert b1 b2 b3 b4 hv
    generalize rp_n M g k = R
    intro b1 b2 b3 b4 hv
    rcases hv with ⟨d0, a1, a2, a3, a4, a5⟩ | ⟨d0, a1, a2, a3, a4, a5, a6⟩ | ⟨d0, a1, a2, a3, a4⟩ | ⟨d0, a1, a2, a3, a4, a5⟩ | ⟨d0, a1⟩
    · have e : rp_1 M g R k = (R.1, R.2.1, fun r => if r = zn (rp_d M g k 2) then R.2.2.1 r + 1 else R.2.2.1 r, fun p => if p = zn (rp_d M g k 1) then rp_oe M g (zn (rp_d M g k 2)) (R.2.2.2.1 p) else R.2.2.2.1 p, R.2.2.2.2) := by unfold rp_1; rw [if_pos d0]
      rw [e]
      refine ⟨b1, fun r hr => ?_, fun p hp => ?_, b4⟩
      · have := b2 r hr
        show (if r = zn (rp_d M g k 2) then R.2.2.1 r + 1 else R.2.2.1 r) ≤ k + 1
        split <;> omega
      · show 0 ≤ (if p = zn (rp_d M g k 1) then rp_oe M g (zn (rp_d M g k 2)) (R.2.2.2.1 p) else R.2.2.2.1 p).toInt ∧ (if p = zn (rp_d M g k 1) then rp_oe M g (zn (rp_d M g k 2)) (R.2.2.2.1 p) else R.2.2.2.1 p).toInt < _
        have hz : zn (rp_d M g k 2) < zn (M.1 g 6) := zn_lt a3 a4
        obtain ⟨c1, c2, c3, c4, -⟩ := v13 _ hz
        split
        · unfold rp_oe
          split
          · exact ⟨c3, c4⟩
          · exact ⟨c1, c2⟩
        · exact b3 p hp
    · have e : rp_1 M g R k = (fun r i => if r = zn (rp_d M g k 1) ∧ i = zn (rp_d M g k 2) then rp_d M g k 3 else R.1 r i, R.2) := by unfold rp_1; rw [if_neg (by rw [d0]; decide), if_pos d0]
      rw [e]
      refine ⟨fun r hr => ?_, fun r hr => Nat.le_succ_of_le (b2 r hr), b3, b4⟩
      obtain ⟨x1, x2, x3⟩ := b1 r hr
      refine ⟨x1, x2, fun i hi => ?_⟩
      show 0 ≤ (if r = zn (rp_d M g k 1) ∧ i = zn (rp_d M g k 2) then rp_d M g k 3 else R.1 r i).toInt ∧ (if r = zn (rp_d M g k 1) ∧ i = zn (rp_d M g k 2) then rp_d M g k 3 else R.1 r i).toInt < _
      split
      · exact ⟨a5, a6⟩
      · exact x3 i hi
    · have e : rp_1 M g R k = (R.1, fun r => if r = zn (rp_d M g k 1) then zn (rp_d M g k 2) else R.2.1 r, R.2.2) := by unfold rp_1; rw [if_neg (by rw [d0]; decide), if_neg (by rw [d0]; decide), if_pos d0]
      rw [e]
      refine ⟨fun r hr => ?_, fun r hr => Nat.le_succ_of_le (b2 r hr), b3, b4⟩
      obtain ⟨x1, x2, x3⟩ := b1 r hr
      show 1 ≤ (if r = zn (rp_d M g k 1) then zn (rp_d M g k 2) else R.2.1 r) ∧ (if r = zn (rp_d M g k 1) then zn (rp_d M g k 2) else R.2.1 r) ≤ 24 ∧ ∀ i, i < (if r = zn (rp_d M g k 1) then zn (rp_d M g k 2) else R.2.1 r) → _
      by_cases c : r = zn (rp_d M g k 1)
      · rw [if_pos c]
        rw [← c] at a4
        refine ⟨by unfold zn; omega, by unfold zn; omega, fun i hi => x3 i (by unfold zn at hi; omega)⟩
      · rw [if_neg c]
        exact ⟨x1, x2, x3⟩
    · have e : rp_1 M g R k = (fun r i => if r = zn (rp_d M g k 1) ∧ R.2.1 r ≤ i ∧ i < R.2.1 r + R.2.1 (zn (rp_d M g k 2)) then R.1 (zn (rp_d M g k 2)) (i - R.2.1 r) else R.1 r i, fun r => if r = zn (rp_d M g k 1) then R.2.1 r + R.2.1 (zn (rp_d M g k 2)) else R.2.1 r, R.2.2) := by unfold rp_1; rw [if_neg (by rw [d0]; decide), if_neg (by rw [d0]; decide), if_neg (by rw [d0]; decide), if_pos d0]
      rw [e]
      refine ⟨fun r hr => ?_, fun r hr => Nat.le_succ_of_le (b2 r hr), b3, b4⟩
      obtain ⟨x1, x2, x3⟩ := b1 r hr
      obtain ⟨y1, y2, y3⟩ := b1 _ (zn_lt a3 a4)
      show 1 ≤ (if r = zn (rp_d M g k 1) then R.2.1 r + R.2.1 (zn (rp_d M g k 2)) else R.2.1 r) ∧ (if r = zn (rp_d M g k 1) then R.2.1 r + R.2.1 (zn (rp_d M g k 2)) else R.2.1 r) ≤ 24 ∧ ∀ i, i < (if r = zn (rp_d M g k 1) then R.2.1 r + R.2.1 (zn (rp_d M g k 2)) else R.2.1 r) → 0 ≤ (if r = zn (rp_d M g k 1) ∧ R.2.1 r ≤ i ∧ i < R.2.1 r + R.2.1 (zn (rp_d M g k 2)) then R.1 (zn (rp_d M g k 2)) (i - R.2.1 r) else R.1 r i).toInt ∧ (if r = zn (rp_d M g k 1) ∧ R.2.1 r ≤ i ∧ i < R.2.1 r + R.2.1 (zn (rp_d M g k 2)) then R.1 (zn (rp_d M g k 2)) (i - R.2.1 r) else R.1 r i).toInt < _
      by_cases c : r = zn (rp_d M g k 1)
      · rw [if_pos c]
        rw [← c] at a5
        refine ⟨by omega, by omega, fun i hi => ?_⟩
        by_cases c2 : R.2.1 r ≤ i
        · rw [if_pos ⟨c, c2, hi⟩]
          exact y3 _ (by omega)
        · rw [if_neg (fun q => c2 q.2.1)]
          exact x3 i (by omega)
      · rw [if_neg c]
        refine ⟨x1, x2, fun i hi => ?_⟩
        rw [if_neg (fun q => c q.1)]
        exact x3 i hi
    · have e : rp_1 M g R k = (R.1, R.2.1, R.2.2.1, R.2.2.2.1, rp_d M g k 1) := by unfold rp_1; rw [if_neg (by rw [d0]; decide), if_neg (by rw [d0]; decide), if_neg (by rw [d0]; decide), if_neg (by rw [d0]; decide)]
      rw [e]
      exact ⟨b1, fun r hr => Nat.le_succ_of_le (b2 r hr), b3, a1⟩
