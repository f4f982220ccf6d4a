/-! THE NUMBERS: the tie between the class's rows and the reference's rows -/
theorem kz_lt {x y : Int32} : x < y ↔ x.toInt < y.toInt := Int32.lt_iff_toInt_lt
theorem kz_le {x y : Int32} : x ≤ y ↔ x.toInt ≤ y.toInt := Int32.le_iff_toInt_le
theorem kz_eq {x y : Int32} : x = y ↔ x.toInt = y.toInt := Int32.toInt_inj.symm
theorem kz_in {x : Int32} {n : Nat} : kr_in x n ↔ 0 ≤ x.toInt ∧ x.toInt < n := vp_in_iff
theorem kz_nat (x : Int32) : x.toNatClampNeg = x.toInt.toNat := rfl
theorem kz_rng (x : Int32) : -2147483648 ≤ x.toInt ∧ x.toInt < 2147483648 := by
  have h1 := Int32.le_toInt x
  have h2 := Int32.toInt_lt x
  omega
theorem kz_bmod {z : Int} (h1 : -2147483648 ≤ z) (h2 : z < 2147483648) : z.bmod (2 ^ 32) = z := by
  rw [Int.bmod_eq_of_le (by omega) (by omega)]
theorem kz_add {x y : Int32} (h1 : -2147483648 ≤ x.toInt + y.toInt) (h2 : x.toInt + y.toInt < 2147483648) : (x + y).toInt = x.toInt + y.toInt := by
  rw [Int32.toInt_add, kz_bmod h1 h2]
theorem kz_sub {x y : Int32} (h1 : -2147483648 ≤ x.toInt - y.toInt) (h2 : x.toInt - y.toInt < 2147483648) : (x - y).toInt = x.toInt - y.toInt := by
  rw [Int32.toInt_sub, kz_bmod h1 h2]
theorem kz_mul {x y : Int32} (h1 : -2147483648 ≤ x.toInt * y.toInt) (h2 : x.toInt * y.toInt < 2147483648) : (x * y).toInt = x.toInt * y.toInt := by
  rw [Int32.toInt_mul, kz_bmod h1 h2]
theorem kz_of {x : Int32} (h : 0 ≤ x.toInt) : x = nI x.toInt.toNat := by
  apply Int32.toInt_inj.mp
  have := kz_rng x
  rw [nI_toInt (by omega)]
  omega
theorem kz_nI {n : Nat} (h : n < 2147483648) : (nI n).toInt = (n : Int) := nI_toInt h
/-- the reference's 'in' -/
theorem km_in (x lo hi : Int64) (M : kr_M) : f_X12_in x lo hi M = some (if lo ≤ x ∧ x ≤ hi then 1 else 0, M) := by
  unfold f_X12_in
  have h1 : lg_cmp x lo < 0 ↔ ¬ lo ≤ x := by
    have := lg_cmp_ge x lo
    rw [← this]
    exact (Int32.not_le).symm
  have h2 : 0 < lg_cmp x hi ↔ ¬ x ≤ hi := by
    unfold lg_cmp
    by_cases c : x > hi
    · have : ¬ x ≤ hi := Int64.not_le.mpr c
      simp [c, this]
    · have c2 : x ≤ hi := Int64.not_lt.mp c
      by_cases c3 : x = hi
      · simp [c3]
      · simp [c, c3, c2]
  by_cases c1 : lo ≤ x
  · by_cases c2 : x ≤ hi
    · simp [h1, h2, c1, c2]
    · simp [h1, h2, c1, c2]
  · simp [h1, c1]
theorem kz_l (x : Int32) : x.toInt64.toInt = x.toInt := Int32.toInt_toInt64 x
theorem kz_lle {x y : Int64} : x ≤ y ↔ x.toInt ≤ y.toInt := Int64.le_iff_toInt_le
/-- 'in' of ints -/
theorem km_in3 (x lo hi : Int32) (M : kr_M) : f_X12_in x.toInt64 lo.toInt64 hi.toInt64 M = some (if lo ≤ x ∧ x ≤ hi then 1 else 0, M) := by
  rw [km_in]
  simp only [kz_lle, kz_l, kz_le]
theorem km_slot (x : Int32) (M : kr_M) : f_X12_isSlot x M = some (if 0 ≤ x ∧ x ≤ 3 then 1 else 0, M) := by
  unfold f_X12_isSlot
  have e : f_X12_in x.toInt64 (0 : Int64) (3 : Int64) M = f_X12_in x.toInt64 (0 : Int32).toInt64 (3 : Int32).toInt64 M := rfl
  rw [e, km_in3]
  by_cases h : 0 ≤ x ∧ x ≤ 3
  · rw [if_pos h]; rfl
  · rw [if_neg h]; rfl
theorem kc_slot (x : Int32) (M : kr_M) : f_X11_isSlot x M = some (if 0 ≤ x ∧ x ≤ 3 then 1 else 0, M) := by
  unfold f_X11_isSlot
  have h3 : (4 : Int32) ≤ x ↔ ¬ x ≤ 3 := by
    rw [kz_le, kz_le]
    show (4 : Int) ≤ x.toInt ↔ ¬ x.toInt ≤ 3
    omega
  have h0 : x < 0 ↔ ¬ 0 ≤ x := (Int32.not_le).symm
  by_cases c1 : 0 ≤ x
  · by_cases c2 : x ≤ 3
    · simp [h0, h3, c1, c2]
    · simp [h0, h3, c1, c2]
  · simp [h0, c1]
/-! replay of the acts of a gorge (class's rows): texts, how long, how often crossed, where the persons are, wet -/
abbrev rp_S : Type := (Nat → Nat → Int32) × (Nat → Nat) × (Nat → Nat) × (Nat → Int32) × Int32
def zn (x : Int32) : Nat := x.toInt.toNat
def rp_0 (M : kr_M) (g : Nat) : rp_S := (fun r i => if r < 6 then M.1 (g + 33 + 5 * r) i else 0, fun r => if r < 6 then zn (M.1 (g + 32 + 5 * r) 1) else 0, fun _ => 0, fun p => M.1 (g + 8) p, 0)
def rp_d (M : kr_M) (g k j : Nat) : Int32 := M.1 (g + 10) (4 * k + j)
def rp_oe (M : kr_M) (g r : Nat) (p : Int32) : Int32 := if p = M.1 (g + 31 + 5 * r) 0 then M.1 (g + 31 + 5 * r) 1 else M.1 (g + 31 + 5 * r) 0
def rp_1 (M : kr_M) (g : Nat) (R : rp_S) (k : Nat) : rp_S :=
  if rp_d M g k 0 = 0 then (R.1, R.2.1, fun r => if r = zn (rp_d M g k 2) then R.2.2.1 r + 1 else R.2.2.1 r, fun p => if p = zn (rp_d M g k 1) then rp_oe M g (zn (rp_d M g k 2)) (R.2.2.2.1 p) else R.2.2.2.1 p, R.2.2.2.2)
  else if rp_d M g k 0 = 1 then (fun r i => if r = zn (rp_d M g k 1) ∧ i = zn (rp_d M g k 2) then rp_d M g k 3 else R.1 r i, R.2)
  else if rp_d M g k 0 = 2 then (R.1, fun r => if r = zn (rp_d M g k 1) then zn (rp_d M g k 2) else R.2.1 r, R.2.2)
  else if rp_d M g k 0 = 3 then (fun r i => if r = zn (rp_d M g k 1) ∧ R.2.1 r ≤ i ∧ i < R.2.1 r + R.2.1 (zn (rp_d M g k 2)) then R.1 (zn (rp_d M g k 2)) (i - R.2.1 r) else R.1 r i, fun r => if r = zn (rp_d M g k 1) then R.2.1 r + R.2.1 (zn (rp_d M g k 2)) else R.2.1 r, R.2.2)
  else (R.1, R.2.1, R.2.2.1, R.2.2.2.1, rp_d M g k 1)
def rp_n (M : kr_M) (g : Nat) : Nat → rp_S
  | 0 => rp_0 M g
  | n + 1 => rp_1 M g (rp_n M g n) n
/-- an act that can be done in a state -/
def rp_v (M : kr_M) (g : Nat) (R : rp_S) (k : Nat) : Prop :=
  (rp_d M g k 0 = 0 ∧ 0 ≤ (rp_d M g k 1).toInt ∧ (rp_d M g k 1).toInt < (M.1 g 7).toInt ∧ 0 ≤ (rp_d M g k 2).toInt ∧ (rp_d M g k 2).toInt < (M.1 g 6).toInt ∧ (R.2.2.2.1 (zn (rp_d M g k 1)) = M.1 (g + 31 + 5 * zn (rp_d M g k 2)) 0 ∨ R.2.2.2.1 (zn (rp_d M g k 1)) = M.1 (g + 31 + 5 * zn (rp_d M g k 2)) 1)) ∨
  (rp_d M g k 0 = 1 ∧ 0 ≤ (rp_d M g k 1).toInt ∧ (rp_d M g k 1).toInt < (M.1 g 6).toInt ∧ 0 ≤ (rp_d M g k 2).toInt ∧ (rp_d M g k 2).toInt < R.2.1 (zn (rp_d M g k 1)) ∧ 0 ≤ (rp_d M g k 3).toInt ∧ (rp_d M g k 3).toInt < (M.1 g 4).toInt) ∨
  (rp_d M g k 0 = 2 ∧ 0 ≤ (rp_d M g k 1).toInt ∧ (rp_d M g k 1).toInt < (M.1 g 6).toInt ∧ 1 ≤ (rp_d M g k 2).toInt ∧ (rp_d M g k 2).toInt < R.2.1 (zn (rp_d M g k 1))) ∨
  (rp_d M g k 0 = 3 ∧ 0 ≤ (rp_d M g k 1).toInt ∧ (rp_d M g k 1).toInt < (M.1 g 6).toInt ∧ 0 ≤ (rp_d M g k 2).toInt ∧ (rp_d M g k 2).toInt < (M.1 g 6).toInt ∧ R.2.1 (zn (rp_d M g k 1)) + R.2.1 (zn (rp_d M g k 2)) ≤ 24) ∨
  (rp_d M g k 0 = 4 ∧ (rp_d M g k 1 = 0 ∨ rp_d M g k 1 = 1))
/-- what was told is the same on both sides -/
def gs_T (M : kr_M) (g x : Nat) : Prop :=
  M.1 g 0 = M.1 352 x ∧ (∀ j, j < 7 → M.1 g (j + 1) = M.1 353 (8 * x + j)) ∧ M.1 g 9 = M.1 353 (8 * x + 7) ∧
  (∀ k, k < zn (M.1 g 4) → M.1 (g + 1) k = M.1 354 (6 * x + k) ∧ M.1 (g + 2) k = M.1 355 (6 * x + k)) ∧
  (∀ w, w < zn (M.1 g 5) → M.1 (g + 11 + 2 * w) 1 = M.1 356 (10 * x + w) ∧ M.1 (g + 4) w = M.1 357 (10 * x + w) ∧ ∀ i, i < zn (M.1 (g + 11 + 2 * w) 1) → M.1 (g + 12 + 2 * w) i = M.1 358 (40 * x + (4 * w + i))) ∧
  (∀ r, r < zn (M.1 g 6) → (∀ j, j < 3 → M.1 (g + 31 + 5 * r) j = M.1 359 (24 * x + (4 * r + j))) ∧ M.1 (g + 32 + 5 * r) 1 = M.1 359 (24 * x + (4 * r + 3)) ∧ ∀ i, i < zn (M.1 (g + 32 + 5 * r) 1) → M.1 (g + 33 + 5 * r) i = M.1 360 (72 * x + (12 * r + i))) ∧
  (∀ p, p < zn (M.1 g 7) → M.1 (g + 6) p = M.1 361 (18 * x + 3 * p) ∧ M.1 (g + 7) p = M.1 361 (18 * x + (3 * p + 1)) ∧ M.1 (g + 8) p = M.1 361 (18 * x + (3 * p + 2))) ∧
  (∀ k, k < 4 * zn (M.1 g 9) → M.1 (g + 10) k = M.1 362 (160 * x + k))
/-- numbers within their bounds -/
def gs_V (M : kr_M) (g : Nat) : Prop :=
  (0 ≤ (M.1 g 0).toInt ∧ (M.1 g 0).toInt ≤ 30) ∧ (M.1 g 0 = 0 → ∀ j, 1 ≤ j → j < 10 → M.1 g j = 0) ∧ (¬ M.1 g 0 = 0 → 2 ≤ (M.1 g 1).toInt ∧ (M.1 g 1).toInt ≤ 6) ∧
  (0 ≤ (M.1 g 2).toInt ∧ (M.1 g 2).toInt ≤ 99) ∧ (0 ≤ (M.1 g 3).toInt ∧ (M.1 g 3).toInt ≤ 100) ∧ (0 ≤ (M.1 g 4).toInt ∧ (M.1 g 4).toInt ≤ 6) ∧ (0 ≤ (M.1 g 5).toInt ∧ (M.1 g 5).toInt ≤ 10) ∧ (0 ≤ (M.1 g 6).toInt ∧ (M.1 g 6).toInt ≤ 6) ∧ (0 ≤ (M.1 g 7).toInt ∧ (M.1 g 7).toInt ≤ 6) ∧ (0 ≤ (M.1 g 9).toInt ∧ (M.1 g 9).toInt ≤ 40) ∧
  (∀ k, k < zn (M.1 g 4) → 1 ≤ (M.1 (g + 1) k).toInt ∧ (M.1 (g + 1) k).toInt ≤ 9 ∧ 0 ≤ (M.1 (g + 2) k).toInt ∧ (M.1 (g + 2) k).toInt ≤ 50) ∧
  (∀ w, w < zn (M.1 g 5) → 1 ≤ (M.1 (g + 11 + 2 * w) 1).toInt ∧ (M.1 (g + 11 + 2 * w) 1).toInt ≤ 4 ∧ 0 ≤ (M.1 (g + 4) w).toInt ∧ (M.1 (g + 4) w).toInt ≤ 99 ∧ ∀ i, i < zn (M.1 (g + 11 + 2 * w) 1) → 0 ≤ (M.1 (g + 12 + 2 * w) i).toInt ∧ (M.1 (g + 12 + 2 * w) i).toInt < (M.1 g 4).toInt) ∧
  (∀ r, r < zn (M.1 g 6) → 0 ≤ (M.1 (g + 31 + 5 * r) 0).toInt ∧ (M.1 (g + 31 + 5 * r) 0).toInt < (M.1 g 1).toInt ∧ 0 ≤ (M.1 (g + 31 + 5 * r) 1).toInt ∧ (M.1 (g + 31 + 5 * r) 1).toInt < (M.1 g 1).toInt ∧ ¬ M.1 (g + 31 + 5 * r) 0 = M.1 (g + 31 + 5 * r) 1 ∧ 1 ≤ (M.1 (g + 31 + 5 * r) 2).toInt ∧ (M.1 (g + 31 + 5 * r) 2).toInt ≤ 999 ∧ 1 ≤ (M.1 (g + 32 + 5 * r) 1).toInt ∧ (M.1 (g + 32 + 5 * r) 1).toInt ≤ 12 ∧ ∀ i, i < zn (M.1 (g + 32 + 5 * r) 1) → 0 ≤ (M.1 (g + 33 + 5 * r) i).toInt ∧ (M.1 (g + 33 + 5 * r) i).toInt < (M.1 g 4).toInt) ∧
  (∀ p, p < zn (M.1 g 7) → 1 ≤ (M.1 (g + 6) p).toInt ∧ (M.1 (g + 6) p).toInt ≤ 999 ∧ 1 ≤ (M.1 (g + 7) p).toInt ∧ (M.1 (g + 7) p).toInt ≤ 9 ∧ 0 ≤ (M.1 (g + 8) p).toInt ∧ (M.1 (g + 8) p).toInt < (M.1 g 1).toInt) ∧
  (∀ k, k < zn (M.1 g 9) → rp_v M g (rp_n M g k) k) ∧
  (∀ w v, v < w → w < zn (M.1 g 5) → M.1 (g + 11 + 2 * v) 1 = M.1 (g + 11 + 2 * w) 1 → ¬ ∀ i, i < zn (M.1 (g + 11 + 2 * v) 1) → M.1 (g + 12 + 2 * v) i = M.1 (g + 12 + 2 * w) i)
/-- the class's present is the replay of its acts -/
def gs_C (M : kr_M) (g : Nat) : Prop :=
  (∀ r, r < zn (M.1 g 6) → M.1 (g + 34 + 5 * r) 1 = nI ((rp_n M g (zn (M.1 g 9))).2.1 r) ∧ M.1 (g + 31 + 5 * r) 3 = nI ((rp_n M g (zn (M.1 g 9))).2.2.1 r) ∧ ∀ i, i < (rp_n M g (zn (M.1 g 9))).2.1 r → M.1 (g + 35 + 5 * r) i = (rp_n M g (zn (M.1 g 9))).1 r i) ∧
  (∀ p, p < zn (M.1 g 7) → M.1 (g + 9) p = (rp_n M g (zn (M.1 g 9))).2.2.2.1 p) ∧ M.1 g 8 = (rp_n M g (zn (M.1 g 9))).2.2.2.2
def GS (M : kr_M) (g x : Nat) : Prop := gs_T M g x ∧ gs_V M g ∧ gs_C M g
def sA (M : kr_M) : Prop := ((M.2.2.1 = 3 ∧ M.2.2.2.1 = 64) ∨ (M.2.2.1 = 64 ∧ M.2.2.2.1 = 3)) ∧ kr_sh M.2.2.2.2 = (2, 0)
def sB (M : kr_M) : Prop := M.1 1 1 = M.1 346 6 ∧ 0 ≤ (M.1 1 1).toInt ∧ (M.1 1 1).toInt ≤ 1400 ∧ (∀ j, j < zn (M.1 1 1) → M.1 2 j = M.1 351 j) ∧ M.1 1 2 = M.1 346 14 ∧ M.1 1 3 = M.1 346 15
def sC1 (M : kr_M) (s : Nat) : Prop := (M.1 312 s = -1 ∧ M.1 347 s = -1) ∨ (0 ≤ (M.1 312 s).toInt ∧ (M.1 312 s).toInt ≤ 60 ∧ M.1 312 s = M.1 348 s ∧ M.1 311 s = M.1 347 s ∧ 0 ≤ (M.1 347 s).toInt ∧ (M.1 347 s).toInt ≤ 3 ∧ ∀ i, i < zn (M.1 312 s) → M.2.1 310 (60 * s + i) = M.2.1 349 (60 * s + i))
def sC (M : kr_M) : Prop := ∀ s, s < 4 → sC1 M s
def sD (M : kr_M) : Prop := ∀ k, k < 3 → M.1 309 k = M.1 363 k ∧ ((M.1 309 k = 0) ∨ (M.1 309 k = 1 ∧ GS M (126 + 61 * k) (1 + k)))
def Sim (M : kr_M) : Prop := sA M ∧ sB M ∧ sC M ∧ sD M ∧ GS M M.2.2.1 0
/-! what leaves the gorges as they are -/
theorem rp_congr {M M' : kr_M} {g : Nat} (h : ∀ a, g ≤ a → a ≤ g + 60 → M'.1 a = M.1 a) {R : rp_S} {k : Nat} (hr : rp_d M g k 0 = 0 → zn (rp_d M g k 2) ≤ 5) : rp_1 M' g R k = rp_1 M g R k := by
  have hd : ∀ j, rp_d M' g k j = rp_d M g k j := fun j => by unfold rp_d; rw [h (g + 10) (by omega) (by omega)]
  unfold rp_1
  by_cases c : rp_d M g k 0 = 0
  · have hr := hr c
    have ho : ∀ p, rp_oe M' g (zn (rp_d M g k 2)) p = rp_oe M g (zn (rp_d M g k 2)) p := fun p => by unfold rp_oe; rw [h (g + 31 + 5 * zn (rp_d M g k 2)) (by omega) (by omega)]
    simp only [hd, ho]
  · simp only [hd, c, if_false]
theorem rp_vcongr {M M' : kr_M} {g : Nat} (h : ∀ a, g ≤ a → a ≤ g + 60 → M'.1 a = M.1 a) (h6 : (M.1 g 6).toInt ≤ 6) {R : rp_S} {k : Nat} : rp_v M g R k → rp_v M' g R k := by
  have hd : ∀ j, rp_d M' g k j = rp_d M g k j := fun j => by unfold rp_d; rw [h (g + 10) (by omega) (by omega)]
  have hg : M'.1 g = M.1 g := h g (Nat.le_refl _) (by omega)
  intro hv
  unfold rp_v at hv ⊢
  simp only [hd, hg]
  rcases hv with hv | hv
  · refine Or.inl ?_
    obtain ⟨a1, a2, a3, a4, a5, a6⟩ := hv
    have e := h (g + 31 + 5 * zn (rp_d M g k 2)) (by omega) (by unfold zn; omega)
    rw [e]
    exact ⟨a1, a2, a3, a4, a5, a6⟩
  · exact Or.inr hv
theorem rp_0congr {M M' : kr_M} {g : Nat} (h : ∀ a, g ≤ a → a ≤ g + 60 → M'.1 a = M.1 a) : rp_0 M' g = rp_0 M g := by
  unfold rp_0
  have e1 : (fun r i => if r < 6 then M'.1 (g + 33 + 5 * r) i else 0) = (fun r i => if r < 6 then M.1 (g + 33 + 5 * r) i else (0 : Int32)) := by
    funext r i
    by_cases c : r < 6
    · rw [if_pos c, if_pos c, h _ (by omega) (by omega)]
    · rw [if_neg c, if_neg c]
  have e2 : (fun r => if r < 6 then zn (M'.1 (g + 32 + 5 * r) 1) else 0) = (fun r => if r < 6 then zn (M.1 (g + 32 + 5 * r) 1) else 0) := by
    funext r
    by_cases c : r < 6
    · rw [if_pos c, if_pos c, h _ (by omega) (by omega)]
    · rw [if_neg c, if_neg c]
  have e3 : M'.1 (g + 8) = M.1 (g + 8) := h _ (by omega) (by omega)
  rw [e1, e2, e3]
theorem rp_vlt {M : kr_M} {g : Nat} {R : rp_S} {k : Nat} (h6 : (M.1 g 6).toInt ≤ 6) (hv : rp_v M g R k) : rp_d M g k 0 = 0 → zn (rp_d M g k 2) ≤ 5 := by
  intro c
  unfold rp_v at hv
  rcases hv with hv | hv | hv | hv | hv
  · unfold zn; omega
  all_goals (have := hv.1; rw [c] at this; exact absurd this (by decide))
theorem rp_ncongr {M M' : kr_M} {g : Nat} (h : ∀ a, g ≤ a → a ≤ g + 60 → M'.1 a = M.1 a) (h6 : (M.1 g 6).toInt ≤ 6) : ∀ n, (∀ k, k < n → rp_v M g (rp_n M g k) k) → rp_n M' g n = rp_n M g n
  | 0, _ => rp_0congr h
  | n + 1, hv => by
    have ih := rp_ncongr h h6 n (fun k hk => hv k (by omega))
    show rp_1 M' g (rp_n M' g n) n = rp_1 M g (rp_n M g n) n
    rw [ih]
    exact rp_congr h (rp_vlt h6 (hv n (by omega)))
theorem GS_congr {M M' : kr_M} {g x : Nat} (h : ∀ a, g ≤ a → a ≤ g + 60 → M'.1 a = M.1 a) (h2 : ∀ a, 352 ≤ a → a ≤ 362 → M'.1 a = M.1 a) (hG : GS M g x) : GS M' g x := by
  obtain ⟨hT, hV, hC⟩ := hG
  have hg : M'.1 g = M.1 g := h g (Nat.le_refl _) (by omega)
  have b6 : (M.1 g 6).toInt ≤ 6 ∧ 0 ≤ (M.1 g 6).toInt := by obtain ⟨-, -, -, -, -, -, -, a, -⟩ := hV; exact ⟨a.2, a.1⟩
  have b5 : (M.1 g 5).toInt ≤ 10 ∧ 0 ≤ (M.1 g 5).toInt := by obtain ⟨-, -, -, -, -, -, a, -⟩ := hV; exact ⟨a.2, a.1⟩
  have r6 : ∀ r, r < zn (M.1 g 6) → r < 6 := fun r hr => by unfold zn at hr; omega
  have w10 : ∀ w, w < zn (M.1 g 5) → w < 10 := fun r hr => by unfold zn at hr; omega
  have hvv : ∀ k, k < zn (M.1 g 9) → rp_v M g (rp_n M g k) k := by obtain ⟨-, -, -, -, -, -, -, -, -, -, -, -, -, -, a, -⟩ := hV; exact a
  have hn : ∀ n, n ≤ zn (M.1 g 9) → rp_n M' g n = rp_n M g n := fun n hn => rp_ncongr h b6.1 n (fun k hk => hvv k (by omega))
  refine ⟨?_, ?_, ?_⟩
  · obtain ⟨t1, t2, t3, t4, t5, t6, t7, t8⟩ := hT
    refine ⟨by rw [hg, h2 352 (by omega) (by omega)]; exact t1, fun j hj => by rw [hg, h2 353 (by omega) (by omega)]; exact t2 j hj, by rw [hg, h2 353 (by omega) (by omega)]; exact t3, fun k hk => ?_, fun w hw => ?_, fun r hr => ?_, fun p hp => ?_, fun k hk => ?_⟩
    · rw [hg] at hk
      rw [h (g + 1) (by omega) (by omega), h (g + 2) (by omega) (by omega), h2 354 (by omega) (by omega), h2 355 (by omega) (by omega)]
      exact t4 k hk
    · rw [hg] at hw
      have := w10 w hw
      rw [h (g + 11 + 2 * w) (by omega) (by omega), h (g + 4) (by omega) (by omega), h (g + 12 + 2 * w) (by omega) (by omega), h2 356 (by omega) (by omega), h2 357 (by omega) (by omega), h2 358 (by omega) (by omega)]
      exact t5 w hw
    · rw [hg] at hr
      have := r6 r hr
      rw [h (g + 31 + 5 * r) (by omega) (by omega), h (g + 32 + 5 * r) (by omega) (by omega), h (g + 33 + 5 * r) (by omega) (by omega), h2 359 (by omega) (by omega), h2 360 (by omega) (by omega)]
      exact t6 r hr
    · rw [hg] at hp
      rw [h (g + 6) (by omega) (by omega), h (g + 7) (by omega) (by omega), h (g + 8) (by omega) (by omega), h2 361 (by omega) (by omega)]
      exact t7 p hp
    · rw [hg] at hk
      rw [h (g + 10) (by omega) (by omega), h2 362 (by omega) (by omega)]
      exact t8 k hk
  · obtain ⟨v1, v2, v3, v4, v5, v6, v7, v8, v9, v10, v11, v12, v13, v14, v15, v16⟩ := hV
    unfold gs_V
    rw [hg]
    refine ⟨v1, v2, v3, v4, v5, v6, v7, v8, v9, v10, fun k hk => ?_, fun w hw => ?_, fun r hr => ?_, fun p hp => ?_, fun k hk => ?_, fun w v hvw hw => ?_⟩
    · rw [h (g + 1) (by omega) (by omega), h (g + 2) (by omega) (by omega)]
      exact v11 k hk
    · have := w10 w hw
      rw [h (g + 11 + 2 * w) (by omega) (by omega), h (g + 4) (by omega) (by omega), h (g + 12 + 2 * w) (by omega) (by omega)]
      exact v12 w hw
    · have := r6 r hr
      rw [h (g + 31 + 5 * r) (by omega) (by omega), h (g + 32 + 5 * r) (by omega) (by omega), h (g + 33 + 5 * r) (by omega) (by omega)]
      exact v13 r hr
    · rw [h (g + 6) (by omega) (by omega), h (g + 7) (by omega) (by omega), h (g + 8) (by omega) (by omega)]
      exact v14 p hp
    · rw [hn k (by omega)]
      exact rp_vcongr h b6.1 (v15 k hk)
    · have := w10 w hw
      rw [h (g + 11 + 2 * w) (by omega) (by omega), h (g + 12 + 2 * w) (by omega) (by omega), h (g + 11 + 2 * v) (by omega) (by omega), h (g + 12 + 2 * v) (by omega) (by omega)]
      exact v16 w v hvw hw
  · obtain ⟨c1, c2, c3⟩ := hC
    unfold gs_C
    rw [hg, hn _ (Nat.le_refl _)]
    refine ⟨fun r hr => ?_, fun p hp => ?_, c3⟩
    · have := r6 r hr
      rw [h (g + 34 + 5 * r) (by omega) (by omega), h (g + 31 + 5 * r) (by omega) (by omega), h (g + 35 + 5 * r) (by omega) (by omega)]
      exact c1 r hr
    · rw [h (g + 9) (by omega) (by omega)]
      exact c2 p hp
/-- rows of the gorges, of the images and of what the reference keeps of them are the same -/
def kg_same (M M' : kr_M) : Prop := (∀ a, 3 ≤ a → a ≤ 309 → M'.1 a = M.1 a) ∧ (∀ a, 352 ≤ a → a ≤ 363 → M'.1 a = M.1 a) ∧ M'.2.2.1 = M.2.2.1
theorem sD_same {M M' : kr_M} (h : kg_same M M') (hD : sD M) : sD M' := by
  intro k hk
  obtain ⟨h1, h2, -⟩ := h
  obtain ⟨d1, d2⟩ := hD k hk
  rw [h1 309 (by omega) (by omega), h2 363 (by omega) (by omega)]
  refine ⟨d1, ?_⟩
  rcases d2 with d2 | ⟨d2, d3⟩
  · exact Or.inl d2
  · exact Or.inr ⟨d2, GS_congr (fun a ha hb => h1 a (by omega) (by omega)) (fun a ha hb => h2 a ha (by omega)) d3⟩
theorem sE_same {M M' : kr_M} (h : kg_same M M') (hA : sA M) (hE : GS M M.2.2.1 0) : GS M' M'.2.2.1 0 := by
  obtain ⟨h1, h2, h3⟩ := h
  rw [h3]
  have hn : M.2.2.1 = 3 ∨ M.2.2.1 = 64 := by
    rcases hA.1 with a | a
    · exact Or.inl a.1
    · exact Or.inr a.1
  exact GS_congr (fun a ha hb => h1 a (by omega) (by omega)) (fun a ha hb => h2 a ha (by omega)) hE
/-- an op that leaves the state as it is: only scratch rows are written -/
def Fr (M M' : kr_M) : Prop := (∀ a, a < 313 → M'.1 a = M.1 a) ∧ (∀ a, 347 ≤ a → a ≤ 363 → M'.1 a = M.1 a) ∧ (M'.1 346 6 = M.1 346 6 ∧ M'.1 346 14 = M.1 346 14 ∧ M'.1 346 15 = M.1 346 15) ∧ M'.2.1 310 = M.2.1 310 ∧ M'.2.1 349 = M.2.1 349 ∧ M'.2.2.1 = M.2.2.1 ∧ M'.2.2.2.1 = M.2.2.2.1 ∧ (kr_sh M.2.2.2.2 = (2, 0) → kr_sh M'.2.2.2.2 = (2, 0))
theorem Fr.refl (M : kr_M) : Fr M M := ⟨fun _ _ => rfl, fun _ _ _ => rfl, ⟨rfl, rfl, rfl⟩, rfl, rfl, rfl, rfl, id⟩
theorem Fr.trans {M M1 M2 : kr_M} (h : Fr M M1) (h2 : Fr M1 M2) : Fr M M2 := ⟨fun a ha => (h2.1 a ha).trans (h.1 a ha), fun a ha hb => (h2.2.1 a ha hb).trans (h.2.1 a ha hb), ⟨h2.2.2.1.1.trans h.2.2.1.1, h2.2.2.1.2.1.trans h.2.2.1.2.1, h2.2.2.1.2.2.trans h.2.2.1.2.2⟩, h2.2.2.2.1.trans h.2.2.2.1, h2.2.2.2.2.1.trans h.2.2.2.2.1, h2.2.2.2.2.2.1.trans h.2.2.2.2.2.1, h2.2.2.2.2.2.2.1.trans h.2.2.2.2.2.2.1, fun q => h2.2.2.2.2.2.2.2 (h.2.2.2.2.2.2.2 q)⟩
theorem Fr.sim {M M' : kr_M} (h : Fr M M') (hS : Sim M) : Sim M' := by
  obtain ⟨h1, h2, ⟨f1, f2, f3⟩, h4, h5, h6, h7, h8⟩ := h
  obtain ⟨a, b, c, d, e⟩ := hS
  have hs : kg_same M M' := ⟨fun x ha hb => h1 x (by omega), fun x ha hb => h2 x (by omega) hb, h6⟩
  refine ⟨⟨by rw [h6, h7]; exact a.1, h8 a.2⟩, ?_, fun s hs => ?_, sD_same hs d, sE_same hs a e⟩
  · unfold sB
    rw [h1 1 (by omega), h1 2 (by omega), f1, f2, f3, h2 351 (by omega) (by omega)]
    exact b
  · unfold sC1
    rw [h1 312 (by omega), h1 311 (by omega), h2 347 (by omega) (by omega), h2 348 (by omega) (by omega), h4, h5]
    exact c s hs
theorem Fr.thrown (M : kr_M) (x : Int32) : Fr M (kr_si M 346 0 x) := by
  refine ⟨fun a ha => ?_, fun a ha hb => ?_, ⟨?_, ?_, ?_⟩, rfl, rfl, rfl, rfl, id⟩
  · simp [kr_si, show a ≠ 346 by omega]
  · simp [kr_si, show a ≠ 346 by omega]
  all_goals simp [kr_si, upd]
