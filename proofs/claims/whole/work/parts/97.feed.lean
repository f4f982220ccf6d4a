/-! FEED (the rows on bits are pasted from the kit's laws) -/
/-! ===== Int32 by its bits: bt x i ===== -/
def bt (x : Int32) (i : Nat) : Bool := x.toBitVec.getLsbD i
theorem b_ext {x y : Int32} (h : ∀ i, i < 32 → bt x i = bt y i) : x = y := Int32.toBitVec_inj.mp (BitVec.eq_of_getLsbD_eq (fun i hi => h i hi))
theorem b_or (x y : Int32) (i : Nat) : bt (x ||| y) i = (bt x i || bt y i) := by unfold bt; rw [Int32.toBitVec_or, BitVec.getLsbD_or]
theorem b_and (x y : Int32) (i : Nat) : bt (x &&& y) i = (bt x i && bt y i) := by unfold bt; rw [Int32.toBitVec_and, BitVec.getLsbD_and]
theorem b_xor (x y : Int32) (i : Nat) : bt (x ^^^ y) i = (bt x i ^^ bt y i) := by unfold bt; rw [Int32.toBitVec_xor, BitVec.getLsbD_xor]
theorem b_big {x : Int32} {i : Nat} (h : 32 ≤ i) : bt x i = false := BitVec.getLsbD_of_ge _ _ h
theorem b_255 (i : Nat) : bt 255 i = decide (i < 8) := by
  rcases Nat.lt_or_ge i 32 with h | h
  · exact (by decide +kernel : ∀ i, i < 32 → bt 255 i = decide (i < 8)) i h
  · rw [b_big h, decide_eq_false (by omega)]
theorem b_65535 (i : Nat) : bt 65535 i = decide (i < 16) := by
  rcases Nat.lt_or_ge i 32 with h | h
  · exact (by decide +kernel : ∀ i, i < 32 → bt 65535 i = decide (i < 16)) i h
  · rw [b_big h, decide_eq_false (by omega)]
theorem b_m1 : ∀ i, i < 32 → bt (-1) i = true := by decide +kernel
theorem b_0 (i : Nat) : bt 0 i = false := BitVec.getLsbD_zero
theorem s_l : ∀ n, n < 32 → ((nI n &&& 31).toBitVec.smod 32).toNat = n := by decide +kernel
theorem s_u : ∀ n, n < 32 → (((nI n).toUInt32 &&& Int32.toUInt32 31).toBitVec % 32).toNat = n := by decide +kernel
theorem b_shl (n : Nat) (hn : n < 32) (x : Int32) {i : Nat} (hi : i < 32) : bt (x <<< (nI n &&& 31)) i = (decide (n ≤ i) && bt x (i - n)) := by
  unfold bt
  rw [Int32.toBitVec_shiftLeft]
  show (x.toBitVec <<< ((nI n &&& 31).toBitVec.smod 32).toNat).getLsbD i = _
  rw [s_l n hn, BitVec.getLsbD_shiftLeft]
  rcases Nat.lt_or_ge i n with h | h
  · simp [h, Nat.not_le.mpr h]
  · simp [hi, h, Nat.not_lt.mpr h]
theorem b_ushr (n : Nat) (hn : n < 32) (x : Int32) (i : Nat) : bt ((x.toUInt32 >>> ((nI n).toUInt32 &&& Int32.toUInt32 31)).toInt32) i = bt x (n + i) := by
  show (x.toUInt32 >>> ((nI n).toUInt32 &&& Int32.toUInt32 31)).toBitVec.getLsbD i = x.toUInt32.toBitVec.getLsbD (n + i)
  rw [UInt32.toBitVec_shiftRight]
  show (x.toUInt32.toBitVec >>> (((nI n).toUInt32 &&& Int32.toUInt32 31).toBitVec % 32).toNat).getLsbD i = _
  rw [s_u n hn, BitVec.getLsbD_ushiftRight]
theorem b_sshr (n : Nat) (hn : n < 32) (x : Int32) {i : Nat} (hi : i < 32) : bt (x >>> (nI n &&& 31)) i = if n + i < 32 then bt x (n + i) else bt x 31 := by
  unfold bt
  rw [Int32.toBitVec_shiftRight]
  show (x.toBitVec.sshiftRight ((nI n &&& 31).toBitVec.smod 32).toNat).getLsbD i = _
  rw [s_l n hn, BitVec.getLsbD_sshiftRight, BitVec.msb_eq_getLsbD_last]
  simp [hi]
theorem fa_byte_low (x : Int32) : (x &&& 255).toInt8 = x.toInt8 := by
  apply Int8.toBitVec_inj.1
  apply BitVec.eq_of_getLsbD_eq
  intro i hi
  have h2 : (255 : Int32).toBitVec.getLsbD i = true := by
    have : ∀ j : Fin 8, (255 : Int32).toBitVec.getLsbD j.val = true := by decide +kernel
    exact this ⟨i, hi⟩
  have h4 : (x &&& 255).toBitVec.getLsbD i = x.toBitVec.getLsbD i := by
    show (x.toBitVec &&& (255 : Int32).toBitVec).getLsbD i = _
    rw [BitVec.getLsbD_and, h2, Bool.and_true]
  have h3 : i < 32 := by omega
  first
    | (show (((x &&& 255).toBitVec).signExtend 8).getLsbD i = (x.toBitVec.signExtend 8).getLsbD i; rw [BitVec.getLsbD_signExtend, BitVec.getLsbD_signExtend, if_pos h3, if_pos h3, h4])
    | (show (((x &&& 255).toBitVec).setWidth 8).getLsbD i = (x.toBitVec.setWidth 8).getLsbD i; rw [BitVec.getLsbD_setWidth, BitVec.getLsbD_setWidth, h4])
    | (simp [hi, h3, h4]; done)
theorem fd_eq {s : Nat} (hs : s ≤ 24) (x : Int32) : ((x.toUInt32 >>> ((nI s).toUInt32 &&& Int32.toUInt32 31)).toInt32).toInt8 = (x >>> (nI s &&& 31)).toInt8 := by
  rw [← fa_byte_low, ← fa_byte_low (x >>> (nI s &&& 31))]
  congr 1
  apply b_ext
  intro i hi
  rw [b_and, b_and, b_255, b_ushr s (by omega), b_sshr s (by omega) x hi]
  by_cases c : i < 8
  · rw [if_pos (by omega)]
  · rw [decide_eq_false c, Bool.and_false, Bool.and_false]
def fdB (x : Int32) (s : Nat) : Int32 := vp_nar .byte ((x >>> (nI s &&& 31)).toInt8.toInt32)
theorem fdB_c (x : Int32) {s : Nat} (hs : s ≤ 24) : vp_nar .byte ((((x).toUInt32 >>> ((nI s).toUInt32 &&& Int32.toUInt32 31)).toInt32).toInt8.toInt32) = fdB x s := by
  unfold fdB
  rw [fd_eq hs]
def fdM (M : kr_M) (a b c : Nat) (n : Nat) (x : Int32) : kr_M := kr_si (kr_si (kr_si (kr_si (kr_si (kr_si (kr_si (kr_si M a n (fdB x 24)) b c (nI (n + 1))) a (n + 1) (fdB x 16)) b c (nI (n + 2))) a (n + 2) (fdB x 8)) b c (nI (n + 3))) a (n + 3) (fdB x 0)) b c (nI (n + 4))
theorem fd1C {M : kr_M} {n n' s : Nat} (x : Int32) (e : M.1 1 1 = nI n) (hn : n < 1400) (hs : s ≤ 24) {Q : kr_M → Prop} (h : Wp (f_X6_putFour_3 x n' (nI s + -8) (kr_si (kr_si M 2 n (fdB x s)) 1 1 (nI (n + 1)))) Q) : Wp (f_X6_putFour_3 x (n' + 1) (nI s) M) Q := by
  rw [f_X6_putFour_3]
  refine Wp_f (nI_pos (by omega)) ?_
  refine Wp_letI ?_; intro v1 e1
  rw [e] at e1
  subst e1
  refine Wp_f (by rw [L_1400]; exact nI_ge (by omega) (by omega)) ?_
  refine Wp_letI ?_; intro v2 e2
  rw [e] at e2
  subst e2
  refine Wp_t ((kin_I (by omega)).mpr (by omega)) ?_
  refine Wp_letI ?_; intro M3 e3
  rw [nI_clamp (by omega), fdB_c x hs] at e3
  refine Wp_letI ?_; intro v4 e4
  have : M3.1 1 1 = nI n := by rw [← e3, kr_si_ne _ _ _ (by omega)]; exact e
  rw [this] at e4
  subst e4
  refine Wp_letI ?_; intro M5 e5
  rw [← e5, ← e3, nI_1]
  exact h
theorem fd1R {M : kr_M} {n n' s : Nat} (x : Int32) (e : M.1 346 6 = nI n) (hn : n < 1400) (hs : s ≤ 24) {Q : kr_M → Prop} (h : Wp (f_X12_four_3 x n' (nI s + -8) (kr_si (kr_si M 351 n (fdB x s)) 346 6 (nI (n + 1)))) Q) : Wp (f_X12_four_3 x (n' + 1) (nI s) M) Q := by
  rw [f_X12_four_3]
  refine Wp_f (nI_pos (by omega)) ?_
  refine Wp_letI ?_; intro v1 e1
  rw [e] at e1
  subst e1
  refine Wp_t ((kin_I (by omega)).mpr (by omega)) ?_
  refine Wp_letI ?_; intro M3 e3
  rw [nI_clamp (by omega)] at e3
  refine Wp_letI ?_; intro v4 e4
  have : M3.1 346 6 = nI n := by rw [← e3, kr_si_ne _ _ _ (by omega)]; exact e
  rw [this] at e4
  subst e4
  refine Wp_letI ?_; intro M5 e5
  rw [← e5, ← e3, nI_1]
  exact h
theorem fd4C {M : kr_M} {n : Nat} (x : Int32) (e : M.1 1 1 = nI n) (hn : n + 4 ≤ 1400) : f_X6_putFour x M = some (fdM M 2 1 1 n x) := by
  apply Wp_eq
  show Wp (f_X6_putFour_3 x (999995 + 1 + 1 + 1 + 1 + 1) (nI 24) M) _
  refine fd1C x e (by omega) (by omega) ?_
  rw [show nI 24 + -8 = nI 16 from rfl]
  refine fd1C x (kr_si_at _ _ _ _) (by omega) (by omega) ?_
  rw [show nI 16 + -8 = nI 8 from rfl]
  refine fd1C x (kr_si_at _ _ _ _) (by omega) (by omega) ?_
  rw [show nI 8 + -8 = nI 0 from rfl]
  refine fd1C x (kr_si_at _ _ _ _) (by omega) (by omega) ?_
  rw [f_X6_putFour_3]
  exact Wp_t (by decide) (Wp_some rfl)
theorem fd4R {M : kr_M} {n : Nat} (x : Int32) (e : M.1 346 6 = nI n) (hn : n + 4 ≤ 1400) : f_X12_four x M = some (fdM M 351 346 6 n x) := by
  apply Wp_eq
  show Wp (f_X12_four_3 x (999995 + 1 + 1 + 1 + 1 + 1) (nI 24) M) _
  refine fd1R x e (by omega) (by omega) ?_
  rw [show nI 24 + -8 = nI 16 from rfl]
  refine fd1R x (kr_si_at _ _ _ _) (by omega) (by omega) ?_
  rw [show nI 16 + -8 = nI 8 from rfl]
  refine fd1R x (kr_si_at _ _ _ _) (by omega) (by omega) ?_
  rw [show nI 8 + -8 = nI 0 from rfl]
  refine fd1R x (kr_si_at _ _ _ _) (by omega) (by omega) ?_
  rw [f_X12_four_3]
  exact Wp_t (by decide) (Wp_some rfl)
theorem fdM_s (M : kr_M) (a b c n : Nat) (x : Int32) : (fdM M a b c n x).1 b c = nI (n + 4) := kr_si_at _ _ _ _
theorem fdM_o (M : kr_M) (a b c n : Nat) (x : Int32) {a' j : Nat} (h1 : ¬ (a' = b ∧ j = c)) (h2 : ¬ (a' = a ∧ n ≤ j ∧ j < n + 4)) : (fdM M a b c n x).1 a' j = M.1 a' j := by
  unfold fdM
  rw [kg_si, if_neg h1, kg_si, if_neg (by omega), kg_si, if_neg h1, kg_si, if_neg (by omega), kg_si, if_neg h1, kg_si, if_neg (by omega), kg_si, if_neg h1, kg_si, if_neg (by omega)]
theorem fdM_b (M M' : kr_M) (a b c a' b' c' n : Nat) (x : Int32) (h : a ≠ b) (h' : a' ≠ b') : ∀ j, n ≤ j → j < n + 4 → (fdM M a b c n x).1 a j = (fdM M' a' b' c' n x).1 a' j := by
  intro j h1 h2
  unfold fdM
  obtain rfl | rfl | rfl | rfl : j = n ∨ j = n + 1 ∨ j = n + 2 ∨ j = n + 3 := by omega
  all_goals simp (disch := omega) only [kg_si, if_pos, if_neg, eq_self, true_and, and_true, false_and, if_true, if_false, h, h']
theorem op_0 (p1 p2 p3 p4 p5 : Int32) (M : kr_M) (h : Sim M) : ∃ (r : Int32) (M1 M2 : kr_M), f_X11_feed p1 p2 p3 p4 p5 M = some (r, M1) ∧ f_X12_feed p1 p2 p3 p4 p5 M1 = some (r, M2) ∧ Sim M2 := by
  obtain ⟨b1, b2, b3, b4, b5, b6⟩ := h.2.1
  obtain ⟨n, hn, en⟩ : ∃ n : Nat, n ≤ 1400 ∧ M.1 1 1 = nI n := ⟨zn (M.1 1 1), zn_le b3, zn_of b2⟩
  rw [en, zn_nI (by omega)] at b4
  have er : M.1 346 6 = nI n := by rw [← b1, en]
  by_cases c : n ≤ 1380
  · let A1 := fdM M 2 1 1 n p1
    let A2 := fdM A1 2 1 1 (n + 4) p2
    let A3 := fdM A2 2 1 1 (n + 4 + 4) p3
    let A4 := fdM A3 2 1 1 (n + 4 + 4 + 4) p4
    let A5 := fdM A4 2 1 1 (n + 4 + 4 + 4 + 4) p5
    have hc : f_X11_feed p1 p2 p3 p4 p5 M = some (nI (n + 4 + 4 + 4 + 4 + 4), A5) := by
      apply Wp_eq
      unfold f_X11_feed
      refine Wp_letI ?_; intro v ev
      rw [en] at ev
      subst ev
      refine Wp_t (by rw [L_1380]; exact nI_le (by omega) (by omega)) ?_
      rw [fd4C p1 en (by omega)]
      refine Wp_bvs ?_
      rw [fd4C p2 (fdM_s _ _ _ _ _ _) (by omega)]
      refine Wp_bvs ?_
      rw [fd4C p3 (fdM_s _ _ _ _ _ _) (by omega)]
      refine Wp_bvs ?_
      rw [fd4C p4 (fdM_s _ _ _ _ _ _) (by omega)]
      refine Wp_bvs ?_
      rw [fd4C p5 (fdM_s _ _ _ _ _ _) (by omega)]
      refine Wp_bvs ?_
      refine Wp_letI ?_; intro v ev
      rw [fdM_s] at ev
      subst ev
      exact Wp_some rfl
    have oA : ∀ a j, ¬ (a = 1 ∧ j = 1) → ¬ (a = 2 ∧ n ≤ j) → A5.1 a j = M.1 a j := fun a j q1 q2 => by
      rw [fdM_o A4 2 1 1 (n + 4 + 4 + 4 + 4) p5 q1 (by omega), fdM_o A3 2 1 1 (n + 4 + 4 + 4) p4 q1 (by omega), fdM_o A2 2 1 1 (n + 4 + 4) p3 q1 (by omega), fdM_o A1 2 1 1 (n + 4) p2 q1 (by omega), fdM_o M 2 1 1 n p1 q1 (by omega)]
    have sA5 : A5.1 1 1 = nI (n + 4 + 4 + 4 + 4 + 4) := fdM_s _ _ _ _ _ _
    have mA : A5.2 = M.2 := rfl
    let B0 := kr_si A5 346 0 0
    let B1 := fdM B0 351 346 6 n p1
    let B2 := fdM B1 351 346 6 (n + 4) p2
    let B3 := fdM B2 351 346 6 (n + 4 + 4) p3
    let B4 := fdM B3 351 346 6 (n + 4 + 4 + 4) p4
    let B5 := fdM B4 351 346 6 (n + 4 + 4 + 4 + 4) p5
    have e0 : B0.1 346 6 = nI n := by
      show (kr_si A5 346 0 0).1 346 6 = nI n
      rw [kr_si_nk _ _ _ (by omega), oA 346 6 (by omega) (by omega)]
      exact er
    have hr : f_X12_feed p1 p2 p3 p4 p5 A5 = some (nI (n + 4 + 4 + 4 + 4 + 4), B5) := by
      apply Wp_eq
      unfold f_X12_feed
      refine Wp_letI ?_; intro M1 hM1
      subst hM1
      refine Wp_letI ?_; intro v ev
      rw [show (kr_si A5 346 0 0).1 346 6 = nI n from e0] at ev
      subst ev
      refine Wp_t (by rw [L_20, L_1400, nI_add]; exact nI_le (by omega) (by omega)) ?_
      rw [fd4R p1 e0 (by omega)]
      refine Wp_bvs ?_
      rw [fd4R p2 (fdM_s _ _ _ _ _ _) (by omega)]
      refine Wp_bvs ?_
      rw [fd4R p3 (fdM_s _ _ _ _ _ _) (by omega)]
      refine Wp_bvs ?_
      rw [fd4R p4 (fdM_s _ _ _ _ _ _) (by omega)]
      refine Wp_bvs ?_
      rw [fd4R p5 (fdM_s _ _ _ _ _ _) (by omega)]
      refine Wp_bvs ?_
      refine Wp_letI ?_; intro v ev
      rw [fdM_s] at ev
      subst ev
      exact Wp_some rfl
    refine ⟨_, A5, B5, hc, hr, ?_⟩
    have oB : ∀ a j, ¬ (a = 346 ∧ (j = 6 ∨ j = 0)) → ¬ (a = 351 ∧ n ≤ j) → B5.1 a j = A5.1 a j := fun a j q1 q2 => by
      rw [fdM_o B4 351 346 6 (n + 4 + 4 + 4 + 4) p5 (by omega) (by omega), fdM_o B3 351 346 6 (n + 4 + 4 + 4) p4 (by omega) (by omega), fdM_o B2 351 346 6 (n + 4 + 4) p3 (by omega) (by omega), fdM_o B1 351 346 6 (n + 4) p2 (by omega) (by omega), fdM_o B0 351 346 6 n p1 (by omega) (by omega)]
      show (kr_si A5 346 0 0).1 a j = _
      rw [kg_si, if_neg (by omega)]
    have sB5 : B5.1 346 6 = nI (n + 4 + 4 + 4 + 4 + 4) := fdM_s _ _ _ _ _ _
    have by5 : ∀ j, n ≤ j → j < n + 4 + 4 + 4 + 4 + 4 → A5.1 2 j = B5.1 351 j := fun j h1 h2 => by
      by_cases c5 : n + 4 + 4 + 4 + 4 ≤ j
      · exact fdM_b A4 B4 2 1 1 351 346 6 _ p5 (by omega) (by omega) j c5 h2
      · rw [fdM_o A4 2 1 1 (n + 4 + 4 + 4 + 4) p5 (by omega) (by omega), fdM_o B4 351 346 6 (n + 4 + 4 + 4 + 4) p5 (by omega) (by omega)]
        by_cases c4 : n + 4 + 4 + 4 ≤ j
        · exact fdM_b A3 B3 2 1 1 351 346 6 _ p4 (by omega) (by omega) j c4 (by omega)
        · rw [fdM_o A3 2 1 1 (n + 4 + 4 + 4) p4 (by omega) (by omega), fdM_o B3 351 346 6 (n + 4 + 4 + 4) p4 (by omega) (by omega)]
          by_cases c3 : n + 4 + 4 ≤ j
          · exact fdM_b A2 B2 2 1 1 351 346 6 _ p3 (by omega) (by omega) j c3 (by omega)
          · rw [fdM_o A2 2 1 1 (n + 4 + 4) p3 (by omega) (by omega), fdM_o B2 351 346 6 (n + 4 + 4) p3 (by omega) (by omega)]
            by_cases c2 : n + 4 ≤ j
            · exact fdM_b A1 B1 2 1 1 351 346 6 _ p2 (by omega) (by omega) j c2 (by omega)
            · rw [fdM_o A1 2 1 1 (n + 4) p2 (by omega) (by omega), fdM_o B1 351 346 6 (n + 4) p2 (by omega) (by omega)]
              exact fdM_b M B0 2 1 1 351 346 6 _ p1 (by omega) (by omega) j h1 (by omega)
    have mB : B5.2 = M.2 := rfl
    clear_value A5 B5
    have oAB : ∀ a j, ¬ (a = 346 ∧ (j = 6 ∨ j = 0)) → ¬ (a = 351 ∧ n ≤ j) → ¬ (a = 1 ∧ j = 1) → ¬ (a = 2 ∧ n ≤ j) → B5.1 a j = M.1 a j := fun a j q1 q2 q3 q4 => by rw [oB a j q1 q2, oA a j q3 q4]
    have row : ∀ a, 2 < a → a ≠ 346 → a ≠ 351 → B5.1 a = M.1 a := fun a h1 h2 h3 => funext fun j => oAB a j (by omega) (by omega) (by omega) (by omega)
    have hs : kg_same M B5 := ⟨fun a h1 h2 => row a (by omega) (by omega) (by omega), fun a h1 h2 => row a (by omega) (by omega) (by omega), by rw [mB]⟩
    refine ⟨by unfold sA; rw [mB]; exact h.1, ?_, fun s hs4 => ?_, sD_same hs h.2.2.2.1, sE_same hs h.1 h.2.2.2.2⟩
    · have s11 : B5.1 1 1 = nI (n + 4 + 4 + 4 + 4 + 4) := by rw [oB 1 1 (by omega) (by omega)]; exact sA5
      unfold sB
      rw [s11, sB5, kz_nI (by omega), zn_nI (by omega), oAB 1 2 (by omega) (by omega) (by omega) (by omega), oAB 1 3 (by omega) (by omega) (by omega) (by omega), oAB 346 14 (by omega) (by omega) (by omega) (by omega), oAB 346 15 (by omega) (by omega) (by omega) (by omega)]
      refine ⟨rfl, by omega, by omega, fun j hj => ?_, b5, b6⟩
      by_cases cj : n ≤ j
      · rw [oB 2 j (by omega) (by omega)]
        exact by5 j cj hj
      · rw [oAB 2 j (by omega) (by omega) (by omega) (by omega), oAB 351 j (by omega) (by omega) (by omega) (by omega)]
        exact b4 j (by omega)
    · unfold sC1
      rw [row 312 (by omega) (by omega) (by omega), row 311 (by omega) (by omega) (by omega), row 347 (by omega) (by omega) (by omega), row 348 (by omega) (by omega) (by omega), mB]
      exact h.2.2.1 s hs4
  · refine ⟨-1, M, kr_si M 346 0 0, ?_, ?_, (Fr.thrown M 0).sim h⟩
    · apply Wp_eq
      unfold f_X11_feed
      refine Wp_letI ?_; intro v ev
      rw [en] at ev
      subst ev
      exact Wp_f (by rw [L_1380]; exact nI_ge (by omega) (by omega)) (Wp_some rfl)
    · apply Wp_eq
      unfold f_X12_feed
      refine Wp_letI ?_; intro M1 hM1
      subst hM1
      refine Wp_letI ?_; intro v ev
      rw [kr_si_nk _ _ _ (by omega), er] at ev
      subst ev
      exact Wp_f (by rw [L_20, L_1400, nI_add]; exact nI_ge (by omega) (by omega)) (Wp_some rfl)
