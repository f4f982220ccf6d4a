/-! paste -/
theorem paste_118 (s i t k N : Nat) (hs : s < 4) (ht : t < 4) (hi : i + N ≤ 60) (hk : k + N ≤ 60) : ∀ n x M, x ≤ N → N - x < n → ∃ M', f_X12_paste_118 (nI s) (nI i) (nI t) (nI k) (nI N) n (nI x) M = f_X12_paste_152 (nI t) (nI k) (nI N) M' ∧ (∀ j, x ≤ j → j < N → M'.2.1 350 j = M.2.1 349 (60 * s + i + j)) ∧ (∀ j, j < x → M'.2.1 350 j = M.2.1 350 j) ∧ (∀ b, b ≠ 350 → M'.2.1 b = M.2.1 b) ∧ M'.1 = M.1 ∧ M'.2.2 = M.2.2 := by
  intro n
  induction n with
  | zero => intro x M h1 h2; omega
  | succ n ih =>
    intro x M h1 h2
    rw [f_X12_paste_118]
    by_cases c : x = N
    · subst c
      rw [if_pos (nI_le (Nat.le_refl _) (by omega))]
      exact ⟨M, rfl, fun j h3 h4 => by omega, fun _ _ => rfl, fun _ _ => rfl, rfl, rfl⟩
    · rw [if_neg (nI_ge (by omega) (by omega))]
      have e : (60 : Int32) * nI s + nI i + nI x = nI (60 * s + i + x) := by rw [show (60 : Int32) = nI 60 from rfl, pk_mul, nI_add, nI_add]
      simp only [e, kr_let, if_pos (kr_inI (show 60 * s + i + x < 240 by omega) (by decide)), nI_clamp (show 60 * s + i + x < 2 ^ 31 by omega), if_pos (kr_inI (show x < 60 by omega) (by decide)), nI_clamp (show x < 2 ^ 31 by omega)]
      rw [show nI x + (1 : Int32) = nI (x + 1) from nI_1 x]
      obtain ⟨M', g1, g2, g3, g4, g5, g6⟩ := ih (x + 1) (kr_sl M 350 x (M.2.1 349 (60 * s + i + x))) (by omega) (by omega)
      refine ⟨M', g1, fun j h3 h4 => ?_, fun j h3 => ?_, fun b hb => ?_, g5, g6⟩
      · by_cases hj : j = x
        · rw [g3 j (by omega), kr_sl_at, if_pos ⟨rfl, hj⟩, hj]
        · rw [g2 j (by omega) h4, kr_sl_at, if_neg (by omega)]
      · rw [g3 j (by omega), kr_sl_at, if_neg (by omega)]
      · rw [g4 b hb]
        simp [kr_sl, hb]
theorem paste_155 (t k N : Nat) (ht : t < 4) (hk : k + N ≤ 60) : ∀ n x M, x ≤ N → N - x < n → ∃ M', f_X12_paste_155 (nI t) (nI k) (nI N) n (nI x) M = some (0, M') ∧ (∀ j, M'.2.1 349 j = if 60 * t + k + x ≤ j ∧ j < 60 * t + k + N then M.2.1 350 (j - (60 * t + k)) else M.2.1 349 j) ∧ (∀ b, b ≠ 349 → M'.2.1 b = M.2.1 b) ∧ M'.1 = M.1 ∧ M'.2.2 = M.2.2 := by
  intro n
  induction n with
  | zero => intro x M h1 h2; omega
  | succ n ih =>
    intro x M h1 h2
    rw [f_X12_paste_155]
    by_cases c : x = N
    · subst c
      rw [if_pos (nI_le (Nat.le_refl _) (by omega))]
      exact ⟨M, rfl, fun j => by rw [if_neg (by omega)], fun _ _ => rfl, rfl, rfl⟩
    · rw [if_neg (nI_ge (by omega) (by omega))]
      have e : (60 : Int32) * nI t + nI k + nI x = nI (60 * t + k + x) := by rw [show (60 : Int32) = nI 60 from rfl, pk_mul, nI_add, nI_add]
      simp only [e, kr_let, if_pos (kr_inI (show 60 * t + k + x < 240 by omega) (by decide)), nI_clamp (show 60 * t + k + x < 2 ^ 31 by omega), if_pos (kr_inI (show x < 60 by omega) (by decide)), nI_clamp (show x < 2 ^ 31 by omega)]
      rw [show nI x + (1 : Int32) = nI (x + 1) from nI_1 x]
      obtain ⟨M', g1, g2, g3, g4, g5⟩ := ih (x + 1) (kr_sl M 349 (60 * t + k + x) (M.2.1 350 x)) (by omega) (by omega)
      refine ⟨M', g1, fun j => ?_, fun b hb => ?_, g4, g5⟩
      · rw [g2 j]
        by_cases hj : j = 60 * t + k + x
        · rw [if_neg (by omega), if_pos (by omega), kr_sl_at, if_pos ⟨rfl, hj⟩, show j - (60 * t + k) = x by omega]
        · by_cases hj2 : 60 * t + k + (x + 1) ≤ j ∧ j < 60 * t + k + N
          · rw [if_pos hj2, if_pos (by omega), kr_sl_at, if_neg (by omega)]
          · rw [if_neg hj2, if_neg (by omega), kr_sl_at, if_neg (by omega)]
      · rw [g3 b hb]
        simp [kr_sl, hb]
theorem stands_c (s : Nat) (hs : s < 4) (p n : Int32) (M : kr_M) (h0 : 0 ≤ (M.1 312 s).toInt) (h1 : (M.1 312 s).toInt ≤ 60) : f_X11_standsIn (nI s) p n M = some (if 0 ≤ p.toInt ∧ 0 ≤ n.toInt ∧ p.toInt + n.toInt ≤ (M.1 312 s).toInt then 1 else 0, M) := by
  unfold f_X11_standsIn
  have i4 : kr_in (nI s) 4 := kr_inI hs (by decide)
  have ks : (nI s).toNatClampNeg = s := nI_clamp (by omega)
  have e0 : (0 : Int32).toInt = 0 := rfl
  by_cases c1 : p < 0
  · have := kz_lt.mp c1
    rw [if_pos c1, if_neg (by omega)]
  · have g1 : 0 ≤ p.toInt := by have q1 : ¬ p.toInt < (0 : Int32).toInt := fun q => c1 (kz_lt.mpr q); omega
    rw [if_neg c1]
    by_cases c2 : n < 0
    · have := kz_lt.mp c2
      rw [if_pos c2, if_neg (by omega)]
    · have g2 : 0 ≤ n.toInt := by have q1 : ¬ n.toInt < (0 : Int32).toInt := fun q => c2 (kz_lt.mpr q); omega
      rw [if_neg c2]
      simp only [kr_let, if_pos i4, ks]
      by_cases c3 : M.1 312 s < p
      · have := kz_lt.mp c3
        rw [if_pos c3, if_neg (by omega)]
      · have g3 : p.toInt ≤ (M.1 312 s).toInt := by have q1 : ¬ (M.1 312 s).toInt < p.toInt := fun q => c3 (kz_lt.mpr q); omega
        rw [if_neg c3]
        have hsub : (M.1 312 s - p).toInt = (M.1 312 s).toInt - p.toInt := kz_sub (by omega) (by omega)
        by_cases c4 : M.1 312 s - p < n
        · have := kz_lt.mp c4
          rw [if_pos c4, if_neg (by omega)]
        · have g4 : ¬ (M.1 312 s - p).toInt < n.toInt := fun q => c4 (kz_lt.mpr q)
          rw [if_neg c4, if_pos (by omega)]
theorem kz_ladd (x y : Int32) : (x.toInt64 + y.toInt64).toInt = x.toInt + y.toInt := by
  have h1 := kz_rng x
  have h2 := kz_rng y
  rw [Int64.toInt_add, kz_l, kz_l]
  exact Int.bmod_eq_of_le (by omega) (by omega)
theorem lg_gt (x y : Int64) : 0 < lg_cmp x y ↔ y.toInt < x.toInt := by
  unfold lg_cmp
  by_cases c : x > y
  · have : y.toInt < x.toInt := Int64.lt_iff_toInt_lt.mp c
    simp [c, this]
  · have c2 : ¬ y.toInt < x.toInt := fun q => c (Int64.lt_iff_toInt_lt.mpr q)
    by_cases c3 : x = y
    · simp [c3]
    · simp [c, c3, c2]
theorem lg_le (x y : Int64) : lg_cmp x y ≤ 0 ↔ x.toInt ≤ y.toInt := by
  have h := lg_gt x y
  constructor
  · intro q
    have : ¬ 0 < lg_cmp x y := Int32.not_lt.mpr q
    rw [h] at this
    omega
  · intro q
    apply Int32.not_lt.mp
    rw [h]
    omega
theorem op_58 (p1 p2 p3 p4 p5 : Int32) (M : kr_M) (h : Sim M) : ∃ (r : Int32) (M1 M2 : kr_M), f_X11_paste p1 p2 p3 p4 p5 M = some (r, M1) ∧ f_X12_paste p1 p2 p3 p4 p5 M1 = some (r, M2) ∧ Sim M2 := by
  have hq : ∀ r : Int32, f_X11_paste p1 p2 p3 p4 p5 M = some (r, M) → f_X12_paste p1 p2 p3 p4 p5 M = some (r, kr_si M 346 0 0) → ∃ (r : Int32) (M1 M2 : kr_M), f_X11_paste p1 p2 p3 p4 p5 M = some (r, M1) ∧ f_X12_paste p1 p2 p3 p4 p5 M1 = some (r, M2) ∧ Sim M2 := fun r h1 h2 => ⟨r, M, _, h1, h2, (Fr.thrown M 0).sim h⟩
  have e0 : (0 : Int32).toInt = 0 := rfl
  have b1 : ¬ (1 : Int32) = 0 := by decide
  by_cases c1 : 0 ≤ p1 ∧ p1 ≤ 3
  · by_cases c3 : 0 ≤ p3 ∧ p3 ≤ 3
    · obtain ⟨s, hs, rfl⟩ := kz_slot c1
      obtain ⟨t, ht, rfl⟩ := kz_slot c3
      have i4 : kr_in (nI s) 4 := kr_inI hs (by decide)
      have ks : (nI s).toNatClampNeg = s := nI_clamp (by omega)
      have j4 : kr_in (nI t) 4 := kr_inI ht (by decide)
      have kt : (nI t).toNatClampNeg = t := nI_clamp (by omega)
      have n7 : ∀ a, (kr_si M 346 0 0).1 347 a = M.1 347 a := fun a => by rw [kr_si_ne _ _ _ (by decide)]
      have n8 : ∀ a, (kr_si M 346 0 0).1 348 a = M.1 348 a := fun a => by rw [kr_si_ne _ _ _ (by decide)]
      rcases h.2.2.1 s hs with ⟨a1, a2⟩ | ⟨a1, a2, a3, a4, a5, a6, a7⟩
      · refine hq (-6) ?_ ?_
        · unfold f_X11_paste
          simp only [kc_slot, if_pos c1, if_pos c3, kr_bi, kr_let, Option.bind_some, if_neg b1, not_false_eq_true, if_true, if_false, b1, if_pos i4, ks, a1]
          rfl
        · unfold f_X12_paste
          simp only [km_slot, if_pos c1, if_pos c3, kr_bi, kr_let, Option.bind_some, if_neg b1, not_false_eq_true, if_true, if_false, b1, if_pos i4, ks, n7, a2]
      · have d1 : ¬ M.1 312 s < 0 := fun q => by have := kz_lt.mp q; omega
        have m1 : ¬ M.1 347 s = -1 := fun q => by rw [q] at a5; exact absurd a5 (by decide)
        rcases h.2.2.1 t ht with ⟨b1', b2⟩ | ⟨b1', b2, b3, b4, b5, b6, b7⟩
        · have d2 : ¬ (0 : Int32) ≤ M.1 312 t := by rw [b1']; decide
          refine hq (-6) ?_ ?_
          · unfold f_X11_paste
            simp only [kc_slot, if_pos c1, if_pos c3, kr_bi, kr_let, Option.bind_some, if_neg b1, not_false_eq_true, if_true, if_false, b1, if_pos i4, if_pos j4, ks, kt, if_neg d1, if_neg d2]
          · unfold f_X12_paste
            simp only [km_slot, if_pos c1, if_pos c3, kr_bi, kr_let, Option.bind_some, if_neg b1, not_false_eq_true, if_true, if_false, b1, if_pos i4, if_pos j4, ks, kt, n7, if_neg m1, b2]
            rfl
        · have d2 : (0 : Int32) ≤ M.1 312 t := kz_le.mpr (by omega)
          have m2 : ¬ M.1 347 t = -1 := fun q => by rw [q] at b5; exact absurd b5 (by decide)
          by_cases cw : M.1 347 s = M.1 347 t
          · have cw' : M.1 311 s = M.1 311 t := by rw [a4, b4]; exact cw
            have st1 := stands_c s hs p2 p5 M a1 a2
            have st2 := stands_c t ht p4 p5 M b1' b2
            by_cases k1 : 0 ≤ p2.toInt ∧ 0 ≤ p5.toInt ∧ p2.toInt + p5.toInt ≤ (M.1 312 s).toInt
            · by_cases k2 : 0 ≤ p4.toInt ∧ 0 ≤ p5.toInt ∧ p4.toInt + p5.toInt ≤ (M.1 312 t).toInt
              · -- it is put
                rw [if_pos k1] at st1
                rw [if_pos k2] at st2
                obtain ⟨i, hi, rfl⟩ : ∃ i : Nat, (i : Int) = p2.toInt ∧ p2 = nI i := ⟨p2.toInt.toNat, by omega, kz_of (by omega)⟩
                obtain ⟨k, hk, rfl⟩ : ∃ i : Nat, (i : Int) = p4.toInt ∧ p4 = nI i := ⟨p4.toInt.toNat, by omega, kz_of (by omega)⟩
                obtain ⟨N, hN, rfl⟩ : ∃ i : Nat, (i : Int) = p5.toInt ∧ p5 = nI i := ⟨p5.toInt.toNat, by omega, kz_of (by omega)⟩
                rw [← hi, ← hN] at k1
                rw [← hk, ← hN] at k2
                have es : nI s * (60 : Int32) + nI i = nI (60 * s + i) := by rw [show (60 : Int32) = nI 60 from rfl, pk_mul, nI_add, Nat.mul_comm]
                have et : nI t * (60 : Int32) + nI k = nI (60 * t + k) := by rw [show (60 : Int32) = nI 60 from rfl, pk_mul, nI_add, Nat.mul_comm]
                have ok : kr_okc (nI (60 * s + i)) (nI (60 * t + k)) (nI N) 240 240 := by
                  refine ⟨nI_pos (by omega), nI_pos (by omega), nI_pos (by omega), ?_, ?_⟩
                  · rw [nI_clamp (by omega), nI_clamp (by omega)]; omega
                  · rw [nI_clamp (by omega), nI_clamp (by omega)]; omega
                have hA : f_X11_paste (nI s) (nI i) (nI t) (nI k) (nI N) M = some (0, kr_cl M 310 310 (60 * s + i) (60 * t + k) N) := by
                  unfold f_X11_paste
                  simp only [kc_slot, if_pos c1, if_pos c3, kr_bi, kr_let, Option.bind_some, if_neg b1, not_false_eq_true, if_true, if_false, b1, if_pos i4, if_pos j4, ks, kt, if_neg d1, if_pos d2, if_pos cw', st1, st2, es, et, if_pos ok, nI_clamp (show 60 * s + i < 2 ^ 31 by omega), nI_clamp (show 60 * t + k < 2 ^ 31 by omega), nI_clamp (show N < 2 ^ 31 by omega)]
                generalize hM1 : kr_cl M 310 310 (60 * s + i) (60 * t + k) N = M1 at hA
                have r1 : M1.1 = M.1 := by rw [← hM1]; rfl
                have r2 : ∀ j, M1.2.1 310 j = va_cpy (M.2.1 310) (M.2.1 310) (60 * s + i) (60 * t + k) N j := fun j => by rw [← hM1]; simp [kr_cl]
                have r3 : M1.2.1 349 = M.2.1 349 := by rw [← hM1]; simp [kr_cl]
                have r4 : M1.2.2 = M.2.2 := by rw [← hM1]; rfl
                have v7 : ∀ a, (kr_si M1 346 0 0).1 347 a = M.1 347 a := fun a => by rw [kr_si_ne _ _ _ (by decide), r1]
                have v8 : ∀ a, (kr_si M1 346 0 0).1 348 a = M.1 348 a := fun a => by rw [kr_si_ne _ _ _ (by decide), r1]
                obtain ⟨M3, p1', p2', -, p4', p5', p6'⟩ := paste_118 s i t k N hs ht (by omega) (by omega) kr_F 0 (kr_si M1 346 0 0) (Nat.zero_le _) (kr_F_gt _ (by omega))
                obtain ⟨M4, q1', q2', q3', q4', q5'⟩ := paste_155 t k N ht (by omega) kr_F 0 M3 (Nat.zero_le _) (kr_F_gt _ (by omega))
                have hBv : f_X12_paste (nI s) (nI i) (nI t) (nI k) (nI N) M1 = some (0, M4) := by
                  unfold f_X12_paste
                  have n1 : ¬ nI i < 0 := nI_pos (by omega)
                  have n2 : ¬ nI k < 0 := nI_pos (by omega)
                  have n3 : ¬ nI N < 0 := nI_pos (by omega)
                  have g1 : ¬ 0 < lg_cmp ((nI i).toInt64 + (nI N).toInt64) (M.1 348 s).toInt64 := by
                    rw [lg_gt, kz_ladd, kz_l, ← a3, kz_nI (by omega), kz_nI (by omega)]; omega
                  have g2 : lg_cmp ((nI k).toInt64 + (nI N).toInt64) (M.1 348 t).toInt64 ≤ 0 := by
                    rw [lg_le, kz_ladd, kz_l, ← b3, kz_nI (by omega), kz_nI (by omega)]; omega
                  simp only [km_slot, if_pos c1, if_pos c3, kr_bi, kr_let, Option.bind_some, if_neg b1, not_false_eq_true, if_true, if_false, b1, if_pos i4, if_pos j4, ks, kt, v7, v8, if_neg m1, m2, if_pos cw, if_neg n1, if_neg n2, if_neg n3, if_neg g1, if_pos g2]
                  rw [show (0 : Int32) = nI 0 from rfl] at p1' q1' ⊢
                  first | (rw [p1']; exact q1') | exact p1'.trans q1'
                refine ⟨0, M1, M4, hA, hBv, Sim_C h (fun a ha => ?_) ⟨?_, ?_, ?_⟩ ?_ (fun u hu => ?_)⟩
                · rw [q4', p5', kr_si_ne _ _ _ (by omega), r1]
                · rw [q4', p5', kr_si_nk _ _ _ (by decide), r1]
                · rw [q4', p5', kr_si_nk _ _ _ (by decide), r1]
                · rw [q4', p5', kr_si_nk _ _ _ (by decide), r1]
                · rw [q5', p6', kr_si_2, r4]
                · have y : ∀ a, a ≠ 346 → M4.1 a = M.1 a := fun a ha => by rw [q4', p5', kr_si_ne _ _ _ ha, r1]
                  have hc := h.2.2.1 u hu
                  unfold sC1 at hc ⊢
                  rw [y 312 (by decide), y 347 (by decide), y 348 (by decide), y 311 (by decide)]
                  rcases hc with hc | ⟨x1, x2, x3, x4, x5, x6, x7⟩
                  · exact Or.inl hc
                  · refine Or.inr ⟨x1, x2, x3, x4, x5, x6, fun j hj => ?_⟩
                    have hj60 : j < 60 := by unfold zn at hj; omega
                    have z1 : M4.2.1 310 = M1.2.1 310 := by rw [q3' 310 (by decide), p4' 310 (by decide)]; rfl
                    rw [z1, r2, q2']
                    by_cases hc2 : 60 * t + k ≤ 60 * u + j ∧ 60 * u + j < 60 * t + k + N
                    · rw [pk_cpy_in hc2.1 hc2.2, if_pos (by omega), p2' _ (by omega) (by omega)]
                      have z2 : (kr_si M1 346 0 0).2.1 349 = M.2.1 349 := r3
                      rw [z2]
                      have hh := a7 (i + (60 * u + j - (60 * t + k))) (by unfold zn; omega)
                      have e1 : 60 * s + (i + (60 * u + j - (60 * t + k))) = 60 * s + i + (60 * u + j - (60 * t + k)) := by omega
                      rw [e1] at hh
                      exact hh
                    · rw [pk_cpy_out (by omega), if_neg (by omega), p4' 349 (by decide)]
                      have z2 : (kr_si M1 346 0 0).2.1 349 = M.2.1 349 := r3
                      rw [z2]
                      exact x7 j hj
              · rw [if_pos k1] at st1
                rw [if_neg k2] at st2
                refine hq (-7) ?_ ?_
                · unfold f_X11_paste
                  simp only [kc_slot, if_pos c1, if_pos c3, kr_bi, kr_let, Option.bind_some, if_neg b1, not_false_eq_true, if_true, if_false, b1, if_pos i4, if_pos j4, ks, kt, if_neg d1, if_pos d2, if_pos cw', st1, st2]
                  rfl
                · unfold f_X12_paste
                  have n1 : ¬ p2 < 0 := fun q => by have := kz_lt.mp q; omega
                  have n3 : ¬ p5 < 0 := fun q => by have := kz_lt.mp q; omega
                  have g1 : ¬ 0 < lg_cmp (p2.toInt64 + p5.toInt64) (M.1 348 s).toInt64 := by
                    rw [lg_gt, kz_ladd, kz_l, ← a3]; omega
                  by_cases n2 : p4 < 0
                  · simp only [km_slot, if_pos c1, if_pos c3, kr_bi, kr_let, Option.bind_some, if_neg b1, not_false_eq_true, if_true, if_false, b1, if_pos i4, if_pos j4, ks, kt, n7, n8, if_neg m1, m2, if_pos cw, if_neg n1, if_pos n2]
                  · have n2' : ¬ p4.toInt < (0 : Int32).toInt := fun q => n2 (kz_lt.mpr q)
                    have g2 : ¬ lg_cmp (p4.toInt64 + p5.toInt64) (M.1 348 t).toInt64 ≤ 0 := by
                      rw [lg_le, kz_ladd, kz_l, ← b3]; omega
                    simp only [km_slot, if_pos c1, if_pos c3, kr_bi, kr_let, Option.bind_some, if_neg b1, not_false_eq_true, if_true, if_false, b1, if_pos i4, if_pos j4, ks, kt, n7, n8, if_neg m1, m2, if_pos cw, if_neg n1, if_neg n2, if_neg n3, if_neg g1, if_neg g2]
            · rw [if_neg k1] at st1
              refine hq (-7) ?_ ?_
              · unfold f_X11_paste
                simp only [kc_slot, if_pos c1, if_pos c3, kr_bi, kr_let, Option.bind_some, if_neg b1, not_false_eq_true, if_true, if_false, b1, if_pos i4, if_pos j4, ks, kt, if_neg d1, if_pos d2, if_pos cw', st1]
              · unfold f_X12_paste
                by_cases n1 : p2 < 0
                · simp only [km_slot, if_pos c1, if_pos c3, kr_bi, kr_let, Option.bind_some, if_neg b1, not_false_eq_true, if_true, if_false, b1, if_pos i4, if_pos j4, ks, kt, n7, n8, if_neg m1, m2, if_pos cw, if_pos n1]
                · by_cases n2 : p4 < 0
                  · simp only [km_slot, if_pos c1, if_pos c3, kr_bi, kr_let, Option.bind_some, if_neg b1, not_false_eq_true, if_true, if_false, b1, if_pos i4, if_pos j4, ks, kt, n7, n8, if_neg m1, m2, if_pos cw, if_neg n1, if_pos n2]
                  · by_cases n3 : p5 < 0
                    · simp only [km_slot, if_pos c1, if_pos c3, kr_bi, kr_let, Option.bind_some, if_neg b1, not_false_eq_true, if_true, if_false, b1, if_pos i4, if_pos j4, ks, kt, n7, n8, if_neg m1, m2, if_pos cw, if_neg n1, if_neg n2, if_pos n3]
                    · have n1' : ¬ p2.toInt < (0 : Int32).toInt := fun q => n1 (kz_lt.mpr q)
                      have n3' : ¬ p5.toInt < (0 : Int32).toInt := fun q => n3 (kz_lt.mpr q)
                      have g1 : 0 < lg_cmp (p2.toInt64 + p5.toInt64) (M.1 348 s).toInt64 := by
                        rw [lg_gt, kz_ladd, kz_l, ← a3]; omega
                      simp only [km_slot, if_pos c1, if_pos c3, kr_bi, kr_let, Option.bind_some, if_neg b1, not_false_eq_true, if_true, if_false, b1, if_pos i4, if_pos j4, ks, kt, n7, n8, if_neg m1, m2, if_pos cw, if_neg n1, if_neg n2, if_neg n3, if_pos g1]
          · have cw' : ¬ M.1 311 s = M.1 311 t := by rw [a4, b4]; exact cw
            refine hq (-8) ?_ ?_
            · unfold f_X11_paste
              simp only [kc_slot, if_pos c1, if_pos c3, kr_bi, kr_let, Option.bind_some, if_neg b1, not_false_eq_true, if_true, if_false, b1, if_pos i4, if_pos j4, ks, kt, if_neg d1, if_pos d2, if_neg cw']
            · unfold f_X12_paste
              simp only [km_slot, if_pos c1, if_pos c3, kr_bi, kr_let, Option.bind_some, if_neg b1, not_false_eq_true, if_true, if_false, b1, if_pos i4, if_pos j4, ks, kt, n7, n8, if_neg m1, m2, if_neg cw]
    · refine hq (-2) ?_ ?_
      · unfold f_X11_paste
        simp only [kc_slot, if_pos c1, if_neg c3, kr_bi, kr_let, Option.bind_some, if_neg b1]
        rfl
      · unfold f_X12_paste
        simp only [km_slot, if_pos c1, if_neg c3, kr_bi, kr_let, Option.bind_some, if_neg b1]
        rfl
  · refine hq (-2) ?_ ?_
    · unfold f_X11_paste
      simp only [kc_slot, if_neg c1, kr_bi, kr_let, Option.bind_some]
      rfl
    · unfold f_X12_paste
      simp only [km_slot, if_neg c1, kr_bi, kr_let, Option.bind_some]
      rfl
