theorem Sim_C {M M2 : kr_M} (h : Sim M) (r1 : ∀ a, (a < 310 ∨ (348 < a ∧ a < 364)) → M2.1 a = M.1 a) (r2 : M2.1 346 6 = M.1 346 6 ∧ M2.1 346 14 = M.1 346 14 ∧ M2.1 346 15 = M.1 346 15) (q1 : M2.2.2 = M.2.2) (hC : sC M2) : Sim M2 := by
  have hs' : kg_same M M2 := ⟨fun a h1 h2 => r1 a (by omega), fun a h1 h2 => r1 a (by omega), by rw [q1]⟩
  refine ⟨by unfold sA; rw [q1]; exact h.1, ?_, hC, sD_same hs' h.2.2.2.1, sE_same hs' h.1 h.2.2.2.2⟩
  unfold sB
  rw [r1 1 (by decide), r1 2 (by decide), r1 351 (by decide), r2.1, r2.2.1, r2.2.2]
  exact h.2.1
def kcut (w : Int32) (v : Int64) : Int64 := if w = 0 then (v.toInt32.toInt8.toInt32).toInt64 else if w = 1 then (v.toInt32.toInt16.toInt32).toInt64 else if w = 2 then v.toInt32.toInt64 else v
theorem cut_c (w : Int32) (v : Int64) (M : kr_M) : f_X11_cutTo w v M = some (kcut w v, M) := by
  unfold f_X11_cutTo kcut
  by_cases h0 : w = 0
  · simp [h0]
  · by_cases h1 : w = 1
    · simp [h1]
    · by_cases h2 : w = 2
      · simp [h2]
      · simp [h0, h1, h2]
theorem cut_m (w : Int32) (v : Int64) (M : kr_M) : f_X12_cut v w M = some (kcut w v, M) := by
  unfold f_X12_cut kcut
  by_cases h0 : w = 0
  · simp [h0]
  · by_cases h1 : w = 1
    · simp [h1]
    · by_cases h2 : w = 2
      · simp [h2]
      · simp [h0, h1, h2]
theorem kr_sl_at (M : kr_M) (a k : Nat) (x : Int64) (b j : Nat) : (kr_sl M a k x).2.1 b j = if b = a ∧ j = k then x else M.2.1 b j := by
  unfold kr_sl
  by_cases h : b = a
  · subst h
    by_cases h2 : j = k
    · simp [vp_updL, h2]
    · simp [vp_updL, h2]
  · simp [h]
theorem op_57 (p1 p2 : Int32) (p3 : Int64) (M : kr_M) (h : Sim M) : ∃ (r : Int32) (M1 M2 : kr_M), f_X11_write p1 p2 p3 M = some (r, M1) ∧ f_X12_write p1 p2 p3 M1 = some (r, M2) ∧ Sim M2 := by
  have hq : ∀ r : Int32, f_X11_write p1 p2 p3 M = some (r, M) → f_X12_write p1 p2 p3 M = some (r, kr_si M 346 0 0) → ∃ (r : Int32) (M1 M2 : kr_M), f_X11_write p1 p2 p3 M = some (r, M1) ∧ f_X12_write p1 p2 p3 M1 = some (r, M2) ∧ Sim M2 := fun r h1 h2 => ⟨r, M, _, h1, h2, (Fr.thrown M 0).sim h⟩
  have e0 : (0 : Int32).toInt = 0 := rfl
  have e64 : (0 : Int32).toInt64 = 0 := rfl
  by_cases c1 : 0 ≤ p1 ∧ p1 ≤ 3
  · obtain ⟨s, hs, rfl⟩ := kz_slot c1
    have i4 : kr_in (nI s) 4 := kr_inI hs (by decide)
    have ks : (nI s).toNatClampNeg = s := nI_clamp (by omega)
    rcases h.2.2.1 s hs with ⟨a1, a2⟩ | ⟨a1, a2, a3, a4, a5, a6, a7⟩
    · refine hq (-6) ?_ ?_
      · unfold f_X11_write
        rw [kc_slot, if_pos c1]
        simp only [kr_bi, kr_let, Option.bind_some, if_pos i4, ks, a1]
        rfl
      · unfold f_X12_write
        simp only [kr_let]
        rw [km_slot, if_pos c1]
        have e : (kr_si M 346 0 0).1 347 s = -1 := by rw [kr_si_ne _ _ _ (by decide), a2]
        simp only [kr_bi, kr_let, Option.bind_some, if_pos i4, ks, e]
        rfl
    · have d0 : (0 : Int32) ≤ M.1 312 s := kz_le.mpr (by omega)
      have dn : ¬ M.1 347 s = -1 := fun q => by rw [q] at a5; exact absurd a5 (by decide)
      by_cases c2 : 0 ≤ p2 ∧ p2 < M.1 312 s
      · have g1 := kz_le.mp c2.1
        have g2 := kz_lt.mp c2.2
        obtain ⟨i, hi, hi60, rfl⟩ : ∃ i : Nat, (i : Int) < (M.1 312 s).toInt ∧ i < 60 ∧ p2 = nI i := ⟨p2.toInt.toNat, by omega, by omega, kz_of (by omega)⟩
        have n0 : ¬ nI i < 0 := nI_pos (by omega)
        have ec : nI s * (60 : Int32) + nI i = nI (60 * s + i) := by rw [show (60 : Int32) = nI 60 from rfl, pk_mul, nI_add, Nat.mul_comm]
        have em : (60 : Int32) * nI s + nI i = nI (60 * s + i) := by rw [show (60 : Int32) = nI 60 from rfl, pk_mul, nI_add]
        have ii : kr_in (nI (60 * s + i)) 240 := kr_inI (by omega) (by decide)
        have ki : (nI (60 * s + i)).toNatClampNeg = 60 * s + i := nI_clamp (by omega)
        obtain ⟨v, hv⟩ : ∃ v, v = kcut (M.1 311 s) p3 := ⟨_, rfl⟩
        have hv2 : kcut (M.1 347 s) p3 = v := by rw [hv, a4]
        have hA : f_X11_write (nI s) (nI i) p3 M = some (0, kr_sl M 310 (60 * s + i) v) := by
          unfold f_X11_write
          rw [kc_slot, if_pos c1]
          simp only [kr_bi, kr_bl, kr_let, Option.bind_some, if_pos i4, ks, if_pos d0, if_neg n0, if_pos c2.2, cut_c, ec, if_pos ii, ki, hv]
          rfl
        have hBv : f_X12_write (nI s) (nI i) p3 (kr_sl M 310 (60 * s + i) v) = some (0, kr_sl (kr_si (kr_sl M 310 (60 * s + i) v) 346 0 0) 349 (60 * s + i) v) := by
          unfold f_X12_write
          simp only [kr_let]
          rw [km_slot, if_pos c1]
          have x1 : (kr_si (kr_sl M 310 (60 * s + i) v) 346 0 0).1 347 s = M.1 347 s := by rw [kr_si_ne _ _ _ (by decide)]; rfl
          have x2 : (kr_si (kr_sl M 310 (60 * s + i) v) 346 0 0).1 348 s = M.1 312 s := by rw [kr_si_ne _ _ _ (by decide), a3]; rfl
          have x3 := km_in3 (nI i) 0 (M.1 312 s - 1) (kr_si (kr_sl M 310 (60 * s + i) v) 346 0 0)
          have hsub : (M.1 312 s - 1).toInt = (M.1 312 s).toInt - 1 := by
            have e1 : (1 : Int32).toInt = 1 := rfl
            rw [kz_sub (by rw [e1]; omega) (by rw [e1]; omega), e1]
          have x4 : (0 : Int32) ≤ nI i ∧ nI i ≤ M.1 312 s - 1 := ⟨c2.1, kz_le.mpr (by rw [hsub]; omega)⟩
          rw [if_pos x4, e64] at x3
          simp only [kr_bi, kr_bl, kr_let, Option.bind_some, if_pos i4, ks, x1, x2, x3, cut_m, em, if_pos ii, ki, hv2]
          rw [if_pos (by decide), if_pos dn, if_pos (by decide)]
        refine ⟨0, _, _, hA, hBv, Sim_C h (fun a ha => ?_) ⟨?_, ?_, ?_⟩ rfl (fun t ht => ?_)⟩
        · show (kr_si (kr_sl M 310 (60 * s + i) v) 346 0 0).1 a = _
          rw [kr_si_ne _ _ _ (by omega)]
          rfl
        · show (kr_si (kr_sl M 310 (60 * s + i) v) 346 0 0).1 346 6 = _
          rw [kr_si_nk _ _ _ (by decide)]; rfl
        · show (kr_si (kr_sl M 310 (60 * s + i) v) 346 0 0).1 346 14 = _
          rw [kr_si_nk _ _ _ (by decide)]; rfl
        · show (kr_si (kr_sl M 310 (60 * s + i) v) 346 0 0).1 346 15 = _
          rw [kr_si_nk _ _ _ (by decide)]; rfl
        · have y : ∀ a, a ≠ 346 → (kr_sl (kr_si (kr_sl M 310 (60 * s + i) v) 346 0 0) 349 (60 * s + i) v).1 a = M.1 a := fun a ha => by
            show (kr_si (kr_sl M 310 (60 * s + i) v) 346 0 0).1 a = _
            rw [kr_si_ne _ _ _ ha]
            rfl
          have hc := h.2.2.1 t ht
          unfold sC1 at hc ⊢
          rw [y 312 (by decide), y 347 (by decide), y 348 (by decide), y 311 (by decide)]
          rcases hc with hc | ⟨b1, b2, b3, b4, b5, b6, b7⟩
          · exact Or.inl hc
          · refine Or.inr ⟨b1, b2, b3, b4, b5, b6, fun k hk => ?_⟩
            have z1 : (kr_si (kr_sl M 310 (60 * s + i) v) 346 0 0).2.1 = (kr_sl M 310 (60 * s + i) v).2.1 := rfl
            rw [kr_sl_at, kr_sl_at, z1, kr_sl_at, kr_sl_at]
            by_cases hk2 : 60 * t + k = 60 * s + i
            · simp [hk2]
            · simp [hk2, b7 k hk]
      · refine hq (-7) ?_ ?_
        · unfold f_X11_write
          rw [kc_slot, if_pos c1]
          by_cases d1 : p2 < 0
          · simp only [kr_bi, kr_let, Option.bind_some, if_pos i4, ks, if_pos d0, if_pos d1]
            rfl
          · have d2 : ¬ p2 < M.1 312 s := fun q => c2 ⟨Int32.not_lt.mp d1, q⟩
            simp only [kr_bi, kr_let, Option.bind_some, if_pos i4, ks, if_pos d0, if_neg d1, if_neg d2]
            rfl
        · unfold f_X12_write
          simp only [kr_let]
          rw [km_slot, if_pos c1]
          have x1 : (kr_si M 346 0 0).1 347 s = M.1 347 s := by rw [kr_si_ne _ _ _ (by decide)]
          have x2 : (kr_si M 346 0 0).1 348 s = M.1 312 s := by rw [kr_si_ne _ _ _ (by decide), a3]
          have x3 := km_in3 p2 0 (M.1 312 s - 1) (kr_si M 346 0 0)
          have hsub : (M.1 312 s - 1).toInt = (M.1 312 s).toInt - 1 := by
            have e1 : (1 : Int32).toInt = 1 := rfl
            rw [kz_sub (by rw [e1]; omega) (by rw [e1]; omega), e1]
          have x4 : ¬ ((0 : Int32) ≤ p2 ∧ p2 ≤ M.1 312 s - 1) := fun q => c2 ⟨q.1, kz_lt.mpr (by have := kz_le.mp q.2; rw [hsub] at this; omega)⟩
          rw [if_neg x4, e64] at x3
          simp only [kr_bi, kr_let, Option.bind_some, if_pos i4, ks, x1, x2, x3, if_pos dn]
          rfl
  · refine hq (-2) ?_ ?_
    · unfold f_X11_write
      rw [kc_slot, if_neg c1]
      rfl
    · unfold f_X12_write
      simp only [kr_let]
      rw [km_slot, if_neg c1]
      rfl
