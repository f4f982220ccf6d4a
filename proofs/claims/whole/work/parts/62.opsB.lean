/-! rows of slots -/
theorem kr_inI {n N : Nat} (h : n < N) (hN : N < 2 ^ 31) : kr_in (nI n) N := vp_in_nI h hN
def zl (M : kr_M) (a lo hi : Nat) : kr_M := (M.1, fun b => if b = a then (fun k => if lo ≤ k ∧ k < hi then 0 else M.2.1 a k) else M.2.1 b, M.2.2)
theorem zl_nil (M : kr_M) (a lo : Nat) : zl M a lo lo = M := by
  obtain ⟨m1, m2, m3⟩ := M
  unfold zl
  congr 2
  funext b
  by_cases h : b = a
  · subst h
    rw [if_pos rfl]
    funext k
    rw [if_neg (by omega)]
  · rw [if_neg h]
theorem zl_step (M : kr_M) (a lo hi : Nat) (h : lo < hi) : zl (kr_sl M a lo 0) a (lo + 1) hi = zl M a lo hi := by
  unfold zl kr_sl
  congr 2
  funext b
  by_cases hb : b = a
  · subst hb
    simp only [if_true]
    funext k
    by_cases h1 : k = lo
    · subst h1
      rw [if_neg (by omega), if_pos (by omega)]
      simp [vp_updL]
    · by_cases h2 : lo + 1 ≤ k ∧ k < hi
      · rw [if_pos h2, if_pos (by omega)]
      · rw [if_neg h2, if_neg (by omega)]
        simp [vp_updL, h1]
  · simp [hb]
theorem row_c (s N : Nat) (hs : s < 4) (hN : N ≤ 60) : ∀ n i M, i ≤ N → N - i < n → f_X11_row_49 (nI s) (nI N) n (nI i) M = some (0, zl M 310 (60 * s + i) (60 * s + N)) := by
  intro n
  induction n with
  | zero => intro i M h1 h2; omega
  | succ n ih =>
    intro i M h1 h2
    rw [f_X11_row_49]
    by_cases c : i = N
    · subst c
      rw [if_pos (nI_le (Nat.le_refl _) (by omega)), zl_nil]
    · rw [if_neg (nI_ge (by omega) (by omega))]
      have e : nI s * (60 : Int32) + nI i = nI (60 * s + i) := by
        rw [show (60 : Int32) = nI 60 from rfl, pk_mul, nI_add, Nat.mul_comm]
      simp only [e, kr_let, if_pos (kr_inI (show 60 * s + i < 240 by omega) (by decide)), nI_clamp (show 60 * s + i < 2 ^ 31 by omega)]
      rw [show nI i + (1 : Int32) = nI (i + 1) from nI_1 i, ih (i + 1) _ (by omega) (by omega), ← zl_step M 310 (60 * s + i) (60 * s + N) (by omega)]
      rfl
theorem row_m (s N : Nat) (hs : s < 4) (hN : N ≤ 60) : ∀ n i M, i ≤ N → N - i < n → f_X12_row_57 (nI s) (nI N) n (nI i) M = some (0, zl M 349 (60 * s + i) (60 * s + N)) := by
  intro n
  induction n with
  | zero => intro i M h1 h2; omega
  | succ n ih =>
    intro i M h1 h2
    rw [f_X12_row_57]
    by_cases c : i = N
    · subst c
      rw [if_pos (nI_le (Nat.le_refl _) (by omega)), zl_nil]
    · rw [if_neg (nI_ge (by omega) (by omega))]
      have e : (60 : Int32) * nI s + nI i = nI (60 * s + i) := by
        rw [show (60 : Int32) = nI 60 from rfl, pk_mul, nI_add]
      simp only [e, kr_let, if_pos (kr_inI (show 60 * s + i < 240 by omega) (by decide)), nI_clamp (show 60 * s + i < 2 ^ 31 by omega)]
      rw [show nI i + (1 : Int32) = nI (i + 1) from nI_1 i, ih (i + 1) _ (by omega) (by omega), ← zl_step M 349 (60 * s + i) (60 * s + N) (by omega)]
      rfl
theorem kz_slot {p : Int32} (h : 0 ≤ p ∧ p ≤ 3) : ∃ s : Nat, s < 4 ∧ p = nI s := by
  have h0 := kz_le.mp h.1
  have h3 := kz_le.mp h.2
  have e0 : (0 : Int32).toInt = 0 := rfl
  have e3 : (3 : Int32).toInt = 3 := rfl
  exact ⟨p.toInt.toNat, by omega, kz_of (by omega)⟩
theorem kr_F_gt : ∀ n, n ≤ 10000 → n < kr_F := by intro n h; unfold kr_F; omega
theorem op_56 (p1 p2 p3 : Int32) (M : kr_M) (h : Sim M) : ∃ (r : Int32) (M1 M2 : kr_M), f_X11_row p1 p2 p3 M = some (r, M1) ∧ f_X12_row p1 p2 p3 M1 = some (r, M2) ∧ Sim M2 := by
  have hq : ∀ r : Int32, f_X11_row p1 p2 p3 M = some (r, M) → f_X12_row p1 p2 p3 M = some (r, kr_si M 346 0 0) → ∃ (r : Int32) (M1 M2 : kr_M), f_X11_row p1 p2 p3 M = some (r, M1) ∧ f_X12_row p1 p2 p3 M1 = some (r, M2) ∧ Sim M2 := fun r h1 h2 => ⟨r, M, _, h1, h2, (Fr.thrown M 0).sim h⟩
  have e0 : (0 : Int32).toInt = 0 := rfl
  have e3 : (3 : Int32).toInt = 3 := rfl
  have e4 : (4 : Int32).toInt = 4 := rfl
  have e60 : (60 : Int32).toInt = 60 := rfl
  have hin := km_in3 p2 0 3 (kr_si M 346 0 0)
  have e64 : (0 : Int32).toInt64 = 0 := rfl
  have e643 : (3 : Int32).toInt64 = 3 := rfl
  rw [e64, e643] at hin
  by_cases c1 : 0 ≤ p1 ∧ p1 ≤ 3
  · by_cases c2 : 0 ≤ p2 ∧ p2 ≤ 3
    · have d1 : ¬ p2 < 0 := Int32.not_lt.mpr c2.1
      have d2 : ¬ (4 : Int32) ≤ p2 := by
        have := kz_le.mp c2.2
        intro q
        have := kz_le.mp q
        omega
      rw [if_pos c2] at hin
      by_cases c3 : p3 ≤ 60
      · by_cases c4 : 0 ≤ p3
        · obtain ⟨s, hs, rfl⟩ := kz_slot c1
          have g3 := kz_le.mp c3
          have g4 := kz_le.mp c4
          obtain ⟨N, hN, rfl⟩ : ∃ N : Nat, N ≤ 60 ∧ p3 = nI N := ⟨p3.toInt.toNat, by omega, kz_of (by omega)⟩
          have i4 : kr_in (nI s) 4 := kr_inI hs (by decide)
          have ks : (nI s).toNatClampNeg = s := nI_clamp (by omega)
          have hA : f_X11_row (nI s) p2 (nI N) M = some (0, zl (kr_si (kr_si M 311 s p2) 312 s (nI N)) 310 (60 * s) (60 * s + N)) := by
            unfold f_X11_row
            rw [kc_slot, if_pos c1]
            simp only [kr_bi, Option.bind_some]
            rw [if_neg (by decide), if_neg d1, if_neg d2, if_pos c3, if_pos c4]
            simp only [kr_let, if_pos i4, ks]
            exact row_c s N hs hN kr_F 0 _ (Nat.zero_le _) (kr_F_gt _ (by omega))
          have hBv : f_X12_row (nI s) p2 (nI N) (zl (kr_si (kr_si M 311 s p2) 312 s (nI N)) 310 (60 * s) (60 * s + N)) = some (0, zl (kr_si (kr_si (kr_si (zl (kr_si (kr_si M 311 s p2) 312 s (nI N)) 310 (60 * s) (60 * s + N)) 346 0 0) 347 s p2) 348 s (nI N)) 349 (60 * s) (60 * s + N)) := by
            generalize zl (kr_si (kr_si M 311 s p2) 312 s (nI N)) 310 (60 * s) (60 * s + N) = M'
            have hin' := km_in3 p2 0 3 (kr_si M' 346 0 0)
            rw [e64, e643, if_pos c2] at hin'
            unfold f_X12_row
            simp only [kr_let]
            rw [km_slot, if_pos c1]
            simp only [kr_bi, Option.bind_some]
            rw [if_neg (by decide), hin']
            simp only [Option.bind_some]
            rw [if_neg (by decide), if_pos c3, if_pos c4]
            simp only [if_pos i4, ks]
            exact row_m s N hs hN kr_F 0 _ (Nat.zero_le _) (kr_F_gt _ (by omega))
          refine ⟨0, _, _, hA, hBv, ?_⟩
          -- the tie holds again
          generalize hM2 : zl (kr_si (kr_si (kr_si (zl (kr_si (kr_si M 311 s p2) 312 s (nI N)) 310 (60 * s) (60 * s + N)) 346 0 0) 347 s p2) 348 s (nI N)) 349 (60 * s) (60 * s + N) = M2
          have r1 : ∀ a, a ≠ 311 → a ≠ 312 → a ≠ 346 → a ≠ 347 → a ≠ 348 → M2.1 a = M.1 a := fun a h1 h2 h3 h4 h5 => by
            rw [← hM2]
            show (kr_si (kr_si (kr_si (zl (kr_si (kr_si M 311 s p2) 312 s (nI N)) 310 (60 * s) (60 * s + N)) 346 0 0) 347 s p2) 348 s (nI N)).1 a = _
            rw [kr_si_ne _ _ _ h5, kr_si_ne _ _ _ h4, kr_si_ne _ _ _ h3]
            show (kr_si (kr_si M 311 s p2) 312 s (nI N)).1 a = _
            rw [kr_si_ne _ _ _ h2, kr_si_ne _ _ _ h1]
          have r2 : ∀ j, j ≠ 0 → M2.1 346 j = M.1 346 j := fun j hj => by
            rw [← hM2]
            show (kr_si (kr_si (kr_si (zl (kr_si (kr_si M 311 s p2) 312 s (nI N)) 310 (60 * s) (60 * s + N)) 346 0 0) 347 s p2) 348 s (nI N)).1 346 j = _
            rw [kr_si_ne _ _ _ (by decide), kr_si_ne _ _ _ (by decide), kr_si_nk _ _ _ hj]
            show (kr_si (kr_si M 311 s p2) 312 s (nI N)).1 346 j = _
            rw [kr_si_ne _ _ _ (by decide), kr_si_ne _ _ _ (by decide)]
          have r3 : M2.1 311 = upd (M.1 311) s p2 := by
            rw [← hM2]
            show (kr_si (kr_si (kr_si (zl (kr_si (kr_si M 311 s p2) 312 s (nI N)) 310 (60 * s) (60 * s + N)) 346 0 0) 347 s p2) 348 s (nI N)).1 311 = _
            rw [kr_si_ne _ _ _ (by decide), kr_si_ne _ _ _ (by decide), kr_si_ne _ _ _ (by decide)]
            show (kr_si (kr_si M 311 s p2) 312 s (nI N)).1 311 = _
            rw [kr_si_ne _ _ _ (by decide)]
            simp [kr_si]
          have r4 : M2.1 312 = upd (M.1 312) s (nI N) := by
            rw [← hM2]
            show (kr_si (kr_si (kr_si (zl (kr_si (kr_si M 311 s p2) 312 s (nI N)) 310 (60 * s) (60 * s + N)) 346 0 0) 347 s p2) 348 s (nI N)).1 312 = _
            rw [kr_si_ne _ _ _ (by decide), kr_si_ne _ _ _ (by decide), kr_si_ne _ _ _ (by decide)]
            show (kr_si (kr_si M 311 s p2) 312 s (nI N)).1 312 = _
            simp [kr_si]
          have r5 : M2.1 347 = upd (M.1 347) s p2 := by
            rw [← hM2]
            show (kr_si (kr_si (kr_si (zl (kr_si (kr_si M 311 s p2) 312 s (nI N)) 310 (60 * s) (60 * s + N)) 346 0 0) 347 s p2) 348 s (nI N)).1 347 = _
            rw [kr_si_ne _ _ _ (by decide)]
            simp [kr_si, zl]
          have r6 : M2.1 348 = upd (M.1 348) s (nI N) := by
            rw [← hM2]
            show (kr_si (kr_si (kr_si (zl (kr_si (kr_si M 311 s p2) 312 s (nI N)) 310 (60 * s) (60 * s + N)) 346 0 0) 347 s p2) 348 s (nI N)).1 348 = _
            simp [kr_si, zl]
          have l1 : ∀ k, M2.2.1 310 k = if 60 * s ≤ k ∧ k < 60 * s + N then 0 else M.2.1 310 k := fun k => by
            rw [← hM2]
            simp [zl, kr_si]
          have l2 : ∀ k, M2.2.1 349 k = if 60 * s ≤ k ∧ k < 60 * s + N then 0 else M.2.1 349 k := fun k => by
            rw [← hM2]
            simp [zl, kr_si]
          have q1 : M2.2.2 = M.2.2 := by rw [← hM2]; rfl
          have hs' : kg_same M M2 := ⟨fun a h1 h2 => r1 a (by omega) (by omega) (by omega) (by omega) (by omega), fun a h1 h2 => r1 a (by omega) (by omega) (by omega) (by omega) (by omega), by rw [q1]⟩
          refine ⟨by unfold sA; rw [q1]; exact h.1, ?_, fun t ht => ?_, sD_same hs' h.2.2.2.1, sE_same hs' h.1 h.2.2.2.2⟩
          · unfold sB
            rw [r1 1 (by decide) (by decide) (by decide) (by decide) (by decide), r1 2 (by decide) (by decide) (by decide) (by decide) (by decide), r1 351 (by decide) (by decide) (by decide) (by decide) (by decide), r2 6 (by decide), r2 14 (by decide), r2 15 (by decide)]
            exact h.2.1
          · by_cases hts : t = s
            · subst hts
              refine Or.inr ?_
              have x1 : M2.1 312 t = nI N := by rw [r4]; simp [upd]
              have x2 : M2.1 348 t = nI N := by rw [r6]; simp [upd]
              have x3 : M2.1 311 t = p2 := by rw [r3]; simp [upd]
              have x4 : M2.1 347 t = p2 := by rw [r5]; simp [upd]
              have y := kz_le.mp c2.1
              have y2 := kz_le.mp c2.2
              rw [x1, x2, x3, x4, kz_nI (by omega)]
              refine ⟨by omega, by omega, rfl, rfl, by omega, by omega, fun i hi => ?_⟩
              have hi : i < N := by unfold zn at hi; rw [kz_nI (by omega)] at hi; omega
              rw [l1, l2, if_pos (by omega), if_pos (by omega)]
            · have x1 : M2.1 312 t = M.1 312 t := by rw [r4]; simp [upd, hts]
              have x2 : M2.1 348 t = M.1 348 t := by rw [r6]; simp [upd, hts]
              have x3 : M2.1 311 t = M.1 311 t := by rw [r3]; simp [upd, hts]
              have x4 : M2.1 347 t = M.1 347 t := by rw [r5]; simp [upd, hts]
              have hc := h.2.2.1 t ht
              unfold sC1 at hc ⊢
              rw [x1, x2, x3, x4]
              rcases hc with hc | ⟨a1, a2, a3, a4, a5, a6, a7⟩
              · exact Or.inl hc
              · refine Or.inr ⟨a1, a2, a3, a4, a5, a6, fun i hi => ?_⟩
                have hi60 : i < 60 := by unfold zn at hi; omega
                rw [l1, l2, if_neg (by omega), if_neg (by omega)]
                exact a7 i hi
        · refine hq (-3) ?_ ?_
          · unfold f_X11_row
            rw [kc_slot, if_pos c1]
            simp only [kr_bi, Option.bind_some]
            rw [if_neg (by decide), if_neg d1, if_neg d2, if_pos c3, if_neg c4]
          · unfold f_X12_row
            simp only [kr_let]
            rw [km_slot, if_pos c1]
            simp only [kr_bi, Option.bind_some]
            rw [if_neg (by decide), hin]
            simp only [Option.bind_some]
            rw [if_neg (by decide), if_pos c3, if_neg c4]
      · refine hq (-2) ?_ ?_
        · unfold f_X11_row
          rw [kc_slot, if_pos c1]
          simp only [kr_bi, Option.bind_some]
          rw [if_neg (by decide), if_neg d1, if_neg d2, if_neg c3]
        · unfold f_X12_row
          simp only [kr_let]
          rw [km_slot, if_pos c1]
          simp only [kr_bi, Option.bind_some]
          rw [if_neg (by decide), hin]
          simp only [Option.bind_some]
          rw [if_neg (by decide), if_neg c3]
    · refine hq (-2) ?_ ?_
      · unfold f_X11_row
        rw [kc_slot, if_pos c1]
        simp only [kr_bi, Option.bind_some]
        rw [if_neg (by decide)]
        by_cases d1 : p2 < 0
        · rw [if_pos d1]
        · have d2 : (4 : Int32) ≤ p2 := by
            have g0 : (0 : Int32) ≤ p2 := Int32.not_lt.mp d1
            have g1 : ¬ p2 ≤ 3 := fun q => c2 ⟨g0, q⟩
            rw [kz_le] at g1 ⊢
            omega
          rw [if_neg d1, if_pos d2]
      · unfold f_X12_row
        simp only [kr_let]
        rw [km_slot, if_pos c1]
        simp only [kr_bi, Option.bind_some]
        rw [if_neg (by decide), hin, if_neg c2]
        rfl
  · refine hq (-2) ?_ ?_
    · unfold f_X11_row
      rw [kc_slot, if_neg c1]
      rfl
    · unfold f_X12_row
      simp only [kr_let]
      rw [km_slot, if_neg c1]
      rfl
