theorem kr_si_at (M : kr_M) (a k : Nat) (x : Int32) : (kr_si M a k x).1 a k = x := by simp [kr_si, upd]
theorem kr_si_ne (M : kr_M) {a b : Nat} (k : Nat) (x : Int32) (h : b ≠ a) : (kr_si M a k x).1 b = M.1 b := by simp [kr_si, h]
theorem kr_si_nk (M : kr_M) (a : Nat) {k j : Nat} (x : Int32) (h : j ≠ k) : (kr_si M a k x).1 a j = M.1 a j := by simp [kr_si, upd, h]
theorem kr_si_2 (M : kr_M) (a k : Nat) (x : Int32) : (kr_si M a k x).2 = M.2 := rfl
/-! fault -/
theorem op_3 (p : Int32) (M : kr_M) (h : Sim M) : ∃ (r : Int32) (M1 M2 : kr_M), f_X11_fault p M = some (r, M1) ∧ f_X12_fault p M1 = some (r, M2) ∧ Sim M2 := by
  obtain ⟨-, -, -, -, b1, b2⟩ := h.2.1
  refine ⟨if p = 0 then M.1 1 2 else if p = 1 then M.1 1 3 else -1, M, kr_si M 346 0 0, ?_, ?_, (Fr.thrown M 0).sim h⟩
  · unfold f_X11_fault
    by_cases c0 : p = 0
    · simp [c0, kr_let]
    · by_cases c1 : p = 1
      · simp [c1, kr_let]
      · simp [c0, c1]
  · unfold f_X12_fault
    have e1 : (kr_si M 346 0 0).1 346 15 = M.1 346 15 := kr_si_nk _ _ _ (by decide)
    have e2 : (kr_si M 346 0 0).1 346 14 = M.1 346 14 := kr_si_nk _ _ _ (by decide)
    by_cases c0 : p = 0
    · simp [c0, kr_let, e2, b1]
    · by_cases c1 : p = 1
      · simp [c1, kr_let, e1, b2]
      · simp [c0, c1, kr_let]
/-! end -/
theorem op_1 (p : Int32) (M : kr_M) (h : Sim M) : ∃ (r : Int32) (M1 M2 : kr_M), f_X11_end p M = some (r, M1) ∧ f_X12_end p M1 = some (r, M2) ∧ Sim M2 := by
  obtain ⟨b1, b2, b3, b4, b5, b6⟩ := h.2.1
  by_cases c : 0 ≤ p ∧ p ≤ M.1 1 1
  · have c0 : ¬ p < 0 := Int32.not_lt.mpr c.1
    refine ⟨p, kr_si M 1 1 p, kr_si (kr_si (kr_si M 1 1 p) 346 0 0) 346 6 p, ?_, ?_, ?_⟩
    · unfold f_X11_end
      simp [c0, kr_let, c.2]
    · unfold f_X12_end
      have e : (kr_si (kr_si M 1 1 p) 346 0 0).1 346 6 = M.1 1 1 := by
        rw [kr_si_nk _ _ _ (by decide), kr_si_ne _ _ _ (by decide), b1]
      have e2 := km_in3 p 0 (M.1 1 1) (kr_si (kr_si M 1 1 p) 346 0 0)
      rw [if_pos c] at e2
      simp only [kr_let, e]
      rw [show ((0 : Int64)) = (0 : Int32).toInt64 from rfl, e2]
      rfl
    · have hp1 := kz_le.mp c.2
      have hp0 := kz_le.mp c.1
      have hs : kg_same M (kr_si (kr_si (kr_si M 1 1 p) 346 0 0) 346 6 p) := by
        refine ⟨fun a h1 h2 => ?_, fun a h1 h2 => ?_, rfl⟩
        · rw [kr_si_ne _ _ _ (by omega), kr_si_ne _ _ _ (by omega), kr_si_ne _ _ _ (by omega)]
        · rw [kr_si_ne _ _ _ (by omega), kr_si_ne _ _ _ (by omega), kr_si_ne _ _ _ (by omega)]
      refine ⟨h.1, ?_, fun s hs => ?_, sD_same hs h.2.2.2.1, sE_same hs h.1 h.2.2.2.2⟩
      · have e1 : ∀ j, j ≠ 1 → (kr_si (kr_si (kr_si M 1 1 p) 346 0 0) 346 6 p).1 1 j = M.1 1 j := fun j hj => by
          rw [kr_si_ne _ _ _ (by decide), kr_si_ne _ _ _ (by decide), kr_si_nk _ _ _ hj]
        have e2 : (kr_si (kr_si (kr_si M 1 1 p) 346 0 0) 346 6 p).1 1 1 = p := by
          rw [kr_si_ne _ _ _ (by decide), kr_si_ne _ _ _ (by decide), kr_si_at]
        have e3 : ∀ j, j ≠ 6 → j ≠ 0 → (kr_si (kr_si (kr_si M 1 1 p) 346 0 0) 346 6 p).1 346 j = M.1 346 j := fun j hj hk => by
          rw [kr_si_nk _ _ _ hj, kr_si_nk _ _ _ hk, kr_si_ne _ _ _ (by decide)]
        have e4 : ∀ a, a ≠ 1 → a ≠ 346 → (kr_si (kr_si (kr_si M 1 1 p) 346 0 0) 346 6 p).1 a = M.1 a := fun a h1 h2 => by
          rw [kr_si_ne _ _ _ h2, kr_si_ne _ _ _ h2, kr_si_ne _ _ _ h1]
        unfold sB
        rw [e2, kr_si_at, e4 2 (by decide) (by decide), e4 351 (by decide) (by decide), e1 2 (by decide), e1 3 (by decide), e3 14 (by decide) (by decide), e3 15 (by decide) (by decide)]
        refine ⟨rfl, hp0, ?_, fun j hj => b4 j ?_, b5, b6⟩
        · have : (0 : Int32).toInt = 0 := rfl
          omega
        · unfold zn at hj ⊢
          omega
      · have e4 : ∀ a, a ≠ 1 → a ≠ 346 → (kr_si (kr_si (kr_si M 1 1 p) 346 0 0) 346 6 p).1 a = M.1 a := fun a h1 h2 => by
          rw [kr_si_ne _ _ _ h2, kr_si_ne _ _ _ h2, kr_si_ne _ _ _ h1]
        have hc := h.2.2.1 s hs
        unfold sC1 at hc ⊢
        rw [e4 312 (by decide) (by decide), e4 347 (by decide) (by decide), e4 348 (by decide) (by decide), e4 311 (by decide) (by decide)]
        exact hc
  · refine ⟨-1, M, kr_si M 346 0 0, ?_, ?_, (Fr.thrown M 0).sim h⟩
    · unfold f_X11_end
      by_cases c0 : p < 0
      · simp [c0]
      · have c1 : ¬ p ≤ M.1 1 1 := fun q => c ⟨Int32.not_lt.mp c0, q⟩
        simp [c0, kr_let, c1]
    · unfold f_X12_end
      have e : (kr_si M 346 0 0).1 346 6 = M.1 1 1 := by rw [kr_si_nk _ _ _ (by decide), b1]
      have e2 := km_in3 p 0 (M.1 1 1) (kr_si M 346 0 0)
      rw [if_neg c] at e2
      simp only [kr_let, e]
      rw [show ((0 : Int64)) = (0 : Int32).toInt64 from rfl, e2]
      rfl
