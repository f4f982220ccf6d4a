def kc_S0 : kc_S := (0, [], [])
def kr_L0 : List (Nat × Nat × Int32) := [(347, 3, -1), (347, 2, -1), (347, 1, -1), (347, 0, -1), (346, 15, -1), (312, 3, -1), (312, 2, -1), (312, 1, -1), (312, 0, -1), (1, 3, -1)]
/-- the memory as the two constructors leave it -/
def kr_M0 : kr_M := (kc_im kr_L0, fun _ _ => 0, (3, 64, 3))
def kc_fok (l : List (Nat × Nat × Nat)) (k : Nat) : Bool :=
  if (kr_sh k).1 < 20 then (List.range (kr_cz (kr_sh k).1)).all (fun j => if ((kr_fd (kr_sh k).1).getD j (9, 9)).1 = 2 then decide (kc_rr l k j = some (k + ((kr_fd (kr_sh k).1).getD j (9, 9)).2)) else if ((kr_fd (kr_sh k).1).getD j (9, 9)).1 = 3 then decide (kc_rr l k j = some (kr_gr kr_M0 ((kr_fd (kr_sh k).1).getD j (9, 9)).2)) else true)
  else if (kr_sh k).1 < 24 then true
  else (List.range (kr_sh k).2).all (fun j => decide (kc_rr l k j = some (k + kr_ro (kr_sh k).1 j)))
def kc_chk : Bool := match c_X11_init 0 (kc_more kc_S0) with
  | none => false
  | some S1 => (decide (S1.1 = 346) && (S1.2.1.all (fun e => decide (e.1 < S1.1)) && S1.2.2.all (fun e => decide (e.1 < S1.1)))) && (match c_X12_init 346 (kc_more S1) with
    | none => false
    | some S2 => decide (S2.1 = 387) && decide (S2.2.1 = kr_L0) && (List.range 387).all (kc_fok S2.2.2))
set_option maxRecDepth 100000 in
theorem kc_chk_ok : kc_chk = true := by decide +kernel
theorem kc_made : ∃ S1 S2 : kc_S, c_X11_init 0 (kc_more kc_S0) = some S1 ∧ (S1.1 = 346 ∧ S1.2.1.all (fun e => decide (e.1 < S1.1)) = true ∧ S1.2.2.all (fun e => decide (e.1 < S1.1)) = true) ∧ c_X12_init 346 (kc_more S1) = some S2 ∧ S2.1 = 387 ∧ S2.2.1 = kr_L0 ∧ ∀ k, k < 387 → kc_fok S2.2.2 k = true := by
  have h := kc_chk_ok
  unfold kc_chk at h
  cases h1 : c_X11_init 0 (kc_more kc_S0) with
  | none => rw [h1] at h; cases h
  | some S1 =>
    rw [h1] at h
    simp only [Bool.and_eq_true, decide_eq_true_eq] at h
    obtain ⟨h2, h⟩ := h
    cases h3 : c_X12_init 346 (kc_more S1) with
    | none => rw [h3] at h; cases h
    | some S2 =>
      rw [h3] at h
      simp only [Bool.and_eq_true, decide_eq_true_eq] at h
      exact ⟨S1, S2, rfl, h2, h3, h.1.1, h.1.2, fun k hk => List.all_eq_true.mp h.2 k (List.mem_range.mpr hk)⟩
theorem kr_arrV {c : ClassId} {n : Nat} {f g : Nat → Value} (h : ∀ j, j < n → f j = g j) : arrV c n f = arrV c n g := by
  unfold arrV
  congr 1
  apply Array.ext
  · simp
  · intro i h1 h2
    simp only [Array.size_ofFn] at h1
    simp [h i h1]
theorem kc_done {E : kr_E} {S : kc_S} {H : Heap} (h1 : S.1 = 387) (h2 : S.2.1 = kr_L0) (h3 : ∀ k, k < 387 → kc_fok S.2.2 k = true) (hP : va_P E.2.2.1 vwCl (kc_ws E S) H) : va_P E.2.2.1 vwCl (kr_ws E kr_M0) H := by
  intro k q hk
  have hl : (kr_ws E kr_M0).length = kr_N := by simp [kr_ws]
  have hlt : k < kr_N := by rw [← hl]; exact (List.getElem?_eq_some_iff.mp hk).1
  rw [kr_ws_at hlt] at hk
  cases hk
  have h4 := hP k _ (kc_ws_at (by rw [h1]; exact hlt))
  have h5 := h3 k hlt
  unfold kc_fok at h5
  unfold kc_cell at h4
  unfold kr_cell
  by_cases c1 : (kr_sh k).1 < 20
  · rw [if_pos c1] at h4 h5 ⊢
    have h13 : (kr_sh k).1 < 13 := by
      rcases kr_shk k hlt with h | h
      · exact h
      · omega
    have e : kc_fs E.2.1 k S (kr_sh k).1 = kr_fs E.2.1 k kr_M0 (kr_sh k).1 := by
      apply List.ext_getElem?
      intro j
      simp only [kc_fs, kr_fs, List.getElem?_mapIdx]
      cases hq : (kr_fd (kr_sh k).1)[j]? with
      | none => rfl
      | some q =>
        have hj := kr_fdlt hq h13
        have h6 := List.all_eq_true.mp h5 j (List.mem_range.mpr hj)
        rw [List.getD_eq_getElem?_getD, hq] at h6
        simp only [Option.getD_some] at h6
        have h4' := kr_fdk _ h13 q (List.mem_of_getElem? hq)
        simp only [Option.map_some, kc_fv, kr_fv, h2]
        by_cases q0 : q.1 = 0
        · simp [q0, kr_M0]
        · by_cases q1 : q.1 = 1
          · simp [q1, kr_M0]
          · by_cases q2 : q.1 = 2
            · rw [if_pos q2] at h6
              simp only [decide_eq_true_eq] at h6
              simp [q2, h6, va_rf]
            · rw [if_neg q2, if_pos (by omega)] at h6
              simp only [decide_eq_true_eq] at h6
              simp [q0, q1, q2, h6, va_rf]
    rw [← e]
    exact h4
  · rw [if_neg c1] at h4 h5 ⊢
    by_cases c2 : (kr_sh k).1 < 23
    · rw [if_pos c2] at h4 ⊢
      rw [h2] at h4
      exact h4
    · rw [if_neg c2] at h4 ⊢
      by_cases c3 : (kr_sh k).1 = 23
      · rw [if_pos c3] at h4 ⊢
        exact h4
      · rw [if_neg c3] at h4 ⊢
        rw [if_neg (by omega)] at h5
        show H[E.2.1 + k]? = some (vp_cell _ _)
        have h4 : H[E.2.1 + k]? = some (vp_cell _ _) := h4
        rw [h4, vp_cell_q, vp_cell_q]
        congr 1
        apply kr_arrV
        intro j hj
        have h6 := List.all_eq_true.mp h5 j (List.mem_range.mpr hj)
        simp only [decide_eq_true_eq] at h6
        rw [h6]
        rfl
