theorem kr_fsg {B a ci j o g : Nat} {M : kr_M} (hc : ci < 13) (hf : (kr_fd ci)[j]? = some (3, o)) (ho : o < 3) (hu : ∀ i, i < (kr_fd ci).length → i ≠ j → ((kr_fd ci).getD i (0, 0)).1 = 3 → ((kr_fd ci).getD i (0, 0)).2 ≠ o ∧ ((kr_fd ci).getD i (0, 0)).2 < 3) : kr_fs B a (kr_sr M o g) ci = (kr_fs B a M ci).set j (.ref (B + g)) := by
  have ho3 : o = 0 ∨ o = 1 ∨ o = 2 := by omega
  apply List.ext_getElem?
  intro i
  simp only [kr_fs, List.getElem?_set, List.getElem?_mapIdx, List.length_mapIdx]
  by_cases hi : j = i
  · subst hi
    have hl := (List.getElem?_eq_some_iff.mp hf).1
    rw [if_pos rfl, if_pos hl, hf]
    rcases ho3 with rfl | rfl | rfl <;> simp [kr_fv, kr_sr, kr_gr]
  · rw [if_neg hi]
    cases hq : (kr_fd ci)[i]? with
    | none => rfl
    | some q =>
      have hil := (List.getElem?_eq_some_iff.mp hq).1
      have h4 := kr_fdk ci hc q (List.mem_of_getElem? hq)
      have h3 := hu i hil (fun h => hi h.symm)
      rw [List.getD_eq_getElem?_getD, hq] at h3
      simp only [Option.getD_some] at h3
      simp only [Option.map_some, kr_fv]
      by_cases q0 : q.1 = 0
      · simp [q0, kr_sr]
      · by_cases q1 : q.1 = 1
        · simp [q1, kr_sr]
        · by_cases q2 : q.1 = 2
          · simp [q2]
          · obtain ⟨h5, h6⟩ := h3 (by omega)
            have h7 : q.2 = 0 ∨ q.2 = 1 ∨ q.2 = 2 := by omega
            simp only [q0, q1, q2, if_false]
            rcases ho3 with rfl | rfl | rfl <;> rcases h7 with h7 | h7 | h7 <;> rw [h7] at h5 ⊢ <;> first | exact absurd rfl h5 | rfl
theorem kr_fsg0 {B g : Nat} {M : kr_M} : kr_fs B 0 (kr_sr M 0 g) 11 = (kr_fs B 0 M 11).set 1 (.ref (B + g)) := kr_fsg (by decide) rfl (by decide) (by decide +kernel)
theorem kr_fsg1 {B g : Nat} {M : kr_M} : kr_fs B 0 (kr_sr M 1 g) 11 = (kr_fs B 0 M 11).set 2 (.ref (B + g)) := kr_fsg (by decide) rfl (by decide) (by decide +kernel)
theorem kr_fsg2 {B g : Nat} {M : kr_M} : kr_fs B 315 (kr_sr M 2 g) 4 = (kr_fs B 315 M 4).set 0 (.ref (B + g)) := kr_fsg (by decide) rfl (by decide) (by decide +kernel)
