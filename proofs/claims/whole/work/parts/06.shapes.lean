section KRG
variable {ρ : Type} {rv : ρ → Option Value × kr_M} {E : kr_E} {y : kr_Y} {d pc : Nat} {lv lv' : List (Nat × Value)} {st : List Value} {M : kr_M} {res : Option ρ}
theorem kr_fs_congr {B k ci : Nat} {M' : kr_M} (hc : ci < 13) (h : ∀ q ∈ kr_fd ci, q.1 = 3 → kr_gr M' q.2 = kr_gr M q.2) (h1 : M'.1 k = M.1 k) (h2 : M'.2.1 k = M.2.1 k) : kr_fs B k M' ci = kr_fs B k M ci := by
  apply List.ext_getElem?
  intro i
  simp only [kr_fs, List.getElem?_mapIdx]
  cases hi : (kr_fd ci)[i]? with
  | none => rfl
  | some q =>
    have hm := List.mem_of_getElem? hi
    have h4 := kr_fdk ci hc q hm
    simp only [Option.map_some, kr_fv, h1, h2]
    by_cases q0 : q.1 = 0
    · simp [q0]
    · by_cases q1 : q.1 = 1
      · simp [q1]
      · by_cases q2 : q.1 = 2
        · simp [q2]
        · simp [q0, q1, q2, h q hm (by omega)]
theorem kr_sr_o {a o g j : Nat} (hj : j < kr_N) (h : (a = 0 ∧ (o = 0 ∨ o = 1)) ∨ (a = 315 ∧ o = 2)) (hne : j ≠ a) : kr_cell E (kr_sr M o g) j = kr_cell E M j := by
  unfold kr_cell
  by_cases hc : (kr_sh j).1 < 20
  · rw [if_pos hc, if_pos hc]
    have hc13 : (kr_sh j).1 < 13 := by
      rcases kr_shk j hj with h | h
      · exact h
      · omega
    rw [kr_fs_congr (M := M) (M' := kr_sr M o g) hc13 ?_ rfl rfl]
    intro q hq h3
    rcases h with ⟨rfl, h⟩ | ⟨rfl, rfl⟩
    · have n11 := kr_only11 j hj hne
      by_cases h4 : (kr_sh j).1 = 4
      · rw [h4] at hq
        have hq2 := kr_fd32 q hq h3
        rw [hq2]
        rcases h with rfl | rfl <;> rfl
      · exact absurd h3 (kr_fd3 _ hc13 n11 h4 q hq)
    · have n4 := kr_only4 j hj hne
      by_cases h4 : (kr_sh j).1 = 11
      · rw [h4] at hq
        rcases kr_fd31 q hq h3 with hq2 | hq2 <;> rw [hq2] <;> rfl
      · exact absurd h3 (kr_fd3 _ hc13 h4 n4 q hq)
  · rw [if_neg hc, if_neg hc]
    rfl
theorem kr_putG {a ci j i o g : Nat} {k : kr_M → Option ρ} (hd : decode y.2.1 pc = .ok (.putfield i, 3)) (hs : kr_sh a = (ci, 0)) (hw : Cond.fieldLink y.1.cls i (kr_ct ci j).1 (kr_ct ci j).2.1 (kr_ct ci j).2.2.1 ∈ kr_T) (hf : (kr_fd ci)[j]? = some (3, o)) (hfin : (kr_ct ci j).2.2.2 = false) (hty : kr_cty ci j = .object RX2) (ha : (a = 0 ∧ (o = 0 ∨ o = 1)) ∨ (a = 315 ∧ o = 2)) (he : ∀ B, kr_fs B a (kr_sr M o g) ci = (kr_fs B a M ci).set j (.ref (B + g))) (h : ∀ M1, kR rv E y d (pc + 3) lv st M1 (k M1)) (hc : ci < 13 := by decide) : kR rv E y d pc lv (kr_r E g :: kr_r E a :: st) M (kr_let (kr_sr M o g) k) :=
  kr_putv (M' := kr_sr M o g) hd hs hw hf hfin (by rw [hty]; rfl) (by rw [hty]; rfl) (he _) (fun j hj hne => kr_sr_o hj ha hne) hc (h _)
theorem kr_sub (ks : List Nat) (h : lv_pick lv ks = lv') (k : kR rv E y d pc lv' st M res) : kR rv E y d pc lv st M res := by
  intro q hq p e s m args below meth c H locs ls C hX hS hl
  exact k q hq p e s m args below meth c H locs ls C hX hS (lv_sub hl ks h)
end KRG
/-! shapes at fixed places -/
def kr_tx (g : Nat) (i : Int32) : Nat := g + 11 + 2 * i.toNatClampNeg
def kr_rp (g : Nat) (i : Int32) : Nat := g + 31 + 5 * i.toNatClampNeg
def kr_im (i : Int32) : Nat := 126 + 61 * i.toNatClampNeg
theorem kr_shT1 : ∀ t, kr_sh t = (7, 0) → kr_sh (t + 1) = (20, kr_len (t + 1)) := by
  intro t h
  have h1 : ∀ t, t < kr_N → kr_sh t = (7, 0) → (kr_sh (t + 1)).1 = 20 := by decide +kernel
  have h2 := h1 t (kr_lt h (kr_ne99 (by decide))) h
  unfold kr_len
  rw [← h2]
theorem kr_shR1 : ∀ t, kr_sh t = (5, 0) → kr_sh (t + 1) = (7, 0) := by
  intro t h
  have h1 : ∀ t, t < kr_N → kr_sh t = (5, 0) → kr_sh (t + 1) = (7, 0) := by decide +kernel
  exact h1 t (kr_lt h (kr_ne99 (by decide))) h
theorem kr_shR3 : ∀ t, kr_sh t = (5, 0) → kr_sh (t + 3) = (7, 0) := by
  intro t h
  have h1 : ∀ t, t < kr_N → kr_sh t = (5, 0) → kr_sh (t + 3) = (7, 0) := by decide +kernel
  exact h1 t (kr_lt h (kr_ne99 (by decide))) h
theorem kr_shG : ∀ t, kr_sh t = (2, 0) → t = 3 ∨ t = 64 ∨ t = 126 ∨ t = 187 ∨ t = 248 := by
  intro t h
  have h1 : ∀ t, t < kr_N → kr_sh t = (2, 0) → t = 3 ∨ t = 64 ∨ t = 126 ∨ t = 187 ∨ t = 248 := by decide +kernel
  exact h1 t (kr_lt h (kr_ne99 (by decide))) h

theorem kr_shG1 : ∀ t, kr_sh t = (2, 0) → kr_sh (t + 1) = (20, 6) := by
  intro t h
  rcases kr_shG t h with rfl | rfl | rfl | rfl | rfl <;> decide +kernel
theorem kr_shG2 : ∀ t, kr_sh t = (2, 0) → kr_sh (t + 2) = (20, 6) := by
  intro t h
  rcases kr_shG t h with rfl | rfl | rfl | rfl | rfl <;> decide +kernel
theorem kr_shG3 : ∀ t, kr_sh t = (2, 0) → kr_sh (t + 3) = (24, 10) := by
  intro t h
  rcases kr_shG t h with rfl | rfl | rfl | rfl | rfl <;> decide +kernel
theorem kr_shG4 : ∀ t, kr_sh t = (2, 0) → kr_sh (t + 4) = (20, 10) := by
  intro t h
  rcases kr_shG t h with rfl | rfl | rfl | rfl | rfl <;> decide +kernel
theorem kr_shG5 : ∀ t, kr_sh t = (2, 0) → kr_sh (t + 5) = (25, 6) := by
  intro t h
  rcases kr_shG t h with rfl | rfl | rfl | rfl | rfl <;> decide +kernel
theorem kr_shG6 : ∀ t, kr_sh t = (2, 0) → kr_sh (t + 6) = (20, 6) := by
  intro t h
  rcases kr_shG t h with rfl | rfl | rfl | rfl | rfl <;> decide +kernel
theorem kr_shG7 : ∀ t, kr_sh t = (2, 0) → kr_sh (t + 7) = (20, 6) := by
  intro t h
  rcases kr_shG t h with rfl | rfl | rfl | rfl | rfl <;> decide +kernel
theorem kr_shG8 : ∀ t, kr_sh t = (2, 0) → kr_sh (t + 8) = (20, 6) := by
  intro t h
  rcases kr_shG t h with rfl | rfl | rfl | rfl | rfl <;> decide +kernel
theorem kr_shG9 : ∀ t, kr_sh t = (2, 0) → kr_sh (t + 9) = (20, 6) := by
  intro t h
  rcases kr_shG t h with rfl | rfl | rfl | rfl | rfl <;> decide +kernel
theorem kr_shG10 : ∀ t, kr_sh t = (2, 0) → kr_sh (t + 10) = (20, 160) := by
  intro t h
  rcases kr_shG t h with rfl | rfl | rfl | rfl | rfl <;> decide +kernel
theorem kr_shTx : ∀ g x, kr_sh g = (2, 0) → kr_in x 10 → kr_sh (kr_tx g x) = (7, 0) := by
  intro g x h hx
  have h1 : ∀ w, w < 10 → kr_sh (3 + 11 + 2 * w) = (7, 0) ∧ kr_sh (64 + 11 + 2 * w) = (7, 0) ∧ kr_sh (126 + 11 + 2 * w) = (7, 0) ∧ kr_sh (187 + 11 + 2 * w) = (7, 0) ∧ kr_sh (248 + 11 + 2 * w) = (7, 0) := by decide +kernel
  have h2 := h1 x.toNatClampNeg (Nat.not_le.mp fun q => hx (Or.inr q))
  unfold kr_tx
  rcases kr_shG g h with rfl | rfl | rfl | rfl | rfl
  · exact h2.1
  · exact h2.2.1
  · exact h2.2.2.1
  · exact h2.2.2.2.1
  · exact h2.2.2.2.2
theorem kr_shRp : ∀ g x, kr_sh g = (2, 0) → kr_in x 6 → kr_sh (kr_rp g x) = (5, 0) := by
  intro g x h hx
  have h1 : ∀ w, w < 6 → kr_sh (3 + 31 + 5 * w) = (5, 0) ∧ kr_sh (64 + 31 + 5 * w) = (5, 0) ∧ kr_sh (126 + 31 + 5 * w) = (5, 0) ∧ kr_sh (187 + 31 + 5 * w) = (5, 0) ∧ kr_sh (248 + 31 + 5 * w) = (5, 0) := by decide +kernel
  have h2 := h1 x.toNatClampNeg (Nat.not_le.mp fun q => hx (Or.inr q))
  unfold kr_rp
  rcases kr_shG g h with rfl | rfl | rfl | rfl | rfl
  · exact h2.1
  · exact h2.2.1
  · exact h2.2.2.1
  · exact h2.2.2.2.1
  · exact h2.2.2.2.2
theorem kr_shIm : ∀ x, kr_in x 3 → kr_sh (kr_im x) = (2, 0) := by
  intro x hx
  have h1 : ∀ w, w < 3 → kr_sh (126 + 61 * w) = (2, 0) := by decide +kernel
  exact h1 x.toNatClampNeg (Nat.not_le.mp fun q => hx (Or.inr q))
section KRA
variable {ρ : Type} {rv : ρ → Option Value × kr_M} {E : kr_E} {y : kr_Y} {d pc : Nat} {lv lv' : List (Nat × Value)} {st : List Value} {M : kr_M} {res : Option ρ}
theorem kr_aaldT {g : Nat} {x : Int32} {r : Option ρ} (hd : decode y.2.1 pc = .ok (.aaload, 1)) (hs : kr_sh g = (2, 0)) (h : kr_sh (kr_tx g x) = (7, 0) → kR rv E y d (pc + 1) lv (kr_r E (kr_tx g x) :: st) M r) : kR rv E y d pc lv (.int x :: kr_r E (g + 3) :: st) M (if kr_in x 10 then r else none) :=
  kr_aald hd (kr_shG3 g hs) (by decide) (fun hi => by
    rw [show g + 3 + kr_ro 24 x.toNatClampNeg = kr_tx g x by simp only [kr_ro, kr_tx, if_true]; omega]
    exact h (kr_shTx g x hs hi))
theorem kr_aaldR {g : Nat} {x : Int32} {r : Option ρ} (hd : decode y.2.1 pc = .ok (.aaload, 1)) (hs : kr_sh g = (2, 0)) (h : kr_sh (kr_rp g x) = (5, 0) → kR rv E y d (pc + 1) lv (kr_r E (kr_rp g x) :: st) M r) : kR rv E y d pc lv (.int x :: kr_r E (g + 5) :: st) M (if kr_in x 6 then r else none) :=
  kr_aald hd (kr_shG5 g hs) (by decide) (fun hi => by
    rw [show g + 5 + kr_ro 25 x.toNatClampNeg = kr_rp g x by simp only [kr_ro, kr_rp, show ¬ 25 = 24 by decide, if_true, if_false]; omega]
    exact h (kr_shRp g x hs hi))
theorem kr_at_125 : kr_sh 125 = (26, 3) := by decide +kernel
theorem kr_aaldI {x : Int32} {r : Option ρ} (hd : decode y.2.1 pc = .ok (.aaload, 1)) (h : kr_sh (kr_im x) = (2, 0) → kR rv E y d (pc + 1) lv (kr_r E (kr_im x) :: st) M r) : kR rv E y d pc lv (.int x :: kr_r E 125 :: st) M (if kr_in x 3 then r else none) :=
  kr_aald hd kr_at_125 (by decide) (fun hi => by
    rw [show 125 + kr_ro 26 x.toNatClampNeg = kr_im x by simp only [kr_ro, kr_im, show ¬ 26 = 24 by decide, show ¬ 26 = 25 by decide, if_false]; omega]
    exact h (kr_shIm x hi))
end KRA

theorem kr_at_0 : kr_sh 0 = (11, 0) := by decide +kernel
theorem kr_at_1 : kr_sh 1 = (6, 0) := by decide +kernel
theorem kr_at_2 : kr_sh 2 = (21, 1400) := by decide +kernel
theorem kr_at_309 : kr_sh 309 = (22, 3) := by decide +kernel
theorem kr_at_310 : kr_sh 310 = (23, 240) := by decide +kernel
theorem kr_at_311 : kr_sh 311 = (20, 4) := by decide +kernel
theorem kr_at_312 : kr_sh 312 = (20, 4) := by decide +kernel
theorem kr_at_313 : kr_sh 313 = (7, 0) := by decide +kernel
theorem kr_at_314 : kr_sh 314 = (20, 24) := by decide +kernel
theorem kr_at_315 : kr_sh 315 = (4, 0) := by decide +kernel
theorem kr_at_316 : kr_sh 316 = (7, 0) := by decide +kernel
theorem kr_at_317 : kr_sh 317 = (20, 24) := by decide +kernel
theorem kr_at_318 : kr_sh 318 = (20, 25) := by decide +kernel
theorem kr_at_319 : kr_sh 319 = (20, 25) := by decide +kernel
theorem kr_at_320 : kr_sh 320 = (20, 25) := by decide +kernel
theorem kr_at_321 : kr_sh 321 = (20, 25) := by decide +kernel
theorem kr_at_322 : kr_sh 322 = (20, 144) := by decide +kernel
theorem kr_at_323 : kr_sh 323 = (23, 950) := by decide +kernel
theorem kr_at_324 : kr_sh 324 = (3, 0) := by decide +kernel
theorem kr_at_325 : kr_sh 325 = (20, 25) := by decide +kernel
theorem kr_at_326 : kr_sh 326 = (20, 600) := by decide +kernel
theorem kr_at_327 : kr_sh 327 = (10, 0) := by decide +kernel
theorem kr_at_328 : kr_sh 328 = (20, 10) := by decide +kernel
theorem kr_at_329 : kr_sh 329 = (20, 501) := by decide +kernel
theorem kr_at_330 : kr_sh 330 = (0, 0) := by decide +kernel
theorem kr_at_331 : kr_sh 331 = (20, 36) := by decide +kernel
theorem kr_at_332 : kr_sh 332 = (20, 384) := by decide +kernel
theorem kr_at_333 : kr_sh 333 = (20, 25) := by decide +kernel
theorem kr_at_334 : kr_sh 334 = (8, 0) := by decide +kernel
theorem kr_at_335 : kr_sh 335 = (20, 64) := by decide +kernel
theorem kr_at_336 : kr_sh 336 = (20, 64) := by decide +kernel
theorem kr_at_337 : kr_sh 337 = (20, 7) := by decide +kernel
theorem kr_at_338 : kr_sh 338 = (9, 0) := by decide +kernel
theorem kr_at_339 : kr_sh 339 = (20, 6) := by decide +kernel
theorem kr_at_340 : kr_sh 340 = (20, 36) := by decide +kernel
theorem kr_at_341 : kr_sh 341 = (1, 0) := by decide +kernel
theorem kr_at_342 : kr_sh 342 = (20, 64) := by decide +kernel
theorem kr_at_343 : kr_sh 343 = (20, 64) := by decide +kernel
theorem kr_at_344 : kr_sh 344 = (20, 64) := by decide +kernel
theorem kr_at_345 : kr_sh 345 = (20, 64) := by decide +kernel
theorem kr_at_346 : kr_sh 346 = (12, 0) := by decide +kernel
theorem kr_at_347 : kr_sh 347 = (20, 4) := by decide +kernel
theorem kr_at_348 : kr_sh 348 = (20, 4) := by decide +kernel
theorem kr_at_349 : kr_sh 349 = (23, 240) := by decide +kernel
theorem kr_at_350 : kr_sh 350 = (23, 60) := by decide +kernel
theorem kr_at_351 : kr_sh 351 = (21, 1400) := by decide +kernel
theorem kr_at_352 : kr_sh 352 = (20, 5) := by decide +kernel
theorem kr_at_353 : kr_sh 353 = (20, 40) := by decide +kernel
theorem kr_at_354 : kr_sh 354 = (20, 30) := by decide +kernel
theorem kr_at_355 : kr_sh 355 = (20, 30) := by decide +kernel
theorem kr_at_356 : kr_sh 356 = (20, 50) := by decide +kernel
theorem kr_at_357 : kr_sh 357 = (20, 50) := by decide +kernel
theorem kr_at_358 : kr_sh 358 = (20, 200) := by decide +kernel
theorem kr_at_359 : kr_sh 359 = (20, 120) := by decide +kernel
theorem kr_at_360 : kr_sh 360 = (20, 360) := by decide +kernel
theorem kr_at_361 : kr_sh 361 = (20, 90) := by decide +kernel
theorem kr_at_362 : kr_sh 362 = (20, 800) := by decide +kernel
theorem kr_at_363 : kr_sh 363 = (22, 3) := by decide +kernel
theorem kr_at_364 : kr_sh 364 = (20, 144) := by decide +kernel
theorem kr_at_365 : kr_sh 365 = (20, 6) := by decide +kernel
theorem kr_at_366 : kr_sh 366 = (20, 6) := by decide +kernel
theorem kr_at_367 : kr_sh 367 = (20, 6) := by decide +kernel
theorem kr_at_368 : kr_sh 368 = (20, 24) := by decide +kernel
theorem kr_at_369 : kr_sh 369 = (20, 25) := by decide +kernel
theorem kr_at_370 : kr_sh 370 = (20, 25) := by decide +kernel
theorem kr_at_371 : kr_sh 371 = (20, 25) := by decide +kernel
theorem kr_at_372 : kr_sh 372 = (22, 60025) := by decide +kernel
theorem kr_at_373 : kr_sh 373 = (20, 501) := by decide +kernel
theorem kr_at_374 : kr_sh 374 = (22, 144) := by decide +kernel
theorem kr_at_375 : kr_sh 375 = (20, 144) := by decide +kernel
theorem kr_at_376 : kr_sh 376 = (20, 6) := by decide +kernel
theorem kr_at_377 : kr_sh 377 = (20, 6) := by decide +kernel
theorem kr_at_378 : kr_sh 378 = (20, 625) := by decide +kernel
theorem kr_at_379 : kr_sh 379 = (20, 64) := by decide +kernel
theorem kr_at_380 : kr_sh 380 = (20, 64) := by decide +kernel
theorem kr_at_381 : kr_sh 381 = (20, 12) := by decide +kernel
theorem kr_at_382 : kr_sh 382 = (20, 64) := by decide +kernel
theorem kr_at_383 : kr_sh 383 = (20, 64) := by decide +kernel
theorem kr_at_384 : kr_sh 384 = (20, 25) := by decide +kernel
theorem kr_at_385 : kr_sh 385 = (20, 600) := by decide +kernel
theorem kr_at_386 : kr_sh 386 = (20, 24) := by decide +kernel
