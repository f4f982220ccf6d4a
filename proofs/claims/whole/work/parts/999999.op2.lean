/-! op gorge -/
theorem GS_new {M M1 : kr_M} {g : Nat} {P : GG} (hC : CPg M g P) (hV : PV P) (hR : RPg M1 P) (hX : xE M1 4 M 0) (h8 : M.1 g 8 = 0) (h9 : M.1 g 9 = 0) (hs : ∀ p, p < 6 → M.1 (g + 9) p = M.1 (g + 8) p) (hk : ∀ r, r < P.1 6 → M.1 (g + 31 + 5 * r) 3 = 0 ∧ M.1 (g + 34 + 5 * r) 1 = nI (P.2.1 7 r) ∧ ∀ i, i < P.2.1 7 r → M.1 (g + 35 + 5 * r) i = M.1 (g + 33 + 5 * r) i) : GS M g 0 := by
  obtain ⟨c0, c1, c2, c3, c4⟩ := hC
  obtain ⟨⟨r0, r0a, r0b⟩, r1, r2, r3, r4⟩ := hR
  obtain ⟨x0, x1, x2, x3, x4', x5, x6, x7, x8, x9, x10⟩ := hX
  have li := PV_li hV
  have hV' := hV
  obtain ⟨v0, v1, v2, v3, v4, v5, v6, vk, vw, vr, vp, vd⟩ := hV'
  have pl : P.1 1 ≤ 6 := by
    rcases v0 with q | q
    · have := q.2 1 (by omega) (by omega); omega
    · exact q.2.2
  have t0 : ∀ j, j < 8 → (M.1 g j).toInt = (P.1 j : Int) := fun j hj => by
    rw [c0 j hj]
    refine nI_toInt ?_
    have : j = 0 ∨ j = 1 ∨ j = 2 ∨ j = 3 ∨ j = 4 ∨ j = 5 ∨ j = 6 ∨ j = 7 := by omega
    rcases this with rfl | rfl | rfl | rfl | rfl | rfl | rfl | rfl <;> omega
  have z0 : ∀ j, j < 8 → zn (M.1 g j) = P.1 j := fun j hj => by
    have := t0 j hj
    unfold zn
    omega
  have z9 : zn (M.1 g 9) = 0 := by rw [h9]; rfl
  have z4 := z0 4 (by omega)
  have z5 := z0 5 (by omega)
  have z6 := z0 6 (by omega)
  have z7 := z0 7 (by omega)
  have tn : ∀ {x : Nat}, x ≤ 1000 → (nI x).toInt = (x : Int) := fun hx => nI_toInt (by omega)
  have zw : ∀ w, w < P.1 5 → zn (M.1 (g + 11 + 2 * w) 1) = P.2.1 2 w := fun w hw => by
    have := (vw w hw).2.1
    rw [(c2 w hw).1]; exact zn_nI (by omega)
  have zr : ∀ r, r < P.1 6 → zn (M.1 (g + 32 + 5 * r) 1) = P.2.1 7 r := fun r hr => by
    have := (vr r hr).2.2.2.2.2.2.1
    rw [(c3 r hr).2.2.2.1]; exact zn_nI (by omega)
  refine ⟨⟨?_, fun j hj => ?_, ?_, fun k hk => ?_, fun w hw => ?_, fun r hr => ?_, fun p hp => ?_, fun k hk => ?_⟩, ⟨?_, fun q => ?_, fun q => ?_, ?_, ?_, ?_, ?_, ?_, ?_, ?_, fun k hk => ?_, fun w hw => ?_, fun r hr => ?_, fun p hp => ?_, fun k hk => ?_, fun w v hvw hw => ?_⟩, ⟨fun r hr => ?_, fun p hp => ?_, ?_⟩⟩
  · rw [x0, r0]; exact c0 0 (by omega)
  · rw [x1 j (by omega), show 8 * 4 + j = 32 + j by omega, r0a j hj]; exact c0 (j + 1) (by omega)
  · rw [x1 7 (by omega), show 8 * 4 + 7 = 39 by omega, r0b]; exact h9
  · rw [z4] at hk
    rw [x2 k (by omega), x3 k (by omega), show 6 * 4 + k = 24 + k by omega, (r1 k hk).1, (r1 k hk).2]; exact c1 k hk
  · rw [z5] at hw
    have l := (vw w hw).2.1
    obtain ⟨y1, y2, y3⟩ := r2 w hw
    obtain ⟨d1, d2, d3⟩ := c2 w hw
    refine ⟨?_, ?_, fun i hi => ?_⟩
    · rw [x4' w (by omega), show 10 * 4 + w = 40 + w by omega, y1]; exact d1
    · rw [x5 w (by omega), show 10 * 4 + w = 40 + w by omega, y2]; exact d2
    · rw [zw w hw] at hi
      rw [x6 (4 * w + i) (by omega), show 40 * 4 + (4 * w + i) = 160 + 4 * w + i by omega, y3 i hi]; exact d3 i hi
  · rw [z6] at hr
    have l := (vr r hr).2.2.2.2.2.2.1
    obtain ⟨y1, y2, y3, y4, y5⟩ := r3 r hr
    obtain ⟨d1, d2, d3, d4, d5⟩ := c3 r hr
    refine ⟨fun j hj => ?_, ?_, fun i hi => ?_⟩
    · rw [x7 (4 * r + j) (by omega)]
      have : j = 0 ∨ j = 1 ∨ j = 2 := by omega
      rcases this with rfl | rfl | rfl
      · rw [show 24 * 4 + (4 * r + 0) = 96 + 4 * r by omega, y1]; exact d1
      · rw [show 24 * 4 + (4 * r + 1) = 96 + 4 * r + 1 by omega, y2]; exact d2
      · rw [show 24 * 4 + (4 * r + 2) = 96 + 4 * r + 2 by omega, y3]; exact d3
    · rw [x7 (4 * r + 3) (by omega), show 24 * 4 + (4 * r + 3) = 96 + 4 * r + 3 by omega, y4]; exact d4
    · rw [zr r hr] at hi
      rw [x8 (12 * r + i) (by omega), show 72 * 4 + (12 * r + i) = 288 + 12 * r + i by omega, y5 i hi]; exact d5 i hi
  · rw [z7] at hp
    obtain ⟨y1, y2, y3⟩ := r4 p hp
    obtain ⟨d1, d2, d3⟩ := c4 p hp
    refine ⟨?_, ?_, ?_⟩
    · rw [x9 (3 * p) (by omega), show 18 * 4 + 3 * p = 72 + 3 * p by omega, y1]; exact d1
    · rw [x9 (3 * p + 1) (by omega), show 18 * 4 + (3 * p + 1) = 72 + 3 * p + 1 by omega, y2]; exact d2
    · rw [x9 (3 * p + 2) (by omega), show 18 * 4 + (3 * p + 2) = 72 + 3 * p + 2 by omega, y3]; exact d3
  · rw [z9] at hk; omega
  · rw [t0 0 (by omega)]; omega
  · have q0 : P.1 0 = 0 := by
      have := t0 0 (by omega)
      rw [q, show (0 : Int32).toInt = 0 from rfl] at this
      omega
    intro j hj1 hj2
    by_cases e8 : j = 8
    · rw [e8]; exact h8
    by_cases e9 : j = 9
    · rw [e9]; exact h9
    rcases v0 with y | y
    · rw [c0 j (by omega), y.2 j hj1 (by omega)]; rfl
    · omega
  · have q0 : ¬ P.1 0 = 0 := fun y => q (by rw [c0 0 (by omega), y]; rfl)
    obtain ⟨l0, l1, l2⟩ := PV_1 hV q0
    rw [t0 1 (by omega)]; omega
  · rw [t0 2 (by omega)]; omega
  · rw [t0 3 (by omega)]; omega
  · rw [t0 4 (by omega)]; omega
  · rw [t0 5 (by omega)]; omega
  · rw [t0 6 (by omega)]; omega
  · rw [t0 7 (by omega)]; omega
  · rw [h9, show (0 : Int32).toInt = 0 from rfl]; omega
  · rw [z4] at hk
    obtain ⟨y1, y2, y3⟩ := vk k hk
    rw [(c1 k hk).1, (c1 k hk).2, tn (by omega), tn (by omega)]; omega
  · rw [z5] at hw
    obtain ⟨y1, y2, y3, y4⟩ := vw w hw
    obtain ⟨d1, d2, d3⟩ := c2 w hw
    refine ⟨by rw [d1, tn (by omega)]; omega, by rw [d1, tn (by omega)]; omega, by rw [d2, tn (by omega)]; omega, by rw [d2, tn (by omega)]; omega, fun i hi => ?_⟩
    rw [zw w hw] at hi
    have := y4 i hi
    rw [d3 i hi, tn (by omega), t0 4 (by omega)]; omega
  · rw [z6] at hr
    obtain ⟨y1, y2, y3, y4, y5, y6, y7, y8⟩ := vr r hr
    obtain ⟨d1, d2, d3, d4, d5⟩ := c3 r hr
    have p1 := t0 1 (by omega)
    refine ⟨by rw [d1, tn (by omega)]; omega, by rw [d1, tn (by omega)]; omega, by rw [d2, tn (by omega)]; omega, by rw [d2, tn (by omega)]; omega, fun q => y3 ?_, by rw [d3, tn (by omega)]; omega, by rw [d3, tn (by omega)]; omega, by rw [d4, tn (by omega)]; omega, by rw [d4, tn (by omega)]; omega, fun i hi => ?_⟩
    · rw [d1, d2] at q
      exact (nI_eq (by omega) (by omega)).mp q
    · rw [zr r hr] at hi
      have := y8 i hi
      rw [d5 i hi, tn (by omega), t0 4 (by omega)]; omega
  · rw [z7] at hp
    obtain ⟨y1, y2, y3, y4, y5⟩ := vp p hp
    obtain ⟨d1, d2, d3⟩ := c4 p hp
    have p1 := t0 1 (by omega)
    rw [d1, d2, d3, tn (by omega), tn (by omega), tn (by omega)]; omega
  · rw [z9] at hk; omega
  · rw [z5] at hw
    intro q1 q2
    rw [zw v (by omega)] at q2
    obtain ⟨d1, d2, d3⟩ := c2 w hw
    obtain ⟨e1, e2, e3⟩ := c2 v (by omega)
    obtain ⟨y1, y2, y3, y4⟩ := vw w hw
    obtain ⟨y1', y2', y3', y4'⟩ := vw v (by omega)
    rw [d1, e1] at q1
    have q1 : P.2.1 2 v = P.2.1 2 w := (nI_eq (by omega) (by omega)).mp q1
    refine vd w v hvw hw q1 (fun i hi => ?_)
    have := q2 i hi
    have a1 := y4' i hi
    have a2 := y4 i (by omega)
    rw [e3 i hi, d3 i (by omega)] at this
    exact (nI_eq (by omega) (by omega)).mp this
  · rw [z6] at hr
    rw [z9]
    obtain ⟨k1, k2, k3⟩ := hk r hr
    have r6 : r < 6 := by omega
    refine ⟨?_, ?_, fun i hi => ?_⟩
    · show M.1 (g + 34 + 5 * r) 1 = nI (if r < 6 then zn (M.1 (g + 32 + 5 * r) 1) else 0)
      rw [if_pos r6, zr r hr]; exact k2
    · show M.1 (g + 31 + 5 * r) 3 = nI 0
      rw [k1]; rfl
    · have hi : i < (if r < 6 then zn (M.1 (g + 32 + 5 * r) 1) else 0) := hi
      rw [if_pos r6, zr r hr] at hi
      show M.1 (g + 35 + 5 * r) i = if r < 6 then M.1 (g + 33 + 5 * r) i else 0
      rw [if_pos r6]; exact k3 i hi
  · rw [z7] at hp
    rw [z9]
    exact hs p (by omega)
  · rw [z9]; exact h8
theorem xE_id {M M' : kr_M} {x : Nat} (h : ∀ a j, xC x a j → M'.1 a j = M.1 a j) : xE M x M' x := by
  refine ⟨h _ _ ?_, fun j hj => h _ _ ?_, fun j hj => h _ _ ?_, fun j hj => h _ _ ?_, fun j hj => h _ _ ?_, fun j hj => h _ _ ?_, fun j hj => h _ _ ?_, fun j hj => h _ _ ?_, fun j hj => h _ _ ?_, fun j hj => h _ _ ?_, fun j hj => h _ _ ?_⟩
  all_goals (unfold xC; omega)
theorem CPg.row {M M' : kr_M} {g : Nat} {P : GG} (h : CPg M g P) (h5 : P.1 5 ≤ 10) (h6 : P.1 6 ≤ 6) (hr : ∀ a, g ≤ a → a ≤ g + 60 → M'.1 a = M.1 a) : CPg M' g P := by
  obtain ⟨h0, h1, h2, h3, h4⟩ := h
  have hd : ∀ a j, dsc g P a j → ¬ a = g → M'.1 a j = M.1 a j := fun a j q _ => by rw [hr a (by unfold dsc at q; omega) (by unfold dsc at q; omega)]
  exact ⟨fun j hj => by rw [hr g (by omega) (by omega)]; exact h0 j hj, h1.fr hd, h2.fr hd, h3.fr hd, h4.fr hd⟩
theorem op_2 (M : kr_M) (h : Sim M) : ∃ (r : Int32) (M1 M2 : kr_M), f_X11_gorge M = some (r, M1) ∧ f_X12_gorge M1 = some (r, M2) ∧ Sim M2 := by
  obtain ⟨hA, hB, hCc, hD, hE⟩ := h
  obtain ⟨hA1, hA2⟩ := hA
  obtain ⟨b1, b2, b3, b4, b5, b6⟩ := hB
  obtain ⟨g, hg⟩ : ∃ g, M.2.2.1 = g := ⟨_, rfl⟩
  obtain ⟨g', hg'⟩ : ∃ g', M.2.2.2.1 = g' := ⟨_, rfl⟩
  rw [hg, hg'] at hA1
  rw [hg] at hE
  have hgg : g' = 3 ∨ g' = 64 := by omega
  have sh : ∀ x, x = 3 ∨ x = 64 → kr_sh x = (2, 0) := fun x hx => by rcases hx with q | q <;> rw [q] <;> decide +kernel
  obtain ⟨n, hn⟩ : ∃ n, zn (M.1 1 1) = n := ⟨_, rfl⟩
  have n14 : n ≤ 1400 := by rw [← hn]; unfold zn; omega
  have en : M.1 1 1 = nI n := by rw [← hn]; exact zn_of b2
  have hT : TC M (M.1 2) n := ⟨en, n14, fun j _ => rfl⟩
  obtain ⟨Mp, ep, p1, p2, p3⟩ := pr_ok hgg hT
  generalize hz : glA (M.1 2) n = z at *
  have keep : ∀ a j, ¬ a = 1 → ¬ (g' ≤ a ∧ a ≤ g' + 60) → Mp.1 a j = M.1 a j := fun a j q1 q2 => p3.1 a j (fun q => q.elim (fun q => q1 q.1) q2)
  have hMp2 : Mp.2 = M.2 := p3.2
  -- what every good end has
  have fin : ∀ (M9 ME : kr_M), M9.1 = (kr_si Mp 1 1 (0 : Int32)).1 → M9.2.1 = M.2.1 → (∀ a j, ¬ (a = 346 ∨ x4 a j ∨ (z.2.1 = none ∧ xC 0 a j)) → ME.1 a j = M9.1 a j) → (∀ a, a ≠ 346 → ME.2.1 a = M9.2.1 a) → ME.2.2 = M9.2.2 → ME.1 346 6 = 0 → ME.1 346 14 = Mp.1 1 2 → ME.1 346 15 = Mp.1 1 3 → sA ME → GS ME ME.2.2.1 0 → Sim ME := fun M9 ME k1 k2 k3 k4 k5 k6 k7 k8 k9 k10 => by
    have row : ∀ a j, ¬ a = 1 → ¬ (g' ≤ a ∧ a ≤ g' + 60) → ¬ (a = 346 ∨ x4 a j ∨ (z.2.1 = none ∧ xC 0 a j)) → ME.1 a j = M.1 a j := fun a j q1 q2 q3 => by
      rw [k3 a j q3, k1, kg_si, if_neg (fun q => q1 q.1)]; exact keep a j q1 q2
    have one : ∀ j, ME.1 1 j = (kr_si Mp 1 1 (0 : Int32)).1 1 j := fun j => by rw [k3 1 j (fun q => by unfold x4 xC at q; omega), k1]
    have nr : ∀ a j, 309 ≤ a → a ≤ 312 ∨ (347 ≤ a ∧ a ≤ 349) ∨ a = 363 → ME.1 a j = M.1 a j := fun a j q1 q2 => row a j (by omega) (by omega) (fun q => by unfold x4 xC at q; omega)
    refine ⟨k9, ⟨?_, ?_, ?_, fun j hj => ?_, ?_, ?_⟩, fun s hs => ?_, fun k hk => ?_, k10⟩
    · rw [one, kr_si_at, k6]
    · rw [one, kr_si_at]; decide
    · rw [one, kr_si_at]; decide
    · rw [one, kr_si_at] at hj
      have hj : j < 0 := hj
      omega
    · rw [one, kg_si, if_neg (by omega), k7]
    · rw [one, kg_si, if_neg (by omega), k8]
    · have c := hCc s hs
      unfold sC1 at c ⊢
      rw [nr 312 s (by omega) (by omega), nr 347 s (by omega) (by omega), nr 348 s (by omega) (by omega), nr 311 s (by omega) (by omega), k4 310 (by omega), k4 349 (by omega), k2]
      exact c
    · obtain ⟨d1, d2⟩ := hD k hk
      rw [nr 309 k (by omega) (by omega), nr 363 k (by omega) (by omega)]
      refine ⟨d1, ?_⟩
      rcases d2 with d2 | ⟨d2, d3⟩
      · exact Or.inl d2
      · refine Or.inr ⟨d2, GS_map (gE_row d3.2.1 (fun a h1 h2 => funext fun j => row a j (by omega) (by omega) (fun q => by unfold x4 xC at q; omega))) (xE_id (fun a j q => row a j (by unfold xC at q; omega) (by unfold xC at q; omega) (fun y => ?_))) d3⟩
        unfold x4 at y
        unfold xC at q y
        omega
  have tr : ∀ M9 : kr_M, M9.1 = (kr_si Mp 1 1 (0 : Int32)).1 → TR M9 (M.1 2) n := fun M9 k1 => by
    refine ⟨?_, n14, fun j hj => ?_⟩
    · rw [k1, kg_si, if_neg (by omega), keep 346 6 (by omega) (by omega), ← b1]; exact en
    · rw [k1, kg_si, if_neg (by omega), keep 351 j (by omega) (by omega), ← b4 j (by rw [hn]; exact hj)]
  obtain ⟨P, o, s⟩ := z
  cases o with
  | none =>
    obtain ⟨a1, a2, a3, a4, a5, a6, a7, a8⟩ := p1 rfl
    have hV' := a4
    obtain ⟨v0, v1, v2, v3, v4, v5, v6, vk, vw, vr, vp, vd⟩ := hV'
    have cls : ∃ M9 : kr_M, f_X11_gorge M = some (nI (P.1 0), M9) ∧ M9.1 = (kr_si Mp 1 1 (0 : Int32)).1 ∧ M9.2 = (M.2.1, g', g, M.2.2.2.2) := by
      refine ⟨kr_sr (kr_sr (kr_si Mp 1 1 (0 : Int32)) 1 g) 0 g', ?_, rfl, ?_⟩
      · apply Wp_eq
        unfold f_X11_gorge
        have k1 : kr_gr M 1 = g' := hg'
        have m1 : kr_gr (kr_si Mp 1 1 (0 : Int32)) 1 = g' := by show Mp.2.2.2.1 = g'; rw [hMp2]; exact hg'
        have m0 : kr_gr (kr_si Mp 1 1 (0 : Int32)) 0 = g := by show Mp.2.2.1 = g; rw [hMp2]; exact hg
        refine Wp_t (by rw [k1]; exact sh g' hgg) ?_
        refine Wp_letI ?_; intro x ex
        rw [k1] at ex
        subst ex
        rw [ep]
        refine Wp_bvs ?_
        refine Wp_letI ?_; intro M4 e4
        refine Wp_letI ?_; intro v5 e5
        rw [← e4, kg_si, if_neg (by omega), a1] at e5
        subst e5
        refine Wp_t rfl ?_
        rw [← e4]
        refine Wp_t (by rw [m1]; exact sh g' hgg) ?_
        refine Wp_letI ?_; intro x ex
        rw [m1] at ex
        subst ex
        refine Wp_t (by rw [m0]; exact sh g (by omega)) ?_
        refine Wp_letI ?_; intro x ex
        rw [m0] at ex
        subst ex
        refine Wp_letI ?_; intro M8 e8
        refine Wp_letI ?_; intro M9 e9
        have m9 : kr_gr M9 0 = g' := by rw [← e9]; rfl
        refine Wp_t (by rw [m9]; exact sh g' hgg) ?_
        refine Wp_letI ?_; intro x ex
        rw [m9] at ex
        subst ex
        refine Wp_letI ?_; intro v11 e11
        rw [← e9, ← e8] at e11
        have e11 : (kr_si Mp 1 1 (0 : Int32)).1 g' 0 = v11 := e11
        rw [kg_si, if_neg (by omega), a3.1 0 (by omega)] at e11
        subst e11
        refine Wp_some ?_
        rw [← e9, ← e8]
      · show (Mp.2.1, g', g, Mp.2.2.2.2) = (M.2.1, g', g, M.2.2.2.2)
        rw [hMp2]
    obtain ⟨M9, c1, c2, c3⟩ := cls
    obtain ⟨⟨r, ME⟩, eR, q1, q2, q3, q4⟩ := grr_ok (tr M9 c2)
    rw [hz] at q1 q2 q4
    obtain ⟨y1, y2, y3, M1, y4, y5⟩ := q1 rfl
    have y1 : r = nI (P.1 0) := y1
    have y2 : ME.1 346 14 = 0 := y2
    have y3 : ME.1 346 15 = -1 := y3
    have y5 : xE M1 4 ME 0 := y5
    have q3 : ME.1 346 6 = 0 := q3
    obtain ⟨w1, w2, w3⟩ := q4
    have w3 : ME.2.2 = M9.2.2 := w3
    have w1 : ∀ a j, ¬ (a = 346 ∨ x4 a j ∨ (((P, none, s) : GG × SG).2.1 = none ∧ xC 0 a j)) → ME.1 a j = M9.1 a j := w1
    have rowg : ∀ a, g' ≤ a → a ≤ g' + 60 → ME.1 a = Mp.1 a := fun a h1 h2 => funext fun j => by
      rw [w1 a j (fun q => by unfold x4 xC at q; omega), c2, kg_si, if_neg (by omega)]
    refine ⟨nI (P.1 0), M9, ME, c1, by rw [eR, y1], ?_⟩
    refine fin M9 ME c2 (by rw [c3]) w1 w2 w3 q3 (by rw [y2, a1]) (by rw [y3, a2]) ?_ ?_
    · refine ⟨?_, ?_⟩
      · rw [w3, c3]
        show (g' = 3 ∧ g = 64) ∨ (g' = 64 ∧ g = 3)
        omega
      · rw [w3, c3]; exact hA2
    · rw [w3, c3]
      show GS ME g' 0
      refine GS_new (a3.row v4 v5 rowg) a4 y4 y5 ?_ ?_ (fun p hp => ?_) (fun r hr => ?_)
      · rw [rowg g' (by omega) (by omega)]; exact a5
      · rw [rowg g' (by omega) (by omega)]; exact a6
      · rw [rowg (g' + 9) (by omega) (by omega), rowg (g' + 8) (by omega) (by omega)]; exact a7 p hp
      · rw [rowg (g' + 31 + 5 * r) (by omega) (by omega), rowg (g' + 34 + 5 * r) (by omega) (by omega), rowg (g' + 35 + 5 * r) (by omega) (by omega), rowg (g' + 33 + 5 * r) (by omega) (by omega)]
        exact a8 r hr
  | some e =>
    obtain ⟨a1, a2, a3, a4⟩ := p2 e rfl
    have cls : ∃ M9 : kr_M, f_X11_gorge M = some (-4, M9) ∧ M9.1 = (kr_si Mp 1 1 (0 : Int32)).1 ∧ M9.2 = M.2 := by
      refine ⟨kr_si Mp 1 1 (0 : Int32), ?_, rfl, hMp2⟩
      apply Wp_eq
      unfold f_X11_gorge
      have k1 : kr_gr M 1 = g' := hg'
      refine Wp_t (by rw [k1]; exact sh g' hgg) ?_
      refine Wp_letI ?_; intro x ex
      rw [k1] at ex
      subst ex
      rw [ep]
      refine Wp_bvs ?_
      refine Wp_letI ?_; intro M4 e4
      refine Wp_letI ?_; intro v5 e5
      rw [← e4, kg_si, if_neg (by omega), a1] at e5
      subst e5
      refine Wp_f (nI_ne0 (by omega) (by omega)) (Wp_some ?_)
      rw [← e4]
    obtain ⟨M9, c1, c2, c3⟩ := cls
    obtain ⟨⟨r, ME⟩, eR, q1, q2, q3, q4⟩ := grr_ok (tr M9 c2)
    rw [hz] at q1 q2 q4
    obtain ⟨y1, y2, y3⟩ := q2 e rfl
    have y1 : r = -4 := y1
    have y2 : ME.1 346 14 = nI e.1 := y2
    have y3 : ME.1 346 15 = nI e.2 := y3
    have q3 : ME.1 346 6 = 0 := q3
    obtain ⟨w1, w2, w3⟩ := q4
    have w3 : ME.2.2 = M9.2.2 := w3
    have w1 : ∀ a j, ¬ (a = 346 ∨ x4 a j ∨ (((P, some e, s) : GG × SG).2.1 = none ∧ xC 0 a j)) → ME.1 a j = M9.1 a j := w1
    have no : ¬ ((P, some e, s) : GG × SG).2.1 = none := by simp
    have row : ∀ a j, ¬ a = 1 → ¬ (g' ≤ a ∧ a ≤ g' + 60) → ¬ (a = 346 ∨ x4 a j) → ME.1 a j = M.1 a j := fun a j k1 k2 k3 => by
      rw [w1 a j (fun q => q.elim (fun q => k3 (Or.inl q)) (fun q => q.elim (fun q => k3 (Or.inr q)) (fun q => no q.1))), c2, kg_si, if_neg (fun q => k1 q.1)]; exact keep a j k1 k2
    refine ⟨-4, M9, ME, c1, by rw [eR, y1], ?_⟩
    refine fin M9 ME c2 (by rw [c3]) w1 w2 w3 q3 (by rw [y2, a1]) (by rw [y3, a4]) ?_ ?_
    · refine ⟨?_, ?_⟩
      · rw [w3, c3, hg, hg']; exact hA1
      · rw [w3, c3]; exact hA2
    · rw [w3, c3, hg]
      refine GS_map (gE_row hE.2.1 (fun a h1 h2 => funext fun j => row a j (by omega) (by omega) (fun q => by unfold x4 at q; omega))) (xE_id (fun a j q => row a j (by unfold xC at q; omega) (by unfold xC at q; omega) (fun y => ?_))) hE
      unfold x4 at y
      unfold xC at q
      omega
