/-! GORGE: what was told stays in its bounds -/
theorem samC_g {b : Nat → Int32} {n v : Nat} {σ : SG} (h : (samC b n v σ).1 = none) : samC b n v σ = σ ∧ σ.1 = none ∧ ¬ (tk b n σ.2 = 2 ∧ tv b n σ.2 = v) := by
  unfold samC at h ⊢
  by_cases c : σ.1 = none ∧ tk b n σ.2 = 2 ∧ tv b n σ.2 = v
  · rw [if_pos c] at h; exact (sFail_g h).elim
  · rw [if_neg c] at h ⊢; exact ⟨rfl, h, fun q => c ⟨h, q⟩⟩
theorem dupC_g {b : Nat → Int32} {n m : Nat} {P : GG} {f : Nat → Nat} {σ : SG} (h : (dupC b n P m f σ).1 = none) : dupC b n P m f σ = σ ∧ σ.1 = none ∧ ¬ (isW b n σ.2 8 = true ∧ dpA P m f = true) := by
  unfold dupC at h ⊢
  by_cases c : σ.1 = none ∧ isW b n σ.2 8 = true ∧ dpA P m f = true
  · rw [if_pos c] at h; exact (sFail_g h).elim
  · rw [if_neg c] at h ⊢; exact ⟨rfl, h, fun q => c ⟨h, q⟩⟩
theorem sName_w {b : Nat → Int32} {n l : Nat} {σ : SG} (h : (sName b n l σ).1 = none) : isW b n σ.2 l = true := by
  obtain ⟨o, s⟩ := σ
  cases o with
  | none =>
    have h : (if isW b n s l = true then ((none, nxt_ b n s) : SG) else (some (1, s), s)).1 = none := h
    by_cases c : isW b n s l = true
    · exact c
    · rw [if_neg c] at h; exact absurd h (by simp)
  | some e => exact absurd h (by simp [sName])
theorem pv_G {b : Nat → Int32} {n : Nat} {P : GG} {σ : SG} (hV : PV P) (h0 : P.1 0 = 0) (h : (lnG b n P σ).2.1 = none) : PV (u1 (lnG b n P σ).1 0 (P.1 0 + 1)) := by
  unfold lnG at h ⊢
  obtain ⟨a1, a2, a3⟩ := nmS_g h
  obtain ⟨b1, b2, b3⟩ := nmS_g a1
  obtain ⟨c1, c2, c3⟩ := nmS_g b1
  generalize nmV b n 3 (nmS b n 2 0 100 (nmS b n 1 2 7 (sName b n 0 σ))) = x3 at *
  generalize nmV b n 2 (nmS b n 1 2 7 (sName b n 0 σ)) = x2 at *
  generalize nmV b n 1 (sName b n 0 σ) = x1 at *
  obtain ⟨v0, v1, v2, v3, v4, v5, v6, vk, vw, vr, vp, vd⟩ := hV
  have z : ∀ j, 1 ≤ j → j < 8 → P.1 j = 0 := by
    rcases v0 with q | q
    · exact q.2
    · omega
  have z4 := z 4 (by omega) (by omega)
  have z5 := z 5 (by omega) (by omega)
  have z6 := z 6 (by omega) (by omega)
  have z7 := z 7 (by omega) (by omega)
  refine ⟨Or.inr ⟨?_, ?_, ?_⟩, ?_, ?_, v3, v4, v5, v6, vk, vw, fun r hr => ?_, fun p hp => ?_, vd⟩
  · show P.1 0 + 1 = 1 + P.1 4 + P.1 5 + P.1 6 + P.1 7
    omega
  · show 2 ≤ x1
    omega
  · show x1 ≤ 6
    omega
  · show x2 ≤ 99
    omega
  · show x3 ≤ 100
    omega
  · have hr : r < P.1 6 := hr
    omega
  · have hp : p < P.1 7 := hp
    omega
theorem PV_1 {P : GG} (hV : PV P) (h0 : ¬ P.1 0 = 0) : P.1 0 = 1 + P.1 4 + P.1 5 + P.1 6 + P.1 7 ∧ 2 ≤ P.1 1 ∧ P.1 1 ≤ 6 := by
  rcases hV.1 with q | q
  · exact absurd q.1 h0
  · exact q
theorem pv_K {b : Nat → Int32} {n : Nat} {P : GG} {σ : SG} (hV : PV P) (h0 : ¬ P.1 0 = 0) (h : (lnK b n P σ).2.1 = none) : PV (u1 (lnK b n P σ).1 0 (P.1 0 + 1)) := by
  unfold lnK at h ⊢
  by_cases c : P.1 4 = 6
  · rw [if_pos c] at h; exact (sFail_g h).elim
  rw [if_neg c] at h ⊢
  obtain ⟨a1, a2, a3⟩ := nmS_g h
  obtain ⟨b1, b2, b3⟩ := nmS_g a1
  obtain ⟨l0, l1, l2⟩ := PV_1 hV h0
  generalize nmV b n 6 (nmS b n 5 1 10 (sNext b n σ)) = y at *
  generalize nmV b n 5 (sNext b n σ) = x at *
  obtain ⟨v0, v1, v2, v3, v4, v5, v6, vk, vw, vr, vp, vd⟩ := hV
  refine ⟨Or.inr ⟨?_, l1, l2⟩, v1, v2, ?_, v4, v5, v6, fun k hk => ?_, fun w hw => ?_, fun r hr => ?_, vp, vd⟩
  · show P.1 0 + 1 = 1 + (P.1 4 + 1) + P.1 5 + P.1 6 + P.1 7
    omega
  · show P.1 4 + 1 ≤ 6
    omega
  · have hk : k < P.1 4 + 1 := hk
    by_cases e : k = P.1 4
    · simp [u1, u2, e]
      omega
    · have := vk k (by omega)
      simp [u1, u2, e]
      omega
  · obtain ⟨q1, q2, q3, q4⟩ := vw w hw
    refine ⟨q1, q2, q3, fun i hi => ?_⟩
    have := q4 i hi
    show P.2.2 0 w i < P.1 4 + 1
    omega
  · obtain ⟨q1, q2, q3, q4, q5, q6, q7, q8⟩ := vr r hr
    refine ⟨q1, q2, q3, q4, q5, q6, q7, fun i hi => ?_⟩
    have := q8 i hi
    show P.2.2 1 r i < P.1 4 + 1
    omega
theorem pv_W {b : Nat → Int32} {n : Nat} {P : GG} {σ : SG} (hV : PV P) (h0 : ¬ P.1 0 = 0) (h : (lnW b n P σ).2.1 = none) : PV (u1 (lnW b n P σ).1 0 (P.1 0 + 1)) := by
  unfold lnW at h ⊢
  by_cases c : P.1 5 = 10
  · rw [if_pos c] at h; exact (sFail_g h).elim
  rw [if_neg c] at h ⊢
  obtain ⟨a1, a2, a3⟩ := nmS_g h
  have aw := sName_w (sNum_g h).1
  obtain ⟨d1, d2, d3⟩ := dupC_g a1
  obtain ⟨k1, k2, k3⟩ := knS_v (by omega) d2
  obtain ⟨l0, l1, l2⟩ := PV_1 hV h0
  rw [d1] at aw
  have nd : ¬ dpA P (knS b n 4 (P.1 4) (sNext b n σ)).2 (fun i => tv b n (nxs b n (sNext b n σ).2 i)) = true := fun q => d3 ⟨aw, q⟩
  rw [dpA_t] at nd
  have a2' : nmV b n 8 (dupC b n P (knS b n 4 (P.1 4) (sNext b n σ)).2 (fun i => tv b n (nxs b n (sNext b n σ).2 i)) (knS b n 4 (P.1 4) (sNext b n σ)).1) < 100 := a3
  generalize nmV b n 8 (dupC b n P (knS b n 4 (P.1 4) (sNext b n σ)).2 (fun i => tv b n (nxs b n (sNext b n σ).2 i)) (knS b n 4 (P.1 4) (sNext b n σ)).1) = y at *
  generalize (knS b n 4 (P.1 4) (sNext b n σ)).2 = m at *
  obtain ⟨v0, v1, v2, v3, v4, v5, v6, vk, vw, vr, vp, vd⟩ := hV
  refine ⟨Or.inr ⟨?_, l1, l2⟩, v1, v2, v3, ?_, v5, v6, vk, fun w hw => ?_, fun r hr => ?_, vp, fun w v hvw hw => ?_⟩
  · show P.1 0 + 1 = 1 + P.1 4 + (P.1 5 + 1) + P.1 6 + P.1 7
    omega
  · show P.1 5 + 1 ≤ 10
    omega
  · have hw : w < P.1 5 + 1 := hw
    by_cases e : w = P.1 5
    · simp [u1, u2, u3, e]
      refine ⟨by omega, k2, by omega, fun i hi => k3 i hi⟩
    · have := vw w (by omega)
      simp [u1, u2, u3, e]
      refine ⟨by omega, this.2.1, by omega, fun i hi => this.2.2.2 i hi⟩
  · have := vr r hr
    exact this
  · have hw : w < P.1 5 + 1 := hw
    by_cases e : w = P.1 5
    · have e2 : ¬ v = P.1 5 := by omega
      simp [u1, u2, u3, e, e2]
      intro q1
      have q2 : ¬ ∀ i, i < m → P.2.2 0 v i = tv b n (nxs b n (sNext b n σ).2 i) := fun q => nd ⟨v, by omega, q1, q⟩
      rw [q1]
      simpa using q2
    · have e2 : ¬ v = P.1 5 := by omega
      have := vd w v hvw (by omega)
      simp [u1, u2, u3, e, e2]
      simpa using this
theorem pv_R {b : Nat → Int32} {n : Nat} {P : GG} {σ : SG} (hV : PV P) (h0 : ¬ P.1 0 = 0) (h : (lnR b n P σ).2.1 = none) : PV (u1 (lnR b n P σ).1 0 (P.1 0 + 1)) := by
  unfold lnR at h ⊢
  by_cases c : P.1 6 = 6
  · rw [if_pos c] at h; exact (sFail_g h).elim
  rw [if_neg c] at h ⊢
  obtain ⟨k1, k2, k3⟩ := knS_v (by omega) h
  have g7 := knS_g h
  have g6 : (nmS b n 11 1 1000 (lnR5 b n P σ)).1 = none := sName_g g7
  obtain ⟨a1, a2, a3⟩ := nmS_g g6
  obtain ⟨b1, b2, b3, b4⟩ := sNum_g a1
  obtain ⟨c1, c2, c3⟩ := samC_g b1
  obtain ⟨d1, d2, d3, d4⟩ := sNum_g (sName_g c2)
  obtain ⟨l0, l1, l2⟩ := PV_1 hV h0
  have ne : tv b n (sNext b n σ).2 ≠ tv b n (lnR2 b n P σ).2 := fun q => by
    refine c3 ⟨?_, ?_⟩
    · rw [show lnR2 b n P σ = _ from c1] at b2; exact b2
    · rw [show lnR2 b n P σ = _ from c1] at q; exact q.symm
  generalize nmV b n 11 (lnR5 b n P σ) = y at *
  generalize tv b n (lnR2 b n P σ).2 = x2 at *
  generalize tv b n (sNext b n σ).2 = x1 at *
  generalize (knS b n 12 (P.1 4) (lnR7 b n P σ)).2 = m at *
  obtain ⟨v0, v1, v2, v3, v4, v5, v6, vk, vw, vr, vp, vd⟩ := hV
  refine ⟨Or.inr ⟨?_, l1, l2⟩, v1, v2, v3, v4, ?_, v6, vk, vw, fun r hr => ?_, vp, vd⟩
  · show P.1 0 + 1 = 1 + P.1 4 + P.1 5 + (P.1 6 + 1) + P.1 7
    omega
  · show P.1 6 + 1 ≤ 6
    omega
  · have hr : r < P.1 6 + 1 := hr
    by_cases e : r = P.1 6
    · simp [u1, u2, u3, e]
      exact ⟨d4, b4, ne, by omega, by omega, by omega, k2, fun i hi => k3 i hi⟩
    · have := vr r (by omega)
      simp [u1, u2, u3, e]
      exact ⟨this.1, this.2.1, this.2.2.1, by omega, this.2.2.2.2.1, by omega, this.2.2.2.2.2.2.1, fun i hi => this.2.2.2.2.2.2.2 i hi⟩
theorem pv_E {b : Nat → Int32} {n : Nat} {P : GG} {σ : SG} (hV : PV P) (h0 : ¬ P.1 0 = 0) (h : (lnQ b n P σ).2.1 = none) : PV (u1 (lnQ b n P σ).1 0 (P.1 0 + 1)) := by
  unfold lnQ at h ⊢
  by_cases c : P.1 7 = 6
  · rw [if_pos c] at h; exact (sFail_g h).elim
  rw [if_neg c] at h ⊢
  obtain ⟨a1, a2, a3⟩ := nmS_g h
  obtain ⟨b1, b2, b3⟩ := nmS_g a1
  obtain ⟨c1, c2, c3⟩ := nmS_g b1
  obtain ⟨l0, l1, l2⟩ := PV_1 hV h0
  generalize nmV b n 16 (nmS b n 15 1 10 (nmS b n 14 1 1000 (sNext b n σ))) = x3 at *
  generalize nmV b n 15 (nmS b n 14 1 1000 (sNext b n σ)) = x2 at *
  generalize nmV b n 14 (sNext b n σ) = x1 at *
  obtain ⟨v0, v1, v2, v3, v4, v5, v6, vk, vw, vr, vp, vd⟩ := hV
  refine ⟨Or.inr ⟨?_, l1, l2⟩, v1, v2, v3, v4, v5, ?_, vk, vw, vr, fun p hp => ?_, vd⟩
  · show P.1 0 + 1 = 1 + P.1 4 + P.1 5 + P.1 6 + (P.1 7 + 1)
    omega
  · show P.1 7 + 1 ≤ 6
    omega
  · have hp : p < P.1 7 + 1 := hp
    by_cases e : p = P.1 7
    · simp [u1, u2, e]
      exact ⟨by omega, by omega, by omega, by omega, a3⟩
    · have := vp p (by omega)
      simp [u1, u2, e]
      exact ⟨by omega, by omega, by omega, by omega, this.2.2.2.2⟩
theorem ln_v {b : Nat → Int32} {n : Nat} {P : GG} {σ : SG} (hV : PV P) (h : (ln b n P σ).2.1 = none) : PV (u1 (ln b n P σ).1 0 (P.1 0 + 1)) := by
  unfold ln at h ⊢
  by_cases c0 : P.1 0 = 0
  · rw [if_pos c0] at h ⊢; exact pv_G hV c0 h
  rw [if_neg c0] at h ⊢
  by_cases c1 : isW b n σ.2 4 = true
  · rw [if_pos c1] at h ⊢; exact pv_K hV c0 h
  rw [if_neg c1] at h ⊢
  by_cases c2 : isW b n σ.2 7 = true
  · rw [if_pos c2] at h ⊢; exact pv_W hV c0 h
  rw [if_neg c2] at h ⊢
  by_cases c3 : isW b n σ.2 9 = true
  · rw [if_pos c3] at h ⊢; exact pv_R hV c0 h
  rw [if_neg c3] at h ⊢
  by_cases c4 : isW b n σ.2 13 = true
  · rw [if_pos c4] at h ⊢; exact pv_E hV c0 h
  rw [if_neg c4] at h
  exact (sFail_g h).elim
theorem lnZ_v {b : Nat → Int32} {n : Nat} {z : GG × SG} (hV : PV z.1) (h : (lnZ b n z).2.1 = none) : PV (lnZ b n z).1 := ln_v hV (sSign_g h)
theorem PV_li {P : GG} (hV : PV P) : P.1 0 ≤ 29 := by
  obtain ⟨v0, v1, v2, v3, v4, v5, v6, vk, vw, vr, vp, vd⟩ := hV
  rcases v0 with q | q
  · omega
  · omega
