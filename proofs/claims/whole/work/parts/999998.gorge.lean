/-! GORGE: the reference's reading of all; the op -/
theorem clr_9 {M0 : kr_M} : ∀ n' k M, k ≤ 8 → 8 - k < n' → (∀ j, j < k → M.1 353 (32 + j) = 0) → Fx (fun a j => a = 353 ∧ 32 ≤ j ∧ j < 40) M0 M → Wp (f_X12_clears_9 n' (nI k) M) (fun M' => (∀ j, j < 8 → M'.1 353 (32 + j) = 0) ∧ Fx (fun a j => a = 353 ∧ 32 ≤ j ∧ j < 40) M0 M') := by
  intro n'
  induction n' with
  | zero => intro k M h1 h2; omega
  | succ n' ih =>
    intro k M h1 h2 hz hF
    rw [f_X12_clears_9]
    by_cases c : k = 8
    · subst c
      exact Wp_t (nI_le (a := 8) (by omega) (by omega)) (Wp_some ⟨hz, hF⟩)
    · refine Wp_f (nI_ge (b := 8) (by omega) (by omega)) ?_
      rw [tl_ok (by omega)]
      refine Wp_bvs ?_
      rw [inc]
      refine ih (k + 1) _ (by omega) (by omega) (fun j hj => ?_) (hF.si _ ⟨rfl, by omega, by omega⟩)
      rw [kg_si]
      by_cases e : j = k
      · subst e; rw [if_pos ⟨rfl, rfl⟩]
      · rw [if_neg (by omega)]; exact hz j (by omega)
theorem clr_ok {M : kr_M} : Wp (f_X12_clears M) (fun M' => RPg M' P0 ∧ Fx (fun a j => x4 a j) M M') := by
  unfold f_X12_clears
  refine Wp_t (by decide) ?_
  refine Wp_letI ?_; intro M1 e1
  have e1 : kr_si M 352 4 (0 : Int32) = M1 := e1
  have f1 : Fx (fun a j => x4 a j) M M1 := by rw [← e1]; exact (Fx.refl M).si _ (by unfold x4; omega)
  refine Wp_mono (clr_9 (M0 := M1) kr_F 0 M1 (by omega) (kr_F_gt _ (by omega)) (fun j hj => by omega) (Fx.refl M1)) (fun M' ⟨q1, q2⟩ => ⟨⟨⟨?_, fun j hj => q1 j (by omega), q1 7 (by omega)⟩, fun k hk => ?_, fun k hk => ?_, fun k hk => ?_, fun k hk => ?_⟩, f1.trans (q2.mono (fun a j q => by have q : a = 353 ∧ 32 ≤ j ∧ j < 40 := q; show x4 a j; unfold x4; omega))⟩)
  · rw [q2.1 352 4 (fun q => by have q : 352 = 353 ∧ 32 ≤ 4 ∧ 4 < 40 := q; omega), ← e1, kr_si_at]; rfl
  · have hk : k < 0 := hk; omega
  · have hk : k < 0 := hk; omega
  · have hk : k < 0 := hk; omega
  · have hk : k < 0 := hk; omega
theorem TR.x {M M' : kr_M} {b : Nat → Int32} {n : Nat} (h : TR M b n) (hf : Fw rX M M') : TR M' b n := h.fz hf (fun q => by unfold rX x4 at q; omega) (fun j q => by unfold rX x4 at q; omega)
theorem qc_G {M : kr_M} {b : Nat → Int32} {n s : Nat} {P : GG} {K : kr_M → Option (Int32 × kr_M)} {Q : Int32 × kr_M → Prop} (hV : PV P) (h0 : P.1 0 = 0) (hP : RPg M P) (hT : TR M b n) (hS : Sr M b n (none, s)) (h : ∀ M', RQ M b n (lnG b n P (none, s)) M' → Wp (K M') Q) : Wp (kr_bv (f_X12_asks (4028648 : Int64) M) fun M7 => kr_bi (f_X12_number_ (235981828 : Int64) (2 : Int32) (6 : Int32) M7) fun r10 M9 => kr_bv (f_X12_tells (0 : Int32) r10 M9) fun M11 => kr_bi (f_X12_number_ (456399 : Int64) (0 : Int32) (99 : Int32) M11) fun r14 M13 => kr_bv (f_X12_tells (1 : Int32) r14 M13) fun M15 => kr_bi (f_X12_number_ (298288 : Int64) (0 : Int32) (100 : Int32) M15) fun r18 M17 => kr_bv (f_X12_tells (2 : Int32) r18 M17) fun M19 => K M19) Q := by
  have rx : ∀ {A B : kr_M}, Fw rnX A B → Fw rX A B := fun h => h.mono (fun a j q => Or.inl q)
  have sx : ∀ {A : kr_M} {j : Nat} (z : Int32), j < 8 → Fw rX A (kr_si A 353 (32 + j) z) := fun {A} {j} z hj => (Fw.refl (S := rX) A).si _ (Or.inr (by unfold x4; omega))
  refine Wp_bv _ (q_asks (l := 0) hT (by omega) rfl hS) (fun M7 ⟨a1, a2⟩ => ?_)
  have g7 := rx a2
  refine Wp_bi _ (q_named (l := 1) (lo := 2) (hi := 7) (hT.x g7) (by omega) rfl (by omega) (by omega) rfl a1) (fun r10 M9 ⟨b1, b2, b3⟩ => ?_)
  rw [show f_X12_tells (0 : Int32) r10 M9 = some (kr_si M9 353 32 r10) from tl_ok (j := 0) (by omega) r10]
  refine Wp_bvs ?_
  have g11 : Fw rX M (kr_si M9 353 32 r10) := (g7.trans (rx b2)).trans (sx (j := 0) r10 (by omega))
  have hS11 : Sr (kr_si M9 353 32 r10) b n (nmS b n 1 2 7 (sName b n 0 (none, s))) := Sr.si b1 _ (by omega)
  generalize e11 : kr_si M9 353 32 r10 = M11 at *
  refine Wp_bi _ (q_named (l := 2) (lo := 0) (hi := 100) (hT.x g11) (by omega) rfl (by omega) (by omega) rfl hS11) (fun r14 M13 ⟨c1, c2, c3⟩ => ?_)
  rw [show f_X12_tells (1 : Int32) r14 M13 = some (kr_si M13 353 33 r14) from tl_ok (j := 1) (by omega) r14]
  refine Wp_bvs ?_
  have g15 : Fw rX M (kr_si M13 353 33 r14) := (g11.trans (rx c2)).trans (sx (j := 1) r14 (by omega))
  have hS15 : Sr (kr_si M13 353 33 r14) b n (nmS b n 2 0 100 (nmS b n 1 2 7 (sName b n 0 (none, s)))) := Sr.si c1 _ (by omega)
  generalize e15 : kr_si M13 353 33 r14 = M15 at *
  refine Wp_bi _ (q_named (l := 3) (lo := 0) (hi := 101) (hT.x g15) (by omega) rfl (by omega) (by omega) rfl hS15) (fun r18 M17 ⟨d1, d2, d3⟩ => ?_)
  rw [show f_X12_tells (2 : Int32) r18 M17 = some (kr_si M17 353 34 r18) from tl_ok (j := 2) (by omega) r18]
  refine Wp_bvs ?_
  have g19 : Fw rX M (kr_si M17 353 34 r18) := (g15.trans (rx d2)).trans (sx (j := 2) r18 (by omega))
  have ne : ∀ {A B : kr_M}, Fw rnX A B → ∀ a j, a ≠ 346 → B.1 a j = A.1 a j := fun h a j z => h.1 a j (fun q => z q.1)
  have old : ∀ a j, a ≠ 346 → ¬ (a = 353 ∧ (j = 32 ∨ j = 33 ∨ j = 34)) → (kr_si M17 353 34 r18).1 a j = M.1 a j := fun a j q1 q2 => by
    rw [kg_si, if_neg (by omega), ne d2 _ _ q1, ← e15, kg_si, if_neg (by omega), ne c2 _ _ q1, ← e11, kg_si, if_neg (by omega), ne b2 _ _ q1, ne a2 _ _ q1]
  have y1 : (kr_si M17 353 34 r18).1 353 32 = r10 := by rw [kg_si, if_neg (by omega), ne d2 _ _ (by omega), ← e15, kg_si, if_neg (by omega), ne c2 _ _ (by omega), ← e11, kr_si_at]
  have y2 : (kr_si M17 353 34 r18).1 353 33 = r14 := by rw [kg_si, if_neg (by omega), ne d2 _ _ (by omega), ← e15, kr_si_at]
  have y3 : (kr_si M17 353 34 r18).1 353 34 = r18 := kr_si_at _ _ _ _
  have z : ∀ j, 1 ≤ j → j < 8 → P.1 j = 0 := by
    rcases hV.1 with q | q
    · exact q.2
    · omega
  refine h _ ⟨Sr.si d1 _ (by omega), fun gq => ?_, g19⟩
  have gq : (nmS b n 3 0 101 (nmS b n 2 0 100 (nmS b n 1 2 7 (sName b n 0 (none, s))))).1 = none := gq
  have gq2 := (nmS_g gq).1
  have gq1 := (nmS_g gq2).1
  obtain ⟨⟨p0, p1, p2⟩, _⟩ := hP
  refine ⟨⟨?_, fun j hj => ?_, ?_⟩, fun k hk => ?_, fun k hk => ?_, fun k hk => ?_, fun k hk => ?_⟩
  · rw [old 352 4 (by omega) (by omega)]; exact p0
  · by_cases k1 : j = 0
    · subst k1; rw [y1]; exact b3 gq1
    by_cases k2 : j = 1
    · subst k2; rw [y2]; exact c3 gq2
    by_cases k3 : j = 2
    · subst k3; rw [y3]; exact d3 gq
    · rw [old 353 (32 + j) (by omega) (by omega), p1 j hj]
      simp only [lnG, u1, if_neg (show ¬ j + 1 = 1 by omega), if_neg (show ¬ j + 1 = 2 by omega), if_neg (show ¬ j + 1 = 3 by omega)]
  · rw [old 353 39 (by omega) (by omega)]; exact p2
  · have hk : k < P.1 4 := hk
    have := z 4 (by omega) (by omega); omega
  · have hk : k < P.1 5 := hk
    have := z 5 (by omega) (by omega); omega
  · have hk : k < P.1 6 := hk
    have := z 6 (by omega) (by omega); omega
  · have hk : k < P.1 7 := hk
    have := z 7 (by omega) (by omega); omega
theorem RPg.li {M : kr_M} {v : Nat} {P : GG} (h : RPg M P) : RPg (kr_si M 352 4 (nI v)) (u1 P 0 v) := by
  obtain ⟨⟨h0, h0a, h0b⟩, h1, h2, h3, h4⟩ := h
  refine ⟨⟨by rw [kr_si_at]; rfl, fun j hj => ?_, ?_⟩, fun k hk => ?_, fun k hk => ?_, fun k hk => ?_, fun k hk => ?_⟩
  · rw [kg_si, if_neg (by omega)]
    simp only [u1, if_neg (show ¬ j + 1 = 0 by omega)]
    exact h0a j hj
  · rw [kg_si, if_neg (by omega)]; exact h0b
  · rw [kg_si, if_neg (by omega), kg_si, if_neg (by omega)]; exact h1 k hk
  · obtain ⟨q1, q2, q3⟩ := h2 k hk
    refine ⟨?_, ?_, fun i hi => ?_⟩
    · rw [kg_si, if_neg (by omega)]; exact q1
    · rw [kg_si, if_neg (by omega)]; exact q2
    · rw [kg_si, if_neg (by omega)]; exact q3 i hi
  · obtain ⟨q1, q2, q3, q4, q5⟩ := h3 k hk
    refine ⟨?_, ?_, ?_, ?_, fun i hi => ?_⟩
    · rw [kg_si, if_neg (by omega)]; exact q1
    · rw [kg_si, if_neg (by omega)]; exact q2
    · rw [kg_si, if_neg (by omega)]; exact q3
    · rw [kg_si, if_neg (by omega)]; exact q4
    · rw [kg_si, if_neg (by omega)]; exact q5 i hi
  · obtain ⟨q1, q2, q3⟩ := h4 k hk
    refine ⟨?_, ?_, ?_⟩
    · rw [kg_si, if_neg (by omega)]; exact q1
    · rw [kg_si, if_neg (by omega)]; exact q2
    · rw [kg_si, if_neg (by omega)]; exact q3
theorem RPg.fn {M M' : kr_M} {P : GG} (h : RPg M P) (hf : Fw rnX M M') : RPg M' P := by
  have ne : ∀ a j, a ≠ 346 → M'.1 a j = M.1 a j := fun a j z => hf.1 a j (fun q => z q.1)
  obtain ⟨⟨h0, h0a, h0b⟩, h1, h2, h3, h4⟩ := h
  refine ⟨⟨by rw [ne _ _ (by omega)]; exact h0, fun j hj => by rw [ne _ _ (by omega)]; exact h0a j hj, by rw [ne _ _ (by omega)]; exact h0b⟩, fun k hk => by rw [ne _ _ (by omega), ne _ _ (by omega)]; exact h1 k hk, fun k hk => ?_, fun k hk => ?_, fun k hk => by rw [ne _ _ (by omega), ne _ _ (by omega), ne _ _ (by omega)]; exact h4 k hk⟩
  · obtain ⟨q1, q2, q3⟩ := h2 k hk
    exact ⟨by rw [ne _ _ (by omega)]; exact q1, by rw [ne _ _ (by omega)]; exact q2, fun i hi => by rw [ne _ _ (by omega)]; exact q3 i hi⟩
  · obtain ⟨q1, q2, q3, q4, q5⟩ := h3 k hk
    exact ⟨by rw [ne _ _ (by omega)]; exact q1, by rw [ne _ _ (by omega)]; exact q2, by rw [ne _ _ (by omega)]; exact q3, by rw [ne _ _ (by omega)]; exact q4, fun i hi => by rw [ne _ _ (by omega)]; exact q5 i hi⟩
theorem gr_13 {M0 : kr_M} {b : Nat → Int32} {n : Nat} {Q : Int32 × kr_M → Prop} : ∀ d P σ M n', d < n' → (∀ M1, Sr M1 b n (glF b n d (P, σ)).2 → ((glF b n d (P, σ)).2.1 = none → RPg M1 (glF b n d (P, σ)).1 ∧ PV (glF b n d (P, σ)).1) → Fw rX M0 M1 → Wp (f_X12_gorge_119 M1) Q) → TR M b n → Sr M b n σ → (σ.1 = none → RPg M P ∧ PV P ∧ d + P.1 0 = 31) → Fw rX M0 M → Wp (f_X12_gorge_13 n' M) Q := by
  intro d
  induction d with
  | zero =>
    intro P σ M n' h2 h hT hS hG hF
    obtain ⟨m', rfl⟩ : ∃ m', n' = m' + 1 := ⟨n' - 1, by omega⟩
    rw [f_X12_gorge_13, q_good hS]
    obtain ⟨o, s⟩ := σ
    cases o with
    | none =>
      obtain ⟨a1, a2, a3⟩ := hG rfl
      have := PV_li a2
      omega
    | some e =>
      rw [if_neg (show ¬ ((some e, s) : SG).1 = none by simp)]
      exact Wp_bis (Wp_t rfl (h M hS (fun q => absurd q (by simp [glF])) hF))
  | succ d ih =>
    intro P σ M n' h2 h hT hS hG hF
    obtain ⟨m', rfl⟩ : ∃ m', n' = m' + 1 := ⟨n' - 1, by omega⟩
    rw [f_X12_gorge_13, q_good hS]
    obtain ⟨o, s⟩ := σ
    cases o with
    | some e =>
      have eg : glF b n (d + 1) (P, (some e, s)) = (P, (some e, s)) := by rw [glF, if_neg (fun q => absurd q.1 (by simp))]
      rw [eg] at h
      rw [if_neg (show ¬ ((some e, s) : SG).1 = none by simp)]
      exact Wp_bis (Wp_t rfl (h M hS (fun q => absurd q (by simp)) hF))
    | none =>
      obtain ⟨hP, hV, hi⟩ := hG rfl
      have li := PV_li hV
      have kb := tk_b b n s
      rw [if_pos (show ((none, s) : SG).1 = none from rfl)]
      refine Wp_bis (Wp_f (by decide) ?_)
      refine Wp_letI ?_; intro v ev
      rw [hS.2.2.1] at ev
      subst ev
      by_cases c : tk b n s = 0
      · have eg : glF b n (d + 1) (P, (none, s)) = (P, (none, s)) := by rw [glF, if_neg (fun q => q.2 c)]
        rw [eg] at h
        exact Wp_t (by rw [c]; rfl) (h M hS (fun q => ⟨hP, hV⟩) hF)
      have eg : glF b n (d + 1) (P, (none, s)) = glF b n d (lnZ b n (P, (none, s))) := by rw [glF, if_pos ⟨rfl, c⟩]
      rw [eg] at h
      refine Wp_f (fun q => c ((nI_eq (b := 0) (by omega) (by omega)).mp q)) ?_
      refine Wp_t (by decide) ?_
      refine Wp_letI ?_; intro v ev
      have ev : M.1 352 4 = v := ev
      rw [hP.1.1] at ev
      subst ev
      have go : ∀ M5, RQ M b n (ln b n P (none, s)) M5 → Wp (f_X12_gorge_95 (f_X12_gorge_13 m') M5) Q := fun M5 ⟨b1, b2, b3⟩ => by
        have b1 : Sr M5 b n (ln b n P (none, s)).2 := b1
        have b2 : (ln b n P (none, s)).2.1 = none → RPg M5 (ln b n P (none, s)).1 := b2
        have fin : ∀ M6, Sr M6 b n (sSign b n (ln b n P (none, s)).2) → Fw rnX M5 M6 → Wp (f_X12_gorge_106 (f_X12_gorge_13 m') M6) Q := fun M6 k1 k2 => by
          unfold f_X12_gorge_106
          refine Wp_t (by decide) ?_
          refine Wp_letI ?_; intro v7 e7
          have e7 : M6.1 352 4 = v7 := e7
          refine Wp_t (by decide) ?_
          refine Wp_letI ?_; intro M8 e8
          have e8 : kr_si M6 352 4 (v7 + (1 : Int32)) = M8 := e8
          have fa : Fw rX M M8 := by
            rw [← e8]
            exact (b3.trans (k2.mono (fun a j q => Or.inl q))).si _ (Or.inr (by unfold x4; omega))
          refine ih (lnZ b n (P, (none, s))).1 (lnZ b n (P, (none, s))).2 M8 m' (by omega) h (hT.x fa) (by rw [← e8]; exact Sr.si k1 _ (by omega)) (fun gq => ?_) (hF.trans fa)
          have g1 : (ln b n P (none, s)).2.1 = none := sSign_g gq
          have hP6 := (b2 g1).fn k2
          have z0 := hP6.1.1
          rw [ln_0] at z0
          rw [z0] at e7
          subst e7
          rw [inc] at e8
          refine ⟨by rw [← e8]; exact hP6.li, lnZ_v (z := (P, (none, s))) hV gq, ?_⟩
          show d + (P.1 0 + 1) = 31
          omega
        unfold f_X12_gorge_95
        rw [q_good b1]
        refine Wp_bis ?_
        generalize hτ : (ln b n P (none, s)).2 = τ at *
        obtain ⟨o, p⟩ := τ
        cases o with
        | none =>
          rw [if_pos (show ((none, p) : SG).1 = none from rfl)]
          refine Wp_f (by decide) ?_
          exact Wp_bv _ (q_ends (hT.x b3) b1) (fun M6 q => fin M6 q.1 q.2)
        | some e =>
          rw [if_neg (show ¬ ((some e, p) : SG).1 = none by simp)]
          exact Wp_t rfl (fin M5 b1 (Fw.refl M5))
      by_cases c0 : P.1 0 = 0
      · refine Wp_f (fun q => q (by rw [c0]; rfl)) ?_
        refine qc_G hV c0 hP hT hS (fun M' q => go M' ?_)
        unfold ln
        rw [if_pos c0]
        exact q
      · refine Wp_t (fun q => c0 ((nI_eq (b := 0) (by omega) (by omega)).mp q)) ?_
        exact Wp_bv _ (qc_ln hV c0 hP hT hS) (fun M' q => go M' q)
/-- what the reference knows once all is read -/
def PRs (M : kr_M) (z : GG × SG) (x : Int32 × kr_M) : Prop := (z.2.1 = none → x.1 = nI (z.1.1 0) ∧ x.2.1 346 14 = 0 ∧ x.2.1 346 15 = -1 ∧ ∃ M1, RPg M1 z.1 ∧ xE M1 4 x.2 0) ∧ (∀ e, z.2.1 = some e → x.1 = -4 ∧ x.2.1 346 14 = nI e.1 ∧ x.2.1 346 15 = nI e.2) ∧ x.2.1 346 6 = 0 ∧ Fw (fun a j => a = 346 ∨ x4 a j ∨ (z.2.1 = none ∧ xC 0 a j)) M x.2
theorem gr_119 {M0 M : kr_M} {b : Nat → Int32} {n : Nat} {z : GG × SG} (hS : Sr M b n z.2) (hP : z.2.1 = none → RPg M z.1 ∧ PV z.1) (hF : Fw (fun a j => a = 346 ∨ x4 a j) M0 M) : Wp (f_X12_gorge_119 M) (PRs M0 z) := by
  obtain ⟨P, o, s⟩ := z
  unfold f_X12_gorge_119
  have io : Wp (f_X12_isOver M) (fun M' => M'.1 346 6 = 0 ∧ M'.1 346 12 = M.1 346 12 ∧ M'.1 346 14 = M.1 346 12 ∧ (M'.1 346 15 = if M.1 346 12 = 0 then -1 else M.1 346 13) ∧ Fw (fun a j => a = 346) M M') := by
    unfold f_X12_isOver
    refine Wp_letI ?_; intro M1 e1
    refine Wp_letI ?_; intro v2 e2
    refine Wp_letI ?_; intro M3 e3
    refine Wp_letI ?_; intro v4 e4
    have x12 : M3.1 346 12 = M.1 346 12 := by rw [← e3, kg_si, if_neg (by omega), ← e1, kg_si, if_neg (by omega)]
    have v2v : v2 = M.1 346 12 := by rw [← e2, ← e1, kg_si, if_neg (by omega)]
    have f3 : Fw (fun a j => a = 346) M M3 := by rw [← e3, ← e1]; exact ((Fw.refl (S := fun a j => a = 346) M).si _ rfl).si _ rfl
    rw [x12] at e4
    have fin : ∀ w, (w = if M.1 346 12 = 0 then -1 else M.1 346 13) → Wp (f_X12_isOver_29 w M3) (fun M' => M'.1 346 6 = 0 ∧ M'.1 346 12 = M.1 346 12 ∧ M'.1 346 14 = M.1 346 12 ∧ (M'.1 346 15 = if M.1 346 12 = 0 then -1 else M.1 346 13) ∧ Fw (fun a j => a = 346) M M') := fun w hw => by
      unfold f_X12_isOver_29
      refine Wp_letI ?_; intro M5 e5
      refine Wp_some ⟨?_, ?_, ?_, ?_, ?_⟩
      · rw [← e5, kg_si, if_neg (by omega), ← e3, kg_si, if_neg (by omega), ← e1, kr_si_at]
      · rw [← e5, kg_si, if_neg (by omega)]; exact x12
      · rw [← e5, kg_si, if_neg (by omega), ← e3, kr_si_at]; exact v2v
      · rw [← e5, kr_si_at]; exact hw
      · rw [← e5]; exact f3.si _ rfl
    by_cases c : M.1 346 12 = 0
    · refine Wp_f (fun q => q (by rw [← e4]; exact c)) (fin _ (by rw [if_pos c]))
    · refine Wp_t (by rw [← e4]; exact c) ?_
      refine Wp_letI ?_; intro v5 e5
      refine fin _ ?_
      rw [if_neg c, ← e5, ← e3, kg_si, if_neg (by omega), ← e1, kg_si, if_neg (by omega)]
  refine Wp_bv _ io (fun M1 ⟨q1, q2, q3, q4, q5⟩ => ?_)
  have f1 : Fw (fun a j => a = 346 ∨ x4 a j) M0 M1 := hF.trans (q5.mono (fun a j q => Or.inl q))
  refine Wp_letI ?_; intro v3 e3
  cases o with
  | none =>
    obtain ⟨hP, hV⟩ := hP rfl
    have b0 : M.1 346 12 = 0 := hS.1
    rw [q2, b0] at e3
    subst e3
    refine Wp_t rfl ?_
    have ne : ∀ a j, a ≠ 346 → M1.1 a j = M.1 a j := fun a j z => q5.1 a j (fun q => z q)
    refine Wp_bv _ (cpG_ok (M := M1) (x := 4) (x' := 0) (by omega) (by omega) (by omega)) (fun M4 ⟨c1, c2, c3⟩ => ?_)
    refine Wp_t (by decide) ?_
    refine Wp_letI ?_; intro v6 e6
    have e6 : M4.1 352 0 = v6 := e6
    rw [c1.1, ne _ _ (by omega), hP.1.1] at e6
    have k346 : ∀ j, M4.1 346 j = M1.1 346 j := fun j => c2 346 j (by unfold xC; omega)
    refine Wp_some ⟨fun _ => ⟨e6.symm, ?_, ?_, M1, ?_, c1⟩, fun e he => absurd he (by simp), ?_, ?_⟩
    · rw [k346, q3, b0]
    · rw [k346, q4, if_pos b0]
    · obtain ⟨⟨h0, h0a, h0b⟩, h1, h2, h3, h4⟩ := hP
      refine ⟨⟨by rw [ne _ _ (by omega)]; exact h0, fun j hj => by rw [ne _ _ (by omega)]; exact h0a j hj, by rw [ne _ _ (by omega)]; exact h0b⟩, fun k hk => by rw [ne _ _ (by omega), ne _ _ (by omega)]; exact h1 k hk, fun k hk => ?_, fun k hk => ?_, fun k hk => by rw [ne _ _ (by omega), ne _ _ (by omega), ne _ _ (by omega)]; exact h4 k hk⟩
      · obtain ⟨y1, y2, y3⟩ := h2 k hk
        exact ⟨by rw [ne _ _ (by omega)]; exact y1, by rw [ne _ _ (by omega)]; exact y2, fun i hi => by rw [ne _ _ (by omega)]; exact y3 i hi⟩
      · obtain ⟨y1, y2, y3, y4, y5⟩ := h3 k hk
        exact ⟨by rw [ne _ _ (by omega)]; exact y1, by rw [ne _ _ (by omega)]; exact y2, by rw [ne _ _ (by omega)]; exact y3, by rw [ne _ _ (by omega)]; exact y4, fun i hi => by rw [ne _ _ (by omega)]; exact y5 i hi⟩
    · rw [k346]; exact q1
    · refine (f1.mono (fun a j q => q.elim Or.inl (fun q => Or.inr (Or.inl q)))).trans ⟨fun a j q => c2 a j (fun y => q (Or.inr (Or.inr ⟨rfl, y⟩))), fun a _ => by rw [c3], by rw [c3]⟩
  | some e =>
    have b0 := Sr_bad hS
    rw [q2] at e3
    refine Wp_f (by rw [← e3]; exact b0) (Wp_some ⟨fun q => absurd q (by simp), fun e' he => ⟨rfl, ?_, ?_⟩, q1, f1.mono (fun a j q => q.elim Or.inl (fun q => Or.inr (Or.inl q)))⟩)
    · have he : e = e' := by simpa using he
      subst he
      show M1.1 346 14 = nI e.1
      rw [q3]; exact hS.1
    · have he : e = e' := by simpa using he
      subst he
      show M1.1 346 15 = nI e.2
      rw [q4, if_neg b0]; exact hS.2.2.2
theorem grr_ok {M : kr_M} {b : Nat → Int32} {n : Nat} (hT : TR M b n) : Wp (f_X12_gorge M) (PRs M (glA b n)) := by
  unfold f_X12_gorge
  refine Wp_letI ?_; intro M1 e1
  have f1 : Fw (fun a j => a = 346 ∨ x4 a j) M M1 := by rw [← e1]; exact (Fw.refl M).si _ (Or.inl rfl)
  have hT1 : TR M1 b n := by rw [← e1]; exact ⟨by rw [kg_si, if_neg (by omega)]; exact hT.1, hT.2.1, fun j hj => by rw [kg_si, if_neg (by omega)]; exact hT.2.2 j hj⟩
  refine Wp_bv _ clr_ok (fun M2 ⟨a1, a2⟩ => ?_)
  have hT2 : TR M2 b n := hT1.fz (Fw.of a2) (fun q => by unfold x4 at q; omega) (fun j q => by unfold x4 at q; omega)
  have f2 : Fw (fun a j => a = 346 ∨ x4 a j) M M2 := f1.trans ((Fw.of a2).mono (fun a j q => Or.inr q))
  have bg : Wp (f_X12_begins M2) (fun M' => Sr M' b n (none, run wsB b n 0) ∧ Fw rnX M2 M') := by
    unfold f_X12_begins
    refine Wp_letI ?_; intro m1 y1
    refine Wp_letI ?_; intro m2 y2
    refine Wp_letI ?_; intro m3 y3
    have g3 : Fw rnX M2 m3 := by rw [← y3, ← y2, ← y1]; exact (((Fw.refl M2).si _ ⟨rfl, by omega, by omega⟩).si _ ⟨rfl, by omega, by omega⟩).si _ ⟨rfl, by omega, by omega⟩
    refine Wp_bv _ (r_next (p := 0) (hT2.rn g3) (by omega) (by rw [← y3, kr_si_at]; rfl)) (fun M' ⟨q1, q2⟩ => Wp_some ⟨⟨?_, q1⟩, g3.trans (q2.mono (fun a j q => ⟨q.1, q.2.1, by have := q.2.2; omega⟩))⟩)
    rw [q2.1 346 12 (fun q => by have q : 346 = 346 ∧ 7 ≤ 12 ∧ 12 ≤ 11 := q; omega), ← y3, kg_si, if_neg (by omega), ← y2, kg_si, if_neg (by omega), ← y1, kr_si_at]
  refine Wp_bv _ bg (fun M4 ⟨b1, b2⟩ => ?_)
  refine gr_13 (M0 := M4) (b := b) (n := n) 31 P0 (none, run wsB b n 0) M4 kr_F (kr_F_gt _ (by omega)) (fun M5 h1 h2 h3 => ?_) (hT2.rn b2) b1 (fun _ => ⟨a1.fn b2, PV_0, rfl⟩) (Fw.refl M4)
  refine gr_119 (M0 := M) (z := glA b n) h1 h2 ((f2.trans (b2.mono (fun a j q => Or.inl q.1))).trans (h3.mono (fun a j q => ?_)))
  rcases q with q | q
  · exact Or.inl q.1
  · exact Or.inr q
