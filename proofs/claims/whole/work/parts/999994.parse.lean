/-! GORGE: the class's reading of all -/
theorem LQ_bad {M M' : kr_M} {b : Nat → Int32} {n g k : Nat} {P : GG} {σ : SG} {z : GG × SG} (h : LQ M b n g (P, sFail k σ) M') (e : z.2 = sFail k σ) : LQ M b n g z M' := by
  obtain ⟨h1, h2, h3, h4⟩ := h
  exact ⟨by rw [e]; exact h1, fun q => by rw [e] at q; exact (sFail_g q).elim, h3, h4⟩
theorem sln_5 : sln 0 = 5 ∧ sln 4 = 4 ∧ sln 7 = 4 ∧ sln 9 = 4 ∧ sln 13 = 6 := by decide +kernel
theorem isW_0 {b : Nat → Int32} {n s : Nat} (h : isW b n s 0 = true) : ¬ isW b n s 4 = true ∧ ¬ isW b n s 7 = true ∧ ¬ isW b n s 9 = true ∧ ¬ isW b n s 13 = true := by
  obtain ⟨a0, a4, a7, a9, a13⟩ := sln_5
  have h0 := (isW_t.mp h).2.1
  exact ⟨fun q => by have := (isW_t.mp q).2.1; omega, fun q => by have := (isW_t.mp q).2.1; omega, fun q => by have := (isW_t.mp q).2.1; omega, fun q => by have := (isW_t.mp q).2.1; omega⟩
theorem lc_ln {M : kr_M} {b : Nat → Int32} {n g s : Nat} {P : GG} (hg' : g = 3 ∨ g = 64) (hT : TC M b n) (hS : St M b n (none, s)) (hC : CPg M g P) (hV : PV P) : Wp (f_X6_line g M) (LQ M b n g (ln b n P (none, s))) := by
  have hg : 3 ≤ g := by omega
  have li := PV_li hV
  have w : ∀ l, l < 17 → f_X6_isWord l M = some (if isW b n s l = true then 1 else 0, M) := fun l hl => k_isW hT hl hS.2.2
  have fl : Wp (kr_bv (f_X6_blame (1 : Int32) M) fun M1 => some M1) (LQ M b n g (P, sFail 1 (none, s))) := lc_fail (k := 1) hg (by omega) hS hC hV
  unfold f_X6_line ln
  rw [w 0 (by omega)]
  refine Wp_bis ?_
  refine Wp_letI ?_; intro v ev
  rw [hC.1 0 (by omega)] at ev
  subst ev
  by_cases c0 : P.1 0 = 0
  · rw [if_pos c0]
    refine Wp_f (fun q => q (by rw [c0]; rfl)) ?_
    unfold f_X6_line_18
    by_cases w0 : isW b n s 0 = true
    · rw [if_pos w0]
      refine Wp_t rfl ?_
      rw [w 0 (by omega), if_pos w0]
      refine Wp_bis (Wp_f (by decide) ?_)
      refine Wp_bv _ (lc_G hg hT hS ?_ hC hV) (fun M' q => Wp_some q)
      show (if isW b n s 0 = true then ((none, nxt_ b n s) : SG) else (some (1, s), s)) = _
      rw [if_pos w0]
      rfl
    · rw [if_neg w0]
      refine Wp_f (by decide) ?_
      refine Wp_mono fl (fun M' q => LQ_bad q ?_)
      have e : sName b n 0 (none, s) = (some (1, s), s) := by
        show (if isW b n s 0 = true then ((none, nxt_ b n s) : SG) else (some (1, s), s)) = _
        rw [if_neg w0]
      unfold lnG
      rw [e]
      rfl
  · rw [if_neg c0]
    refine Wp_t (fun q => c0 ((nI_eq (b := 0) (by omega) (by omega)).mp q)) ?_
    unfold f_X6_line_18
    by_cases w0 : isW b n s 0 = true
    · obtain ⟨n1, n2, n3, n4⟩ := isW_0 w0
      rw [if_pos w0]
      refine Wp_f (by decide) ?_
      simp only [if_neg n1, if_neg n2, if_neg n3, if_neg n4]
      exact fl
    · rw [if_neg w0]
      refine Wp_t rfl ?_
      rw [w 0 (by omega), if_neg w0]
      refine Wp_bis (Wp_t rfl ?_)
      rw [w 4 (by omega)]
      refine Wp_bis ?_
      by_cases c1 : isW b n s 4 = true
      · simp only [if_pos c1]
        refine Wp_f (by decide) ?_
        exact Wp_bv _ (lc_K hg hT hS hC hV) (fun M' q => Wp_some q)
      simp only [if_neg c1]
      refine Wp_t trivial ?_
      rw [w 7 (by omega)]
      refine Wp_bis ?_
      by_cases c2 : isW b n s 7 = true
      · simp only [if_pos c2]
        refine Wp_f (by decide) ?_
        exact Wp_bv _ (lc_W hg' hT hS hC hV) (fun M' q => Wp_some q)
      simp only [if_neg c2]
      refine Wp_t trivial ?_
      rw [w 9 (by omega)]
      refine Wp_bis ?_
      by_cases c3 : isW b n s 9 = true
      · simp only [if_pos c3]
        refine Wp_f (by decide) ?_
        exact Wp_bv _ (lc_R hg' hT hS c0 hC hV) (fun M' q => Wp_some q)
      simp only [if_neg c3]
      refine Wp_t trivial ?_
      rw [w 13 (by omega)]
      refine Wp_bis ?_
      by_cases c4 : isW b n s 13 = true
      · simp only [if_pos c4]
        refine Wp_f (by decide) ?_
        exact Wp_bv _ (lc_P hg hT hS c0 hC hV) (fun M' q => Wp_some q)
      simp only [if_neg c4]
      exact Wp_t trivial fl
theorem ln_0 {b : Nat → Int32} {n : Nat} {P : GG} {σ : SG} : (ln b n P σ).1.1 0 = P.1 0 := by
  unfold ln
  by_cases c0 : P.1 0 = 0
  · rw [if_pos c0]; rfl
  rw [if_neg c0]
  by_cases c1 : isW b n σ.2 4 = true
  · rw [if_pos c1]; unfold lnK; split <;> rfl
  rw [if_neg c1]
  by_cases c2 : isW b n σ.2 7 = true
  · rw [if_pos c2]; unfold lnW; split <;> rfl
  rw [if_neg c2]
  by_cases c3 : isW b n σ.2 9 = true
  · rw [if_pos c3]; unfold lnR; split <;> rfl
  rw [if_neg c3]
  by_cases c4 : isW b n σ.2 13 = true
  · rw [if_pos c4]; unfold lnQ; split <;> rfl
  rw [if_neg c4]
abbrev gX (g : Nat) : Nat → Nat → Prop := fun a j => (a = 1 ∧ 2 ≤ j ∧ j ≤ 7) ∨ (g ≤ a ∧ a ≤ g + 60)
theorem TC.g {M M' : kr_M} {b : Nat → Int32} {n g : Nat} (hg : 3 ≤ g) (h : TC M b n) (hf : Fx (gX g) M M') : TC M' b n := h.fx hf (fun q => by have q : (1 = 1 ∧ 2 ≤ 1 ∧ 1 ≤ 7) ∨ (g ≤ 1 ∧ 1 ≤ g + 60) := q; omega) (fun j q => by have q : (2 = 1 ∧ 2 ≤ j ∧ j ≤ 7) ∨ (g ≤ 2 ∧ 2 ≤ g + 60) := q; omega)
theorem CPg.li {M : kr_M} {g v : Nat} {P : GG} (h : CPg M g P) : CPg (kr_si M g 0 (nI v)) g (u1 P 0 v) := by
  obtain ⟨h0, h1, h2, h3, h4⟩ := h
  have hd : ∀ a j, dsc g P a j → ¬ a = g → (kr_si M g 0 (nI v)).1 a j = M.1 a j := fun a j _ q => by rw [kg_si, if_neg (fun z => q z.1)]
  refine ⟨fun j hj => ?_, h1.fr hd, h2.fr hd, h3.fr hd, h4.fr hd⟩
  by_cases c : j = 0
  · subst c; rw [kr_si_at]; rfl
  · rw [kg_si, if_neg (fun z => c z.2)]
    simp only [u1, if_neg c]
    exact h0 j hj
theorem Cq.fx {M M' : kr_M} {g : Nat} {S : Nat → Nat → Prop} (h : Cq M g) (hf : Fx S M M') (h1 : ¬ S g 6) (h2 : ∀ a, g + 31 ≤ a → ¬ S a 1) : Cq M' g := by
  obtain ⟨ro, tn, q1, q2, q3⟩ := h
  exact ⟨ro, tn, q1, by rw [hf.1 _ _ h1]; exact q2, fun r hr => by rw [hf.1 _ _ (h2 _ (by omega))]; exact q3 r hr⟩
theorem pr_25 {M0 : kr_M} {b : Nat → Int32} {n g : Nat} {Q : kr_M → Prop} (hg' : g = 3 ∨ g = 64) : ∀ d i M P σ n', d + i = 31 → d < n' → (∀ M1, St M1 b n (glF b n d (P, σ)).2 → ((glF b n d (P, σ)).2.1 = none → CPg M1 g (glF b n d (P, σ)).1 ∧ PV (glF b n d (P, σ)).1) → Cq M1 g → Fx (gX g) M0 M1 → Wp (f_X6_parse_70 g M1) Q) → TC M b n → St M b n σ → (σ.1 = none → CPg M g P ∧ PV P ∧ P.1 0 = i) → Cq M g → Fx (gX g) M0 M → Wp (f_X6_parse_25 g n' (nI i) M) Q := by
  have hg : 3 ≤ g := by omega
  intro d
  induction d with
  | zero =>
    intro i M P σ n' h1 h2 h hT hS hG hq hF
    obtain ⟨m', rfl⟩ : ∃ m', n' = m' + 1 := ⟨n' - 1, by omega⟩
    rw [f_X6_parse_25]
    exact Wp_t (nI_le (a := 30) (by omega) (by omega)) (h M hS (fun q => ⟨(hG q).1, (hG q).2.1⟩) hq hF)
  | succ d ih =>
    intro i M P σ n' h1 h2 h hT hS hG hq hF
    obtain ⟨m', rfl⟩ : ∃ m', n' = m' + 1 := ⟨n' - 1, by omega⟩
    rw [f_X6_parse_25]
    obtain ⟨o, s⟩ := σ
    cases o with
    | some e =>
      have eg : glF b n (d + 1) (P, (some e, s)) = (P, (some e, s)) := by rw [glF, if_neg (fun q => absurd q.1 (by simp))]
      rw [eg] at h
      have h := h M hS (fun q => absurd q (by simp)) hq hF
      refine Wp_c (fun _ => h) (fun _ => ?_)
      refine Wp_letI ?_; intro v ev
      rw [hS.1] at ev
      subst ev
      exact Wp_t (nI_ne0 (by have := hS.2.1; omega) (by have := hS.2.2.1; omega)) h
    | none =>
      obtain ⟨hC, hV, hi⟩ := hG rfl
      have li := PV_li hV
      have st := hS
      obtain ⟨a1, a2, a3, a4, a5, a6, a7⟩ := st
      have kb := tk_b b n s
      refine Wp_f (nI_ge (b := 30) (by omega) (by omega)) ?_
      refine Wp_letI ?_; intro v ev
      rw [a1] at ev
      subst ev
      refine Wp_f (fun q => q rfl) ?_
      refine Wp_letI ?_; intro v ev
      rw [a4] at ev
      subst ev
      by_cases c : tk b n s = 0
      · have eg : glF b n (d + 1) (P, (none, s)) = (P, (none, s)) := by rw [glF, if_neg (fun q => q.2 c)]
        rw [eg] at h
        exact Wp_t (by rw [c]; rfl) (h M hS (fun q => ⟨hC, hV⟩) hq hF)
      · have eg : glF b n (d + 1) (P, (none, s)) = glF b n d (lnZ b n (P, (none, s))) := by rw [glF, if_pos ⟨rfl, c⟩]
        rw [eg] at h
        refine Wp_f (fun q => c ((nI_eq (b := 0) (by omega) (by omega)).mp q)) ?_
        refine Wp_bv _ (lc_ln hg' hT hS hC hV) (fun M3 ⟨b1, b2, b3, b4⟩ => ?_)
        have b4 : Fx (gX g) M M3 := b4
        refine Wp_bv _ (k_sign (hT.g hg b4) b1) (fun M5 ⟨c1, c2⟩ => ?_)
        refine Wp_letI ?_; intro v7 e7
        refine Wp_letI ?_; intro M8 e8
        have f8 : Fx (gX g) M5 M8 := by rw [← e8]; exact (Fx.refl M5).si _ (Or.inr ⟨by omega, by omega⟩)
        have fa : Fx (gX g) M M8 := (b4.trans (c2.mono (fun a j q => Or.inl q))).trans f8
        rw [show nI i + (1 : Int32) = nI (i + 1) by rw [L_1, nI_add]]
        refine ih (i + 1) M8 (lnZ b n (P, (none, s))).1 (lnZ b n (P, (none, s))).2 m' (by omega) (by omega) h (hT.g hg fa) ?_ (fun gq => ?_) ?_ (hF.trans fa)
        · rw [← e8]; exact St.si c1 _ (by omega)
        · have g1 : (ln b n P (none, s)).2.1 = none := sSign_g gq
          have hC3 := b2 g1
          have hC5 : CPg M5 g (ln b n P (none, s)).1 := hC3.fx hg (lf_tp c2)
          have z0 := hC5.1 0 (by omega)
          rw [ln_0] at z0
          rw [z0] at e7
          subst e7
          rw [show nI (P.1 0) + (1 : Int32) = nI (P.1 0 + 1) by rw [L_1, nI_add]] at e8
          refine ⟨?_, lnZ_v (z := (P, (none, s))) hV gq, ?_⟩
          · rw [← e8]; exact hC5.li
          · show P.1 0 + 1 = i + 1
            omega
        · rw [← e8]
          exact (b3.fx c2 (fun q => by have q : g = 1 ∧ 2 ≤ 6 ∧ 6 ≤ 7 := q; omega) (fun a ha q => by have q : a = 1 ∧ 2 ≤ 1 ∧ 1 ≤ 7 := q; omega)).fx (S := fun a j => a = g ∧ j = 0) ((Fx.refl M5).si _ ⟨rfl, rfl⟩) (fun q => by have q : g = g ∧ 6 = 0 := q; omega) (fun a ha q => by have q : a = g ∧ 1 = 0 := q; omega)
def P0 : GG := (fun _ => 0, fun _ _ => 0, fun _ _ _ => 0)
theorem PV_0 : PV P0 := by
  refine ⟨Or.inl ⟨rfl, fun j _ _ => rfl⟩, Nat.zero_le _, Nat.zero_le _, Nat.zero_le _, Nat.zero_le _, Nat.zero_le _, Nat.zero_le _, fun k hk => ?_, fun k hk => ?_, fun k hk => ?_, fun k hk => ?_, fun w v _ hw => ?_⟩
  · have hk : k < 0 := hk; omega
  · have hk : k < 0 := hk; omega
  · have hk : k < 0 := hk; omega
  · have hk : k < 0 := hk; omega
  · have hw : w < 0 := hw; omega
def glA (b : Nat → Int32) (n : Nat) : GG × SG := glF b n 31 (P0, (none, run wsB b n 0))
theorem CPg.fb {M M' : kr_M} {g : Nat} {P : GG} (h5 : P.1 5 ≤ 10) (h : CPg M g P) (hf : Fx (bS g) M M') : CPg M' g P := by
  obtain ⟨h0, h1, h2, h3, h4⟩ := h
  refine ⟨fun j hj => ?_, fun k hk => ?_, fun w hw => ?_, fun r hr => ?_, fun p hp => ?_⟩
  · rw [hf.1 g j (fun q => by unfold bS pS at q; omega)]; exact h0 j hj
  · rw [hf.1 (g + 1) k (fun q => by unfold bS pS at q; omega), hf.1 (g + 2) k (fun q => by unfold bS pS at q; omega)]; exact h1 k hk
  · obtain ⟨q1, q2, q3⟩ := h2 w hw
    refine ⟨?_, ?_, fun i hi => ?_⟩
    · rw [hf.1 _ _ (fun q => by unfold bS pS at q; omega)]; exact q1
    · rw [hf.1 _ _ (fun q => by unfold bS pS at q; omega)]; exact q2
    · rw [hf.1 _ _ (fun q => by unfold bS pS at q; omega)]; exact q3 i hi
  · obtain ⟨q1, q2, q3, q4, q5⟩ := h3 r hr
    refine ⟨?_, ?_, ?_, ?_, fun i hi => ?_⟩
    · rw [hf.1 _ _ (fun q => by unfold bS pS at q; omega)]; exact q1
    · rw [hf.1 _ _ (fun q => by unfold bS pS at q; omega)]; exact q2
    · rw [hf.1 _ _ (fun q => by unfold bS pS at q; omega)]; exact q3
    · rw [hf.1 _ _ (fun q => by unfold bS pS at q; omega)]; exact q4
    · rw [hf.1 _ _ (fun q => by unfold bS pS at q; omega)]; exact q5 i hi
  · obtain ⟨q1, q2, q3⟩ := h4 p hp
    refine ⟨?_, ?_, ?_⟩
    · rw [hf.1 _ _ (fun q => by unfold bS pS at q; omega)]; exact q1
    · rw [hf.1 _ _ (fun q => by unfold bS pS at q; omega)]; exact q2
    · rw [hf.1 _ _ (fun q => by unfold bS pS at q; omega)]; exact q3
/-- what the class knows once all is read -/
def PCs (M : kr_M) (g : Nat) (z : GG × SG) (M' : kr_M) : Prop := (z.2.1 = none → M'.1 1 2 = 0 ∧ M'.1 1 3 = -1 ∧ CPg M' g z.1 ∧ PV z.1 ∧ M'.1 g 8 = 0 ∧ M'.1 g 9 = 0 ∧ (∀ p, p < 6 → M'.1 (g + 9) p = M'.1 (g + 8) p) ∧ ∀ r, r < z.1.1 6 → M'.1 (g + 31 + 5 * r) 3 = 0 ∧ M'.1 (g + 34 + 5 * r) 1 = nI (z.1.2.1 7 r) ∧ ∀ i, i < z.1.2.1 7 r → M'.1 (g + 35 + 5 * r) i = M'.1 (g + 33 + 5 * r) i) ∧ (∀ e, z.2.1 = some e → M'.1 1 2 = nI e.1 ∧ 1 ≤ e.1 ∧ e.1 ≤ 3 ∧ M'.1 1 3 = nI e.2) ∧ Fx (gX g) M M'
theorem pr_70 {M0 M : kr_M} {b : Nat → Int32} {n g : Nat} {z : GG × SG} (hg' : g = 3 ∨ g = 64) (hS : St M b n z.2) (hC : z.2.1 = none → CPg M g z.1 ∧ PV z.1) (hq : Cq M g) (hF : Fx (gX g) M0 M) : Wp (f_X6_parse_70 g M) (PCs M0 g z) := by
  obtain ⟨P, o, s⟩ := z
  have key : ∀ ro tn, ro ≤ 6 → M.1 g 6 = nI ro → (∀ r, r < ro → M.1 (g + 31 + 5 * r + 1) 1 = nI (tn r) ∧ tn r ≤ 12) → Wp (f_X6_parse_70 g M) (fun M' => BT M g tn ro M' ∧ M'.1 g 8 = 0 ∧ M'.1 g 9 = 0 ∧ (∀ p, p < 6 → M'.1 (g + 9) p = M.1 (g + 8) p) ∧ Fx (bS g) M M') := fun ro tn q1 q2 q3 => by
    unfold f_X6_parse_70
    exact Wp_bv _ (beT_ok hg' q1 q2 q3) (fun M' q => Wp_some q)
  have fg : ∀ {M'}, Fx (bS g) M M' → Fx (gX g) M0 M' := fun h => hF.trans (h.mono (fun a j q => Or.inr (by unfold bS pS at q; omega)))
  have one : ∀ {M'}, Fx (bS g) M M' → ∀ j, M'.1 1 j = M.1 1 j := fun h j => h.1 1 j (fun q => by unfold bS pS at q; omega)
  cases o with
  | none =>
    obtain ⟨hC, hV⟩ := hC rfl
    have hV' := hV
    obtain ⟨v0, v1, v2, v3, v4, v5, v6, vk, vw, vr, vp, vd⟩ := hV'
    refine Wp_mono (key (P.1 6) (fun r => P.2.1 7 r) v5 (hC.1 6 (by omega)) (fun r hr => ⟨by rw [show g + 31 + 5 * r + 1 = g + 32 + 5 * r by omega]; exact (hC.2.2.2.1 r hr).2.2.2.1, (vr r hr).2.2.2.2.2.2.1⟩)) (fun M' ⟨q1, q2, q3, q4, q5⟩ => ⟨fun _ => ⟨?_, ?_, hC.fb v4 q5, hV, q2, q3, fun p hp => ?_, fun r hr => ?_⟩, fun e he => absurd he (by simp), fg q5⟩)
    · rw [one q5]; exact hS.1
    · rw [one q5]; exact hS.2.1
    · rw [q4 p hp, q5.1 (g + 8) p (fun q => by unfold bS pS at q; omega)]
    · have hr : r < P.1 6 := hr
      obtain ⟨x1, x2, x3⟩ := q1 r hr
      refine ⟨x1, ?_, fun i hi => ?_⟩
      · rw [show g + 34 + 5 * r = g + 31 + 5 * r + 3 by omega]; exact x2
      · rw [show g + 35 + 5 * r = g + 31 + 5 * r + 3 + 1 by omega, x3 i hi, q5.1 (g + 33 + 5 * r) i (fun q => by unfold bS pS at q; omega), show g + 33 + 5 * r = g + 31 + 5 * r + 1 + 1 by omega]
  | some e =>
    obtain ⟨ro, tn, q1, q2, q3⟩ := hq
    refine Wp_mono (key ro tn q1 q2 q3) (fun M' ⟨q1, q2, q3, q4, q5⟩ => ⟨fun q => absurd q (by simp), fun e' he => ?_, fg q5⟩)
    have he : e = e' := by simpa using he
    subst he
    obtain ⟨a1, a2, a3, a4, a5⟩ := hS
    exact ⟨by rw [one q5]; exact a1, a2, a3, by rw [one q5]; exact a4⟩
theorem pr_ok {M : kr_M} {b : Nat → Int32} {n g : Nat} (hg' : g = 3 ∨ g = 64) (hT : TC M b n) : Wp (f_X6_parse g M) (PCs M g (glA b n)) := by
  have hg : 3 ≤ g := by omega
  unfold f_X6_parse
  have fgt : Wp (f_X2_forget g M) (fun M1 => (∀ j, j < 10 → M1.1 g j = 0) ∧ Fx (fun a _ => a = g) M M1) := by
    unfold f_X2_forget
    refine Wp_letI ?_; intro m1 e1
    refine Wp_letI ?_; intro m2 e2
    refine Wp_letI ?_; intro m3 e3
    refine Wp_letI ?_; intro m4 e4
    refine Wp_letI ?_; intro m5 e5
    refine Wp_letI ?_; intro m6 e6
    refine Wp_letI ?_; intro m7 e7
    refine Wp_letI ?_; intro m8 e8
    refine Wp_letI ?_; intro m9 e9
    refine Wp_letI ?_; intro m10 e10
    refine Wp_some ⟨fun j hj => ?_, ?_⟩
    · rw [← e10, ← e9, ← e8, ← e7, ← e6, ← e5, ← e4, ← e3, ← e2, ← e1]
      simp only [kg_si, true_and]
      by_cases c9 : j = 9
      · rw [if_pos c9]
      rw [if_neg c9]
      by_cases c8 : j = 8
      · rw [if_pos c8]
      rw [if_neg c8]
      by_cases c7 : j = 7
      · rw [if_pos c7]
      rw [if_neg c7]
      by_cases c6 : j = 6
      · rw [if_pos c6]
      rw [if_neg c6]
      by_cases c5 : j = 5
      · rw [if_pos c5]
      rw [if_neg c5]
      by_cases c4 : j = 4
      · rw [if_pos c4]
      rw [if_neg c4]
      by_cases c3 : j = 3
      · rw [if_pos c3]
      rw [if_neg c3]
      by_cases c2 : j = 2
      · rw [if_pos c2]
      rw [if_neg c2]
      by_cases c1 : j = 1
      · rw [if_pos c1]
      rw [if_neg c1, if_pos (by omega)]
    · rw [← e10, ← e9, ← e8, ← e7, ← e6, ← e5, ← e4, ← e3, ← e2, ← e1]
      have s : ∀ (A : kr_M) (k : Nat), Fx (fun a _ => a = g) M A → Fx (fun a _ => a = g) M (kr_si A g k 0) := fun A k h => h.si _ rfl
      exact s _ _ (s _ _ (s _ _ (s _ _ (s _ _ (s _ _ (s _ _ (s _ _ (s _ _ (s _ _ (Fx.refl M))))))))))
  refine Wp_bv _ fgt (fun M1 ⟨q1, q2⟩ => ?_)
  refine Wp_letI ?_; intro M3 e3
  refine Wp_letI ?_; intro M4 e4
  refine Wp_letI ?_; intro M5 e5
  have f1 : Fx (gX g) M M1 := q2.mono (fun a j q => Or.inr (by have q : a = g := q; omega))
  have f5 : Fx tpX M1 M5 := by rw [← e5, ← e4, ← e3]; exact (((Fx.refl M1).si _ ⟨rfl, by omega, by omega⟩).si _ ⟨rfl, by omega, by omega⟩).si _ ⟨rfl, by omega, by omega⟩
  have x2 : M5.1 1 2 = 0 := by rw [← e5, kg_si, if_neg (by omega), ← e4, kg_si, if_neg (by omega), ← e3, kr_si_at]
  have x3 : M5.1 1 3 = -1 := by rw [← e5, kg_si, if_neg (by omega), ← e4, kr_si_at]
  have x6 : M5.1 1 6 = nI 0 := by rw [← e5, kr_si_at]; rfl
  have hT5 : TC M5 b n := (hT.g hg f1).tp f5
  refine Wp_bv _ (c_next hT5 x2 (Nat.zero_le _) x6) (fun M6 ⟨c1, c2⟩ => ?_)
  have c2' := tn_tp c2
  have fa : Fx (gX g) M M6 := (f1.trans (f5.mono (fun a j q => Or.inl q))).trans (c2'.mono (fun a j q => Or.inl q))
  have z : ∀ j, j < 10 → M6.1 g j = 0 := fun j hj => by
    rw [c2'.1 g j (fun q => by have q : g = 1 ∧ 2 ≤ j ∧ j ≤ 7 := q; omega), f5.1 g j (fun q => by have q : g = 1 ∧ 2 ≤ j ∧ j ≤ 7 := q; omega)]
    exact q1 j hj
  refine pr_25 (M0 := M) (b := b) (n := n) hg' 31 0 M6 P0 (none, run wsB b n 0) kr_F (by omega) (kr_F_gt _ (by omega)) (fun M1 h1 h2 h3 h4 => pr_70 hg' h1 h2 h3 h4) (hT.g hg fa) ⟨?_, ?_, c1⟩ (fun _ => ⟨⟨fun j hj => ?_, fun k hk => ?_, fun k hk => ?_, fun k hk => ?_, fun k hk => ?_⟩, PV_0, rfl⟩) ⟨0, fun _ => 0, by omega, z 6 (by omega), fun r hr => by omega⟩ fa
  · rw [c2.1 1 2 (fun q => by have q : 1 = 1 ∧ 4 ≤ 2 ∧ 2 ≤ 7 := q; omega)]; exact x2
  · rw [c2.1 1 3 (fun q => by have q : 1 = 1 ∧ 4 ≤ 3 ∧ 3 ≤ 7 := q; omega)]; exact x3
  · exact z j (by omega)
  · have hk : k < 0 := hk; omega
  · have hk : k < 0 := hk; omega
  · have hk : k < 0 := hk; omega
  · have hk : k < 0 := hk; omega
