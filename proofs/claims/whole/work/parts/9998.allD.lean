/-! all, order of the class: the table, the way, the ops -/
theorem st_22 : ∀ S, S < 64 → ∀ r, r < 6 → S.testBit r = true → ¬ (S - 2 ^ r).testBit r = true := by decide +kernel
theorem st_23 : ∀ L, L < 64 → ∀ S, S < 64 → S &&& L = S → ∀ r, r < 6 → S.testBit r = true → (S - 2 ^ r) &&& L = S - 2 ^ r := by decide +kernel
theorem ls_any (a b : Int32) (M : kr_M) : ∃ z, f_X11_lesser a b M = some (z, M) := by
  unfold f_X11_lesser
  by_cases c : a = -1
  · exact ⟨b, by rw [if_neg (fun q => q c)]⟩
  · by_cases d : b = -1
    · exact ⟨a, by rw [if_pos c, if_neg (fun q => q d)]⟩
    · exact ⟨kr_min a b, by rw [if_pos c, if_pos d]⟩
theorem kb_any {M : kr_M} {g S l r : Nat} (hS : S < 64) (hl : l < 6) (hr : r < 6) (hb : S.testBit r = true) : ∃ z, f_X0_knotsBy g (nI S) (nI l) (nI r) M = some (z, M) := by
  obtain ⟨s1, s2, s3, s4, s5⟩ := st_20 S hS r hr hb
  have key : Wp (f_X0_knotsBy g (nI S) (nI l) (nI r) M) (fun z => z.2 = M) := by
    unfold f_X0_knotsBy
    refine Wp_t (fun q => (nI_m1 (by omega)).mp q) ?_
    rw [show nI l * (6 : Int32) + nI r = nI (6 * l + r) by rw [L_6, pk_mul, nI_add, Nat.mul_comm l 6]]
    refine Wp_t ((kin_I (by omega)).mpr (by omega)) ?_
    refine Wp_letI ?_; intro v ev
    unfold f_X0_knotsBy_21
    refine Wp_letI ?_; intro v2 ev2
    rw [(st_9 r (by omega)).1, s5] at ev2
    subst ev2
    refine Wp_t ((kin_I (by omega)).mpr (by omega)) ?_
    refine Wp_letI ?_; intro v3 ev3
    rw [show nI (S - 2 ^ r) * (6 : Int32) + nI r = nI (6 * (S - 2 ^ r) + r) by rw [L_6, pk_mul, nI_add, Nat.mul_comm]]
    refine Wp_t ((kin_I (by omega)).mpr (by omega)) ?_
    refine Wp_letI ?_; intro v4 ev4
    exact Wp_some rfl
  obtain ⟨⟨z, M'⟩, e, p⟩ := key
  have p : M' = M := p
  subst p
  exact ⟨z, e⟩
theorem aN_b {G : GG} {V : Nat → Nat → Nat} (hV : GV G) (hv : ∀ S l, S < 64 → V S l ≤ 24 * pc S) {S l r : Nat} (hS : S < 64) (hr : r < gRo G) : aN G V S l r ≤ 1000 ∧ V (S - 2 ^ r) r ≤ 1000 := by
  obtain ⟨vLi, v0, vPl, vWe, vOd, vKi, vWo, vRo, vPe, vWt, vAc, vIn, vWa, vL, vMn, vW, vA, vB, vAB, vLd, vCr, vN, vK, vWg, vPc, vSt, vD⟩ := hV
  have a1 := (vN r hr).2
  have a0 : S - 2 ^ r < 64 := Nat.lt_of_le_of_lt (Nat.sub_le _ _) hS
  have a2 := hv (S - 2 ^ r) r a0
  have a3 := (st_pc (S - 2 ^ r) a0).1
  unfold aN
  omega
def alM (z : Option (Nat × Nat)) (S : Nat) : Int32 := match z with
  | none => if S = 0 then 0 else -1
  | some (m, _) => nI m
theorem alM_V {G : GG} {V : Nat → Nat → Nat} (hZ0 : ∀ l, V 0 l = 0) (hZ : ∀ S l, S < 64 → V S l = match aS G V S l (gRo G) with
    | none => 0
    | some (m, _) => m) {S l : Nat} (hS : S < 64) (hS2 : S < 2 ^ gRo G) : alM (aS G V S l (gRo G)) S = nI (V S l) := by
  have zf := hZ S l hS
  cases e : aS G V S l (gRo G) with
  | none =>
    have e0 := st_21 hS2 (aS_n _ e)
    subst e0
    rw [hZ0]
    rfl
  | some y =>
    obtain ⟨m, a⟩ := y
    rw [e] at zf
    have zf : V S l = m := zf
    rw [zf]
    rfl
theorem ss_24 {M : kr_M} {g S l : Nat} {G : GG} {V : Nat → Nat → Nat} {K : Int32 → kr_M → Option kr_M} {Q : kr_M → Prop} (hM : alC M g G V S) (hS : S < 64) (hsub : S &&& laS G (gRo G) = S) (hl : l < gRo G) (hv : ∀ S l, S < 64 → V S l ≤ 24 * pc S) (h : ∀ z, (¬ S.testBit l = true → z = alM (aS G V S l (gRo G)) S) → Wp (K (nI (l + 1)) (kr_si M 332 (6 * S + l) z)) Q) : ∀ n' r z, r ≤ gRo G → gRo G - r < n' → (¬ S.testBit l = true → z = alM (aS G V S l r) S) → Wp (f_X0_studySet_24 K g (nI S) (nI l) n' z (nI r) M) Q := by
  have hK := hM.1
  have hV := hK.V
  have hV' := hV
  obtain ⟨vLi, v0, vPl, vWe, vOd, vKi, vWo, vRo, vPe, vWt, vAc, vIn, vWa, vL, vMn, vW, vA, vB, vAB, vLd, vCr, vN, vK, vWg, vPc, vSt, vD⟩ := hV'
  have hC := hK.C
  obtain ⟨c0, cPl, cWe, cOd, cKi, cWo, cRo, cPe, cWt, cAc, cIn, cWa, cL, cMn, cW, cA, cB, cLd, cCr, cN, cK, cWg, cPc, cSt⟩ := hC
  have L64 : laS G (gRo G) < 64 := Nat.lt_of_lt_of_le (laS_lt G (gRo G)) (st_9 (gRo G) (by omega)).2.2
  intro n'
  induction n' with
  | zero => intro r z h1 h2; omega
  | succ n' ih =>
    intro r z h1 h2 hx
    rw [f_X0_studySet_24]
    refine Wp_letI ?_; intro v ev
    rw [cRo] at ev
    subst ev
    by_cases c : r = gRo G
    · subst c
      refine Wp_t (nI_le (Nat.le_refl _) (by omega)) ?_
      unfold f_X0_studySet_64
      rw [show nI S * (6 : Int32) + nI l = nI (6 * S + l) by rw [L_6, pk_mul, nI_add, Nat.mul_comm]]
      refine Wp_t ((kin_I (by omega)).mpr (by omega)) ?_
      refine Wp_letI ?_; intro M1 e1
      rw [nI_clamp (by omega)] at e1
      rw [L_1, nI_add, ← e1]
      exact h z hx
    · have hr : r < gRo G := by omega
      refine Wp_f (nI_ge (by omega) (by omega)) ?_
      rw [st_8 S hS r (by omega)]
      by_cases d : S.testBit r = true
      · rw [if_pos d]
        refine Wp_f (by decide) ?_
        obtain ⟨n1, n2⟩ := aN_b (l := l) hV hv hS hr
        have ex : ∃ y, f_X0_knotsBy g (nI S) (nI l) (nI r) M = some (y, M) ∧ (¬ S.testBit l = true → y = nI (aN G V S l r)) := by
          by_cases b : S.testBit l = true
          · obtain ⟨y, hy⟩ := kb_any (M := M) (g := g) hS (show l < 6 by omega) (show r < 6 by omega) d
            exact ⟨y, hy, fun q => absurd b q⟩
          · have hne : l ≠ r := fun q => b (by rw [q]; exact d)
            have kk := kb_ok (l := l) hM hS (Nat.le_refl _) hsub hr d (Or.inr ⟨hl, hne⟩) n2 (st_23 _ L64 S hS hsub r (by omega) d) (st_22 S hS r (by omega) d)
            rw [if_neg (by omega : ¬ l = 6)] at kk
            exact ⟨_, kk, fun _ => rfl⟩
        obtain ⟨y, hy, hy2⟩ := ex
        rw [hy]
        refine Wp_bis ?_
        obtain ⟨w, hw⟩ := ls_any z y M
        rw [hw]
        refine Wp_bis ?_
        unfold f_X0_studySet_58
        rw [L_1, nI_add]
        refine ih (r + 1) w (by omega) (by omega) (fun q => ?_)
        have es : aS G V S l (r + 1) = (match aS G V S l r with
          | none => some (aN G V S l r, r)
          | some (m, a) => if m ≤ aN G V S l r then some (m, a) else some (aN G V S l r, r)) := if_pos d
        have hx' := hx q
        have hy' := hy2 q
        rw [hx', hy'] at hw
        have S0 : ¬ S = 0 := by intro e; subst e; simp at d
        rw [es]
        cases e : aS G V S l r with
        | none =>
          rw [e] at hw
          have hw : f_X11_lesser (if S = 0 then 0 else -1) (nI (aN G V S l r)) M = some (w, M) := hw
          rw [if_neg S0, lesser_m] at hw
          have hw : nI (aN G V S l r) = w := by injection hw with hw; injection hw
          rw [← hw]
          rfl
        | some y =>
          obtain ⟨m, a⟩ := y
          rw [e] at hw
          have hw : f_X11_lesser (nI m) (nI (aN G V S l r)) M = some (w, M) := hw
          obtain ⟨q1, q2, q3⟩ := aS_b hS r (by omega) e
          have n3 := (aN_b (l := l) hV hv hS (show a < gRo G by omega)).1
          rw [lesser_n (by omega) (by omega)] at hw
          have hw : nI (min m (aN G V S l r)) = w := by injection hw with hw; injection hw
          rw [← hw]
          show nI (min m (aN G V S l r)) = alM (if m ≤ aN G V S l r then some (m, a) else some (aN G V S l r, r)) S
          by_cases k : m ≤ aN G V S l r
          · rw [if_pos k, Nat.min_eq_left k]; rfl
          · rw [if_neg k, Nat.min_eq_right (by omega)]; rfl
      · rw [if_neg d]
        refine Wp_t rfl ?_
        unfold f_X0_studySet_58
        rw [L_1, nI_add]
        refine ih (r + 1) z (by omega) (by omega) ?_
        rw [show aS G V S l (r + 1) = aS G V S l r from if_neg d]
        exact hx
theorem alC_si {M : kr_M} {g S l : Nat} {G : GG} {V : Nat → Nat → Nat} (hM : alC M g G V S) (hl : l < 6) (z : Int32) : alC (kr_si M 332 (6 * S + l) z) g G V S := by
  obtain ⟨a1, a2, a3, a4⟩ := hM
  have hV := a1.V
  obtain ⟨vLi, v0, vPl, vWe, vOd, vKi, vWo, vRo, vPe, vWt, vAc, vIn, vWa, vL, vMn, vW, vA, vB, vAB, vLd, vCr, vN, vK, vWg, vPc, vSt, vD⟩ := hV
  have hf : Fx alX M (kr_si M 332 (6 * S + l) z) := (Fx.refl M).si _ (Or.inr (Or.inr rfl))
  refine ⟨a1.fr (hf.fr al_s), fun a b q1 q2 => ?_, ?_, fun S' h1 h2 l' h3 h4 => ?_⟩
  · rw [kg_si, if_neg (by omega)]; exact a2 a b q1 q2
  · rw [kg_si, if_neg (by omega)]; exact a3
  · rw [kg_si, if_neg (by omega)]; exact a4 S' h1 h2 l' h3 h4
theorem ss_2 {M0 : kr_M} {g S : Nat} {G : GG} {V : Nat → Nat → Nat} (hS : S < 64) (hS2 : S < 2 ^ gRo G) (hsub : S &&& laS G (gRo G) = S) (hZ0 : ∀ l, V 0 l = 0) (hZ : ∀ S l, S < 64 → V S l = match aS G V S l (gRo G) with
    | none => 0
    | some (m, _) => m) (hv : ∀ S l, S < 64 → V S l ≤ 24 * pc S) : ∀ n' l M, l ≤ gRo G → gRo G - l < n' → alC M g G V S → (∀ l', l' < l → ¬ S.testBit l' = true → M.1 332 (6 * S + l') = nI (V S l')) → Fx alX M0 M → Wp (f_X0_studySet_2 g (nI S) n' (nI l) M) (fun M' => alC M' g G V (S + 1) ∧ Fx alX M0 M') := by
  intro n'
  induction n' with
  | zero => intro l M h1 h2; omega
  | succ n' ih =>
    intro l M h1 h2 hM hT hF
    have hK := hM.1
    have hV := hK.V
    obtain ⟨vLi, v0, vPl, vWe, vOd, vKi, vWo, vRo, vPe, vWt, vAc, vIn, vWa, vL, vMn, vW, vA, vB, vAB, vLd, vCr, vN, vK, vWg, vPc, vSt, vD⟩ := hV
    have hC := hK.C
    obtain ⟨c0, cPl, cWe, cOd, cKi, cWo, cRo, cPe, cWt, cAc, cIn, cWa, cL, cMn, cW, cA, cB, cLd, cCr, cN, cK, cWg, cPc, cSt⟩ := hC
    rw [f_X0_studySet_2]
    refine Wp_letI ?_; intro v ev
    rw [cRo] at ev
    subst ev
    by_cases c : l = gRo G
    · subst c
      refine Wp_t (nI_le (Nat.le_refl _) (by omega)) (Wp_some ⟨⟨hM.1, hM.2.1, hM.2.2.1, fun S' h1 h2 l' h3 h4 => ?_⟩, hF⟩)
      by_cases e : S' = S
      · subst e; exact hT l' h3 h4
      · exact hM.2.2.2 S' (by omega) h2 l' h3 h4
    · have hl : l < gRo G := by omega
      refine Wp_f (nI_ge (by omega) (by omega)) ?_
      have go : ∀ z, z = (if S = 0 then (0 : Int32) else -1) → Wp (f_X0_studySet_19 (f_X0_studySet_2 g (nI S) n') g (nI S) (nI l) z M) (fun M' => alC M' g G V (S + 1) ∧ Fx alX M0 M') := fun z hz => by
        unfold f_X0_studySet_19
        refine ss_24 hM hS hsub hl hv (fun y hy => ?_) kr_F 0 z (by omega) (kr_F_gt _ (by omega)) (fun _ => hz)
        refine ih (l + 1) _ (by omega) (by omega) (alC_si hM (by omega) y) (fun l' q1 q2 => ?_) (hF.trans ((Fx.refl M).si _ (Or.inr (Or.inr rfl))))
        rw [kg_si]
        by_cases e : l' = l
        · subst e
          rw [if_pos ⟨rfl, rfl⟩, hy q2, alM_V hZ0 hZ hS hS2]
        · rw [if_neg (by omega)]
          exact hT l' (by omega) q2
      by_cases e : S = 0
      · refine Wp_f (fun q => q (by rw [e]; rfl)) (go 0 (by rw [if_pos e]))
      · refine Wp_t (fun q => e ((nI_eq (b := 0) (by omega) (by omega)).mp q)) (go (-1) (by rw [if_neg e]))
theorem al_110 {M0 : kr_M} {g : Nat} {G : GG} {V : Nat → Nat → Nat} (hV : GV G) (hZ0 : ∀ l, V 0 l = 0) (hZ : ∀ S l, S < 64 → V S l = match aS G V S l (gRo G) with
    | none => 0
    | some (m, _) => m) (hv : ∀ S l, S < 64 → V S l ≤ 24 * pc S) : ∀ n' S M, S ≤ laS G (gRo G) + 1 → laS G (gRo G) + 1 - S < n' → alC M g G V S → Fx alX M0 M → Wp (f_X0_lay_110 g n' (nI S) M) (fun M' => alC M' g G V (laS G (gRo G) + 1) ∧ Fx alX M0 M') := by
  obtain ⟨vLi, v0, vPl, vWe, vOd, vKi, vWo, vRo, vPe, vWt, vAc, vIn, vWa, vL, vMn, vW, vA, vB, vAB, vLd, vCr, vN, vK, vWg, vPc, vSt, vD⟩ := hV
  have lt := laS_lt G (gRo G)
  have l64 := (st_9 (gRo G) (by omega)).2.2
  intro n'
  induction n' with
  | zero => intro S M h1 h2; omega
  | succ n' ih =>
    intro S M h1 h2 hM hF
    rw [f_X0_lay_110]
    refine Wp_letI ?_; intro v ev
    rw [hM.2.2.1] at ev
    subst ev
    by_cases c : S = laS G (gRo G) + 1
    · subst c
      exact Wp_t ((nI_ltI (by omega) (by omega)).mpr (by omega)) (Wp_some ⟨hM, hF⟩)
    · refine Wp_f (fun q => c (by have := (nI_ltI (by omega) (by omega)).mp q; omega)) ?_
      refine Wp_letI ?_; intro v ev
      rw [hM.2.2.1] at ev
      subst ev
      have z2 := st_2 (laS G (gRo G)) (by omega) S (by omega)
      by_cases d : S &&& laS G (gRo G) = S
      · refine Wp_f (fun q => q (z2.mpr d)) ?_
        unfold f_X0_studySet
        refine Wp_bv _ (ss_2 (M0 := M0) (by omega) (by omega) d hZ0 hZ hv kr_F 0 M (by omega) (kr_F_gt _ (by omega)) hM (fun l' q => by omega) hF) (fun M2 ⟨q1, q2⟩ => ?_)
        unfold f_X0_lay_135
        rw [L_1, nI_add]
        exact ih (S + 1) M2 (by omega) (by omega) q1 q2
      · refine Wp_t (fun q => d (z2.mp q)) ?_
        unfold f_X0_lay_135
        rw [L_1, nI_add]
        refine ih (S + 1) M (by omega) (by omega) ⟨hM.1, hM.2.1, hM.2.2.1, fun S' h1 h2 l' h3 h4 => ?_⟩ hF
        by_cases e : S' = S
        · rw [e] at h2; exact absurd h2 d
        · exact hM.2.2.2 S' (by omega) h2 l' h3 h4
theorem al_44 {M0 : kr_M} {g : Nat} {G : GG} {V : Nat → Nat → Nat} (hV : GV G) (hZ0 : ∀ l, V 0 l = 0) (hZ : ∀ S l, S < 64 → V S l = match aS G V S l (gRo G) with
    | none => 0
    | some (m, _) => m) (hv : ∀ S l, S < 64 → V S l ≤ 24 * pc S) : ∀ n' a M, a ≤ gRo G → gRo G - a < n' → KS M g G → (∀ a' b, a' < a → b < gRo G → M.1 331 (6 * a' + b) = nI (ovC G a' b)) → M.1 330 0 = nI (laS G (gRo G)) → Fx alX M0 M → Wp (f_X0_lay_44 g n' (nI a) M) (fun M' => alC M' g G V (laS G (gRo G) + 1) ∧ Fx alX M0 M') := by
  have hV' := hV
  obtain ⟨vLi, v0, vPl, vWe, vOd, vKi, vWo, vRo, vPe, vWt, vAc, vIn, vWa, vL, vMn, vW, vA, vB, vAB, vLd, vCr, vN, vK, vWg, vPc, vSt, vD⟩ := hV'
  have lt := laS_lt G (gRo G)
  have l64 := (st_9 (gRo G) (by omega)).2.2
  intro n'
  induction n' with
  | zero => intro a M h1 h2; omega
  | succ n' ih =>
    intro a M h1 h2 hK hO hS hF
    have hC := hK.C
    obtain ⟨c0, cPl, cWe, cOd, cKi, cWo, cRo, cPe, cWt, cAc, cIn, cWa, cL, cMn, cW, cA, cB, cLd, cCr, cN, cK, cWg, cPc, cSt⟩ := hC
    rw [f_X0_lay_44]
    refine Wp_letI ?_; intro v ev
    rw [cRo] at ev
    subst ev
    by_cases c : a = gRo G
    · subst c
      refine Wp_t (nI_le (Nat.le_refl _) (by omega)) ?_
      unfold f_X0_lay_108
      exact al_110 hV hZ0 hZ hv kr_F 0 M (by omega) (kr_F_gt _ (by omega)) ⟨hK, hO, hS, fun S' q => by omega⟩ hF
    · refine Wp_f (nI_ge (by omega) (by omega)) ?_
      refine al_54 (M0 := M0) (show a < gRo G by omega) (fun M' q1 q2 q3 q4 => ?_) kr_F 0 M (by omega) (kr_F_gt _ (by omega)) hK hO (fun b' q => by omega) hS hF
      exact ih (a + 1) M' (by omega) (by omega) q1 q2 q3 q4
theorem lay_ok {M : kr_M} {g : Nat} {G : GG} {V : Nat → Nat → Nat} (hK : KS M g G) (hZ0 : ∀ l, V 0 l = 0) (hZ : ∀ S l, S < 64 → V S l = match aS G V S l (gRo G) with
    | none => 0
    | some (m, _) => m) (hv : ∀ S l, S < 64 → V S l ≤ 24 * pc S) : Wp (f_X0_lay g M) (fun M' => alC M' g G V (laS G (gRo G) + 1) ∧ Fx alX M M') := by
  have hV := hK.V
  have hV' := hV
  obtain ⟨vLi, v0, vPl, vWe, vOd, vKi, vWo, vRo, vPe, vWt, vAc, vIn, vWa, vL, vMn, vW, vA, vB, vAB, vLd, vCr, vN, vK, vWg, vPc, vSt, vD⟩ := hV'
  unfold f_X0_lay
  refine Wp_letI ?_; intro M1 e1
  have hf : Fx alX M M1 := by rw [← e1]; exact (Fx.refl M).si _ (Or.inl rfl)
  refine al_7 (M0 := M) (fun M' q1 q2 q3 => ?_) kr_F 0 M1 (by omega) (kr_F_gt _ (by omega)) (hK.fr (hf.fr al_s)) (by rw [← e1, kr_si_at]; rfl) hf
  unfold f_X0_lay_42
  exact al_44 hV hZ0 hZ hv kr_F 0 M' (by omega) (kr_F_gt _ (by omega)) q1 (fun a' b q => by omega) q2 q3
/-- the rope that comes first -/
def alA (z : Option (Nat × Nat)) : Int32 := match z with
  | none => -1
  | some (_, a) => nI a
theorem fn_6 {M : kr_M} {g S l : Nat} {G : GG} {V : Nat → Nat → Nat} (hM : alC M g G V (laS G (gRo G) + 1)) (hS : S < 64) (hsub : S &&& laS G (gRo G) = S) (hl : l = 6 ∨ (l < gRo G ∧ ¬ S.testBit l = true)) (hv : ∀ S l, S < 64 → V S l ≤ 24 * pc S) : ∀ n' r, r ≤ gRo G → gRo G - r < n' → f_X0_firstNext_6 g (nI S) (if l = 6 then -1 else nI l) n' (alA (aS G V S l r)) (nI r) M = some (alA (aS G V S l (gRo G)), M) := by
  have hK := hM.1
  have hV := hK.V
  have hV' := hV
  obtain ⟨vLi, v0, vPl, vWe, vOd, vKi, vWo, vRo, vPe, vWt, vAc, vIn, vWa, vL, vMn, vW, vA, vB, vAB, vLd, vCr, vN, vK, vWg, vPc, vSt, vD⟩ := hV'
  have hC := hK.C
  obtain ⟨c0, cPl, cWe, cOd, cKi, cWo, cRo, cPe, cWt, cAc, cIn, cWa, cL, cMn, cW, cA, cB, cLd, cCr, cN, cK, cWg, cPc, cSt⟩ := hC
  have L64 : laS G (gRo G) < 64 := Nat.lt_of_lt_of_le (laS_lt G (gRo G)) (st_9 (gRo G) (by omega)).2.2
  have Sle : S ≤ laS G (gRo G) := by rw [← hsub]; exact Nat.and_le_right
  have kk : ∀ r, r < gRo G → S.testBit r = true → f_X0_knotsBy g (nI S) (if l = 6 then -1 else nI l) (nI r) M = some (nI (aN G V S l r), M) := fun r hr d => by
    refine kb_ok (l := l) hM hS (by omega) hsub hr d ?_ (aN_b (l := l) hV hv hS hr).2 (st_23 _ L64 S hS hsub r (by omega) d) (st_22 S hS r (by omega) d)
    rcases hl with e | ⟨e1, e2⟩
    · exact Or.inl e
    · exact Or.inr ⟨e1, fun q => e2 (by rw [q]; exact d)⟩
  intro n'
  induction n' with
  | zero => intro r h1 h2; omega
  | succ n' ih =>
    intro r h1 h2
    apply Wp_eq
    rw [f_X0_firstNext_6]
    refine Wp_letI ?_; intro v ev
    rw [cRo] at ev
    subst ev
    by_cases c : r = gRo G
    · subst c
      exact Wp_t (nI_le (Nat.le_refl _) (by omega)) (Wp_some rfl)
    · have hr : r < gRo G := by omega
      refine Wp_f (nI_ge (by omega) (by omega)) ?_
      rw [st_8 S hS r (by omega)]
      have nx := ih (r + 1) (by omega) (by omega)
      by_cases d : S.testBit r = true
      · have es : aS G V S l (r + 1) = (match aS G V S l r with
          | none => some (aN G V S l r, r)
          | some (m, a) => if m ≤ aN G V S l r then some (m, a) else some (aN G V S l r, r)) := if_pos d
        rw [es] at nx
        rw [if_pos d]
        refine Wp_t (by decide) ?_
        cases e : aS G V S l r with
        | none =>
          rw [e] at nx
          have nx : f_X0_firstNext_6 g (nI S) (if l = 6 then -1 else nI l) n' (nI r) (nI (r + 1)) M = some (alA (aS G V S l (gRo G)), M) := nx
          refine Wp_t rfl ?_
          unfold f_X0_firstNext_54 f_X0_firstNext_58
          rw [L_1, nI_add]
          exact Wp_of nx rfl
        | some y =>
          obtain ⟨m, a⟩ := y
          rw [e] at nx
          have nx : f_X0_firstNext_6 g (nI S) (if l = 6 then -1 else nI l) n' (alA (if m ≤ aN G V S l r then some (m, a) else some (aN G V S l r, r))) (nI (r + 1)) M = some (alA (aS G V S l (gRo G)), M) := nx
          obtain ⟨q1, q2, q3⟩ := aS_b hS r (by omega) e
          have n3 := (aN_b (l := l) hV hv hS (show a < gRo G by omega)).1
          have n4 := (aN_b (l := l) hV hv hS hr).1
          show Wp (if nI a = -1 then _ else _) _
          refine Wp_f (fun q => (nI_m1 (by omega)).mp q) ?_
          rw [kk r hr d]
          refine Wp_bis ?_
          show Wp (kr_bi (f_X0_knotsBy g (nI S) (if l = 6 then -1 else nI l) (nI a) M) _) _
          rw [kk a (by omega) q2, ← q3]
          refine Wp_bis ?_
          by_cases k : m ≤ aN G V S l r
          · refine Wp_t ((nI_leI (by omega) (by omega)).mpr k) ?_
            rw [if_pos k] at nx
            unfold f_X0_firstNext_58
            rw [L_1, nI_add]
            exact Wp_of nx rfl
          · refine Wp_f (fun q => k ((nI_leI (by omega) (by omega)).mp q)) ?_
            rw [if_neg k] at nx
            unfold f_X0_firstNext_54 f_X0_firstNext_58
            rw [L_1, nI_add]
            exact Wp_of nx rfl
      · rw [if_neg d]
        refine Wp_f (fun q => q rfl) ?_
        rw [show aS G V S l (r + 1) = aS G V S l r from if_neg d] at nx
        unfold f_X0_firstNext_58
        rw [L_1, nI_add]
        exact Wp_of nx rfl
theorem fn_ok {M : kr_M} {g S l : Nat} {G : GG} {V : Nat → Nat → Nat} (hM : alC M g G V (laS G (gRo G) + 1)) (hS : S < 64) (hsub : S &&& laS G (gRo G) = S) (hl : l = 6 ∨ (l < gRo G ∧ ¬ S.testBit l = true)) (hv : ∀ S l, S < 64 → V S l ≤ 24 * pc S) : f_X0_firstNext g (nI S) (if l = 6 then -1 else nI l) M = some (alA (aS G V S l (gRo G)), M) := by
  have hV := hM.1.V
  obtain ⟨vLi, v0, vPl, vWe, vOd, vKi, vWo, vRo, vPe, vWt, vAc, vIn, vWa, vL, vMn, vW, vA, vB, vAB, vLd, vCr, vN, vK, vWg, vPc, vSt, vD⟩ := hV
  exact fn_6 hM hS hsub hl hv kr_F 0 (by omega) (kr_F_gt _ (by omega))
theorem sl_ok {M : kr_M} {g : Nat} {G : GG} {V : Nat → Nat → Nat} (hM : alC M g G V (laS G (gRo G) + 1)) (hZ : ∀ S l, S < 64 → V S l = match aS G V S l (gRo G) with
    | none => 0
    | some (m, _) => m) (hv : ∀ S l, S < 64 → V S l ≤ 24 * pc S) : f_X0_shortestLaid g M = some (nI (V (laS G (gRo G)) 6), M) := by
  have hV := hM.1.V
  have hV' := hV
  obtain ⟨vLi, v0, vPl, vWe, vOd, vKi, vWo, vRo, vPe, vWt, vAc, vIn, vWa, vL, vMn, vW, vA, vB, vAB, vLd, vCr, vN, vK, vWg, vPc, vSt, vD⟩ := hV'
  have L64 : laS G (gRo G) < 64 := Nat.lt_of_lt_of_le (laS_lt G (gRo G)) (st_9 (gRo G) (by omega)).2.2
  have fn := fn_ok (l := 6) hM L64 (Nat.and_self _) (Or.inl rfl) hv
  rw [if_pos rfl] at fn
  have zf := hZ (laS G (gRo G)) 6 L64
  apply Wp_eq
  unfold f_X0_shortestLaid
  refine Wp_letI ?_; intro v ev
  rw [hM.2.2.1] at ev
  subst ev
  unfold f_X0_fewestToCome
  rw [fn]
  cases e : aS G V (laS G (gRo G)) 6 (gRo G) with
  | none =>
    rw [e] at zf
    have zf : V (laS G (gRo G)) 6 = 0 := zf
    refine Wp_bie (r := 0) (M' := M) ?_ (Wp_some (by rw [zf]; rfl))
    apply Wp_eq
    exact Wp_bis (Wp_f (fun q => q rfl) (Wp_some rfl))
  | some y =>
    obtain ⟨m, a⟩ := y
    rw [e] at zf
    have zf : V (laS G (gRo G)) 6 = m := zf
    obtain ⟨q1, q2, q3⟩ := aS_b L64 (gRo G) (by omega) e
    have kk := kb_ok (l := 6) hM L64 (by omega) (Nat.and_self _) q1 q2 (Or.inl rfl) (aN_b (l := 6) hV hv L64 q1).2 (st_23 _ L64 _ L64 (Nat.and_self _) a (by omega) q2) (st_22 _ L64 a (by omega) q2)
    rw [if_pos rfl, ← q3] at kk
    refine Wp_bie (r := nI m) (M' := M) ?_ (Wp_some (by rw [zf]))
    apply Wp_eq
    refine Wp_bis (Wp_t (fun q => (nI_m1 (a := a) (by omega)).mp q) ?_)
    show Wp (kr_bi (f_X0_knotsBy g (nI (laS G (gRo G))) (-1) (nI a) M) _) _
    rw [kk]
    exact Wp_bis (Wp_some rfl)
theorem rf_11 {M : kr_M} {g : Nat} {G : GG} {V : Nat → Nat → Nat} {p2 : Int32} (hM : alC M g G V (laS G (gRo G) + 1)) (hv : ∀ S l, S < 64 → V S l ≤ 24 * pc S) : ∀ n' k S l, k + pc S ≤ 6 → 7 - k < n' → S < 64 → S &&& laS G (gRo G) = S → (l = 6 ∨ (l < gRo G ∧ ¬ S.testBit l = true)) → f_X0_ropeOfFirst_11 g p2 n' (nI S) (if l = 6 then -1 else nI l) (nI k) M = some (if (k : Int) ≤ p2.toInt ∧ p2.toInt < ((k + pc S : Nat) : Int) then nI (aP G V (zn p2 - k) S l) else -1, M) := by
  have hV := hM.1.V
  have hV' := hV
  obtain ⟨vLi, v0, vPl, vWe, vOd, vKi, vWo, vRo, vPe, vWt, vAc, vIn, vWa, vL, vMn, vW, vA, vB, vAB, vLd, vCr, vN, vK, vWg, vPc, vSt, vD⟩ := hV'
  have lt := laS_lt G (gRo G)
  have L64 : laS G (gRo G) < 64 := Nat.lt_of_lt_of_le lt (st_9 (gRo G) (by omega)).2.2
  intro n'
  induction n' with
  | zero => intro k S l h1 h2; omega
  | succ n' ih =>
    intro k S l h1 h2 hS hsub hl
    apply Wp_eq
    rw [f_X0_ropeOfFirst_11]
    have pz := (st_pc S hS).2
    by_cases c : k = 6
    · refine Wp_t (by rw [c]; decide) (Wp_some ?_)
      rw [if_neg (by omega)]
    refine Wp_f (nI_ge (b := 6) (by omega) (by omega)) ?_
    by_cases c0 : S = 0
    · refine Wp_t (by rw [c0]; rfl) (Wp_some ?_)
      rw [if_neg (by omega)]
    refine Wp_f (fun q => c0 ((nI_eq (b := 0) (by omega) (by omega)).mp q)) ?_
    rw [fn_ok hM hS hsub hl hv]
    refine Wp_bis ?_
    have Sle : S ≤ laS G (gRo G) := by rw [← hsub]; exact Nat.and_le_right
    cases e : aS G V S l (gRo G) with
    | none => exact absurd (st_21 (Nat.lt_of_le_of_lt Sle lt) (aS_n _ e)) c0
    | some y =>
      obtain ⟨m, a⟩ := y
      obtain ⟨q1, q2, q3⟩ := aS_b hS (gRo G) (by omega) e
      obtain ⟨s1, s2, s3, s4, s5⟩ := st_20 S hS a (by omega) q2
      show Wp (if nI a = -1 then _ else _) _
      refine Wp_f (fun q => (nI_m1 (by omega)).mp q) ?_
      by_cases d : nI k = p2
      · refine Wp_f (fun q => q d) (Wp_some ?_)
        subst d
        rw [zn_nI (by omega), nI_toInt (by omega), if_pos (by omega), Nat.sub_self]
        unfold aP
        rw [e]
        rfl
      · refine Wp_t d ?_
        refine Wp_letI ?_; intro v ev
        have ev : nI S &&& (((1 : Int32) <<< (nI a &&& 31)) ^^^ (-1 : Int32)) = v := ev
        rw [(st_9 a (by omega)).1, s5] at ev
        subst ev
        have nx := ih (k + 1) (S - 2 ^ a) a (by omega) (by omega) (by omega) (st_23 _ L64 S hS hsub a (by omega) q2) (Or.inr ⟨q1, st_22 S hS a (by omega) q2⟩)
        rw [if_neg (by omega : ¬ a = 6)] at nx
        show Wp (f_X0_ropeOfFirst_11 g p2 n' (nI (S - 2 ^ a)) (nI a) (nI k + 1) M) _
        rw [L_1, nI_add]
        refine Wp_of nx ?_
        have dk : p2.toInt ≠ (k : Int) := fun q => d (by rw [kz_eq, nI_toInt (by omega), q])
        by_cases h : (k : Int) ≤ p2.toInt ∧ p2.toInt < ((k + pc S : Nat) : Int)
        · rw [if_pos h, if_pos (by omega)]
          obtain ⟨j, hj⟩ : ∃ j, zn p2 - k = j + 1 := ⟨zn p2 - k - 1, by unfold zn; omega⟩
          rw [hj, show zn p2 - (k + 1) = j by omega]
          conv => rhs; unfold aP
          rw [e]
        · rw [if_neg h, if_neg (by omega)]
          rfl
theorem rf_ok {M : kr_M} {g : Nat} {G : GG} {V : Nat → Nat → Nat} {p2 : Int32} (hM : alC M g G V (laS G (gRo G) + 1)) (hv : ∀ S l, S < 64 → V S l ≤ 24 * pc S) : f_X0_ropeOfFirst g p2 M = some (if 0 ≤ p2.toInt ∧ p2.toInt < (pc (laS G (gRo G)) : Int) then nI (aP G V (zn p2) (laS G (gRo G)) 6) else -1, M) := by
  have hV := hM.1.V
  obtain ⟨vLi, v0, vPl, vWe, vOd, vKi, vWo, vRo, vPe, vWt, vAc, vIn, vWa, vL, vMn, vW, vA, vB, vAB, vLd, vCr, vN, vK, vWg, vPc, vSt, vD⟩ := hV
  have L64 : laS G (gRo G) < 64 := Nat.lt_of_lt_of_le (laS_lt G (gRo G)) (st_9 (gRo G) (by omega)).2.2
  have rf := rf_11 (p2 := p2) hM hv kr_F 0 (laS G (gRo G)) 6 (by have := (st_pc _ L64).1; omega) (kr_F_gt _ (by omega)) L64 (Nat.and_self _) (Or.inl rfl)
  rw [if_pos rfl, Nat.zero_add, Nat.sub_zero] at rf
  apply Wp_eq
  unfold f_X0_ropeOfFirst
  refine Wp_letI ?_; intro v ev
  rw [hM.2.2.1] at ev
  subst ev
  exact Wp_of rf rfl
/-! the ops -/
theorem la_R {M1 : kr_M} {g : Nat} {G : GG} {V : Nat → Nat → Nat} (hK1 : KS M1 g G) (hZ0 : ∀ l, V 0 l = 0) (hZ : ∀ S l, S < 64 → V S l = match aS G V S l (gRo G) with
    | none => 0
    | some (m, _) => m) (hv : ∀ S l, S < 64 → V S l ≤ 24 * pc S) : Wp (f_X12_laysAll M1) (fun M' => ∃ M2, alR M2 M' G V ∧ Fr M1 M') := by
  unfold f_X12_laysAll
  refine Wp_bv _ hK1.lays (fun M2 ⟨hL, hFL, hK2⟩ => ?_)
  have hV := hK1.V
  exact Wp_mono (al_R hV hZ0 hZ hv hK2.R hL kr_F 0 (by omega) (kr_F_gt _ (by obtain ⟨vLi, v0, vPl, vWe, vOd, vKi, vWo, vRo, vPe, vWt, vAc, vIn, vWa, vL, vMn, vW, vA, vB, vAB, vLd, vCr, vN, vK, vWg, vPc, vSt, vD⟩ := hV; omega))) (fun M' q => ⟨M2, q, hFL.fr.trans (q.2.2.2.fr a_s)⟩)
theorem aZ_0 {G : GG} (hV : GV G) (l : Nat) : aZ G 0 l = 0 := by
  rw [aZ_f hV (by omega), aS_0]
theorem aZ_x {G : GG} (hV : GV G) : ∃ V : Nat → Nat → Nat, (∀ l, V 0 l = 0) ∧ (∀ S l, S < 64 → V S l = match aS G V S l (gRo G) with
    | none => 0
    | some (m, _) => m) ∧ (∀ S l, S < 64 → V S l ≤ 24 * pc S) := ⟨aZ G, aZ_0 hV, fun S l h => aZ_f hV h, fun S l h => aZ_le hV S l h⟩
theorem op_23 (M : kr_M) (h : Sim M) : ∃ (r : Int32) (M1 M2 : kr_M), f_X11_all M = some (r, M1) ∧ f_X12_all M1 = some (r, M2) ∧ Sim M2 := by
  refine op_q (c := f_X11_all) (f := f_X12_all) h (fun g G hK => ?_)
  have hV := hK.V
  have hV' := hV
  have hC := hK.C
  have hC' := hC
  have eg := hK.gr
  have es := hK.sh
  obtain ⟨vLi, v0, vPl, vWe, vOd, vKi, vWo, vRo, vPe, vWt, vAc, vIn, vWa, vL, vMn, vW, vA, vB, vAB, vLd, vCr, vN, vK, vWg, vPc, vSt, vD⟩ := hV'
  obtain ⟨c0, cPl, cWe, cOd, cKi, cWo, cRo, cPe, cWt, cAc, cIn, cWa, cL, cMn, cW, cA, cB, cLd, cCr, cN, cK, cWg, cPc, cSt⟩ := hC'
  obtain ⟨V, hZ0, hZ, hv⟩ := aZ_x hV
  by_cases hl : gLi G = 0
  · refine ⟨-2, ?_, fun M hK => ?_⟩
    · unfold f_X11_all
      (repeat (first | with_reducible refine Wp_some ?_ | (with_reducible refine Wp_letI ?_; intro v_ hv_; (try simp (disch := omega) only [L_0, L_1, L_2, L_3, L_4, L_5, L_6, L_7, L_8, L_9, L_10, L_11, L_12, L_16, L_18, L_20, L_24, L_25, L_30, L_32, L_38, L_40, L_48, L_50, L_60, L_63, L_64, L_72, L_99, L_100, L_160, L_500, L_999, L_1380, L_1400, L_2400, L_2401, L_60025, L_100000, L_1000000, L_100000000, L_2000000000, nI_add, pk_mul, nI_clamp, nI_leI, nI_ltI, nI_eq, kin_I, pk_sub, nI_m1, m1_nI, nI_am1, kx_max, kx_min, kt_tx, kt_rp, kg_si, kg_sl, kq_si, kq_sl, kv_si, kv_sl, Nat.reduceAdd, Nat.reduceMul, Nat.reduceSub, Nat.reduceEqDiff, Nat.reduceLT, Nat.reduceLeDiff, ne_eq, not_true_eq_false, not_false_eq_true, or_true, true_or, or_false, false_or, and_true, true_and, false_and, and_false, if_true, if_false, ite_true, ite_false, reduceIte, kl_0, kl_1, kl_2, kl_3, kl_6, kl_20, kl_50, kl_500, kl_999, kl_2400, kl_2g, in_t, in_tt, in_f, in_ff, in_n, if_pos, if_neg, eq_self, nI_n1, n1_nI, nI_an1, lesser_n1, lesser_rn, lesser_n, kx_n1, eg, es, told_f hC hV hl] at hv_); subst hv_) | (with_reducible refine Wp_biI ?_; intro c_ hc_; simp (disch := omega) only [L_0, L_1, L_2, L_3, L_4, L_5, L_6, L_7, L_8, L_9, L_10, L_11, L_12, L_16, L_18, L_20, L_24, L_25, L_30, L_32, L_38, L_40, L_48, L_50, L_60, L_63, L_64, L_72, L_99, L_100, L_160, L_500, L_999, L_1380, L_1400, L_2400, L_2401, L_60025, L_100000, L_1000000, L_100000000, L_2000000000, nI_add, pk_mul, nI_clamp, nI_leI, nI_ltI, nI_eq, kin_I, pk_sub, nI_m1, m1_nI, nI_am1, kx_max, kx_min, kt_tx, kt_rp, kg_si, kg_sl, kq_si, kq_sl, kv_si, kv_sl, Nat.reduceAdd, Nat.reduceMul, Nat.reduceSub, Nat.reduceEqDiff, Nat.reduceLT, Nat.reduceLeDiff, ne_eq, not_true_eq_false, not_false_eq_true, or_true, true_or, or_false, false_or, and_true, true_and, false_and, and_false, if_true, if_false, ite_true, ite_false, reduceIte, kl_0, kl_1, kl_2, kl_3, kl_6, kl_20, kl_50, kl_500, kl_999, kl_2400, kl_2g, in_t, in_tt, in_f, in_ff, in_n, if_pos, if_neg, eq_self, nI_n1, n1_nI, nI_an1, lesser_n1, lesser_rn, lesser_n, kx_n1, eg, es, told_f hC hV hl] at hc_; subst hc_; with_reducible refine Wp_bis ?_) | (with_reducible refine Wp_bvI ?_; intro c_ hc_; simp (disch := omega) only [L_0, L_1, L_2, L_3, L_4, L_5, L_6, L_7, L_8, L_9, L_10, L_11, L_12, L_16, L_18, L_20, L_24, L_25, L_30, L_32, L_38, L_40, L_48, L_50, L_60, L_63, L_64, L_72, L_99, L_100, L_160, L_500, L_999, L_1380, L_1400, L_2400, L_2401, L_60025, L_100000, L_1000000, L_100000000, L_2000000000, nI_add, pk_mul, nI_clamp, nI_leI, nI_ltI, nI_eq, kin_I, pk_sub, nI_m1, m1_nI, nI_am1, kx_max, kx_min, kt_tx, kt_rp, kg_si, kg_sl, kq_si, kq_sl, kv_si, kv_sl, Nat.reduceAdd, Nat.reduceMul, Nat.reduceSub, Nat.reduceEqDiff, Nat.reduceLT, Nat.reduceLeDiff, ne_eq, not_true_eq_false, not_false_eq_true, or_true, true_or, or_false, false_or, and_true, true_and, false_and, and_false, if_true, if_false, ite_true, ite_false, reduceIte, kl_0, kl_1, kl_2, kl_3, kl_6, kl_20, kl_50, kl_500, kl_999, kl_2400, kl_2g, in_t, in_tt, in_f, in_ff, in_n, if_pos, if_neg, eq_self, nI_n1, n1_nI, nI_an1, lesser_n1, lesser_rn, lesser_n, kx_n1, eg, es, told_f hC hV hl] at hc_; subst hc_; with_reducible refine Wp_bvs ?_) | (with_reducible refine Wp_t (by (first | (simp (disch := omega) only [L_0, L_1, L_2, L_3, L_4, L_5, L_6, L_7, L_8, L_9, L_10, L_11, L_12, L_16, L_18, L_20, L_24, L_25, L_30, L_32, L_38, L_40, L_48, L_50, L_60, L_63, L_64, L_72, L_99, L_100, L_160, L_500, L_999, L_1380, L_1400, L_2400, L_2401, L_60025, L_100000, L_1000000, L_100000000, L_2000000000, nI_add, pk_mul, nI_clamp, nI_leI, nI_ltI, nI_eq, kin_I, pk_sub, nI_m1, m1_nI, nI_am1, kx_max, kx_min, kt_tx, kt_rp, kg_si, kg_sl, kq_si, kq_sl, kv_si, kv_sl, Nat.reduceAdd, Nat.reduceMul, Nat.reduceSub, Nat.reduceEqDiff, Nat.reduceLT, Nat.reduceLeDiff, ne_eq, not_true_eq_false, not_false_eq_true, or_true, true_or, or_false, false_or, and_true, true_and, false_and, and_false, if_true, if_false, ite_true, ite_false, reduceIte, kl_0, kl_1, kl_2, kl_3, kl_6, kl_20, kl_50, kl_500, kl_999, kl_2400, kl_2g, in_t, in_tt, in_f, in_ff, in_n, if_pos, if_neg, eq_self, nI_n1, n1_nI, nI_an1, lesser_n1, lesser_rn, lesser_n, kx_n1, eg, es, told_f hC hV hl]; done) | (simp (disch := omega) only [L_0, L_1, L_2, L_3, L_4, L_5, L_6, L_7, L_8, L_9, L_10, L_11, L_12, L_16, L_18, L_20, L_24, L_25, L_30, L_32, L_38, L_40, L_48, L_50, L_60, L_63, L_64, L_72, L_99, L_100, L_160, L_500, L_999, L_1380, L_1400, L_2400, L_2401, L_60025, L_100000, L_1000000, L_100000000, L_2000000000, nI_add, pk_mul, nI_clamp, nI_leI, nI_ltI, nI_eq, kin_I, pk_sub, nI_m1, m1_nI, nI_am1, kx_max, kx_min, kt_tx, kt_rp, kg_si, kg_sl, kq_si, kq_sl, kv_si, kv_sl, Nat.reduceAdd, Nat.reduceMul, Nat.reduceSub, Nat.reduceEqDiff, Nat.reduceLT, Nat.reduceLeDiff, ne_eq, not_true_eq_false, not_false_eq_true, or_true, true_or, or_false, false_or, and_true, true_and, false_and, and_false, if_true, if_false, ite_true, ite_false, reduceIte, kl_0, kl_1, kl_2, kl_3, kl_6, kl_20, kl_50, kl_500, kl_999, kl_2400, kl_2g, in_t, in_tt, in_f, in_ff, in_n, if_pos, if_neg, eq_self, nI_n1, n1_nI, nI_an1, lesser_n1, lesser_rn, lesser_n, kx_n1, eg, es, told_f hC hV hl]; omega) | decide)) ?_) | (with_reducible refine Wp_f (by (first | (simp (disch := omega) only [L_0, L_1, L_2, L_3, L_4, L_5, L_6, L_7, L_8, L_9, L_10, L_11, L_12, L_16, L_18, L_20, L_24, L_25, L_30, L_32, L_38, L_40, L_48, L_50, L_60, L_63, L_64, L_72, L_99, L_100, L_160, L_500, L_999, L_1380, L_1400, L_2400, L_2401, L_60025, L_100000, L_1000000, L_100000000, L_2000000000, nI_add, pk_mul, nI_clamp, nI_leI, nI_ltI, nI_eq, kin_I, pk_sub, nI_m1, m1_nI, nI_am1, kx_max, kx_min, kt_tx, kt_rp, kg_si, kg_sl, kq_si, kq_sl, kv_si, kv_sl, Nat.reduceAdd, Nat.reduceMul, Nat.reduceSub, Nat.reduceEqDiff, Nat.reduceLT, Nat.reduceLeDiff, ne_eq, not_true_eq_false, not_false_eq_true, or_true, true_or, or_false, false_or, and_true, true_and, false_and, and_false, if_true, if_false, ite_true, ite_false, reduceIte, kl_0, kl_1, kl_2, kl_3, kl_6, kl_20, kl_50, kl_500, kl_999, kl_2400, kl_2g, in_t, in_tt, in_f, in_ff, in_n, if_pos, if_neg, eq_self, nI_n1, n1_nI, nI_an1, lesser_n1, lesser_rn, lesser_n, kx_n1, eg, es, told_f hC hV hl]; done) | (simp (disch := omega) only [L_0, L_1, L_2, L_3, L_4, L_5, L_6, L_7, L_8, L_9, L_10, L_11, L_12, L_16, L_18, L_20, L_24, L_25, L_30, L_32, L_38, L_40, L_48, L_50, L_60, L_63, L_64, L_72, L_99, L_100, L_160, L_500, L_999, L_1380, L_1400, L_2400, L_2401, L_60025, L_100000, L_1000000, L_100000000, L_2000000000, nI_add, pk_mul, nI_clamp, nI_leI, nI_ltI, nI_eq, kin_I, pk_sub, nI_m1, m1_nI, nI_am1, kx_max, kx_min, kt_tx, kt_rp, kg_si, kg_sl, kq_si, kq_sl, kv_si, kv_sl, Nat.reduceAdd, Nat.reduceMul, Nat.reduceSub, Nat.reduceEqDiff, Nat.reduceLT, Nat.reduceLeDiff, ne_eq, not_true_eq_false, not_false_eq_true, or_true, true_or, or_false, false_or, and_true, true_and, false_and, and_false, if_true, if_false, ite_true, ite_false, reduceIte, kl_0, kl_1, kl_2, kl_3, kl_6, kl_20, kl_50, kl_500, kl_999, kl_2400, kl_2g, in_t, in_tt, in_f, in_ff, in_n, if_pos, if_neg, eq_self, nI_n1, n1_nI, nI_an1, lesser_n1, lesser_rn, lesser_n, kx_n1, eg, es, told_f hC hV hl]; omega) | decide)) ?_))); try simp (disch := omega) only [nI_1, kt_rp, kt_tx]
      first | exact ⟨rfl, Fr.refl M⟩ | exact ⟨trivial, Fr.refl M⟩
    · unfold f_X12_all; refine Wp_letI ?_; intro M1 hM1; have hK1 : KS M1 g G := (by rw [← hM1]; exact hK.fr (Fr.thrown _ _)); have hF1 : Fr M M1 := (by rw [← hM1]; exact Fr.thrown _ _); clear hM1; have hV := hK1.V; have hR1 := hK1.R; have hR2 := hR1; obtain ⟨r0, rPl, rWe, rOd, rKi, rWo, rRo, rPe, rAc, rInc, rWa, rL, rMn, rW, rA, rB, rLd, rWg, rPc⟩ := hR2
      (repeat (first | with_reducible refine Wp_some ?_ | (with_reducible refine Wp_letI ?_; intro v_ hv_; (try simp (disch := omega) only [L_0, L_1, L_2, L_3, L_4, L_5, L_6, L_7, L_8, L_9, L_10, L_11, L_12, L_16, L_18, L_20, L_24, L_25, L_30, L_32, L_38, L_40, L_48, L_50, L_60, L_63, L_64, L_72, L_99, L_100, L_160, L_500, L_999, L_1380, L_1400, L_2400, L_2401, L_60025, L_100000, L_1000000, L_100000000, L_2000000000, nI_add, pk_mul, nI_clamp, nI_leI, nI_ltI, nI_eq, kin_I, pk_sub, nI_m1, m1_nI, nI_am1, kx_max, kx_min, kt_tx, kt_rp, kg_si, kg_sl, kq_si, kq_sl, kv_si, kv_sl, Nat.reduceAdd, Nat.reduceMul, Nat.reduceSub, Nat.reduceEqDiff, Nat.reduceLT, Nat.reduceLeDiff, ne_eq, not_true_eq_false, not_false_eq_true, or_true, true_or, or_false, false_or, and_true, true_and, false_and, and_false, if_true, if_false, ite_true, ite_false, reduceIte, kl_0, kl_1, kl_2, kl_3, kl_6, kl_20, kl_50, kl_500, kl_999, kl_2400, kl_2g, in_t, in_tt, in_f, in_ff, in_n, if_pos, if_neg, eq_self, nI_n1, n1_nI, nI_an1, lesser_n1, lesser_rn, lesser_n, kx_n1, gorge_f hR1 hV hl] at hv_); subst hv_) | (with_reducible refine Wp_biI ?_; intro c_ hc_; simp (disch := omega) only [L_0, L_1, L_2, L_3, L_4, L_5, L_6, L_7, L_8, L_9, L_10, L_11, L_12, L_16, L_18, L_20, L_24, L_25, L_30, L_32, L_38, L_40, L_48, L_50, L_60, L_63, L_64, L_72, L_99, L_100, L_160, L_500, L_999, L_1380, L_1400, L_2400, L_2401, L_60025, L_100000, L_1000000, L_100000000, L_2000000000, nI_add, pk_mul, nI_clamp, nI_leI, nI_ltI, nI_eq, kin_I, pk_sub, nI_m1, m1_nI, nI_am1, kx_max, kx_min, kt_tx, kt_rp, kg_si, kg_sl, kq_si, kq_sl, kv_si, kv_sl, Nat.reduceAdd, Nat.reduceMul, Nat.reduceSub, Nat.reduceEqDiff, Nat.reduceLT, Nat.reduceLeDiff, ne_eq, not_true_eq_false, not_false_eq_true, or_true, true_or, or_false, false_or, and_true, true_and, false_and, and_false, if_true, if_false, ite_true, ite_false, reduceIte, kl_0, kl_1, kl_2, kl_3, kl_6, kl_20, kl_50, kl_500, kl_999, kl_2400, kl_2g, in_t, in_tt, in_f, in_ff, in_n, if_pos, if_neg, eq_self, nI_n1, n1_nI, nI_an1, lesser_n1, lesser_rn, lesser_n, kx_n1, gorge_f hR1 hV hl] at hc_; subst hc_; with_reducible refine Wp_bis ?_) | (with_reducible refine Wp_bvI ?_; intro c_ hc_; simp (disch := omega) only [L_0, L_1, L_2, L_3, L_4, L_5, L_6, L_7, L_8, L_9, L_10, L_11, L_12, L_16, L_18, L_20, L_24, L_25, L_30, L_32, L_38, L_40, L_48, L_50, L_60, L_63, L_64, L_72, L_99, L_100, L_160, L_500, L_999, L_1380, L_1400, L_2400, L_2401, L_60025, L_100000, L_1000000, L_100000000, L_2000000000, nI_add, pk_mul, nI_clamp, nI_leI, nI_ltI, nI_eq, kin_I, pk_sub, nI_m1, m1_nI, nI_am1, kx_max, kx_min, kt_tx, kt_rp, kg_si, kg_sl, kq_si, kq_sl, kv_si, kv_sl, Nat.reduceAdd, Nat.reduceMul, Nat.reduceSub, Nat.reduceEqDiff, Nat.reduceLT, Nat.reduceLeDiff, ne_eq, not_true_eq_false, not_false_eq_true, or_true, true_or, or_false, false_or, and_true, true_and, false_and, and_false, if_true, if_false, ite_true, ite_false, reduceIte, kl_0, kl_1, kl_2, kl_3, kl_6, kl_20, kl_50, kl_500, kl_999, kl_2400, kl_2g, in_t, in_tt, in_f, in_ff, in_n, if_pos, if_neg, eq_self, nI_n1, n1_nI, nI_an1, lesser_n1, lesser_rn, lesser_n, kx_n1, gorge_f hR1 hV hl] at hc_; subst hc_; with_reducible refine Wp_bvs ?_) | (with_reducible refine Wp_t (by (first | (simp (disch := omega) only [L_0, L_1, L_2, L_3, L_4, L_5, L_6, L_7, L_8, L_9, L_10, L_11, L_12, L_16, L_18, L_20, L_24, L_25, L_30, L_32, L_38, L_40, L_48, L_50, L_60, L_63, L_64, L_72, L_99, L_100, L_160, L_500, L_999, L_1380, L_1400, L_2400, L_2401, L_60025, L_100000, L_1000000, L_100000000, L_2000000000, nI_add, pk_mul, nI_clamp, nI_leI, nI_ltI, nI_eq, kin_I, pk_sub, nI_m1, m1_nI, nI_am1, kx_max, kx_min, kt_tx, kt_rp, kg_si, kg_sl, kq_si, kq_sl, kv_si, kv_sl, Nat.reduceAdd, Nat.reduceMul, Nat.reduceSub, Nat.reduceEqDiff, Nat.reduceLT, Nat.reduceLeDiff, ne_eq, not_true_eq_false, not_false_eq_true, or_true, true_or, or_false, false_or, and_true, true_and, false_and, and_false, if_true, if_false, ite_true, ite_false, reduceIte, kl_0, kl_1, kl_2, kl_3, kl_6, kl_20, kl_50, kl_500, kl_999, kl_2400, kl_2g, in_t, in_tt, in_f, in_ff, in_n, if_pos, if_neg, eq_self, nI_n1, n1_nI, nI_an1, lesser_n1, lesser_rn, lesser_n, kx_n1, gorge_f hR1 hV hl]; done) | (simp (disch := omega) only [L_0, L_1, L_2, L_3, L_4, L_5, L_6, L_7, L_8, L_9, L_10, L_11, L_12, L_16, L_18, L_20, L_24, L_25, L_30, L_32, L_38, L_40, L_48, L_50, L_60, L_63, L_64, L_72, L_99, L_100, L_160, L_500, L_999, L_1380, L_1400, L_2400, L_2401, L_60025, L_100000, L_1000000, L_100000000, L_2000000000, nI_add, pk_mul, nI_clamp, nI_leI, nI_ltI, nI_eq, kin_I, pk_sub, nI_m1, m1_nI, nI_am1, kx_max, kx_min, kt_tx, kt_rp, kg_si, kg_sl, kq_si, kq_sl, kv_si, kv_sl, Nat.reduceAdd, Nat.reduceMul, Nat.reduceSub, Nat.reduceEqDiff, Nat.reduceLT, Nat.reduceLeDiff, ne_eq, not_true_eq_false, not_false_eq_true, or_true, true_or, or_false, false_or, and_true, true_and, false_and, and_false, if_true, if_false, ite_true, ite_false, reduceIte, kl_0, kl_1, kl_2, kl_3, kl_6, kl_20, kl_50, kl_500, kl_999, kl_2400, kl_2g, in_t, in_tt, in_f, in_ff, in_n, if_pos, if_neg, eq_self, nI_n1, n1_nI, nI_an1, lesser_n1, lesser_rn, lesser_n, kx_n1, gorge_f hR1 hV hl]; omega) | decide)) ?_) | (with_reducible refine Wp_f (by (first | (simp (disch := omega) only [L_0, L_1, L_2, L_3, L_4, L_5, L_6, L_7, L_8, L_9, L_10, L_11, L_12, L_16, L_18, L_20, L_24, L_25, L_30, L_32, L_38, L_40, L_48, L_50, L_60, L_63, L_64, L_72, L_99, L_100, L_160, L_500, L_999, L_1380, L_1400, L_2400, L_2401, L_60025, L_100000, L_1000000, L_100000000, L_2000000000, nI_add, pk_mul, nI_clamp, nI_leI, nI_ltI, nI_eq, kin_I, pk_sub, nI_m1, m1_nI, nI_am1, kx_max, kx_min, kt_tx, kt_rp, kg_si, kg_sl, kq_si, kq_sl, kv_si, kv_sl, Nat.reduceAdd, Nat.reduceMul, Nat.reduceSub, Nat.reduceEqDiff, Nat.reduceLT, Nat.reduceLeDiff, ne_eq, not_true_eq_false, not_false_eq_true, or_true, true_or, or_false, false_or, and_true, true_and, false_and, and_false, if_true, if_false, ite_true, ite_false, reduceIte, kl_0, kl_1, kl_2, kl_3, kl_6, kl_20, kl_50, kl_500, kl_999, kl_2400, kl_2g, in_t, in_tt, in_f, in_ff, in_n, if_pos, if_neg, eq_self, nI_n1, n1_nI, nI_an1, lesser_n1, lesser_rn, lesser_n, kx_n1, gorge_f hR1 hV hl]; done) | (simp (disch := omega) only [L_0, L_1, L_2, L_3, L_4, L_5, L_6, L_7, L_8, L_9, L_10, L_11, L_12, L_16, L_18, L_20, L_24, L_25, L_30, L_32, L_38, L_40, L_48, L_50, L_60, L_63, L_64, L_72, L_99, L_100, L_160, L_500, L_999, L_1380, L_1400, L_2400, L_2401, L_60025, L_100000, L_1000000, L_100000000, L_2000000000, nI_add, pk_mul, nI_clamp, nI_leI, nI_ltI, nI_eq, kin_I, pk_sub, nI_m1, m1_nI, nI_am1, kx_max, kx_min, kt_tx, kt_rp, kg_si, kg_sl, kq_si, kq_sl, kv_si, kv_sl, Nat.reduceAdd, Nat.reduceMul, Nat.reduceSub, Nat.reduceEqDiff, Nat.reduceLT, Nat.reduceLeDiff, ne_eq, not_true_eq_false, not_false_eq_true, or_true, true_or, or_false, false_or, and_true, true_and, false_and, and_false, if_true, if_false, ite_true, ite_false, reduceIte, kl_0, kl_1, kl_2, kl_3, kl_6, kl_20, kl_50, kl_500, kl_999, kl_2400, kl_2g, in_t, in_tt, in_f, in_ff, in_n, if_pos, if_neg, eq_self, nI_n1, n1_nI, nI_an1, lesser_n1, lesser_rn, lesser_n, kx_n1, gorge_f hR1 hV hl]; omega) | decide)) ?_))); try simp (disch := omega) only [nI_1, kt_rp, kt_tx]
      first | exact ⟨rfl, hF1⟩ | exact ⟨trivial, hF1⟩
  · refine ⟨nI (V (laS G (gRo G)) 6), ?_, fun M hK => ?_⟩
    · unfold f_X11_all
      (repeat (first | with_reducible refine Wp_some ?_ | (with_reducible refine Wp_letI ?_; intro v_ hv_; (try simp (disch := omega) only [L_0, L_1, L_2, L_3, L_4, L_5, L_6, L_7, L_8, L_9, L_10, L_11, L_12, L_16, L_18, L_20, L_24, L_25, L_30, L_32, L_38, L_40, L_48, L_50, L_60, L_63, L_64, L_72, L_99, L_100, L_160, L_500, L_999, L_1380, L_1400, L_2400, L_2401, L_60025, L_100000, L_1000000, L_100000000, L_2000000000, nI_add, pk_mul, nI_clamp, nI_leI, nI_ltI, nI_eq, kin_I, pk_sub, nI_m1, m1_nI, nI_am1, kx_max, kx_min, kt_tx, kt_rp, kg_si, kg_sl, kq_si, kq_sl, kv_si, kv_sl, Nat.reduceAdd, Nat.reduceMul, Nat.reduceSub, Nat.reduceEqDiff, Nat.reduceLT, Nat.reduceLeDiff, ne_eq, not_true_eq_false, not_false_eq_true, or_true, true_or, or_false, false_or, and_true, true_and, false_and, and_false, if_true, if_false, ite_true, ite_false, reduceIte, kl_0, kl_1, kl_2, kl_3, kl_6, kl_20, kl_50, kl_500, kl_999, kl_2400, kl_2g, in_t, in_tt, in_f, in_ff, in_n, if_pos, if_neg, eq_self, nI_n1, n1_nI, nI_an1, lesser_n1, lesser_rn, lesser_n, kx_n1, eg, es, told_t hC hV (show 0 < gLi G by omega)] at hv_); subst hv_) | (with_reducible refine Wp_biI ?_; intro c_ hc_; simp (disch := omega) only [L_0, L_1, L_2, L_3, L_4, L_5, L_6, L_7, L_8, L_9, L_10, L_11, L_12, L_16, L_18, L_20, L_24, L_25, L_30, L_32, L_38, L_40, L_48, L_50, L_60, L_63, L_64, L_72, L_99, L_100, L_160, L_500, L_999, L_1380, L_1400, L_2400, L_2401, L_60025, L_100000, L_1000000, L_100000000, L_2000000000, nI_add, pk_mul, nI_clamp, nI_leI, nI_ltI, nI_eq, kin_I, pk_sub, nI_m1, m1_nI, nI_am1, kx_max, kx_min, kt_tx, kt_rp, kg_si, kg_sl, kq_si, kq_sl, kv_si, kv_sl, Nat.reduceAdd, Nat.reduceMul, Nat.reduceSub, Nat.reduceEqDiff, Nat.reduceLT, Nat.reduceLeDiff, ne_eq, not_true_eq_false, not_false_eq_true, or_true, true_or, or_false, false_or, and_true, true_and, false_and, and_false, if_true, if_false, ite_true, ite_false, reduceIte, kl_0, kl_1, kl_2, kl_3, kl_6, kl_20, kl_50, kl_500, kl_999, kl_2400, kl_2g, in_t, in_tt, in_f, in_ff, in_n, if_pos, if_neg, eq_self, nI_n1, n1_nI, nI_an1, lesser_n1, lesser_rn, lesser_n, kx_n1, eg, es, told_t hC hV (show 0 < gLi G by omega)] at hc_; subst hc_; with_reducible refine Wp_bis ?_) | (with_reducible refine Wp_bvI ?_; intro c_ hc_; simp (disch := omega) only [L_0, L_1, L_2, L_3, L_4, L_5, L_6, L_7, L_8, L_9, L_10, L_11, L_12, L_16, L_18, L_20, L_24, L_25, L_30, L_32, L_38, L_40, L_48, L_50, L_60, L_63, L_64, L_72, L_99, L_100, L_160, L_500, L_999, L_1380, L_1400, L_2400, L_2401, L_60025, L_100000, L_1000000, L_100000000, L_2000000000, nI_add, pk_mul, nI_clamp, nI_leI, nI_ltI, nI_eq, kin_I, pk_sub, nI_m1, m1_nI, nI_am1, kx_max, kx_min, kt_tx, kt_rp, kg_si, kg_sl, kq_si, kq_sl, kv_si, kv_sl, Nat.reduceAdd, Nat.reduceMul, Nat.reduceSub, Nat.reduceEqDiff, Nat.reduceLT, Nat.reduceLeDiff, ne_eq, not_true_eq_false, not_false_eq_true, or_true, true_or, or_false, false_or, and_true, true_and, false_and, and_false, if_true, if_false, ite_true, ite_false, reduceIte, kl_0, kl_1, kl_2, kl_3, kl_6, kl_20, kl_50, kl_500, kl_999, kl_2400, kl_2g, in_t, in_tt, in_f, in_ff, in_n, if_pos, if_neg, eq_self, nI_n1, n1_nI, nI_an1, lesser_n1, lesser_rn, lesser_n, kx_n1, eg, es, told_t hC hV (show 0 < gLi G by omega)] at hc_; subst hc_; with_reducible refine Wp_bvs ?_) | (with_reducible refine Wp_t (by (first | (simp (disch := omega) only [L_0, L_1, L_2, L_3, L_4, L_5, L_6, L_7, L_8, L_9, L_10, L_11, L_12, L_16, L_18, L_20, L_24, L_25, L_30, L_32, L_38, L_40, L_48, L_50, L_60, L_63, L_64, L_72, L_99, L_100, L_160, L_500, L_999, L_1380, L_1400, L_2400, L_2401, L_60025, L_100000, L_1000000, L_100000000, L_2000000000, nI_add, pk_mul, nI_clamp, nI_leI, nI_ltI, nI_eq, kin_I, pk_sub, nI_m1, m1_nI, nI_am1, kx_max, kx_min, kt_tx, kt_rp, kg_si, kg_sl, kq_si, kq_sl, kv_si, kv_sl, Nat.reduceAdd, Nat.reduceMul, Nat.reduceSub, Nat.reduceEqDiff, Nat.reduceLT, Nat.reduceLeDiff, ne_eq, not_true_eq_false, not_false_eq_true, or_true, true_or, or_false, false_or, and_true, true_and, false_and, and_false, if_true, if_false, ite_true, ite_false, reduceIte, kl_0, kl_1, kl_2, kl_3, kl_6, kl_20, kl_50, kl_500, kl_999, kl_2400, kl_2g, in_t, in_tt, in_f, in_ff, in_n, if_pos, if_neg, eq_self, nI_n1, n1_nI, nI_an1, lesser_n1, lesser_rn, lesser_n, kx_n1, eg, es, told_t hC hV (show 0 < gLi G by omega)]; done) | (simp (disch := omega) only [L_0, L_1, L_2, L_3, L_4, L_5, L_6, L_7, L_8, L_9, L_10, L_11, L_12, L_16, L_18, L_20, L_24, L_25, L_30, L_32, L_38, L_40, L_48, L_50, L_60, L_63, L_64, L_72, L_99, L_100, L_160, L_500, L_999, L_1380, L_1400, L_2400, L_2401, L_60025, L_100000, L_1000000, L_100000000, L_2000000000, nI_add, pk_mul, nI_clamp, nI_leI, nI_ltI, nI_eq, kin_I, pk_sub, nI_m1, m1_nI, nI_am1, kx_max, kx_min, kt_tx, kt_rp, kg_si, kg_sl, kq_si, kq_sl, kv_si, kv_sl, Nat.reduceAdd, Nat.reduceMul, Nat.reduceSub, Nat.reduceEqDiff, Nat.reduceLT, Nat.reduceLeDiff, ne_eq, not_true_eq_false, not_false_eq_true, or_true, true_or, or_false, false_or, and_true, true_and, false_and, and_false, if_true, if_false, ite_true, ite_false, reduceIte, kl_0, kl_1, kl_2, kl_3, kl_6, kl_20, kl_50, kl_500, kl_999, kl_2400, kl_2g, in_t, in_tt, in_f, in_ff, in_n, if_pos, if_neg, eq_self, nI_n1, n1_nI, nI_an1, lesser_n1, lesser_rn, lesser_n, kx_n1, eg, es, told_t hC hV (show 0 < gLi G by omega)]; omega) | decide)) ?_) | (with_reducible refine Wp_f (by (first | (simp (disch := omega) only [L_0, L_1, L_2, L_3, L_4, L_5, L_6, L_7, L_8, L_9, L_10, L_11, L_12, L_16, L_18, L_20, L_24, L_25, L_30, L_32, L_38, L_40, L_48, L_50, L_60, L_63, L_64, L_72, L_99, L_100, L_160, L_500, L_999, L_1380, L_1400, L_2400, L_2401, L_60025, L_100000, L_1000000, L_100000000, L_2000000000, nI_add, pk_mul, nI_clamp, nI_leI, nI_ltI, nI_eq, kin_I, pk_sub, nI_m1, m1_nI, nI_am1, kx_max, kx_min, kt_tx, kt_rp, kg_si, kg_sl, kq_si, kq_sl, kv_si, kv_sl, Nat.reduceAdd, Nat.reduceMul, Nat.reduceSub, Nat.reduceEqDiff, Nat.reduceLT, Nat.reduceLeDiff, ne_eq, not_true_eq_false, not_false_eq_true, or_true, true_or, or_false, false_or, and_true, true_and, false_and, and_false, if_true, if_false, ite_true, ite_false, reduceIte, kl_0, kl_1, kl_2, kl_3, kl_6, kl_20, kl_50, kl_500, kl_999, kl_2400, kl_2g, in_t, in_tt, in_f, in_ff, in_n, if_pos, if_neg, eq_self, nI_n1, n1_nI, nI_an1, lesser_n1, lesser_rn, lesser_n, kx_n1, eg, es, told_t hC hV (show 0 < gLi G by omega)]; done) | (simp (disch := omega) only [L_0, L_1, L_2, L_3, L_4, L_5, L_6, L_7, L_8, L_9, L_10, L_11, L_12, L_16, L_18, L_20, L_24, L_25, L_30, L_32, L_38, L_40, L_48, L_50, L_60, L_63, L_64, L_72, L_99, L_100, L_160, L_500, L_999, L_1380, L_1400, L_2400, L_2401, L_60025, L_100000, L_1000000, L_100000000, L_2000000000, nI_add, pk_mul, nI_clamp, nI_leI, nI_ltI, nI_eq, kin_I, pk_sub, nI_m1, m1_nI, nI_am1, kx_max, kx_min, kt_tx, kt_rp, kg_si, kg_sl, kq_si, kq_sl, kv_si, kv_sl, Nat.reduceAdd, Nat.reduceMul, Nat.reduceSub, Nat.reduceEqDiff, Nat.reduceLT, Nat.reduceLeDiff, ne_eq, not_true_eq_false, not_false_eq_true, or_true, true_or, or_false, false_or, and_true, true_and, false_and, and_false, if_true, if_false, ite_true, ite_false, reduceIte, kl_0, kl_1, kl_2, kl_3, kl_6, kl_20, kl_50, kl_500, kl_999, kl_2400, kl_2g, in_t, in_tt, in_f, in_ff, in_n, if_pos, if_neg, eq_self, nI_n1, n1_nI, nI_an1, lesser_n1, lesser_rn, lesser_n, kx_n1, eg, es, told_t hC hV (show 0 < gLi G by omega)]; omega) | decide)) ?_))); try simp (disch := omega) only [nI_1, kt_rp, kt_tx]
      refine Wp_bv _ (lay_ok hK hZ0 hZ hv) (fun M1 ⟨p1, p2⟩ => ?_)
      have eg1 := p1.1.gr
      (repeat (first | with_reducible refine Wp_some ?_ | (with_reducible refine Wp_letI ?_; intro v_ hv_; (try simp (disch := omega) only [L_0, L_1, L_2, L_3, L_4, L_5, L_6, L_7, L_8, L_9, L_10, L_11, L_12, L_16, L_18, L_20, L_24, L_25, L_30, L_32, L_38, L_40, L_48, L_50, L_60, L_63, L_64, L_72, L_99, L_100, L_160, L_500, L_999, L_1380, L_1400, L_2400, L_2401, L_60025, L_100000, L_1000000, L_100000000, L_2000000000, nI_add, pk_mul, nI_clamp, nI_leI, nI_ltI, nI_eq, kin_I, pk_sub, nI_m1, m1_nI, nI_am1, kx_max, kx_min, kt_tx, kt_rp, kg_si, kg_sl, kq_si, kq_sl, kv_si, kv_sl, Nat.reduceAdd, Nat.reduceMul, Nat.reduceSub, Nat.reduceEqDiff, Nat.reduceLT, Nat.reduceLeDiff, ne_eq, not_true_eq_false, not_false_eq_true, or_true, true_or, or_false, false_or, and_true, true_and, false_and, and_false, if_true, if_false, ite_true, ite_false, reduceIte, kl_0, kl_1, kl_2, kl_3, kl_6, kl_20, kl_50, kl_500, kl_999, kl_2400, kl_2g, in_t, in_tt, in_f, in_ff, in_n, if_pos, if_neg, eq_self, nI_n1, n1_nI, nI_an1, lesser_n1, lesser_rn, lesser_n, kx_n1, eg1, es, sl_ok p1 hZ hv] at hv_); subst hv_) | (with_reducible refine Wp_biI ?_; intro c_ hc_; simp (disch := omega) only [L_0, L_1, L_2, L_3, L_4, L_5, L_6, L_7, L_8, L_9, L_10, L_11, L_12, L_16, L_18, L_20, L_24, L_25, L_30, L_32, L_38, L_40, L_48, L_50, L_60, L_63, L_64, L_72, L_99, L_100, L_160, L_500, L_999, L_1380, L_1400, L_2400, L_2401, L_60025, L_100000, L_1000000, L_100000000, L_2000000000, nI_add, pk_mul, nI_clamp, nI_leI, nI_ltI, nI_eq, kin_I, pk_sub, nI_m1, m1_nI, nI_am1, kx_max, kx_min, kt_tx, kt_rp, kg_si, kg_sl, kq_si, kq_sl, kv_si, kv_sl, Nat.reduceAdd, Nat.reduceMul, Nat.reduceSub, Nat.reduceEqDiff, Nat.reduceLT, Nat.reduceLeDiff, ne_eq, not_true_eq_false, not_false_eq_true, or_true, true_or, or_false, false_or, and_true, true_and, false_and, and_false, if_true, if_false, ite_true, ite_false, reduceIte, kl_0, kl_1, kl_2, kl_3, kl_6, kl_20, kl_50, kl_500, kl_999, kl_2400, kl_2g, in_t, in_tt, in_f, in_ff, in_n, if_pos, if_neg, eq_self, nI_n1, n1_nI, nI_an1, lesser_n1, lesser_rn, lesser_n, kx_n1, eg1, es, sl_ok p1 hZ hv] at hc_; subst hc_; with_reducible refine Wp_bis ?_) | (with_reducible refine Wp_bvI ?_; intro c_ hc_; simp (disch := omega) only [L_0, L_1, L_2, L_3, L_4, L_5, L_6, L_7, L_8, L_9, L_10, L_11, L_12, L_16, L_18, L_20, L_24, L_25, L_30, L_32, L_38, L_40, L_48, L_50, L_60, L_63, L_64, L_72, L_99, L_100, L_160, L_500, L_999, L_1380, L_1400, L_2400, L_2401, L_60025, L_100000, L_1000000, L_100000000, L_2000000000, nI_add, pk_mul, nI_clamp, nI_leI, nI_ltI, nI_eq, kin_I, pk_sub, nI_m1, m1_nI, nI_am1, kx_max, kx_min, kt_tx, kt_rp, kg_si, kg_sl, kq_si, kq_sl, kv_si, kv_sl, Nat.reduceAdd, Nat.reduceMul, Nat.reduceSub, Nat.reduceEqDiff, Nat.reduceLT, Nat.reduceLeDiff, ne_eq, not_true_eq_false, not_false_eq_true, or_true, true_or, or_false, false_or, and_true, true_and, false_and, and_false, if_true, if_false, ite_true, ite_false, reduceIte, kl_0, kl_1, kl_2, kl_3, kl_6, kl_20, kl_50, kl_500, kl_999, kl_2400, kl_2g, in_t, in_tt, in_f, in_ff, in_n, if_pos, if_neg, eq_self, nI_n1, n1_nI, nI_an1, lesser_n1, lesser_rn, lesser_n, kx_n1, eg1, es, sl_ok p1 hZ hv] at hc_; subst hc_; with_reducible refine Wp_bvs ?_) | (with_reducible refine Wp_t (by (first | (simp (disch := omega) only [L_0, L_1, L_2, L_3, L_4, L_5, L_6, L_7, L_8, L_9, L_10, L_11, L_12, L_16, L_18, L_20, L_24, L_25, L_30, L_32, L_38, L_40, L_48, L_50, L_60, L_63, L_64, L_72, L_99, L_100, L_160, L_500, L_999, L_1380, L_1400, L_2400, L_2401, L_60025, L_100000, L_1000000, L_100000000, L_2000000000, nI_add, pk_mul, nI_clamp, nI_leI, nI_ltI, nI_eq, kin_I, pk_sub, nI_m1, m1_nI, nI_am1, kx_max, kx_min, kt_tx, kt_rp, kg_si, kg_sl, kq_si, kq_sl, kv_si, kv_sl, Nat.reduceAdd, Nat.reduceMul, Nat.reduceSub, Nat.reduceEqDiff, Nat.reduceLT, Nat.reduceLeDiff, ne_eq, not_true_eq_false, not_false_eq_true, or_true, true_or, or_false, false_or, and_true, true_and, false_and, and_false, if_true, if_false, ite_true, ite_false, reduceIte, kl_0, kl_1, kl_2, kl_3, kl_6, kl_20, kl_50, kl_500, kl_999, kl_2400, kl_2g, in_t, in_tt, in_f, in_ff, in_n, if_pos, if_neg, eq_self, nI_n1, n1_nI, nI_an1, lesser_n1, lesser_rn, lesser_n, kx_n1, eg1, es, sl_ok p1 hZ hv]; done) | (simp (disch := omega) only [L_0, L_1, L_2, L_3, L_4, L_5, L_6, L_7, L_8, L_9, L_10, L_11, L_12, L_16, L_18, L_20, L_24, L_25, L_30, L_32, L_38, L_40, L_48, L_50, L_60, L_63, L_64, L_72, L_99, L_100, L_160, L_500, L_999, L_1380, L_1400, L_2400, L_2401, L_60025, L_100000, L_1000000, L_100000000, L_2000000000, nI_add, pk_mul, nI_clamp, nI_leI, nI_ltI, nI_eq, kin_I, pk_sub, nI_m1, m1_nI, nI_am1, kx_max, kx_min, kt_tx, kt_rp, kg_si, kg_sl, kq_si, kq_sl, kv_si, kv_sl, Nat.reduceAdd, Nat.reduceMul, Nat.reduceSub, Nat.reduceEqDiff, Nat.reduceLT, Nat.reduceLeDiff, ne_eq, not_true_eq_false, not_false_eq_true, or_true, true_or, or_false, false_or, and_true, true_and, false_and, and_false, if_true, if_false, ite_true, ite_false, reduceIte, kl_0, kl_1, kl_2, kl_3, kl_6, kl_20, kl_50, kl_500, kl_999, kl_2400, kl_2g, in_t, in_tt, in_f, in_ff, in_n, if_pos, if_neg, eq_self, nI_n1, n1_nI, nI_an1, lesser_n1, lesser_rn, lesser_n, kx_n1, eg1, es, sl_ok p1 hZ hv]; omega) | decide)) ?_) | (with_reducible refine Wp_f (by (first | (simp (disch := omega) only [L_0, L_1, L_2, L_3, L_4, L_5, L_6, L_7, L_8, L_9, L_10, L_11, L_12, L_16, L_18, L_20, L_24, L_25, L_30, L_32, L_38, L_40, L_48, L_50, L_60, L_63, L_64, L_72, L_99, L_100, L_160, L_500, L_999, L_1380, L_1400, L_2400, L_2401, L_60025, L_100000, L_1000000, L_100000000, L_2000000000, nI_add, pk_mul, nI_clamp, nI_leI, nI_ltI, nI_eq, kin_I, pk_sub, nI_m1, m1_nI, nI_am1, kx_max, kx_min, kt_tx, kt_rp, kg_si, kg_sl, kq_si, kq_sl, kv_si, kv_sl, Nat.reduceAdd, Nat.reduceMul, Nat.reduceSub, Nat.reduceEqDiff, Nat.reduceLT, Nat.reduceLeDiff, ne_eq, not_true_eq_false, not_false_eq_true, or_true, true_or, or_false, false_or, and_true, true_and, false_and, and_false, if_true, if_false, ite_true, ite_false, reduceIte, kl_0, kl_1, kl_2, kl_3, kl_6, kl_20, kl_50, kl_500, kl_999, kl_2400, kl_2g, in_t, in_tt, in_f, in_ff, in_n, if_pos, if_neg, eq_self, nI_n1, n1_nI, nI_an1, lesser_n1, lesser_rn, lesser_n, kx_n1, eg1, es, sl_ok p1 hZ hv]; done) | (simp (disch := omega) only [L_0, L_1, L_2, L_3, L_4, L_5, L_6, L_7, L_8, L_9, L_10, L_11, L_12, L_16, L_18, L_20, L_24, L_25, L_30, L_32, L_38, L_40, L_48, L_50, L_60, L_63, L_64, L_72, L_99, L_100, L_160, L_500, L_999, L_1380, L_1400, L_2400, L_2401, L_60025, L_100000, L_1000000, L_100000000, L_2000000000, nI_add, pk_mul, nI_clamp, nI_leI, nI_ltI, nI_eq, kin_I, pk_sub, nI_m1, m1_nI, nI_am1, kx_max, kx_min, kt_tx, kt_rp, kg_si, kg_sl, kq_si, kq_sl, kv_si, kv_sl, Nat.reduceAdd, Nat.reduceMul, Nat.reduceSub, Nat.reduceEqDiff, Nat.reduceLT, Nat.reduceLeDiff, ne_eq, not_true_eq_false, not_false_eq_true, or_true, true_or, or_false, false_or, and_true, true_and, false_and, and_false, if_true, if_false, ite_true, ite_false, reduceIte, kl_0, kl_1, kl_2, kl_3, kl_6, kl_20, kl_50, kl_500, kl_999, kl_2400, kl_2g, in_t, in_tt, in_f, in_ff, in_n, if_pos, if_neg, eq_self, nI_n1, n1_nI, nI_an1, lesser_n1, lesser_rn, lesser_n, kx_n1, eg1, es, sl_ok p1 hZ hv]; omega) | decide)) ?_))); try simp (disch := omega) only [nI_1, kt_rp, kt_tx]
      first | exact ⟨rfl, p2.fr al_s⟩ | exact ⟨trivial, p2.fr al_s⟩
    · unfold f_X12_all; refine Wp_letI ?_; intro M1 hM1; have hK1 : KS M1 g G := (by rw [← hM1]; exact hK.fr (Fr.thrown _ _)); have hF1 : Fr M M1 := (by rw [← hM1]; exact Fr.thrown _ _); clear hM1; have hV := hK1.V; have hR1 := hK1.R; have hR2 := hR1; obtain ⟨r0, rPl, rWe, rOd, rKi, rWo, rRo, rPe, rAc, rInc, rWa, rL, rMn, rW, rA, rB, rLd, rWg, rPc⟩ := hR2
      (repeat (first | with_reducible refine Wp_some ?_ | (with_reducible refine Wp_letI ?_; intro v_ hv_; (try simp (disch := omega) only [L_0, L_1, L_2, L_3, L_4, L_5, L_6, L_7, L_8, L_9, L_10, L_11, L_12, L_16, L_18, L_20, L_24, L_25, L_30, L_32, L_38, L_40, L_48, L_50, L_60, L_63, L_64, L_72, L_99, L_100, L_160, L_500, L_999, L_1380, L_1400, L_2400, L_2401, L_60025, L_100000, L_1000000, L_100000000, L_2000000000, nI_add, pk_mul, nI_clamp, nI_leI, nI_ltI, nI_eq, kin_I, pk_sub, nI_m1, m1_nI, nI_am1, kx_max, kx_min, kt_tx, kt_rp, kg_si, kg_sl, kq_si, kq_sl, kv_si, kv_sl, Nat.reduceAdd, Nat.reduceMul, Nat.reduceSub, Nat.reduceEqDiff, Nat.reduceLT, Nat.reduceLeDiff, ne_eq, not_true_eq_false, not_false_eq_true, or_true, true_or, or_false, false_or, and_true, true_and, false_and, and_false, if_true, if_false, ite_true, ite_false, reduceIte, kl_0, kl_1, kl_2, kl_3, kl_6, kl_20, kl_50, kl_500, kl_999, kl_2400, kl_2g, in_t, in_tt, in_f, in_ff, in_n, if_pos, if_neg, eq_self, nI_n1, n1_nI, nI_an1, lesser_n1, lesser_rn, lesser_n, kx_n1, gorge_t hR1 hV (show 0 < gLi G by omega)] at hv_); subst hv_) | (with_reducible refine Wp_biI ?_; intro c_ hc_; simp (disch := omega) only [L_0, L_1, L_2, L_3, L_4, L_5, L_6, L_7, L_8, L_9, L_10, L_11, L_12, L_16, L_18, L_20, L_24, L_25, L_30, L_32, L_38, L_40, L_48, L_50, L_60, L_63, L_64, L_72, L_99, L_100, L_160, L_500, L_999, L_1380, L_1400, L_2400, L_2401, L_60025, L_100000, L_1000000, L_100000000, L_2000000000, nI_add, pk_mul, nI_clamp, nI_leI, nI_ltI, nI_eq, kin_I, pk_sub, nI_m1, m1_nI, nI_am1, kx_max, kx_min, kt_tx, kt_rp, kg_si, kg_sl, kq_si, kq_sl, kv_si, kv_sl, Nat.reduceAdd, Nat.reduceMul, Nat.reduceSub, Nat.reduceEqDiff, Nat.reduceLT, Nat.reduceLeDiff, ne_eq, not_true_eq_false, not_false_eq_true, or_true, true_or, or_false, false_or, and_true, true_and, false_and, and_false, if_true, if_false, ite_true, ite_false, reduceIte, kl_0, kl_1, kl_2, kl_3, kl_6, kl_20, kl_50, kl_500, kl_999, kl_2400, kl_2g, in_t, in_tt, in_f, in_ff, in_n, if_pos, if_neg, eq_self, nI_n1, n1_nI, nI_an1, lesser_n1, lesser_rn, lesser_n, kx_n1, gorge_t hR1 hV (show 0 < gLi G by omega)] at hc_; subst hc_; with_reducible refine Wp_bis ?_) | (with_reducible refine Wp_bvI ?_; intro c_ hc_; simp (disch := omega) only [L_0, L_1, L_2, L_3, L_4, L_5, L_6, L_7, L_8, L_9, L_10, L_11, L_12, L_16, L_18, L_20, L_24, L_25, L_30, L_32, L_38, L_40, L_48, L_50, L_60, L_63, L_64, L_72, L_99, L_100, L_160, L_500, L_999, L_1380, L_1400, L_2400, L_2401, L_60025, L_100000, L_1000000, L_100000000, L_2000000000, nI_add, pk_mul, nI_clamp, nI_leI, nI_ltI, nI_eq, kin_I, pk_sub, nI_m1, m1_nI, nI_am1, kx_max, kx_min, kt_tx, kt_rp, kg_si, kg_sl, kq_si, kq_sl, kv_si, kv_sl, Nat.reduceAdd, Nat.reduceMul, Nat.reduceSub, Nat.reduceEqDiff, Nat.reduceLT, Nat.reduceLeDiff, ne_eq, not_true_eq_false, not_false_eq_true, or_true, true_or, or_false, false_or, and_true, true_and, false_and, and_false, if_true, if_false, ite_true, ite_false, reduceIte, kl_0, kl_1, kl_2, kl_3, kl_6, kl_20, kl_50, kl_500, kl_999, kl_2400, kl_2g, in_t, in_tt, in_f, in_ff, in_n, if_pos, if_neg, eq_self, nI_n1, n1_nI, nI_an1, lesser_n1, lesser_rn, lesser_n, kx_n1, gorge_t hR1 hV (show 0 < gLi G by omega)] at hc_; subst hc_; with_reducible refine Wp_bvs ?_) | (with_reducible refine Wp_t (by (first | (simp (disch := omega) only [L_0, L_1, L_2, L_3, L_4, L_5, L_6, L_7, L_8, L_9, L_10, L_11, L_12, L_16, L_18, L_20, L_24, L_25, L_30, L_32, L_38, L_40, L_48, L_50, L_60, L_63, L_64, L_72, L_99, L_100, L_160, L_500, L_999, L_1380, L_1400, L_2400, L_2401, L_60025, L_100000, L_1000000, L_100000000, L_2000000000, nI_add, pk_mul, nI_clamp, nI_leI, nI_ltI, nI_eq, kin_I, pk_sub, nI_m1, m1_nI, nI_am1, kx_max, kx_min, kt_tx, kt_rp, kg_si, kg_sl, kq_si, kq_sl, kv_si, kv_sl, Nat.reduceAdd, Nat.reduceMul, Nat.reduceSub, Nat.reduceEqDiff, Nat.reduceLT, Nat.reduceLeDiff, ne_eq, not_true_eq_false, not_false_eq_true, or_true, true_or, or_false, false_or, and_true, true_and, false_and, and_false, if_true, if_false, ite_true, ite_false, reduceIte, kl_0, kl_1, kl_2, kl_3, kl_6, kl_20, kl_50, kl_500, kl_999, kl_2400, kl_2g, in_t, in_tt, in_f, in_ff, in_n, if_pos, if_neg, eq_self, nI_n1, n1_nI, nI_an1, lesser_n1, lesser_rn, lesser_n, kx_n1, gorge_t hR1 hV (show 0 < gLi G by omega)]; done) | (simp (disch := omega) only [L_0, L_1, L_2, L_3, L_4, L_5, L_6, L_7, L_8, L_9, L_10, L_11, L_12, L_16, L_18, L_20, L_24, L_25, L_30, L_32, L_38, L_40, L_48, L_50, L_60, L_63, L_64, L_72, L_99, L_100, L_160, L_500, L_999, L_1380, L_1400, L_2400, L_2401, L_60025, L_100000, L_1000000, L_100000000, L_2000000000, nI_add, pk_mul, nI_clamp, nI_leI, nI_ltI, nI_eq, kin_I, pk_sub, nI_m1, m1_nI, nI_am1, kx_max, kx_min, kt_tx, kt_rp, kg_si, kg_sl, kq_si, kq_sl, kv_si, kv_sl, Nat.reduceAdd, Nat.reduceMul, Nat.reduceSub, Nat.reduceEqDiff, Nat.reduceLT, Nat.reduceLeDiff, ne_eq, not_true_eq_false, not_false_eq_true, or_true, true_or, or_false, false_or, and_true, true_and, false_and, and_false, if_true, if_false, ite_true, ite_false, reduceIte, kl_0, kl_1, kl_2, kl_3, kl_6, kl_20, kl_50, kl_500, kl_999, kl_2400, kl_2g, in_t, in_tt, in_f, in_ff, in_n, if_pos, if_neg, eq_self, nI_n1, n1_nI, nI_an1, lesser_n1, lesser_rn, lesser_n, kx_n1, gorge_t hR1 hV (show 0 < gLi G by omega)]; omega) | decide)) ?_) | (with_reducible refine Wp_f (by (first | (simp (disch := omega) only [L_0, L_1, L_2, L_3, L_4, L_5, L_6, L_7, L_8, L_9, L_10, L_11, L_12, L_16, L_18, L_20, L_24, L_25, L_30, L_32, L_38, L_40, L_48, L_50, L_60, L_63, L_64, L_72, L_99, L_100, L_160, L_500, L_999, L_1380, L_1400, L_2400, L_2401, L_60025, L_100000, L_1000000, L_100000000, L_2000000000, nI_add, pk_mul, nI_clamp, nI_leI, nI_ltI, nI_eq, kin_I, pk_sub, nI_m1, m1_nI, nI_am1, kx_max, kx_min, kt_tx, kt_rp, kg_si, kg_sl, kq_si, kq_sl, kv_si, kv_sl, Nat.reduceAdd, Nat.reduceMul, Nat.reduceSub, Nat.reduceEqDiff, Nat.reduceLT, Nat.reduceLeDiff, ne_eq, not_true_eq_false, not_false_eq_true, or_true, true_or, or_false, false_or, and_true, true_and, false_and, and_false, if_true, if_false, ite_true, ite_false, reduceIte, kl_0, kl_1, kl_2, kl_3, kl_6, kl_20, kl_50, kl_500, kl_999, kl_2400, kl_2g, in_t, in_tt, in_f, in_ff, in_n, if_pos, if_neg, eq_self, nI_n1, n1_nI, nI_an1, lesser_n1, lesser_rn, lesser_n, kx_n1, gorge_t hR1 hV (show 0 < gLi G by omega)]; done) | (simp (disch := omega) only [L_0, L_1, L_2, L_3, L_4, L_5, L_6, L_7, L_8, L_9, L_10, L_11, L_12, L_16, L_18, L_20, L_24, L_25, L_30, L_32, L_38, L_40, L_48, L_50, L_60, L_63, L_64, L_72, L_99, L_100, L_160, L_500, L_999, L_1380, L_1400, L_2400, L_2401, L_60025, L_100000, L_1000000, L_100000000, L_2000000000, nI_add, pk_mul, nI_clamp, nI_leI, nI_ltI, nI_eq, kin_I, pk_sub, nI_m1, m1_nI, nI_am1, kx_max, kx_min, kt_tx, kt_rp, kg_si, kg_sl, kq_si, kq_sl, kv_si, kv_sl, Nat.reduceAdd, Nat.reduceMul, Nat.reduceSub, Nat.reduceEqDiff, Nat.reduceLT, Nat.reduceLeDiff, ne_eq, not_true_eq_false, not_false_eq_true, or_true, true_or, or_false, false_or, and_true, true_and, false_and, and_false, if_true, if_false, ite_true, ite_false, reduceIte, kl_0, kl_1, kl_2, kl_3, kl_6, kl_20, kl_50, kl_500, kl_999, kl_2400, kl_2g, in_t, in_tt, in_f, in_ff, in_n, if_pos, if_neg, eq_self, nI_n1, n1_nI, nI_an1, lesser_n1, lesser_rn, lesser_n, kx_n1, gorge_t hR1 hV (show 0 < gLi G by omega)]; omega) | decide)) ?_))); try simp (disch := omega) only [nI_1, kt_rp, kt_tx]
      refine Wp_bv _ (la_R hK1 hZ0 hZ hv) (fun M4 ⟨M2, a1, a2⟩ => ?_)
      have e := a1.1
      (repeat (first | with_reducible refine Wp_some ?_ | (with_reducible refine Wp_letI ?_; intro v_ hv_; (try simp (disch := omega) only [L_0, L_1, L_2, L_3, L_4, L_5, L_6, L_7, L_8, L_9, L_10, L_11, L_12, L_16, L_18, L_20, L_24, L_25, L_30, L_32, L_38, L_40, L_48, L_50, L_60, L_63, L_64, L_72, L_99, L_100, L_160, L_500, L_999, L_1380, L_1400, L_2400, L_2401, L_60025, L_100000, L_1000000, L_100000000, L_2000000000, nI_add, pk_mul, nI_clamp, nI_leI, nI_ltI, nI_eq, kin_I, pk_sub, nI_m1, m1_nI, nI_am1, kx_max, kx_min, kt_tx, kt_rp, kg_si, kg_sl, kq_si, kq_sl, kv_si, kv_sl, Nat.reduceAdd, Nat.reduceMul, Nat.reduceSub, Nat.reduceEqDiff, Nat.reduceLT, Nat.reduceLeDiff, ne_eq, not_true_eq_false, not_false_eq_true, or_true, true_or, or_false, false_or, and_true, true_and, false_and, and_false, if_true, if_false, ite_true, ite_false, reduceIte, kl_0, kl_1, kl_2, kl_3, kl_6, kl_20, kl_50, kl_500, kl_999, kl_2400, kl_2g, in_t, in_tt, in_f, in_ff, in_n, if_pos, if_neg, eq_self, nI_n1, n1_nI, nI_an1, lesser_n1, lesser_rn, lesser_n, kx_n1, e] at hv_); subst hv_) | (with_reducible refine Wp_biI ?_; intro c_ hc_; simp (disch := omega) only [L_0, L_1, L_2, L_3, L_4, L_5, L_6, L_7, L_8, L_9, L_10, L_11, L_12, L_16, L_18, L_20, L_24, L_25, L_30, L_32, L_38, L_40, L_48, L_50, L_60, L_63, L_64, L_72, L_99, L_100, L_160, L_500, L_999, L_1380, L_1400, L_2400, L_2401, L_60025, L_100000, L_1000000, L_100000000, L_2000000000, nI_add, pk_mul, nI_clamp, nI_leI, nI_ltI, nI_eq, kin_I, pk_sub, nI_m1, m1_nI, nI_am1, kx_max, kx_min, kt_tx, kt_rp, kg_si, kg_sl, kq_si, kq_sl, kv_si, kv_sl, Nat.reduceAdd, Nat.reduceMul, Nat.reduceSub, Nat.reduceEqDiff, Nat.reduceLT, Nat.reduceLeDiff, ne_eq, not_true_eq_false, not_false_eq_true, or_true, true_or, or_false, false_or, and_true, true_and, false_and, and_false, if_true, if_false, ite_true, ite_false, reduceIte, kl_0, kl_1, kl_2, kl_3, kl_6, kl_20, kl_50, kl_500, kl_999, kl_2400, kl_2g, in_t, in_tt, in_f, in_ff, in_n, if_pos, if_neg, eq_self, nI_n1, n1_nI, nI_an1, lesser_n1, lesser_rn, lesser_n, kx_n1, e] at hc_; subst hc_; with_reducible refine Wp_bis ?_) | (with_reducible refine Wp_bvI ?_; intro c_ hc_; simp (disch := omega) only [L_0, L_1, L_2, L_3, L_4, L_5, L_6, L_7, L_8, L_9, L_10, L_11, L_12, L_16, L_18, L_20, L_24, L_25, L_30, L_32, L_38, L_40, L_48, L_50, L_60, L_63, L_64, L_72, L_99, L_100, L_160, L_500, L_999, L_1380, L_1400, L_2400, L_2401, L_60025, L_100000, L_1000000, L_100000000, L_2000000000, nI_add, pk_mul, nI_clamp, nI_leI, nI_ltI, nI_eq, kin_I, pk_sub, nI_m1, m1_nI, nI_am1, kx_max, kx_min, kt_tx, kt_rp, kg_si, kg_sl, kq_si, kq_sl, kv_si, kv_sl, Nat.reduceAdd, Nat.reduceMul, Nat.reduceSub, Nat.reduceEqDiff, Nat.reduceLT, Nat.reduceLeDiff, ne_eq, not_true_eq_false, not_false_eq_true, or_true, true_or, or_false, false_or, and_true, true_and, false_and, and_false, if_true, if_false, ite_true, ite_false, reduceIte, kl_0, kl_1, kl_2, kl_3, kl_6, kl_20, kl_50, kl_500, kl_999, kl_2400, kl_2g, in_t, in_tt, in_f, in_ff, in_n, if_pos, if_neg, eq_self, nI_n1, n1_nI, nI_an1, lesser_n1, lesser_rn, lesser_n, kx_n1, e] at hc_; subst hc_; with_reducible refine Wp_bvs ?_) | (with_reducible refine Wp_t (by (first | (simp (disch := omega) only [L_0, L_1, L_2, L_3, L_4, L_5, L_6, L_7, L_8, L_9, L_10, L_11, L_12, L_16, L_18, L_20, L_24, L_25, L_30, L_32, L_38, L_40, L_48, L_50, L_60, L_63, L_64, L_72, L_99, L_100, L_160, L_500, L_999, L_1380, L_1400, L_2400, L_2401, L_60025, L_100000, L_1000000, L_100000000, L_2000000000, nI_add, pk_mul, nI_clamp, nI_leI, nI_ltI, nI_eq, kin_I, pk_sub, nI_m1, m1_nI, nI_am1, kx_max, kx_min, kt_tx, kt_rp, kg_si, kg_sl, kq_si, kq_sl, kv_si, kv_sl, Nat.reduceAdd, Nat.reduceMul, Nat.reduceSub, Nat.reduceEqDiff, Nat.reduceLT, Nat.reduceLeDiff, ne_eq, not_true_eq_false, not_false_eq_true, or_true, true_or, or_false, false_or, and_true, true_and, false_and, and_false, if_true, if_false, ite_true, ite_false, reduceIte, kl_0, kl_1, kl_2, kl_3, kl_6, kl_20, kl_50, kl_500, kl_999, kl_2400, kl_2g, in_t, in_tt, in_f, in_ff, in_n, if_pos, if_neg, eq_self, nI_n1, n1_nI, nI_an1, lesser_n1, lesser_rn, lesser_n, kx_n1, e]; done) | (simp (disch := omega) only [L_0, L_1, L_2, L_3, L_4, L_5, L_6, L_7, L_8, L_9, L_10, L_11, L_12, L_16, L_18, L_20, L_24, L_25, L_30, L_32, L_38, L_40, L_48, L_50, L_60, L_63, L_64, L_72, L_99, L_100, L_160, L_500, L_999, L_1380, L_1400, L_2400, L_2401, L_60025, L_100000, L_1000000, L_100000000, L_2000000000, nI_add, pk_mul, nI_clamp, nI_leI, nI_ltI, nI_eq, kin_I, pk_sub, nI_m1, m1_nI, nI_am1, kx_max, kx_min, kt_tx, kt_rp, kg_si, kg_sl, kq_si, kq_sl, kv_si, kv_sl, Nat.reduceAdd, Nat.reduceMul, Nat.reduceSub, Nat.reduceEqDiff, Nat.reduceLT, Nat.reduceLeDiff, ne_eq, not_true_eq_false, not_false_eq_true, or_true, true_or, or_false, false_or, and_true, true_and, false_and, and_false, if_true, if_false, ite_true, ite_false, reduceIte, kl_0, kl_1, kl_2, kl_3, kl_6, kl_20, kl_50, kl_500, kl_999, kl_2400, kl_2g, in_t, in_tt, in_f, in_ff, in_n, if_pos, if_neg, eq_self, nI_n1, n1_nI, nI_an1, lesser_n1, lesser_rn, lesser_n, kx_n1, e]; omega) | decide)) ?_) | (with_reducible refine Wp_f (by (first | (simp (disch := omega) only [L_0, L_1, L_2, L_3, L_4, L_5, L_6, L_7, L_8, L_9, L_10, L_11, L_12, L_16, L_18, L_20, L_24, L_25, L_30, L_32, L_38, L_40, L_48, L_50, L_60, L_63, L_64, L_72, L_99, L_100, L_160, L_500, L_999, L_1380, L_1400, L_2400, L_2401, L_60025, L_100000, L_1000000, L_100000000, L_2000000000, nI_add, pk_mul, nI_clamp, nI_leI, nI_ltI, nI_eq, kin_I, pk_sub, nI_m1, m1_nI, nI_am1, kx_max, kx_min, kt_tx, kt_rp, kg_si, kg_sl, kq_si, kq_sl, kv_si, kv_sl, Nat.reduceAdd, Nat.reduceMul, Nat.reduceSub, Nat.reduceEqDiff, Nat.reduceLT, Nat.reduceLeDiff, ne_eq, not_true_eq_false, not_false_eq_true, or_true, true_or, or_false, false_or, and_true, true_and, false_and, and_false, if_true, if_false, ite_true, ite_false, reduceIte, kl_0, kl_1, kl_2, kl_3, kl_6, kl_20, kl_50, kl_500, kl_999, kl_2400, kl_2g, in_t, in_tt, in_f, in_ff, in_n, if_pos, if_neg, eq_self, nI_n1, n1_nI, nI_an1, lesser_n1, lesser_rn, lesser_n, kx_n1, e]; done) | (simp (disch := omega) only [L_0, L_1, L_2, L_3, L_4, L_5, L_6, L_7, L_8, L_9, L_10, L_11, L_12, L_16, L_18, L_20, L_24, L_25, L_30, L_32, L_38, L_40, L_48, L_50, L_60, L_63, L_64, L_72, L_99, L_100, L_160, L_500, L_999, L_1380, L_1400, L_2400, L_2401, L_60025, L_100000, L_1000000, L_100000000, L_2000000000, nI_add, pk_mul, nI_clamp, nI_leI, nI_ltI, nI_eq, kin_I, pk_sub, nI_m1, m1_nI, nI_am1, kx_max, kx_min, kt_tx, kt_rp, kg_si, kg_sl, kq_si, kq_sl, kv_si, kv_sl, Nat.reduceAdd, Nat.reduceMul, Nat.reduceSub, Nat.reduceEqDiff, Nat.reduceLT, Nat.reduceLeDiff, ne_eq, not_true_eq_false, not_false_eq_true, or_true, true_or, or_false, false_or, and_true, true_and, false_and, and_false, if_true, if_false, ite_true, ite_false, reduceIte, kl_0, kl_1, kl_2, kl_3, kl_6, kl_20, kl_50, kl_500, kl_999, kl_2400, kl_2g, in_t, in_tt, in_f, in_ff, in_n, if_pos, if_neg, eq_self, nI_n1, n1_nI, nI_an1, lesser_n1, lesser_rn, lesser_n, kx_n1, e]; omega) | decide)) ?_))); try simp (disch := omega) only [nI_1, kt_rp, kt_tx]
      first | exact ⟨rfl, hF1.trans a2⟩ | exact ⟨trivial, hF1.trans a2⟩
theorem op_24 (p1 : Int32) (M : kr_M) (h : Sim M) : ∃ (r : Int32) (M1 M2 : kr_M), f_X11_order p1 M = some (r, M1) ∧ f_X12_order p1 M1 = some (r, M2) ∧ Sim M2 := by
  refine op_q (c := f_X11_order p1) (f := f_X12_order p1) h (fun g G hK => ?_)
  have hV := hK.V
  have hV' := hV
  have hC := hK.C
  have hC' := hC
  have eg := hK.gr
  have es := hK.sh
  obtain ⟨vLi, v0, vPl, vWe, vOd, vKi, vWo, vRo, vPe, vWt, vAc, vIn, vWa, vL, vMn, vW, vA, vB, vAB, vLd, vCr, vN, vK, vWg, vPc, vSt, vD⟩ := hV'
  obtain ⟨c0, cPl, cWe, cOd, cKi, cWo, cRo, cPe, cWt, cAc, cIn, cWa, cL, cMn, cW, cA, cB, cLd, cCr, cN, cK, cWg, cPc, cSt⟩ := hC'
  obtain ⟨V, hZ0, hZ, hv⟩ := aZ_x hV
  have L64 : laS G (gRo G) < 64 := Nat.lt_of_lt_of_le (laS_lt G (gRo G)) (st_9 (gRo G) (by omega)).2.2
  have pl := (st_pc _ L64).1
  by_cases hl : gLi G = 0
  · refine ⟨-2, ?_, fun M hK => ?_⟩
    · unfold f_X11_order
      (repeat (first | with_reducible refine Wp_some ?_ | (with_reducible refine Wp_letI ?_; intro v_ hv_; (try simp (disch := omega) only [L_0, L_1, L_2, L_3, L_4, L_5, L_6, L_7, L_8, L_9, L_10, L_11, L_12, L_16, L_18, L_20, L_24, L_25, L_30, L_32, L_38, L_40, L_48, L_50, L_60, L_63, L_64, L_72, L_99, L_100, L_160, L_500, L_999, L_1380, L_1400, L_2400, L_2401, L_60025, L_100000, L_1000000, L_100000000, L_2000000000, nI_add, pk_mul, nI_clamp, nI_leI, nI_ltI, nI_eq, kin_I, pk_sub, nI_m1, m1_nI, nI_am1, kx_max, kx_min, kt_tx, kt_rp, kg_si, kg_sl, kq_si, kq_sl, kv_si, kv_sl, Nat.reduceAdd, Nat.reduceMul, Nat.reduceSub, Nat.reduceEqDiff, Nat.reduceLT, Nat.reduceLeDiff, ne_eq, not_true_eq_false, not_false_eq_true, or_true, true_or, or_false, false_or, and_true, true_and, false_and, and_false, if_true, if_false, ite_true, ite_false, reduceIte, kl_0, kl_1, kl_2, kl_3, kl_6, kl_20, kl_50, kl_500, kl_999, kl_2400, kl_2g, in_t, in_tt, in_f, in_ff, in_n, if_pos, if_neg, eq_self, nI_n1, n1_nI, nI_an1, lesser_n1, lesser_rn, lesser_n, kx_n1, eg, es, told_f hC hV hl] at hv_); subst hv_) | (with_reducible refine Wp_biI ?_; intro c_ hc_; simp (disch := omega) only [L_0, L_1, L_2, L_3, L_4, L_5, L_6, L_7, L_8, L_9, L_10, L_11, L_12, L_16, L_18, L_20, L_24, L_25, L_30, L_32, L_38, L_40, L_48, L_50, L_60, L_63, L_64, L_72, L_99, L_100, L_160, L_500, L_999, L_1380, L_1400, L_2400, L_2401, L_60025, L_100000, L_1000000, L_100000000, L_2000000000, nI_add, pk_mul, nI_clamp, nI_leI, nI_ltI, nI_eq, kin_I, pk_sub, nI_m1, m1_nI, nI_am1, kx_max, kx_min, kt_tx, kt_rp, kg_si, kg_sl, kq_si, kq_sl, kv_si, kv_sl, Nat.reduceAdd, Nat.reduceMul, Nat.reduceSub, Nat.reduceEqDiff, Nat.reduceLT, Nat.reduceLeDiff, ne_eq, not_true_eq_false, not_false_eq_true, or_true, true_or, or_false, false_or, and_true, true_and, false_and, and_false, if_true, if_false, ite_true, ite_false, reduceIte, kl_0, kl_1, kl_2, kl_3, kl_6, kl_20, kl_50, kl_500, kl_999, kl_2400, kl_2g, in_t, in_tt, in_f, in_ff, in_n, if_pos, if_neg, eq_self, nI_n1, n1_nI, nI_an1, lesser_n1, lesser_rn, lesser_n, kx_n1, eg, es, told_f hC hV hl] at hc_; subst hc_; with_reducible refine Wp_bis ?_) | (with_reducible refine Wp_bvI ?_; intro c_ hc_; simp (disch := omega) only [L_0, L_1, L_2, L_3, L_4, L_5, L_6, L_7, L_8, L_9, L_10, L_11, L_12, L_16, L_18, L_20, L_24, L_25, L_30, L_32, L_38, L_40, L_48, L_50, L_60, L_63, L_64, L_72, L_99, L_100, L_160, L_500, L_999, L_1380, L_1400, L_2400, L_2401, L_60025, L_100000, L_1000000, L_100000000, L_2000000000, nI_add, pk_mul, nI_clamp, nI_leI, nI_ltI, nI_eq, kin_I, pk_sub, nI_m1, m1_nI, nI_am1, kx_max, kx_min, kt_tx, kt_rp, kg_si, kg_sl, kq_si, kq_sl, kv_si, kv_sl, Nat.reduceAdd, Nat.reduceMul, Nat.reduceSub, Nat.reduceEqDiff, Nat.reduceLT, Nat.reduceLeDiff, ne_eq, not_true_eq_false, not_false_eq_true, or_true, true_or, or_false, false_or, and_true, true_and, false_and, and_false, if_true, if_false, ite_true, ite_false, reduceIte, kl_0, kl_1, kl_2, kl_3, kl_6, kl_20, kl_50, kl_500, kl_999, kl_2400, kl_2g, in_t, in_tt, in_f, in_ff, in_n, if_pos, if_neg, eq_self, nI_n1, n1_nI, nI_an1, lesser_n1, lesser_rn, lesser_n, kx_n1, eg, es, told_f hC hV hl] at hc_; subst hc_; with_reducible refine Wp_bvs ?_) | (with_reducible refine Wp_t (by (first | (simp (disch := omega) only [L_0, L_1, L_2, L_3, L_4, L_5, L_6, L_7, L_8, L_9, L_10, L_11, L_12, L_16, L_18, L_20, L_24, L_25, L_30, L_32, L_38, L_40, L_48, L_50, L_60, L_63, L_64, L_72, L_99, L_100, L_160, L_500, L_999, L_1380, L_1400, L_2400, L_2401, L_60025, L_100000, L_1000000, L_100000000, L_2000000000, nI_add, pk_mul, nI_clamp, nI_leI, nI_ltI, nI_eq, kin_I, pk_sub, nI_m1, m1_nI, nI_am1, kx_max, kx_min, kt_tx, kt_rp, kg_si, kg_sl, kq_si, kq_sl, kv_si, kv_sl, Nat.reduceAdd, Nat.reduceMul, Nat.reduceSub, Nat.reduceEqDiff, Nat.reduceLT, Nat.reduceLeDiff, ne_eq, not_true_eq_false, not_false_eq_true, or_true, true_or, or_false, false_or, and_true, true_and, false_and, and_false, if_true, if_false, ite_true, ite_false, reduceIte, kl_0, kl_1, kl_2, kl_3, kl_6, kl_20, kl_50, kl_500, kl_999, kl_2400, kl_2g, in_t, in_tt, in_f, in_ff, in_n, if_pos, if_neg, eq_self, nI_n1, n1_nI, nI_an1, lesser_n1, lesser_rn, lesser_n, kx_n1, eg, es, told_f hC hV hl]; done) | (simp (disch := omega) only [L_0, L_1, L_2, L_3, L_4, L_5, L_6, L_7, L_8, L_9, L_10, L_11, L_12, L_16, L_18, L_20, L_24, L_25, L_30, L_32, L_38, L_40, L_48, L_50, L_60, L_63, L_64, L_72, L_99, L_100, L_160, L_500, L_999, L_1380, L_1400, L_2400, L_2401, L_60025, L_100000, L_1000000, L_100000000, L_2000000000, nI_add, pk_mul, nI_clamp, nI_leI, nI_ltI, nI_eq, kin_I, pk_sub, nI_m1, m1_nI, nI_am1, kx_max, kx_min, kt_tx, kt_rp, kg_si, kg_sl, kq_si, kq_sl, kv_si, kv_sl, Nat.reduceAdd, Nat.reduceMul, Nat.reduceSub, Nat.reduceEqDiff, Nat.reduceLT, Nat.reduceLeDiff, ne_eq, not_true_eq_false, not_false_eq_true, or_true, true_or, or_false, false_or, and_true, true_and, false_and, and_false, if_true, if_false, ite_true, ite_false, reduceIte, kl_0, kl_1, kl_2, kl_3, kl_6, kl_20, kl_50, kl_500, kl_999, kl_2400, kl_2g, in_t, in_tt, in_f, in_ff, in_n, if_pos, if_neg, eq_self, nI_n1, n1_nI, nI_an1, lesser_n1, lesser_rn, lesser_n, kx_n1, eg, es, told_f hC hV hl]; omega) | decide)) ?_) | (with_reducible refine Wp_f (by (first | (simp (disch := omega) only [L_0, L_1, L_2, L_3, L_4, L_5, L_6, L_7, L_8, L_9, L_10, L_11, L_12, L_16, L_18, L_20, L_24, L_25, L_30, L_32, L_38, L_40, L_48, L_50, L_60, L_63, L_64, L_72, L_99, L_100, L_160, L_500, L_999, L_1380, L_1400, L_2400, L_2401, L_60025, L_100000, L_1000000, L_100000000, L_2000000000, nI_add, pk_mul, nI_clamp, nI_leI, nI_ltI, nI_eq, kin_I, pk_sub, nI_m1, m1_nI, nI_am1, kx_max, kx_min, kt_tx, kt_rp, kg_si, kg_sl, kq_si, kq_sl, kv_si, kv_sl, Nat.reduceAdd, Nat.reduceMul, Nat.reduceSub, Nat.reduceEqDiff, Nat.reduceLT, Nat.reduceLeDiff, ne_eq, not_true_eq_false, not_false_eq_true, or_true, true_or, or_false, false_or, and_true, true_and, false_and, and_false, if_true, if_false, ite_true, ite_false, reduceIte, kl_0, kl_1, kl_2, kl_3, kl_6, kl_20, kl_50, kl_500, kl_999, kl_2400, kl_2g, in_t, in_tt, in_f, in_ff, in_n, if_pos, if_neg, eq_self, nI_n1, n1_nI, nI_an1, lesser_n1, lesser_rn, lesser_n, kx_n1, eg, es, told_f hC hV hl]; done) | (simp (disch := omega) only [L_0, L_1, L_2, L_3, L_4, L_5, L_6, L_7, L_8, L_9, L_10, L_11, L_12, L_16, L_18, L_20, L_24, L_25, L_30, L_32, L_38, L_40, L_48, L_50, L_60, L_63, L_64, L_72, L_99, L_100, L_160, L_500, L_999, L_1380, L_1400, L_2400, L_2401, L_60025, L_100000, L_1000000, L_100000000, L_2000000000, nI_add, pk_mul, nI_clamp, nI_leI, nI_ltI, nI_eq, kin_I, pk_sub, nI_m1, m1_nI, nI_am1, kx_max, kx_min, kt_tx, kt_rp, kg_si, kg_sl, kq_si, kq_sl, kv_si, kv_sl, Nat.reduceAdd, Nat.reduceMul, Nat.reduceSub, Nat.reduceEqDiff, Nat.reduceLT, Nat.reduceLeDiff, ne_eq, not_true_eq_false, not_false_eq_true, or_true, true_or, or_false, false_or, and_true, true_and, false_and, and_false, if_true, if_false, ite_true, ite_false, reduceIte, kl_0, kl_1, kl_2, kl_3, kl_6, kl_20, kl_50, kl_500, kl_999, kl_2400, kl_2g, in_t, in_tt, in_f, in_ff, in_n, if_pos, if_neg, eq_self, nI_n1, n1_nI, nI_an1, lesser_n1, lesser_rn, lesser_n, kx_n1, eg, es, told_f hC hV hl]; omega) | decide)) ?_))); try simp (disch := omega) only [nI_1, kt_rp, kt_tx]
      first | exact ⟨rfl, Fr.refl M⟩ | exact ⟨trivial, Fr.refl M⟩
    · unfold f_X12_order; refine Wp_letI ?_; intro M1 hM1; have hK1 : KS M1 g G := (by rw [← hM1]; exact hK.fr (Fr.thrown _ _)); have hF1 : Fr M M1 := (by rw [← hM1]; exact Fr.thrown _ _); clear hM1; have hV := hK1.V; have hR1 := hK1.R; have hR2 := hR1; obtain ⟨r0, rPl, rWe, rOd, rKi, rWo, rRo, rPe, rAc, rInc, rWa, rL, rMn, rW, rA, rB, rLd, rWg, rPc⟩ := hR2
      (repeat (first | with_reducible refine Wp_some ?_ | (with_reducible refine Wp_letI ?_; intro v_ hv_; (try simp (disch := omega) only [L_0, L_1, L_2, L_3, L_4, L_5, L_6, L_7, L_8, L_9, L_10, L_11, L_12, L_16, L_18, L_20, L_24, L_25, L_30, L_32, L_38, L_40, L_48, L_50, L_60, L_63, L_64, L_72, L_99, L_100, L_160, L_500, L_999, L_1380, L_1400, L_2400, L_2401, L_60025, L_100000, L_1000000, L_100000000, L_2000000000, nI_add, pk_mul, nI_clamp, nI_leI, nI_ltI, nI_eq, kin_I, pk_sub, nI_m1, m1_nI, nI_am1, kx_max, kx_min, kt_tx, kt_rp, kg_si, kg_sl, kq_si, kq_sl, kv_si, kv_sl, Nat.reduceAdd, Nat.reduceMul, Nat.reduceSub, Nat.reduceEqDiff, Nat.reduceLT, Nat.reduceLeDiff, ne_eq, not_true_eq_false, not_false_eq_true, or_true, true_or, or_false, false_or, and_true, true_and, false_and, and_false, if_true, if_false, ite_true, ite_false, reduceIte, kl_0, kl_1, kl_2, kl_3, kl_6, kl_20, kl_50, kl_500, kl_999, kl_2400, kl_2g, in_t, in_tt, in_f, in_ff, in_n, if_pos, if_neg, eq_self, nI_n1, n1_nI, nI_an1, lesser_n1, lesser_rn, lesser_n, kx_n1, gorge_f hR1 hV hl] at hv_); subst hv_) | (with_reducible refine Wp_biI ?_; intro c_ hc_; simp (disch := omega) only [L_0, L_1, L_2, L_3, L_4, L_5, L_6, L_7, L_8, L_9, L_10, L_11, L_12, L_16, L_18, L_20, L_24, L_25, L_30, L_32, L_38, L_40, L_48, L_50, L_60, L_63, L_64, L_72, L_99, L_100, L_160, L_500, L_999, L_1380, L_1400, L_2400, L_2401, L_60025, L_100000, L_1000000, L_100000000, L_2000000000, nI_add, pk_mul, nI_clamp, nI_leI, nI_ltI, nI_eq, kin_I, pk_sub, nI_m1, m1_nI, nI_am1, kx_max, kx_min, kt_tx, kt_rp, kg_si, kg_sl, kq_si, kq_sl, kv_si, kv_sl, Nat.reduceAdd, Nat.reduceMul, Nat.reduceSub, Nat.reduceEqDiff, Nat.reduceLT, Nat.reduceLeDiff, ne_eq, not_true_eq_false, not_false_eq_true, or_true, true_or, or_false, false_or, and_true, true_and, false_and, and_false, if_true, if_false, ite_true, ite_false, reduceIte, kl_0, kl_1, kl_2, kl_3, kl_6, kl_20, kl_50, kl_500, kl_999, kl_2400, kl_2g, in_t, in_tt, in_f, in_ff, in_n, if_pos, if_neg, eq_self, nI_n1, n1_nI, nI_an1, lesser_n1, lesser_rn, lesser_n, kx_n1, gorge_f hR1 hV hl] at hc_; subst hc_; with_reducible refine Wp_bis ?_) | (with_reducible refine Wp_bvI ?_; intro c_ hc_; simp (disch := omega) only [L_0, L_1, L_2, L_3, L_4, L_5, L_6, L_7, L_8, L_9, L_10, L_11, L_12, L_16, L_18, L_20, L_24, L_25, L_30, L_32, L_38, L_40, L_48, L_50, L_60, L_63, L_64, L_72, L_99, L_100, L_160, L_500, L_999, L_1380, L_1400, L_2400, L_2401, L_60025, L_100000, L_1000000, L_100000000, L_2000000000, nI_add, pk_mul, nI_clamp, nI_leI, nI_ltI, nI_eq, kin_I, pk_sub, nI_m1, m1_nI, nI_am1, kx_max, kx_min, kt_tx, kt_rp, kg_si, kg_sl, kq_si, kq_sl, kv_si, kv_sl, Nat.reduceAdd, Nat.reduceMul, Nat.reduceSub, Nat.reduceEqDiff, Nat.reduceLT, Nat.reduceLeDiff, ne_eq, not_true_eq_false, not_false_eq_true, or_true, true_or, or_false, false_or, and_true, true_and, false_and, and_false, if_true, if_false, ite_true, ite_false, reduceIte, kl_0, kl_1, kl_2, kl_3, kl_6, kl_20, kl_50, kl_500, kl_999, kl_2400, kl_2g, in_t, in_tt, in_f, in_ff, in_n, if_pos, if_neg, eq_self, nI_n1, n1_nI, nI_an1, lesser_n1, lesser_rn, lesser_n, kx_n1, gorge_f hR1 hV hl] at hc_; subst hc_; with_reducible refine Wp_bvs ?_) | (with_reducible refine Wp_t (by (first | (simp (disch := omega) only [L_0, L_1, L_2, L_3, L_4, L_5, L_6, L_7, L_8, L_9, L_10, L_11, L_12, L_16, L_18, L_20, L_24, L_25, L_30, L_32, L_38, L_40, L_48, L_50, L_60, L_63, L_64, L_72, L_99, L_100, L_160, L_500, L_999, L_1380, L_1400, L_2400, L_2401, L_60025, L_100000, L_1000000, L_100000000, L_2000000000, nI_add, pk_mul, nI_clamp, nI_leI, nI_ltI, nI_eq, kin_I, pk_sub, nI_m1, m1_nI, nI_am1, kx_max, kx_min, kt_tx, kt_rp, kg_si, kg_sl, kq_si, kq_sl, kv_si, kv_sl, Nat.reduceAdd, Nat.reduceMul, Nat.reduceSub, Nat.reduceEqDiff, Nat.reduceLT, Nat.reduceLeDiff, ne_eq, not_true_eq_false, not_false_eq_true, or_true, true_or, or_false, false_or, and_true, true_and, false_and, and_false, if_true, if_false, ite_true, ite_false, reduceIte, kl_0, kl_1, kl_2, kl_3, kl_6, kl_20, kl_50, kl_500, kl_999, kl_2400, kl_2g, in_t, in_tt, in_f, in_ff, in_n, if_pos, if_neg, eq_self, nI_n1, n1_nI, nI_an1, lesser_n1, lesser_rn, lesser_n, kx_n1, gorge_f hR1 hV hl]; done) | (simp (disch := omega) only [L_0, L_1, L_2, L_3, L_4, L_5, L_6, L_7, L_8, L_9, L_10, L_11, L_12, L_16, L_18, L_20, L_24, L_25, L_30, L_32, L_38, L_40, L_48, L_50, L_60, L_63, L_64, L_72, L_99, L_100, L_160, L_500, L_999, L_1380, L_1400, L_2400, L_2401, L_60025, L_100000, L_1000000, L_100000000, L_2000000000, nI_add, pk_mul, nI_clamp, nI_leI, nI_ltI, nI_eq, kin_I, pk_sub, nI_m1, m1_nI, nI_am1, kx_max, kx_min, kt_tx, kt_rp, kg_si, kg_sl, kq_si, kq_sl, kv_si, kv_sl, Nat.reduceAdd, Nat.reduceMul, Nat.reduceSub, Nat.reduceEqDiff, Nat.reduceLT, Nat.reduceLeDiff, ne_eq, not_true_eq_false, not_false_eq_true, or_true, true_or, or_false, false_or, and_true, true_and, false_and, and_false, if_true, if_false, ite_true, ite_false, reduceIte, kl_0, kl_1, kl_2, kl_3, kl_6, kl_20, kl_50, kl_500, kl_999, kl_2400, kl_2g, in_t, in_tt, in_f, in_ff, in_n, if_pos, if_neg, eq_self, nI_n1, n1_nI, nI_an1, lesser_n1, lesser_rn, lesser_n, kx_n1, gorge_f hR1 hV hl]; omega) | decide)) ?_) | (with_reducible refine Wp_f (by (first | (simp (disch := omega) only [L_0, L_1, L_2, L_3, L_4, L_5, L_6, L_7, L_8, L_9, L_10, L_11, L_12, L_16, L_18, L_20, L_24, L_25, L_30, L_32, L_38, L_40, L_48, L_50, L_60, L_63, L_64, L_72, L_99, L_100, L_160, L_500, L_999, L_1380, L_1400, L_2400, L_2401, L_60025, L_100000, L_1000000, L_100000000, L_2000000000, nI_add, pk_mul, nI_clamp, nI_leI, nI_ltI, nI_eq, kin_I, pk_sub, nI_m1, m1_nI, nI_am1, kx_max, kx_min, kt_tx, kt_rp, kg_si, kg_sl, kq_si, kq_sl, kv_si, kv_sl, Nat.reduceAdd, Nat.reduceMul, Nat.reduceSub, Nat.reduceEqDiff, Nat.reduceLT, Nat.reduceLeDiff, ne_eq, not_true_eq_false, not_false_eq_true, or_true, true_or, or_false, false_or, and_true, true_and, false_and, and_false, if_true, if_false, ite_true, ite_false, reduceIte, kl_0, kl_1, kl_2, kl_3, kl_6, kl_20, kl_50, kl_500, kl_999, kl_2400, kl_2g, in_t, in_tt, in_f, in_ff, in_n, if_pos, if_neg, eq_self, nI_n1, n1_nI, nI_an1, lesser_n1, lesser_rn, lesser_n, kx_n1, gorge_f hR1 hV hl]; done) | (simp (disch := omega) only [L_0, L_1, L_2, L_3, L_4, L_5, L_6, L_7, L_8, L_9, L_10, L_11, L_12, L_16, L_18, L_20, L_24, L_25, L_30, L_32, L_38, L_40, L_48, L_50, L_60, L_63, L_64, L_72, L_99, L_100, L_160, L_500, L_999, L_1380, L_1400, L_2400, L_2401, L_60025, L_100000, L_1000000, L_100000000, L_2000000000, nI_add, pk_mul, nI_clamp, nI_leI, nI_ltI, nI_eq, kin_I, pk_sub, nI_m1, m1_nI, nI_am1, kx_max, kx_min, kt_tx, kt_rp, kg_si, kg_sl, kq_si, kq_sl, kv_si, kv_sl, Nat.reduceAdd, Nat.reduceMul, Nat.reduceSub, Nat.reduceEqDiff, Nat.reduceLT, Nat.reduceLeDiff, ne_eq, not_true_eq_false, not_false_eq_true, or_true, true_or, or_false, false_or, and_true, true_and, false_and, and_false, if_true, if_false, ite_true, ite_false, reduceIte, kl_0, kl_1, kl_2, kl_3, kl_6, kl_20, kl_50, kl_500, kl_999, kl_2400, kl_2g, in_t, in_tt, in_f, in_ff, in_n, if_pos, if_neg, eq_self, nI_n1, n1_nI, nI_an1, lesser_n1, lesser_rn, lesser_n, kx_n1, gorge_f hR1 hV hl]; omega) | decide)) ?_))); try simp (disch := omega) only [nI_1, kt_rp, kt_tx]
      first | exact ⟨rfl, hF1⟩ | exact ⟨trivial, hF1⟩
  · refine ⟨if 0 ≤ p1.toInt ∧ p1.toInt < (pc (laS G (gRo G)) : Int) then nI (aP G V (zn p1) (laS G (gRo G)) 6) else -1, ?_, fun M hK => ?_⟩
    · unfold f_X11_order
      (repeat (first | with_reducible refine Wp_some ?_ | (with_reducible refine Wp_letI ?_; intro v_ hv_; (try simp (disch := omega) only [L_0, L_1, L_2, L_3, L_4, L_5, L_6, L_7, L_8, L_9, L_10, L_11, L_12, L_16, L_18, L_20, L_24, L_25, L_30, L_32, L_38, L_40, L_48, L_50, L_60, L_63, L_64, L_72, L_99, L_100, L_160, L_500, L_999, L_1380, L_1400, L_2400, L_2401, L_60025, L_100000, L_1000000, L_100000000, L_2000000000, nI_add, pk_mul, nI_clamp, nI_leI, nI_ltI, nI_eq, kin_I, pk_sub, nI_m1, m1_nI, nI_am1, kx_max, kx_min, kt_tx, kt_rp, kg_si, kg_sl, kq_si, kq_sl, kv_si, kv_sl, Nat.reduceAdd, Nat.reduceMul, Nat.reduceSub, Nat.reduceEqDiff, Nat.reduceLT, Nat.reduceLeDiff, ne_eq, not_true_eq_false, not_false_eq_true, or_true, true_or, or_false, false_or, and_true, true_and, false_and, and_false, if_true, if_false, ite_true, ite_false, reduceIte, kl_0, kl_1, kl_2, kl_3, kl_6, kl_20, kl_50, kl_500, kl_999, kl_2400, kl_2g, in_t, in_tt, in_f, in_ff, in_n, if_pos, if_neg, eq_self, nI_n1, n1_nI, nI_an1, lesser_n1, lesser_rn, lesser_n, kx_n1, eg, es, told_t hC hV (show 0 < gLi G by omega)] at hv_); subst hv_) | (with_reducible refine Wp_biI ?_; intro c_ hc_; simp (disch := omega) only [L_0, L_1, L_2, L_3, L_4, L_5, L_6, L_7, L_8, L_9, L_10, L_11, L_12, L_16, L_18, L_20, L_24, L_25, L_30, L_32, L_38, L_40, L_48, L_50, L_60, L_63, L_64, L_72, L_99, L_100, L_160, L_500, L_999, L_1380, L_1400, L_2400, L_2401, L_60025, L_100000, L_1000000, L_100000000, L_2000000000, nI_add, pk_mul, nI_clamp, nI_leI, nI_ltI, nI_eq, kin_I, pk_sub, nI_m1, m1_nI, nI_am1, kx_max, kx_min, kt_tx, kt_rp, kg_si, kg_sl, kq_si, kq_sl, kv_si, kv_sl, Nat.reduceAdd, Nat.reduceMul, Nat.reduceSub, Nat.reduceEqDiff, Nat.reduceLT, Nat.reduceLeDiff, ne_eq, not_true_eq_false, not_false_eq_true, or_true, true_or, or_false, false_or, and_true, true_and, false_and, and_false, if_true, if_false, ite_true, ite_false, reduceIte, kl_0, kl_1, kl_2, kl_3, kl_6, kl_20, kl_50, kl_500, kl_999, kl_2400, kl_2g, in_t, in_tt, in_f, in_ff, in_n, if_pos, if_neg, eq_self, nI_n1, n1_nI, nI_an1, lesser_n1, lesser_rn, lesser_n, kx_n1, eg, es, told_t hC hV (show 0 < gLi G by omega)] at hc_; subst hc_; with_reducible refine Wp_bis ?_) | (with_reducible refine Wp_bvI ?_; intro c_ hc_; simp (disch := omega) only [L_0, L_1, L_2, L_3, L_4, L_5, L_6, L_7, L_8, L_9, L_10, L_11, L_12, L_16, L_18, L_20, L_24, L_25, L_30, L_32, L_38, L_40, L_48, L_50, L_60, L_63, L_64, L_72, L_99, L_100, L_160, L_500, L_999, L_1380, L_1400, L_2400, L_2401, L_60025, L_100000, L_1000000, L_100000000, L_2000000000, nI_add, pk_mul, nI_clamp, nI_leI, nI_ltI, nI_eq, kin_I, pk_sub, nI_m1, m1_nI, nI_am1, kx_max, kx_min, kt_tx, kt_rp, kg_si, kg_sl, kq_si, kq_sl, kv_si, kv_sl, Nat.reduceAdd, Nat.reduceMul, Nat.reduceSub, Nat.reduceEqDiff, Nat.reduceLT, Nat.reduceLeDiff, ne_eq, not_true_eq_false, not_false_eq_true, or_true, true_or, or_false, false_or, and_true, true_and, false_and, and_false, if_true, if_false, ite_true, ite_false, reduceIte, kl_0, kl_1, kl_2, kl_3, kl_6, kl_20, kl_50, kl_500, kl_999, kl_2400, kl_2g, in_t, in_tt, in_f, in_ff, in_n, if_pos, if_neg, eq_self, nI_n1, n1_nI, nI_an1, lesser_n1, lesser_rn, lesser_n, kx_n1, eg, es, told_t hC hV (show 0 < gLi G by omega)] at hc_; subst hc_; with_reducible refine Wp_bvs ?_) | (with_reducible refine Wp_t (by (first | (simp (disch := omega) only [L_0, L_1, L_2, L_3, L_4, L_5, L_6, L_7, L_8, L_9, L_10, L_11, L_12, L_16, L_18, L_20, L_24, L_25, L_30, L_32, L_38, L_40, L_48, L_50, L_60, L_63, L_64, L_72, L_99, L_100, L_160, L_500, L_999, L_1380, L_1400, L_2400, L_2401, L_60025, L_100000, L_1000000, L_100000000, L_2000000000, nI_add, pk_mul, nI_clamp, nI_leI, nI_ltI, nI_eq, kin_I, pk_sub, nI_m1, m1_nI, nI_am1, kx_max, kx_min, kt_tx, kt_rp, kg_si, kg_sl, kq_si, kq_sl, kv_si, kv_sl, Nat.reduceAdd, Nat.reduceMul, Nat.reduceSub, Nat.reduceEqDiff, Nat.reduceLT, Nat.reduceLeDiff, ne_eq, not_true_eq_false, not_false_eq_true, or_true, true_or, or_false, false_or, and_true, true_and, false_and, and_false, if_true, if_false, ite_true, ite_false, reduceIte, kl_0, kl_1, kl_2, kl_3, kl_6, kl_20, kl_50, kl_500, kl_999, kl_2400, kl_2g, in_t, in_tt, in_f, in_ff, in_n, if_pos, if_neg, eq_self, nI_n1, n1_nI, nI_an1, lesser_n1, lesser_rn, lesser_n, kx_n1, eg, es, told_t hC hV (show 0 < gLi G by omega)]; done) | (simp (disch := omega) only [L_0, L_1, L_2, L_3, L_4, L_5, L_6, L_7, L_8, L_9, L_10, L_11, L_12, L_16, L_18, L_20, L_24, L_25, L_30, L_32, L_38, L_40, L_48, L_50, L_60, L_63, L_64, L_72, L_99, L_100, L_160, L_500, L_999, L_1380, L_1400, L_2400, L_2401, L_60025, L_100000, L_1000000, L_100000000, L_2000000000, nI_add, pk_mul, nI_clamp, nI_leI, nI_ltI, nI_eq, kin_I, pk_sub, nI_m1, m1_nI, nI_am1, kx_max, kx_min, kt_tx, kt_rp, kg_si, kg_sl, kq_si, kq_sl, kv_si, kv_sl, Nat.reduceAdd, Nat.reduceMul, Nat.reduceSub, Nat.reduceEqDiff, Nat.reduceLT, Nat.reduceLeDiff, ne_eq, not_true_eq_false, not_false_eq_true, or_true, true_or, or_false, false_or, and_true, true_and, false_and, and_false, if_true, if_false, ite_true, ite_false, reduceIte, kl_0, kl_1, kl_2, kl_3, kl_6, kl_20, kl_50, kl_500, kl_999, kl_2400, kl_2g, in_t, in_tt, in_f, in_ff, in_n, if_pos, if_neg, eq_self, nI_n1, n1_nI, nI_an1, lesser_n1, lesser_rn, lesser_n, kx_n1, eg, es, told_t hC hV (show 0 < gLi G by omega)]; omega) | decide)) ?_) | (with_reducible refine Wp_f (by (first | (simp (disch := omega) only [L_0, L_1, L_2, L_3, L_4, L_5, L_6, L_7, L_8, L_9, L_10, L_11, L_12, L_16, L_18, L_20, L_24, L_25, L_30, L_32, L_38, L_40, L_48, L_50, L_60, L_63, L_64, L_72, L_99, L_100, L_160, L_500, L_999, L_1380, L_1400, L_2400, L_2401, L_60025, L_100000, L_1000000, L_100000000, L_2000000000, nI_add, pk_mul, nI_clamp, nI_leI, nI_ltI, nI_eq, kin_I, pk_sub, nI_m1, m1_nI, nI_am1, kx_max, kx_min, kt_tx, kt_rp, kg_si, kg_sl, kq_si, kq_sl, kv_si, kv_sl, Nat.reduceAdd, Nat.reduceMul, Nat.reduceSub, Nat.reduceEqDiff, Nat.reduceLT, Nat.reduceLeDiff, ne_eq, not_true_eq_false, not_false_eq_true, or_true, true_or, or_false, false_or, and_true, true_and, false_and, and_false, if_true, if_false, ite_true, ite_false, reduceIte, kl_0, kl_1, kl_2, kl_3, kl_6, kl_20, kl_50, kl_500, kl_999, kl_2400, kl_2g, in_t, in_tt, in_f, in_ff, in_n, if_pos, if_neg, eq_self, nI_n1, n1_nI, nI_an1, lesser_n1, lesser_rn, lesser_n, kx_n1, eg, es, told_t hC hV (show 0 < gLi G by omega)]; done) | (simp (disch := omega) only [L_0, L_1, L_2, L_3, L_4, L_5, L_6, L_7, L_8, L_9, L_10, L_11, L_12, L_16, L_18, L_20, L_24, L_25, L_30, L_32, L_38, L_40, L_48, L_50, L_60, L_63, L_64, L_72, L_99, L_100, L_160, L_500, L_999, L_1380, L_1400, L_2400, L_2401, L_60025, L_100000, L_1000000, L_100000000, L_2000000000, nI_add, pk_mul, nI_clamp, nI_leI, nI_ltI, nI_eq, kin_I, pk_sub, nI_m1, m1_nI, nI_am1, kx_max, kx_min, kt_tx, kt_rp, kg_si, kg_sl, kq_si, kq_sl, kv_si, kv_sl, Nat.reduceAdd, Nat.reduceMul, Nat.reduceSub, Nat.reduceEqDiff, Nat.reduceLT, Nat.reduceLeDiff, ne_eq, not_true_eq_false, not_false_eq_true, or_true, true_or, or_false, false_or, and_true, true_and, false_and, and_false, if_true, if_false, ite_true, ite_false, reduceIte, kl_0, kl_1, kl_2, kl_3, kl_6, kl_20, kl_50, kl_500, kl_999, kl_2400, kl_2g, in_t, in_tt, in_f, in_ff, in_n, if_pos, if_neg, eq_self, nI_n1, n1_nI, nI_an1, lesser_n1, lesser_rn, lesser_n, kx_n1, eg, es, told_t hC hV (show 0 < gLi G by omega)]; omega) | decide)) ?_))); try simp (disch := omega) only [nI_1, kt_rp, kt_tx]
      refine Wp_bv _ (lay_ok hK hZ0 hZ hv) (fun M1 ⟨p1, p2⟩ => ?_)
      have eg1 := p1.1.gr
      (repeat (first | with_reducible refine Wp_some ?_ | (with_reducible refine Wp_letI ?_; intro v_ hv_; (try simp (disch := omega) only [L_0, L_1, L_2, L_3, L_4, L_5, L_6, L_7, L_8, L_9, L_10, L_11, L_12, L_16, L_18, L_20, L_24, L_25, L_30, L_32, L_38, L_40, L_48, L_50, L_60, L_63, L_64, L_72, L_99, L_100, L_160, L_500, L_999, L_1380, L_1400, L_2400, L_2401, L_60025, L_100000, L_1000000, L_100000000, L_2000000000, nI_add, pk_mul, nI_clamp, nI_leI, nI_ltI, nI_eq, kin_I, pk_sub, nI_m1, m1_nI, nI_am1, kx_max, kx_min, kt_tx, kt_rp, kg_si, kg_sl, kq_si, kq_sl, kv_si, kv_sl, Nat.reduceAdd, Nat.reduceMul, Nat.reduceSub, Nat.reduceEqDiff, Nat.reduceLT, Nat.reduceLeDiff, ne_eq, not_true_eq_false, not_false_eq_true, or_true, true_or, or_false, false_or, and_true, true_and, false_and, and_false, if_true, if_false, ite_true, ite_false, reduceIte, kl_0, kl_1, kl_2, kl_3, kl_6, kl_20, kl_50, kl_500, kl_999, kl_2400, kl_2g, in_t, in_tt, in_f, in_ff, in_n, if_pos, if_neg, eq_self, nI_n1, n1_nI, nI_an1, lesser_n1, lesser_rn, lesser_n, kx_n1, eg1, es, rf_ok p1 hv] at hv_); subst hv_) | (with_reducible refine Wp_biI ?_; intro c_ hc_; simp (disch := omega) only [L_0, L_1, L_2, L_3, L_4, L_5, L_6, L_7, L_8, L_9, L_10, L_11, L_12, L_16, L_18, L_20, L_24, L_25, L_30, L_32, L_38, L_40, L_48, L_50, L_60, L_63, L_64, L_72, L_99, L_100, L_160, L_500, L_999, L_1380, L_1400, L_2400, L_2401, L_60025, L_100000, L_1000000, L_100000000, L_2000000000, nI_add, pk_mul, nI_clamp, nI_leI, nI_ltI, nI_eq, kin_I, pk_sub, nI_m1, m1_nI, nI_am1, kx_max, kx_min, kt_tx, kt_rp, kg_si, kg_sl, kq_si, kq_sl, kv_si, kv_sl, Nat.reduceAdd, Nat.reduceMul, Nat.reduceSub, Nat.reduceEqDiff, Nat.reduceLT, Nat.reduceLeDiff, ne_eq, not_true_eq_false, not_false_eq_true, or_true, true_or, or_false, false_or, and_true, true_and, false_and, and_false, if_true, if_false, ite_true, ite_false, reduceIte, kl_0, kl_1, kl_2, kl_3, kl_6, kl_20, kl_50, kl_500, kl_999, kl_2400, kl_2g, in_t, in_tt, in_f, in_ff, in_n, if_pos, if_neg, eq_self, nI_n1, n1_nI, nI_an1, lesser_n1, lesser_rn, lesser_n, kx_n1, eg1, es, rf_ok p1 hv] at hc_; subst hc_; with_reducible refine Wp_bis ?_) | (with_reducible refine Wp_bvI ?_; intro c_ hc_; simp (disch := omega) only [L_0, L_1, L_2, L_3, L_4, L_5, L_6, L_7, L_8, L_9, L_10, L_11, L_12, L_16, L_18, L_20, L_24, L_25, L_30, L_32, L_38, L_40, L_48, L_50, L_60, L_63, L_64, L_72, L_99, L_100, L_160, L_500, L_999, L_1380, L_1400, L_2400, L_2401, L_60025, L_100000, L_1000000, L_100000000, L_2000000000, nI_add, pk_mul, nI_clamp, nI_leI, nI_ltI, nI_eq, kin_I, pk_sub, nI_m1, m1_nI, nI_am1, kx_max, kx_min, kt_tx, kt_rp, kg_si, kg_sl, kq_si, kq_sl, kv_si, kv_sl, Nat.reduceAdd, Nat.reduceMul, Nat.reduceSub, Nat.reduceEqDiff, Nat.reduceLT, Nat.reduceLeDiff, ne_eq, not_true_eq_false, not_false_eq_true, or_true, true_or, or_false, false_or, and_true, true_and, false_and, and_false, if_true, if_false, ite_true, ite_false, reduceIte, kl_0, kl_1, kl_2, kl_3, kl_6, kl_20, kl_50, kl_500, kl_999, kl_2400, kl_2g, in_t, in_tt, in_f, in_ff, in_n, if_pos, if_neg, eq_self, nI_n1, n1_nI, nI_an1, lesser_n1, lesser_rn, lesser_n, kx_n1, eg1, es, rf_ok p1 hv] at hc_; subst hc_; with_reducible refine Wp_bvs ?_) | (with_reducible refine Wp_t (by (first | (simp (disch := omega) only [L_0, L_1, L_2, L_3, L_4, L_5, L_6, L_7, L_8, L_9, L_10, L_11, L_12, L_16, L_18, L_20, L_24, L_25, L_30, L_32, L_38, L_40, L_48, L_50, L_60, L_63, L_64, L_72, L_99, L_100, L_160, L_500, L_999, L_1380, L_1400, L_2400, L_2401, L_60025, L_100000, L_1000000, L_100000000, L_2000000000, nI_add, pk_mul, nI_clamp, nI_leI, nI_ltI, nI_eq, kin_I, pk_sub, nI_m1, m1_nI, nI_am1, kx_max, kx_min, kt_tx, kt_rp, kg_si, kg_sl, kq_si, kq_sl, kv_si, kv_sl, Nat.reduceAdd, Nat.reduceMul, Nat.reduceSub, Nat.reduceEqDiff, Nat.reduceLT, Nat.reduceLeDiff, ne_eq, not_true_eq_false, not_false_eq_true, or_true, true_or, or_false, false_or, and_true, true_and, false_and, and_false, if_true, if_false, ite_true, ite_false, reduceIte, kl_0, kl_1, kl_2, kl_3, kl_6, kl_20, kl_50, kl_500, kl_999, kl_2400, kl_2g, in_t, in_tt, in_f, in_ff, in_n, if_pos, if_neg, eq_self, nI_n1, n1_nI, nI_an1, lesser_n1, lesser_rn, lesser_n, kx_n1, eg1, es, rf_ok p1 hv]; done) | (simp (disch := omega) only [L_0, L_1, L_2, L_3, L_4, L_5, L_6, L_7, L_8, L_9, L_10, L_11, L_12, L_16, L_18, L_20, L_24, L_25, L_30, L_32, L_38, L_40, L_48, L_50, L_60, L_63, L_64, L_72, L_99, L_100, L_160, L_500, L_999, L_1380, L_1400, L_2400, L_2401, L_60025, L_100000, L_1000000, L_100000000, L_2000000000, nI_add, pk_mul, nI_clamp, nI_leI, nI_ltI, nI_eq, kin_I, pk_sub, nI_m1, m1_nI, nI_am1, kx_max, kx_min, kt_tx, kt_rp, kg_si, kg_sl, kq_si, kq_sl, kv_si, kv_sl, Nat.reduceAdd, Nat.reduceMul, Nat.reduceSub, Nat.reduceEqDiff, Nat.reduceLT, Nat.reduceLeDiff, ne_eq, not_true_eq_false, not_false_eq_true, or_true, true_or, or_false, false_or, and_true, true_and, false_and, and_false, if_true, if_false, ite_true, ite_false, reduceIte, kl_0, kl_1, kl_2, kl_3, kl_6, kl_20, kl_50, kl_500, kl_999, kl_2400, kl_2g, in_t, in_tt, in_f, in_ff, in_n, if_pos, if_neg, eq_self, nI_n1, n1_nI, nI_an1, lesser_n1, lesser_rn, lesser_n, kx_n1, eg1, es, rf_ok p1 hv]; omega) | decide)) ?_) | (with_reducible refine Wp_f (by (first | (simp (disch := omega) only [L_0, L_1, L_2, L_3, L_4, L_5, L_6, L_7, L_8, L_9, L_10, L_11, L_12, L_16, L_18, L_20, L_24, L_25, L_30, L_32, L_38, L_40, L_48, L_50, L_60, L_63, L_64, L_72, L_99, L_100, L_160, L_500, L_999, L_1380, L_1400, L_2400, L_2401, L_60025, L_100000, L_1000000, L_100000000, L_2000000000, nI_add, pk_mul, nI_clamp, nI_leI, nI_ltI, nI_eq, kin_I, pk_sub, nI_m1, m1_nI, nI_am1, kx_max, kx_min, kt_tx, kt_rp, kg_si, kg_sl, kq_si, kq_sl, kv_si, kv_sl, Nat.reduceAdd, Nat.reduceMul, Nat.reduceSub, Nat.reduceEqDiff, Nat.reduceLT, Nat.reduceLeDiff, ne_eq, not_true_eq_false, not_false_eq_true, or_true, true_or, or_false, false_or, and_true, true_and, false_and, and_false, if_true, if_false, ite_true, ite_false, reduceIte, kl_0, kl_1, kl_2, kl_3, kl_6, kl_20, kl_50, kl_500, kl_999, kl_2400, kl_2g, in_t, in_tt, in_f, in_ff, in_n, if_pos, if_neg, eq_self, nI_n1, n1_nI, nI_an1, lesser_n1, lesser_rn, lesser_n, kx_n1, eg1, es, rf_ok p1 hv]; done) | (simp (disch := omega) only [L_0, L_1, L_2, L_3, L_4, L_5, L_6, L_7, L_8, L_9, L_10, L_11, L_12, L_16, L_18, L_20, L_24, L_25, L_30, L_32, L_38, L_40, L_48, L_50, L_60, L_63, L_64, L_72, L_99, L_100, L_160, L_500, L_999, L_1380, L_1400, L_2400, L_2401, L_60025, L_100000, L_1000000, L_100000000, L_2000000000, nI_add, pk_mul, nI_clamp, nI_leI, nI_ltI, nI_eq, kin_I, pk_sub, nI_m1, m1_nI, nI_am1, kx_max, kx_min, kt_tx, kt_rp, kg_si, kg_sl, kq_si, kq_sl, kv_si, kv_sl, Nat.reduceAdd, Nat.reduceMul, Nat.reduceSub, Nat.reduceEqDiff, Nat.reduceLT, Nat.reduceLeDiff, ne_eq, not_true_eq_false, not_false_eq_true, or_true, true_or, or_false, false_or, and_true, true_and, false_and, and_false, if_true, if_false, ite_true, ite_false, reduceIte, kl_0, kl_1, kl_2, kl_3, kl_6, kl_20, kl_50, kl_500, kl_999, kl_2400, kl_2g, in_t, in_tt, in_f, in_ff, in_n, if_pos, if_neg, eq_self, nI_n1, n1_nI, nI_an1, lesser_n1, lesser_rn, lesser_n, kx_n1, eg1, es, rf_ok p1 hv]; omega) | decide)) ?_))); try simp (disch := omega) only [nI_1, kt_rp, kt_tx]
      first | exact ⟨rfl, p2.fr al_s⟩ | exact ⟨trivial, p2.fr al_s⟩
    · unfold f_X12_order; refine Wp_letI ?_; intro M1 hM1; have hK1 : KS M1 g G := (by rw [← hM1]; exact hK.fr (Fr.thrown _ _)); have hF1 : Fr M M1 := (by rw [← hM1]; exact Fr.thrown _ _); clear hM1; have hV := hK1.V; have hR1 := hK1.R; have hR2 := hR1; obtain ⟨r0, rPl, rWe, rOd, rKi, rWo, rRo, rPe, rAc, rInc, rWa, rL, rMn, rW, rA, rB, rLd, rWg, rPc⟩ := hR2
      (repeat (first | with_reducible refine Wp_some ?_ | (with_reducible refine Wp_letI ?_; intro v_ hv_; (try simp (disch := omega) only [L_0, L_1, L_2, L_3, L_4, L_5, L_6, L_7, L_8, L_9, L_10, L_11, L_12, L_16, L_18, L_20, L_24, L_25, L_30, L_32, L_38, L_40, L_48, L_50, L_60, L_63, L_64, L_72, L_99, L_100, L_160, L_500, L_999, L_1380, L_1400, L_2400, L_2401, L_60025, L_100000, L_1000000, L_100000000, L_2000000000, nI_add, pk_mul, nI_clamp, nI_leI, nI_ltI, nI_eq, kin_I, pk_sub, nI_m1, m1_nI, nI_am1, kx_max, kx_min, kt_tx, kt_rp, kg_si, kg_sl, kq_si, kq_sl, kv_si, kv_sl, Nat.reduceAdd, Nat.reduceMul, Nat.reduceSub, Nat.reduceEqDiff, Nat.reduceLT, Nat.reduceLeDiff, ne_eq, not_true_eq_false, not_false_eq_true, or_true, true_or, or_false, false_or, and_true, true_and, false_and, and_false, if_true, if_false, ite_true, ite_false, reduceIte, kl_0, kl_1, kl_2, kl_3, kl_6, kl_20, kl_50, kl_500, kl_999, kl_2400, kl_2g, in_t, in_tt, in_f, in_ff, in_n, if_pos, if_neg, eq_self, nI_n1, n1_nI, nI_an1, lesser_n1, lesser_rn, lesser_n, kx_n1, gorge_t hR1 hV (show 0 < gLi G by omega)] at hv_); subst hv_) | (with_reducible refine Wp_biI ?_; intro c_ hc_; simp (disch := omega) only [L_0, L_1, L_2, L_3, L_4, L_5, L_6, L_7, L_8, L_9, L_10, L_11, L_12, L_16, L_18, L_20, L_24, L_25, L_30, L_32, L_38, L_40, L_48, L_50, L_60, L_63, L_64, L_72, L_99, L_100, L_160, L_500, L_999, L_1380, L_1400, L_2400, L_2401, L_60025, L_100000, L_1000000, L_100000000, L_2000000000, nI_add, pk_mul, nI_clamp, nI_leI, nI_ltI, nI_eq, kin_I, pk_sub, nI_m1, m1_nI, nI_am1, kx_max, kx_min, kt_tx, kt_rp, kg_si, kg_sl, kq_si, kq_sl, kv_si, kv_sl, Nat.reduceAdd, Nat.reduceMul, Nat.reduceSub, Nat.reduceEqDiff, Nat.reduceLT, Nat.reduceLeDiff, ne_eq, not_true_eq_false, not_false_eq_true, or_true, true_or, or_false, false_or, and_true, true_and, false_and, and_false, if_true, if_false, ite_true, ite_false, reduceIte, kl_0, kl_1, kl_2, kl_3, kl_6, kl_20, kl_50, kl_500, kl_999, kl_2400, kl_2g, in_t, in_tt, in_f, in_ff, in_n, if_pos, if_neg, eq_self, nI_n1, n1_nI, nI_an1, lesser_n1, lesser_rn, lesser_n, kx_n1, gorge_t hR1 hV (show 0 < gLi G by omega)] at hc_; subst hc_; with_reducible refine Wp_bis ?_) | (with_reducible refine Wp_bvI ?_; intro c_ hc_; simp (disch := omega) only [L_0, L_1, L_2, L_3, L_4, L_5, L_6, L_7, L_8, L_9, L_10, L_11, L_12, L_16, L_18, L_20, L_24, L_25, L_30, L_32, L_38, L_40, L_48, L_50, L_60, L_63, L_64, L_72, L_99, L_100, L_160, L_500, L_999, L_1380, L_1400, L_2400, L_2401, L_60025, L_100000, L_1000000, L_100000000, L_2000000000, nI_add, pk_mul, nI_clamp, nI_leI, nI_ltI, nI_eq, kin_I, pk_sub, nI_m1, m1_nI, nI_am1, kx_max, kx_min, kt_tx, kt_rp, kg_si, kg_sl, kq_si, kq_sl, kv_si, kv_sl, Nat.reduceAdd, Nat.reduceMul, Nat.reduceSub, Nat.reduceEqDiff, Nat.reduceLT, Nat.reduceLeDiff, ne_eq, not_true_eq_false, not_false_eq_true, or_true, true_or, or_false, false_or, and_true, true_and, false_and, and_false, if_true, if_false, ite_true, ite_false, reduceIte, kl_0, kl_1, kl_2, kl_3, kl_6, kl_20, kl_50, kl_500, kl_999, kl_2400, kl_2g, in_t, in_tt, in_f, in_ff, in_n, if_pos, if_neg, eq_self, nI_n1, n1_nI, nI_an1, lesser_n1, lesser_rn, lesser_n, kx_n1, gorge_t hR1 hV (show 0 < gLi G by omega)] at hc_; subst hc_; with_reducible refine Wp_bvs ?_) | (with_reducible refine Wp_t (by (first | (simp (disch := omega) only [L_0, L_1, L_2, L_3, L_4, L_5, L_6, L_7, L_8, L_9, L_10, L_11, L_12, L_16, L_18, L_20, L_24, L_25, L_30, L_32, L_38, L_40, L_48, L_50, L_60, L_63, L_64, L_72, L_99, L_100, L_160, L_500, L_999, L_1380, L_1400, L_2400, L_2401, L_60025, L_100000, L_1000000, L_100000000, L_2000000000, nI_add, pk_mul, nI_clamp, nI_leI, nI_ltI, nI_eq, kin_I, pk_sub, nI_m1, m1_nI, nI_am1, kx_max, kx_min, kt_tx, kt_rp, kg_si, kg_sl, kq_si, kq_sl, kv_si, kv_sl, Nat.reduceAdd, Nat.reduceMul, Nat.reduceSub, Nat.reduceEqDiff, Nat.reduceLT, Nat.reduceLeDiff, ne_eq, not_true_eq_false, not_false_eq_true, or_true, true_or, or_false, false_or, and_true, true_and, false_and, and_false, if_true, if_false, ite_true, ite_false, reduceIte, kl_0, kl_1, kl_2, kl_3, kl_6, kl_20, kl_50, kl_500, kl_999, kl_2400, kl_2g, in_t, in_tt, in_f, in_ff, in_n, if_pos, if_neg, eq_self, nI_n1, n1_nI, nI_an1, lesser_n1, lesser_rn, lesser_n, kx_n1, gorge_t hR1 hV (show 0 < gLi G by omega)]; done) | (simp (disch := omega) only [L_0, L_1, L_2, L_3, L_4, L_5, L_6, L_7, L_8, L_9, L_10, L_11, L_12, L_16, L_18, L_20, L_24, L_25, L_30, L_32, L_38, L_40, L_48, L_50, L_60, L_63, L_64, L_72, L_99, L_100, L_160, L_500, L_999, L_1380, L_1400, L_2400, L_2401, L_60025, L_100000, L_1000000, L_100000000, L_2000000000, nI_add, pk_mul, nI_clamp, nI_leI, nI_ltI, nI_eq, kin_I, pk_sub, nI_m1, m1_nI, nI_am1, kx_max, kx_min, kt_tx, kt_rp, kg_si, kg_sl, kq_si, kq_sl, kv_si, kv_sl, Nat.reduceAdd, Nat.reduceMul, Nat.reduceSub, Nat.reduceEqDiff, Nat.reduceLT, Nat.reduceLeDiff, ne_eq, not_true_eq_false, not_false_eq_true, or_true, true_or, or_false, false_or, and_true, true_and, false_and, and_false, if_true, if_false, ite_true, ite_false, reduceIte, kl_0, kl_1, kl_2, kl_3, kl_6, kl_20, kl_50, kl_500, kl_999, kl_2400, kl_2g, in_t, in_tt, in_f, in_ff, in_n, if_pos, if_neg, eq_self, nI_n1, n1_nI, nI_an1, lesser_n1, lesser_rn, lesser_n, kx_n1, gorge_t hR1 hV (show 0 < gLi G by omega)]; omega) | decide)) ?_) | (with_reducible refine Wp_f (by (first | (simp (disch := omega) only [L_0, L_1, L_2, L_3, L_4, L_5, L_6, L_7, L_8, L_9, L_10, L_11, L_12, L_16, L_18, L_20, L_24, L_25, L_30, L_32, L_38, L_40, L_48, L_50, L_60, L_63, L_64, L_72, L_99, L_100, L_160, L_500, L_999, L_1380, L_1400, L_2400, L_2401, L_60025, L_100000, L_1000000, L_100000000, L_2000000000, nI_add, pk_mul, nI_clamp, nI_leI, nI_ltI, nI_eq, kin_I, pk_sub, nI_m1, m1_nI, nI_am1, kx_max, kx_min, kt_tx, kt_rp, kg_si, kg_sl, kq_si, kq_sl, kv_si, kv_sl, Nat.reduceAdd, Nat.reduceMul, Nat.reduceSub, Nat.reduceEqDiff, Nat.reduceLT, Nat.reduceLeDiff, ne_eq, not_true_eq_false, not_false_eq_true, or_true, true_or, or_false, false_or, and_true, true_and, false_and, and_false, if_true, if_false, ite_true, ite_false, reduceIte, kl_0, kl_1, kl_2, kl_3, kl_6, kl_20, kl_50, kl_500, kl_999, kl_2400, kl_2g, in_t, in_tt, in_f, in_ff, in_n, if_pos, if_neg, eq_self, nI_n1, n1_nI, nI_an1, lesser_n1, lesser_rn, lesser_n, kx_n1, gorge_t hR1 hV (show 0 < gLi G by omega)]; done) | (simp (disch := omega) only [L_0, L_1, L_2, L_3, L_4, L_5, L_6, L_7, L_8, L_9, L_10, L_11, L_12, L_16, L_18, L_20, L_24, L_25, L_30, L_32, L_38, L_40, L_48, L_50, L_60, L_63, L_64, L_72, L_99, L_100, L_160, L_500, L_999, L_1380, L_1400, L_2400, L_2401, L_60025, L_100000, L_1000000, L_100000000, L_2000000000, nI_add, pk_mul, nI_clamp, nI_leI, nI_ltI, nI_eq, kin_I, pk_sub, nI_m1, m1_nI, nI_am1, kx_max, kx_min, kt_tx, kt_rp, kg_si, kg_sl, kq_si, kq_sl, kv_si, kv_sl, Nat.reduceAdd, Nat.reduceMul, Nat.reduceSub, Nat.reduceEqDiff, Nat.reduceLT, Nat.reduceLeDiff, ne_eq, not_true_eq_false, not_false_eq_true, or_true, true_or, or_false, false_or, and_true, true_and, false_and, and_false, if_true, if_false, ite_true, ite_false, reduceIte, kl_0, kl_1, kl_2, kl_3, kl_6, kl_20, kl_50, kl_500, kl_999, kl_2400, kl_2g, in_t, in_tt, in_f, in_ff, in_n, if_pos, if_neg, eq_self, nI_n1, n1_nI, nI_an1, lesser_n1, lesser_rn, lesser_n, kx_n1, gorge_t hR1 hV (show 0 < gLi G by omega)]; omega) | decide)) ?_))); try simp (disch := omega) only [nI_1, kt_rp, kt_tx]
      refine Wp_bv _ (la_R hK1 hZ0 hZ hv) (fun M4 ⟨M2, a1, a2⟩ => ?_)
      refine Wp_letI ?_; intro v ev
      rw [a1.2.1] at ev
      subst ev
      have i3 := km_in3 p1 0 (nI (pc (laS G (gRo G))) - 1) M4
      have i3 : f_X12_in p1.toInt64 (0 : Int64) (nI (pc (laS G (gRo G))) - 1).toInt64 M4 = _ := i3
      rw [i3]
      refine Wp_bis ?_
      have ti : (nI (pc (laS G (gRo G))) - 1).toInt = (pc (laS G (gRo G)) : Int) - 1 := by
        have z1 : (1 : Int32).toInt = 1 := rfl
        have zn := nI_toInt (n := pc (laS G (gRo G))) (by omega)
        rw [kz_sub (by omega) (by omega), zn, z1]
      have z0 : (0 : Int32).toInt = 0 := rfl
      have ic : (0 ≤ p1 ∧ p1 ≤ nI (pc (laS G (gRo G))) - 1) ↔ (0 ≤ p1.toInt ∧ p1.toInt < (pc (laS G (gRo G)) : Int)) := by
        rw [kz_le, kz_le, ti, z0]
        omega
      by_cases h : 0 ≤ p1.toInt ∧ p1.toInt < (pc (laS G (gRo G)) : Int)
      · obtain ⟨i, hi, rfl⟩ : ∃ i : Nat, i < pc (laS G (gRo G)) ∧ p1 = nI i := ⟨zn p1, by unfold zn; omega, zn_of (by omega)⟩
        rw [if_pos h, if_pos (ic.mpr h), zn_nI (by omega)]
        have e := a1.2.2.1 i hi
        refine Wp_f (by decide) ?_
        refine Wp_t ((kin_I (by omega)).mpr (by omega)) ?_
        refine Wp_letI ?_; intro v ev
        rw [nI_clamp (by omega), e] at ev
        exact Wp_some ⟨ev.symm, hF1.trans a2⟩
      · rw [if_neg h, if_neg (fun q => h (ic.mp q))]
        exact Wp_t rfl (Wp_some ⟨rfl, hF1.trans a2⟩)
