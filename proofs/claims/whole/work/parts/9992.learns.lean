/-! learns: the pure side and the class -/
def eN (G : GG) (r j : Nat) : Nat := if j = 0 then gA G r else gB G r
theorem eN_lt {G : GG} {r j : Nat} (hV : GV G) (hr : r < gRo G) : eN G r j < gPl G := by
  obtain ⟨vLi, v0, vPl, vWe, vOd, vKi, vWo, vRo, vPe, vWt, vAc, vIn, vWa, vL, vMn, vW, vA, vB, vAB, vLd, vCr, vN, vK, vWg, vPc, vSt, vD⟩ := hV
  have := vA r hr
  have := vB r hr
  unfold eN
  split <;> omega
theorem eN_e {G : GG} {r j : Nat} (hj : j < 2) : wkE G r (eN G r j) (eN G r (1 - j)) := by
  unfold eN wkE
  rcases (by omega : j = 0 ∨ j = 1) with rfl | rfl
  · exact Or.inl ⟨rfl, rfl⟩
  · exact Or.inr ⟨rfl, rfl⟩
theorem wkE_j {G : GG} {r a c : Nat} (h : wkE G r a c) : ∃ j, j < 2 ∧ eN G r j = a ∧ eN G r (1 - j) = c := by
  rcases h with ⟨h1, h2⟩ | ⟨h1, h2⟩
  · exact ⟨0, by omega, h1, h2⟩
  · exact ⟨1, by omega, h1, h2⟩
theorem wkE_s {G : GG} {r a c : Nat} (h : wkE G r a c) : wkE G r c a := by
  rcases h with ⟨h1, h2⟩ | ⟨h1, h2⟩
  · exact Or.inr ⟨h2, h1⟩
  · exact Or.inl ⟨h2, h1⟩
theorem sd_sym {G : GG} {p a b l : Nat} {wo : Int32} (h : sd G p wo a b l) : sd G p wo b a l := by
  obtain ⟨d, h⟩ := h
  induction d generalizing a l with
  | zero =>
    obtain ⟨rfl, rfl⟩ := h
    exact sd_0 a
  | succ d ih =>
    obtain ⟨r, c, r1, r2, r3, r4⟩ := h
    have := sd_cat (ih r4) (sd_e r1 (wkE_s r2))
    rw [show l - wkC G p r + wkC G p r = l by omega] at this
    exact this
def lnB (G : GG) (z k : Nat) : Prop := sm G (gN G (k / 2)) (rev (gN G (k / 2)) (gK G (k / 2)) (k % 2)) 0 (gN G (k / 2)) z
theorem lnB_i {G : GG} {z r j : Nat} (hj : j < 2) : lnB G z (2 * r + j) ↔ sm G (gN G r) (rev (gN G r) (gK G r) j) 0 (gN G r) z := by
  unfold lnB
  rw [show (2 * r + j) / 2 = r by omega, show (2 * r + j) % 2 = j by omega]
def lnE (G : GG) (p z a b r j v : Nat) : Prop := wkB G p (-1) r = true ∧ lnB G z (2 * r + j) ∧ ∃ x y, sd G p (-1) a (eN G r j) x ∧ sd G p (-1) (eN G r (1 - j)) b y ∧ v = x + wkC G p r + y
def lnL (G : GG) (p z a b v : Nat) : Prop := ∃ r j, j < 2 ∧ lnE G p z a b r j v
theorem isD_m {o o' : Option Nat} {P P' : Nat → Prop} (h : isD o P) (h' : isD o' P') : isD (kw_m o o') (fun v => P v ∨ P' v) := by
  refine ⟨fun v hv => ?_, fun v hv => ?_⟩
  · rcases om_s hv with e | e
    · exact Or.inl (h.1 v e)
    · exact Or.inr (h'.1 v e)
  · rcases hv with q | q
    · obtain ⟨u, u1, u2⟩ := h.2 v q
      obtain ⟨w, w1, w2⟩ := om_l (b := o') u1
      exact ⟨w, w1, by omega⟩
    · obtain ⟨u, u1, u2⟩ := h'.2 v q
      obtain ⟨w, w1, w2⟩ := om_r (a := o) u1
      exact ⟨w, w1, by omega⟩
theorem isD_i {o : Option Nat} {P P' : Nat → Prop} (h : isD o P) (e : ∀ v, P v ↔ P' v) : isD o P' := ⟨fun v hv => (e v).mp (h.1 v hv), fun v hv => h.2 v ((e v).mpr hv)⟩
theorem tg_i {a b : Option Nat} {x y : Nat} (h1 : a = some x) (h2 : b = some y) : tg a b = some (x + y) := by rw [h1, h2]; rfl
def lcC (M : kr_M) (g : Nat) (G : GG) (p : Nat) (T : Nat → Nat → Option Nat) : Prop := KS M g G ∧ wT M (gPl G) T ∧ wTk M G p (-1) (gRo G)
def tB (T : Nat → Nat → Option Nat) : Prop := ∀ a b v, T a b = some v → v ≤ 140000
theorem tO_ok {M : kr_M} {g p a b r j : Nat} {G : GG} {T : Nat → Nat → Option Nat} (hM : lcC M g G p T) (hB : tB T) (hp : p < gPe G) (ha : a < gPl G) (hb : b < gPl G) (hr : r < gRo G) (hj : j < 2) : f_X9_timeOver g (nI r) (nI j) (nI a) (nI b) M = some (kw_e (tg (tg (T a (eN G r j)) (if wkB G p (-1) r = true then some (wkC G p r) else none)) (T (eN G r (1 - j)) b)), M) := by
  obtain ⟨hK, hT, hk⟩ := hM
  have hV := hK.V
  have hV' := hV
  obtain ⟨vLi, v0, vPl, vWe, vOd, vKi, vWo, vRo, vPe, vWt, vAc, vIn, vWa, vL, vMn, vW, vA, vB, vAB, vLd, vCr, vN, vK, vWg, vPc, vSt, vD⟩ := hV'
  have hC := hK.C
  obtain ⟨c0, cPl, cWe, cOd, cKi, cWo, cRo, cPe, cWt, cAc, cIn, cWa, cL, cMn, cW, cA, cB, cLd, cCr, cN, cK, cWg, cPc, cSt⟩ := hC
  have e1 := eN_lt (j := j) hV hr
  have e2 := eN_lt (j := 1 - j) hV hr
  have wb := wkC_b hV hr hp
  have b1 : ∀ w, (if wkB G p (-1) r = true then some (wkC G p r) else none) = some w → w < 2 ^ 31 := fun w hw => by
    by_cases d : wkB G p (-1) r = true
    · rw [if_pos d] at hw
      have hw : wkC G p r = w := (by simpa using hw)
      omega
    · rw [if_neg d] at hw
      exact absurd hw (by simp)
  have b2 : ∀ w, tg (T a (eN G r j)) (if wkB G p (-1) r = true then some (wkC G p r) else none) = some w → w < 2 ^ 31 := fun w hw => by
    obtain ⟨x, y, h1, h2, h3⟩ := tg_s hw
    have := hB _ _ _ h1
    by_cases d : wkB G p (-1) r = true
    · rw [if_pos d] at h2
      have h2 : wkC G p r = y := (by simpa using h2)
      omega
    · rw [if_neg d] at h2
      exact absurd h2 (by simp)
  have fin : Wp (f_X9_timeOver_44 (nI r) (nI a) (nI b) (nI (eN G r j)) (nI (eN G r (1 - j))) M) (fun x => x = (kw_e (tg (tg (T a (eN G r j)) (if wkB G p (-1) r = true then some (wkC G p r) else none)) (T (eN G r (1 - j)) b)), M)) := by
    unfold f_X9_timeOver_44
    rw [tF_ok (by omega) hT ha e1]
    refine Wp_bis ?_
    refine Wp_t ((kin_I (by omega)).mpr (by omega)) ?_
    refine Wp_letI ?_; intro x ex
    rw [nI_clamp (by omega), hk r hr] at ex
    subst ex
    rw [tg_ok (fun w hw => by have := hB _ _ w hw; omega) b1 M]
    refine Wp_bis ?_
    rw [tF_ok (by omega) hT e2 hb]
    refine Wp_bis ?_
    rw [tg_ok b2 (fun w hw => by have := hB _ _ w hw; omega) M]
    exact Wp_bis (Wp_some rfl)
  apply Wp_eq
  unfold f_X9_timeOver
  refine Wp_t ((kin_I (by omega)).mpr (by omega)) ?_
  rw [kt_rp (by omega)]
  rcases (by omega : j = 0 ∨ j = 1) with rfl | rfl
  · refine Wp_f (fun q => q rfl) ?_
    refine Wp_letI ?_; intro x ex
    rw [cA r hr] at ex
    subst ex
    unfold f_X9_timeOver_25
    refine Wp_f (fun q => q rfl) ?_
    refine Wp_letI ?_; intro x ex
    rw [cB r hr] at ex
    subst ex
    exact fin
  · refine Wp_t (by decide) ?_
    refine Wp_letI ?_; intro x ex
    rw [cB r hr] at ex
    subst ex
    unfold f_X9_timeOver_25
    refine Wp_t (by decide) ?_
    refine Wp_letI ?_; intro x ex
    rw [cA r hr] at ex
    subst ex
    exact fin
theorem lo_ok {M : kr_M} {g p a b r j z : Nat} {G : GG} {T : Nat → Nat → Option Nat} (hM : lcC M g G p T) (hB : tB T) (hD : ∀ a b, a < gPl G → b < gPl G → isD (T a b) (sd G p (-1) a b)) (hp : p < gPe G) (ha : a < gPl G) (hb : b < gPl G) (hr : r < gRo G) (hj : j < 2) (hz : z ≤ 2400) : Wp (f_X11_learnsOn (nI r) (nI j) (nI a) (nI b) (nI z) M) (fun y => (∃ o, y.1 = kw_e o ∧ (∀ v, o = some v → v ≤ 300000) ∧ isD o (lnE G p z a b r j)) ∧ lcC y.2 g G p T ∧ Fr M y.2) := by
  have hM' := hM
  obtain ⟨hK, hT, hk⟩ := hM'
  have hV := hK.V
  have hV' := hV
  obtain ⟨vLi, v0, vPl, vWe, vOd, vKi, vWo, vRo, vPe, vWt, vAc, vIn, vWa, vL, vMn, vW, vA, vB, vAB, vLd, vCr, vN, vK, vWg, vPc, vSt, vD⟩ := hV'
  have e1 := eN_lt (j := j) hV hr
  have e2 := eN_lt (j := 1 - j) hV hr
  have wb := wkC_b hV hr hp
  unfold f_X11_learnsOn
  rw [hK.gr]
  refine Wp_t hK.sh ?_
  refine Wp_letI ?_; intro x ex; subst ex
  rw [tO_ok hM hB hp ha hb hr hj]
  refine Wp_bis ?_
  cases e : tg (tg (T a (eN G r j)) (if wkB G p (-1) r = true then some (wkC G p r) else none)) (T (eN G r (1 - j)) b) with
  | none =>
    refine Wp_t rfl (Wp_some ⟨⟨none, rfl, fun v hv => absurd hv (by simp), fun v hv => absurd hv (by simp), fun v ⟨h1, h2, x, y, h3, h4, h5⟩ => ?_⟩, hM, Fr.refl M⟩)
    obtain ⟨u, u1, _⟩ := (hD _ _ ha e1).2 x h3
    obtain ⟨w, w1, _⟩ := (hD _ _ e2 hb).2 y h4
    rw [tg_i (tg_i u1 (if_pos h1)) w1] at e
    exact absurd e (by simp)
  | some v =>
    obtain ⟨xc, y, h1, h2, h3⟩ := tg_s e
    obtain ⟨x, c, h4, h5, h6⟩ := tg_s h1
    have hw : wkB G p (-1) r = true := Decidable.byContradiction (fun d => by rw [if_neg d] at h5; exact absurd h5 (by simp))
    rw [if_pos hw] at h5
    have h5 : wkC G p r = c := by simpa using h5
    have bx := hB _ _ _ h4
    have bb := hB _ _ _ h2
    refine Wp_f (fun q => (nI_m1 (by omega)).mp q) ?_
    refine Wp_bi _ (opens_t hK hr hj) (fun x1 M1 ⟨o1, o2, o3⟩ => ?_)
    have o1 : x1 = 1 := o1
    subst o1
    refine Wp_f (by decide) ?_
    have o3 : Fo M M1 := o3
    refine Wp_bi _ (cm_ok hz o2) (fun x2 M2 ⟨c1, c2, c3⟩ => ?_)
    have c3 : Fq M1 M2 := c3
    have row : ∀ i, i = 339 ∨ i = 340 → M2.1 i = M.1 i := fun i hi => by rw [c3.1]; exact o3.1 i (by omega) (by omega)
    have hM2 : lcC M2 g G p T := ⟨c2.1, fun a b ha hb => by rw [row 340 (Or.inr rfl)]; exact hT a b ha hb, fun r hr => by rw [row 339 (Or.inl rfl)]; exact hk r hr⟩
    have hF : Fr M M2 := o3.fr.trans c3.fr
    rcases c1 with ⟨a1, a2⟩ | ⟨a1, a2⟩
    · have a1 : x2 = 1 := a1
      subst a1
      refine Wp_t (by decide) (Wp_some ⟨⟨some v, rfl, fun v' hv' => ?_, fun v' hv' => ?_, fun v' ⟨_, _, x', y', g3, g4, g5⟩ => ?_⟩, hM2, hF⟩)
      · have hv' : v = v' := (by simpa using hv')
        omega
      · have hv' : v = v' := (by simpa using hv')
        subst hv'
        exact ⟨hw, (lnB_i hj).mpr a2, x, y, (hD _ _ ha e1).1 x h4, (hD _ _ e2 hb).1 y h2, by omega⟩
      · obtain ⟨u, u1, u2⟩ := (hD _ _ ha e1).2 x' g3
        obtain ⟨w, w1, w2⟩ := (hD _ _ e2 hb).2 y' g4
        rw [h4] at u1
        rw [h2] at w1
        have u1 : x = u := (by simpa using u1)
        have w1 : y = w := (by simpa using w1)
        exact ⟨v, rfl, by omega⟩
    · have a1 : x2 = 0 := a1
      subst a1
      refine Wp_f (fun q => q rfl) (Wp_some ⟨⟨none, rfl, fun v hv => absurd hv (by simp), fun v hv => absurd hv (by simp), fun v' ⟨_, q, _⟩ => ?_⟩, hM2, hF⟩)
      exact absurd ((lnB_i hj).mp q) a2
def lnU (G : GG) (p z a b n v : Nat) : Prop := ∃ r j, r < n ∧ j < 2 ∧ lnE G p z a b r j v
theorem ln_C {M0 : kr_M} {g p a b z : Nat} {G : GG} {T : Nat → Nat → Option Nat} (hB : tB T) (hD : ∀ a b, a < gPl G → b < gPl G → isD (T a b) (sd G p (-1) a b)) (hp : p < gPe G) (ha : a < gPl G) (hb : b < gPl G) (hz : z ≤ 2400) : ∀ n' r M o, r ≤ gRo G → gRo G - r < n' → lcC M g G p T → (∀ v, o = some v → v ≤ 300000) → isD o (lnU G p z a b r) → Fr M0 M → Wp (f_X11_learns_27 (nI a) (nI b) (nI z) n' (kw_e o) (nI r) M) (fun y => (∃ o, y.1 = kw_e o ∧ isD o (lnL G p z a b)) ∧ Fr M0 y.2) := by
  intro n'
  induction n' with
  | zero => intro r M o h1 h2; omega
  | succ n' ih =>
    intro r M o h1 h2 hM ho hI hF
    have hM' := hM
    obtain ⟨hK, hT, hk⟩ := hM'
    have hV := hK.V
    have hV' := hV
    obtain ⟨vLi, v0, vPl, vWe, vOd, vKi, vWo, vRo, vPe, vWt, vAc, vIn, vWa, vL, vMn, vW, vA, vB, vAB, vLd, vCr, vN, vK, vWg, vPc, vSt, vD⟩ := hV'
    have hC := hK.C
    obtain ⟨c0, cPl, cWe, cOd, cKi, cWo, cRo, cPe, cWt, cAc, cIn, cWa, cL, cMn, cW, cA, cB, cLd, cCr, cN, cK, cWg, cPc, cSt⟩ := hC
    rw [f_X11_learns_27, hK.gr]
    refine Wp_t hK.sh ?_
    refine Wp_letI ?_; intro x ex; subst ex
    refine Wp_letI ?_; intro x ex
    rw [cRo] at ex
    subst ex
    by_cases c : r = gRo G
    · subst c
      refine Wp_t (nI_le (Nat.le_refl _) (by omega)) (Wp_some ⟨⟨o, rfl, isD_i hI (fun v => ⟨fun ⟨r, j, q1, q2, q3⟩ => ⟨r, j, q2, q3⟩, fun ⟨r, j, q2, q3⟩ => ⟨r, j, (wkB_t.mp q3.1).1, q2, q3⟩⟩)⟩, hF⟩)
    · have hr : r < gRo G := by omega
      refine Wp_f (nI_ge (by omega) (by omega)) ?_
      refine Wp_bi _ (lo_ok (j := 0) hM hB hD hp ha hb hr (by omega) hz) (fun x1 M1 ⟨⟨o1, p1, p2, p3⟩, p4, p5⟩ => ?_)
      have p1 : x1 = kw_e o1 := p1
      subst p1
      rw [kw_les (fun v hv => by have := ho v hv; omega) (fun v hv => by have := p2 v hv; omega) M1]
      refine Wp_bis ?_
      have d1 := isD_m hI p3
      have b1 : ∀ v, kw_m o o1 = some v → v ≤ 300000 := fun v hv => by rcases om_s hv with e | e; exact ho v e; exact p2 v e
      refine Wp_bi _ (lo_ok (j := 1) p4 hB hD hp ha hb hr (by omega) hz) (fun x2 M2 ⟨⟨o2, s1, s2, s3⟩, s4, s5⟩ => ?_)
      have s1 : x2 = kw_e o2 := s1
      subst s1
      rw [kw_les (fun v hv => by have := b1 v hv; omega) (fun v hv => by have := s2 v hv; omega) M2]
      refine Wp_bis ?_
      have d2 := isD_m d1 s3
      rw [L_1, nI_add]
      refine ih (r + 1) M2 _ (by omega) (by omega) s4 (fun v hv => by rcases om_s hv with e | e; exact b1 v e; exact s2 v e) (isD_i d2 (fun v => ⟨fun q => ?_, fun ⟨r', j, q1, q2, q3⟩ => ?_⟩)) ((hF.trans p5).trans s5)
      · rcases q with (⟨r', j, q1, q2, q3⟩ | q) | q
        · exact ⟨r', j, by omega, q2, q3⟩
        · exact ⟨r, 0, by omega, by omega, q⟩
        · exact ⟨r, 1, by omega, by omega, q⟩
      · by_cases e : r' = r
        · subst e
          rcases (by omega : j = 0 ∨ j = 1) with rfl | rfl
          · exact Or.inl (Or.inr q3)
          · exact Or.inr q3
        · exact Or.inl (Or.inl ⟨r', j, by omega, q2, q3⟩)
