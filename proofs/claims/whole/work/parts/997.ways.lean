/-! WAYS: walks and the class's table -/
def wkB (G : GG) (p : Nat) (wo : Int32) (r : Nat) : Bool := decide (r < gRo G ∧ ¬ nI r = wo ∧ ¬ rSt G r < nI (gWg G p))
theorem wkB_t {G : GG} {p r : Nat} {wo : Int32} : wkB G p wo r = true ↔ (r < gRo G ∧ ¬ nI r = wo ∧ ¬ rSt G r < nI (gWg G p)) := by unfold wkB; exact decide_eq_true_iff
def wkE (G : GG) (r a c : Nat) : Prop := (gA G r = a ∧ gB G r = c) ∨ (gB G r = a ∧ gA G r = c)
def wkC (G : GG) (p r : Nat) : Nat := rIn G r * gPc G p
theorem wkC_b {G : GG} {p r : Nat} (hV : GV G) (hr : r < gRo G) (hp : p < gPe G) : 1 ≤ wkC G p r ∧ wkC G p r ≤ 2151 := by
  have h1 := rIn_pos hV hr
  have h2 := rIn_le hV hr
  obtain ⟨vLi, v0, vPl, vWe, vOd, vKi, vWo, vRo, vPe, vWt, vAc, vIn, vWa, vL, vMn, vW, vA, vB, vAB, vLd, vCr, vN, vK, vWg, vPc, vSt, vD⟩ := hV
  have h3 := vPc p hp
  exact ⟨Nat.mul_le_mul h1 h3.1, Nat.mul_le_mul h2 h3.2⟩
def wk (G : GG) (p : Nat) (wo : Int32) : Nat → Nat → Nat → Nat → Prop
  | 0, a, b, l => a = b ∧ l = 0
  | d + 1, a, b, l => ∃ r c, wkB G p wo r = true ∧ wkE G r a c ∧ wkC G p r ≤ l ∧ wk G p wo d c b (l - wkC G p r)
def sd (G : GG) (p : Nat) (wo : Int32) (a b l : Nat) : Prop := ∃ d, wk G p wo d a b l
theorem sd_0 {G : GG} {p : Nat} {wo : Int32} (a : Nat) : sd G p wo a a 0 := ⟨0, rfl, rfl⟩
theorem sd_e {G : GG} {p r a c : Nat} {wo : Int32} (h1 : wkB G p wo r = true) (h2 : wkE G r a c) : sd G p wo a c (wkC G p r) := ⟨1, r, c, h1, h2, Nat.le_refl _, rfl, Nat.sub_self _⟩
theorem sd_cat {G : GG} {p a b c l m : Nat} {wo : Int32} (h1 : sd G p wo a b l) (h2 : sd G p wo b c m) : sd G p wo a c (l + m) := by
  obtain ⟨d, h1⟩ := h1
  induction d generalizing a l with
  | zero =>
    obtain ⟨rfl, rfl⟩ := h1
    rw [Nat.zero_add]
    exact h2
  | succ d ih =>
    obtain ⟨r, x, r1, r2, r3, r4⟩ := h1
    obtain ⟨e, he⟩ := ih r4
    refine ⟨e + 1, r, x, r1, r2, by omega, ?_⟩
    rw [show l + m - wkC G p r = l - wkC G p r + m by omega]
    exact he
def isD (o : Option Nat) (P : Nat → Prop) : Prop := (∀ v, o = some v → P v) ∧ ∀ v, P v → ∃ u, o = some u ∧ u ≤ v
theorem isD_u {o o' : Option Nat} {P : Nat → Prop} (h : isD o P) (h' : isD o' P) : o = o' := o_eq (fun v hv => h'.2 v (h.1 v hv)) (fun v hv => h.2 v (h'.1 v hv))
def tg : Option Nat → Option Nat → Option Nat
  | some a, some b => some (a + b)
  | _, _ => none
theorem tg_s {a b : Option Nat} {v : Nat} (h : tg a b = some v) : ∃ x y, a = some x ∧ b = some y ∧ v = x + y := by
  cases a with
  | none => exact absurd h (by simp [tg])
  | some x =>
    cases b with
    | none => exact absurd h (by simp [tg])
    | some y =>
      have h : x + y = v := by simpa [tg] using h
      exact ⟨x, y, rfl, rfl, h.symm⟩
theorem om_s {a b : Option Nat} {v : Nat} (h : kw_m a b = some v) : a = some v ∨ b = some v := by
  cases a with
  | none => exact Or.inr h
  | some x =>
    cases b with
    | none => exact Or.inl h
    | some y =>
      have h : min x y = v := by simpa [kw_m] using h
      by_cases q : x ≤ y
      · exact Or.inl (by rw [← h, Nat.min_eq_left q])
      · exact Or.inr (by rw [← h, Nat.min_eq_right (by omega)])
theorem om_l {a b : Option Nat} {v : Nat} (h : a = some v) : ∃ u, kw_m a b = some u ∧ u ≤ v := by
  subst h
  cases b with
  | none => exact ⟨v, rfl, Nat.le_refl _⟩
  | some y => exact ⟨min v y, rfl, by omega⟩
theorem om_r {a b : Option Nat} {v : Nat} (h : b = some v) : ∃ u, kw_m a b = some u ∧ u ≤ v := by
  subst h
  cases a with
  | none => exact ⟨v, rfl, Nat.le_refl _⟩
  | some y => exact ⟨min y v, rfl, by omega⟩
def up2 (T : Nat → Nat → Option Nat) (a b : Nat) (x : Option Nat) : Nat → Nat → Option Nat := fun a' b' => if a' = a ∧ b' = b then x else T a' b'
def wT (M : kr_M) (pl : Nat) (T : Nat → Nat → Option Nat) : Prop := ∀ a b, a < pl → b < pl → M.1 340 (6 * a + b) = kw_e (T a b)
def wI (G : GG) (p : Nat) (wo : Int32) (T : Nat → Nat → Option Nat) (B : Nat) : Prop := (∀ a b v, T a b = some v → sd G p wo a b v ∧ v ≤ B) ∧ ∀ a, T a a = some 0
theorem wT_up {M : kr_M} {pl : Nat} {T : Nat → Nat → Option Nat} {a b : Nat} (hpl : pl ≤ 6) (h : wT M pl T) (ha : a < pl) (hb : b < pl) (x : Option Nat) : wT (kr_si M 340 (6 * a + b) (kw_e x)) pl (up2 T a b x) := fun a' b' h1 h2 => by
  unfold up2
  rw [kg_si]
  by_cases c : a' = a ∧ b' = b
  · rw [if_pos (by omega), if_pos c]
  · rw [if_neg (by omega), if_neg c]
    exact h a' b' h1 h2
theorem tF_ok {M : kr_M} {pl : Nat} {T : Nat → Nat → Option Nat} {a b : Nat} (hpl : pl ≤ 6) (h : wT M pl T) (ha : a < pl) (hb : b < pl) : f_X9_timeFrom (nI a) (nI b) M = some (kw_e (T a b), M) := by
  apply Wp_eq
  unfold f_X9_timeFrom
  rw [L_6, pk_mul, nI_add, Nat.mul_comm a 6]
  refine Wp_t ((kin_I (by omega)).mpr (by omega)) ?_
  refine Wp_letI ?_; intro v ev
  rw [nI_clamp (by omega), h a b ha hb] at ev
  subst ev
  exact Wp_some rfl
theorem sh_ok {M : kr_M} {pl : Nat} {T : Nat → Nat → Option Nat} {a b : Nat} {o : Option Nat} (hpl : pl ≤ 6) (h : wT M pl T) (ha : a < pl) (hb : b < pl) (h1 : ∀ v, T a b = some v → v < 2 ^ 31) (h2 : ∀ v, o = some v → v < 2 ^ 31) : f_X9_shorten (nI a) (nI b) (kw_e o) M = some (kr_si M 340 (6 * a + b) (kw_e (kw_m (T a b) o))) := by
  apply Wp_eq
  unfold f_X9_shorten
  refine Wp_letI ?_; intro v1 e1
  rw [L_6, pk_mul, nI_add, Nat.mul_comm a 6] at e1
  subst e1
  refine Wp_t ((kin_I (by omega)).mpr (by omega)) ?_
  refine Wp_letI ?_; intro v ev
  rw [nI_clamp (by omega), h a b ha hb] at ev
  subst ev
  rw [kw_les h1 h2]
  refine Wp_bis ?_
  refine Wp_t ((kin_I (by omega)).mpr (by omega)) ?_
  refine Wp_letI ?_; intro M5 e5
  rw [nI_clamp (by omega)] at e5
  subst e5
  exact Wp_some rfl
theorem tg_ok {a b : Option Nat} (h1 : ∀ v, a = some v → v < 2 ^ 31) (h2 : ∀ v, b = some v → v < 2 ^ 31) (M : kr_M) : f_X9_together (kw_e a) (kw_e b) M = some (kw_e (tg a b), M) := by
  apply Wp_eq
  unfold f_X9_together f_X9_together_10
  cases a with
  | none => exact Wp_t rfl (Wp_some rfl)
  | some x =>
    refine Wp_f (fun q => (nI_m1 (h1 x rfl)).mp q) ?_
    cases b with
    | none => exact Wp_f (fun q => q rfl) (Wp_some rfl)
    | some y =>
      refine Wp_t (fun q => (nI_m1 (h2 y rfl)).mp q) ?_
      rw [show kw_e (some x) + kw_e (some y) = nI (x + y) from nI_add x y]
      exact Wp_some rfl
abbrev wyX : Nat → Nat → Prop := fun a _ => a = 339 ∨ a = 340
theorem wy_s : SS wyX := fun a j h => by have h : a = 339 ∨ a = 340 := h; omega
/-- the ropes are in the table -/
def wEd (G : GG) (p : Nat) (wo : Int32) (T : Nat → Nat → Option Nat) (n : Nat) : Prop := ∀ r, r < n → wkB G p wo r = true → ∀ a c, wkE G r a c → ∃ u, T a c = some u ∧ u ≤ wkC G p r
def wTk (M : kr_M) (G : GG) (p : Nat) (wo : Int32) (n : Nat) : Prop := ∀ r, r < n → M.1 339 r = kw_e (if wkB G p wo r = true then some (wkC G p r) else none)
/-- one stage of going over a place -/
def wS (T : Nat → Nat → Option Nat) (m : Nat) : Nat → Nat → Option Nat := fun a b => kw_m (T a b) (tg (T a m) (T m b))
theorem wS_l {T : Nat → Nat → Option Nat} {m a : Nat} (h : ∀ a, T a a = some 0) : wS T m a m = T a m := by
  unfold wS
  rw [h m]
  cases T a m with
  | none => rfl
  | some x => show some (min x (x + 0)) = some x; rw [Nat.min_eq_left (by omega)]
theorem wS_r {T : Nat → Nat → Option Nat} {m b : Nat} (h : ∀ a, T a a = some 0) : wS T m m b = T m b := by
  unfold wS
  rw [h m]
  cases T m b with
  | none => rfl
  | some x => show some (min x (0 + x)) = some x; rw [Nat.min_eq_left (by omega)]
theorem wS_d {T : Nat → Nat → Option Nat} {m a : Nat} (h : ∀ a, T a a = some 0) : wS T m a a = some 0 := by
  unfold wS
  rw [h a]
  cases tg (T a m) (T m a) with
  | none => rfl
  | some x => show some (min 0 x) = some 0; rw [Nat.min_eq_left (by omega)]
def wCl (T : Nat → Nat → Option Nat) (m : Nat) : Prop := ∀ c, c < m → ∀ a b x y, T a c = some x → T c b = some y → ∃ u, T a b = some u ∧ u ≤ x + y
theorem wCl_s {T : Nat → Nat → Option Nat} {m : Nat} (h0 : ∀ a, T a a = some 0) (h : wCl T m) : wCl (wS T m) (m + 1) := by
  intro c hc a b x y hx hy
  -- by way of m is no more than that
  have via : ∀ x1 y2, T a m = some x1 → T m b = some y2 → ∃ u, wS T m a b = some u ∧ u ≤ x1 + y2 := fun x1 y2 q1 q2 => by
    have : tg (T a m) (T m b) = some (x1 + y2) := by rw [q1, q2]; rfl
    exact om_r this
  by_cases e : c = m
  · subst e
    rw [wS_l h0] at hx
    rw [wS_r h0] at hy
    exact via x y hx hy
  · have hcm : c < m := by omega
    rcases om_s hx with hx | hx
    · rcases om_s hy with hy | hy
      · obtain ⟨u, u1, u2⟩ := h c hcm a b x y hx hy
        obtain ⟨w, w1, w2⟩ := om_l (b := tg (T a m) (T m b)) u1
        exact ⟨w, w1, by omega⟩
      · obtain ⟨y1, y2, q1, q2, q3⟩ := tg_s hy
        obtain ⟨u, u1, u2⟩ := h c hcm a m x y1 hx q1
        obtain ⟨w, w1, w2⟩ := via u y2 u1 q2
        exact ⟨w, w1, by omega⟩
    · obtain ⟨x1, x2, q1, q2, q3⟩ := tg_s hx
      rcases om_s hy with hy | hy
      · obtain ⟨u, u1, u2⟩ := h c hcm m b x2 y q2 hy
        obtain ⟨w, w1, w2⟩ := via x1 u q1 u1
        exact ⟨w, w1, by omega⟩
      · obtain ⟨y1, y2, z1, z2, z3⟩ := tg_s hy
        obtain ⟨w, w1, w2⟩ := via x1 y2 q1 z2
        exact ⟨w, w1, by omega⟩
theorem wI_s {G : GG} {p m B : Nat} {wo : Int32} {T : Nat → Nat → Option Nat} (h : wI G p wo T B) : wI G p wo (wS T m) (B + B) := by
  refine ⟨fun a b v hv => ?_, fun a => wS_d h.2⟩
  rcases om_s hv with q | q
  · have := h.1 a b v q
    exact ⟨this.1, by omega⟩
  · obtain ⟨x, y, q1, q2, q3⟩ := tg_s q
    have a1 := h.1 _ _ _ q1
    have a2 := h.1 _ _ _ q2
    rw [q3]
    exact ⟨sd_cat a1.1 a2.1, by omega⟩
theorem wEd_s {G : GG} {p n m : Nat} {wo : Int32} {T : Nat → Nat → Option Nat} (h : wEd G p wo T n) : wEd G p wo (wS T m) n := fun r hr hb a c hc => by
  obtain ⟨u, u1, u2⟩ := h r hr hb a c hc
  obtain ⟨w, w1, w2⟩ := om_l (b := tg (T a m) (T m c)) u1
  exact ⟨w, w1, by omega⟩
/-- the stage as the class does it, place by place -/
def wQ (T : Nat → Nat → Option Nat) (m i j : Nat) : Nat → Nat → Option Nat := fun a b => if a < i ∨ (a = i ∧ b < j) then wS T m a b else T a b
theorem go_in {M0 : kr_M} {T : Nat → Nat → Option Nat} {pl m i : Nat} {K : Int32 → kr_M → Option kr_M} {Q : kr_M → Prop} (hpl : pl ≤ 6) (hm : m < pl) (hi : i < pl) (h0 : ∀ a, T a a = some 0) (hB : ∀ a b v, T a b = some v → v < 2 ^ 24)
    (hQ : ∀ M', wT M' pl (wQ T m i pl) → Fx (fun a _ => a = 340) M0 M' → Wp (K (nI (i + 1)) M') Q) :
    ∀ n' j M, j ≤ pl → pl - j < n' → wT M pl (wQ T m i j) → Fx (fun a _ => a = 340) M0 M → Wp (f_X9_goOver_10 K (nI pl) (nI m) (nI i) n' (nI j) M) Q := by
  intro n'
  induction n' with
  | zero => intro j M h1 h2; omega
  | succ n' ih =>
    intro j M h1 h2 hT hF
    rw [f_X9_goOver_10]
    by_cases c : j = pl
    · subst c
      refine Wp_t (nI_le (Nat.le_refl _) (by omega)) ?_
      unfold f_X9_goOver_45
      rw [nI_1]
      exact hQ M hT hF
    · refine Wp_f (nI_ge (by omega) (by omega)) ?_
      have e1 : wQ T m i j i m = T i m := by unfold wQ; split; exact wS_l h0; rfl
      have e2 : wQ T m i j m j = T m j := by unfold wQ; split; exact wS_r h0; rfl
      have e3 : wQ T m i j i j = T i j := by unfold wQ; rw [if_neg (by omega)]
      rw [tF_ok hpl hT (by omega) (by omega), e1]
      refine Wp_bis ?_
      rw [tF_ok hpl hT (by omega) (by omega), e2]
      refine Wp_bis ?_
      rw [tg_ok (fun v q => by have := hB _ _ v q; omega) (fun v q => by have := hB _ _ v q; omega)]
      refine Wp_bis ?_
      rw [sh_ok hpl hT (by omega) (by omega) (fun v q => by rw [e3] at q; have := hB _ _ v q; omega) (fun v q => by
        obtain ⟨x, y, q1, q2, q3⟩ := tg_s q
        have := hB _ _ x q1
        have := hB _ _ y q2
        omega), e3]
      refine Wp_bvs ?_
      rw [nI_1]
      refine ih (j + 1) _ (by omega) (by omega) (fun a b ha hb => ?_) (hF.si _ rfl)
      rw [wT_up hpl hT (by omega) (by omega) _ a b ha hb]
      congr 1
      unfold up2 wQ
      by_cases d : a = i ∧ b = j
      · rw [if_pos d, if_pos (by omega), d.1, d.2]
        rfl
      · rw [if_neg d]
        by_cases d2 : a < i ∨ (a = i ∧ b < j)
        · rw [if_pos d2, if_pos (by omega)]
        · rw [if_neg d2, if_neg (by omega)]
theorem go_ok {M0 : kr_M} {T : Nat → Nat → Option Nat} {pl m : Nat} (hpl : pl ≤ 6) (hm : m < pl) (h0 : ∀ a, T a a = some 0) (hB : ∀ a b v, T a b = some v → v < 2 ^ 24) : ∀ n' i M, i ≤ pl → pl - i < n' → wT M pl (wQ T m i 0) → Fx (fun a _ => a = 340) M0 M → Wp (f_X9_goOver_2 (nI pl) (nI m) n' (nI i) M) (fun M' => wT M' pl (wQ T m pl 0) ∧ Fx (fun a _ => a = 340) M0 M') := by
  intro n'
  induction n' with
  | zero => intro j M h1 h2; omega
  | succ n' ih =>
    intro i M h1 h2 hT hF
    rw [f_X9_goOver_2]
    by_cases c : i = pl
    · subst c
      exact Wp_t (nI_le (Nat.le_refl _) (by omega)) (Wp_some ⟨hT, hF⟩)
    · refine Wp_f (nI_ge (by omega) (by omega)) ?_
      refine go_in (M0 := M0) hpl hm (by omega) h0 hB (fun M' q1 q2 => ih (i + 1) M' (by omega) (by omega) (fun a b ha hb => ?_) q2) kr_F 0 M (by omega) (kr_F_gt _ (by omega)) hT hF
      rw [q1 a b ha hb]
      congr 1
      unfold wQ
      by_cases d : a < i ∨ (a = i ∧ b < pl)
      · rw [if_pos d, if_pos (by omega)]
      · rw [if_neg d]
        rw [if_neg (by omega)]
/-- all stages: from rope to ways -/
theorem go_all {M0 : kr_M} {g p : Nat} {wo : Int32} {G : GG} (hV : GV G) : ∀ n' m M T, m ≤ gPl G → gPl G - m < n' → KS M g G → wT M (gPl G) T → wI G p wo T (2151 * 2 ^ m) → wEd G p wo T (gRo G) → wCl T m → Fx (fun a _ => a = 340) M0 M → Wp (f_X9_study_183 g n' (nI m) M) (fun M' => (∃ T', wT M' (gPl G) T' ∧ wI G p wo T' (2151 * 2 ^ gPl G) ∧ wEd G p wo T' (gRo G) ∧ wCl T' (gPl G)) ∧ Fx (fun a _ => a = 340) M0 M') := by
  have hV' := hV
  obtain ⟨vLi, v0, vPl, vWe, vOd, vKi, vWo, vRo, vPe, vWt, vAc, vIn, vWa, vL, vMn, vW, vA, vB, vAB, vLd, vCr, vN, vK, vWg, vPc, vSt, vD⟩ := hV'
  intro n'
  induction n' with
  | zero => intro m M T h1 h2; omega
  | succ n' ih =>
    intro m M T h1 h2 hK hT hI hE hCl hF
    have hC := hK.C
    obtain ⟨c0, cPl, cWe, cOd, cKi, cWo, cRo, cPe, cWt, cAc, cIn, cWa, cL, cMn, cW, cA, cB, cLd, cCr, cN, cK, cWg, cPc, cSt⟩ := hC
    rw [f_X9_study_183]
    refine Wp_letI ?_; intro v ev
    rw [cPl] at ev
    subst ev
    by_cases c : m = gPl G
    · rw [c] at hI hCl ⊢
      exact Wp_t (nI_le (Nat.le_refl _) (by omega)) (Wp_some ⟨⟨T, hT, hI, hE, hCl⟩, hF⟩)
    · refine Wp_f (nI_ge (by omega) (by omega)) ?_
      refine Wp_letI ?_; intro v ev
      rw [cPl] at ev
      subst ev
      have p64 := (st_9 m (by omega)).2.2
      have start : wT M (gPl G) (wQ T m 0 0) := fun a b ha hb => by
        rw [hT a b ha hb]
        congr 1
        unfold wQ
        rw [if_neg (by omega)]
      refine Wp_bv _ (show Wp (f_X9_goOver (nI (gPl G)) (nI m) M) _ from go_ok (M0 := M) (T := T) vPl (show m < gPl G by omega) hI.2 (fun a b v q => by have := (hI.1 a b v q).2; omega) kr_F 0 M (by omega) (kr_F_gt _ (by omega)) start (Fx.refl M)) (fun M1 ⟨p1, p2⟩ => ?_)
      rw [nI_1]
      have hf : Fr M M1 := p2.fr (fun a j q => by have q : a = 340 := q; omega)
      refine ih (m + 1) M1 (wS T m) (by omega) (by omega) (hK.fr hf) (fun a b ha hb => ?_) ?_ (wEd_s hE) (wCl_s hI.2 hCl) (hF.trans p2)
      · rw [p1 a b ha hb]
        congr 1
        unfold wQ
        rw [if_pos (by omega)]
      · have := wI_s (m := m) hI
        rw [show 2151 * 2 ^ (m + 1) = 2151 * 2 ^ m + 2151 * 2 ^ m by rw [Nat.pow_succ]; omega]
        exact this
theorem up_le {T : Nat → Nat → Option Nat} {a b : Nat} {o : Option Nat} : ∀ a' b' u, T a' b' = some u → ∃ w, up2 T a b (kw_m (T a b) o) a' b' = some w ∧ w ≤ u := by
  intro a' b' u h
  unfold up2
  by_cases c : a' = a ∧ b' = b
  · rw [if_pos c]
    exact om_l (by rw [← c.1, ← c.2]; exact h)
  · rw [if_neg c]
    exact ⟨u, h, Nat.le_refl _⟩
theorem up_at {T : Nat → Nat → Option Nat} {a b : Nat} {x : Option Nat} : up2 T a b x a b = x := if_pos ⟨rfl, rfl⟩
theorem up_wI {G : GG} {p a b c B : Nat} {wo : Int32} {T : Nat → Nat → Option Nat} (h : wI G p wo T B) (hne : a ≠ b) (hs : sd G p wo a b c) (hc : c ≤ B) : wI G p wo (up2 T a b (kw_m (T a b) (some c))) B := by
  refine ⟨fun a' b' v hv => ?_, fun x => ?_⟩
  · unfold up2 at hv
    by_cases q : a' = a ∧ b' = b
    · rw [if_pos q] at hv
      rw [q.1, q.2]
      rcases om_s hv with z | z
      · exact h.1 a b v z
      · have z : c = v := by simpa using z
        rw [← z]
        exact ⟨hs, hc⟩
    · rw [if_neg q] at hv
      exact h.1 a' b' v hv
  · unfold up2
    rw [if_neg (by omega)]
    exact h.2 x
theorem wy_rope {M0 : kr_M} {g p : Nat} {wo : Int32} {G : GG} (hp : p < gPe G) : ∀ n' r M T, r ≤ gRo G → gRo G - r < n' → KS M g G → wT M (gPl G) T → wI G p wo T 2151 → wEd G p wo T r → wTk M G p wo r → Fx wyX M0 M → Wp (f_X9_study_41 g (nI p) wo n' (nI r) M) (fun M' => (∃ T', wT M' (gPl G) T' ∧ wI G p wo T' (2151 * 2 ^ gPl G) ∧ wEd G p wo T' (gRo G) ∧ wCl T' (gPl G)) ∧ wTk M' G p wo (gRo G) ∧ Fx wyX M0 M') := by
  intro n'
  induction n' with
  | zero => intro m M T h1 h2; omega
  | succ n' ih =>
    intro r M T h1 h2 hK hT hI hE hk hF
    have hV := hK.V
    have hV' := hV
    have hC := hK.C
    have hC' := hC
    have hg := hK.g36
    obtain ⟨vLi, v0, vPl, vWe, vOd, vKi, vWo, vRo, vPe, vWt, vAc, vIn, vWa, vL, vMn, vW, vA, vB, vAB, vLd, vCr, vN, vK, vWg, vPc, vSt, vD⟩ := hV'
    obtain ⟨c0, cPl, cWe, cOd, cKi, cWo, cRo, cPe, cWt, cAc, cIn, cWa, cL, cMn, cW, cA, cB, cLd, cCr, cN, cK, cWg, cPc, cSt⟩ := hC'
    rw [f_X9_study_41]
    refine Wp_letI ?_; intro v ev
    rw [cRo] at ev
    subst ev
    by_cases c : r = gRo G
    · subst c
      refine Wp_t (nI_le (Nat.le_refl _) (by omega)) ?_
      unfold f_X9_study_180
      refine Wp_mono (go_all (M0 := M) hV kr_F 0 M T (by omega) (kr_F_gt _ (by omega)) hK hT (by rw [Nat.pow_zero, Nat.mul_one]; exact hI) hE (fun c hc => by omega) (Fx.refl M)) (fun M' ⟨p1, p2⟩ => ⟨p1, fun r' hr' => ?_, hF.trans (p2.mono (fun a j q => by have q : a = 340 := q; show a = 339 ∨ a = 340; omega))⟩)
      rw [p2.1 _ _ (fun q => by have q : 339 = 340 := q; omega)]
      exact hk r' hr'
    · refine Wp_f (nI_ge (by omega) (by omega)) ?_
      have hr : r < gRo G := by omega
      have cb := wkC_b (p := p) hV hr hp
      have ha := vA r hr
      have hb := vB r hr
      -- a rope that is not crossed
      have no : wkB G p wo r = false → Wp (f_X9_study_75 (f_X9_study_41 g (nI p) wo n') g (nI p) (nI r) M) (fun M' => (∃ T', wT M' (gPl G) T' ∧ wI G p wo T' (2151 * 2 ^ gPl G) ∧ wEd G p wo T' (gRo G) ∧ wCl T' (gPl G)) ∧ wTk M' G p wo (gRo G) ∧ Fx wyX M0 M') := fun hn => by
        unfold f_X9_study_75 f_X9_study_76
        refine Wp_t rfl ?_
        unfold f_X9_study_106
        refine Wp_t ((kin_I (by omega)).mpr (by omega)) ?_
        refine Wp_letI ?_; intro M1 e1
        rw [nI_clamp (by omega)] at e1
        refine Wp_t rfl ?_
        unfold f_X9_study_174
        rw [nI_1]
        have hf : Fx wyX M M1 := by rw [← e1]; exact (Fx.refl M).si _ (Or.inl rfl)
        refine ih (r + 1) M1 T (by omega) (by omega) (hK.fr (hf.fr wy_s)) (fun a b h1 h2 => by rw [← e1, kr_si_ne _ _ _ (by omega)]; exact hT a b h1 h2) hI (fun r' hr' hb' a c hc => ?_) (fun r' hr' => ?_) (hF.trans hf)
        · by_cases e : r' = r
          · rw [e, hn] at hb'; exact absurd hb' (by decide)
          · exact hE r' (by omega) hb' a c hc
        · by_cases e : r' = r
          · subst e
            rw [← e1, kr_si_at, hn]
            rfl
          · rw [← e1, kr_si_nk _ _ _ e]
            exact hk r' (by omega)
      by_cases cw : nI r = wo
      · refine Wp_t cw (no ?_)
        refine Bool.eq_false_iff.mpr (fun q => ?_)
        exact (wkB_t.mp q).2.1 cw
      · refine Wp_f cw ?_
        refine Wp_t ((kin_I (by omega)).mpr (by omega)) ?_
        refine Wp_letI ?_; intro v2 e2
        rw [nI_clamp (by omega), cWg p hp] at e2
        subst e2
        rw [strengthC hK hr]
        refine Wp_bis ?_
        by_cases cs : rSt G r < nI (gWg G p)
        · refine Wp_t cs (no ?_)
          refine Bool.eq_false_iff.mpr (fun q => ?_)
          exact (wkB_t.mp q).2.2 cs
        · refine Wp_f cs ?_
          have yes : wkB G p wo r = true := wkB_t.mpr ⟨hr, cw, cs⟩
          unfold f_X9_study_76
          refine Wp_f (by decide) ?_
          rw [inchesC hK hr]
          refine Wp_bis ?_
          refine Wp_t ((kin_I (by omega)).mpr (by omega)) ?_
          refine Wp_letI ?_; intro v3 e3
          rw [nI_clamp (by omega), cPc p hp] at e3
          subst e3
          rw [show nI (rIn G r) * nI (gPc G p) = nI (wkC G p r) from pk_mul _ _]
          unfold f_X9_study_106
          refine Wp_t ((kin_I (by omega)).mpr (by omega)) ?_
          refine Wp_letI ?_; intro M1 e1
          rw [nI_clamp (by omega)] at e1
          refine Wp_f (by decide) ?_
          have hf1 : Fx wyX M M1 := by rw [← e1]; exact (Fx.refl M).si _ (Or.inl rfl)
          have hK1 := hK.fr (hf1.fr wy_s)
          have hT1 : wT M1 (gPl G) T := fun a b h1 h2 => by rw [← e1, kr_si_ne _ _ _ (by omega)]; exact hT a b h1 h2
          have hC1 := hK1.C
          have x0 : M1.1 (g + 31 + 5 * r) 0 = nI (gA G r) := by rw [← e1, kr_si_ne _ _ _ (by omega)]; exact cA r hr
          have x1 : M1.1 (g + 31 + 5 * r) 1 = nI (gB G r) := by rw [← e1, kr_si_ne _ _ _ (by omega)]; exact cB r hr
          have x9 : M1.1 339 r = kw_e (some (wkC G p r)) := by rw [← e1, kr_si_at]; rfl
          have ob : ∀ v, (some (wkC G p r)) = some v → v < 2 ^ 31 := fun v q => by have q : wkC G p r = v := (by simpa using q); omega
          have s1 := sh_ok (o := some (wkC G p r)) vPl hT1 ha hb (fun v q => by have := (hI.1 _ _ v q).2; omega) ob
          have hT2 := wT_up vPl hT1 ha hb (kw_m (T (gA G r) (gB G r)) (some (wkC G p r)))
          have u2 : up2 T (gA G r) (gB G r) (kw_m (T (gA G r) (gB G r)) (some (wkC G p r))) (gB G r) (gA G r) = T (gB G r) (gA G r) := by unfold up2; rw [if_neg (fun q => vAB r hr q.2)]
          have s2 := sh_ok (o := some (wkC G p r)) vPl hT2 hb ha (fun v q => by rw [u2] at q; have := (hI.1 _ _ v q).2; omega) ob
          have hT3 := wT_up vPl hT2 hb ha (kw_m (up2 T (gA G r) (gB G r) (kw_m (T (gA G r) (gB G r)) (some (wkC G p r))) (gB G r) (gA G r)) (some (wkC G p r)))
          generalize hN1 : kr_si M1 340 (6 * gA G r + gB G r) (kw_e (kw_m (T (gA G r) (gB G r)) (some (wkC G p r)))) = N1 at s1 hT2 s2 hT3
          have y0 : N1.1 (g + 31 + 5 * r) 0 = nI (gA G r) := by rw [← hN1, kr_si_ne _ _ _ (by omega)]; exact x0
          have y1 : N1.1 (g + 31 + 5 * r) 1 = nI (gB G r) := by rw [← hN1, kr_si_ne _ _ _ (by omega)]; exact x1
          have y9 : N1.1 339 r = kw_e (some (wkC G p r)) := by rw [← hN1, kr_si_ne _ _ _ (by omega)]; exact x9
          (repeat (first | with_reducible refine Wp_some ?_ | (with_reducible refine Wp_letI ?_; intro v_ hv_; (try simp (disch := omega) only [L_0, L_1, L_2, L_3, L_4, L_5, L_6, L_7, L_8, L_9, L_10, L_11, L_12, L_16, L_18, L_20, L_24, L_25, L_30, L_32, L_38, L_40, L_48, L_50, L_60, L_63, L_64, L_72, L_99, L_100, L_160, L_500, L_999, L_1380, L_1400, L_2400, L_2401, L_60025, L_100000, L_1000000, L_100000000, L_2000000000, nI_add, pk_mul, nI_clamp, nI_leI, nI_ltI, nI_eq, kin_I, pk_sub, nI_m1, m1_nI, nI_am1, kx_max, kx_min, kt_tx, kt_rp, kg_si, kg_sl, kq_si, kq_sl, kv_si, kv_sl, Nat.reduceAdd, Nat.reduceMul, Nat.reduceSub, Nat.reduceEqDiff, Nat.reduceLT, Nat.reduceLeDiff, ne_eq, not_true_eq_false, not_false_eq_true, or_true, true_or, or_false, false_or, and_true, true_and, false_and, and_false, if_true, if_false, ite_true, ite_false, reduceIte, kl_0, kl_1, kl_2, kl_3, kl_6, kl_20, kl_50, kl_500, kl_999, kl_2400, kl_2g, in_t, in_tt, in_f, in_ff, in_n, if_pos, if_neg, eq_self, nI_n1, n1_nI, nI_an1, lesser_n1, lesser_rn, lesser_n, kx_n1, x0, x1, x9, s1, y0, y1, y9, s2] at hv_); subst hv_) | (with_reducible refine Wp_biI ?_; intro c_ hc_; simp (disch := omega) only [L_0, L_1, L_2, L_3, L_4, L_5, L_6, L_7, L_8, L_9, L_10, L_11, L_12, L_16, L_18, L_20, L_24, L_25, L_30, L_32, L_38, L_40, L_48, L_50, L_60, L_63, L_64, L_72, L_99, L_100, L_160, L_500, L_999, L_1380, L_1400, L_2400, L_2401, L_60025, L_100000, L_1000000, L_100000000, L_2000000000, nI_add, pk_mul, nI_clamp, nI_leI, nI_ltI, nI_eq, kin_I, pk_sub, nI_m1, m1_nI, nI_am1, kx_max, kx_min, kt_tx, kt_rp, kg_si, kg_sl, kq_si, kq_sl, kv_si, kv_sl, Nat.reduceAdd, Nat.reduceMul, Nat.reduceSub, Nat.reduceEqDiff, Nat.reduceLT, Nat.reduceLeDiff, ne_eq, not_true_eq_false, not_false_eq_true, or_true, true_or, or_false, false_or, and_true, true_and, false_and, and_false, if_true, if_false, ite_true, ite_false, reduceIte, kl_0, kl_1, kl_2, kl_3, kl_6, kl_20, kl_50, kl_500, kl_999, kl_2400, kl_2g, in_t, in_tt, in_f, in_ff, in_n, if_pos, if_neg, eq_self, nI_n1, n1_nI, nI_an1, lesser_n1, lesser_rn, lesser_n, kx_n1, x0, x1, x9, s1, y0, y1, y9, s2] at hc_; subst hc_; with_reducible refine Wp_bis ?_) | (with_reducible refine Wp_bvI ?_; intro c_ hc_; simp (disch := omega) only [L_0, L_1, L_2, L_3, L_4, L_5, L_6, L_7, L_8, L_9, L_10, L_11, L_12, L_16, L_18, L_20, L_24, L_25, L_30, L_32, L_38, L_40, L_48, L_50, L_60, L_63, L_64, L_72, L_99, L_100, L_160, L_500, L_999, L_1380, L_1400, L_2400, L_2401, L_60025, L_100000, L_1000000, L_100000000, L_2000000000, nI_add, pk_mul, nI_clamp, nI_leI, nI_ltI, nI_eq, kin_I, pk_sub, nI_m1, m1_nI, nI_am1, kx_max, kx_min, kt_tx, kt_rp, kg_si, kg_sl, kq_si, kq_sl, kv_si, kv_sl, Nat.reduceAdd, Nat.reduceMul, Nat.reduceSub, Nat.reduceEqDiff, Nat.reduceLT, Nat.reduceLeDiff, ne_eq, not_true_eq_false, not_false_eq_true, or_true, true_or, or_false, false_or, and_true, true_and, false_and, and_false, if_true, if_false, ite_true, ite_false, reduceIte, kl_0, kl_1, kl_2, kl_3, kl_6, kl_20, kl_50, kl_500, kl_999, kl_2400, kl_2g, in_t, in_tt, in_f, in_ff, in_n, if_pos, if_neg, eq_self, nI_n1, n1_nI, nI_an1, lesser_n1, lesser_rn, lesser_n, kx_n1, x0, x1, x9, s1, y0, y1, y9, s2] at hc_; subst hc_; with_reducible refine Wp_bvs ?_) | (with_reducible refine Wp_t (by (first | (simp (disch := omega) only [L_0, L_1, L_2, L_3, L_4, L_5, L_6, L_7, L_8, L_9, L_10, L_11, L_12, L_16, L_18, L_20, L_24, L_25, L_30, L_32, L_38, L_40, L_48, L_50, L_60, L_63, L_64, L_72, L_99, L_100, L_160, L_500, L_999, L_1380, L_1400, L_2400, L_2401, L_60025, L_100000, L_1000000, L_100000000, L_2000000000, nI_add, pk_mul, nI_clamp, nI_leI, nI_ltI, nI_eq, kin_I, pk_sub, nI_m1, m1_nI, nI_am1, kx_max, kx_min, kt_tx, kt_rp, kg_si, kg_sl, kq_si, kq_sl, kv_si, kv_sl, Nat.reduceAdd, Nat.reduceMul, Nat.reduceSub, Nat.reduceEqDiff, Nat.reduceLT, Nat.reduceLeDiff, ne_eq, not_true_eq_false, not_false_eq_true, or_true, true_or, or_false, false_or, and_true, true_and, false_and, and_false, if_true, if_false, ite_true, ite_false, reduceIte, kl_0, kl_1, kl_2, kl_3, kl_6, kl_20, kl_50, kl_500, kl_999, kl_2400, kl_2g, in_t, in_tt, in_f, in_ff, in_n, if_pos, if_neg, eq_self, nI_n1, n1_nI, nI_an1, lesser_n1, lesser_rn, lesser_n, kx_n1, x0, x1, x9, s1, y0, y1, y9, s2]; done) | (simp (disch := omega) only [L_0, L_1, L_2, L_3, L_4, L_5, L_6, L_7, L_8, L_9, L_10, L_11, L_12, L_16, L_18, L_20, L_24, L_25, L_30, L_32, L_38, L_40, L_48, L_50, L_60, L_63, L_64, L_72, L_99, L_100, L_160, L_500, L_999, L_1380, L_1400, L_2400, L_2401, L_60025, L_100000, L_1000000, L_100000000, L_2000000000, nI_add, pk_mul, nI_clamp, nI_leI, nI_ltI, nI_eq, kin_I, pk_sub, nI_m1, m1_nI, nI_am1, kx_max, kx_min, kt_tx, kt_rp, kg_si, kg_sl, kq_si, kq_sl, kv_si, kv_sl, Nat.reduceAdd, Nat.reduceMul, Nat.reduceSub, Nat.reduceEqDiff, Nat.reduceLT, Nat.reduceLeDiff, ne_eq, not_true_eq_false, not_false_eq_true, or_true, true_or, or_false, false_or, and_true, true_and, false_and, and_false, if_true, if_false, ite_true, ite_false, reduceIte, kl_0, kl_1, kl_2, kl_3, kl_6, kl_20, kl_50, kl_500, kl_999, kl_2400, kl_2g, in_t, in_tt, in_f, in_ff, in_n, if_pos, if_neg, eq_self, nI_n1, n1_nI, nI_an1, lesser_n1, lesser_rn, lesser_n, kx_n1, x0, x1, x9, s1, y0, y1, y9, s2]; omega) | decide)) ?_) | (with_reducible refine Wp_f (by (first | (simp (disch := omega) only [L_0, L_1, L_2, L_3, L_4, L_5, L_6, L_7, L_8, L_9, L_10, L_11, L_12, L_16, L_18, L_20, L_24, L_25, L_30, L_32, L_38, L_40, L_48, L_50, L_60, L_63, L_64, L_72, L_99, L_100, L_160, L_500, L_999, L_1380, L_1400, L_2400, L_2401, L_60025, L_100000, L_1000000, L_100000000, L_2000000000, nI_add, pk_mul, nI_clamp, nI_leI, nI_ltI, nI_eq, kin_I, pk_sub, nI_m1, m1_nI, nI_am1, kx_max, kx_min, kt_tx, kt_rp, kg_si, kg_sl, kq_si, kq_sl, kv_si, kv_sl, Nat.reduceAdd, Nat.reduceMul, Nat.reduceSub, Nat.reduceEqDiff, Nat.reduceLT, Nat.reduceLeDiff, ne_eq, not_true_eq_false, not_false_eq_true, or_true, true_or, or_false, false_or, and_true, true_and, false_and, and_false, if_true, if_false, ite_true, ite_false, reduceIte, kl_0, kl_1, kl_2, kl_3, kl_6, kl_20, kl_50, kl_500, kl_999, kl_2400, kl_2g, in_t, in_tt, in_f, in_ff, in_n, if_pos, if_neg, eq_self, nI_n1, n1_nI, nI_an1, lesser_n1, lesser_rn, lesser_n, kx_n1, x0, x1, x9, s1, y0, y1, y9, s2]; done) | (simp (disch := omega) only [L_0, L_1, L_2, L_3, L_4, L_5, L_6, L_7, L_8, L_9, L_10, L_11, L_12, L_16, L_18, L_20, L_24, L_25, L_30, L_32, L_38, L_40, L_48, L_50, L_60, L_63, L_64, L_72, L_99, L_100, L_160, L_500, L_999, L_1380, L_1400, L_2400, L_2401, L_60025, L_100000, L_1000000, L_100000000, L_2000000000, nI_add, pk_mul, nI_clamp, nI_leI, nI_ltI, nI_eq, kin_I, pk_sub, nI_m1, m1_nI, nI_am1, kx_max, kx_min, kt_tx, kt_rp, kg_si, kg_sl, kq_si, kq_sl, kv_si, kv_sl, Nat.reduceAdd, Nat.reduceMul, Nat.reduceSub, Nat.reduceEqDiff, Nat.reduceLT, Nat.reduceLeDiff, ne_eq, not_true_eq_false, not_false_eq_true, or_true, true_or, or_false, false_or, and_true, true_and, false_and, and_false, if_true, if_false, ite_true, ite_false, reduceIte, kl_0, kl_1, kl_2, kl_3, kl_6, kl_20, kl_50, kl_500, kl_999, kl_2400, kl_2g, in_t, in_tt, in_f, in_ff, in_n, if_pos, if_neg, eq_self, nI_n1, n1_nI, nI_an1, lesser_n1, lesser_rn, lesser_n, kx_n1, x0, x1, x9, s1, y0, y1, y9, s2]; omega) | decide)) ?_) | unfold f_X9_study_174)); try simp (disch := omega) only [nI_1, kt_rp, kt_tx]
          have hf2 : Fx wyX M1 N1 := by rw [← hN1]; exact (Fx.refl M1).si _ (Or.inr rfl)
          have hf3 : ∀ x : Int32, Fx wyX N1 (kr_si N1 340 (6 * gB G r + gA G r) x) := fun x => (Fx.refl N1).si _ (Or.inr rfl)
          have i1 := up_wI hI (vAB r hr) (sd_e yes (Or.inl ⟨rfl, rfl⟩)) cb.2
          have i2 := up_wI i1 (fun q => vAB r hr q.symm) (sd_e yes (Or.inr ⟨rfl, rfl⟩)) cb.2
          refine ih (r + 1) _ _ (by omega) (by omega) ((hK1.fr (hf2.fr wy_s)).fr ((hf3 _).fr wy_s)) hT3 i2 (fun r' hr' hb' a c hc => ?_) (fun r' hr' => ?_) (((hF.trans hf1).trans hf2).trans (hf3 _))
          · by_cases e : r' = r
            · subst e
              rcases hc with ⟨c1, c2⟩ | ⟨c1, c2⟩
              · subst c1 c2
                obtain ⟨w, w1, w2⟩ := om_r (a := T (gA G r') (gB G r')) (b := some (wkC G p r')) rfl
                obtain ⟨w', w1', w2'⟩ := up_le (T := up2 T (gA G r') (gB G r') (kw_m (T (gA G r') (gB G r')) (some (wkC G p r')))) (a := gB G r') (b := gA G r') (o := some (wkC G p r')) (gA G r') (gB G r') w (by rw [up_at]; exact w1)
                exact ⟨w', w1', by omega⟩
              · subst c1 c2
                rw [up_at]
                exact om_r rfl
            · obtain ⟨u, u1, u2'⟩ := hE r' (by omega) hb' a c hc
              obtain ⟨w, w1, w2⟩ := up_le (a := gA G r) (b := gB G r) (o := some (wkC G p r)) a c u u1
              obtain ⟨w', w1', w2'⟩ := up_le (a := gB G r) (b := gA G r) (o := some (wkC G p r)) a c w w1
              exact ⟨w', w1', by omega⟩
          · rw [kr_si_ne _ _ _ (by omega), ← hN1, kr_si_ne _ _ _ (by omega)]
            by_cases e : r' = r
            · subst e
              rw [x9, if_pos yes]
            · rw [← e1, kr_si_nk _ _ _ e]
              exact hk r' (by omega)
theorem wy_dg {M0 : kr_M} {g p : Nat} {wo : Int32} {G : GG} (hp : p < gPe G) : ∀ n' k M, k ≤ 6 → 6 - k < n' → KS M g G → (∀ a b, a < 6 → b < 6 → M.1 340 (6 * a + b) = kw_e (if a = b ∧ a < k then some 0 else none)) → Fx wyX M0 M → Wp (f_X9_study_11 g (nI p) wo n' (nI k) M) (fun M' => (∃ T', wT M' (gPl G) T' ∧ wI G p wo T' (2151 * 2 ^ gPl G) ∧ wEd G p wo T' (gRo G) ∧ wCl T' (gPl G)) ∧ wTk M' G p wo (gRo G) ∧ Fx wyX M0 M') := by
  intro n'
  induction n' with
  | zero => intro k M h1 h2; omega
  | succ n' ih =>
    intro k M h1 h2 hK hD hF
    have hV := hK.V
    obtain ⟨vLi, v0, vPl, vWe, vOd, vKi, vWo, vRo, vPe, vWt, vAc, vIn, vWa, vL, vMn, vW, vA, vB, vAB, vLd, vCr, vN, vK, vWg, vPc, vSt, vD⟩ := hV
    rw [f_X9_study_11]
    by_cases c : k = 6
    · subst c
      refine Wp_t (nI_le (Nat.le_refl 6) (by omega)) ?_
      unfold f_X9_study_38
      refine wy_rope (M0 := M0) hp kr_F 0 M (fun a b => if a = b then some 0 else none) (by omega) (kr_F_gt _ (by omega)) hK (fun a b ha hb => ?_) ⟨fun a b v hv => ?_, fun a => if_pos rfl⟩ (fun r hr => by omega) (fun r hr => by omega) hF
      · rw [hD a b (by omega) (by omega)]
        congr 1
        show _ = (if a = b then some 0 else none)
        by_cases e : a = b
        · rw [if_pos ⟨e, by omega⟩, if_pos e]
        · rw [if_neg (fun q => e q.1), if_neg e]
      · by_cases e : a = b
        · have hv : (if a = b then some 0 else none) = some v := hv
          rw [if_pos e] at hv
          have hv : 0 = v := by simpa using hv
          rw [← hv, e]
          exact ⟨sd_0 b, by omega⟩
        · have hv : (if a = b then some 0 else none) = some v := hv
          rw [if_neg e] at hv
          exact absurd hv (by simp)
    · refine Wp_f (by rw [L_6]; exact nI_ge (by omega) (by omega)) ?_
      rw [L_6, pk_mul, nI_add]
      refine Wp_t ((kin_I (by omega)).mpr (by omega)) ?_
      refine Wp_letI ?_; intro M1 e1
      rw [nI_clamp (by omega)] at e1
      have hf : Fx wyX M M1 := by rw [← e1]; exact (Fx.refl M).si _ (Or.inr rfl)
      rw [nI_1]
      refine ih (k + 1) M1 (by omega) (by omega) (hK.fr (hf.fr wy_s)) (fun a b ha hb => ?_) (hF.trans hf)
      rw [← e1, kg_si]
      by_cases e : a = k ∧ b = k
      · rw [if_pos (by omega), if_pos (by omega)]
        rfl
      · rw [if_neg (by omega), hD a b ha hb]
        congr 1
        by_cases e2 : a = b ∧ a < k
        · rw [if_pos e2, if_pos (by omega)]
        · rw [if_neg e2, if_neg (by omega)]
/-- what the class's ways know -/
def wyK (M : kr_M) (G : GG) (p : Nat) (wo : Int32) : Prop := ∃ T, wT M (gPl G) T ∧ (∀ a b, a < gPl G → b < gPl G → isD (T a b) (sd G p wo a b)) ∧ (∀ a b v, T a b = some v → v ≤ 140000) ∧ wTk M G p wo (gRo G)
theorem wy_is {G : GG} {p : Nat} {wo : Int32} {T : Nat → Nat → Option Nat} {B : Nat} (hV : GV G) (hI : wI G p wo T B) (hE : wEd G p wo T (gRo G)) (hC : wCl T (gPl G)) : ∀ a b, a < gPl G → b < gPl G → isD (T a b) (sd G p wo a b) := by
  obtain ⟨vLi, v0, vPl, vWe, vOd, vKi, vWo, vRo, vPe, vWt, vAc, vIn, vWa, vL, vMn, vW, vA, vB, vAB, vLd, vCr, vN, vK, vWg, vPc, vSt, vD⟩ := hV
  have key : ∀ d a b v, a < gPl G → b < gPl G → wk G p wo d a b v → ∃ u, T a b = some u ∧ u ≤ v := by
    intro d
    induction d with
    | zero =>
      intro a b v ha hb hd
      obtain ⟨rfl, rfl⟩ := hd
      exact ⟨0, hI.2 a, Nat.le_refl _⟩
    | succ d ih =>
      intro a b v ha hb hd
      obtain ⟨r, c, r1, r2, r3, r4⟩ := hd
      have hr := (wkB_t.mp r1).1
      have hA := vA r hr
      have hB := vB r hr
      have hc : c < gPl G := by rcases r2 with ⟨_, q⟩ | ⟨_, q⟩ <;> omega
      obtain ⟨u, u1, u2⟩ := hE r hr r1 a c r2
      obtain ⟨w, w1, w2⟩ := ih c b (v - wkC G p r) hc hb r4
      obtain ⟨z, z1, z2⟩ := hC c hc a b u w u1 w1
      exact ⟨z, z1, by omega⟩
  intro a b ha hb
  exact ⟨fun v hv => (hI.1 a b v hv).1, fun v ⟨d, hd⟩ => key d a b v ha hb hd⟩
theorem wy_ok {M : kr_M} {g p : Nat} {wo : Int32} {G : GG} (hK : KS M g G) (hp : p < gPe G) : Wp (f_X9_study g (nI p) wo M) (fun M' => wyK M' G p wo ∧ Fx wyX M M') := by
  have hV := hK.V
  unfold f_X9_study
  refine Wp_bv _ (fill_ok (a := 340) (L := 36) (-1) (by decide +kernel) (by omega)) (fun M1 ⟨p1, p2⟩ => ?_)
  have hf : Fx wyX M M1 := p2.mono (fun a j q => by have q : a = 340 := q; show a = 339 ∨ a = 340; omega)
  refine Wp_mono (wy_dg (M0 := M) (wo := wo) hp kr_F 0 M1 (by omega) (kr_F_gt _ (by omega)) (hK.fr (hf.fr wy_s)) (fun a b ha hb => ?_) hf) (fun M' ⟨⟨T, t1, t2, t3, t4⟩, q2, q3⟩ => ⟨⟨T, t1, wy_is hV t2 t3 t4, fun a b v hv => ?_, q2⟩, q3⟩)
  · rw [p1 _ (by omega), if_neg (by omega)]
    rfl
  · have := (t2.1 a b v hv).2
    have hV' := hV
    obtain ⟨vLi, v0, vPl, vWe, vOd, vKi, vWo, vRo, vPe, vWt, vAc, vIn, vWa, vL, vMn, vW, vA, vB, vAB, vLd, vCr, vN, vK, vWg, vPc, vSt, vD⟩ := hV'
    have := (st_9 (gPl G) (by omega)).2.2
    omega
