/-! learns of the reference -/
def iB (x : Int32) (k : Nat) : Int32 := (x >>> (nI k &&& 31)) &&& 1
theorem iB_or (x y : Int32) (k : Nat) : iB (x ||| y) k = iB x k ||| iB y k := by
  unfold iB
  generalize (nI k &&& 31) = s
  apply Int32.toBitVec_inj.1
  simp only [Int32.toBitVec_or, Int32.toBitVec_and, Int32.toBitVec_shiftRight]
  apply BitVec.eq_of_getLsbD_eq
  intro i hi
  simp only [BitVec.getLsbD_or, BitVec.getLsbD_and, BitVec.getLsbD_sshiftRight', BitVec.msb_or]
  split <;> cases (BitVec.getLsbD (Int32.toBitVec 1) i) <;> simp [Bool.and_or_distrib_left]
theorem iB_1 : ∀ m, m < 12 → ∀ k, k < 12 → iB ((1 : Int32) <<< (nI m &&& 31)) k = if k = m then 1 else 0 := by decide +kernel
theorem bp_or {x y : Int32} {p q : Prop} (hx : bp x p) (hy : bp y q) : bp (x ||| y) (p ∨ q) := by
  rcases hx with ⟨rfl, b⟩ | ⟨rfl, b⟩ <;> rcases hy with ⟨rfl, d⟩ | ⟨rfl, d⟩
  · exact Or.inl ⟨by decide, Or.inl b⟩
  · exact Or.inl ⟨by decide, Or.inl b⟩
  · exact Or.inl ⟨by decide, Or.inr d⟩
  · exact Or.inr ⟨by decide, fun q => q.elim b d⟩
def lnS (x : Int32) (G : GG) (z m : Nat) : Prop := ∀ k, k < 12 → bp (iB x k) (k < m ∧ lnB G z k)
theorem lnS_0 {G : GG} {z : Nat} : lnS 0 G z 0 := fun k hk => Or.inr ⟨(show ∀ k, k < 12 → iB 0 k = 0 by decide +kernel) k hk, fun q => by omega⟩
theorem lnS_t {G : GG} {z m : Nat} {x : Int32} (h : lnS x G z m) (hm : m < 12) (hb : lnB G z m) : lnS (x ||| ((1 : Int32) <<< (nI m &&& 31))) G z (m + 1) := fun k hk => by
  rw [iB_or]
  have h1 := h k hk
  have h2 := iB_1 m hm k hk
  have h3 : bp (iB ((1 : Int32) <<< (nI m &&& 31)) k) (k = m) := by
    by_cases e : k = m
    · rw [if_pos e] at h2; exact Or.inl ⟨h2, e⟩
    · rw [if_neg e] at h2; exact Or.inr ⟨h2, e⟩
  refine bp_i (bp_or h1 h3) ⟨fun q => ?_, fun ⟨q1, q2⟩ => ?_⟩
  · rcases q with ⟨q1, q2⟩ | q
    · exact ⟨by omega, q2⟩
    · subst q; exact ⟨by omega, hb⟩
  · by_cases e : k = m
    · exact Or.inr e
    · exact Or.inl ⟨by omega, q2⟩
theorem lnS_f {G : GG} {z m : Nat} {x : Int32} (h : lnS x G z m) (hb : ¬ lnB G z m) : lnS (x ||| 0) G z (m + 1) := fun k hk => by
  rw [Int32.or_zero]
  refine bp_i (h k hk) ⟨fun ⟨q1, q2⟩ => ⟨by omega, q2⟩, fun ⟨q1, q2⟩ => ⟨?_, q2⟩⟩
  have : k ≠ m := fun e => hb (by rw [← e]; exact q2)
  omega
theorem ln_b {x : Int32} {k : Nat} {q : Prop} (h : bp (iB x k) q) (M : kr_M) : Wp (f_X12_isBit x (nI k) M) (fun y => bp y.1 q ∧ y.2 = M) := by
  unfold f_X12_isBit
  rcases h with ⟨h1, h2⟩ | ⟨h1, h2⟩
  · exact Wp_f (fun z => z h1) (Wp_some ⟨Or.inl ⟨rfl, h2⟩, rfl⟩)
  · refine Wp_t (fun z => ?_) (Wp_some ⟨Or.inr ⟨rfl, h2⟩, rfl⟩)
    have z : iB x k = 1 := z
    rw [h1] at z
    exact absurd z (by decide)
theorem ln_s1 {M M0 : kr_M} {G : GG} {z r j n' : Nat} {x : Int32} {K : Int32 → Int32 → kr_M → Option (Int32 × kr_M)} {Q : Int32 × kr_M → Prop} (hV : GV G) (hR : RG M G) (hL : LG M G) (hr : r < gRo G) (hj : j < 2) (hz : z ≤ 2400) (hS : lnS x G z (2 * r + j)) (hF : Fr M0 M)
    (h : ∀ M' x', RG M' G → LG M' G → Fr M0 M' → lnS x' G z (2 * r + j + 1) → Wp (f_X12_learns_55 K (nI z) (nI r) n' x' (nI (j + 1)) M') Q) : Wp (f_X12_learns_55 K (nI z) (nI r) (n' + 1) x (nI j) M) Q := by
  have hV' := hV
  obtain ⟨vLi, v0, vPl, vWe, vOd, vKi, vWo, vRo, vPe, vWt, vAc, vIn, vWa, vL, vMn, vW, vA, vB, vAB, vLd, vCr, vN, vK, vWg, vPc, vSt, vD⟩ := hV'
  rw [f_X12_learns_55]
  refine Wp_f (by rw [L_2]; exact nI_ge (by omega) (by omega)) ?_
  refine Wp_bi _ (hsR (s := z) hV hR hL hr hj hz) (fun y M1 ⟨q1, q2, q3, q4⟩ => ?_)
  rcases q1 with ⟨a1, a2⟩ | ⟨a1, a2⟩
  · have a1 : y = 1 := a1
    subst a1
    refine Wp_f (by decide) ?_
    unfold f_X12_learns_89
    rw [show ((2 : Int32) * nI r) + nI j = nI (2 * r + j) by rw [L_2, pk_mul, nI_add], L_1, nI_add]
    refine Wp_letI ?_; intro v ev
    subst ev
    exact h M1 _ q2 q3 (hF.trans q4) (lnS_t hS (by omega) ((lnB_i hj).mpr a2))
  · have a1 : y = 0 := a1
    subst a1
    refine Wp_t rfl ?_
    unfold f_X12_learns_89
    rw [L_1, nI_add]
    refine Wp_letI ?_; intro v ev
    subst ev
    exact h M1 _ q2 q3 (hF.trans q4) (lnS_f hS (fun q => a2 ((lnB_i hj).mp q)))
theorem ln_41 {M0 : kr_M} {G : GG} {z : Nat} {p1 p2 p3 : Int32} {Q : Int32 × kr_M → Prop} (hV : GV G) (hz : z ≤ 2400)
    (h : ∀ M' x', RG M' G → LG M' G → Fr M0 M' → lnS x' G z (2 * gRo G) → Wp (f_X12_learns_104 p1 p2 p3 x' M') Q) : ∀ n' r M x, r ≤ gRo G → gRo G - r < n' → RG M G → LG M G → Fr M0 M → lnS x G z (2 * r) → Wp (f_X12_learns_41 p1 p2 p3 (nI z) n' x (nI r) M) Q := by
  have hV' := hV
  obtain ⟨vLi, v0, vPl, vWe, vOd, vKi, vWo, vRo, vPe, vWt, vAc, vIn, vWa, vL, vMn, vW, vA, vB, vAB, vLd, vCr, vN, vK, vWg, vPc, vSt, vD⟩ := hV'
  intro n'
  induction n' with
  | zero => intro r M x h1 h2; omega
  | succ n' ih =>
    intro r M x h1 h2 hR hL hF hS
    have hR' := hR
    obtain ⟨r0, rPl, rWe, rOd, rKi, rWo, rRo, rPe, rAc, rInc, rWa, rL, rMn, rW, rA, rB, rLd, rWg, rPc⟩ := hR'
    rw [f_X12_learns_41]
    refine Wp_t (by decide) ?_
    refine Wp_letI ?_; intro v ev
    have rRo' : M.1 353 (5 : Int32).toNatClampNeg = nI (gRo G) := rRo
    rw [rRo'] at ev
    subst ev
    by_cases c : r = gRo G
    · subst c
      exact Wp_t (nI_le (Nat.le_refl _) (by omega)) (h M x hR hL hF hS)
    · have hr : r < gRo G := by omega
      refine Wp_f (nI_ge (by omega) (by omega)) ?_
      obtain ⟨f, hf⟩ : ∃ f, kr_F = f + 1 + 1 + 1 := ⟨kr_F - 3, by have := kr_F_gt 5 (by omega); omega⟩
      rw [hf]
      refine ln_s1 (j := 0) hV hR hL hr (by omega) hz hS hF (fun M1 x1 q1 q2 q3 q4 => ?_)
      refine ln_s1 (j := 1) hV q1 q2 hr (by omega) hz q4 q3 (fun M2 x2 w1 w2 w3 w4 => ?_)
      rw [f_X12_learns_55]
      refine Wp_t (nI_le (Nat.le_refl 2) (by omega)) ?_
      unfold f_X12_learns_98
      rw [L_1, nI_add]
      exact ih (r + 1) M2 x2 (by omega) (by omega) w1 w2 w3 w4
def lnP (G : GG) (p z a k v : Nat) : Prop := (k < 6 → sd G p (-1) a k v) ∧ (6 ≤ k → lnL G p z a (k - 6) v)
theorem ln_P {G : GG} {p z a r j lv lw x : Nat} (hV : GV G) (hb : wkB G p (-1) r = true) (hj : j < 2) (h1 : lv = 0 ∨ (lv = 1 ∧ lw = 1)) (h2 : lw = 0 ∨ (lw = 1 ∧ (lv = 1 ∨ lnB G z (2 * r + j)))) (h : lnP G p z a (eN G r j + 6 * lv) x) : lnP G p z a (eN G r (1 - j) + 6 * lw) (x + wkC G p r) := by
  have hV' := hV
  obtain ⟨vLi, v0, vPl, vWe, vOd, vKi, vWo, vRo, vPe, vWt, vAc, vIn, vWa, vL, vMn, vW, vA, vB, vAB, vLd, vCr, vN, vK, vWg, vPc, vSt, vD⟩ := hV'
  have hr := (wkB_t.mp hb).1
  have e1 := eN_lt (j := j) hV hr
  have e2 := eN_lt (j := 1 - j) hV hr
  have ed := sd_e hb (eN_e (G := G) (r := r) hj)
  rcases h1 with rfl | ⟨rfl, rfl⟩
  · have s := h.1 (by omega)
    rcases h2 with rfl | ⟨rfl, q⟩
    · exact ⟨fun _ => sd_cat s ed, fun q => by omega⟩
    · have q : lnB G z (2 * r + j) := q.resolve_left (by omega)
      refine ⟨fun q => by omega, fun _ => ⟨r, j, hj, hb, q, x, 0, s, ?_, rfl⟩⟩
      rw [show eN G r (1 - j) + 6 * 1 - 6 = eN G r (1 - j) by omega]
      exact sd_0 _
  · obtain ⟨r', j', q1, q2, q3, x', y', q4, q5, q6⟩ := h.2 (by omega)
    rw [show eN G r j + 6 * 1 - 6 = eN G r j by omega] at q5
    refine ⟨fun q => by omega, fun _ => ⟨r', j', q1, q2, q3, x', y' + wkC G p r, q4, ?_, by omega⟩⟩
    rw [show eN G r (1 - j) + 6 * 1 - 6 = eN G r (1 - j) by omega]
    exact sd_cat q5 ed
/-- a place of the doubled gorge kept short over a rope -/
def leQ (G : GG) (p z : Nat) (t : Nat → Option Nat) (r q : Nat) : Prop := ∀ lw, (lw = 0 ∨ lw = 1) → (lw = 1 ↔ (q / 2 = 1 ∨ lnB G z (2 * r + q % 2))) → ∀ x, t (eN G r (q % 2) + 6 * (q / 2)) = some x → ∃ u, t (eN G r (1 - q % 2) + 6 * lw) = some u ∧ u ≤ x + wkC G p r
theorem ln_267 {M : kr_M} {P : Nat → Nat → Prop} {s r e lw d q sn : Nat} {t : Nat → Option Nat} {l : Int32} {K : Int32 → Int32 → kr_M → Option (Int32 × kr_M)} {Q : Int32 × kr_M → Prop} (hB : BF P 12 s t) (hT : tR M 12 t) (hr : r < 6) (hq : q < 4) (he : e < 6) (hl : lw = 0 ∨ lw = 1) (hs : sn < 12) (ee : M.1 359 (4 * r + 1 - q % 2) = nI e) (hd : 1 ≤ d) (hd2 : d ≤ 2151) (hP : ∀ x, P sn x → P (e + 6 * lw) (x + d))
    (h : ∀ M' t' l', BF P 12 s t' → tR M' 12 t' → Fx tmX M M' → (l' = l ∧ t' = t ∧ (∀ x, t sn = some x → ∃ u, t (e + 6 * lw) = some u ∧ u ≤ x + d)) ∨ (l' = 1 ∧ bfS t' 12 < bfS t 12) → Wp (K l' (nI (q + 1)) M') Q) : Wp (f_X12_learns_267 K l (nI r) (nI d) (nI q) (nI sn) (nI lw) M) Q := by
  have hm : nI q - nI q / (2 : Int32) * (2 : Int32) = nI (q % 2) := (show ∀ q, q < 4 → nI q - nI q / (2 : Int32) * (2 : Int32) = nI (q % 2) by decide +kernel) q hq
  have ix : (((4 : Int32) * nI r) + (1 : Int32)) - nI (q % 2) = nI (4 * r + 1 - q % 2) := by rw [L_4, L_1, pk_mul, nI_add, pk_sub (by omega)]
  have iy : nI e + (6 : Int32) * nI lw = nI (e + 6 * lw) := by rw [L_6, pk_mul, nI_add]
  have eS := hT sn hs
  have eE := hT (e + 6 * lw) (by omega)
  have n1 := bf_nb hB (by omega) sn
  have n2 := bf_nb hB (by omega) (e + 6 * lw)
  unfold f_X12_learns_267
  refine Wp_f (by decide) ?_
  rw [hm, ix]
  refine Wp_t ((kin_I (by omega)).mpr (by omega)) ?_
  refine Wp_letI ?_; intro v ev
  rw [nI_clamp (by omega), ee] at ev
  subst ev
  refine Wp_letI ?_; intro v ev
  rw [iy] at ev
  subst ev
  refine Wp_t ((kin_I (by omega)).mpr (by omega)) ?_
  refine Wp_letI ?_; intro v ev
  rw [nI_clamp (by omega), eS] at ev
  subst ev
  have skip : (∀ x, t sn = some x → ∃ u, t (e + 6 * lw) = some u ∧ u ≤ x + d) → Wp (f_X12_learns_349 K l (nI q) M) Q := fun hh => by
    unfold f_X12_learns_349
    rw [L_1, nI_add]
    exact h M t l hB hT (Fx.refl M) (Or.inl ⟨rfl, rfl, hh⟩)
  cases ex : t sn with
  | none =>
    rw [ex] at skip
    exact Wp_t (by decide) (skip (fun x hx => absurd hx (by simp)))
  | some x =>
    have bx := bf_b hB (by omega) sn x ex
    have eS' : M.1 381 sn = nI x := by rw [eS, ex]; rfl
    refine Wp_f (by rw [L_100000000]; exact nI_ge (by show x < 100000000; omega) (by omega)) ?_
    refine Wp_t ((kin_I (by omega)).mpr (by omega)) ?_
    refine Wp_letI ?_; intro v ev
    rw [nI_clamp (by omega), eS'] at ev
    subst ev
    refine Wp_t ((kin_I (by omega)).mpr (by omega)) ?_
    refine Wp_letI ?_; intro v ev
    rw [nI_clamp (by omega), eE] at ev
    subst ev
    rw [nI_add]
    by_cases c : kw_n (t sn) + d < kw_n (t (e + 6 * lw))
    · obtain ⟨x', hx', hl'⟩ := bf_t hB (by omega) c
      obtain ⟨u1, u2⟩ := bf_up hB (by omega) (by omega : e + 6 * lw < 12) ex hd hd2 (hP x (hB.1 sn x ex)) (by rw [ex] at hx'; have hx' : x = x' := (by simpa using hx'); rw [hx']; exact hl')
      rw [ex] at c
      have c : x + d < kw_n (t (e + 6 * lw)) := c
      refine Wp_t ((nI_ltI (by omega) (by omega)).mpr c) ?_
      refine Wp_t ((kin_I (by omega)).mpr (by omega)) ?_
      refine Wp_letI ?_; intro v ev
      rw [nI_clamp (by omega), eS'] at ev
      subst ev
      refine Wp_t ((kin_I (by omega)).mpr (by omega)) ?_
      refine Wp_letI ?_; intro M1 e1
      rw [nI_clamp (by omega), nI_add] at e1
      subst e1
      unfold f_X12_learns_349
      rw [L_1, nI_add]
      exact h _ _ _ u1 (tR_up hT) ((Fx.refl M).si _ rfl) (Or.inr ⟨rfl, u2⟩)
    · have hh := bf_f hB (by omega) hd2 c
      rw [ex] at c
      have c : ¬ x + d < kw_n (t (e + 6 * lw)) := c
      exact Wp_f (fun z => c ((nI_ltI (by omega) (by omega)).mp z)) (skip hh)
theorem ln_1 {M : kr_M} {s r p z q n' : Nat} {t : Nat → Option Nat} {l x : Int32} {G : GG} {K : Int32 → Int32 → kr_M → Option (Int32 × kr_M)} {Q : Int32 × kr_M → Prop} (hV : GV G) (hp : p < gPe G) (hR : RG M G) (hS : lnS x G z (2 * gRo G)) (hB : BF (lnP G p z s) 12 s t) (hT : tR M 12 t) (hr : r < gRo G) (hb : wkB G p (-1) r = true) (hq : q < 4)
    (h : ∀ M' t' l', BF (lnP G p z s) 12 s t' → tR M' 12 t' → Fx tmX M M' → (l' = l ∧ t' = t ∧ leQ G p z t r q) ∨ (l' = 1 ∧ bfS t' 12 < bfS t 12) → Wp (f_X12_learns_207 K x (nI r) (nI (wkC G p r)) n' l' (nI (q + 1)) M') Q) : Wp (f_X12_learns_207 K x (nI r) (nI (wkC G p r)) (n' + 1) l (nI q) M) Q := by
  have hV' := hV
  obtain ⟨vLi, v0, vPl, vWe, vOd, vKi, vWo, vRo, vPe, vWt, vAc, vIn, vWa, vL, vMn, vW, vA, vB, vAB, vLd, vCr, vN, vK, vWg, vPc, vSt, vD⟩ := hV'
  obtain ⟨d1, d2⟩ := wkC_b hV hr hp
  have hR' := hR
  obtain ⟨r0, rPl, rWe, rOd, rKi, rWo, rRo, rPe, rAc, rInc, rWa, rL, rMn, rW, rA, rB, rLd, rWg, rPc⟩ := hR'
  have e1 := eN_lt (j := q % 2) hV hr
  have e2 := eN_lt (j := 1 - q % 2) hV hr
  have hm : nI q - nI q / (2 : Int32) * (2 : Int32) = nI (q % 2) := (show ∀ q, q < 4 → nI q - nI q / (2 : Int32) * (2 : Int32) = nI (q % 2) by decide +kernel) q hq
  have hh : nI q / (2 : Int32) = nI (q / 2) := (show ∀ q, q < 4 → nI q / (2 : Int32) = nI (q / 2) by decide +kernel) q hq
  have ix : ((4 : Int32) * nI r) + nI (q % 2) = nI (4 * r + q % 2) := by rw [L_4, pk_mul, nI_add]
  have iy : nI (eN G r (q % 2)) + (6 : Int32) * nI (q / 2) = nI (eN G r (q % 2) + 6 * (q / 2)) := by rw [L_6, pk_mul, nI_add]
  have iz : ((2 : Int32) * nI r) + nI (q % 2) = nI (2 * r + q % 2) := by rw [L_2, pk_mul, nI_add]
  have en : ∀ j, j < 2 → M.1 359 (4 * r + j) = nI (eN G r j) := fun j hj => by
    rcases (by omega : j = 0 ∨ j = 1) with rfl | rfl
    · exact rA r hr
    · exact rB r hr
  have fin : ∀ lw, (lw = 0 ∨ lw = 1) → (lw = 1 ↔ (q / 2 = 1 ∨ lnB G z (2 * r + q % 2))) → Wp (f_X12_learns_267 (f_X12_learns_207 K x (nI r) (nI (wkC G p r)) n') l (nI r) (nI (wkC G p r)) (nI q) (nI (eN G r (q % 2) + 6 * (q / 2))) (nI lw) M) Q := fun lw hl hlw => by
    refine ln_267 (e := eN G r (1 - q % 2)) hB hT (by omega) hq (by omega) hl (by omega) (by rw [show 4 * r + 1 - q % 2 = 4 * r + (1 - q % 2) by omega]; exact en _ (by omega)) d1 d2 (fun y hy => ?_) (fun M' t' l' b1 b2 b3 b4 => h M' t' l' b1 b2 b3 ?_)
    · refine ln_P hV hb (by omega) ?_ ?_ hy
      · by_cases c : q / 2 = 1
        · exact Or.inr ⟨c, hlw.mpr (Or.inl c)⟩
        · exact Or.inl (by omega)
      · rcases hl with c | c
        · exact Or.inl c
        · exact Or.inr ⟨c, hlw.mp c⟩
    · rcases b4 with ⟨c1, c2, c3⟩ | c
      · refine Or.inl ⟨c1, c2, fun lw' hl' hlw' => ?_⟩
        have : lw' = lw := by
          by_cases c : q / 2 = 1 ∨ lnB G z (2 * r + q % 2)
          · rw [hlw'.mpr c, hlw.mpr c]
          · have c1 : ¬ lw' = 1 := fun z => c (hlw'.mp z)
            have c2 : ¬ lw = 1 := fun z => c (hlw.mp z)
            omega
        rw [this]
        exact c3
      · exact Or.inr c
  rw [f_X12_learns_207]
  refine Wp_f (by rw [L_4]; exact nI_ge (by omega) (by omega)) (Wp_f (by decide) ?_)
  rw [hm, hh, ix]
  refine Wp_t ((kin_I (by omega)).mpr (by omega)) ?_
  refine Wp_letI ?_; intro v ev
  rw [nI_clamp (by omega), en _ (by omega)] at ev
  subst ev
  refine Wp_f (by decide) ?_
  refine Wp_letI ?_; intro v ev
  rw [iy] at ev
  subst ev
  refine Wp_f (by decide) ?_
  by_cases c : q / 2 = 1
  · refine Wp_t (by rw [c]; rfl) ?_
    unfold f_X12_learns_262
    exact fin 1 (Or.inr rfl) ⟨fun _ => Or.inl c, fun _ => rfl⟩
  · refine Wp_f (by rw [show q / 2 = 0 by omega]; decide) (Wp_f (by decide) ?_)
    rw [iz]
    refine Wp_bi _ (ln_b (hS (2 * r + q % 2) (by omega)) M) (fun y M1 ⟨y1, y2⟩ => ?_)
    have y2 : M1 = M := y2
    subst y2
    rcases y1 with ⟨a1, a2⟩ | ⟨a1, a2⟩
    · have a1 : y = 1 := a1
      subst a1
      refine Wp_f (by decide) ?_
      unfold f_X12_learns_262
      exact fin 1 (Or.inr rfl) ⟨fun _ => Or.inr a2.2, fun _ => rfl⟩
    · have a1 : y = 0 := a1
      subst a1
      refine Wp_t rfl ?_
      exact fin 0 (Or.inl rfl) ⟨fun w => by omega, fun w => by
        rcases w with w | w
        · exact absurd w c
        · exact absurd ⟨by omega, w⟩ a2⟩
theorem ln_2 {M0 : kr_M} {s r p z : Nat} {x l0 : Int32} {t0 : Nat → Option Nat} {G : GG} {K : Int32 → Int32 → kr_M → Option (Int32 × kr_M)} {Q : Int32 × kr_M → Prop} (hV : GV G) (hp : p < gPe G) (hS : lnS x G z (2 * gRo G)) (hr : r < gRo G) (hb : wkB G p (-1) r = true)
    (h : ∀ M' t' l', RG M' G → BF (lnP G p z s) 12 s t' → tR M' 12 t' → Fx tmX M0 M' → (l' = l0 ∧ t' = t0 ∧ ∀ q, q < 4 → leQ G p z t0 r q) ∨ (l' = 1 ∧ bfS t' 12 < bfS t0 12) → Wp (K l' (nI (r + 1)) M') Q) :
    ∀ n' q M t l, q ≤ 4 → 4 - q < n' → RG M G → BF (lnP G p z s) 12 s t → tR M 12 t → Fx tmX M0 M → (l = l0 ∧ t = t0 ∧ ∀ q', q' < q → leQ G p z t0 r q') ∨ (l = 1 ∧ bfS t 12 < bfS t0 12) → Wp (f_X12_learns_207 K x (nI r) (nI (wkC G p r)) n' l (nI q) M) Q := by
  have hV' := hV
  obtain ⟨vLi, v0, vPl, vWe, vOd, vKi, vWo, vRo, vPe, vWt, vAc, vIn, vWa, vL, vMn, vW, vA, vB, vAB, vLd, vCr, vN, vK, vWg, vPc, vSt, vD⟩ := hV'
  intro n'
  induction n' with
  | zero => intro q M t l h1 h2; omega
  | succ n' ih =>
    intro q M t l h1 h2 hR hB hT hF ho
    by_cases c : q = 4
    · subst c
      rw [f_X12_learns_207]
      refine Wp_t (nI_le (Nat.le_refl 4) (by omega)) ?_
      unfold f_X12_learns_355
      rw [L_1, nI_add]
      exact h M t l hR hB hT hF ho
    · refine ln_1 hV hp hR hS hB hT hr hb (by omega) (fun M1 t1 l1 b1 b2 b3 b4 => ?_)
      refine ih (q + 1) M1 t1 l1 (by omega) (by omega) (tmG hR b3) b1 b2 (hF.trans b3) ?_
      rcases b4 with ⟨x1, x2, x3⟩ | ⟨x1, x2⟩
      · subst x2
        rcases ho with ⟨z1, z2, z3⟩ | ⟨z1, z2⟩
        · refine Or.inl ⟨by rw [x1, z1], z2, fun q' hq' => ?_⟩
          by_cases e : q' = q
          · rw [e, ← z2]; exact x3
          · exact z3 q' (by omega)
        · exact Or.inr ⟨by rw [x1, z1], z2⟩
      · rcases ho with ⟨z1, z2, z3⟩ | ⟨z1, z2⟩
        · subst z2
          exact Or.inr ⟨x1, x2⟩
        · exact Or.inr ⟨x1, by omega⟩
def leK (G : GG) (p z : Nat) (t : Nat → Option Nat) (n : Nat) : Prop := ∀ r, r < n → wkB G p (-1) r = true → ∀ q, q < 4 → leQ G p z t r q
theorem ln_ro {M0 : kr_M} {s p z : Nat} {x : Int32} {G : GG} {t0 : Nat → Option Nat} {K : Int32 → kr_M → Option (Int32 × kr_M)} {Q : Int32 × kr_M → Prop} (hV : GV G) (hp : p < gPe G) (hS : lnS x G z (2 * gRo G))
    (h : ∀ M' t' l', RG M' G → LG M' G → BF (lnP G p z s) 12 s t' → tR M' 12 t' → Fx tmX M0 M' → (l' = 0 ∧ leK G p z t' (gRo G)) ∨ (l' = 1 ∧ bfS t' 12 < bfS t0 12) → Wp (K l' M') Q) :
    ∀ n' r M t l, r ≤ gRo G → gRo G - r < n' → RG M G → LG M G → BF (lnP G p z s) 12 s t → tR M 12 t → Fx tmX M0 M → (l = 0 ∧ t = t0 ∧ leK G p z t r) ∨ (l = 1 ∧ bfS t 12 < bfS t0 12) → Wp (f_X12_learns_154 K (nI p) x n' l (nI r) M) Q := by
  intro n'
  induction n' with
  | zero => intro r M t l h1 h2; omega
  | succ n' ih =>
    intro r M t l h1 h2 hR hL hB hT hF ho
    have hV' := hV
    obtain ⟨vLi, v0, vPl, vWe, vOd, vKi, vWo, vRo, vPe, vWt, vAc, vIn, vWa, vL, vMn, vW, vA, vB, vAB, vLd, vCr, vN, vK, vWg, vPc, vSt, vD⟩ := hV'
    have hR' := hR
    obtain ⟨r0, rPl, rWe, rOd, rKi, rWo, rRo, rPe, rAc, rInc, rWa, rL, rMn, rW, rA, rB, rLd, rWg, rPc⟩ := hR'
    rw [f_X12_learns_154]
    by_cases c : r = gRo G
    · subst c
      (repeat (first | with_reducible refine Wp_some ?_ | (with_reducible refine Wp_letI ?_; intro v_ hv_; (try simp (disch := omega) only [L_0, L_1, L_2, L_3, L_4, L_5, L_6, L_7, L_8, L_9, L_10, L_11, L_12, L_16, L_18, L_20, L_24, L_25, L_30, L_32, L_38, L_40, L_48, L_50, L_60, L_63, L_64, L_72, L_99, L_100, L_160, L_500, L_999, L_1380, L_1400, L_2400, L_2401, L_60025, L_100000, L_1000000, L_100000000, L_2000000000, nI_add, pk_mul, nI_clamp, nI_leI, nI_ltI, nI_eq, kin_I, pk_sub, nI_m1, m1_nI, nI_am1, kx_max, kx_min, kt_tx, kt_rp, kg_si, kg_sl, kq_si, kq_sl, kv_si, kv_sl, Nat.reduceAdd, Nat.reduceMul, Nat.reduceSub, Nat.reduceEqDiff, Nat.reduceLT, Nat.reduceLeDiff, ne_eq, not_true_eq_false, not_false_eq_true, or_true, true_or, or_false, false_or, and_true, true_and, false_and, and_false, if_true, if_false, ite_true, ite_false, reduceIte, kl_0, kl_1, kl_2, kl_3, kl_6, kl_20, kl_50, kl_500, kl_999, kl_2400, kl_2g, in_t, in_tt, in_f, in_ff, in_n, if_pos, if_neg, eq_self, nI_n1, n1_nI, nI_an1, lesser_n1, lesser_rn, lesser_n, kx_n1, rRo] at hv_); subst hv_) | (with_reducible refine Wp_biI ?_; intro c_ hc_; simp (disch := omega) only [L_0, L_1, L_2, L_3, L_4, L_5, L_6, L_7, L_8, L_9, L_10, L_11, L_12, L_16, L_18, L_20, L_24, L_25, L_30, L_32, L_38, L_40, L_48, L_50, L_60, L_63, L_64, L_72, L_99, L_100, L_160, L_500, L_999, L_1380, L_1400, L_2400, L_2401, L_60025, L_100000, L_1000000, L_100000000, L_2000000000, nI_add, pk_mul, nI_clamp, nI_leI, nI_ltI, nI_eq, kin_I, pk_sub, nI_m1, m1_nI, nI_am1, kx_max, kx_min, kt_tx, kt_rp, kg_si, kg_sl, kq_si, kq_sl, kv_si, kv_sl, Nat.reduceAdd, Nat.reduceMul, Nat.reduceSub, Nat.reduceEqDiff, Nat.reduceLT, Nat.reduceLeDiff, ne_eq, not_true_eq_false, not_false_eq_true, or_true, true_or, or_false, false_or, and_true, true_and, false_and, and_false, if_true, if_false, ite_true, ite_false, reduceIte, kl_0, kl_1, kl_2, kl_3, kl_6, kl_20, kl_50, kl_500, kl_999, kl_2400, kl_2g, in_t, in_tt, in_f, in_ff, in_n, if_pos, if_neg, eq_self, nI_n1, n1_nI, nI_an1, lesser_n1, lesser_rn, lesser_n, kx_n1, rRo] at hc_; subst hc_; with_reducible refine Wp_bis ?_) | (with_reducible refine Wp_bvI ?_; intro c_ hc_; simp (disch := omega) only [L_0, L_1, L_2, L_3, L_4, L_5, L_6, L_7, L_8, L_9, L_10, L_11, L_12, L_16, L_18, L_20, L_24, L_25, L_30, L_32, L_38, L_40, L_48, L_50, L_60, L_63, L_64, L_72, L_99, L_100, L_160, L_500, L_999, L_1380, L_1400, L_2400, L_2401, L_60025, L_100000, L_1000000, L_100000000, L_2000000000, nI_add, pk_mul, nI_clamp, nI_leI, nI_ltI, nI_eq, kin_I, pk_sub, nI_m1, m1_nI, nI_am1, kx_max, kx_min, kt_tx, kt_rp, kg_si, kg_sl, kq_si, kq_sl, kv_si, kv_sl, Nat.reduceAdd, Nat.reduceMul, Nat.reduceSub, Nat.reduceEqDiff, Nat.reduceLT, Nat.reduceLeDiff, ne_eq, not_true_eq_false, not_false_eq_true, or_true, true_or, or_false, false_or, and_true, true_and, false_and, and_false, if_true, if_false, ite_true, ite_false, reduceIte, kl_0, kl_1, kl_2, kl_3, kl_6, kl_20, kl_50, kl_500, kl_999, kl_2400, kl_2g, in_t, in_tt, in_f, in_ff, in_n, if_pos, if_neg, eq_self, nI_n1, n1_nI, nI_an1, lesser_n1, lesser_rn, lesser_n, kx_n1, rRo] at hc_; subst hc_; with_reducible refine Wp_bvs ?_) | (with_reducible refine Wp_t (by (first | (simp (disch := omega) only [L_0, L_1, L_2, L_3, L_4, L_5, L_6, L_7, L_8, L_9, L_10, L_11, L_12, L_16, L_18, L_20, L_24, L_25, L_30, L_32, L_38, L_40, L_48, L_50, L_60, L_63, L_64, L_72, L_99, L_100, L_160, L_500, L_999, L_1380, L_1400, L_2400, L_2401, L_60025, L_100000, L_1000000, L_100000000, L_2000000000, nI_add, pk_mul, nI_clamp, nI_leI, nI_ltI, nI_eq, kin_I, pk_sub, nI_m1, m1_nI, nI_am1, kx_max, kx_min, kt_tx, kt_rp, kg_si, kg_sl, kq_si, kq_sl, kv_si, kv_sl, Nat.reduceAdd, Nat.reduceMul, Nat.reduceSub, Nat.reduceEqDiff, Nat.reduceLT, Nat.reduceLeDiff, ne_eq, not_true_eq_false, not_false_eq_true, or_true, true_or, or_false, false_or, and_true, true_and, false_and, and_false, if_true, if_false, ite_true, ite_false, reduceIte, kl_0, kl_1, kl_2, kl_3, kl_6, kl_20, kl_50, kl_500, kl_999, kl_2400, kl_2g, in_t, in_tt, in_f, in_ff, in_n, if_pos, if_neg, eq_self, nI_n1, n1_nI, nI_an1, lesser_n1, lesser_rn, lesser_n, kx_n1, rRo]; done) | (simp (disch := omega) only [L_0, L_1, L_2, L_3, L_4, L_5, L_6, L_7, L_8, L_9, L_10, L_11, L_12, L_16, L_18, L_20, L_24, L_25, L_30, L_32, L_38, L_40, L_48, L_50, L_60, L_63, L_64, L_72, L_99, L_100, L_160, L_500, L_999, L_1380, L_1400, L_2400, L_2401, L_60025, L_100000, L_1000000, L_100000000, L_2000000000, nI_add, pk_mul, nI_clamp, nI_leI, nI_ltI, nI_eq, kin_I, pk_sub, nI_m1, m1_nI, nI_am1, kx_max, kx_min, kt_tx, kt_rp, kg_si, kg_sl, kq_si, kq_sl, kv_si, kv_sl, Nat.reduceAdd, Nat.reduceMul, Nat.reduceSub, Nat.reduceEqDiff, Nat.reduceLT, Nat.reduceLeDiff, ne_eq, not_true_eq_false, not_false_eq_true, or_true, true_or, or_false, false_or, and_true, true_and, false_and, and_false, if_true, if_false, ite_true, ite_false, reduceIte, kl_0, kl_1, kl_2, kl_3, kl_6, kl_20, kl_50, kl_500, kl_999, kl_2400, kl_2g, in_t, in_tt, in_f, in_ff, in_n, if_pos, if_neg, eq_self, nI_n1, n1_nI, nI_an1, lesser_n1, lesser_rn, lesser_n, kx_n1, rRo]; omega) | decide)) ?_) | (with_reducible refine Wp_f (by (first | (simp (disch := omega) only [L_0, L_1, L_2, L_3, L_4, L_5, L_6, L_7, L_8, L_9, L_10, L_11, L_12, L_16, L_18, L_20, L_24, L_25, L_30, L_32, L_38, L_40, L_48, L_50, L_60, L_63, L_64, L_72, L_99, L_100, L_160, L_500, L_999, L_1380, L_1400, L_2400, L_2401, L_60025, L_100000, L_1000000, L_100000000, L_2000000000, nI_add, pk_mul, nI_clamp, nI_leI, nI_ltI, nI_eq, kin_I, pk_sub, nI_m1, m1_nI, nI_am1, kx_max, kx_min, kt_tx, kt_rp, kg_si, kg_sl, kq_si, kq_sl, kv_si, kv_sl, Nat.reduceAdd, Nat.reduceMul, Nat.reduceSub, Nat.reduceEqDiff, Nat.reduceLT, Nat.reduceLeDiff, ne_eq, not_true_eq_false, not_false_eq_true, or_true, true_or, or_false, false_or, and_true, true_and, false_and, and_false, if_true, if_false, ite_true, ite_false, reduceIte, kl_0, kl_1, kl_2, kl_3, kl_6, kl_20, kl_50, kl_500, kl_999, kl_2400, kl_2g, in_t, in_tt, in_f, in_ff, in_n, if_pos, if_neg, eq_self, nI_n1, n1_nI, nI_an1, lesser_n1, lesser_rn, lesser_n, kx_n1, rRo]; done) | (simp (disch := omega) only [L_0, L_1, L_2, L_3, L_4, L_5, L_6, L_7, L_8, L_9, L_10, L_11, L_12, L_16, L_18, L_20, L_24, L_25, L_30, L_32, L_38, L_40, L_48, L_50, L_60, L_63, L_64, L_72, L_99, L_100, L_160, L_500, L_999, L_1380, L_1400, L_2400, L_2401, L_60025, L_100000, L_1000000, L_100000000, L_2000000000, nI_add, pk_mul, nI_clamp, nI_leI, nI_ltI, nI_eq, kin_I, pk_sub, nI_m1, m1_nI, nI_am1, kx_max, kx_min, kt_tx, kt_rp, kg_si, kg_sl, kq_si, kq_sl, kv_si, kv_sl, Nat.reduceAdd, Nat.reduceMul, Nat.reduceSub, Nat.reduceEqDiff, Nat.reduceLT, Nat.reduceLeDiff, ne_eq, not_true_eq_false, not_false_eq_true, or_true, true_or, or_false, false_or, and_true, true_and, false_and, and_false, if_true, if_false, ite_true, ite_false, reduceIte, kl_0, kl_1, kl_2, kl_3, kl_6, kl_20, kl_50, kl_500, kl_999, kl_2400, kl_2g, in_t, in_tt, in_f, in_ff, in_n, if_pos, if_neg, eq_self, nI_n1, n1_nI, nI_an1, lesser_n1, lesser_rn, lesser_n, kx_n1, rRo]; omega) | decide)) ?_) | unfold f_X12_learns_361)); try simp (disch := omega) only [nI_1, kt_rp, kt_tx]
      refine h M t l hR hL hB hT hF ?_
      rcases ho with ⟨x1, x2, x3⟩ | x
      · exact Or.inl ⟨x1, x3⟩
      · exact Or.inr x
    · have hr : r < gRo G := by omega
      refine Wp_t (by decide) ?_
      refine Wp_letI ?_; intro v ev
      have rRo' : M.1 353 (5 : Int32).toNatClampNeg = nI (gRo G) := rRo
      rw [rRo'] at ev
      subst ev
      refine Wp_f (nI_ge (by omega) (by omega)) ?_
      by_cases d : rSt G r < nI (gWg G p)
      · have hn : ¬ wkB G p (-1) r = true := fun q => (wkB_t.mp q).2.2 d
        (repeat (first | with_reducible refine Wp_some ?_ | (with_reducible refine Wp_letI ?_; intro v_ hv_; (try simp (disch := omega) only [L_0, L_1, L_2, L_3, L_4, L_5, L_6, L_7, L_8, L_9, L_10, L_11, L_12, L_16, L_18, L_20, L_24, L_25, L_30, L_32, L_38, L_40, L_48, L_50, L_60, L_63, L_64, L_72, L_99, L_100, L_160, L_500, L_999, L_1380, L_1400, L_2400, L_2401, L_60025, L_100000, L_1000000, L_100000000, L_2000000000, nI_add, pk_mul, nI_clamp, nI_leI, nI_ltI, nI_eq, kin_I, pk_sub, nI_m1, m1_nI, nI_am1, kx_max, kx_min, kt_tx, kt_rp, kg_si, kg_sl, kq_si, kq_sl, kv_si, kv_sl, Nat.reduceAdd, Nat.reduceMul, Nat.reduceSub, Nat.reduceEqDiff, Nat.reduceLT, Nat.reduceLeDiff, ne_eq, not_true_eq_false, not_false_eq_true, or_true, true_or, or_false, false_or, and_true, true_and, false_and, and_false, if_true, if_false, ite_true, ite_false, reduceIte, kl_0, kl_1, kl_2, kl_3, kl_6, kl_20, kl_50, kl_500, kl_999, kl_2400, kl_2g, in_t, in_tt, in_f, in_ff, in_n, if_pos, if_neg, eq_self, nI_n1, n1_nI, nI_an1, lesser_n1, lesser_rn, lesser_n, kx_n1, rWg p hp, bear_f hV hR hL hr d] at hv_); subst hv_) | (with_reducible refine Wp_biI ?_; intro c_ hc_; simp (disch := omega) only [L_0, L_1, L_2, L_3, L_4, L_5, L_6, L_7, L_8, L_9, L_10, L_11, L_12, L_16, L_18, L_20, L_24, L_25, L_30, L_32, L_38, L_40, L_48, L_50, L_60, L_63, L_64, L_72, L_99, L_100, L_160, L_500, L_999, L_1380, L_1400, L_2400, L_2401, L_60025, L_100000, L_1000000, L_100000000, L_2000000000, nI_add, pk_mul, nI_clamp, nI_leI, nI_ltI, nI_eq, kin_I, pk_sub, nI_m1, m1_nI, nI_am1, kx_max, kx_min, kt_tx, kt_rp, kg_si, kg_sl, kq_si, kq_sl, kv_si, kv_sl, Nat.reduceAdd, Nat.reduceMul, Nat.reduceSub, Nat.reduceEqDiff, Nat.reduceLT, Nat.reduceLeDiff, ne_eq, not_true_eq_false, not_false_eq_true, or_true, true_or, or_false, false_or, and_true, true_and, false_and, and_false, if_true, if_false, ite_true, ite_false, reduceIte, kl_0, kl_1, kl_2, kl_3, kl_6, kl_20, kl_50, kl_500, kl_999, kl_2400, kl_2g, in_t, in_tt, in_f, in_ff, in_n, if_pos, if_neg, eq_self, nI_n1, n1_nI, nI_an1, lesser_n1, lesser_rn, lesser_n, kx_n1, rWg p hp, bear_f hV hR hL hr d] at hc_; subst hc_; with_reducible refine Wp_bis ?_) | (with_reducible refine Wp_bvI ?_; intro c_ hc_; simp (disch := omega) only [L_0, L_1, L_2, L_3, L_4, L_5, L_6, L_7, L_8, L_9, L_10, L_11, L_12, L_16, L_18, L_20, L_24, L_25, L_30, L_32, L_38, L_40, L_48, L_50, L_60, L_63, L_64, L_72, L_99, L_100, L_160, L_500, L_999, L_1380, L_1400, L_2400, L_2401, L_60025, L_100000, L_1000000, L_100000000, L_2000000000, nI_add, pk_mul, nI_clamp, nI_leI, nI_ltI, nI_eq, kin_I, pk_sub, nI_m1, m1_nI, nI_am1, kx_max, kx_min, kt_tx, kt_rp, kg_si, kg_sl, kq_si, kq_sl, kv_si, kv_sl, Nat.reduceAdd, Nat.reduceMul, Nat.reduceSub, Nat.reduceEqDiff, Nat.reduceLT, Nat.reduceLeDiff, ne_eq, not_true_eq_false, not_false_eq_true, or_true, true_or, or_false, false_or, and_true, true_and, false_and, and_false, if_true, if_false, ite_true, ite_false, reduceIte, kl_0, kl_1, kl_2, kl_3, kl_6, kl_20, kl_50, kl_500, kl_999, kl_2400, kl_2g, in_t, in_tt, in_f, in_ff, in_n, if_pos, if_neg, eq_self, nI_n1, n1_nI, nI_an1, lesser_n1, lesser_rn, lesser_n, kx_n1, rWg p hp, bear_f hV hR hL hr d] at hc_; subst hc_; with_reducible refine Wp_bvs ?_) | (with_reducible refine Wp_t (by (first | (simp (disch := omega) only [L_0, L_1, L_2, L_3, L_4, L_5, L_6, L_7, L_8, L_9, L_10, L_11, L_12, L_16, L_18, L_20, L_24, L_25, L_30, L_32, L_38, L_40, L_48, L_50, L_60, L_63, L_64, L_72, L_99, L_100, L_160, L_500, L_999, L_1380, L_1400, L_2400, L_2401, L_60025, L_100000, L_1000000, L_100000000, L_2000000000, nI_add, pk_mul, nI_clamp, nI_leI, nI_ltI, nI_eq, kin_I, pk_sub, nI_m1, m1_nI, nI_am1, kx_max, kx_min, kt_tx, kt_rp, kg_si, kg_sl, kq_si, kq_sl, kv_si, kv_sl, Nat.reduceAdd, Nat.reduceMul, Nat.reduceSub, Nat.reduceEqDiff, Nat.reduceLT, Nat.reduceLeDiff, ne_eq, not_true_eq_false, not_false_eq_true, or_true, true_or, or_false, false_or, and_true, true_and, false_and, and_false, if_true, if_false, ite_true, ite_false, reduceIte, kl_0, kl_1, kl_2, kl_3, kl_6, kl_20, kl_50, kl_500, kl_999, kl_2400, kl_2g, in_t, in_tt, in_f, in_ff, in_n, if_pos, if_neg, eq_self, nI_n1, n1_nI, nI_an1, lesser_n1, lesser_rn, lesser_n, kx_n1, rWg p hp, bear_f hV hR hL hr d]; done) | (simp (disch := omega) only [L_0, L_1, L_2, L_3, L_4, L_5, L_6, L_7, L_8, L_9, L_10, L_11, L_12, L_16, L_18, L_20, L_24, L_25, L_30, L_32, L_38, L_40, L_48, L_50, L_60, L_63, L_64, L_72, L_99, L_100, L_160, L_500, L_999, L_1380, L_1400, L_2400, L_2401, L_60025, L_100000, L_1000000, L_100000000, L_2000000000, nI_add, pk_mul, nI_clamp, nI_leI, nI_ltI, nI_eq, kin_I, pk_sub, nI_m1, m1_nI, nI_am1, kx_max, kx_min, kt_tx, kt_rp, kg_si, kg_sl, kq_si, kq_sl, kv_si, kv_sl, Nat.reduceAdd, Nat.reduceMul, Nat.reduceSub, Nat.reduceEqDiff, Nat.reduceLT, Nat.reduceLeDiff, ne_eq, not_true_eq_false, not_false_eq_true, or_true, true_or, or_false, false_or, and_true, true_and, false_and, and_false, if_true, if_false, ite_true, ite_false, reduceIte, kl_0, kl_1, kl_2, kl_3, kl_6, kl_20, kl_50, kl_500, kl_999, kl_2400, kl_2g, in_t, in_tt, in_f, in_ff, in_n, if_pos, if_neg, eq_self, nI_n1, n1_nI, nI_an1, lesser_n1, lesser_rn, lesser_n, kx_n1, rWg p hp, bear_f hV hR hL hr d]; omega) | decide)) ?_) | (with_reducible refine Wp_f (by (first | (simp (disch := omega) only [L_0, L_1, L_2, L_3, L_4, L_5, L_6, L_7, L_8, L_9, L_10, L_11, L_12, L_16, L_18, L_20, L_24, L_25, L_30, L_32, L_38, L_40, L_48, L_50, L_60, L_63, L_64, L_72, L_99, L_100, L_160, L_500, L_999, L_1380, L_1400, L_2400, L_2401, L_60025, L_100000, L_1000000, L_100000000, L_2000000000, nI_add, pk_mul, nI_clamp, nI_leI, nI_ltI, nI_eq, kin_I, pk_sub, nI_m1, m1_nI, nI_am1, kx_max, kx_min, kt_tx, kt_rp, kg_si, kg_sl, kq_si, kq_sl, kv_si, kv_sl, Nat.reduceAdd, Nat.reduceMul, Nat.reduceSub, Nat.reduceEqDiff, Nat.reduceLT, Nat.reduceLeDiff, ne_eq, not_true_eq_false, not_false_eq_true, or_true, true_or, or_false, false_or, and_true, true_and, false_and, and_false, if_true, if_false, ite_true, ite_false, reduceIte, kl_0, kl_1, kl_2, kl_3, kl_6, kl_20, kl_50, kl_500, kl_999, kl_2400, kl_2g, in_t, in_tt, in_f, in_ff, in_n, if_pos, if_neg, eq_self, nI_n1, n1_nI, nI_an1, lesser_n1, lesser_rn, lesser_n, kx_n1, rWg p hp, bear_f hV hR hL hr d]; done) | (simp (disch := omega) only [L_0, L_1, L_2, L_3, L_4, L_5, L_6, L_7, L_8, L_9, L_10, L_11, L_12, L_16, L_18, L_20, L_24, L_25, L_30, L_32, L_38, L_40, L_48, L_50, L_60, L_63, L_64, L_72, L_99, L_100, L_160, L_500, L_999, L_1380, L_1400, L_2400, L_2401, L_60025, L_100000, L_1000000, L_100000000, L_2000000000, nI_add, pk_mul, nI_clamp, nI_leI, nI_ltI, nI_eq, kin_I, pk_sub, nI_m1, m1_nI, nI_am1, kx_max, kx_min, kt_tx, kt_rp, kg_si, kg_sl, kq_si, kq_sl, kv_si, kv_sl, Nat.reduceAdd, Nat.reduceMul, Nat.reduceSub, Nat.reduceEqDiff, Nat.reduceLT, Nat.reduceLeDiff, ne_eq, not_true_eq_false, not_false_eq_true, or_true, true_or, or_false, false_or, and_true, true_and, false_and, and_false, if_true, if_false, ite_true, ite_false, reduceIte, kl_0, kl_1, kl_2, kl_3, kl_6, kl_20, kl_50, kl_500, kl_999, kl_2400, kl_2g, in_t, in_tt, in_f, in_ff, in_n, if_pos, if_neg, eq_self, nI_n1, n1_nI, nI_an1, lesser_n1, lesser_rn, lesser_n, kx_n1, rWg p hp, bear_f hV hR hL hr d]; omega) | decide)) ?_) | unfold f_X12_learns_355)); try simp (disch := omega) only [nI_1, kt_rp, kt_tx]
        refine ih (r + 1) M t l (by omega) (by omega) hR hL hB hT hF ?_
        rcases ho with ⟨x1, x2, x3⟩ | x
        · refine Or.inl ⟨x1, x2, fun r' hr' hb' => ?_⟩
          by_cases e : r' = r
          · subst e; exact absurd hb' hn
          · exact x3 r' (by omega) hb'
        · exact Or.inr x
      · have hb : wkB G p (-1) r = true := wkB_t.mpr ⟨hr, fun q => (nI_m1 (by omega)).mp q, d⟩
        have hm : nI (rIn G r) * nI (gPc G p) = nI (wkC G p r) := by rw [pk_mul]; rfl
        (repeat (first | with_reducible refine Wp_some ?_ | (with_reducible refine Wp_letI ?_; intro v_ hv_; (try simp (disch := omega) only [L_0, L_1, L_2, L_3, L_4, L_5, L_6, L_7, L_8, L_9, L_10, L_11, L_12, L_16, L_18, L_20, L_24, L_25, L_30, L_32, L_38, L_40, L_48, L_50, L_60, L_63, L_64, L_72, L_99, L_100, L_160, L_500, L_999, L_1380, L_1400, L_2400, L_2401, L_60025, L_100000, L_1000000, L_100000000, L_2000000000, nI_add, pk_mul, nI_clamp, nI_leI, nI_ltI, nI_eq, kin_I, pk_sub, nI_m1, m1_nI, nI_am1, kx_max, kx_min, kt_tx, kt_rp, kg_si, kg_sl, kq_si, kq_sl, kv_si, kv_sl, Nat.reduceAdd, Nat.reduceMul, Nat.reduceSub, Nat.reduceEqDiff, Nat.reduceLT, Nat.reduceLeDiff, ne_eq, not_true_eq_false, not_false_eq_true, or_true, true_or, or_false, false_or, and_true, true_and, false_and, and_false, if_true, if_false, ite_true, ite_false, reduceIte, kl_0, kl_1, kl_2, kl_3, kl_6, kl_20, kl_50, kl_500, kl_999, kl_2400, kl_2g, in_t, in_tt, in_f, in_ff, in_n, if_pos, if_neg, eq_self, nI_n1, n1_nI, nI_an1, lesser_n1, lesser_rn, lesser_n, kx_n1, rWg p hp, bear_t hV hR hL hr d, inchesR hV hR hL hr, rPc p hp, hm] at hv_); subst hv_) | (with_reducible refine Wp_biI ?_; intro c_ hc_; simp (disch := omega) only [L_0, L_1, L_2, L_3, L_4, L_5, L_6, L_7, L_8, L_9, L_10, L_11, L_12, L_16, L_18, L_20, L_24, L_25, L_30, L_32, L_38, L_40, L_48, L_50, L_60, L_63, L_64, L_72, L_99, L_100, L_160, L_500, L_999, L_1380, L_1400, L_2400, L_2401, L_60025, L_100000, L_1000000, L_100000000, L_2000000000, nI_add, pk_mul, nI_clamp, nI_leI, nI_ltI, nI_eq, kin_I, pk_sub, nI_m1, m1_nI, nI_am1, kx_max, kx_min, kt_tx, kt_rp, kg_si, kg_sl, kq_si, kq_sl, kv_si, kv_sl, Nat.reduceAdd, Nat.reduceMul, Nat.reduceSub, Nat.reduceEqDiff, Nat.reduceLT, Nat.reduceLeDiff, ne_eq, not_true_eq_false, not_false_eq_true, or_true, true_or, or_false, false_or, and_true, true_and, false_and, and_false, if_true, if_false, ite_true, ite_false, reduceIte, kl_0, kl_1, kl_2, kl_3, kl_6, kl_20, kl_50, kl_500, kl_999, kl_2400, kl_2g, in_t, in_tt, in_f, in_ff, in_n, if_pos, if_neg, eq_self, nI_n1, n1_nI, nI_an1, lesser_n1, lesser_rn, lesser_n, kx_n1, rWg p hp, bear_t hV hR hL hr d, inchesR hV hR hL hr, rPc p hp, hm] at hc_; subst hc_; with_reducible refine Wp_bis ?_) | (with_reducible refine Wp_bvI ?_; intro c_ hc_; simp (disch := omega) only [L_0, L_1, L_2, L_3, L_4, L_5, L_6, L_7, L_8, L_9, L_10, L_11, L_12, L_16, L_18, L_20, L_24, L_25, L_30, L_32, L_38, L_40, L_48, L_50, L_60, L_63, L_64, L_72, L_99, L_100, L_160, L_500, L_999, L_1380, L_1400, L_2400, L_2401, L_60025, L_100000, L_1000000, L_100000000, L_2000000000, nI_add, pk_mul, nI_clamp, nI_leI, nI_ltI, nI_eq, kin_I, pk_sub, nI_m1, m1_nI, nI_am1, kx_max, kx_min, kt_tx, kt_rp, kg_si, kg_sl, kq_si, kq_sl, kv_si, kv_sl, Nat.reduceAdd, Nat.reduceMul, Nat.reduceSub, Nat.reduceEqDiff, Nat.reduceLT, Nat.reduceLeDiff, ne_eq, not_true_eq_false, not_false_eq_true, or_true, true_or, or_false, false_or, and_true, true_and, false_and, and_false, if_true, if_false, ite_true, ite_false, reduceIte, kl_0, kl_1, kl_2, kl_3, kl_6, kl_20, kl_50, kl_500, kl_999, kl_2400, kl_2g, in_t, in_tt, in_f, in_ff, in_n, if_pos, if_neg, eq_self, nI_n1, n1_nI, nI_an1, lesser_n1, lesser_rn, lesser_n, kx_n1, rWg p hp, bear_t hV hR hL hr d, inchesR hV hR hL hr, rPc p hp, hm] at hc_; subst hc_; with_reducible refine Wp_bvs ?_) | (with_reducible refine Wp_t (by (first | (simp (disch := omega) only [L_0, L_1, L_2, L_3, L_4, L_5, L_6, L_7, L_8, L_9, L_10, L_11, L_12, L_16, L_18, L_20, L_24, L_25, L_30, L_32, L_38, L_40, L_48, L_50, L_60, L_63, L_64, L_72, L_99, L_100, L_160, L_500, L_999, L_1380, L_1400, L_2400, L_2401, L_60025, L_100000, L_1000000, L_100000000, L_2000000000, nI_add, pk_mul, nI_clamp, nI_leI, nI_ltI, nI_eq, kin_I, pk_sub, nI_m1, m1_nI, nI_am1, kx_max, kx_min, kt_tx, kt_rp, kg_si, kg_sl, kq_si, kq_sl, kv_si, kv_sl, Nat.reduceAdd, Nat.reduceMul, Nat.reduceSub, Nat.reduceEqDiff, Nat.reduceLT, Nat.reduceLeDiff, ne_eq, not_true_eq_false, not_false_eq_true, or_true, true_or, or_false, false_or, and_true, true_and, false_and, and_false, if_true, if_false, ite_true, ite_false, reduceIte, kl_0, kl_1, kl_2, kl_3, kl_6, kl_20, kl_50, kl_500, kl_999, kl_2400, kl_2g, in_t, in_tt, in_f, in_ff, in_n, if_pos, if_neg, eq_self, nI_n1, n1_nI, nI_an1, lesser_n1, lesser_rn, lesser_n, kx_n1, rWg p hp, bear_t hV hR hL hr d, inchesR hV hR hL hr, rPc p hp, hm]; done) | (simp (disch := omega) only [L_0, L_1, L_2, L_3, L_4, L_5, L_6, L_7, L_8, L_9, L_10, L_11, L_12, L_16, L_18, L_20, L_24, L_25, L_30, L_32, L_38, L_40, L_48, L_50, L_60, L_63, L_64, L_72, L_99, L_100, L_160, L_500, L_999, L_1380, L_1400, L_2400, L_2401, L_60025, L_100000, L_1000000, L_100000000, L_2000000000, nI_add, pk_mul, nI_clamp, nI_leI, nI_ltI, nI_eq, kin_I, pk_sub, nI_m1, m1_nI, nI_am1, kx_max, kx_min, kt_tx, kt_rp, kg_si, kg_sl, kq_si, kq_sl, kv_si, kv_sl, Nat.reduceAdd, Nat.reduceMul, Nat.reduceSub, Nat.reduceEqDiff, Nat.reduceLT, Nat.reduceLeDiff, ne_eq, not_true_eq_false, not_false_eq_true, or_true, true_or, or_false, false_or, and_true, true_and, false_and, and_false, if_true, if_false, ite_true, ite_false, reduceIte, kl_0, kl_1, kl_2, kl_3, kl_6, kl_20, kl_50, kl_500, kl_999, kl_2400, kl_2g, in_t, in_tt, in_f, in_ff, in_n, if_pos, if_neg, eq_self, nI_n1, n1_nI, nI_an1, lesser_n1, lesser_rn, lesser_n, kx_n1, rWg p hp, bear_t hV hR hL hr d, inchesR hV hR hL hr, rPc p hp, hm]; omega) | decide)) ?_) | (with_reducible refine Wp_f (by (first | (simp (disch := omega) only [L_0, L_1, L_2, L_3, L_4, L_5, L_6, L_7, L_8, L_9, L_10, L_11, L_12, L_16, L_18, L_20, L_24, L_25, L_30, L_32, L_38, L_40, L_48, L_50, L_60, L_63, L_64, L_72, L_99, L_100, L_160, L_500, L_999, L_1380, L_1400, L_2400, L_2401, L_60025, L_100000, L_1000000, L_100000000, L_2000000000, nI_add, pk_mul, nI_clamp, nI_leI, nI_ltI, nI_eq, kin_I, pk_sub, nI_m1, m1_nI, nI_am1, kx_max, kx_min, kt_tx, kt_rp, kg_si, kg_sl, kq_si, kq_sl, kv_si, kv_sl, Nat.reduceAdd, Nat.reduceMul, Nat.reduceSub, Nat.reduceEqDiff, Nat.reduceLT, Nat.reduceLeDiff, ne_eq, not_true_eq_false, not_false_eq_true, or_true, true_or, or_false, false_or, and_true, true_and, false_and, and_false, if_true, if_false, ite_true, ite_false, reduceIte, kl_0, kl_1, kl_2, kl_3, kl_6, kl_20, kl_50, kl_500, kl_999, kl_2400, kl_2g, in_t, in_tt, in_f, in_ff, in_n, if_pos, if_neg, eq_self, nI_n1, n1_nI, nI_an1, lesser_n1, lesser_rn, lesser_n, kx_n1, rWg p hp, bear_t hV hR hL hr d, inchesR hV hR hL hr, rPc p hp, hm]; done) | (simp (disch := omega) only [L_0, L_1, L_2, L_3, L_4, L_5, L_6, L_7, L_8, L_9, L_10, L_11, L_12, L_16, L_18, L_20, L_24, L_25, L_30, L_32, L_38, L_40, L_48, L_50, L_60, L_63, L_64, L_72, L_99, L_100, L_160, L_500, L_999, L_1380, L_1400, L_2400, L_2401, L_60025, L_100000, L_1000000, L_100000000, L_2000000000, nI_add, pk_mul, nI_clamp, nI_leI, nI_ltI, nI_eq, kin_I, pk_sub, nI_m1, m1_nI, nI_am1, kx_max, kx_min, kt_tx, kt_rp, kg_si, kg_sl, kq_si, kq_sl, kv_si, kv_sl, Nat.reduceAdd, Nat.reduceMul, Nat.reduceSub, Nat.reduceEqDiff, Nat.reduceLT, Nat.reduceLeDiff, ne_eq, not_true_eq_false, not_false_eq_true, or_true, true_or, or_false, false_or, and_true, true_and, false_and, and_false, if_true, if_false, ite_true, ite_false, reduceIte, kl_0, kl_1, kl_2, kl_3, kl_6, kl_20, kl_50, kl_500, kl_999, kl_2400, kl_2g, in_t, in_tt, in_f, in_ff, in_n, if_pos, if_neg, eq_self, nI_n1, n1_nI, nI_an1, lesser_n1, lesser_rn, lesser_n, kx_n1, rWg p hp, bear_t hV hR hL hr d, inchesR hV hR hL hr, rPc p hp, hm]; omega) | decide)) ?_))); try simp (disch := omega) only [nI_1, kt_rp, kt_tx]
        refine ln_2 (M0 := M) (t0 := t) (l0 := l) hV hp hS hr hb (fun M1 t1 l1 g1 b1 y1 f1 o1 => ?_) kr_F 0 M t l (by omega) (kr_F_gt _ (by omega)) hR hB hT (Fx.refl M) (Or.inl ⟨rfl, rfl, fun q hq => by omega⟩)
        refine ih (r + 1) M1 t1 l1 (by omega) (by omega) g1 (tmL hL f1) b1 y1 (hF.trans f1) ?_
        rcases o1 with ⟨x1, x2, x3⟩ | ⟨x1, x2⟩
        · subst x2
          rcases ho with ⟨z1, z2, z3⟩ | ⟨z1, z2⟩
          · refine Or.inl ⟨by rw [x1, z1], z2, fun r' hr' hb' => ?_⟩
            by_cases e : r' = r
            · subst e; exact x3
            · exact z3 r' (by omega) hb'
          · exact Or.inr ⟨by rw [x1, z1], z2⟩
        · rcases ho with ⟨z1, z2, z3⟩ | ⟨z1, z2⟩
          · subst z2
            exact Or.inr ⟨x1, x2⟩
          · exact Or.inr ⟨x1, by omega⟩
theorem ln_is {G : GG} {p s z b : Nat} {t : Nat → Option Nat} (hV : GV G) (hs : s < gPl G) (hB : BF (lnP G p z s) 12 s t) (hE : leK G p z t (gRo G)) (hb : b < gPl G) : isD (t (6 + b)) (lnL G p z s b) := by
  have hV' := hV
  obtain ⟨vLi, v0, vPl, vWe, vOd, vKi, vWo, vRo, vPe, vWt, vAc, vIn, vWa, vL, vMn, vW, vA, vB, vAB, vLd, vCr, vN, vK, vWg, vPc, vSt, vD⟩ := hV'
  have up : ∀ r, wkB G p (-1) r = true → ∀ a c, wkE G r a c → ∀ x, t (6 + c) = some x → ∃ u, t (6 + a) = some u ∧ u ≤ x + wkC G p r := fun r hr a c hac x hx => by
    obtain ⟨j, j1, j2, j3⟩ := wkE_j (wkE_s hac)
    have := hE r (wkB_t.mp hr).1 hr (2 + j) (by omega) 1 (Or.inr rfl) ⟨fun _ => Or.inl (by omega), fun _ => rfl⟩ x
    rw [show (2 + j) % 2 = j by omega, show (2 + j) / 2 = 1 by omega, j2, j3, show c + 6 * 1 = 6 + c by omega, show a + 6 * 1 = 6 + a by omega] at this
    exact this hx
  have mm : ∀ d k x, wk G p (-1) d k s x → ∃ u, (t k = some u ∨ t (6 + k) = some u) ∧ u ≤ x := by
    intro d
    induction d with
    | zero =>
      intro k x hd
      obtain ⟨rfl, rfl⟩ := hd
      exact ⟨0, Or.inl hB.2.1, Nat.le_refl _⟩
    | succ d ih =>
      intro k x hd
      obtain ⟨r, c, r1, r2, r3, r4⟩ := hd
      obtain ⟨u, u1, u2⟩ := ih c _ r4
      rcases u1 with u1 | u1
      · obtain ⟨j, j1, j2, j3⟩ := wkE_j (wkE_s r2)
        by_cases q : lnB G z (2 * r + j)
        · have := hE r (wkB_t.mp r1).1 r1 j (by omega) 1 (Or.inr rfl) ⟨fun _ => Or.inr (by rw [show j % 2 = j by omega]; exact q), fun _ => rfl⟩ u
          rw [show j % 2 = j by omega, show j / 2 = 0 by omega, j2, j3] at this
          obtain ⟨w, w1, w2⟩ := this (by rw [show c + 6 * 0 = c by omega]; exact u1)
          exact ⟨w, Or.inr (by rw [show 6 + k = k + 6 * 1 by omega]; exact w1), by omega⟩
        · have := hE r (wkB_t.mp r1).1 r1 j (by omega) 0 (Or.inl rfl) ⟨fun w => by omega, fun w => by
            rcases w with w | w
            · omega
            · rw [show j % 2 = j by omega] at w; exact absurd w q⟩ u
          rw [show j % 2 = j by omega, show j / 2 = 0 by omega, j2, j3] at this
          obtain ⟨w, w1, w2⟩ := this (by rw [show c + 6 * 0 = c by omega]; exact u1)
          exact ⟨w, Or.inl (by rw [show k = k + 6 * 0 by omega]; exact w1), by omega⟩
      · obtain ⟨w, w1, w2⟩ := up r r1 k c r2 u u1
        exact ⟨w, Or.inr w1, by omega⟩
  have far : ∀ f u, t (6 + f) = some u → ∀ d k y, wk G p (-1) d k f y → ∃ w, t (6 + k) = some w ∧ w ≤ u + y := by
    intro f u hu d
    induction d with
    | zero =>
      intro k y hd
      obtain ⟨rfl, rfl⟩ := hd
      exact ⟨u, hu, by omega⟩
    | succ d ih =>
      intro k y hd
      obtain ⟨r, c, r1, r2, r3, r4⟩ := hd
      obtain ⟨w, w1, w2⟩ := ih c _ r4
      obtain ⟨w', w1', w2'⟩ := up r r1 k c r2 w w1
      exact ⟨w', w1', by omega⟩
  refine ⟨fun v hv => ?_, fun v ⟨r, j, j1, h1, h2, x, y, h3, h4, h5⟩ => ?_⟩
  · have := (hB.1 (6 + b) v hv).2 (by omega)
    rw [show 6 + b - 6 = b by omega] at this
    exact this
  · obtain ⟨d, hd⟩ := sd_sym h3
    obtain ⟨u, u1, u2⟩ := mm d _ x hd
    have near : ∃ w, t (6 + eN G r (1 - j)) = some w ∧ w ≤ u + wkC G p r := by
      rcases u1 with u1 | u1
      · have := hE r (wkB_t.mp h1).1 h1 j (by omega) 1 (Or.inr rfl) ⟨fun _ => Or.inr (by rw [show j % 2 = j by omega]; exact h2), fun _ => rfl⟩ u
        rw [show j % 2 = j by omega, show j / 2 = 0 by omega] at this
        obtain ⟨w, w1, w2⟩ := this (by rw [show eN G r j + 6 * 0 = eN G r j by omega]; exact u1)
        exact ⟨w, by rw [show 6 + eN G r (1 - j) = eN G r (1 - j) + 6 * 1 by omega]; exact w1, w2⟩
      · exact up r h1 _ _ (wkE_s (eN_e j1)) u u1
    obtain ⟨w, w1, w2⟩ := near
    obtain ⟨d', hd'⟩ := sd_sym h4
    obtain ⟨w', w1', w2'⟩ := far _ w w1 d' b y hd'
    exact ⟨w', w1', by omega⟩
theorem ln_all {M0 : kr_M} {s p z b : Nat} {x : Int32} {G : GG} (hV : GV G) (hp : p < gPe G) (hs : s < gPl G) (hb : b < gPl G) (hS : lnS x G z (2 * gRo G)) : ∀ n' M t l, 1 ≤ n' → (l = 0 ∧ leK G p z t (gRo G)) ∨ (l = 1 ∧ bfS t 12 + 2 ≤ n') → RG M G → LG M G → BF (lnP G p z s) 12 s t → tR M 12 t → Fx tmX M0 M → Wp (f_X12_learns_143 (nI p) (nI b) x n' l M) (fun y => (∃ o, y.1 = kw_e o ∧ isD o (lnL G p z s b)) ∧ Fx tmX M0 y.2) := by
  have hV' := hV
  obtain ⟨vLi, v0, vPl, vWe, vOd, vKi, vWo, vRo, vPe, vWt, vAc, vIn, vWa, vL, vMn, vW, vA, vB, vAB, vLd, vCr, vN, vK, vWg, vPc, vSt, vD⟩ := hV'
  intro n'
  induction n' with
  | zero => intro M t l h1; omega
  | succ n' ih =>
    intro M t l h1 ho hR hL hB hT hF
    rw [f_X12_learns_143]
    rcases ho with ⟨rfl, q⟩ | ⟨rfl, q⟩
    · refine Wp_t rfl ?_
      have hI := ln_is hV hs hB q hb
      have e := hT (6 + b) (by omega)
      unfold f_X12_learns_364
      cases et : t (6 + b) with
      | none =>
        rw [et] at e hI
        have e : M.1 381 (6 + b) = nI 100000000 := e
        (repeat (first | with_reducible refine Wp_some ?_ | (with_reducible refine Wp_letI ?_; intro v_ hv_; (try simp (disch := omega) only [L_0, L_1, L_2, L_3, L_4, L_5, L_6, L_7, L_8, L_9, L_10, L_11, L_12, L_16, L_18, L_20, L_24, L_25, L_30, L_32, L_38, L_40, L_48, L_50, L_60, L_63, L_64, L_72, L_99, L_100, L_160, L_500, L_999, L_1380, L_1400, L_2400, L_2401, L_60025, L_100000, L_1000000, L_100000000, L_2000000000, nI_add, pk_mul, nI_clamp, nI_leI, nI_ltI, nI_eq, kin_I, pk_sub, nI_m1, m1_nI, nI_am1, kx_max, kx_min, kt_tx, kt_rp, kg_si, kg_sl, kq_si, kq_sl, kv_si, kv_sl, Nat.reduceAdd, Nat.reduceMul, Nat.reduceSub, Nat.reduceEqDiff, Nat.reduceLT, Nat.reduceLeDiff, ne_eq, not_true_eq_false, not_false_eq_true, or_true, true_or, or_false, false_or, and_true, true_and, false_and, and_false, if_true, if_false, ite_true, ite_false, reduceIte, kl_0, kl_1, kl_2, kl_3, kl_6, kl_20, kl_50, kl_500, kl_999, kl_2400, kl_2g, in_t, in_tt, in_f, in_ff, in_n, if_pos, if_neg, eq_self, nI_n1, n1_nI, nI_an1, lesser_n1, lesser_rn, lesser_n, kx_n1, e] at hv_); subst hv_) | (with_reducible refine Wp_biI ?_; intro c_ hc_; simp (disch := omega) only [L_0, L_1, L_2, L_3, L_4, L_5, L_6, L_7, L_8, L_9, L_10, L_11, L_12, L_16, L_18, L_20, L_24, L_25, L_30, L_32, L_38, L_40, L_48, L_50, L_60, L_63, L_64, L_72, L_99, L_100, L_160, L_500, L_999, L_1380, L_1400, L_2400, L_2401, L_60025, L_100000, L_1000000, L_100000000, L_2000000000, nI_add, pk_mul, nI_clamp, nI_leI, nI_ltI, nI_eq, kin_I, pk_sub, nI_m1, m1_nI, nI_am1, kx_max, kx_min, kt_tx, kt_rp, kg_si, kg_sl, kq_si, kq_sl, kv_si, kv_sl, Nat.reduceAdd, Nat.reduceMul, Nat.reduceSub, Nat.reduceEqDiff, Nat.reduceLT, Nat.reduceLeDiff, ne_eq, not_true_eq_false, not_false_eq_true, or_true, true_or, or_false, false_or, and_true, true_and, false_and, and_false, if_true, if_false, ite_true, ite_false, reduceIte, kl_0, kl_1, kl_2, kl_3, kl_6, kl_20, kl_50, kl_500, kl_999, kl_2400, kl_2g, in_t, in_tt, in_f, in_ff, in_n, if_pos, if_neg, eq_self, nI_n1, n1_nI, nI_an1, lesser_n1, lesser_rn, lesser_n, kx_n1, e] at hc_; subst hc_; with_reducible refine Wp_bis ?_) | (with_reducible refine Wp_bvI ?_; intro c_ hc_; simp (disch := omega) only [L_0, L_1, L_2, L_3, L_4, L_5, L_6, L_7, L_8, L_9, L_10, L_11, L_12, L_16, L_18, L_20, L_24, L_25, L_30, L_32, L_38, L_40, L_48, L_50, L_60, L_63, L_64, L_72, L_99, L_100, L_160, L_500, L_999, L_1380, L_1400, L_2400, L_2401, L_60025, L_100000, L_1000000, L_100000000, L_2000000000, nI_add, pk_mul, nI_clamp, nI_leI, nI_ltI, nI_eq, kin_I, pk_sub, nI_m1, m1_nI, nI_am1, kx_max, kx_min, kt_tx, kt_rp, kg_si, kg_sl, kq_si, kq_sl, kv_si, kv_sl, Nat.reduceAdd, Nat.reduceMul, Nat.reduceSub, Nat.reduceEqDiff, Nat.reduceLT, Nat.reduceLeDiff, ne_eq, not_true_eq_false, not_false_eq_true, or_true, true_or, or_false, false_or, and_true, true_and, false_and, and_false, if_true, if_false, ite_true, ite_false, reduceIte, kl_0, kl_1, kl_2, kl_3, kl_6, kl_20, kl_50, kl_500, kl_999, kl_2400, kl_2g, in_t, in_tt, in_f, in_ff, in_n, if_pos, if_neg, eq_self, nI_n1, n1_nI, nI_an1, lesser_n1, lesser_rn, lesser_n, kx_n1, e] at hc_; subst hc_; with_reducible refine Wp_bvs ?_) | (with_reducible refine Wp_t (by (first | (simp (disch := omega) only [L_0, L_1, L_2, L_3, L_4, L_5, L_6, L_7, L_8, L_9, L_10, L_11, L_12, L_16, L_18, L_20, L_24, L_25, L_30, L_32, L_38, L_40, L_48, L_50, L_60, L_63, L_64, L_72, L_99, L_100, L_160, L_500, L_999, L_1380, L_1400, L_2400, L_2401, L_60025, L_100000, L_1000000, L_100000000, L_2000000000, nI_add, pk_mul, nI_clamp, nI_leI, nI_ltI, nI_eq, kin_I, pk_sub, nI_m1, m1_nI, nI_am1, kx_max, kx_min, kt_tx, kt_rp, kg_si, kg_sl, kq_si, kq_sl, kv_si, kv_sl, Nat.reduceAdd, Nat.reduceMul, Nat.reduceSub, Nat.reduceEqDiff, Nat.reduceLT, Nat.reduceLeDiff, ne_eq, not_true_eq_false, not_false_eq_true, or_true, true_or, or_false, false_or, and_true, true_and, false_and, and_false, if_true, if_false, ite_true, ite_false, reduceIte, kl_0, kl_1, kl_2, kl_3, kl_6, kl_20, kl_50, kl_500, kl_999, kl_2400, kl_2g, in_t, in_tt, in_f, in_ff, in_n, if_pos, if_neg, eq_self, nI_n1, n1_nI, nI_an1, lesser_n1, lesser_rn, lesser_n, kx_n1, e]; done) | (simp (disch := omega) only [L_0, L_1, L_2, L_3, L_4, L_5, L_6, L_7, L_8, L_9, L_10, L_11, L_12, L_16, L_18, L_20, L_24, L_25, L_30, L_32, L_38, L_40, L_48, L_50, L_60, L_63, L_64, L_72, L_99, L_100, L_160, L_500, L_999, L_1380, L_1400, L_2400, L_2401, L_60025, L_100000, L_1000000, L_100000000, L_2000000000, nI_add, pk_mul, nI_clamp, nI_leI, nI_ltI, nI_eq, kin_I, pk_sub, nI_m1, m1_nI, nI_am1, kx_max, kx_min, kt_tx, kt_rp, kg_si, kg_sl, kq_si, kq_sl, kv_si, kv_sl, Nat.reduceAdd, Nat.reduceMul, Nat.reduceSub, Nat.reduceEqDiff, Nat.reduceLT, Nat.reduceLeDiff, ne_eq, not_true_eq_false, not_false_eq_true, or_true, true_or, or_false, false_or, and_true, true_and, false_and, and_false, if_true, if_false, ite_true, ite_false, reduceIte, kl_0, kl_1, kl_2, kl_3, kl_6, kl_20, kl_50, kl_500, kl_999, kl_2400, kl_2g, in_t, in_tt, in_f, in_ff, in_n, if_pos, if_neg, eq_self, nI_n1, n1_nI, nI_an1, lesser_n1, lesser_rn, lesser_n, kx_n1, e]; omega) | decide)) ?_) | (with_reducible refine Wp_f (by (first | (simp (disch := omega) only [L_0, L_1, L_2, L_3, L_4, L_5, L_6, L_7, L_8, L_9, L_10, L_11, L_12, L_16, L_18, L_20, L_24, L_25, L_30, L_32, L_38, L_40, L_48, L_50, L_60, L_63, L_64, L_72, L_99, L_100, L_160, L_500, L_999, L_1380, L_1400, L_2400, L_2401, L_60025, L_100000, L_1000000, L_100000000, L_2000000000, nI_add, pk_mul, nI_clamp, nI_leI, nI_ltI, nI_eq, kin_I, pk_sub, nI_m1, m1_nI, nI_am1, kx_max, kx_min, kt_tx, kt_rp, kg_si, kg_sl, kq_si, kq_sl, kv_si, kv_sl, Nat.reduceAdd, Nat.reduceMul, Nat.reduceSub, Nat.reduceEqDiff, Nat.reduceLT, Nat.reduceLeDiff, ne_eq, not_true_eq_false, not_false_eq_true, or_true, true_or, or_false, false_or, and_true, true_and, false_and, and_false, if_true, if_false, ite_true, ite_false, reduceIte, kl_0, kl_1, kl_2, kl_3, kl_6, kl_20, kl_50, kl_500, kl_999, kl_2400, kl_2g, in_t, in_tt, in_f, in_ff, in_n, if_pos, if_neg, eq_self, nI_n1, n1_nI, nI_an1, lesser_n1, lesser_rn, lesser_n, kx_n1, e]; done) | (simp (disch := omega) only [L_0, L_1, L_2, L_3, L_4, L_5, L_6, L_7, L_8, L_9, L_10, L_11, L_12, L_16, L_18, L_20, L_24, L_25, L_30, L_32, L_38, L_40, L_48, L_50, L_60, L_63, L_64, L_72, L_99, L_100, L_160, L_500, L_999, L_1380, L_1400, L_2400, L_2401, L_60025, L_100000, L_1000000, L_100000000, L_2000000000, nI_add, pk_mul, nI_clamp, nI_leI, nI_ltI, nI_eq, kin_I, pk_sub, nI_m1, m1_nI, nI_am1, kx_max, kx_min, kt_tx, kt_rp, kg_si, kg_sl, kq_si, kq_sl, kv_si, kv_sl, Nat.reduceAdd, Nat.reduceMul, Nat.reduceSub, Nat.reduceEqDiff, Nat.reduceLT, Nat.reduceLeDiff, ne_eq, not_true_eq_false, not_false_eq_true, or_true, true_or, or_false, false_or, and_true, true_and, false_and, and_false, if_true, if_false, ite_true, ite_false, reduceIte, kl_0, kl_1, kl_2, kl_3, kl_6, kl_20, kl_50, kl_500, kl_999, kl_2400, kl_2g, in_t, in_tt, in_f, in_ff, in_n, if_pos, if_neg, eq_self, nI_n1, n1_nI, nI_an1, lesser_n1, lesser_rn, lesser_n, kx_n1, e]; omega) | decide)) ?_))); try simp (disch := omega) only [nI_1, kt_rp, kt_tx]
        exact ⟨⟨none, rfl, hI⟩, hF⟩
      | some v =>
        have hv := bf_b hB (by omega) _ v et
        rw [et] at e hI
        have e : M.1 381 (6 + b) = nI v := e
        (repeat (first | with_reducible refine Wp_some ?_ | (with_reducible refine Wp_letI ?_; intro v_ hv_; (try simp (disch := omega) only [L_0, L_1, L_2, L_3, L_4, L_5, L_6, L_7, L_8, L_9, L_10, L_11, L_12, L_16, L_18, L_20, L_24, L_25, L_30, L_32, L_38, L_40, L_48, L_50, L_60, L_63, L_64, L_72, L_99, L_100, L_160, L_500, L_999, L_1380, L_1400, L_2400, L_2401, L_60025, L_100000, L_1000000, L_100000000, L_2000000000, nI_add, pk_mul, nI_clamp, nI_leI, nI_ltI, nI_eq, kin_I, pk_sub, nI_m1, m1_nI, nI_am1, kx_max, kx_min, kt_tx, kt_rp, kg_si, kg_sl, kq_si, kq_sl, kv_si, kv_sl, Nat.reduceAdd, Nat.reduceMul, Nat.reduceSub, Nat.reduceEqDiff, Nat.reduceLT, Nat.reduceLeDiff, ne_eq, not_true_eq_false, not_false_eq_true, or_true, true_or, or_false, false_or, and_true, true_and, false_and, and_false, if_true, if_false, ite_true, ite_false, reduceIte, kl_0, kl_1, kl_2, kl_3, kl_6, kl_20, kl_50, kl_500, kl_999, kl_2400, kl_2g, in_t, in_tt, in_f, in_ff, in_n, if_pos, if_neg, eq_self, nI_n1, n1_nI, nI_an1, lesser_n1, lesser_rn, lesser_n, kx_n1, e] at hv_); subst hv_) | (with_reducible refine Wp_biI ?_; intro c_ hc_; simp (disch := omega) only [L_0, L_1, L_2, L_3, L_4, L_5, L_6, L_7, L_8, L_9, L_10, L_11, L_12, L_16, L_18, L_20, L_24, L_25, L_30, L_32, L_38, L_40, L_48, L_50, L_60, L_63, L_64, L_72, L_99, L_100, L_160, L_500, L_999, L_1380, L_1400, L_2400, L_2401, L_60025, L_100000, L_1000000, L_100000000, L_2000000000, nI_add, pk_mul, nI_clamp, nI_leI, nI_ltI, nI_eq, kin_I, pk_sub, nI_m1, m1_nI, nI_am1, kx_max, kx_min, kt_tx, kt_rp, kg_si, kg_sl, kq_si, kq_sl, kv_si, kv_sl, Nat.reduceAdd, Nat.reduceMul, Nat.reduceSub, Nat.reduceEqDiff, Nat.reduceLT, Nat.reduceLeDiff, ne_eq, not_true_eq_false, not_false_eq_true, or_true, true_or, or_false, false_or, and_true, true_and, false_and, and_false, if_true, if_false, ite_true, ite_false, reduceIte, kl_0, kl_1, kl_2, kl_3, kl_6, kl_20, kl_50, kl_500, kl_999, kl_2400, kl_2g, in_t, in_tt, in_f, in_ff, in_n, if_pos, if_neg, eq_self, nI_n1, n1_nI, nI_an1, lesser_n1, lesser_rn, lesser_n, kx_n1, e] at hc_; subst hc_; with_reducible refine Wp_bis ?_) | (with_reducible refine Wp_bvI ?_; intro c_ hc_; simp (disch := omega) only [L_0, L_1, L_2, L_3, L_4, L_5, L_6, L_7, L_8, L_9, L_10, L_11, L_12, L_16, L_18, L_20, L_24, L_25, L_30, L_32, L_38, L_40, L_48, L_50, L_60, L_63, L_64, L_72, L_99, L_100, L_160, L_500, L_999, L_1380, L_1400, L_2400, L_2401, L_60025, L_100000, L_1000000, L_100000000, L_2000000000, nI_add, pk_mul, nI_clamp, nI_leI, nI_ltI, nI_eq, kin_I, pk_sub, nI_m1, m1_nI, nI_am1, kx_max, kx_min, kt_tx, kt_rp, kg_si, kg_sl, kq_si, kq_sl, kv_si, kv_sl, Nat.reduceAdd, Nat.reduceMul, Nat.reduceSub, Nat.reduceEqDiff, Nat.reduceLT, Nat.reduceLeDiff, ne_eq, not_true_eq_false, not_false_eq_true, or_true, true_or, or_false, false_or, and_true, true_and, false_and, and_false, if_true, if_false, ite_true, ite_false, reduceIte, kl_0, kl_1, kl_2, kl_3, kl_6, kl_20, kl_50, kl_500, kl_999, kl_2400, kl_2g, in_t, in_tt, in_f, in_ff, in_n, if_pos, if_neg, eq_self, nI_n1, n1_nI, nI_an1, lesser_n1, lesser_rn, lesser_n, kx_n1, e] at hc_; subst hc_; with_reducible refine Wp_bvs ?_) | (with_reducible refine Wp_t (by (first | (simp (disch := omega) only [L_0, L_1, L_2, L_3, L_4, L_5, L_6, L_7, L_8, L_9, L_10, L_11, L_12, L_16, L_18, L_20, L_24, L_25, L_30, L_32, L_38, L_40, L_48, L_50, L_60, L_63, L_64, L_72, L_99, L_100, L_160, L_500, L_999, L_1380, L_1400, L_2400, L_2401, L_60025, L_100000, L_1000000, L_100000000, L_2000000000, nI_add, pk_mul, nI_clamp, nI_leI, nI_ltI, nI_eq, kin_I, pk_sub, nI_m1, m1_nI, nI_am1, kx_max, kx_min, kt_tx, kt_rp, kg_si, kg_sl, kq_si, kq_sl, kv_si, kv_sl, Nat.reduceAdd, Nat.reduceMul, Nat.reduceSub, Nat.reduceEqDiff, Nat.reduceLT, Nat.reduceLeDiff, ne_eq, not_true_eq_false, not_false_eq_true, or_true, true_or, or_false, false_or, and_true, true_and, false_and, and_false, if_true, if_false, ite_true, ite_false, reduceIte, kl_0, kl_1, kl_2, kl_3, kl_6, kl_20, kl_50, kl_500, kl_999, kl_2400, kl_2g, in_t, in_tt, in_f, in_ff, in_n, if_pos, if_neg, eq_self, nI_n1, n1_nI, nI_an1, lesser_n1, lesser_rn, lesser_n, kx_n1, e]; done) | (simp (disch := omega) only [L_0, L_1, L_2, L_3, L_4, L_5, L_6, L_7, L_8, L_9, L_10, L_11, L_12, L_16, L_18, L_20, L_24, L_25, L_30, L_32, L_38, L_40, L_48, L_50, L_60, L_63, L_64, L_72, L_99, L_100, L_160, L_500, L_999, L_1380, L_1400, L_2400, L_2401, L_60025, L_100000, L_1000000, L_100000000, L_2000000000, nI_add, pk_mul, nI_clamp, nI_leI, nI_ltI, nI_eq, kin_I, pk_sub, nI_m1, m1_nI, nI_am1, kx_max, kx_min, kt_tx, kt_rp, kg_si, kg_sl, kq_si, kq_sl, kv_si, kv_sl, Nat.reduceAdd, Nat.reduceMul, Nat.reduceSub, Nat.reduceEqDiff, Nat.reduceLT, Nat.reduceLeDiff, ne_eq, not_true_eq_false, not_false_eq_true, or_true, true_or, or_false, false_or, and_true, true_and, false_and, and_false, if_true, if_false, ite_true, ite_false, reduceIte, kl_0, kl_1, kl_2, kl_3, kl_6, kl_20, kl_50, kl_500, kl_999, kl_2400, kl_2g, in_t, in_tt, in_f, in_ff, in_n, if_pos, if_neg, eq_self, nI_n1, n1_nI, nI_an1, lesser_n1, lesser_rn, lesser_n, kx_n1, e]; omega) | decide)) ?_) | (with_reducible refine Wp_f (by (first | (simp (disch := omega) only [L_0, L_1, L_2, L_3, L_4, L_5, L_6, L_7, L_8, L_9, L_10, L_11, L_12, L_16, L_18, L_20, L_24, L_25, L_30, L_32, L_38, L_40, L_48, L_50, L_60, L_63, L_64, L_72, L_99, L_100, L_160, L_500, L_999, L_1380, L_1400, L_2400, L_2401, L_60025, L_100000, L_1000000, L_100000000, L_2000000000, nI_add, pk_mul, nI_clamp, nI_leI, nI_ltI, nI_eq, kin_I, pk_sub, nI_m1, m1_nI, nI_am1, kx_max, kx_min, kt_tx, kt_rp, kg_si, kg_sl, kq_si, kq_sl, kv_si, kv_sl, Nat.reduceAdd, Nat.reduceMul, Nat.reduceSub, Nat.reduceEqDiff, Nat.reduceLT, Nat.reduceLeDiff, ne_eq, not_true_eq_false, not_false_eq_true, or_true, true_or, or_false, false_or, and_true, true_and, false_and, and_false, if_true, if_false, ite_true, ite_false, reduceIte, kl_0, kl_1, kl_2, kl_3, kl_6, kl_20, kl_50, kl_500, kl_999, kl_2400, kl_2g, in_t, in_tt, in_f, in_ff, in_n, if_pos, if_neg, eq_self, nI_n1, n1_nI, nI_an1, lesser_n1, lesser_rn, lesser_n, kx_n1, e]; done) | (simp (disch := omega) only [L_0, L_1, L_2, L_3, L_4, L_5, L_6, L_7, L_8, L_9, L_10, L_11, L_12, L_16, L_18, L_20, L_24, L_25, L_30, L_32, L_38, L_40, L_48, L_50, L_60, L_63, L_64, L_72, L_99, L_100, L_160, L_500, L_999, L_1380, L_1400, L_2400, L_2401, L_60025, L_100000, L_1000000, L_100000000, L_2000000000, nI_add, pk_mul, nI_clamp, nI_leI, nI_ltI, nI_eq, kin_I, pk_sub, nI_m1, m1_nI, nI_am1, kx_max, kx_min, kt_tx, kt_rp, kg_si, kg_sl, kq_si, kq_sl, kv_si, kv_sl, Nat.reduceAdd, Nat.reduceMul, Nat.reduceSub, Nat.reduceEqDiff, Nat.reduceLT, Nat.reduceLeDiff, ne_eq, not_true_eq_false, not_false_eq_true, or_true, true_or, or_false, false_or, and_true, true_and, false_and, and_false, if_true, if_false, ite_true, ite_false, reduceIte, kl_0, kl_1, kl_2, kl_3, kl_6, kl_20, kl_50, kl_500, kl_999, kl_2400, kl_2g, in_t, in_tt, in_f, in_ff, in_n, if_pos, if_neg, eq_self, nI_n1, n1_nI, nI_an1, lesser_n1, lesser_rn, lesser_n, kx_n1, e]; omega) | decide)) ?_))); try simp (disch := omega) only [nI_1, kt_rp, kt_tx]
        exact ⟨⟨some v, rfl, hI⟩, hF⟩
    · refine Wp_f (by decide) ?_
      refine ln_ro (M0 := M0) (t0 := t) hV hp hS (fun M1 t1 l1 r1 g1 b1 y1 f1 o1 => ?_) kr_F 0 M t 0 (by omega) (kr_F_gt _ (by omega)) hR hL hB hT hF (Or.inl ⟨rfl, rfl, fun r hr => by omega⟩)
      refine ih M1 t1 l1 (by omega) ?_ r1 g1 b1 y1 f1
      rcases o1 with ⟨z1, z2⟩ | ⟨z1, z2⟩
      · exact Or.inl ⟨z1, z2⟩
      · exact Or.inr ⟨z1, by omega⟩
theorem ln_ini {M0 : kr_M} {s p z b : Nat} {x : Int32} {G : GG} (hV : GV G) (hp : p < gPe G) (hs : s < gPl G) (hb : b < gPl G) (hS : lnS x G z (2 * gRo G)) : ∀ n' k M, k ≤ 12 → 12 - k < n' → RG M G → LG M G → tR M k (bf0 s) → Fx tmX M0 M → Wp (f_X12_learns_107 (nI p) (nI s) (nI b) x n' (nI k) M) (fun y => (∃ o, y.1 = kw_e o ∧ isD o (lnL G p z s b)) ∧ Fx tmX M0 y.2) := by
  have hV' := hV
  obtain ⟨vLi, v0, vPl, vWe, vOd, vKi, vWo, vRo, vPe, vWt, vAc, vIn, vWa, vL, vMn, vW, vA, vB, vAB, vLd, vCr, vN, vK, vWg, vPc, vSt, vD⟩ := hV'
  intro n'
  induction n' with
  | zero => intro k M h1 h2; omega
  | succ n' ih =>
    intro k M h1 h2 hR hL hT hF
    rw [f_X12_learns_107]
    by_cases c : k = 12
    · subst c
      refine Wp_t (nI_le (Nat.le_refl 12) (by omega)) ?_
      unfold f_X12_learns_140
      have hB : BF (lnP G p z s) 12 s (bf0 s) := bf_0 (by omega) ⟨fun _ => sd_0 s, fun q => by omega⟩
      exact ln_all (M0 := M0) hV hp hs hb hS kr_F M (bf0 s) 1 (Nat.le_of_lt (kr_F_gt _ (by omega))) (Or.inr ⟨rfl, by have := bf_S hB (by omega); have := kr_F_g2 900000 (by omega); omega⟩) hR hL hB hT hF
    · have go : ∀ y : Int32, y = nI (kw_n (bf0 s k)) → Wp (f_X12_learns_133 (f_X12_learns_107 (nI p) (nI s) (nI b) x n') (nI k) y (nI k) M) (fun y => (∃ o, y.1 = kw_e o ∧ isD o (lnL G p z s b)) ∧ Fx tmX M0 y.2) := fun y hx => by
        unfold f_X12_learns_133
        refine Wp_t ((kin_I (by omega)).mpr (by omega)) ?_
        refine Wp_letI ?_; intro M1 e1
        rw [nI_clamp (by omega)] at e1
        have hf : Fx tmX M M1 := by rw [← e1]; exact (Fx.refl M).si _ rfl
        rw [L_1, nI_add]
        refine ih (k + 1) M1 (by omega) (by omega) (tmG hR hf) (tmL hL hf) (fun k' hk' => ?_) (hF.trans hf)
        rw [← e1, kg_si]
        by_cases e : k' = k
        · subst e
          rw [if_pos ⟨rfl, rfl⟩, hx]
        · rw [if_neg (fun q => e q.2)]
          exact hT k' (by omega)
      refine Wp_f (by rw [L_12]; exact nI_ge (by omega) (by omega)) ?_
      by_cases e : k = s
      · refine Wp_f (fun q => q (by rw [e])) (go 0 ?_)
        rw [show bf0 s k = some 0 from if_pos e]; rfl
      · refine Wp_t (fun q => e ((nI_eq (by omega) (by omega)).mp q)) (go 100000000 ?_)
        rw [show bf0 s k = none from if_neg e]; rfl
theorem op_32 (p1 p2 p3 p4 : Int32) (M : kr_M) (h : Sim M) : ∃ (r : Int32) (M1 M2 : kr_M), f_X11_learns p1 p2 p3 p4 M = some (r, M1) ∧ f_X12_learns p1 p2 p3 p4 M1 = some (r, M2) ∧ Sim M2 := by
  refine op_q (c := f_X11_learns p1 p2 p3 p4) (f := f_X12_learns p1 p2 p3 p4) h (fun g G hK => ?_)
  have hV := hK.V
  have hV' := hV
  have hC := hK.C
  have hC' := hC
  have eg := hK.gr
  have es := hK.sh
  obtain ⟨vLi, v0, vPl, vWe, vOd, vKi, vWo, vRo, vPe, vWt, vAc, vIn, vWa, vL, vMn, vW, vA, vB, vAB, vLd, vCr, vN, vK, vWg, vPc, vSt, vD⟩ := hV'
  obtain ⟨c0, cPl, cWe, cOd, cKi, cWo, cRo, cPe, cWt, cAc, cIn, cWa, cL, cMn, cW, cA, cB, cLd, cCr, cN, cK, cWg, cPc, cSt⟩ := hC'
  rcases wa_c hV p1 p2 p3 with ⟨p, a, b, hp, ha, hb, rfl, rfl, rfl⟩ | ⟨w1, w2⟩
  · rcases arg_c p4 (n := 2401) (by omega) with ⟨z, hz, rfl⟩ | hz
    · have cls : ∀ M, KS M g G → Wp (f_X11_learns (nI p) (nI a) (nI b) (nI z) M) (fun y => (∃ o, y.1 = kw_e o ∧ isD o (lnL G p z a b)) ∧ Fr M y.2) := fun M hK => by
        unfold f_X11_learns
        rw [isSum_t (by omega)]
        refine Wp_bis (Wp_f (by decide) ?_)
        refine Wp_bi _ (ow_t hK hp ha hb) (fun x M1 ⟨q1, ⟨T, t1, t2, t3, t4⟩, q3⟩ => ?_)
        have q1 : x = 1 := q1
        subst q1
        refine Wp_t (by decide) ?_
        have t1 : wT M1 (gPl G) T := t1
        have q3 : Fx wyX M M1 := q3
        have hK1 := hK.fr (q3.fr wy_s)
        exact Wp_mono (ln_C (M0 := M1) (z := z) t3 t2 hp ha hb (by omega) kr_F 0 M1 none (by omega) (kr_F_gt _ (by omega)) ⟨hK1, t1, t4⟩ (fun v hv => absurd hv (by simp)) ⟨fun v hv => absurd hv (by simp), fun v ⟨r, j, q, _⟩ => by omega⟩ (Fr.refl M1)) (fun y ⟨y1, y2⟩ => ⟨y1, (q3.fr wy_s).trans y2⟩)
      obtain ⟨⟨x0, M9⟩, k1, ⟨o, k2, k3⟩, k4⟩ := cls M hK
      refine ⟨kw_e o, Wp_of k1 ⟨k2, k4⟩, fun M hK => ?_⟩
      unfold f_X12_learns; refine Wp_letI ?_; intro M1 hM1; have hK1 : KS M1 g G := (by rw [← hM1]; exact hK.fr (Fr.thrown _ _)); have hF1 : Fr M M1 := (by rw [← hM1]; exact Fr.thrown _ _); clear hM1; have hV := hK1.V; have hR1 := hK1.R; have hR2 := hR1; obtain ⟨r0, rPl, rWe, rOd, rKi, rWo, rRo, rPe, rAc, rInc, rWa, rL, rMn, rW, rA, rB, rLd, rWg, rPc⟩ := hR2
      rw [iw_t hV hR1 hp ha hb]
      refine Wp_bis (Wp_f (by decide) ?_)
      rw [show f_X12_in (nI z).toInt64 (0 : Int64) (2400 : Int64) M1 = _ from in_t (lo := 0) (hi := 2400) (by omega) (by omega) (by omega) M1]
      refine Wp_bis (Wp_t (by decide) ?_)
      refine Wp_bv _ hK1.lays (fun M2 ⟨hL, hFL, hK2⟩ => ?_); have hF2 := hF1.trans hFL.fr; have hR2 := hK2.R; have hL' := hL; have hR2' := hR2; obtain ⟨lN, lK, lCr, lSt, lWt⟩ := hL'; obtain ⟨r0, rPl, rWe, rOd, rKi, rWo, rRo, rPe, rAc, rInc, rWa, rL, rMn, rW, rA, rB, rLd, rWg, rPc⟩ := hR2'
      refine ln_41 (M0 := M1) (z := z) hV (by omega) (fun M3 x s1 s2 s3 s4 => ?_) kr_F 0 M2 0 (by omega) (kr_F_gt _ (by omega)) hR2 hL hFL.fr lnS_0
      unfold f_X12_learns_104
      refine Wp_mono (ln_ini (M0 := M3) hV hp ha hb s4 kr_F 0 M3 (by omega) (kr_F_gt _ (by omega)) s1 s2 (fun k hk => by omega) (Fx.refl M3)) (fun y ⟨⟨o', y1, y2⟩, y3⟩ => ⟨?_, (hF1.trans s3).trans (y3.fr tm_s)⟩)
      rw [y1, isD_u y2 k3]
    · refine ⟨-2, ?_, fun M hK => ?_⟩
      · unfold f_X11_learns
        rw [isSum_f hz]
        exact Wp_bis (Wp_t rfl (Wp_some ⟨rfl, Fr.refl M⟩))
      · unfold f_X12_learns; refine Wp_letI ?_; intro M1 hM1; have hK1 : KS M1 g G := (by rw [← hM1]; exact hK.fr (Fr.thrown _ _)); have hF1 : Fr M M1 := (by rw [← hM1]; exact Fr.thrown _ _); clear hM1; have hV := hK1.V; have hR1 := hK1.R; have hR2 := hR1; obtain ⟨r0, rPl, rWe, rOd, rKi, rWo, rRo, rPe, rAc, rInc, rWa, rL, rMn, rW, rA, rB, rLd, rWg, rPc⟩ := hR2
        rw [iw_t hV hR1 hp ha hb]
        refine Wp_bis (Wp_f (by decide) ?_)
        rw [show f_X12_in p4.toInt64 (0 : Int64) (2400 : Int64) M1 = _ from in_f (lo := 0) (hi := 2400) (by omega) (by omega) (by omega) M1]
        exact Wp_bis (Wp_f (fun q => q rfl) (Wp_some ⟨rfl, hF1⟩))
  · refine ⟨-2, ?_, fun M hK => ?_⟩
    · unfold f_X11_learns
      rcases arg_c p4 (n := 2401) (by omega) with ⟨z, hz, rfl⟩ | hz
      · rw [isSum_t (by omega)]
        refine Wp_bis (Wp_f (by decide) ?_)
        rw [w1 M g hK]
        exact Wp_bis (Wp_f (fun q => q rfl) (Wp_some ⟨rfl, Fr.refl M⟩))
      · rw [isSum_f hz]
        exact Wp_bis (Wp_t rfl (Wp_some ⟨rfl, Fr.refl M⟩))
    · unfold f_X12_learns; refine Wp_letI ?_; intro M1 hM1; have hK1 : KS M1 g G := (by rw [← hM1]; exact hK.fr (Fr.thrown _ _)); have hF1 : Fr M M1 := (by rw [← hM1]; exact Fr.thrown _ _); clear hM1; have hV := hK1.V; have hR1 := hK1.R; have hR2 := hR1; obtain ⟨r0, rPl, rWe, rOd, rKi, rWo, rRo, rPe, rAc, rInc, rWa, rL, rMn, rW, rA, rB, rLd, rWg, rPc⟩ := hR2
      rw [w2 M1 hR1]
      exact Wp_bis (Wp_t rfl (Wp_some ⟨rfl, hF1⟩))
