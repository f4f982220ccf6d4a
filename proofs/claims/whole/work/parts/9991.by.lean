/-! by -/
theorem sF_lt {f h : Nat → Nat} {c : Nat} : ∀ n, c < n → (∀ k, k < n → f k ≤ h k) → f c < h c → sF f n < sF h n
  | 0, q, _, _ => by omega
  | n + 1, q, e, l => by
    show sF f n + f n < sF h n + h n
    have h1 := e n (by omega)
    by_cases z : c = n
    · subst z
      have : ∀ m, m ≤ c → sF f m ≤ sF h m := by
        intro m
        induction m with
        | zero => intro _; exact Nat.le_refl _
        | succ m ih =>
          intro hm
          have := ih (by omega)
          have := e m (by omega)
          show sF f m + f m ≤ sF h m + h m
          omega
      have := this c (Nat.le_refl _)
      omega
    · have := sF_lt n (by omega) (fun k hk => e k (by omega)) l
      omega
def cL (o : Option Nat) (v : Nat) : Nat := match o with
  | none => 0
  | some u => if u < v then 1 else 0
theorem cL_le {o : Option Nat} {v : Nat} : cL o v ≤ 1 := by
  cases o with
  | none => exact Nat.zero_le _
  | some u => show (if u < v then 1 else 0) ≤ 1; split <;> omega
theorem cL_m {o : Option Nat} {v w : Nat} (h : v ≤ w) : cL o v ≤ cL o w := by
  cases o with
  | none => exact Nat.zero_le _
  | some u =>
    show (if u < v then 1 else 0) ≤ (if u < w then 1 else 0)
    split
    · rw [if_pos (by omega)]; exact Nat.le_refl _
    · exact Nat.zero_le _
theorem cL_z (v : Nat) : cL (some v) v = 0 := if_neg (by omega)
theorem cL_1 {u v : Nat} (h : u < v) : cL (some u) v = 1 := if_pos h
def cB (D : Nat → Option Nat) (v n : Nat) : Nat := sF (fun k => cL (D k) v) n
theorem cB_lt {D : Nat → Option Nat} {c u v n : Nat} (hc : c < n) (h : D c = some u) (q : u < v) : cB D u n < cB D v n :=
  sF_lt n hc (fun k _ => cL_m (by omega)) (by show cL (D c) u < cL (D c) v; rw [h, cL_z, cL_1 q]; omega)
theorem cB_5 {D : Nat → Option Nat} {a v n : Nat} (ha : a < n) (h : D a = some v) : cB D v n < n := by
  have h1 := sF_lt (f := fun k => cL (D k) v) (h := fun _ => 1) n ha (fun k _ => cL_le) (by show cL (D a) v < 1; rw [h, cL_z]; omega)
  have h2 := sF_le (f := fun _ => 1) (b := 1) n (fun k _ => Nat.le_refl _)
  have h1 : cB D v n < sF (fun _ => 1) n := h1
  omega
/-- the time over a rope from its end a, by the times D -/
def fO (G : GG) (p : Nat) (D : Nat → Option Nat) (a r : Nat) : Option Nat := if a = gA G r ∨ a = gB G r then tg (if wkB G p (-1) r = true then some (wkC G p r) else none) (D (oEnd G r a)) else none
theorem fO_s {G : GG} {p a r v : Nat} {D : Nat → Option Nat} (h : fO G p D a r = some v) : (a = gA G r ∨ a = gB G r) ∧ wkB G p (-1) r = true ∧ ∃ y, D (oEnd G r a) = some y ∧ v = wkC G p r + y := by
  unfold fO at h
  by_cases c : a = gA G r ∨ a = gB G r
  · rw [if_pos c] at h
    obtain ⟨x, y, h1, h2, h3⟩ := tg_s h
    by_cases d : wkB G p (-1) r = true
    · rw [if_pos d] at h1
      have h1 : wkC G p r = x := by simpa using h1
      exact ⟨c, d, y, h2, by omega⟩
    · rw [if_neg d] at h1
      exact absurd h1 (by simp)
  · rw [if_neg c] at h
    exact absurd h (by simp)
theorem fO_i {G : GG} {p a r y : Nat} {D : Nat → Option Nat} (c : a = gA G r ∨ a = gB G r) (d : wkB G p (-1) r = true) (h : D (oEnd G r a) = some y) : fO G p D a r = some (wkC G p r + y) := by
  unfold fO
  rw [if_pos c, if_pos d, h]
  rfl
theorem oEnd_lt {G : GG} {a r : Nat} (hV : GV G) (hr : r < gRo G) : oEnd G r a < gPl G := by
  obtain ⟨vLi, v0, vPl, vWe, vOd, vKi, vWo, vRo, vPe, vWt, vAc, vIn, vWa, vL, vMn, vW, vA, vB, vAB, vLd, vCr, vN, vK, vWg, vPc, vSt, vD⟩ := hV
  have := vA r hr
  have := vB r hr
  unfold oEnd
  split <;> omega
def byD (G : GG) (p b : Nat) (D : Nat → Option Nat) : Prop := (∀ a, a < gPl G → isD (D a) (sd G p (-1) a b)) ∧ ∀ a v, D a = some v → v ≤ 140000
theorem fO_ex {G : GG} {p a b v : Nat} {D : Nat → Option Nat} (hV : GV G) (hD : byD G p b D) (ha : a < gPl G) (hne : a ≠ b) (h : D a = some v) : ∃ r, r < gRo G ∧ fO G p D a r = some v := by
  have hV' := hV
  obtain ⟨vLi, v0, vPl, vWe, vOd, vKi, vWo, vRo, vPe, vWt, vAc, vIn, vWa, vL, vMn, vW, vA, vB, vAB, vLd, vCr, vN, vK, vWg, vPc, vSt, vD⟩ := hV'
  obtain ⟨d, hd⟩ := (hD.1 a ha).1 v h
  cases d with
  | zero => exact absurd hd.1 hne
  | succ d =>
    obtain ⟨r, c, r1, r2, r3, r4⟩ := hd
    have hr := (wkB_t.mp r1).1
    have hA := vA r hr
    have hB := vB r hr
    have hAB := vAB r hr
    have hc : c < gPl G := by rcases r2 with ⟨_, q⟩ | ⟨_, q⟩ <;> omega
    have eE : oEnd G r a = c := by
      unfold oEnd
      rcases r2 with ⟨q1, q2⟩ | ⟨q1, q2⟩
      · rw [if_pos q1, q2]
      · rw [if_neg (by omega), q2]
    obtain ⟨u, u1, u2⟩ := (hD.1 c hc).2 _ ⟨d, r4⟩
    obtain ⟨w, w1, w2⟩ := (hD.1 a ha).2 _ (sd_cat (sd_e r1 r2) ((hD.1 c hc).1 u u1))
    rw [h] at w1
    have w1 : v = w := by simpa using w1
    have ends : a = gA G r ∨ a = gB G r := by rcases r2 with ⟨q, _⟩ | ⟨q, _⟩ <;> omega
    refine ⟨r, hr, ?_⟩
    rw [fO_i ends r1 (by rw [eE]; exact u1)]
    congr 1
    omega
theorem fr_C {M : kr_M} {g p a b v rz : Nat} {G : GG} {D : Nat → Option Nat} (hK : KS M g G) (hp : p < gPe G) (ha : a < gPl G) (hD : byD G p b D) (hT : ∀ k, k < gPl G → f_X9_timeFrom (nI k) (nI b) M = some (kw_e (D k), M)) (hk : wTk M G p (-1) (gRo G)) (hv : D a = some v) (h0 : rz < gRo G) (h1 : fO G p D a rz = some v) (h2 : ∀ x, x < rz → ¬ fO G p D a x = some v) : ∀ n' r, r ≤ rz → rz - r < n' → f_X9_firstRopeFrom_3 g (nI a) (nI b) n' (nI r) M = some (nI rz, M) := by
  have hV := hK.V
  have hV' := hV
  obtain ⟨vLi, v0, vPl, vWe, vOd, vKi, vWo, vRo, vPe, vWt, vAc, vIn, vWa, vL, vMn, vW, vA, vB, vAB, vLd, vCr, vN, vK, vWg, vPc, vSt, vD⟩ := hV'
  have hC := hK.C
  have hC' := hC
  obtain ⟨c0, cPl, cWe, cOd, cKi, cWo, cRo, cPe, cWt, cAc, cIn, cWa, cL, cMn, cW, cA, cB, cLd, cCr, cN, cK, cWg, cPc, cSt⟩ := hC'
  intro n'
  induction n' with
  | zero => intro r q1 q2; omega
  | succ n' ih =>
    intro r q1 q2
    have hr : r < gRo G := by omega
    have hE := oEnd_lt (a := a) hV hr
    apply Wp_eq
    rw [f_X9_firstRopeFrom_3]
    refine Wp_letI ?_; intro x ex
    rw [cRo] at ex
    subst ex
    refine Wp_f (nI_ge (by omega) (by omega)) ?_
    have skip : r ≠ rz → Wp (f_X9_firstRopeFrom_70 (f_X9_firstRopeFrom_3 g (nI a) (nI b) n') (nI r) M) (fun x => x = (nI rz, M)) := fun hne => by
      unfold f_X9_firstRopeFrom_70
      rw [L_1, nI_add]
      exact Wp_of (ih (r + 1) (by omega) (by omega)) rfl
    refine Wp_t ((kin_I (by omega)).mpr (by omega)) ?_
    rw [kt_rp (by omega)]
    by_cases c : a = gA G r ∨ a = gB G r
    · rw [oEndC hC hV hr (by omega) c]
      refine Wp_bis (Wp_f (fun q => (nI_m1 (by omega)).mp q) ?_)
      refine Wp_t ((kin_I (by omega)).mpr (by omega)) ?_
      refine Wp_letI ?_; intro x ex
      rw [nI_clamp (by omega), hk r hr] at ex
      subst ex
      rw [hT _ hE]
      refine Wp_bis ?_
      have wb := wkC_b hV hr hp
      rw [tg_ok (fun w hw => by
        by_cases d : wkB G p (-1) r = true
        · rw [if_pos d] at hw
          have hw : wkC G p r = w := (by simpa using hw)
          omega
        · rw [if_neg d] at hw
          exact absurd hw (by simp)) (fun w hw => by have := hD.2 _ w hw; omega) M]
      refine Wp_bis ?_
      have ef : fO G p D a r = tg (if wkB G p (-1) r = true then some (wkC G p r) else none) (D (oEnd G r a)) := if_pos c
      rw [← ef]
      cases e : fO G p D a r with
      | none =>
        refine Wp_t rfl (skip (fun q => ?_))
        rw [q, h1] at e
        exact absurd e (by simp)
      | some w =>
        obtain ⟨s1, s2, y, s3, s4⟩ := fO_s e
        have hy := hD.2 _ y s3
        refine Wp_f (fun q => (nI_m1 (by omega)).mp q) ?_
        rw [hT a ha, hv]
        refine Wp_bis ?_
        have hv2 := hD.2 a v hv
        by_cases q : r = rz
        · subst q
          rw [h1] at e
          have e : v = w := by simpa using e
          subst e
          exact Wp_f (fun z => z rfl) (Wp_some rfl)
        · refine Wp_t (fun z => ?_) (skip q)
          have z : nI w = nI v := z
          rw [nI_eq (by omega) (by omega)] at z
          exact h2 r (by omega) (by rw [e, z])
    · rw [oEndN hC hV hr (by omega) c]
      refine Wp_bis (Wp_t rfl (skip (fun q => ?_)))
      rw [q] at c
      exact c (fO_s h1).1
theorem fr_Cn {M : kr_M} {g p a b : Nat} {G : GG} {D : Nat → Option Nat} (hK : KS M g G) (hp : p < gPe G) (ha : a < gPl G) (hD : byD G p b D) (hT : ∀ k, k < gPl G → f_X9_timeFrom (nI k) (nI b) M = some (kw_e (D k), M)) (hk : wTk M G p (-1) (gRo G)) (hv : D a = none) : ∀ n' r, r ≤ gRo G → gRo G - r < n' → f_X9_firstRopeFrom_3 g (nI a) (nI b) n' (nI r) M = some (-1, M) := by
  have hV := hK.V
  have hV' := hV
  obtain ⟨vLi, v0, vPl, vWe, vOd, vKi, vWo, vRo, vPe, vWt, vAc, vIn, vWa, vL, vMn, vW, vA, vB, vAB, vLd, vCr, vN, vK, vWg, vPc, vSt, vD⟩ := hV'
  have hC := hK.C
  have hC' := hC
  obtain ⟨c0, cPl, cWe, cOd, cKi, cWo, cRo, cPe, cWt, cAc, cIn, cWa, cL, cMn, cW, cA, cB, cLd, cCr, cN, cK, cWg, cPc, cSt⟩ := hC'
  intro n'
  induction n' with
  | zero => intro r q1 q2; omega
  | succ n' ih =>
    intro r q1 q2
    apply Wp_eq
    rw [f_X9_firstRopeFrom_3]
    refine Wp_letI ?_; intro x ex
    rw [cRo] at ex
    subst ex
    by_cases cr : r = gRo G
    · rw [cr]
      exact Wp_t (nI_le (Nat.le_refl _) (by omega)) (Wp_some rfl)
    have hr : r < gRo G := by omega
    have hE := oEnd_lt (a := a) hV hr
    refine Wp_f (nI_ge (by omega) (by omega)) ?_
    have skip : Wp (f_X9_firstRopeFrom_70 (f_X9_firstRopeFrom_3 g (nI a) (nI b) n') (nI r) M) (fun x => x = (-1, M)) := by
      unfold f_X9_firstRopeFrom_70
      rw [L_1, nI_add]
      exact Wp_of (ih (r + 1) (by omega) (by omega)) rfl
    refine Wp_t ((kin_I (by omega)).mpr (by omega)) ?_
    rw [kt_rp (by omega)]
    by_cases c : a = gA G r ∨ a = gB G r
    · rw [oEndC hC hV hr (by omega) c]
      refine Wp_bis (Wp_f (fun q => (nI_m1 (by omega)).mp q) ?_)
      refine Wp_t ((kin_I (by omega)).mpr (by omega)) ?_
      refine Wp_letI ?_; intro x ex
      rw [nI_clamp (by omega), hk r hr] at ex
      subst ex
      rw [hT _ hE]
      refine Wp_bis ?_
      have wb := wkC_b hV hr hp
      rw [tg_ok (fun w hw => by
        by_cases d : wkB G p (-1) r = true
        · rw [if_pos d] at hw
          have hw : wkC G p r = w := (by simpa using hw)
          omega
        · rw [if_neg d] at hw
          exact absurd hw (by simp)) (fun w hw => by have := hD.2 _ w hw; omega) M]
      refine Wp_bis ?_
      have ef : fO G p D a r = tg (if wkB G p (-1) r = true then some (wkC G p r) else none) (D (oEnd G r a)) := if_pos c
      rw [← ef]
      cases e : fO G p D a r with
      | none => exact Wp_t rfl skip
      | some w =>
        obtain ⟨s1, s2, y, s3, s4⟩ := fO_s e
        have hy := hD.2 _ y s3
        refine Wp_f (fun q => (nI_m1 (by omega)).mp q) ?_
        rw [hT a ha, hv]
        refine Wp_bis (Wp_t (fun z => ?_) skip)
        exact (nI_m1 (by omega)).mp z
    · rw [oEndN hC hV hr (by omega) c]
      exact Wp_bis (Wp_t rfl skip)
theorem fr_R {M : kr_M} {p a b v rz i : Nat} {G : GG} {D : Nat → Option Nat} {K : Int32 → Int32 → kr_M → Option (Int32 × kr_M)} {p4 : Int32} {Q : Int32 × kr_M → Prop} (hV : GV G) (hR : RG M G) (hL : LG M G) (hp : p < gPe G) (ha : a < gPl G) (hD : byD G p b D) (hT : ∀ k, k < gPl G → M.1 381 k = nI (kw_n (D k))) (hv : D a = some v) (h0 : rz < gRo G) (h1 : fO G p D a rz = some v) (h2 : ∀ x, x < rz → ¬ fO G p D a x = some v)
    (h : Wp (f_X12_by_138 K p4 (nI a) (nI i) (nI rz) M) Q) : ∀ n' r, r ≤ rz → rz - r < n' → Wp (f_X12_by_63 K (nI p) p4 (nI a) (nI i) n' (nI r) M) Q := by
  have hV' := hV
  obtain ⟨vLi, v0, vPl, vWe, vOd, vKi, vWo, vRo, vPe, vWt, vAc, vIn, vWa, vL, vMn, vW, vA, vB, vAB, vLd, vCr, vN, vK, vWg, vPc, vSt, vD⟩ := hV'
  have hR' := hR
  obtain ⟨r0, rPl, rWe, rOd, rKi, rWo, rRo, rPe, rAc, rInc, rWa, rL, rMn, rW, rA, rB, rLd, rWg, rPc⟩ := hR'
  intro n'
  induction n' with
  | zero => intro r q1 q2; omega
  | succ n' ih =>
    intro r q1 q2
    have hr : r < gRo G := by omega
    have hE := oEnd_lt (a := a) hV hr
    have skip : r ≠ rz → Wp (f_X12_by_132 (f_X12_by_63 K (nI p) p4 (nI a) (nI i) n') (nI r) M) Q := fun hne => by
      unfold f_X12_by_132
      rw [L_1, nI_add]
      exact ih (r + 1) (by omega) (by omega)
    rw [f_X12_by_63]
    by_cases c : a = gA G r ∨ a = gB G r
    · rw [isEnd_t hR hV hr (by omega) c]
      refine Wp_bis (Wp_f (by decide) ?_)
      by_cases d : rSt G r < nI (gWg G p)
      · (repeat (first | with_reducible refine Wp_some ?_ | (with_reducible refine Wp_letI ?_; intro v_ hv_; (try simp (disch := omega) only [L_0, L_1, L_2, L_3, L_4, L_5, L_6, L_7, L_8, L_9, L_10, L_11, L_12, L_16, L_18, L_20, L_24, L_25, L_30, L_32, L_38, L_40, L_48, L_50, L_60, L_63, L_64, L_72, L_99, L_100, L_160, L_500, L_999, L_1380, L_1400, L_2400, L_2401, L_60025, L_100000, L_1000000, L_100000000, L_2000000000, nI_add, pk_mul, nI_clamp, nI_leI, nI_ltI, nI_eq, kin_I, pk_sub, nI_m1, m1_nI, nI_am1, kx_max, kx_min, kt_tx, kt_rp, kg_si, kg_sl, kq_si, kq_sl, kv_si, kv_sl, Nat.reduceAdd, Nat.reduceMul, Nat.reduceSub, Nat.reduceEqDiff, Nat.reduceLT, Nat.reduceLeDiff, ne_eq, not_true_eq_false, not_false_eq_true, or_true, true_or, or_false, false_or, and_true, true_and, false_and, and_false, if_true, if_false, ite_true, ite_false, reduceIte, kl_0, kl_1, kl_2, kl_3, kl_6, kl_20, kl_50, kl_500, kl_999, kl_2400, kl_2g, in_t, in_tt, in_f, in_ff, in_n, if_pos, if_neg, eq_self, nI_n1, n1_nI, nI_an1, lesser_n1, lesser_rn, lesser_n, kx_n1, rWg p hp, bear_f hV hR hL hr d] at hv_); subst hv_) | (with_reducible refine Wp_biI ?_; intro c_ hc_; simp (disch := omega) only [L_0, L_1, L_2, L_3, L_4, L_5, L_6, L_7, L_8, L_9, L_10, L_11, L_12, L_16, L_18, L_20, L_24, L_25, L_30, L_32, L_38, L_40, L_48, L_50, L_60, L_63, L_64, L_72, L_99, L_100, L_160, L_500, L_999, L_1380, L_1400, L_2400, L_2401, L_60025, L_100000, L_1000000, L_100000000, L_2000000000, nI_add, pk_mul, nI_clamp, nI_leI, nI_ltI, nI_eq, kin_I, pk_sub, nI_m1, m1_nI, nI_am1, kx_max, kx_min, kt_tx, kt_rp, kg_si, kg_sl, kq_si, kq_sl, kv_si, kv_sl, Nat.reduceAdd, Nat.reduceMul, Nat.reduceSub, Nat.reduceEqDiff, Nat.reduceLT, Nat.reduceLeDiff, ne_eq, not_true_eq_false, not_false_eq_true, or_true, true_or, or_false, false_or, and_true, true_and, false_and, and_false, if_true, if_false, ite_true, ite_false, reduceIte, kl_0, kl_1, kl_2, kl_3, kl_6, kl_20, kl_50, kl_500, kl_999, kl_2400, kl_2g, in_t, in_tt, in_f, in_ff, in_n, if_pos, if_neg, eq_self, nI_n1, n1_nI, nI_an1, lesser_n1, lesser_rn, lesser_n, kx_n1, rWg p hp, bear_f hV hR hL hr d] at hc_; subst hc_; with_reducible refine Wp_bis ?_) | (with_reducible refine Wp_bvI ?_; intro c_ hc_; simp (disch := omega) only [L_0, L_1, L_2, L_3, L_4, L_5, L_6, L_7, L_8, L_9, L_10, L_11, L_12, L_16, L_18, L_20, L_24, L_25, L_30, L_32, L_38, L_40, L_48, L_50, L_60, L_63, L_64, L_72, L_99, L_100, L_160, L_500, L_999, L_1380, L_1400, L_2400, L_2401, L_60025, L_100000, L_1000000, L_100000000, L_2000000000, nI_add, pk_mul, nI_clamp, nI_leI, nI_ltI, nI_eq, kin_I, pk_sub, nI_m1, m1_nI, nI_am1, kx_max, kx_min, kt_tx, kt_rp, kg_si, kg_sl, kq_si, kq_sl, kv_si, kv_sl, Nat.reduceAdd, Nat.reduceMul, Nat.reduceSub, Nat.reduceEqDiff, Nat.reduceLT, Nat.reduceLeDiff, ne_eq, not_true_eq_false, not_false_eq_true, or_true, true_or, or_false, false_or, and_true, true_and, false_and, and_false, if_true, if_false, ite_true, ite_false, reduceIte, kl_0, kl_1, kl_2, kl_3, kl_6, kl_20, kl_50, kl_500, kl_999, kl_2400, kl_2g, in_t, in_tt, in_f, in_ff, in_n, if_pos, if_neg, eq_self, nI_n1, n1_nI, nI_an1, lesser_n1, lesser_rn, lesser_n, kx_n1, rWg p hp, bear_f hV hR hL hr d] at hc_; subst hc_; with_reducible refine Wp_bvs ?_) | (with_reducible refine Wp_t (by (first | (simp (disch := omega) only [L_0, L_1, L_2, L_3, L_4, L_5, L_6, L_7, L_8, L_9, L_10, L_11, L_12, L_16, L_18, L_20, L_24, L_25, L_30, L_32, L_38, L_40, L_48, L_50, L_60, L_63, L_64, L_72, L_99, L_100, L_160, L_500, L_999, L_1380, L_1400, L_2400, L_2401, L_60025, L_100000, L_1000000, L_100000000, L_2000000000, nI_add, pk_mul, nI_clamp, nI_leI, nI_ltI, nI_eq, kin_I, pk_sub, nI_m1, m1_nI, nI_am1, kx_max, kx_min, kt_tx, kt_rp, kg_si, kg_sl, kq_si, kq_sl, kv_si, kv_sl, Nat.reduceAdd, Nat.reduceMul, Nat.reduceSub, Nat.reduceEqDiff, Nat.reduceLT, Nat.reduceLeDiff, ne_eq, not_true_eq_false, not_false_eq_true, or_true, true_or, or_false, false_or, and_true, true_and, false_and, and_false, if_true, if_false, ite_true, ite_false, reduceIte, kl_0, kl_1, kl_2, kl_3, kl_6, kl_20, kl_50, kl_500, kl_999, kl_2400, kl_2g, in_t, in_tt, in_f, in_ff, in_n, if_pos, if_neg, eq_self, nI_n1, n1_nI, nI_an1, lesser_n1, lesser_rn, lesser_n, kx_n1, rWg p hp, bear_f hV hR hL hr d]; done) | (simp (disch := omega) only [L_0, L_1, L_2, L_3, L_4, L_5, L_6, L_7, L_8, L_9, L_10, L_11, L_12, L_16, L_18, L_20, L_24, L_25, L_30, L_32, L_38, L_40, L_48, L_50, L_60, L_63, L_64, L_72, L_99, L_100, L_160, L_500, L_999, L_1380, L_1400, L_2400, L_2401, L_60025, L_100000, L_1000000, L_100000000, L_2000000000, nI_add, pk_mul, nI_clamp, nI_leI, nI_ltI, nI_eq, kin_I, pk_sub, nI_m1, m1_nI, nI_am1, kx_max, kx_min, kt_tx, kt_rp, kg_si, kg_sl, kq_si, kq_sl, kv_si, kv_sl, Nat.reduceAdd, Nat.reduceMul, Nat.reduceSub, Nat.reduceEqDiff, Nat.reduceLT, Nat.reduceLeDiff, ne_eq, not_true_eq_false, not_false_eq_true, or_true, true_or, or_false, false_or, and_true, true_and, false_and, and_false, if_true, if_false, ite_true, ite_false, reduceIte, kl_0, kl_1, kl_2, kl_3, kl_6, kl_20, kl_50, kl_500, kl_999, kl_2400, kl_2g, in_t, in_tt, in_f, in_ff, in_n, if_pos, if_neg, eq_self, nI_n1, n1_nI, nI_an1, lesser_n1, lesser_rn, lesser_n, kx_n1, rWg p hp, bear_f hV hR hL hr d]; omega) | decide)) ?_) | (with_reducible refine Wp_f (by (first | (simp (disch := omega) only [L_0, L_1, L_2, L_3, L_4, L_5, L_6, L_7, L_8, L_9, L_10, L_11, L_12, L_16, L_18, L_20, L_24, L_25, L_30, L_32, L_38, L_40, L_48, L_50, L_60, L_63, L_64, L_72, L_99, L_100, L_160, L_500, L_999, L_1380, L_1400, L_2400, L_2401, L_60025, L_100000, L_1000000, L_100000000, L_2000000000, nI_add, pk_mul, nI_clamp, nI_leI, nI_ltI, nI_eq, kin_I, pk_sub, nI_m1, m1_nI, nI_am1, kx_max, kx_min, kt_tx, kt_rp, kg_si, kg_sl, kq_si, kq_sl, kv_si, kv_sl, Nat.reduceAdd, Nat.reduceMul, Nat.reduceSub, Nat.reduceEqDiff, Nat.reduceLT, Nat.reduceLeDiff, ne_eq, not_true_eq_false, not_false_eq_true, or_true, true_or, or_false, false_or, and_true, true_and, false_and, and_false, if_true, if_false, ite_true, ite_false, reduceIte, kl_0, kl_1, kl_2, kl_3, kl_6, kl_20, kl_50, kl_500, kl_999, kl_2400, kl_2g, in_t, in_tt, in_f, in_ff, in_n, if_pos, if_neg, eq_self, nI_n1, n1_nI, nI_an1, lesser_n1, lesser_rn, lesser_n, kx_n1, rWg p hp, bear_f hV hR hL hr d]; done) | (simp (disch := omega) only [L_0, L_1, L_2, L_3, L_4, L_5, L_6, L_7, L_8, L_9, L_10, L_11, L_12, L_16, L_18, L_20, L_24, L_25, L_30, L_32, L_38, L_40, L_48, L_50, L_60, L_63, L_64, L_72, L_99, L_100, L_160, L_500, L_999, L_1380, L_1400, L_2400, L_2401, L_60025, L_100000, L_1000000, L_100000000, L_2000000000, nI_add, pk_mul, nI_clamp, nI_leI, nI_ltI, nI_eq, kin_I, pk_sub, nI_m1, m1_nI, nI_am1, kx_max, kx_min, kt_tx, kt_rp, kg_si, kg_sl, kq_si, kq_sl, kv_si, kv_sl, Nat.reduceAdd, Nat.reduceMul, Nat.reduceSub, Nat.reduceEqDiff, Nat.reduceLT, Nat.reduceLeDiff, ne_eq, not_true_eq_false, not_false_eq_true, or_true, true_or, or_false, false_or, and_true, true_and, false_and, and_false, if_true, if_false, ite_true, ite_false, reduceIte, kl_0, kl_1, kl_2, kl_3, kl_6, kl_20, kl_50, kl_500, kl_999, kl_2400, kl_2g, in_t, in_tt, in_f, in_ff, in_n, if_pos, if_neg, eq_self, nI_n1, n1_nI, nI_an1, lesser_n1, lesser_rn, lesser_n, kx_n1, rWg p hp, bear_f hV hR hL hr d]; omega) | decide)) ?_))); try simp (disch := omega) only [nI_1, kt_rp, kt_tx]
        refine skip (fun q => ?_)
        subst q
        exact (wkB_t.mp (fO_s h1).2.1).2.2 d
      · have hb : wkB G p (-1) r = true := wkB_t.mpr ⟨hr, fun q => (nI_m1 (by omega)).mp q, d⟩
        have hm : nI (rIn G r) * nI (gPc G p) = nI (wkC G p r) := by rw [pk_mul]; rfl
        have wb := wkC_b hV hr hp
        have e1 := hT _ hE
        have e2 : M.1 381 a = nI v := by rw [hT a ha, hv]; rfl
        have hv2 := hD.2 a v hv
        cases e : D (oEnd G r a) with
        | none =>
          rw [e] at e1
          have e1 : M.1 381 (oEnd G r a) = nI 100000000 := e1
          (repeat (first | with_reducible refine Wp_some ?_ | (with_reducible refine Wp_letI ?_; intro v_ hv_; (try simp (disch := omega) only [L_0, L_1, L_2, L_3, L_4, L_5, L_6, L_7, L_8, L_9, L_10, L_11, L_12, L_16, L_18, L_20, L_24, L_25, L_30, L_32, L_38, L_40, L_48, L_50, L_60, L_63, L_64, L_72, L_99, L_100, L_160, L_500, L_999, L_1380, L_1400, L_2400, L_2401, L_60025, L_100000, L_1000000, L_100000000, L_2000000000, nI_add, pk_mul, nI_clamp, nI_leI, nI_ltI, nI_eq, kin_I, pk_sub, nI_m1, m1_nI, nI_am1, kx_max, kx_min, kt_tx, kt_rp, kg_si, kg_sl, kq_si, kq_sl, kv_si, kv_sl, Nat.reduceAdd, Nat.reduceMul, Nat.reduceSub, Nat.reduceEqDiff, Nat.reduceLT, Nat.reduceLeDiff, ne_eq, not_true_eq_false, not_false_eq_true, or_true, true_or, or_false, false_or, and_true, true_and, false_and, and_false, if_true, if_false, ite_true, ite_false, reduceIte, kl_0, kl_1, kl_2, kl_3, kl_6, kl_20, kl_50, kl_500, kl_999, kl_2400, kl_2g, in_t, in_tt, in_f, in_ff, in_n, if_pos, if_neg, eq_self, nI_n1, n1_nI, nI_an1, lesser_n1, lesser_rn, lesser_n, kx_n1, rWg p hp, bear_t hV hR hL hr d, oEndR hR hV hr, inchesR hV hR hL hr, rPc p hp, hm, e1, e2] at hv_); subst hv_) | (with_reducible refine Wp_biI ?_; intro c_ hc_; simp (disch := omega) only [L_0, L_1, L_2, L_3, L_4, L_5, L_6, L_7, L_8, L_9, L_10, L_11, L_12, L_16, L_18, L_20, L_24, L_25, L_30, L_32, L_38, L_40, L_48, L_50, L_60, L_63, L_64, L_72, L_99, L_100, L_160, L_500, L_999, L_1380, L_1400, L_2400, L_2401, L_60025, L_100000, L_1000000, L_100000000, L_2000000000, nI_add, pk_mul, nI_clamp, nI_leI, nI_ltI, nI_eq, kin_I, pk_sub, nI_m1, m1_nI, nI_am1, kx_max, kx_min, kt_tx, kt_rp, kg_si, kg_sl, kq_si, kq_sl, kv_si, kv_sl, Nat.reduceAdd, Nat.reduceMul, Nat.reduceSub, Nat.reduceEqDiff, Nat.reduceLT, Nat.reduceLeDiff, ne_eq, not_true_eq_false, not_false_eq_true, or_true, true_or, or_false, false_or, and_true, true_and, false_and, and_false, if_true, if_false, ite_true, ite_false, reduceIte, kl_0, kl_1, kl_2, kl_3, kl_6, kl_20, kl_50, kl_500, kl_999, kl_2400, kl_2g, in_t, in_tt, in_f, in_ff, in_n, if_pos, if_neg, eq_self, nI_n1, n1_nI, nI_an1, lesser_n1, lesser_rn, lesser_n, kx_n1, rWg p hp, bear_t hV hR hL hr d, oEndR hR hV hr, inchesR hV hR hL hr, rPc p hp, hm, e1, e2] at hc_; subst hc_; with_reducible refine Wp_bis ?_) | (with_reducible refine Wp_bvI ?_; intro c_ hc_; simp (disch := omega) only [L_0, L_1, L_2, L_3, L_4, L_5, L_6, L_7, L_8, L_9, L_10, L_11, L_12, L_16, L_18, L_20, L_24, L_25, L_30, L_32, L_38, L_40, L_48, L_50, L_60, L_63, L_64, L_72, L_99, L_100, L_160, L_500, L_999, L_1380, L_1400, L_2400, L_2401, L_60025, L_100000, L_1000000, L_100000000, L_2000000000, nI_add, pk_mul, nI_clamp, nI_leI, nI_ltI, nI_eq, kin_I, pk_sub, nI_m1, m1_nI, nI_am1, kx_max, kx_min, kt_tx, kt_rp, kg_si, kg_sl, kq_si, kq_sl, kv_si, kv_sl, Nat.reduceAdd, Nat.reduceMul, Nat.reduceSub, Nat.reduceEqDiff, Nat.reduceLT, Nat.reduceLeDiff, ne_eq, not_true_eq_false, not_false_eq_true, or_true, true_or, or_false, false_or, and_true, true_and, false_and, and_false, if_true, if_false, ite_true, ite_false, reduceIte, kl_0, kl_1, kl_2, kl_3, kl_6, kl_20, kl_50, kl_500, kl_999, kl_2400, kl_2g, in_t, in_tt, in_f, in_ff, in_n, if_pos, if_neg, eq_self, nI_n1, n1_nI, nI_an1, lesser_n1, lesser_rn, lesser_n, kx_n1, rWg p hp, bear_t hV hR hL hr d, oEndR hR hV hr, inchesR hV hR hL hr, rPc p hp, hm, e1, e2] at hc_; subst hc_; with_reducible refine Wp_bvs ?_) | (with_reducible refine Wp_t (by (first | (simp (disch := omega) only [L_0, L_1, L_2, L_3, L_4, L_5, L_6, L_7, L_8, L_9, L_10, L_11, L_12, L_16, L_18, L_20, L_24, L_25, L_30, L_32, L_38, L_40, L_48, L_50, L_60, L_63, L_64, L_72, L_99, L_100, L_160, L_500, L_999, L_1380, L_1400, L_2400, L_2401, L_60025, L_100000, L_1000000, L_100000000, L_2000000000, nI_add, pk_mul, nI_clamp, nI_leI, nI_ltI, nI_eq, kin_I, pk_sub, nI_m1, m1_nI, nI_am1, kx_max, kx_min, kt_tx, kt_rp, kg_si, kg_sl, kq_si, kq_sl, kv_si, kv_sl, Nat.reduceAdd, Nat.reduceMul, Nat.reduceSub, Nat.reduceEqDiff, Nat.reduceLT, Nat.reduceLeDiff, ne_eq, not_true_eq_false, not_false_eq_true, or_true, true_or, or_false, false_or, and_true, true_and, false_and, and_false, if_true, if_false, ite_true, ite_false, reduceIte, kl_0, kl_1, kl_2, kl_3, kl_6, kl_20, kl_50, kl_500, kl_999, kl_2400, kl_2g, in_t, in_tt, in_f, in_ff, in_n, if_pos, if_neg, eq_self, nI_n1, n1_nI, nI_an1, lesser_n1, lesser_rn, lesser_n, kx_n1, rWg p hp, bear_t hV hR hL hr d, oEndR hR hV hr, inchesR hV hR hL hr, rPc p hp, hm, e1, e2]; done) | (simp (disch := omega) only [L_0, L_1, L_2, L_3, L_4, L_5, L_6, L_7, L_8, L_9, L_10, L_11, L_12, L_16, L_18, L_20, L_24, L_25, L_30, L_32, L_38, L_40, L_48, L_50, L_60, L_63, L_64, L_72, L_99, L_100, L_160, L_500, L_999, L_1380, L_1400, L_2400, L_2401, L_60025, L_100000, L_1000000, L_100000000, L_2000000000, nI_add, pk_mul, nI_clamp, nI_leI, nI_ltI, nI_eq, kin_I, pk_sub, nI_m1, m1_nI, nI_am1, kx_max, kx_min, kt_tx, kt_rp, kg_si, kg_sl, kq_si, kq_sl, kv_si, kv_sl, Nat.reduceAdd, Nat.reduceMul, Nat.reduceSub, Nat.reduceEqDiff, Nat.reduceLT, Nat.reduceLeDiff, ne_eq, not_true_eq_false, not_false_eq_true, or_true, true_or, or_false, false_or, and_true, true_and, false_and, and_false, if_true, if_false, ite_true, ite_false, reduceIte, kl_0, kl_1, kl_2, kl_3, kl_6, kl_20, kl_50, kl_500, kl_999, kl_2400, kl_2g, in_t, in_tt, in_f, in_ff, in_n, if_pos, if_neg, eq_self, nI_n1, n1_nI, nI_an1, lesser_n1, lesser_rn, lesser_n, kx_n1, rWg p hp, bear_t hV hR hL hr d, oEndR hR hV hr, inchesR hV hR hL hr, rPc p hp, hm, e1, e2]; omega) | decide)) ?_) | (with_reducible refine Wp_f (by (first | (simp (disch := omega) only [L_0, L_1, L_2, L_3, L_4, L_5, L_6, L_7, L_8, L_9, L_10, L_11, L_12, L_16, L_18, L_20, L_24, L_25, L_30, L_32, L_38, L_40, L_48, L_50, L_60, L_63, L_64, L_72, L_99, L_100, L_160, L_500, L_999, L_1380, L_1400, L_2400, L_2401, L_60025, L_100000, L_1000000, L_100000000, L_2000000000, nI_add, pk_mul, nI_clamp, nI_leI, nI_ltI, nI_eq, kin_I, pk_sub, nI_m1, m1_nI, nI_am1, kx_max, kx_min, kt_tx, kt_rp, kg_si, kg_sl, kq_si, kq_sl, kv_si, kv_sl, Nat.reduceAdd, Nat.reduceMul, Nat.reduceSub, Nat.reduceEqDiff, Nat.reduceLT, Nat.reduceLeDiff, ne_eq, not_true_eq_false, not_false_eq_true, or_true, true_or, or_false, false_or, and_true, true_and, false_and, and_false, if_true, if_false, ite_true, ite_false, reduceIte, kl_0, kl_1, kl_2, kl_3, kl_6, kl_20, kl_50, kl_500, kl_999, kl_2400, kl_2g, in_t, in_tt, in_f, in_ff, in_n, if_pos, if_neg, eq_self, nI_n1, n1_nI, nI_an1, lesser_n1, lesser_rn, lesser_n, kx_n1, rWg p hp, bear_t hV hR hL hr d, oEndR hR hV hr, inchesR hV hR hL hr, rPc p hp, hm, e1, e2]; done) | (simp (disch := omega) only [L_0, L_1, L_2, L_3, L_4, L_5, L_6, L_7, L_8, L_9, L_10, L_11, L_12, L_16, L_18, L_20, L_24, L_25, L_30, L_32, L_38, L_40, L_48, L_50, L_60, L_63, L_64, L_72, L_99, L_100, L_160, L_500, L_999, L_1380, L_1400, L_2400, L_2401, L_60025, L_100000, L_1000000, L_100000000, L_2000000000, nI_add, pk_mul, nI_clamp, nI_leI, nI_ltI, nI_eq, kin_I, pk_sub, nI_m1, m1_nI, nI_am1, kx_max, kx_min, kt_tx, kt_rp, kg_si, kg_sl, kq_si, kq_sl, kv_si, kv_sl, Nat.reduceAdd, Nat.reduceMul, Nat.reduceSub, Nat.reduceEqDiff, Nat.reduceLT, Nat.reduceLeDiff, ne_eq, not_true_eq_false, not_false_eq_true, or_true, true_or, or_false, false_or, and_true, true_and, false_and, and_false, if_true, if_false, ite_true, ite_false, reduceIte, kl_0, kl_1, kl_2, kl_3, kl_6, kl_20, kl_50, kl_500, kl_999, kl_2400, kl_2g, in_t, in_tt, in_f, in_ff, in_n, if_pos, if_neg, eq_self, nI_n1, n1_nI, nI_an1, lesser_n1, lesser_rn, lesser_n, kx_n1, rWg p hp, bear_t hV hR hL hr d, oEndR hR hV hr, inchesR hV hR hL hr, rPc p hp, hm, e1, e2]; omega) | decide)) ?_))); try simp (disch := omega) only [nI_1, kt_rp, kt_tx]
          refine skip (fun q => ?_)
          subst q
          obtain ⟨_, _, y, y1, _⟩ := fO_s h1
          rw [e] at y1
          exact absurd y1 (by simp)
        | some y =>
          rw [e] at e1
          have hy := hD.2 _ y e
          have e1 : M.1 381 (oEnd G r a) = nI y := e1
          have ef := fO_i (D := D) c hb e
          by_cases q : r = rz
          · subst q
            rw [h1] at ef
            have ef : v = wkC G p r + y := by simpa using ef
            (repeat (first | with_reducible refine Wp_some ?_ | (with_reducible refine Wp_letI ?_; intro v_ hv_; (try simp (disch := omega) only [L_0, L_1, L_2, L_3, L_4, L_5, L_6, L_7, L_8, L_9, L_10, L_11, L_12, L_16, L_18, L_20, L_24, L_25, L_30, L_32, L_38, L_40, L_48, L_50, L_60, L_63, L_64, L_72, L_99, L_100, L_160, L_500, L_999, L_1380, L_1400, L_2400, L_2401, L_60025, L_100000, L_1000000, L_100000000, L_2000000000, nI_add, pk_mul, nI_clamp, nI_leI, nI_ltI, nI_eq, kin_I, pk_sub, nI_m1, m1_nI, nI_am1, kx_max, kx_min, kt_tx, kt_rp, kg_si, kg_sl, kq_si, kq_sl, kv_si, kv_sl, Nat.reduceAdd, Nat.reduceMul, Nat.reduceSub, Nat.reduceEqDiff, Nat.reduceLT, Nat.reduceLeDiff, ne_eq, not_true_eq_false, not_false_eq_true, or_true, true_or, or_false, false_or, and_true, true_and, false_and, and_false, if_true, if_false, ite_true, ite_false, reduceIte, kl_0, kl_1, kl_2, kl_3, kl_6, kl_20, kl_50, kl_500, kl_999, kl_2400, kl_2g, in_t, in_tt, in_f, in_ff, in_n, if_pos, if_neg, eq_self, nI_n1, n1_nI, nI_an1, lesser_n1, lesser_rn, lesser_n, kx_n1, rWg p hp, bear_t hV hR hL hr d, oEndR hR hV hr, inchesR hV hR hL hr, rPc p hp, hm, e1, e2] at hv_); subst hv_) | (with_reducible refine Wp_biI ?_; intro c_ hc_; simp (disch := omega) only [L_0, L_1, L_2, L_3, L_4, L_5, L_6, L_7, L_8, L_9, L_10, L_11, L_12, L_16, L_18, L_20, L_24, L_25, L_30, L_32, L_38, L_40, L_48, L_50, L_60, L_63, L_64, L_72, L_99, L_100, L_160, L_500, L_999, L_1380, L_1400, L_2400, L_2401, L_60025, L_100000, L_1000000, L_100000000, L_2000000000, nI_add, pk_mul, nI_clamp, nI_leI, nI_ltI, nI_eq, kin_I, pk_sub, nI_m1, m1_nI, nI_am1, kx_max, kx_min, kt_tx, kt_rp, kg_si, kg_sl, kq_si, kq_sl, kv_si, kv_sl, Nat.reduceAdd, Nat.reduceMul, Nat.reduceSub, Nat.reduceEqDiff, Nat.reduceLT, Nat.reduceLeDiff, ne_eq, not_true_eq_false, not_false_eq_true, or_true, true_or, or_false, false_or, and_true, true_and, false_and, and_false, if_true, if_false, ite_true, ite_false, reduceIte, kl_0, kl_1, kl_2, kl_3, kl_6, kl_20, kl_50, kl_500, kl_999, kl_2400, kl_2g, in_t, in_tt, in_f, in_ff, in_n, if_pos, if_neg, eq_self, nI_n1, n1_nI, nI_an1, lesser_n1, lesser_rn, lesser_n, kx_n1, rWg p hp, bear_t hV hR hL hr d, oEndR hR hV hr, inchesR hV hR hL hr, rPc p hp, hm, e1, e2] at hc_; subst hc_; with_reducible refine Wp_bis ?_) | (with_reducible refine Wp_bvI ?_; intro c_ hc_; simp (disch := omega) only [L_0, L_1, L_2, L_3, L_4, L_5, L_6, L_7, L_8, L_9, L_10, L_11, L_12, L_16, L_18, L_20, L_24, L_25, L_30, L_32, L_38, L_40, L_48, L_50, L_60, L_63, L_64, L_72, L_99, L_100, L_160, L_500, L_999, L_1380, L_1400, L_2400, L_2401, L_60025, L_100000, L_1000000, L_100000000, L_2000000000, nI_add, pk_mul, nI_clamp, nI_leI, nI_ltI, nI_eq, kin_I, pk_sub, nI_m1, m1_nI, nI_am1, kx_max, kx_min, kt_tx, kt_rp, kg_si, kg_sl, kq_si, kq_sl, kv_si, kv_sl, Nat.reduceAdd, Nat.reduceMul, Nat.reduceSub, Nat.reduceEqDiff, Nat.reduceLT, Nat.reduceLeDiff, ne_eq, not_true_eq_false, not_false_eq_true, or_true, true_or, or_false, false_or, and_true, true_and, false_and, and_false, if_true, if_false, ite_true, ite_false, reduceIte, kl_0, kl_1, kl_2, kl_3, kl_6, kl_20, kl_50, kl_500, kl_999, kl_2400, kl_2g, in_t, in_tt, in_f, in_ff, in_n, if_pos, if_neg, eq_self, nI_n1, n1_nI, nI_an1, lesser_n1, lesser_rn, lesser_n, kx_n1, rWg p hp, bear_t hV hR hL hr d, oEndR hR hV hr, inchesR hV hR hL hr, rPc p hp, hm, e1, e2] at hc_; subst hc_; with_reducible refine Wp_bvs ?_) | (with_reducible refine Wp_t (by (first | (simp (disch := omega) only [L_0, L_1, L_2, L_3, L_4, L_5, L_6, L_7, L_8, L_9, L_10, L_11, L_12, L_16, L_18, L_20, L_24, L_25, L_30, L_32, L_38, L_40, L_48, L_50, L_60, L_63, L_64, L_72, L_99, L_100, L_160, L_500, L_999, L_1380, L_1400, L_2400, L_2401, L_60025, L_100000, L_1000000, L_100000000, L_2000000000, nI_add, pk_mul, nI_clamp, nI_leI, nI_ltI, nI_eq, kin_I, pk_sub, nI_m1, m1_nI, nI_am1, kx_max, kx_min, kt_tx, kt_rp, kg_si, kg_sl, kq_si, kq_sl, kv_si, kv_sl, Nat.reduceAdd, Nat.reduceMul, Nat.reduceSub, Nat.reduceEqDiff, Nat.reduceLT, Nat.reduceLeDiff, ne_eq, not_true_eq_false, not_false_eq_true, or_true, true_or, or_false, false_or, and_true, true_and, false_and, and_false, if_true, if_false, ite_true, ite_false, reduceIte, kl_0, kl_1, kl_2, kl_3, kl_6, kl_20, kl_50, kl_500, kl_999, kl_2400, kl_2g, in_t, in_tt, in_f, in_ff, in_n, if_pos, if_neg, eq_self, nI_n1, n1_nI, nI_an1, lesser_n1, lesser_rn, lesser_n, kx_n1, rWg p hp, bear_t hV hR hL hr d, oEndR hR hV hr, inchesR hV hR hL hr, rPc p hp, hm, e1, e2]; done) | (simp (disch := omega) only [L_0, L_1, L_2, L_3, L_4, L_5, L_6, L_7, L_8, L_9, L_10, L_11, L_12, L_16, L_18, L_20, L_24, L_25, L_30, L_32, L_38, L_40, L_48, L_50, L_60, L_63, L_64, L_72, L_99, L_100, L_160, L_500, L_999, L_1380, L_1400, L_2400, L_2401, L_60025, L_100000, L_1000000, L_100000000, L_2000000000, nI_add, pk_mul, nI_clamp, nI_leI, nI_ltI, nI_eq, kin_I, pk_sub, nI_m1, m1_nI, nI_am1, kx_max, kx_min, kt_tx, kt_rp, kg_si, kg_sl, kq_si, kq_sl, kv_si, kv_sl, Nat.reduceAdd, Nat.reduceMul, Nat.reduceSub, Nat.reduceEqDiff, Nat.reduceLT, Nat.reduceLeDiff, ne_eq, not_true_eq_false, not_false_eq_true, or_true, true_or, or_false, false_or, and_true, true_and, false_and, and_false, if_true, if_false, ite_true, ite_false, reduceIte, kl_0, kl_1, kl_2, kl_3, kl_6, kl_20, kl_50, kl_500, kl_999, kl_2400, kl_2g, in_t, in_tt, in_f, in_ff, in_n, if_pos, if_neg, eq_self, nI_n1, n1_nI, nI_an1, lesser_n1, lesser_rn, lesser_n, kx_n1, rWg p hp, bear_t hV hR hL hr d, oEndR hR hV hr, inchesR hV hR hL hr, rPc p hp, hm, e1, e2]; omega) | decide)) ?_) | (with_reducible refine Wp_f (by (first | (simp (disch := omega) only [L_0, L_1, L_2, L_3, L_4, L_5, L_6, L_7, L_8, L_9, L_10, L_11, L_12, L_16, L_18, L_20, L_24, L_25, L_30, L_32, L_38, L_40, L_48, L_50, L_60, L_63, L_64, L_72, L_99, L_100, L_160, L_500, L_999, L_1380, L_1400, L_2400, L_2401, L_60025, L_100000, L_1000000, L_100000000, L_2000000000, nI_add, pk_mul, nI_clamp, nI_leI, nI_ltI, nI_eq, kin_I, pk_sub, nI_m1, m1_nI, nI_am1, kx_max, kx_min, kt_tx, kt_rp, kg_si, kg_sl, kq_si, kq_sl, kv_si, kv_sl, Nat.reduceAdd, Nat.reduceMul, Nat.reduceSub, Nat.reduceEqDiff, Nat.reduceLT, Nat.reduceLeDiff, ne_eq, not_true_eq_false, not_false_eq_true, or_true, true_or, or_false, false_or, and_true, true_and, false_and, and_false, if_true, if_false, ite_true, ite_false, reduceIte, kl_0, kl_1, kl_2, kl_3, kl_6, kl_20, kl_50, kl_500, kl_999, kl_2400, kl_2g, in_t, in_tt, in_f, in_ff, in_n, if_pos, if_neg, eq_self, nI_n1, n1_nI, nI_an1, lesser_n1, lesser_rn, lesser_n, kx_n1, rWg p hp, bear_t hV hR hL hr d, oEndR hR hV hr, inchesR hV hR hL hr, rPc p hp, hm, e1, e2]; done) | (simp (disch := omega) only [L_0, L_1, L_2, L_3, L_4, L_5, L_6, L_7, L_8, L_9, L_10, L_11, L_12, L_16, L_18, L_20, L_24, L_25, L_30, L_32, L_38, L_40, L_48, L_50, L_60, L_63, L_64, L_72, L_99, L_100, L_160, L_500, L_999, L_1380, L_1400, L_2400, L_2401, L_60025, L_100000, L_1000000, L_100000000, L_2000000000, nI_add, pk_mul, nI_clamp, nI_leI, nI_ltI, nI_eq, kin_I, pk_sub, nI_m1, m1_nI, nI_am1, kx_max, kx_min, kt_tx, kt_rp, kg_si, kg_sl, kq_si, kq_sl, kv_si, kv_sl, Nat.reduceAdd, Nat.reduceMul, Nat.reduceSub, Nat.reduceEqDiff, Nat.reduceLT, Nat.reduceLeDiff, ne_eq, not_true_eq_false, not_false_eq_true, or_true, true_or, or_false, false_or, and_true, true_and, false_and, and_false, if_true, if_false, ite_true, ite_false, reduceIte, kl_0, kl_1, kl_2, kl_3, kl_6, kl_20, kl_50, kl_500, kl_999, kl_2400, kl_2g, in_t, in_tt, in_f, in_ff, in_n, if_pos, if_neg, eq_self, nI_n1, n1_nI, nI_an1, lesser_n1, lesser_rn, lesser_n, kx_n1, rWg p hp, bear_t hV hR hL hr d, oEndR hR hV hr, inchesR hV hR hL hr, rPc p hp, hm, e1, e2]; omega) | decide)) ?_))); try simp (disch := omega) only [nI_1, kt_rp, kt_tx]
            exact h
          · have ne : ¬ y + wkC G p r = v := fun z => h2 r (by omega) (by rw [ef, ← z, Nat.add_comm])
            (repeat (first | with_reducible refine Wp_some ?_ | (with_reducible refine Wp_letI ?_; intro v_ hv_; (try simp (disch := omega) only [L_0, L_1, L_2, L_3, L_4, L_5, L_6, L_7, L_8, L_9, L_10, L_11, L_12, L_16, L_18, L_20, L_24, L_25, L_30, L_32, L_38, L_40, L_48, L_50, L_60, L_63, L_64, L_72, L_99, L_100, L_160, L_500, L_999, L_1380, L_1400, L_2400, L_2401, L_60025, L_100000, L_1000000, L_100000000, L_2000000000, nI_add, pk_mul, nI_clamp, nI_leI, nI_ltI, nI_eq, kin_I, pk_sub, nI_m1, m1_nI, nI_am1, kx_max, kx_min, kt_tx, kt_rp, kg_si, kg_sl, kq_si, kq_sl, kv_si, kv_sl, Nat.reduceAdd, Nat.reduceMul, Nat.reduceSub, Nat.reduceEqDiff, Nat.reduceLT, Nat.reduceLeDiff, ne_eq, not_true_eq_false, not_false_eq_true, or_true, true_or, or_false, false_or, and_true, true_and, false_and, and_false, if_true, if_false, ite_true, ite_false, reduceIte, kl_0, kl_1, kl_2, kl_3, kl_6, kl_20, kl_50, kl_500, kl_999, kl_2400, kl_2g, in_t, in_tt, in_f, in_ff, in_n, if_pos, if_neg, eq_self, nI_n1, n1_nI, nI_an1, lesser_n1, lesser_rn, lesser_n, kx_n1, rWg p hp, bear_t hV hR hL hr d, oEndR hR hV hr, inchesR hV hR hL hr, rPc p hp, hm, e1, e2] at hv_); subst hv_) | (with_reducible refine Wp_biI ?_; intro c_ hc_; simp (disch := omega) only [L_0, L_1, L_2, L_3, L_4, L_5, L_6, L_7, L_8, L_9, L_10, L_11, L_12, L_16, L_18, L_20, L_24, L_25, L_30, L_32, L_38, L_40, L_48, L_50, L_60, L_63, L_64, L_72, L_99, L_100, L_160, L_500, L_999, L_1380, L_1400, L_2400, L_2401, L_60025, L_100000, L_1000000, L_100000000, L_2000000000, nI_add, pk_mul, nI_clamp, nI_leI, nI_ltI, nI_eq, kin_I, pk_sub, nI_m1, m1_nI, nI_am1, kx_max, kx_min, kt_tx, kt_rp, kg_si, kg_sl, kq_si, kq_sl, kv_si, kv_sl, Nat.reduceAdd, Nat.reduceMul, Nat.reduceSub, Nat.reduceEqDiff, Nat.reduceLT, Nat.reduceLeDiff, ne_eq, not_true_eq_false, not_false_eq_true, or_true, true_or, or_false, false_or, and_true, true_and, false_and, and_false, if_true, if_false, ite_true, ite_false, reduceIte, kl_0, kl_1, kl_2, kl_3, kl_6, kl_20, kl_50, kl_500, kl_999, kl_2400, kl_2g, in_t, in_tt, in_f, in_ff, in_n, if_pos, if_neg, eq_self, nI_n1, n1_nI, nI_an1, lesser_n1, lesser_rn, lesser_n, kx_n1, rWg p hp, bear_t hV hR hL hr d, oEndR hR hV hr, inchesR hV hR hL hr, rPc p hp, hm, e1, e2] at hc_; subst hc_; with_reducible refine Wp_bis ?_) | (with_reducible refine Wp_bvI ?_; intro c_ hc_; simp (disch := omega) only [L_0, L_1, L_2, L_3, L_4, L_5, L_6, L_7, L_8, L_9, L_10, L_11, L_12, L_16, L_18, L_20, L_24, L_25, L_30, L_32, L_38, L_40, L_48, L_50, L_60, L_63, L_64, L_72, L_99, L_100, L_160, L_500, L_999, L_1380, L_1400, L_2400, L_2401, L_60025, L_100000, L_1000000, L_100000000, L_2000000000, nI_add, pk_mul, nI_clamp, nI_leI, nI_ltI, nI_eq, kin_I, pk_sub, nI_m1, m1_nI, nI_am1, kx_max, kx_min, kt_tx, kt_rp, kg_si, kg_sl, kq_si, kq_sl, kv_si, kv_sl, Nat.reduceAdd, Nat.reduceMul, Nat.reduceSub, Nat.reduceEqDiff, Nat.reduceLT, Nat.reduceLeDiff, ne_eq, not_true_eq_false, not_false_eq_true, or_true, true_or, or_false, false_or, and_true, true_and, false_and, and_false, if_true, if_false, ite_true, ite_false, reduceIte, kl_0, kl_1, kl_2, kl_3, kl_6, kl_20, kl_50, kl_500, kl_999, kl_2400, kl_2g, in_t, in_tt, in_f, in_ff, in_n, if_pos, if_neg, eq_self, nI_n1, n1_nI, nI_an1, lesser_n1, lesser_rn, lesser_n, kx_n1, rWg p hp, bear_t hV hR hL hr d, oEndR hR hV hr, inchesR hV hR hL hr, rPc p hp, hm, e1, e2] at hc_; subst hc_; with_reducible refine Wp_bvs ?_) | (with_reducible refine Wp_t (by (first | (simp (disch := omega) only [L_0, L_1, L_2, L_3, L_4, L_5, L_6, L_7, L_8, L_9, L_10, L_11, L_12, L_16, L_18, L_20, L_24, L_25, L_30, L_32, L_38, L_40, L_48, L_50, L_60, L_63, L_64, L_72, L_99, L_100, L_160, L_500, L_999, L_1380, L_1400, L_2400, L_2401, L_60025, L_100000, L_1000000, L_100000000, L_2000000000, nI_add, pk_mul, nI_clamp, nI_leI, nI_ltI, nI_eq, kin_I, pk_sub, nI_m1, m1_nI, nI_am1, kx_max, kx_min, kt_tx, kt_rp, kg_si, kg_sl, kq_si, kq_sl, kv_si, kv_sl, Nat.reduceAdd, Nat.reduceMul, Nat.reduceSub, Nat.reduceEqDiff, Nat.reduceLT, Nat.reduceLeDiff, ne_eq, not_true_eq_false, not_false_eq_true, or_true, true_or, or_false, false_or, and_true, true_and, false_and, and_false, if_true, if_false, ite_true, ite_false, reduceIte, kl_0, kl_1, kl_2, kl_3, kl_6, kl_20, kl_50, kl_500, kl_999, kl_2400, kl_2g, in_t, in_tt, in_f, in_ff, in_n, if_pos, if_neg, eq_self, nI_n1, n1_nI, nI_an1, lesser_n1, lesser_rn, lesser_n, kx_n1, rWg p hp, bear_t hV hR hL hr d, oEndR hR hV hr, inchesR hV hR hL hr, rPc p hp, hm, e1, e2]; done) | (simp (disch := omega) only [L_0, L_1, L_2, L_3, L_4, L_5, L_6, L_7, L_8, L_9, L_10, L_11, L_12, L_16, L_18, L_20, L_24, L_25, L_30, L_32, L_38, L_40, L_48, L_50, L_60, L_63, L_64, L_72, L_99, L_100, L_160, L_500, L_999, L_1380, L_1400, L_2400, L_2401, L_60025, L_100000, L_1000000, L_100000000, L_2000000000, nI_add, pk_mul, nI_clamp, nI_leI, nI_ltI, nI_eq, kin_I, pk_sub, nI_m1, m1_nI, nI_am1, kx_max, kx_min, kt_tx, kt_rp, kg_si, kg_sl, kq_si, kq_sl, kv_si, kv_sl, Nat.reduceAdd, Nat.reduceMul, Nat.reduceSub, Nat.reduceEqDiff, Nat.reduceLT, Nat.reduceLeDiff, ne_eq, not_true_eq_false, not_false_eq_true, or_true, true_or, or_false, false_or, and_true, true_and, false_and, and_false, if_true, if_false, ite_true, ite_false, reduceIte, kl_0, kl_1, kl_2, kl_3, kl_6, kl_20, kl_50, kl_500, kl_999, kl_2400, kl_2g, in_t, in_tt, in_f, in_ff, in_n, if_pos, if_neg, eq_self, nI_n1, n1_nI, nI_an1, lesser_n1, lesser_rn, lesser_n, kx_n1, rWg p hp, bear_t hV hR hL hr d, oEndR hR hV hr, inchesR hV hR hL hr, rPc p hp, hm, e1, e2]; omega) | decide)) ?_) | (with_reducible refine Wp_f (by (first | (simp (disch := omega) only [L_0, L_1, L_2, L_3, L_4, L_5, L_6, L_7, L_8, L_9, L_10, L_11, L_12, L_16, L_18, L_20, L_24, L_25, L_30, L_32, L_38, L_40, L_48, L_50, L_60, L_63, L_64, L_72, L_99, L_100, L_160, L_500, L_999, L_1380, L_1400, L_2400, L_2401, L_60025, L_100000, L_1000000, L_100000000, L_2000000000, nI_add, pk_mul, nI_clamp, nI_leI, nI_ltI, nI_eq, kin_I, pk_sub, nI_m1, m1_nI, nI_am1, kx_max, kx_min, kt_tx, kt_rp, kg_si, kg_sl, kq_si, kq_sl, kv_si, kv_sl, Nat.reduceAdd, Nat.reduceMul, Nat.reduceSub, Nat.reduceEqDiff, Nat.reduceLT, Nat.reduceLeDiff, ne_eq, not_true_eq_false, not_false_eq_true, or_true, true_or, or_false, false_or, and_true, true_and, false_and, and_false, if_true, if_false, ite_true, ite_false, reduceIte, kl_0, kl_1, kl_2, kl_3, kl_6, kl_20, kl_50, kl_500, kl_999, kl_2400, kl_2g, in_t, in_tt, in_f, in_ff, in_n, if_pos, if_neg, eq_self, nI_n1, n1_nI, nI_an1, lesser_n1, lesser_rn, lesser_n, kx_n1, rWg p hp, bear_t hV hR hL hr d, oEndR hR hV hr, inchesR hV hR hL hr, rPc p hp, hm, e1, e2]; done) | (simp (disch := omega) only [L_0, L_1, L_2, L_3, L_4, L_5, L_6, L_7, L_8, L_9, L_10, L_11, L_12, L_16, L_18, L_20, L_24, L_25, L_30, L_32, L_38, L_40, L_48, L_50, L_60, L_63, L_64, L_72, L_99, L_100, L_160, L_500, L_999, L_1380, L_1400, L_2400, L_2401, L_60025, L_100000, L_1000000, L_100000000, L_2000000000, nI_add, pk_mul, nI_clamp, nI_leI, nI_ltI, nI_eq, kin_I, pk_sub, nI_m1, m1_nI, nI_am1, kx_max, kx_min, kt_tx, kt_rp, kg_si, kg_sl, kq_si, kq_sl, kv_si, kv_sl, Nat.reduceAdd, Nat.reduceMul, Nat.reduceSub, Nat.reduceEqDiff, Nat.reduceLT, Nat.reduceLeDiff, ne_eq, not_true_eq_false, not_false_eq_true, or_true, true_or, or_false, false_or, and_true, true_and, false_and, and_false, if_true, if_false, ite_true, ite_false, reduceIte, kl_0, kl_1, kl_2, kl_3, kl_6, kl_20, kl_50, kl_500, kl_999, kl_2400, kl_2g, in_t, in_tt, in_f, in_ff, in_n, if_pos, if_neg, eq_self, nI_n1, n1_nI, nI_an1, lesser_n1, lesser_rn, lesser_n, kx_n1, rWg p hp, bear_t hV hR hL hr d, oEndR hR hV hr, inchesR hV hR hL hr, rPc p hp, hm, e1, e2]; omega) | decide)) ?_))); try simp (disch := omega) only [nI_1, kt_rp, kt_tx]
            exact skip q
    · rw [isEnd_f hR hV hr (by omega) c]
      refine Wp_bis (Wp_t rfl (skip (fun q => ?_)))
      rw [q] at c
      exact c (fO_s h1).1
def byC (M : kr_M) (g : Nat) (G : GG) (p b : Nat) (D : Nat → Option Nat) : Prop := KS M g G ∧ (∀ k, k < gPl G → f_X9_timeFrom (nI k) (nI b) M = some (kw_e (D k), M)) ∧ wTk M G p (-1) (gRo G)
def byR (M : kr_M) (G : GG) (D : Nat → Option Nat) : Prop := RG M G ∧ LG M G ∧ ∀ k, k < gPl G → M.1 381 k = nI (kw_n (D k))
theorem by_w {G : GG} {g p b : Nat} {D : Nat → Option Nat} (p4 : Int32) (hV : GV G) (hp : p < gPe G) (hb : b < gPl G) (hD : byD G p b D) : ∀ k a i v, a < gPl G → D a = some v → cB D v (gPl G) ≤ k → i + k ≤ 5 → ∃ ans, (p4.toInt < 0 → ans = -1) ∧ (∀ M n', k < n' → byC M g G p b D → f_X9_ropeOfFirst_6 g (nI b) p4 n' (nI a) (nI i) M = some (ans, M)) ∧ ∀ M n', k < n' → byR M G D → f_X12_by_54 (nI p) (nI b) p4 n' (nI a) (nI i) M = some (ans, M) := by
  have hV' := hV
  obtain ⟨vLi, v0, vPl, vWe, vOd, vKi, vWo, vRo, vPe, vWt, vAc, vIn, vWa, vL, vMn, vW, vA, vB, vAB, vLd, vCr, vN, vK, vWg, vPc, vSt, vD⟩ := hV'
  intro k
  induction k with
  | zero =>
    intro a i v ha hv hc hi
    by_cases e : a = b
    · subst e
      refine ⟨-1, fun _ => rfl, fun M n' hn hM => ?_, fun M n' hn hM => ?_⟩
      · obtain ⟨n, rfl⟩ : ∃ n, n' = n + 1 := ⟨n' - 1, by omega⟩
        apply Wp_eq
        rw [f_X9_ropeOfFirst_6]
        exact Wp_f (by rw [L_6]; exact nI_ge (by omega) (by omega)) (Wp_t rfl (Wp_some rfl))
      · obtain ⟨n, rfl⟩ : ∃ n, n' = n + 1 := ⟨n' - 1, by omega⟩
        apply Wp_eq
        rw [f_X12_by_54]
        exact Wp_t rfl (Wp_some rfl)
    · obtain ⟨r, hr, h1⟩ := fO_ex hV hD ha e hv
      obtain ⟨_, _, y, y1, y2⟩ := fO_s h1
      have wb := wkC_b hV hr hp
      have := cB_lt (oEnd_lt hV hr) y1 (show y < v by omega)
      omega
  | succ k ih =>
    intro a i v ha hv hc hi
    by_cases e : a = b
    · subst e
      refine ⟨-1, fun _ => rfl, fun M n' hn hM => ?_, fun M n' hn hM => ?_⟩
      · obtain ⟨n, rfl⟩ : ∃ n, n' = n + 1 := ⟨n' - 1, by omega⟩
        apply Wp_eq
        rw [f_X9_ropeOfFirst_6]
        exact Wp_f (by rw [L_6]; exact nI_ge (by omega) (by omega)) (Wp_t rfl (Wp_some rfl))
      · obtain ⟨n, rfl⟩ : ∃ n, n' = n + 1 := ⟨n' - 1, by omega⟩
        apply Wp_eq
        rw [f_X12_by_54]
        exact Wp_t rfl (Wp_some rfl)
    · obtain ⟨r1, hr1, hf1⟩ := fO_ex hV hD ha e hv
      obtain ⟨r, hle, h1, h2⟩ := kw_first (p := fun r => fO G p D a r = some v) r1 hf1
      have h1 : fO G p D a r = some v := h1
      have hr : r < gRo G := by omega
      obtain ⟨s1, s2, y, y1, y2⟩ := fO_s h1
      have wb := wkC_b hV hr hp
      have hE := oEnd_lt (a := a) hV hr
      have lt := cB_lt hE y1 (show y < v by omega)
      have ne : ¬ nI a = nI b := fun q => e ((nI_eq (by omega) (by omega)).mp q)
      by_cases q : nI i = p4
      · refine ⟨nI r, fun z => ?_, fun M n' hn hM => ?_, fun M n' hn hM => ?_⟩
        · rw [← q, kz_nI (by omega)] at z
          omega
        · obtain ⟨n, rfl⟩ : ∃ n, n' = n + 1 := ⟨n' - 1, by omega⟩
          obtain ⟨m1, m2, m3⟩ := hM
          apply Wp_eq
          rw [f_X9_ropeOfFirst_6]
          refine Wp_f (by rw [L_6]; exact nI_ge (by omega) (by omega)) (Wp_f ne ?_)
          unfold f_X9_firstRopeFrom
          rw [show f_X9_firstRopeFrom_3 g (nI a) (nI b) kr_F (0 : Int32) M = some (nI r, M) from fr_C m1 hp ha hD m2 m3 hv hr h1 h2 kr_F 0 (by omega) (kr_F_gt _ (by omega))]
          exact Wp_bis (Wp_f (fun z => (nI_m1 (by omega)).mp z) (Wp_f (fun z => z q) (Wp_some rfl)))
        · obtain ⟨n, rfl⟩ : ∃ n, n' = n + 1 := ⟨n' - 1, by omega⟩
          obtain ⟨m1, m2, m3⟩ := hM
          apply Wp_eq
          rw [f_X12_by_54]
          refine Wp_f ne ?_
          refine fr_R hV m1 m2 hp ha hD m3 hv hr h1 h2 ?_ kr_F 0 (by omega) (kr_F_gt _ (by omega))
          unfold f_X12_by_138
          exact Wp_f (fun z => z q) (Wp_some rfl)
      · obtain ⟨ans, a1, a2, a3⟩ := ih (oEnd G r a) (i + 1) y hE y1 (by omega) (by omega)
        refine ⟨ans, a1, fun M n' hn hM => ?_, fun M n' hn hM => ?_⟩
        · obtain ⟨n, rfl⟩ : ∃ n, n' = n + 1 := ⟨n' - 1, by omega⟩
          have hM' := hM
          obtain ⟨m1, m2, m3⟩ := hM'
          apply Wp_eq
          rw [f_X9_ropeOfFirst_6]
          refine Wp_f (by rw [L_6]; exact nI_ge (by omega) (by omega)) (Wp_f ne ?_)
          unfold f_X9_firstRopeFrom
          rw [show f_X9_firstRopeFrom_3 g (nI a) (nI b) kr_F (0 : Int32) M = some (nI r, M) from fr_C m1 hp ha hD m2 m3 hv hr h1 h2 kr_F 0 (by omega) (kr_F_gt _ (by omega))]
          refine Wp_bis (Wp_f (fun z => (nI_m1 (by omega)).mp z) (Wp_t q ?_))
          refine Wp_t ((kin_I (by omega)).mpr (by omega)) ?_
          rw [kt_rp (by omega), oEndC m1.C hV hr (by omega) s1]
          refine Wp_bis ?_
          rw [L_1, nI_add]
          exact Wp_of (a2 M n (by omega) hM) rfl
        · obtain ⟨n, rfl⟩ : ∃ n, n' = n + 1 := ⟨n' - 1, by omega⟩
          have hM' := hM
          obtain ⟨m1, m2, m3⟩ := hM'
          apply Wp_eq
          rw [f_X12_by_54]
          refine Wp_f ne ?_
          refine fr_R hV m1 m2 hp ha hD m3 hv hr h1 h2 ?_ kr_F 0 (by omega) (kr_F_gt _ (by omega))
          unfold f_X12_by_138
          refine Wp_t q ?_
          rw [oEndR m1 hV hr (by omega)]
          refine Wp_bis ?_
          rw [L_1, nI_add]
          exact Wp_of (a3 M n (by omega) hM) rfl
theorem op_31 (p1 p2 p3 p4 : Int32) (M : kr_M) (h : Sim M) : ∃ (r : Int32) (M1 M2 : kr_M), f_X11_by p1 p2 p3 p4 M = some (r, M1) ∧ f_X12_by p1 p2 p3 p4 M1 = some (r, M2) ∧ Sim M2 := by
  refine op_q (c := f_X11_by p1 p2 p3 p4) (f := f_X12_by p1 p2 p3 p4) h (fun g G hK => ?_)
  have hV := hK.V
  have hV' := hV
  have hC := hK.C
  have hC' := hC
  have eg := hK.gr
  have es := hK.sh
  obtain ⟨vLi, v0, vPl, vWe, vOd, vKi, vWo, vRo, vPe, vWt, vAc, vIn, vWa, vL, vMn, vW, vA, vB, vAB, vLd, vCr, vN, vK, vWg, vPc, vSt, vD⟩ := hV'
  obtain ⟨c0, cPl, cWe, cOd, cKi, cWo, cRo, cPe, cWt, cAc, cIn, cWa, cL, cMn, cW, cA, cB, cLd, cCr, cN, cK, cWg, cPc, cSt⟩ := hC'
  rcases wa_c hV p1 p2 p3 with ⟨p, a, b, hp, ha, hb, rfl, rfl, rfl⟩ | ⟨w1, w2⟩
  · obtain ⟨D, hD⟩ : ∃ D, byD G p b D := by
      obtain ⟨M', _, ⟨T, t1, t2, t3, t4⟩, _⟩ := wy_ok (wo := -1) hK hp
      exact ⟨fun k => T k b, fun k hk => t2 k b hk hb, fun k v hv => t3 k b v hv⟩
    have cls : ∀ M, KS M g G → ∀ ans, (∀ M1, byC M1 g G p b D → f_X9_ropeOfFirst g (nI a) (nI b) p4 M1 = some (ans, M1)) → Wp (f_X11_by (nI p) (nI a) (nI b) p4 M) (fun x => x.1 = ans ∧ Fr M x.2) := fun M hK ans hA => by
      unfold f_X11_by
      refine Wp_bi _ (ow_t hK hp ha hb) (fun x M1 ⟨q1, ⟨T, t1, t2, t3, t4⟩, q3⟩ => ?_)
      have q1 : x = 1 := q1
      subst q1
      refine Wp_t (by decide) ?_
      have t1 : wT M1 (gPl G) T := t1
      have q3 : Fx wyX M M1 := q3
      have hK1 := hK.fr (q3.fr wy_s)
      rw [hK1.gr]
      refine Wp_t hK1.sh ?_
      refine Wp_letI ?_; intro v ev; subst ev
      rw [hA M1 ⟨hK1, fun k hk => by rw [tF_ok (by omega) t1 hk hb, isD_u (t2 k b hk hb) (hD.1 k hk)], t4⟩]
      exact Wp_bis (Wp_some ⟨rfl, q3.fr wy_s⟩)
    cases hv : D a with
    | none =>
      have ne : a ≠ b := fun q => by
        obtain ⟨u, u1, _⟩ := (hD.1 a ha).2 0 (by rw [← q]; exact sd_0 a)
        rw [hv] at u1
        exact absurd u1 (by simp)
      refine ⟨-1, cls M hK (-1) (fun M1 ⟨m1, m2, m3⟩ => ?_), fun M hK => ?_⟩
      · apply Wp_eq
        unfold f_X9_ropeOfFirst
        obtain ⟨n, hn⟩ : ∃ n, kr_F = n + 1 := ⟨kr_F - 1, by have := kr_F_gt 5 (by omega); omega⟩
        rw [hn, f_X9_ropeOfFirst_6]
        refine Wp_f (by decide) (Wp_f (fun q => ne ((nI_eq (by omega) (by omega)).mp q)) ?_)
        unfold f_X9_firstRopeFrom
        rw [show f_X9_firstRopeFrom_3 g (nI a) (nI b) kr_F (0 : Int32) M1 = some (-1, M1) from fr_Cn m1 hp ha hD m2 m3 hv kr_F 0 (by omega) (kr_F_gt _ (by omega))]
        exact Wp_bis (Wp_t rfl (Wp_some rfl))
      · unfold f_X12_by; refine Wp_letI ?_; intro M1 hM1; have hK1 : KS M1 g G := (by rw [← hM1]; exact hK.fr (Fr.thrown _ _)); have hF1 : Fr M M1 := (by rw [← hM1]; exact Fr.thrown _ _); clear hM1; have hV := hK1.V; have hR1 := hK1.R; have hR2 := hR1; obtain ⟨r0, rPl, rWe, rOd, rKi, rWo, rRo, rPe, rAc, rInc, rWa, rL, rMn, rW, rA, rB, rLd, rWg, rPc⟩ := hR2
        rw [iw_t hV hR1 hp ha hb]
        refine Wp_bis (Wp_t (by decide) ?_)
        refine Wp_bv _ hK1.lays (fun M2 ⟨hL, hFL, hK2⟩ => ?_); have hF2 := hF1.trans hFL.fr; have hR2 := hK2.R; have hL' := hL; have hR2' := hR2; obtain ⟨lN, lK, lCr, lSt, lWt⟩ := hL'; obtain ⟨r0, rPl, rWe, rOd, rKi, rWo, rRo, rPe, rAc, rInc, rWa, rL, rMn, rW, rA, rB, rLd, rWg, rPc⟩ := hR2'
        refine Wp_bv _ (tm_ok (wo := -1) hV hR2 hL hp (by omega : b < 6)) (fun M3 ⟨⟨t, t1, t2, t3⟩, f3⟩ => ?_)
        have e := t1 a (by omega)
        rw [isD_u (t2 a) (hD.1 a ha), hv] at e
        have e : M3.1 381 a = nI 100000000 := e
        (repeat (first | with_reducible refine Wp_some ?_ | (with_reducible refine Wp_letI ?_; intro v_ hv_; (try simp (disch := omega) only [L_0, L_1, L_2, L_3, L_4, L_5, L_6, L_7, L_8, L_9, L_10, L_11, L_12, L_16, L_18, L_20, L_24, L_25, L_30, L_32, L_38, L_40, L_48, L_50, L_60, L_63, L_64, L_72, L_99, L_100, L_160, L_500, L_999, L_1380, L_1400, L_2400, L_2401, L_60025, L_100000, L_1000000, L_100000000, L_2000000000, nI_add, pk_mul, nI_clamp, nI_leI, nI_ltI, nI_eq, kin_I, pk_sub, nI_m1, m1_nI, nI_am1, kx_max, kx_min, kt_tx, kt_rp, kg_si, kg_sl, kq_si, kq_sl, kv_si, kv_sl, Nat.reduceAdd, Nat.reduceMul, Nat.reduceSub, Nat.reduceEqDiff, Nat.reduceLT, Nat.reduceLeDiff, ne_eq, not_true_eq_false, not_false_eq_true, or_true, true_or, or_false, false_or, and_true, true_and, false_and, and_false, if_true, if_false, ite_true, ite_false, reduceIte, kl_0, kl_1, kl_2, kl_3, kl_6, kl_20, kl_50, kl_500, kl_999, kl_2400, kl_2g, in_t, in_tt, in_f, in_ff, in_n, if_pos, if_neg, eq_self, nI_n1, n1_nI, nI_an1, lesser_n1, lesser_rn, lesser_n, kx_n1, e] at hv_); subst hv_) | (with_reducible refine Wp_biI ?_; intro c_ hc_; simp (disch := omega) only [L_0, L_1, L_2, L_3, L_4, L_5, L_6, L_7, L_8, L_9, L_10, L_11, L_12, L_16, L_18, L_20, L_24, L_25, L_30, L_32, L_38, L_40, L_48, L_50, L_60, L_63, L_64, L_72, L_99, L_100, L_160, L_500, L_999, L_1380, L_1400, L_2400, L_2401, L_60025, L_100000, L_1000000, L_100000000, L_2000000000, nI_add, pk_mul, nI_clamp, nI_leI, nI_ltI, nI_eq, kin_I, pk_sub, nI_m1, m1_nI, nI_am1, kx_max, kx_min, kt_tx, kt_rp, kg_si, kg_sl, kq_si, kq_sl, kv_si, kv_sl, Nat.reduceAdd, Nat.reduceMul, Nat.reduceSub, Nat.reduceEqDiff, Nat.reduceLT, Nat.reduceLeDiff, ne_eq, not_true_eq_false, not_false_eq_true, or_true, true_or, or_false, false_or, and_true, true_and, false_and, and_false, if_true, if_false, ite_true, ite_false, reduceIte, kl_0, kl_1, kl_2, kl_3, kl_6, kl_20, kl_50, kl_500, kl_999, kl_2400, kl_2g, in_t, in_tt, in_f, in_ff, in_n, if_pos, if_neg, eq_self, nI_n1, n1_nI, nI_an1, lesser_n1, lesser_rn, lesser_n, kx_n1, e] at hc_; subst hc_; with_reducible refine Wp_bis ?_) | (with_reducible refine Wp_bvI ?_; intro c_ hc_; simp (disch := omega) only [L_0, L_1, L_2, L_3, L_4, L_5, L_6, L_7, L_8, L_9, L_10, L_11, L_12, L_16, L_18, L_20, L_24, L_25, L_30, L_32, L_38, L_40, L_48, L_50, L_60, L_63, L_64, L_72, L_99, L_100, L_160, L_500, L_999, L_1380, L_1400, L_2400, L_2401, L_60025, L_100000, L_1000000, L_100000000, L_2000000000, nI_add, pk_mul, nI_clamp, nI_leI, nI_ltI, nI_eq, kin_I, pk_sub, nI_m1, m1_nI, nI_am1, kx_max, kx_min, kt_tx, kt_rp, kg_si, kg_sl, kq_si, kq_sl, kv_si, kv_sl, Nat.reduceAdd, Nat.reduceMul, Nat.reduceSub, Nat.reduceEqDiff, Nat.reduceLT, Nat.reduceLeDiff, ne_eq, not_true_eq_false, not_false_eq_true, or_true, true_or, or_false, false_or, and_true, true_and, false_and, and_false, if_true, if_false, ite_true, ite_false, reduceIte, kl_0, kl_1, kl_2, kl_3, kl_6, kl_20, kl_50, kl_500, kl_999, kl_2400, kl_2g, in_t, in_tt, in_f, in_ff, in_n, if_pos, if_neg, eq_self, nI_n1, n1_nI, nI_an1, lesser_n1, lesser_rn, lesser_n, kx_n1, e] at hc_; subst hc_; with_reducible refine Wp_bvs ?_) | (with_reducible refine Wp_t (by (first | (simp (disch := omega) only [L_0, L_1, L_2, L_3, L_4, L_5, L_6, L_7, L_8, L_9, L_10, L_11, L_12, L_16, L_18, L_20, L_24, L_25, L_30, L_32, L_38, L_40, L_48, L_50, L_60, L_63, L_64, L_72, L_99, L_100, L_160, L_500, L_999, L_1380, L_1400, L_2400, L_2401, L_60025, L_100000, L_1000000, L_100000000, L_2000000000, nI_add, pk_mul, nI_clamp, nI_leI, nI_ltI, nI_eq, kin_I, pk_sub, nI_m1, m1_nI, nI_am1, kx_max, kx_min, kt_tx, kt_rp, kg_si, kg_sl, kq_si, kq_sl, kv_si, kv_sl, Nat.reduceAdd, Nat.reduceMul, Nat.reduceSub, Nat.reduceEqDiff, Nat.reduceLT, Nat.reduceLeDiff, ne_eq, not_true_eq_false, not_false_eq_true, or_true, true_or, or_false, false_or, and_true, true_and, false_and, and_false, if_true, if_false, ite_true, ite_false, reduceIte, kl_0, kl_1, kl_2, kl_3, kl_6, kl_20, kl_50, kl_500, kl_999, kl_2400, kl_2g, in_t, in_tt, in_f, in_ff, in_n, if_pos, if_neg, eq_self, nI_n1, n1_nI, nI_an1, lesser_n1, lesser_rn, lesser_n, kx_n1, e]; done) | (simp (disch := omega) only [L_0, L_1, L_2, L_3, L_4, L_5, L_6, L_7, L_8, L_9, L_10, L_11, L_12, L_16, L_18, L_20, L_24, L_25, L_30, L_32, L_38, L_40, L_48, L_50, L_60, L_63, L_64, L_72, L_99, L_100, L_160, L_500, L_999, L_1380, L_1400, L_2400, L_2401, L_60025, L_100000, L_1000000, L_100000000, L_2000000000, nI_add, pk_mul, nI_clamp, nI_leI, nI_ltI, nI_eq, kin_I, pk_sub, nI_m1, m1_nI, nI_am1, kx_max, kx_min, kt_tx, kt_rp, kg_si, kg_sl, kq_si, kq_sl, kv_si, kv_sl, Nat.reduceAdd, Nat.reduceMul, Nat.reduceSub, Nat.reduceEqDiff, Nat.reduceLT, Nat.reduceLeDiff, ne_eq, not_true_eq_false, not_false_eq_true, or_true, true_or, or_false, false_or, and_true, true_and, false_and, and_false, if_true, if_false, ite_true, ite_false, reduceIte, kl_0, kl_1, kl_2, kl_3, kl_6, kl_20, kl_50, kl_500, kl_999, kl_2400, kl_2g, in_t, in_tt, in_f, in_ff, in_n, if_pos, if_neg, eq_self, nI_n1, n1_nI, nI_an1, lesser_n1, lesser_rn, lesser_n, kx_n1, e]; omega) | decide)) ?_) | (with_reducible refine Wp_f (by (first | (simp (disch := omega) only [L_0, L_1, L_2, L_3, L_4, L_5, L_6, L_7, L_8, L_9, L_10, L_11, L_12, L_16, L_18, L_20, L_24, L_25, L_30, L_32, L_38, L_40, L_48, L_50, L_60, L_63, L_64, L_72, L_99, L_100, L_160, L_500, L_999, L_1380, L_1400, L_2400, L_2401, L_60025, L_100000, L_1000000, L_100000000, L_2000000000, nI_add, pk_mul, nI_clamp, nI_leI, nI_ltI, nI_eq, kin_I, pk_sub, nI_m1, m1_nI, nI_am1, kx_max, kx_min, kt_tx, kt_rp, kg_si, kg_sl, kq_si, kq_sl, kv_si, kv_sl, Nat.reduceAdd, Nat.reduceMul, Nat.reduceSub, Nat.reduceEqDiff, Nat.reduceLT, Nat.reduceLeDiff, ne_eq, not_true_eq_false, not_false_eq_true, or_true, true_or, or_false, false_or, and_true, true_and, false_and, and_false, if_true, if_false, ite_true, ite_false, reduceIte, kl_0, kl_1, kl_2, kl_3, kl_6, kl_20, kl_50, kl_500, kl_999, kl_2400, kl_2g, in_t, in_tt, in_f, in_ff, in_n, if_pos, if_neg, eq_self, nI_n1, n1_nI, nI_an1, lesser_n1, lesser_rn, lesser_n, kx_n1, e]; done) | (simp (disch := omega) only [L_0, L_1, L_2, L_3, L_4, L_5, L_6, L_7, L_8, L_9, L_10, L_11, L_12, L_16, L_18, L_20, L_24, L_25, L_30, L_32, L_38, L_40, L_48, L_50, L_60, L_63, L_64, L_72, L_99, L_100, L_160, L_500, L_999, L_1380, L_1400, L_2400, L_2401, L_60025, L_100000, L_1000000, L_100000000, L_2000000000, nI_add, pk_mul, nI_clamp, nI_leI, nI_ltI, nI_eq, kin_I, pk_sub, nI_m1, m1_nI, nI_am1, kx_max, kx_min, kt_tx, kt_rp, kg_si, kg_sl, kq_si, kq_sl, kv_si, kv_sl, Nat.reduceAdd, Nat.reduceMul, Nat.reduceSub, Nat.reduceEqDiff, Nat.reduceLT, Nat.reduceLeDiff, ne_eq, not_true_eq_false, not_false_eq_true, or_true, true_or, or_false, false_or, and_true, true_and, false_and, and_false, if_true, if_false, ite_true, ite_false, reduceIte, kl_0, kl_1, kl_2, kl_3, kl_6, kl_20, kl_50, kl_500, kl_999, kl_2400, kl_2g, in_t, in_tt, in_f, in_ff, in_n, if_pos, if_neg, eq_self, nI_n1, n1_nI, nI_an1, lesser_n1, lesser_rn, lesser_n, kx_n1, e]; omega) | decide)) ?_))); try simp (disch := omega) only [nI_1, kt_rp, kt_tx]
        first | exact ⟨rfl, hF2.trans (f3.fr tm_s)⟩ | exact ⟨trivial, hF2.trans (f3.fr tm_s)⟩
    | some v =>
      have hv2 := hD.2 a v hv
      have h5 := cB_5 ha hv
      obtain ⟨ans, a1, a2, a3⟩ := by_w (g := g) p4 hV hp hb hD 5 a 0 v ha hv (by omega) (by omega)
      refine ⟨ans, cls M hK ans (fun M1 hM1 => ?_), fun M hK => ?_⟩
      · unfold f_X9_ropeOfFirst
        exact a2 M1 kr_F (kr_F_gt _ (by omega)) hM1
      · unfold f_X12_by; refine Wp_letI ?_; intro M1 hM1; have hK1 : KS M1 g G := (by rw [← hM1]; exact hK.fr (Fr.thrown _ _)); have hF1 : Fr M M1 := (by rw [← hM1]; exact Fr.thrown _ _); clear hM1; have hV := hK1.V; have hR1 := hK1.R; have hR2 := hR1; obtain ⟨r0, rPl, rWe, rOd, rKi, rWo, rRo, rPe, rAc, rInc, rWa, rL, rMn, rW, rA, rB, rLd, rWg, rPc⟩ := hR2
        rw [iw_t hV hR1 hp ha hb]
        refine Wp_bis (Wp_t (by decide) ?_)
        refine Wp_bv _ hK1.lays (fun M2 ⟨hL, hFL, hK2⟩ => ?_); have hF2 := hF1.trans hFL.fr; have hR2 := hK2.R; have hL' := hL; have hR2' := hR2; obtain ⟨lN, lK, lCr, lSt, lWt⟩ := hL'; obtain ⟨r0, rPl, rWe, rOd, rKi, rWo, rRo, rPe, rAc, rInc, rWa, rL, rMn, rW, rA, rB, rLd, rWg, rPc⟩ := hR2'
        refine Wp_bv _ (tm_ok (wo := -1) hV hR2 hL hp (by omega : b < 6)) (fun M3 ⟨⟨t, t1, t2, t3⟩, f3⟩ => ?_)
        have e := t1 a (by omega)
        rw [isD_u (t2 a) (hD.1 a ha), hv] at e
        have e : M3.1 381 a = nI v := e
        refine Wp_t ((kin_I (by omega)).mpr (by omega)) ?_
        refine Wp_letI ?_; intro x ex
        rw [nI_clamp (by omega), e] at ex
        subst ex
        refine Wp_f (by rw [L_100000000]; exact nI_ge (by omega) (by omega)) ?_
        by_cases c : p4.toInt < 0
        · refine Wp_f (fun q => ?_) (Wp_some ⟨(a1 c).symm, hF2.trans (f3.fr tm_s)⟩)
          have := kz_le.mp q
          have : (0 : Int32).toInt = 0 := rfl
          omega
        · refine Wp_t (kz_le.mpr (by have : (0 : Int32).toInt = 0 := rfl; omega)) ?_
          exact Wp_of (a3 M3 kr_F (kr_F_gt _ (by omega)) ⟨tmG hR2 f3, tmL hL f3, fun k hk => by rw [t1 k (by omega), isD_u (t2 k) (hD.1 k hk)]⟩) ⟨rfl, hF2.trans (f3.fr tm_s)⟩
  · refine ⟨-2, ?_, fun M hK => ?_⟩
    · unfold f_X11_by
      rw [w1 M g hK]
      exact Wp_bis (Wp_f (fun q => q rfl) (Wp_some ⟨rfl, Fr.refl M⟩))
    · unfold f_X12_by; refine Wp_letI ?_; intro M1 hM1; have hK1 : KS M1 g G := (by rw [← hM1]; exact hK.fr (Fr.thrown _ _)); have hF1 : Fr M M1 := (by rw [← hM1]; exact Fr.thrown _ _); clear hM1; have hV := hK1.V; have hR1 := hK1.R; have hR2 := hR1; obtain ⟨r0, rPl, rWe, rOd, rKi, rWo, rRo, rPe, rAc, rInc, rWa, rL, rMn, rW, rA, rB, rLd, rWg, rPc⟩ := hR2
      rw [w2 M1 hR1]
      exact Wp_bis (Wp_f (fun q => q rfl) (Wp_some ⟨rfl, hF1⟩))
