/-! GORGE: bytes and tokens; the class's next token -/
def rn (P : Int32 → Bool) (b : Nat → Int32) : Nat → Nat → Nat
  | 0, p => p
  | f + 1, p => if P (b p) = true then rn P b f (p + 1) else p
def run (P : Int32 → Bool) (b : Nat → Int32) (n p : Nat) : Nat := rn P b (n - p) p
theorem run_e {P : Int32 → Bool} {b : Nat → Int32} {n p : Nat} (h : n ≤ p) : run P b n p = p := by
  unfold run
  rw [show n - p = 0 by omega]
  rfl
theorem run_s {P : Int32 → Bool} {b : Nat → Int32} {n p : Nat} (h : p < n) : run P b n p = if P (b p) = true then run P b n (p + 1) else p := by
  unfold run
  obtain ⟨m, hm⟩ : ∃ m, n - p = m + 1 := ⟨n - p - 1, by omega⟩
  rw [hm, rn, show n - (p + 1) = m by omega]
theorem rn_b {P : Int32 → Bool} {b : Nat → Int32} : ∀ f p, p ≤ rn P b f p ∧ rn P b f p ≤ p + f ∧ ∀ j, p ≤ j → j < rn P b f p → P (b j) = true
  | 0, p => ⟨Nat.le_refl _, Nat.le_refl _, fun j h1 h2 => by have h2 : j < p := h2; omega⟩
  | f + 1, p => by
    rw [rn]
    by_cases c : P (b p) = true
    · rw [if_pos c]
      obtain ⟨h1, h2, h3⟩ := rn_b (P := P) (b := b) f (p + 1)
      refine ⟨by omega, by omega, fun j a1 a2 => ?_⟩
      by_cases e : j = p
      · rw [e]; exact c
      · exact h3 j (by omega) a2
    · rw [if_neg c]
      exact ⟨Nat.le_refl _, by omega, fun j h1 h2 => by omega⟩
theorem run_b {P : Int32 → Bool} {b : Nat → Int32} {n p : Nat} (h : p ≤ n) : p ≤ run P b n p ∧ run P b n p ≤ n ∧ ∀ j, p ≤ j → j < run P b n p → P (b j) = true := by
  obtain ⟨h1, h2, h3⟩ := rn_b (P := P) (b := b) (n - p) p
  exact ⟨h1, by unfold run; omega, h3⟩
def wsB (z : Int32) : Bool := decide (z = 32 ∨ z = 10)
def ltB (z : Int32) : Bool := decide (¬ z < 97 ∧ ¬ 122 < z)
def dgB (z : Int32) : Bool := decide (¬ z < 48 ∧ ¬ 57 < z)
theorem wsB_t {z : Int32} : wsB z = true ↔ (z = 32 ∨ z = 10) := by unfold wsB; exact decide_eq_true_iff
theorem ltB_t {z : Int32} : ltB z = true ↔ (¬ z < 97 ∧ ¬ 122 < z) := by unfold ltB; exact decide_eq_true_iff
theorem dgB_t {z : Int32} : dgB z = true ↔ (¬ z < 48 ∧ ¬ 57 < z) := by unfold dgB; exact decide_eq_true_iff
theorem dg_nI {z : Int32} (h : dgB z = true) : ∃ d, 48 ≤ d ∧ d ≤ 57 ∧ z = nI d := by
  obtain ⟨h1, h2⟩ := dgB_t.mp h
  rw [kz_lt, show (48 : Int32).toInt = 48 from rfl] at h1
  rw [kz_lt, show (57 : Int32).toInt = 57 from rfl] at h2
  exact ⟨zn z, by unfold zn; omega, by unfold zn; omega, zn_of (by omega)⟩
theorem lt_nI {z : Int32} (h : ltB z = true) : ∃ d, 97 ≤ d ∧ d ≤ 122 ∧ z = nI d := by
  obtain ⟨h1, h2⟩ := ltB_t.mp h
  rw [kz_lt, show (97 : Int32).toInt = 97 from rfl] at h1
  rw [kz_lt, show (122 : Int32).toInt = 122 from rfl] at h2
  exact ⟨zn z, by unfold zn; omega, by unfold zn; omega, zn_of (by omega)⟩
def dv (b : Nat → Int32) : Nat → Nat → Nat → Nat
  | 0, _, v => v
  | f + 1, p, v => if dgB (b p) = true then dv b f (p + 1) (min (10 * v + (zn (b p) - 48)) 100000) else v
def dvR (b : Nat → Int32) (n p v : Nat) : Nat := dv b (n - p) p v
theorem dv_e {b : Nat → Int32} {n p v : Nat} (h : n ≤ p) : dvR b n p v = v := by
  unfold dvR
  rw [show n - p = 0 by omega]
  rfl
theorem dv_s {b : Nat → Int32} {n p v : Nat} (h : p < n) : dvR b n p v = if dgB (b p) = true then dvR b n (p + 1) (min (10 * v + (zn (b p) - 48)) 100000) else v := by
  unfold dvR
  obtain ⟨m, hm⟩ : ∃ m, n - p = m + 1 := ⟨n - p - 1, by omega⟩
  rw [hm, dv, show n - (p + 1) = m by omega]
theorem dv_b {b : Nat → Int32} : ∀ f p v, v ≤ 100000 → dv b f p v ≤ 100000
  | 0, _, v, h => h
  | f + 1, p, v, h => by
    rw [dv]
    by_cases c : dgB (b p) = true
    · rw [if_pos c]; exact dv_b f _ _ (by omega)
    · rw [if_neg c]; exact h
/-- the token that begins at s: its kind, its end, its value -/
def tk (b : Nat → Int32) (n s : Nat) : Nat := if s < n then (if ltB (b s) = true then 1 else if dgB (b s) = true then 2 else if b s = 59 then 3 else 4) else 0
def te (b : Nat → Int32) (n s : Nat) : Nat := if s < n then (if ltB (b s) = true then run ltB b n s else if dgB (b s) = true then run dgB b n s else s + 1) else s
def tv (b : Nat → Int32) (n s : Nat) : Nat := if s < n then (if ltB (b s) = true then 0 else if dgB (b s) = true then dvR b n s 0 else 0) else 0
theorem te_b {b : Nat → Int32} {n s : Nat} (h : s ≤ n) : s ≤ te b n s ∧ te b n s ≤ n := by
  unfold te
  have h1 := run_b (P := ltB) (b := b) h
  have h2 := run_b (P := dgB) (b := b) h
  by_cases c : s < n
  · rw [if_pos c]
    by_cases d : ltB (b s) = true
    · rw [if_pos d]; omega
    · rw [if_neg d]
      by_cases e : dgB (b s) = true
      · rw [if_pos e]; omega
      · rw [if_neg e]; omega
  · rw [if_neg c]; omega
theorem tv_b (b : Nat → Int32) (n s : Nat) : tv b n s ≤ 100000 := by
  unfold tv
  have := dv_b (b := b) (n - s) s 0 (by omega)
  have h : dvR b n s 0 ≤ 100000 := this
  split
  · split
    · omega
    · split <;> omega
  · omega
theorem tk_b (b : Nat → Int32) (n s : Nat) : tk b n s ≤ 4 := by
  unfold tk
  split
  · split
    · omega
    · split
      · omega
      · split <;> omega
  · omega
def nxt_ (b : Nat → Int32) (n s : Nat) : Nat := run wsB b n (te b n s)
theorem nxt_b {b : Nat → Int32} {n s : Nat} (h : s ≤ n) : nxt_ b n s ≤ n := (run_b (te_b h).2).2.1
/-! the class -/
def TC (M : kr_M) (b : Nat → Int32) (n : Nat) : Prop := M.1 1 1 = nI n ∧ n ≤ 1400 ∧ ∀ j, j < n → M.1 2 j = b j
def CK (M : kr_M) (b : Nat → Int32) (n s : Nat) : Prop := s ≤ n ∧ M.1 1 4 = nI (tk b n s) ∧ M.1 1 5 = nI s ∧ M.1 1 6 = nI (te b n s) ∧ M.1 1 7 = nI (tv b n s)
abbrev tnX : Nat → Nat → Prop := fun a j => a = 1 ∧ 4 ≤ j ∧ j ≤ 7
theorem TC.fx {M M' : kr_M} {b : Nat → Int32} {n : Nat} {S : Nat → Nat → Prop} (h : TC M b n) (hf : Fx S M M') (h1 : ¬ S 1 1) (h2 : ∀ j, ¬ S 2 j) : TC M' b n := ⟨by rw [hf.1 1 1 h1]; exact h.1, h.2.1, fun j hj => by rw [hf.1 2 j (h2 j)]; exact h.2.2 j hj⟩
theorem TC.tn {M M' : kr_M} {b : Nat → Int32} {n : Nat} (h : TC M b n) (hf : Fx tnX M M') : TC M' b n := h.fx hf (fun q => by have q : 1 = 1 ∧ 4 ≤ 1 ∧ 1 ≤ 7 := q; omega) (fun j q => by have q : 2 = 1 ∧ 4 ≤ j ∧ j ≤ 7 := q; omega)
theorem isL_ok (z : Int32) (M : kr_M) : f_X6_isLetter z M = some (if ltB z = true then 1 else 0, M) := by
  apply Wp_eq
  unfold f_X6_isLetter
  by_cases c : z < 97
  · exact Wp_t c (Wp_some (by rw [if_neg (fun q => (ltB_t.mp q).1 c)]))
  · refine Wp_f c ?_
    by_cases d : 122 < z
    · exact Wp_t d (Wp_some (by rw [if_neg (fun q => (ltB_t.mp q).2 d)]))
    · exact Wp_f d (Wp_some (by rw [if_pos (ltB_t.mpr ⟨c, d⟩)]))
theorem isD_ok (z : Int32) (M : kr_M) : f_X6_isDigit z M = some (if dgB z = true then 1 else 0, M) := by
  apply Wp_eq
  unfold f_X6_isDigit
  by_cases c : z < 48
  · exact Wp_t c (Wp_some (by rw [if_neg (fun q => (dgB_t.mp q).1 c)]))
  · refine Wp_f c ?_
    by_cases d : 57 < z
    · exact Wp_t d (Wp_some (by rw [if_neg (fun q => (dgB_t.mp q).2 d)]))
    · exact Wp_f d (Wp_some (by rw [if_pos (dgB_t.mpr ⟨c, d⟩)]))
theorem c_lt {M0 : kr_M} {b : Nat → Int32} {n : Nat} : ∀ n' p M, p ≤ n → n - p < n' → TC M b n → M.1 1 6 = nI p → Fx (fun a j => a = 1 ∧ j = 6) M0 M → Wp (f_X6_next_125 n' M) (fun M' => M'.1 1 6 = nI (run ltB b n p) ∧ Fx (fun a j => a = 1 ∧ j = 6) M0 M') := by
  intro n'
  induction n' with
  | zero => intro p M h1 h2; omega
  | succ n' ih =>
    intro p M h1 h2 hT h6 hF
    obtain ⟨t1, t2, t3⟩ := hT
    rw [f_X6_next_125]
    refine Wp_letI ?_; intro v ev
    rw [h6] at ev
    subst ev
    refine Wp_letI ?_; intro v ev
    rw [t1] at ev
    subst ev
    by_cases c : p = n
    · refine Wp_t (nI_le (by omega) (by omega)) (Wp_some ⟨?_, hF⟩)
      rw [run_e (by omega)]; exact h6
    · refine Wp_f (nI_ge (by omega) (by omega)) ?_
      refine Wp_letI ?_; intro v ev
      rw [h6] at ev
      subst ev
      refine Wp_t ((kin_I (by omega)).mpr (by omega)) ?_
      refine Wp_letI ?_; intro v ev
      rw [nI_clamp (by omega), t3 p (by omega)] at ev
      subst ev
      rw [isL_ok]
      refine Wp_bis ?_
      rw [run_s (by omega)]
      by_cases d : ltB (b p) = true
      · rw [if_pos d, if_pos d]
        refine Wp_f (by decide) ?_
        refine Wp_letI ?_; intro v ev
        rw [h6] at ev
        subst ev
        refine Wp_letI ?_; intro M1 e1
        rw [L_1, nI_add] at e1
        have hf : Fx (fun a j => a = 1 ∧ j = 6) M M1 := by rw [← e1]; exact (Fx.refl M).si _ ⟨rfl, rfl⟩
        exact ih (p + 1) M1 (by omega) (by omega) (TC.fx ⟨t1, t2, t3⟩ hf (fun q => by have q : 1 = 1 ∧ 1 = 6 := q; omega) (fun j q => by have q : 2 = 1 ∧ j = 6 := q; omega)) (by rw [← e1, kr_si_at]) (hF.trans hf)
      · rw [if_neg d, if_neg d]
        exact Wp_t rfl (Wp_some ⟨h6, hF⟩)
theorem c_dg {M0 : kr_M} {b : Nat → Int32} {n : Nat} : ∀ n' p v M, p ≤ n → n - p < n' → v ≤ 100000 → TC M b n → M.1 1 6 = nI p → M.1 1 7 = nI v → Fx (fun a j => a = 1 ∧ (j = 6 ∨ j = 7)) M0 M → Wp (f_X6_next_184 n' M) (fun M' => M'.1 1 6 = nI (run dgB b n p) ∧ M'.1 1 7 = nI (dvR b n p v) ∧ Fx (fun a j => a = 1 ∧ (j = 6 ∨ j = 7)) M0 M') := by
  intro n'
  induction n' with
  | zero => intro p v M h1 h2; omega
  | succ n' ih =>
    intro p v M h1 h2 hv hT h6 h7 hF
    obtain ⟨t1, t2, t3⟩ := hT
    rw [f_X6_next_184]
    refine Wp_letI ?_; intro x ev
    rw [h6] at ev
    subst ev
    refine Wp_letI ?_; intro x ev
    rw [t1] at ev
    subst ev
    by_cases c : p = n
    · refine Wp_t (nI_le (by omega) (by omega)) (Wp_some ⟨?_, ?_, hF⟩)
      · rw [run_e (by omega)]; exact h6
      · rw [dv_e (by omega)]; exact h7
    · refine Wp_f (nI_ge (by omega) (by omega)) ?_
      refine Wp_letI ?_; intro x ev
      rw [h6] at ev
      subst ev
      refine Wp_t ((kin_I (by omega)).mpr (by omega)) ?_
      refine Wp_letI ?_; intro x ev
      rw [nI_clamp (by omega), t3 p (by omega)] at ev
      subst ev
      rw [isD_ok]
      refine Wp_bis ?_
      rw [run_s (by omega), dv_s (by omega)]
      by_cases d : dgB (b p) = true
      · rw [if_pos d, if_pos d, if_pos d]
        refine Wp_f (by decide) ?_
        refine Wp_letI ?_; intro x ev
        rw [h7] at ev
        subst ev
        refine Wp_letI ?_; intro x ev
        rw [h6] at ev
        subst ev
        refine Wp_t ((kin_I (by omega)).mpr (by omega)) ?_
        refine Wp_letI ?_; intro x ev
        rw [nI_clamp (by omega), t3 p (by omega)] at ev
        obtain ⟨e, e1, e2, e3⟩ := dg_nI d
        rw [e3] at ev
        subst ev
        refine Wp_letI ?_; intro M1 y1
        rw [L_10, pk_mul, nI_add, show (48 : Int32) = nI 48 from rfl, pk_sub (by omega), L_100000, kx_min (by omega) (by omega)] at y1
        refine Wp_letI ?_; intro x ev
        rw [← y1, kg_si, if_neg (by omega), h6] at ev
        subst ev
        refine Wp_letI ?_; intro M2 y2
        rw [L_1, nI_add] at y2
        have hf : Fx (fun a j => a = 1 ∧ (j = 6 ∨ j = 7)) M M2 := by rw [← y2, ← y1]; exact ((Fx.refl M).si _ ⟨rfl, Or.inr rfl⟩).si _ ⟨rfl, Or.inl rfl⟩
        refine ih (p + 1) _ M2 (by omega) (by omega) (by omega) (TC.fx ⟨t1, t2, t3⟩ hf (fun q => by have q : 1 = 1 ∧ (1 = 6 ∨ 1 = 7) := q; omega) (fun j q => by have q : 2 = 1 ∧ (j = 6 ∨ j = 7) := q; omega)) ?_ ?_ (hF.trans hf)
        · rw [← y2, kr_si_at]
        · rw [← y2, kg_si, if_neg (by omega), ← y1, kr_si_at, e3, zn_nI (by omega), show 10 * v + e - 48 = 10 * v + (e - 48) by omega]
      · rw [if_neg d, if_neg d, if_neg d]
        exact Wp_t rfl (Wp_some ⟨h6, h7, hF⟩)
theorem c_73 {M : kr_M} {b : Nat → Int32} {n s : Nat} (hT : TC M b n) (hs : s ≤ n) (h5 : M.1 1 5 = nI s) : Wp (f_X6_next_73 M) (fun M' => CK M' b n s ∧ Fx tnX M M') := by
  obtain ⟨t1, t2, t3⟩ := hT
  unfold f_X6_next_73
  refine Wp_letI ?_; intro v ev
  rw [h5] at ev
  subst ev
  refine Wp_letI ?_; intro M2 e2
  refine Wp_letI ?_; intro M3 e3
  have hf : Fx tnX M M3 := by rw [← e3, ← e2]; exact ((Fx.refl M).si _ ⟨rfl, by omega, by omega⟩).si _ ⟨rfl, by omega, by omega⟩
  have hT3 := TC.tn ⟨t1, t2, t3⟩ hf
  have a5 : M3.1 1 5 = nI s := by rw [← e3, kg_si, if_neg (by omega), ← e2, kg_si, if_neg (by omega)]; exact h5
  have a6 : M3.1 1 6 = nI s := by rw [← e3, kg_si, if_neg (by omega), ← e2, kr_si_at]
  have a7 : M3.1 1 7 = nI 0 := by rw [← e3, kr_si_at]; rfl
  refine Wp_letI ?_; intro v ev
  rw [a5] at ev
  subst ev
  refine Wp_letI ?_; intro v ev
  rw [hT3.1] at ev
  subst ev
  by_cases c : s < n
  · refine Wp_t ((nI_ltI (by omega) (by omega)).mpr c) ?_
    refine Wp_letI ?_; intro v ev
    rw [a5] at ev
    subst ev
    refine Wp_t ((kin_I (by omega)).mpr (by omega)) ?_
    refine Wp_letI ?_; intro v ev
    rw [nI_clamp (by omega), hT3.2.2 s c] at ev
    subst ev
    rw [isL_ok]
    refine Wp_bis ?_
    by_cases d : ltB (b s) = true
    · rw [if_pos d]
      refine Wp_f (by decide) ?_
      refine Wp_letI ?_; intro M4 e4
      have hf4 : Fx tnX M3 M4 := by rw [← e4]; exact (Fx.refl M3).si _ ⟨rfl, by omega, by omega⟩
      refine Wp_mono (c_lt (M0 := M4) kr_F s M4 (by omega) (kr_F_gt _ (by omega)) (hT3.tn hf4) (by rw [← e4, kg_si, if_neg (by omega)]; exact a6) (Fx.refl M4)) (fun M5 ⟨q1, q2⟩ => ⟨⟨hs, ?_, ?_, ?_, ?_⟩, (hf.trans hf4).trans (q2.mono (fun a j q => ⟨q.1, by omega, by omega⟩))⟩)
      · rw [q2.1 1 4 (fun q => by have q : 1 = 1 ∧ 4 = 6 := q; omega), ← e4, kr_si_at]; unfold tk; rw [if_pos c, if_pos d]; rfl
      · rw [q2.1 1 5 (fun q => by have q : 1 = 1 ∧ 5 = 6 := q; omega), ← e4, kg_si, if_neg (by omega)]; exact a5
      · rw [q1]; unfold te; rw [if_pos c, if_pos d]
      · rw [q2.1 1 7 (fun q => by have q : 1 = 1 ∧ 7 = 6 := q; omega), ← e4, kg_si, if_neg (by omega), a7]; unfold tv; rw [if_pos c, if_pos d]
    · rw [if_neg d]
      refine Wp_t rfl ?_
      refine Wp_letI ?_; intro v ev
      rw [a5] at ev
      subst ev
      refine Wp_t ((kin_I (by omega)).mpr (by omega)) ?_
      refine Wp_letI ?_; intro v ev
      rw [nI_clamp (by omega), hT3.2.2 s c] at ev
      subst ev
      rw [isD_ok]
      refine Wp_bis ?_
      by_cases e : dgB (b s) = true
      · rw [if_pos e]
        refine Wp_f (by decide) ?_
        refine Wp_letI ?_; intro M4 e4
        have hf4 : Fx tnX M3 M4 := by rw [← e4]; exact (Fx.refl M3).si _ ⟨rfl, by omega, by omega⟩
        refine Wp_mono (c_dg (M0 := M4) kr_F s 0 M4 (by omega) (kr_F_gt _ (by omega)) (by omega) (hT3.tn hf4) (by rw [← e4, kg_si, if_neg (by omega)]; exact a6) (by rw [← e4, kg_si, if_neg (by omega)]; exact a7) (Fx.refl M4)) (fun M5 ⟨q1, q3, q2⟩ => ⟨⟨hs, ?_, ?_, ?_, ?_⟩, (hf.trans hf4).trans (q2.mono (fun a j q => ⟨q.1, by omega, by omega⟩))⟩)
        · rw [q2.1 1 4 (fun q => by have q : 1 = 1 ∧ (4 = 6 ∨ 4 = 7) := q; omega), ← e4, kr_si_at]; unfold tk; rw [if_pos c, if_neg d, if_pos e]; rfl
        · rw [q2.1 1 5 (fun q => by have q : 1 = 1 ∧ (5 = 6 ∨ 5 = 7) := q; omega), ← e4, kg_si, if_neg (by omega)]; exact a5
        · rw [q1]; unfold te; rw [if_pos c, if_neg d, if_pos e]
        · rw [q3]; unfold tv; rw [if_pos c, if_neg d, if_pos e]
      · rw [if_neg e]
        refine Wp_t rfl ?_
        refine Wp_letI ?_; intro v ev
        rw [a5] at ev
        subst ev
        refine Wp_t ((kin_I (by omega)).mpr (by omega)) ?_
        refine Wp_letI ?_; intro v ev
        rw [nI_clamp (by omega), hT3.2.2 s c] at ev
        subst ev
        have fin : ∀ z, nI z = nI (tk b n s) → Wp (f_X6_next_272 (nI z) M3) (fun M' => CK M' b n s ∧ Fx tnX M M') := fun z hz => by
          unfold f_X6_next_272
          refine Wp_letI ?_; intro M4 e4
          refine Wp_letI ?_; intro v ev
          rw [← e4, kg_si, if_neg (by omega), a6] at ev
          subst ev
          refine Wp_letI ?_; intro M5 e5
          rw [L_1, nI_add] at e5
          have hf5 : Fx tnX M3 M5 := by rw [← e5, ← e4]; exact ((Fx.refl M3).si _ ⟨rfl, by omega, by omega⟩).si _ ⟨rfl, by omega, by omega⟩
          refine Wp_some ⟨⟨hs, ?_, ?_, ?_, ?_⟩, hf.trans hf5⟩
          · rw [← e5, kg_si, if_neg (by omega), ← e4, kr_si_at]; exact hz
          · rw [← e5, kg_si, if_neg (by omega), ← e4, kg_si, if_neg (by omega)]; exact a5
          · rw [← e5, kr_si_at]; unfold te; rw [if_pos c, if_neg d, if_neg e]
          · rw [← e5, kg_si, if_neg (by omega), ← e4, kg_si, if_neg (by omega), a7]; unfold tv; rw [if_pos c, if_neg d, if_neg e]
        by_cases f : b s = 59
        · refine Wp_f (fun q => q f) (fin 3 ?_)
          unfold tk; rw [if_pos c, if_neg d, if_neg e, if_pos f]
        · refine Wp_t f (fin 4 ?_)
          unfold tk; rw [if_pos c, if_neg d, if_neg e, if_neg f]
  · refine Wp_f (fun q => c ((nI_ltI (by omega) (by omega)).mp q)) ?_
    refine Wp_letI ?_; intro M4 e4
    have hf4 : Fx tnX M3 M4 := by rw [← e4]; exact (Fx.refl M3).si _ ⟨rfl, by omega, by omega⟩
    refine Wp_some ⟨⟨hs, ?_, ?_, ?_, ?_⟩, hf.trans hf4⟩
    · rw [← e4, kr_si_at]; unfold tk; rw [if_neg c]; rfl
    · rw [← e4, kg_si, if_neg (by omega)]; exact a5
    · rw [← e4, kg_si, if_neg (by omega)]; unfold te; rw [if_neg c]; exact a6
    · rw [← e4, kg_si, if_neg (by omega)]; unfold tv; rw [if_neg c]; exact a7
theorem c_21 {M0 : kr_M} {b : Nat → Int32} {n : Nat} : ∀ n' p M, p ≤ n → n - p < n' → TC M b n → M.1 1 5 = nI p → Fx tnX M0 M → Wp (f_X6_next_21 n' M) (fun M' => CK M' b n (run wsB b n p) ∧ Fx tnX M0 M') := by
  intro n'
  induction n' with
  | zero => intro p M h1 h2; omega
  | succ n' ih =>
    intro p M h1 h2 hT h5 hF
    obtain ⟨t1, t2, t3⟩ := hT
    rw [f_X6_next_21]
    refine Wp_letI ?_; intro v ev
    rw [h5] at ev
    subst ev
    refine Wp_letI ?_; intro v ev
    rw [t1] at ev
    subst ev
    by_cases c : p = n
    · refine Wp_t (nI_le (by omega) (by omega)) ?_
      rw [run_e (by omega)]
      exact Wp_mono (c_73 ⟨t1, t2, t3⟩ h1 h5) (fun M' q => ⟨q.1, hF.trans q.2⟩)
    · refine Wp_f (nI_ge (by omega) (by omega)) ?_
      have go : Wp (f_X6_next_60 (f_X6_next_21 n') M) (fun M' => CK M' b n (run wsB b n (p + 1)) ∧ Fx tnX M0 M') := by
        unfold f_X6_next_60
        refine Wp_letI ?_; intro v ev
        rw [h5] at ev
        subst ev
        refine Wp_letI ?_; intro M1 e1
        rw [L_1, nI_add] at e1
        have hf : Fx tnX M M1 := by rw [← e1]; exact (Fx.refl M).si _ ⟨rfl, by omega, by omega⟩
        exact ih (p + 1) M1 (by omega) (by omega) (TC.tn ⟨t1, t2, t3⟩ hf) (by rw [← e1, kr_si_at]) (hF.trans hf)
      refine Wp_letI ?_; intro v ev
      rw [h5] at ev
      subst ev
      refine Wp_t ((kin_I (by omega)).mpr (by omega)) ?_
      refine Wp_letI ?_; intro v ev
      rw [nI_clamp (by omega), t3 p (by omega)] at ev
      subst ev
      rw [run_s (by omega)]
      by_cases d : b p = 32
      · rw [if_pos (wsB_t.mpr (Or.inl d))]
        exact Wp_t d go
      · refine Wp_f d ?_
        refine Wp_letI ?_; intro v ev
        rw [h5] at ev
        subst ev
        refine Wp_t ((kin_I (by omega)).mpr (by omega)) ?_
        refine Wp_letI ?_; intro v ev
        rw [nI_clamp (by omega), t3 p (by omega)] at ev
        subst ev
        by_cases e : b p = 10
        · rw [if_pos (wsB_t.mpr (Or.inr e))]
          exact Wp_f (fun q => q e) go
        · rw [if_neg (fun q => (wsB_t.mp q).elim d e)]
          exact Wp_t e (Wp_mono (c_73 ⟨t1, t2, t3⟩ h1 h5) (fun M' q => ⟨q.1, hF.trans q.2⟩))
theorem c_next {M : kr_M} {b : Nat → Int32} {n p : Nat} (hT : TC M b n) (h2 : M.1 1 2 = 0) (hp : p ≤ n) (h6 : M.1 1 6 = nI p) : Wp (f_X6_next M) (fun M' => CK M' b n (run wsB b n p) ∧ Fx tnX M M') := by
  unfold f_X6_next
  refine Wp_letI ?_; intro v ev
  rw [h2] at ev
  subst ev
  refine Wp_t rfl ?_
  refine Wp_letI ?_; intro v ev
  rw [h6] at ev
  subst ev
  refine Wp_letI ?_; intro M3 e3
  have hf : Fx tnX M M3 := by rw [← e3]; exact (Fx.refl M).si _ ⟨rfl, by omega, by omega⟩
  have := hT.2.1
  exact c_21 kr_F p M3 hp (kr_F_gt _ (by omega)) (hT.tn hf) (by rw [← e3, kr_si_at]) hf
