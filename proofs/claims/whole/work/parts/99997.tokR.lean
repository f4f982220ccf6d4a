/-! GORGE: the reference's tokens -/
def Fw (S : Nat → Nat → Prop) (M M' : kr_M) : Prop := (∀ a j, ¬ S a j → M'.1 a j = M.1 a j) ∧ (∀ a, a ≠ 346 → M'.2.1 a = M.2.1 a) ∧ M'.2.2 = M.2.2
theorem Fw.refl {S : Nat → Nat → Prop} (M : kr_M) : Fw S M M := ⟨fun _ _ _ => rfl, fun _ _ => rfl, rfl⟩
theorem Fw.trans {S : Nat → Nat → Prop} {M M1 M2 : kr_M} (h : Fw S M M1) (h2 : Fw S M1 M2) : Fw S M M2 := ⟨fun a j q => (h2.1 a j q).trans (h.1 a j q), fun a q => (h2.2.1 a q).trans (h.2.1 a q), h2.2.2.trans h.2.2⟩
theorem Fw.mono {S S' : Nat → Nat → Prop} {M M1 : kr_M} (h : Fw S M M1) (h2 : ∀ a j, S a j → S' a j) : Fw S' M M1 := ⟨fun a j q => h.1 a j (fun z => q (h2 a j z)), h.2⟩
theorem Fw.of {S : Nat → Nat → Prop} {M M1 : kr_M} (h : Fx S M M1) : Fw S M M1 := ⟨h.1, fun a _ => by rw [h.2], by rw [h.2]⟩
theorem Fw.si {S : Nat → Nat → Prop} {M M' : kr_M} (h : Fw S M M') {a k : Nat} (z : Int32) (ha : S a k) : Fw S M (kr_si M' a k z) := h.trans (Fw.of ((Fx.refl M').si z ha))
theorem Fw.sl {S : Nat → Nat → Prop} {M M' : kr_M} (h : Fw S M M') {k : Nat} (z : Int64) : Fw S M (kr_sl M' 346 k z) := by
  refine h.trans ⟨fun a j _ => rfl, fun a ha => ?_, rfl⟩
  funext j
  rw [kr_sl_at, if_neg (fun q => ha q.1)]
def TR (M : kr_M) (b : Nat → Int32) (n : Nat) : Prop := M.1 346 6 = nI n ∧ n ≤ 1400 ∧ ∀ j, j < n → M.1 351 j = b j
theorem TR.fz {M M' : kr_M} {b : Nat → Int32} {n : Nat} {S : Nat → Nat → Prop} (h : TR M b n) (hf : Fw S M M') (h1 : ¬ S 346 6) (h2 : ∀ j, ¬ S 351 j) : TR M' b n := ⟨by rw [hf.1 346 6 h1]; exact h.1, h.2.1, fun j hj => by rw [hf.1 351 j (h2 j)]; exact h.2.2 j hj⟩
abbrev rnX : Nat → Nat → Prop := fun a j => a = 346 ∧ 7 ≤ j ∧ j ≤ 13
theorem TR.rn {M M' : kr_M} {b : Nat → Int32} {n : Nat} (h : TR M b n) (hf : Fw rnX M M') : TR M' b n := h.fz hf (fun q => by have q : 346 = 346 ∧ 7 ≤ 6 ∧ 6 ≤ 13 := q; omega) (fun j q => by have q : 351 = 346 ∧ 7 ≤ j ∧ j ≤ 13 := q; omega)
theorem isB_ok {M : kr_M} {b : Nat → Int32} {n p : Nat} (hT : TR M b n) (hp : p ≤ n) (lo hi : Int32) : f_X12_isByte (nI p) lo hi M = some (if p < n ∧ ¬ b p < lo ∧ ¬ hi < b p then 1 else 0, M) := by
  obtain ⟨t1, t2, t3⟩ := hT
  apply Wp_eq
  unfold f_X12_isByte
  refine Wp_letI ?_; intro v ev
  rw [t1] at ev
  subst ev
  by_cases c : p < n
  · refine Wp_f (nI_ge c (by omega)) ?_
    refine Wp_t ((kin_I (by omega)).mpr (by omega)) ?_
    refine Wp_letI ?_; intro v ev
    rw [nI_clamp (by omega), t3 p c] at ev
    subst ev
    by_cases d : b p < lo
    · exact Wp_t d (Wp_some (by rw [if_neg (fun q => q.2.1 d)]))
    · refine Wp_f d ?_
      refine Wp_t ((kin_I (by omega)).mpr (by omega)) ?_
      refine Wp_letI ?_; intro v ev
      rw [nI_clamp (by omega), t3 p c] at ev
      subst ev
      by_cases e : hi < b p
      · exact Wp_t e (Wp_some (by rw [if_neg (fun q => q.2.2 e)]))
      · exact Wp_f e (Wp_some (by rw [if_pos ⟨c, d, e⟩]))
  · exact Wp_t (nI_le (by omega) (by omega)) (Wp_some (by rw [if_neg (fun q => c q.1)]))
theorem i_sq {x y : Int32} : (¬ x < y ∧ ¬ y < x) ↔ x = y := by
  rw [kz_lt, kz_lt, kz_eq]
  omega
/-- a word as a number -/
def hsD (d : Nat → Nat) : Nat → Nat
  | 0 => 0
  | m + 1 => 27 * hsD d m + d m
theorem hsD_b {d : Nat → Nat} : ∀ m, (∀ i, i < m → d i ≤ 26) → hsD d m < 27 ^ m
  | 0, _ => Nat.one_pos
  | m + 1, h => by
    have := hsD_b m (fun i hi => h i (by omega))
    have := h m (by omega)
    rw [hsD, Nat.pow_succ]
    omega
theorem hsD_p {d : Nat → Nat} {m : Nat} (h : ∀ i, i < m + 1 → 1 ≤ d i) : 0 < hsD d (m + 1) := by
  have := h m (by omega)
  rw [hsD]
  omega
theorem hsD_i {d e : Nat → Nat} : ∀ m k, (∀ i, i < m → 1 ≤ d i ∧ d i ≤ 26) → (∀ i, i < k → 1 ≤ e i ∧ e i ≤ 26) → (hsD d m = hsD e k ↔ (m = k ∧ ∀ i, i < k → d i = e i))
  | 0, 0, _, _ => ⟨fun _ => ⟨rfl, fun i hi => by omega⟩, fun _ => rfl⟩
  | 0, k + 1, _, h => ⟨fun q => by have q : 0 = hsD e (k + 1) := q; have := hsD_p (fun i hi => (h i hi).1); omega, fun q => by omega⟩
  | m + 1, 0, h, _ => ⟨fun q => by have q : hsD d (m + 1) = 0 := q; have := hsD_p (fun i hi => (h i hi).1); omega, fun q => by omega⟩
  | m + 1, k + 1, h1, h2 => by
    have ih := hsD_i m k (fun i hi => h1 i (by omega)) (fun i hi => h2 i (by omega))
    have a1 := h1 m (by omega)
    have a2 := h2 k (by omega)
    rw [hsD, hsD]
    constructor
    · intro q
      have q1 : hsD d m = hsD e k := by omega
      obtain ⟨z1, z2⟩ := ih.mp q1
      subst z1
      refine ⟨rfl, fun i hi => ?_⟩
      by_cases z : i = m
      · subst z; omega
      · exact z2 i (by omega)
    · intro ⟨z1, z2⟩
      have z1 : m = k := by omega
      subst z1
      have := ih.mpr ⟨rfl, fun i hi => z2 i (by omega)⟩
      have := z2 m (by omega)
      omega
def wHl : List Int64 := [4028648, 235981828, 456399, 298288, 227144, 136645372, 456392, 464134, 7008274, 365666, 555, 1162531, 411, 232608281, 332864551, 315743, 47]
def wH (l : Nat) : Int64 := wHl.getD l 0
def wHn (l : Nat) : Nat := hsD (fun i => zn (kr_sch l (nI i)) - 96) (sln l)
theorem wH_n : ∀ l, l < 17 → wH l = lN (wHn l) ∧ wHn l < 2 ^ 31 := by decide +kernel
theorem wH_c : ∀ l, l < 17 → ∀ i, i < sln l → 97 ≤ zn (kr_sch l (nI i)) ∧ zn (kr_sch l (nI i)) ≤ 122 ∧ kr_sch l (nI i) = nI (zn (kr_sch l (nI i))) := by decide +kernel
theorem p27 : (27 : Nat) ^ 12 < 2 ^ 62 := by decide +kernel
def hW64 (b : Nat → Int32) (s m : Nat) : Int64 := if m ≤ 12 then lN (hsD (fun i => zn (b (s + i)) - 96) m) else -1
theorem hW_is {b : Nat → Int32} {s m l : Nat} (hl : l < 17) (hm : ∀ i, i < m → ltB (b (s + i)) = true) : hW64 b s m = wH l ↔ (m = sln l ∧ ∀ i, i < sln l → b (s + i) = kr_sch l (nI i)) := by
  obtain ⟨w1, w2⟩ := wH_n l hl
  have hb := sln_b l hl
  have dg : ∀ i, i < m → 97 ≤ zn (b (s + i)) ∧ zn (b (s + i)) ≤ 122 ∧ b (s + i) = nI (zn (b (s + i))) := fun i hi => by
    obtain ⟨e, e1, e2, e3⟩ := lt_nI (hm i hi)
    rw [e3, zn_nI (by omega)]
    exact ⟨e1, e2, rfl⟩
  unfold hW64
  by_cases c : m ≤ 12
  · rw [if_pos c, w1]
    have b1 := hsD_b (d := fun i => zn (b (s + i)) - 96) m (fun i hi => by have := dg i hi; show zn (b (s + i)) - 96 ≤ 26; omega)
    have b2 : (27 : Nat) ^ m ≤ 27 ^ 12 := Nat.pow_le_pow_right (by omega) c
    have b3 := p27
    have inj : lN (hsD (fun i => zn (b (s + i)) - 96) m) = lN (wHn l) ↔ hsD (fun i => zn (b (s + i)) - 96) m = wHn l := by
      refine ⟨fun q => ?_, fun q => by rw [q]⟩
      have := congrArg Int64.toInt q
      rw [pk_lT (by omega), pk_lT (by omega)] at this
      omega
    rw [inj]
    unfold wHn
    rw [hsD_i m (sln l) (fun i hi => by have := dg i hi; show 1 ≤ zn (b (s + i)) - 96 ∧ zn (b (s + i)) - 96 ≤ 26; omega) (fun i hi => by have := wH_c l hl i hi; show 1 ≤ zn (kr_sch l (nI i)) - 96 ∧ zn (kr_sch l (nI i)) - 96 ≤ 26; omega)]
    constructor
    · intro ⟨q1, q2⟩
      refine ⟨q1, fun i hi => ?_⟩
      have a1 := dg i (by omega)
      have a2 := wH_c l hl i hi
      have q3 : zn (b (s + i)) - 96 = zn (kr_sch l (nI i)) - 96 := q2 i hi
      rw [a1.2.2, a2.2.2, show zn (b (s + i)) = zn (kr_sch l (nI i)) by omega]
    · intro ⟨q1, q2⟩
      exact ⟨q1, fun i hi => by show zn (b (s + i)) - 96 = zn (kr_sch l (nI i)) - 96; rw [q2 i hi]⟩
  · rw [if_neg c]
    refine ⟨fun q => ?_, fun q => by omega⟩
    rw [w1] at q
    have := congrArg Int64.toInt q
    rw [pk_lT (by omega), show (-1 : Int64).toInt = -1 from rfl] at this
    omega
/-- the reference at a token -/
def RK (M : kr_M) (b : Nat → Int32) (n s : Nat) : Prop := s ≤ n ∧ M.1 346 8 = nI (tk b n s) ∧ M.1 346 9 = nI s ∧ M.1 346 7 = nI (te b n s) ∧ (∃ v, M.1 346 10 = nI v ∧ v ≤ 2000000 ∧ min v 100000 = tv b n s) ∧ (tk b n s = 1 → ∀ l, l < 17 → (M.2.1 346 11 = wH l ↔ isW b n s l = true))
theorem r_lt {M0 : kr_M} {b : Nat → Int32} {n s : Nat} (hs : s ≤ n) : ∀ n' m M, s + m ≤ n → n - (s + m) < n' → (∀ i, i < m → ltB (b (s + i)) = true) → TR M b n → M.1 346 7 = nI (s + m) → M.2.1 346 11 = hW64 b s m → Fw (fun a j => a = 346 ∧ j = 7) M0 M → Wp (f_X12_next_102 n' (nI m) M) (fun M' => M'.1 346 7 = nI (run ltB b n (s + m)) ∧ M'.2.1 346 11 = hW64 b s (run ltB b n (s + m) - s) ∧ (∀ i, i < run ltB b n (s + m) - s → ltB (b (s + i)) = true) ∧ Fw (fun a j => a = 346 ∧ j = 7) M0 M') := by
  intro n'
  induction n' with
  | zero => intro m M h1 h2; omega
  | succ n' ih =>
    intro m M h1 h2 hm hT h7 hw hF
    have hn := hT.2.1
    rw [f_X12_next_102]
    refine Wp_letI ?_; intro v ev
    rw [h7] at ev
    subst ev
    rw [isB_ok hT h1]
    refine Wp_bis ?_
    by_cases c : s + m < n ∧ ¬ b (s + m) < 97 ∧ ¬ 122 < b (s + m)
    · rw [if_pos c]
      refine Wp_f (by decide) ?_
      have d : ltB (b (s + m)) = true := ltB_t.mpr c.2
      rw [run_s c.1, if_pos d]
      have hm' : ∀ i, i < m + 1 → ltB (b (s + i)) = true := fun i hi => by
        by_cases e : i = m
        · rw [e]; exact d
        · exact hm i (by omega)
      have go : ∀ z, z = hW64 b s (m + 1) → Wp (f_X12_next_153 (f_X12_next_102 n') (nI m) z M) (fun M' => M'.1 346 7 = nI (run ltB b n (s + m + 1)) ∧ M'.2.1 346 11 = hW64 b s (run ltB b n (s + m + 1) - s) ∧ (∀ i, i < run ltB b n (s + m + 1) - s → ltB (b (s + i)) = true) ∧ Fw (fun a j => a = 346 ∧ j = 7) M0 M') := fun z hz => by
        have fin : ∀ M1, M1.1 = M.1 → M1.2.1 346 11 = hW64 b s (m + 1) → Fw (fun a j => a = 346 ∧ j = 7) M M1 → Wp (f_X12_next_169 (f_X12_next_102 n') (nI m) M1) (fun M' => M'.1 346 7 = nI (run ltB b n (s + m + 1)) ∧ M'.2.1 346 11 = hW64 b s (run ltB b n (s + m + 1) - s) ∧ (∀ i, i < run ltB b n (s + m + 1) - s → ltB (b (s + i)) = true) ∧ Fw (fun a j => a = 346 ∧ j = 7) M0 M') := fun M1 a1 a2 a3 => by
          unfold f_X12_next_169
          refine Wp_letI ?_; intro v ev
          rw [a1, h7] at ev
          subst ev
          refine Wp_letI ?_; intro M2 e2
          rw [L_1, nI_add] at e2
          have hf : Fw (fun a j => a = 346 ∧ j = 7) M1 M2 := by rw [← e2]; exact (Fw.refl M1).si _ ⟨rfl, rfl⟩
          rw [L_1, nI_add]
          refine ih (m + 1) M2 (by omega) (by omega) hm' (hT.fz (a3.trans hf) (fun q => by have q : 346 = 346 ∧ 6 = 7 := q; omega) (fun j q => by have q : 351 = 346 ∧ j = 7 := q; omega)) (by rw [← e2, kr_si_at]; rfl) (by rw [← e2]; exact a2) ((hF.trans a3).trans hf)
        unfold f_X12_next_153
        refine Wp_letI ?_; intro M1 e1
        have f1 : Fw (fun a j => a = 346 ∧ j = 7) M M1 := by rw [← e1]; exact (Fw.refl M).sl z
        have g1 : M1.1 = M.1 := by rw [← e1]; rfl
        have w1 : M1.2.1 346 11 = z := by rw [← e1, kr_sl_at, if_pos ⟨rfl, rfl⟩]
        by_cases k : m ≤ 11
        · exact Wp_t (nI_le (b := 11) k (by omega)) (fin M1 g1 (w1.trans hz) f1)
        · refine Wp_f (nI_ge (a := 11) (by omega) (by omega)) ?_
          refine Wp_letI ?_; intro M2 e2
          refine fin M2 (by rw [← e2]; exact g1) ?_ (by rw [← e2]; exact f1.sl _)
          rw [← e2, kr_sl_at, if_pos ⟨rfl, rfl⟩]
          unfold hW64
          rw [if_neg (by omega)]
      by_cases k : m ≤ 11
      · refine Wp_t (nI_le (b := 11) k (by omega)) ?_
        refine Wp_letI ?_; intro v ev
        rw [hw] at ev
        refine Wp_letI ?_; intro u eu
        rw [h7] at eu
        subst eu
        refine Wp_t ((kin_I (by omega)).mpr (by omega)) ?_
        refine Wp_letI ?_; intro u eu
        rw [nI_clamp (by omega), hT.2.2 (s + m) c.1] at eu
        subst eu
        obtain ⟨e, e1, e2, e3⟩ := lt_nI d
        refine go _ ?_
        rw [← ev, e3, nI_l (by omega)]
        unfold hW64
        rw [if_pos (by omega), if_pos (by omega), show (27 : Int64) = lN 27 from rfl, show (96 : Int64) = lN 96 from rfl, lN_mul, lN_add, lN_sub (by omega), hsD]
        show lN (27 * hsD (fun i => zn (b (s + i)) - 96) m + e - 96) = lN (27 * hsD (fun i => zn (b (s + i)) - 96) m + (zn (b (s + m)) - 96))
        rw [e3, zn_nI (by omega), show 27 * hsD (fun i => zn (b (s + i)) - 96) m + e - 96 = 27 * hsD (fun i => zn (b (s + i)) - 96) m + (e - 96) by omega]
      · refine Wp_f (nI_ge (a := 11) (by omega) (by omega)) (go _ ?_)
        unfold hW64
        rw [if_neg (by omega)]
    · rw [if_neg c]
      refine Wp_t rfl ?_
      unfold f_X12_next_185
      have e : run ltB b n (s + m) = s + m := by
        by_cases d : s + m < n
        · rw [run_s d, if_neg (fun q => c ⟨d, ltB_t.mp q⟩)]
        · exact run_e (by omega)
      rw [e, show s + m - s = m by omega]
      exact Wp_some ⟨h7, hw, hm, hF⟩
theorem r_dg {M0 : kr_M} {b : Nat → Int32} {n : Nat} : ∀ n' p v M, p ≤ n → n - p < n' → v ≤ 2000000 → TR M b n → M.1 346 7 = nI p → M.1 346 10 = nI v → Fw (fun a j => a = 346 ∧ (j = 7 ∨ j = 10)) M0 M → Wp (f_X12_next_208 n' M) (fun M' => M'.1 346 7 = nI (run dgB b n p) ∧ (∃ u, M'.1 346 10 = nI u ∧ u ≤ 2000000 ∧ min u 100000 = dvR b n p (min v 100000)) ∧ Fw (fun a j => a = 346 ∧ (j = 7 ∨ j = 10)) M0 M') := by
  intro n'
  induction n' with
  | zero => intro p v M h1 h2; omega
  | succ n' ih =>
    intro p v M h1 h2 hv hT h7 h10 hF
    have hn := hT.2.1
    rw [f_X12_next_208]
    refine Wp_letI ?_; intro x ev
    rw [h7] at ev
    subst ev
    rw [isB_ok hT h1]
    refine Wp_bis ?_
    by_cases c : p < n ∧ ¬ b p < 48 ∧ ¬ 57 < b p
    · rw [if_pos c]
      refine Wp_f (by decide) ?_
      have d : dgB (b p) = true := dgB_t.mpr c.2
      obtain ⟨e, e1, e2, e3⟩ := dg_nI d
      rw [run_s c.1, if_pos d, dv_s c.1, if_pos d]
      have go : ∀ z, z ≤ 2000000 → min z 100000 = min (10 * (min v 100000) + (zn (b p) - 48)) 100000 → Wp (f_X12_next_258 (f_X12_next_208 n') (nI z) M) (fun M' => M'.1 346 7 = nI (run dgB b n (p + 1)) ∧ (∃ u, M'.1 346 10 = nI u ∧ u ≤ 2000000 ∧ min u 100000 = dvR b n (p + 1) (min (10 * (min v 100000) + (zn (b p) - 48)) 100000)) ∧ Fw (fun a j => a = 346 ∧ (j = 7 ∨ j = 10)) M0 M') := fun z hz hz2 => by
        unfold f_X12_next_258
        refine Wp_letI ?_; intro M1 y1
        refine Wp_letI ?_; intro x ev
        rw [← y1, kg_si, if_neg (by omega), h7] at ev
        subst ev
        refine Wp_letI ?_; intro M2 y2
        rw [L_1, nI_add] at y2
        have hf : Fw (fun a j => a = 346 ∧ (j = 7 ∨ j = 10)) M M2 := by rw [← y2, ← y1]; exact ((Fw.refl M).si _ ⟨rfl, Or.inr rfl⟩).si _ ⟨rfl, Or.inl rfl⟩
        rw [← hz2]
        exact ih (p + 1) z M2 (by omega) (by omega) hz (hT.fz hf (fun q => by have q : 346 = 346 ∧ (6 = 7 ∨ 6 = 10) := q; omega) (fun j q => by have q : 351 = 346 ∧ (j = 7 ∨ j = 10) := q; omega)) (by rw [← y2, kr_si_at]) (by rw [← y2, kg_si, if_neg (by omega), ← y1, kr_si_at]) (hF.trans hf)
      refine Wp_letI ?_; intro x ev
      rw [h10] at ev
      subst ev
      rw [e3, zn_nI (by omega)] at go
      by_cases k : v ≤ 100000
      · refine Wp_t (nI_le (b := 100000) k (by omega)) ?_
        refine Wp_letI ?_; intro x ev
        rw [h10] at ev
        subst ev
        refine Wp_letI ?_; intro x ev
        rw [h7] at ev
        subst ev
        refine Wp_t ((kin_I (by omega)).mpr (by omega)) ?_
        refine Wp_letI ?_; intro x ev
        rw [nI_clamp (by omega), hT.2.2 p c.1, e3] at ev
        subst ev
        rw [L_10, pk_mul, nI_add, show (48 : Int32) = nI 48 from rfl, pk_sub (by omega), e3, zn_nI (by omega)]
        exact go _ (by omega) (by omega)
      · refine Wp_f (nI_ge (a := 100000) (by omega) (by omega)) ?_
        rw [e3, zn_nI (by omega)]
        exact go 1000000 (by omega) (by omega)
    · rw [if_neg c]
      have e : run dgB b n p = p ∧ dvR b n p (min v 100000) = min v 100000 := by
        by_cases d : p < n
        · rw [run_s d, dv_s d, if_neg (fun q => c ⟨d, dgB_t.mp q⟩), if_neg (fun q => c ⟨d, dgB_t.mp q⟩)]; exact ⟨rfl, rfl⟩
        · exact ⟨run_e (by omega), dv_e (by omega)⟩
      rw [e.1, e.2]
      exact Wp_t rfl (Wp_some ⟨h7, ⟨v, h10, hv, rfl⟩, hF⟩)
theorem r_43 {M : kr_M} {b : Nat → Int32} {n s : Nat} (hT : TR M b n) (hs : s ≤ n) (h7 : M.1 346 7 = nI s) : Wp (f_X12_next_43 M) (fun M' => RK M' b n s ∧ Fw (fun a j => a = 346 ∧ 7 ≤ j ∧ j ≤ 11) M M') := by
  have hn := hT.2.1
  unfold f_X12_next_43
  refine Wp_letI ?_; intro v ev
  rw [h7] at ev
  subst ev
  refine Wp_letI ?_; intro M2 e2
  refine Wp_letI ?_; intro M3 e3
  refine Wp_letI ?_; intro M4 e4
  have hf : Fw (fun a j => a = 346 ∧ 7 ≤ j ∧ j ≤ 11) M M4 := by rw [← e4, ← e3, ← e2]; exact (((Fw.refl M).si _ ⟨rfl, by omega, by omega⟩).si _ ⟨rfl, by omega, by omega⟩).sl _
  have hT4 : TR M4 b n := hT.fz hf (fun q => by have q : 346 = 346 ∧ 7 ≤ 6 ∧ 6 ≤ 11 := q; omega) (fun j q => by have q : 351 = 346 ∧ 7 ≤ j ∧ j ≤ 11 := q; omega)
  have g4 : M4.1 = M3.1 := by rw [← e4]; rfl
  have a7 : M4.1 346 7 = nI s := by rw [g4, ← e3, kg_si, if_neg (by omega), ← e2, kg_si, if_neg (by omega)]; exact h7
  have a9 : M4.1 346 9 = nI s := by rw [g4, ← e3, kg_si, if_neg (by omega), ← e2, kr_si_at]
  have a10 : M4.1 346 10 = nI 0 := by rw [g4, ← e3, kr_si_at]; rfl
  have a11 : M4.2.1 346 11 = hW64 b s 0 := by rw [← e4, kr_sl_at, if_pos ⟨rfl, rfl⟩]; rfl
  refine Wp_letI ?_; intro v ev
  rw [a7] at ev
  subst ev
  refine Wp_letI ?_; intro v ev
  rw [hT4.1] at ev
  subst ev
  by_cases c : s < n
  · refine Wp_t (fun q => by have := (nI_eq (by omega) (by omega)).mp q; omega) ?_
    refine Wp_letI ?_; intro v ev
    rw [a7] at ev
    subst ev
    rw [isB_ok hT4 hs]
    refine Wp_bis ?_
    by_cases d : ltB (b s) = true
    · have c2 : s < n ∧ ¬ b s < 97 ∧ ¬ 122 < b s := ⟨c, ltB_t.mp d⟩
      rw [if_pos c2]
      refine Wp_f (by decide) ?_
      refine Wp_letI ?_; intro M5 e5
      have hf5 : Fw (fun a j => a = 346 ∧ 7 ≤ j ∧ j ≤ 11) M4 M5 := by rw [← e5]; exact (Fw.refl M4).si _ ⟨rfl, by omega, by omega⟩
      have hT5 : TR M5 b n := hT4.fz hf5 (fun q => by have q : 346 = 346 ∧ 7 ≤ 6 ∧ 6 ≤ 11 := q; omega) (fun j q => by have q : 351 = 346 ∧ 7 ≤ j ∧ j ≤ 11 := q; omega)
      refine Wp_mono (r_lt (M0 := M5) hs kr_F 0 M5 (by omega) (kr_F_gt _ (by omega)) (fun i hi => by omega) hT5 (by rw [← e5, kg_si, if_neg (by omega)]; exact a7) (by rw [← e5]; exact a11) (Fw.refl M5)) (fun M6 ⟨q1, q2, q3, q4⟩ => ?_)
      rw [Nat.add_zero] at q1 q2 q3
      have tk1 : tk b n s = 1 := by unfold tk; rw [if_pos c, if_pos d]
      have te1 : te b n s = run ltB b n s := by unfold te; rw [if_pos c, if_pos d]
      refine ⟨⟨hs, ?_, ?_, ?_, ⟨0, ?_, by omega, ?_⟩, fun _ l hl => ?_⟩, (hf.trans hf5).trans (q4.mono (fun a j q => ⟨q.1, by omega, by omega⟩))⟩
      · rw [q4.1 346 8 (fun q => by have q : 346 = 346 ∧ 8 = 7 := q; omega), ← e5, kr_si_at, tk1]; rfl
      · rw [q4.1 346 9 (fun q => by have q : 346 = 346 ∧ 9 = 7 := q; omega), ← e5, kg_si, if_neg (by omega)]; exact a9
      · rw [q1, te1]
      · rw [q4.1 346 10 (fun q => by have q : 346 = 346 ∧ 10 = 7 := q; omega), ← e5, kg_si, if_neg (by omega)]; exact a10
      · unfold tv; rw [if_pos c, if_pos d]; rfl
      · rw [q2, hW_is hl q3, isW_t, te1]
        exact ⟨fun z => ⟨tk1, z⟩, fun z => z.2⟩
    · have c2 : ¬ (s < n ∧ ¬ b s < 97 ∧ ¬ 122 < b s) := fun q => d (ltB_t.mpr q.2)
      rw [if_neg c2]
      refine Wp_t rfl ?_
      refine Wp_letI ?_; intro v ev
      rw [a7] at ev
      subst ev
      rw [isB_ok hT4 hs]
      refine Wp_bis ?_
      by_cases e : dgB (b s) = true
      · have c3 : s < n ∧ ¬ b s < 48 ∧ ¬ 57 < b s := ⟨c, dgB_t.mp e⟩
        rw [if_pos c3]
        refine Wp_f (by decide) ?_
        refine Wp_letI ?_; intro M5 e5
        have hf5 : Fw (fun a j => a = 346 ∧ 7 ≤ j ∧ j ≤ 11) M4 M5 := by rw [← e5]; exact (Fw.refl M4).si _ ⟨rfl, by omega, by omega⟩
        have hT5 : TR M5 b n := hT4.fz hf5 (fun q => by have q : 346 = 346 ∧ 7 ≤ 6 ∧ 6 ≤ 11 := q; omega) (fun j q => by have q : 351 = 346 ∧ 7 ≤ j ∧ j ≤ 11 := q; omega)
        refine Wp_mono (r_dg (M0 := M5) kr_F s 0 M5 hs (kr_F_gt _ (by omega)) (by omega) hT5 (by rw [← e5, kg_si, if_neg (by omega)]; exact a7) (by rw [← e5, kg_si, if_neg (by omega)]; exact a10) (Fw.refl M5)) (fun M6 ⟨q1, q2, q4⟩ => ?_)
        have tk2 : tk b n s = 2 := by unfold tk; rw [if_pos c, if_neg d, if_pos e]
        refine ⟨⟨hs, ?_, ?_, ?_, ?_, fun z => by omega⟩, (hf.trans hf5).trans (q4.mono (fun a j q => ⟨q.1, by omega, by omega⟩))⟩
        · rw [q4.1 346 8 (fun q => by have q : 346 = 346 ∧ (8 = 7 ∨ 8 = 10) := q; omega), ← e5, kr_si_at, tk2]; rfl
        · rw [q4.1 346 9 (fun q => by have q : 346 = 346 ∧ (9 = 7 ∨ 9 = 10) := q; omega), ← e5, kg_si, if_neg (by omega)]; exact a9
        · rw [q1]; unfold te; rw [if_pos c, if_neg d, if_pos e]
        · unfold tv; rw [if_pos c, if_neg d, if_pos e]; exact q2
      · have c3 : ¬ (s < n ∧ ¬ b s < 48 ∧ ¬ 57 < b s) := fun q => e (dgB_t.mpr q.2)
        rw [if_neg c3]
        refine Wp_t rfl ?_
        refine Wp_letI ?_; intro v ev
        rw [a7] at ev
        subst ev
        refine Wp_t ((kin_I (by omega)).mpr (by omega)) ?_
        refine Wp_letI ?_; intro v ev
        rw [nI_clamp (by omega), hT4.2.2 s c] at ev
        subst ev
        have fin : ∀ z, z = tk b n s → z ≠ 1 → Wp (f_X12_next_294 (nI z) M4) (fun M' => RK M' b n s ∧ Fw (fun a j => a = 346 ∧ 7 ≤ j ∧ j ≤ 11) M M') := fun z hz hz1 => by
          unfold f_X12_next_294
          refine Wp_letI ?_; intro M5 e5
          refine Wp_letI ?_; intro v ev
          rw [← e5, kg_si, if_neg (by omega), a7] at ev
          subst ev
          refine Wp_letI ?_; intro M6 e6
          rw [L_1, nI_add] at e6
          have hf6 : Fw (fun a j => a = 346 ∧ 7 ≤ j ∧ j ≤ 11) M4 M6 := by rw [← e6, ← e5]; exact ((Fw.refl M4).si _ ⟨rfl, by omega, by omega⟩).si _ ⟨rfl, by omega, by omega⟩
          refine Wp_some ⟨⟨hs, ?_, ?_, ?_, ⟨0, ?_, by omega, ?_⟩, fun q => by omega⟩, hf.trans hf6⟩
          · rw [← e6, kg_si, if_neg (by omega), ← e5, kr_si_at, hz]
          · rw [← e6, kg_si, if_neg (by omega), ← e5, kg_si, if_neg (by omega)]; exact a9
          · rw [← e6, kr_si_at]; unfold te; rw [if_pos c, if_neg d, if_neg e]
          · rw [← e6, kg_si, if_neg (by omega), ← e5, kg_si, if_neg (by omega)]; exact a10
          · unfold tv; rw [if_pos c, if_neg d, if_neg e]; rfl
        by_cases f : b s = 59
        · refine Wp_f (fun q => q f) (fin 3 ?_ (by omega))
          unfold tk; rw [if_pos c, if_neg d, if_neg e, if_pos f]
        · refine Wp_t f (fin 4 ?_ (by omega))
          unfold tk; rw [if_pos c, if_neg d, if_neg e, if_neg f]
  · refine Wp_f (fun q => q (by rw [show s = n by omega])) ?_
    refine Wp_letI ?_; intro M5 e5
    have hf5 : Fw (fun a j => a = 346 ∧ 7 ≤ j ∧ j ≤ 11) M4 M5 := by rw [← e5]; exact (Fw.refl M4).si _ ⟨rfl, by omega, by omega⟩
    have tk0 : tk b n s = 0 := by unfold tk; rw [if_neg c]
    refine Wp_some ⟨⟨hs, ?_, ?_, ?_, ⟨0, ?_, by omega, ?_⟩, fun q => by omega⟩, hf.trans hf5⟩
    · rw [← e5, kr_si_at, tk0]; rfl
    · rw [← e5, kg_si, if_neg (by omega)]; exact a9
    · rw [← e5, kg_si, if_neg (by omega)]; unfold te; rw [if_neg c]; exact a7
    · rw [← e5, kg_si, if_neg (by omega)]; exact a10
    · unfold tv; rw [if_neg c]; rfl
theorem r_0 {M0 : kr_M} {b : Nat → Int32} {n : Nat} : ∀ n' p M, p ≤ n → n - p < n' → TR M b n → M.1 346 7 = nI p → Fw (fun a j => a = 346 ∧ 7 ≤ j ∧ j ≤ 11) M0 M → Wp (f_X12_next_0 n' M) (fun M' => RK M' b n (run wsB b n p) ∧ Fw (fun a j => a = 346 ∧ 7 ≤ j ∧ j ≤ 11) M0 M') := by
  intro n'
  induction n' with
  | zero => intro p M h1 h2; omega
  | succ n' ih =>
    intro p M h1 h2 hT h7 hF
    have hn := hT.2.1
    rw [f_X12_next_0]
    have go : p < n → Wp (f_X12_next_30 (f_X12_next_0 n') M) (fun M' => RK M' b n (run wsB b n (p + 1)) ∧ Fw (fun a j => a = 346 ∧ 7 ≤ j ∧ j ≤ 11) M0 M') := fun hp => by
      unfold f_X12_next_30
      refine Wp_letI ?_; intro v ev
      rw [h7] at ev
      subst ev
      refine Wp_letI ?_; intro M1 e1
      rw [L_1, nI_add] at e1
      have hf : Fw (fun a j => a = 346 ∧ 7 ≤ j ∧ j ≤ 11) M M1 := by rw [← e1]; exact (Fw.refl M).si _ ⟨rfl, by omega, by omega⟩
      exact ih (p + 1) M1 (by omega) (by omega) (hT.fz hf (fun q => by have q : 346 = 346 ∧ 7 ≤ 6 ∧ 6 ≤ 11 := q; omega) (fun j q => by have q : 351 = 346 ∧ 7 ≤ j ∧ j ≤ 11 := q; omega)) (by rw [← e1, kr_si_at]) (hF.trans hf)
    refine Wp_letI ?_; intro v ev
    rw [h7] at ev
    subst ev
    rw [isB_ok hT h1]
    refine Wp_bis ?_
    by_cases c : p < n ∧ ¬ b p < 32 ∧ ¬ 32 < b p
    · rw [if_pos c]
      refine Wp_t (by decide) ?_
      rw [run_s c.1, if_pos (wsB_t.mpr (Or.inl (i_sq.mp c.2)))]
      exact go c.1
    · rw [if_neg c]
      refine Wp_f (fun q => q rfl) ?_
      refine Wp_letI ?_; intro v ev
      rw [h7] at ev
      subst ev
      rw [isB_ok hT h1]
      refine Wp_bis ?_
      by_cases d : p < n ∧ ¬ b p < 10 ∧ ¬ 10 < b p
      · rw [if_pos d]
        refine Wp_f (by decide) ?_
        rw [run_s d.1, if_pos (wsB_t.mpr (Or.inr (i_sq.mp d.2)))]
        exact go d.1
      · rw [if_neg d]
        refine Wp_t rfl ?_
        have e : run wsB b n p = p := by
          by_cases f : p < n
          · rw [run_s f, if_neg (fun q => (wsB_t.mp q).elim (fun z => c ⟨f, i_sq.mpr z⟩) (fun z => d ⟨f, i_sq.mpr z⟩))]
          · exact run_e (by omega)
        rw [e]
        exact Wp_mono (r_43 hT h1 h7) (fun M' q => ⟨q.1, hF.trans q.2⟩)
theorem r_next {M : kr_M} {b : Nat → Int32} {n p : Nat} (hT : TR M b n) (hp : p ≤ n) (h7 : M.1 346 7 = nI p) : Wp (f_X12_next M) (fun M' => RK M' b n (run wsB b n p) ∧ Fw (fun a j => a = 346 ∧ 7 ≤ j ∧ j ≤ 11) M M') := by
  have := hT.2.1
  unfold f_X12_next
  exact r_0 kr_F p M hp (kr_F_gt _ (by omega)) hT h7 (Fw.refl M)
/-! the steps of the reference -/
def Sr (M : kr_M) (b : Nat → Int32) (n : Nat) : SG → Prop
  | (none, s) => M.1 346 12 = 0 ∧ RK M b n s
  | (some e, _) => M.1 346 12 = nI e.1 ∧ 1 ≤ e.1 ∧ e.1 ≤ 3 ∧ M.1 346 13 = nI e.2
theorem q_next {M : kr_M} {b : Nat → Int32} {n s : Nat} (hT : TR M b n) (h : Sr M b n (none, s)) : Wp (f_X12_next M) (fun M' => Sr M' b n (none, nxt_ b n s) ∧ Fw rnX M M') := by
  obtain ⟨h1, h2⟩ := h
  refine Wp_mono (r_next hT (te_b h2.1).2 h2.2.2.2.1) (fun M' ⟨q1, q2⟩ => ⟨⟨?_, q1⟩, q2.mono (fun a j q => ⟨q.1, q.2.1, by have := q.2.2; omega⟩)⟩)
  rw [q2.1 346 12 (fun q => by have q : 346 = 346 ∧ 7 ≤ 12 ∧ 12 ≤ 11 := q; omega)]; exact h1
theorem q_fails {M : kr_M} {b : Nat → Int32} {n k : Nat} {σ : SG} (hk : 1 ≤ k ∧ k ≤ 3) (h : Sr M b n σ) : Wp (f_X12_fails (nI k) M) (fun M' => Sr M' b n (sFail k σ) ∧ Fw rnX M M') := by
  obtain ⟨o, s⟩ := σ
  unfold f_X12_fails
  cases o with
  | none =>
    obtain ⟨h1, h2⟩ := h
    refine Wp_letI ?_; intro v ev
    rw [h1] at ev
    subst ev
    refine Wp_t rfl ?_
    refine Wp_letI ?_; intro M2 e2
    refine Wp_letI ?_; intro v ev
    rw [← e2, kg_si, if_neg (by omega), h2.2.2.1] at ev
    subst ev
    refine Wp_letI ?_; intro M4 e4
    refine Wp_some ⟨⟨?_, hk.1, hk.2, ?_⟩, ?_⟩
    · rw [← e4, kg_si, if_neg (by omega), ← e2, kr_si_at]
    · rw [← e4, kr_si_at]
    · rw [← e4, ← e2]; exact ((Fw.refl M).si _ ⟨rfl, by omega, by omega⟩).si _ ⟨rfl, by omega, by omega⟩
  | some e =>
    have h' := h
    obtain ⟨h1, h2, h3, h4⟩ := h'
    refine Wp_letI ?_; intro v ev
    rw [h1] at ev
    subst ev
    exact Wp_f (nI_ne0 (by omega) (by omega)) (Wp_some ⟨h, Fw.refl M⟩)
theorem q_is {M : kr_M} {b : Nat → Int32} {n l : Nat} {w : Int64} {σ : SG} (hl : l < 17) (hw : w = wH l) (h : Sr M b n σ) : f_X12_is w M = some (if σ.1 = none ∧ isW b n σ.2 l = true then 1 else 0, M) := by
  obtain ⟨o, s⟩ := σ
  apply Wp_eq
  unfold f_X12_is
  cases o with
  | none =>
    obtain ⟨h1, h2, h3, h4, h5, h6, h7⟩ := h
    refine Wp_letI ?_; intro v ev
    rw [h1] at ev
    subst ev
    refine Wp_f (fun q => q rfl) ?_
    refine Wp_letI ?_; intro v ev
    rw [h3] at ev
    subst ev
    have kb := tk_b b n s
    by_cases c : tk b n s = 1
    · refine Wp_f (fun q => q (by rw [c]; rfl)) ?_
      refine Wp_letI ?_; intro v ev
      have h8 := h7 c l hl
      rw [← hw, ev] at h8
      by_cases d : isW b n s l = true
      · refine Wp_f (fun q => q ((lg_cmp_eq _ _).mpr (h8.mpr d))) (Wp_some ?_)
        rw [if_pos ⟨rfl, d⟩]
      · refine Wp_t (fun q => d (h8.mp ((lg_cmp_eq _ _).mp q))) (Wp_some ?_)
        rw [if_neg (fun q => d q.2)]
    · refine Wp_t (fun q => c ((nI_eq (b := 1) (by omega) (by omega)).mp q)) (Wp_some ?_)
      rw [if_neg (fun q => c (isW_t.mp q.2).1)]
  | some e =>
    obtain ⟨h1, h2, h3, h4⟩ := h
    refine Wp_letI ?_; intro v ev
    rw [h1] at ev
    subst ev
    refine Wp_t (nI_ne0 (by omega) (by omega)) (Wp_some ?_)
    rw [if_neg (fun q => absurd q.1 (by simp))]
theorem q_asks {M : kr_M} {b : Nat → Int32} {n l : Nat} {w : Int64} {σ : SG} (hT : TR M b n) (hl : l < 17) (hw : w = wH l) (h : Sr M b n σ) : Wp (f_X12_asks w M) (fun M' => Sr M' b n (sName b n l σ) ∧ Fw rnX M M') := by
  have key : Wp (f_X12_takes w M) (fun x => (x.1 = if σ.1 = none ∧ isW b n σ.2 l = true then 1 else 0) ∧ (if σ.1 = none ∧ isW b n σ.2 l = true then Sr x.2 b n (sName b n l σ) else x.2 = M) ∧ Fw rnX M x.2) := by
    unfold f_X12_takes
    rw [q_is hl hw h]
    refine Wp_bis ?_
    by_cases c : σ.1 = none ∧ isW b n σ.2 l = true
    · rw [if_pos c]
      refine Wp_t (by decide) ?_
      obtain ⟨o, s⟩ := σ
      obtain ⟨c1, c2⟩ := c
      have c1 : o = none := c1
      subst c1
      refine Wp_bv _ (q_next hT h) (fun M' q => Wp_some ⟨rfl, ?_, q.2⟩)
      rw [if_pos ⟨rfl, c2⟩]
      show Sr M' b n (if isW b n s l = true then (none, nxt_ b n s) else (some (1, s), s))
      rw [if_pos c2]
      exact q.1
    · rw [if_neg c]
      refine Wp_f (fun q => q rfl) (Wp_some ⟨rfl, ?_, Fw.refl M⟩)
      rw [if_neg c]
  unfold f_X12_asks
  refine Wp_bi _ key (fun r M1 ⟨q1, q2, q3⟩ => ?_)
  by_cases c : σ.1 = none ∧ isW b n σ.2 l = true
  · rw [if_pos c] at q1 q2
    have q1 : r = 1 := q1
    subst q1
    exact Wp_t (by decide) (Wp_some ⟨q2, q3⟩)
  · rw [if_neg c] at q1 q2
    have q1 : r = 0 := q1
    have q2 : M1 = M := q2
    subst q1 q2
    refine Wp_f (fun q => q rfl) ?_
    refine Wp_bv _ (q_fails (k := 1) (by omega) h) (fun M' q => Wp_some ⟨?_, q.2⟩)
    obtain ⟨o, s⟩ := σ
    cases o with
    | none =>
      show Sr M' b n (if isW b n s l = true then (none, nxt_ b n s) else (some (1, s), s))
      rw [if_neg (fun z => c ⟨rfl, z⟩)]
      exact q.1
    | some e => exact q.1
theorem q_num {M : kr_M} {b : Nat → Int32} {n lo hi : Nat} {p2 : Int32} {σ : SG} (hT : TR M b n) (hlo : lo ≤ 1000) (hhi : hi ≤ 1001) (hp : p2.toInt = (hi : Int) - 1) (h : Sr M b n σ) : Wp (f_X12_number (nI lo) p2 M) (fun x => Sr x.2 b n (sNum b n lo hi σ) ∧ Fw rnX M x.2 ∧ ((sNum b n lo hi σ).1 = none → x.1 = nI (tv b n σ.2))) := by
  obtain ⟨o, s⟩ := σ
  unfold f_X12_number
  cases o with
  | none =>
    have h' := h
    obtain ⟨h1, h2, h3, h4, h5, ⟨u, h6, h7, h8⟩, h9⟩ := h'
    have kb := tk_b b n s
    show Wp _ (fun (x : Int32 × kr_M) => Sr x.2 b n (if tk b n s = 2 then (if lo ≤ tv b n s ∧ tv b n s < hi then (none, nxt_ b n s) else (some (2, s), s)) else (some (1, s), s)) ∧ Fw rnX M x.2 ∧ ((if tk b n s = 2 then (if lo ≤ tv b n s ∧ tv b n s < hi then ((none, nxt_ b n s) : SG) else (some (2, s), s)) else (some (1, s), s)).1 = none → x.1 = nI (tv b n s)))
    refine Wp_letI ?_; intro v ev
    rw [h1] at ev
    subst ev
    refine Wp_t rfl ?_
    refine Wp_letI ?_; intro v ev
    rw [h3] at ev
    subst ev
    by_cases c : tk b n s = 2
    · rw [if_pos c]
      refine Wp_t (by rw [c]; rfl) ?_
      refine Wp_letI ?_; intro v ev
      rw [h6] at ev
      subst ev
      rw [km_in3]
      refine Wp_bis ?_
      have t1 := nI_toInt (n := lo) (by omega)
      have t2 := nI_toInt (n := u) (by omega)
      have iff : (nI lo ≤ nI u ∧ nI u ≤ p2) ↔ (lo ≤ tv b n s ∧ tv b n s < hi) := by
        rw [kz_le, kz_le, hp, t1, t2]
        omega
      by_cases d : lo ≤ tv b n s ∧ tv b n s < hi
      · rw [if_pos d, if_pos (iff.mpr d)]
        refine Wp_t (by decide) ?_
        refine Wp_letI ?_; intro v ev
        rw [h6] at ev
        refine Wp_bv _ (q_next hT h) (fun M' q => Wp_some ⟨q.1, q.2, fun _ => ?_⟩)
        rw [← ev, show u = tv b n s by omega]
      · rw [if_neg d, if_neg (fun q => d (iff.mp q))]
        refine Wp_f (fun q => q rfl) ?_
        exact Wp_bv _ (q_fails (k := 2) (by omega) h) (fun M' q => Wp_some ⟨q.1, q.2, fun y => absurd y (by simp)⟩)
    · rw [if_neg c]
      refine Wp_f (fun q => c ((nI_eq (b := 2) (by omega) (by omega)).mp q)) ?_
      exact Wp_bv _ (q_fails (k := 1) (by omega) h) (fun M' q => Wp_some ⟨q.1, q.2, fun y => absurd y (by simp)⟩)
  | some e =>
    have h' := h
    obtain ⟨h1, h2, h3, h4⟩ := h'
    refine Wp_letI ?_; intro v ev
    rw [h1] at ev
    subst ev
    exact Wp_f (nI_ne0 (by omega) (by omega)) (Wp_some ⟨h, Fw.refl M, fun y => absurd y (by simp [sNum])⟩)
theorem q_named {M : kr_M} {b : Nat → Int32} {n l lo hi : Nat} {w : Int64} {p2 : Int32} {σ : SG} (hT : TR M b n) (hl : l < 17) (hw : w = wH l) (hlo : lo ≤ 1000) (hhi : hi ≤ 1001) (hp : p2.toInt = (hi : Int) - 1) (h : Sr M b n σ) : Wp (f_X12_number_ w (nI lo) p2 M) (fun x => Sr x.2 b n (sNum b n lo hi (sName b n l σ)) ∧ Fw rnX M x.2 ∧ ((sNum b n lo hi (sName b n l σ)).1 = none → x.1 = nI (tv b n (sName b n l σ).2))) := by
  unfold f_X12_number_
  refine Wp_bv _ (q_asks hT hl hw h) (fun M1 ⟨a1, a2⟩ => ?_)
  refine Wp_bi _ (q_num (hT.rn a2) hlo hhi hp a1) (fun z M2 ⟨q1, q2, q3⟩ => Wp_some ⟨q1, a2.trans q2, q3⟩)
theorem q_good {M : kr_M} {b : Nat → Int32} {n : Nat} {σ : SG} (h : Sr M b n σ) : f_X12_isGood M = some (if σ.1 = none then 1 else 0, M) := by
  obtain ⟨o, s⟩ := σ
  apply Wp_eq
  unfold f_X12_isGood
  cases o with
  | none =>
    refine Wp_letI ?_; intro v ev
    rw [h.1] at ev
    subst ev
    exact Wp_f (fun q => q rfl) (Wp_some rfl)
  | some e =>
    have h' := h
    obtain ⟨h1, h2, h3, h4⟩ := h'
    refine Wp_letI ?_; intro v ev
    rw [h1] at ev
    subst ev
    exact Wp_t (nI_ne0 (by omega) (by omega)) (Wp_some rfl)
theorem q_ends {M : kr_M} {b : Nat → Int32} {n s : Nat} (hT : TR M b n) (h : Sr M b n (none, s)) : Wp (f_X12_ends M) (fun M' => Sr M' b n (sSign b n (none, s)) ∧ Fw rnX M M') := by
  have h' := h
  obtain ⟨h1, h2, h3, h4⟩ := h'
  have kb := tk_b b n s
  unfold f_X12_ends
  show Wp _ (fun M' => Sr M' b n (if tk b n s = 3 then (none, nxt_ b n s) else (some (1, s), s)) ∧ Fw rnX M M')
  refine Wp_letI ?_; intro v ev
  rw [h3] at ev
  subst ev
  by_cases c : tk b n s = 3
  · rw [if_pos c]
    refine Wp_t (by rw [c]; rfl) ?_
    unfold f_X12_ends_13
    refine Wp_letI ?_; intro v ev
    rw [h1] at ev
    subst ev
    refine Wp_f (fun q => q rfl) ?_
    exact Wp_bv _ (q_next hT h) (fun M' q => Wp_some q)
  · rw [if_neg c]
    refine Wp_f (fun q => c ((nI_eq (b := 3) (by omega) (by omega)).mp q)) ?_
    refine Wp_bv _ (q_fails (k := 1) (by omega) h) (fun M1 ⟨a1, a2⟩ => ?_)
    have a1' : Sr M1 b n (some (1, s), s) := a1
    unfold f_X12_ends_13
    refine Wp_letI ?_; intro v ev
    rw [a1'.1] at ev
    subst ev
    exact Wp_t (show ¬ nI 1 = 0 by decide) (Wp_some ⟨a1', a2⟩)
