/-! ways of the reference -/
def sF (f : Nat → Nat) : Nat → Nat
  | 0 => 0
  | n + 1 => sF f n + f n
theorem sF_cg {f h : Nat → Nat} : ∀ n, (∀ k, k < n → f k = h k) → sF f n = sF h n
  | 0, _ => rfl
  | n + 1, e => by
    show sF f n + f n = sF h n + h n
    rw [sF_cg n (fun k hk => e k (by omega)), e n (by omega)]
theorem sF_up {f h : Nat → Nat} {a : Nat} : ∀ n, a < n → (∀ k, k ≠ a → h k = f k) → sF h n + f a = sF f n + h a
  | 0, q, _ => by omega
  | n + 1, q, e => by
    show sF h n + h n + f a = sF f n + f n + h a
    by_cases c : a = n
    · subst c
      have := sF_cg a (fun k hk => e k (by omega))
      omega
    · have := sF_up n (by omega) e
      have := e n (by omega)
      omega
theorem sF_le {f : Nat → Nat} {b : Nat} : ∀ n, (∀ k, k < n → f k ≤ b) → sF f n ≤ b * n
  | 0, _ => Nat.zero_le _
  | n + 1, e => by
    have h1 := sF_le n (fun k hk => e k (by omega))
    have h2 := e n (by omega)
    show sF f n + f n ≤ b * (n + 1)
    rw [Nat.mul_add]
    omega
theorem sF_ge {f : Nat → Nat} {a : Nat} : ∀ n, a < n → f a ≤ sF f n
  | 0, q => by omega
  | n + 1, q => by
    show f a ≤ sF f n + f n
    by_cases c : a = n
    · subst c; omega
    · have := sF_ge (f := f) n (by omega : a < n)
      omega
def up1 (t : Nat → Option Nat) (a : Nat) (x : Option Nat) : Nat → Option Nat := fun k => if k = a then x else t k
theorem up1_at {t : Nat → Option Nat} {a : Nat} {x : Option Nat} : up1 t a x a = x := if_pos rfl
theorem up1_ne {t : Nat → Option Nat} {a k : Nat} {x : Option Nat} (h : k ≠ a) : up1 t a x k = t k := if_neg h
def bfW (o : Option Nat) : Nat := match o with
  | none => 30000
  | some v => v
def bfC (o : Option Nat) : Nat := match o with
  | none => 0
  | some _ => 1
def bfS (t : Nat → Option Nat) (n : Nat) : Nat := sF (fun k => bfW (t k)) n
def bfN (t : Nat → Option Nat) (n : Nat) : Nat := sF (fun k => bfC (t k)) n
theorem bfN_le {t : Nat → Option Nat} {n : Nat} : bfN t n ≤ n := by
  have := sF_le (f := fun k => bfC (t k)) (b := 1) n (fun k _ => by show bfC (t k) ≤ 1; cases t k <;> simp [bfC])
  show sF (fun k => bfC (t k)) n ≤ n
  omega
def BF (P : Nat → Nat → Prop) (n s : Nat) (t : Nat → Option Nat) : Prop := (∀ k v, t k = some v → P k v) ∧ t s = some 0 ∧ ∀ k v, t k = some v → v + 2151 ≤ 2151 * bfN t n
theorem bf_b {P : Nat → Nat → Prop} {n s : Nat} {t : Nat → Option Nat} (h : BF P n s t) (hn : n ≤ 12) : ∀ k v, t k = some v → v ≤ 25000 := fun k v hv => by
  have h1 := h.2.2 k v hv
  have h2 := bfN_le (t := t) (n := n)
  omega
theorem bf_S {P : Nat → Nat → Prop} {n s : Nat} {t : Nat → Option Nat} (h : BF P n s t) (hn : n ≤ 12) : bfS t n ≤ 360000 := by
  have := sF_le (f := fun k => bfW (t k)) (b := 30000) n (fun k _ => by
    show bfW (t k) ≤ 30000
    cases e : t k with
    | none => exact Nat.le_refl _
    | some v => have := bf_b h hn k v e; show v ≤ 30000; omega)
  show sF (fun k => bfW (t k)) n ≤ 360000
  omega
theorem bf_up {P : Nat → Nat → Prop} {n s a c x d : Nat} {t : Nat → Option Nat} (h : BF P n s t) (hn : n ≤ 12) (ha : a < n) (hx : t c = some x) (hd : 1 ≤ d) (hd2 : d ≤ 2151) (hP : P a (x + d)) (hl : ∀ u, t a = some u → x + d < u) : BF P n s (up1 t a (some (x + d))) ∧ bfS (up1 t a (some (x + d))) n < bfS t n := by
  have b1 := h.2.2 c x hx
  have b2 := bf_b h hn c x hx
  have e1 : bfN (up1 t a (some (x + d))) n + bfC (t a) = bfN t n + 1 := by
    have := sF_up (f := fun k => bfC (t k)) (h := fun k => bfC (up1 t a (some (x + d)) k)) n ha (fun k hk => by show bfC (up1 t a (some (x + d)) k) = bfC (t k); rw [up1_ne hk])
    have z : bfC (up1 t a (some (x + d)) a) = 1 := by rw [up1_at]; rfl
    have this : bfN (up1 t a (some (x + d))) n + bfC (t a) = bfN t n + bfC (up1 t a (some (x + d)) a) := this
    omega
  have e2 : bfS (up1 t a (some (x + d))) n + bfW (t a) = bfS t n + (x + d) := by
    have := sF_up (f := fun k => bfW (t k)) (h := fun k => bfW (up1 t a (some (x + d)) k)) n ha (fun k hk => by show bfW (up1 t a (some (x + d)) k) = bfW (t k); rw [up1_ne hk])
    have z : bfW (up1 t a (some (x + d)) a) = x + d := by rw [up1_at]; rfl
    have this : bfS (up1 t a (some (x + d))) n + bfW (t a) = bfS t n + bfW (up1 t a (some (x + d)) a) := this
    omega
  have e3 : bfC (t a) ≤ 1 := by cases t a <;> simp [bfC]
  refine ⟨⟨fun k v hv => ?_, ?_, fun k v hv => ?_⟩, ?_⟩
  · by_cases e : k = a
    · subst e
      rw [up1_at] at hv
      have hv : x + d = v := by simpa using hv
      rw [← hv]; exact hP
    · rw [up1_ne e] at hv
      exact h.1 k v hv
  · by_cases e : s = a
    · have := hl 0 (by rw [← e]; exact h.2.1)
      omega
    · rw [up1_ne e]; exact h.2.1
  · by_cases e : k = a
    · subst e
      rw [up1_at] at hv
      have hv : x + d = v := by simpa using hv
      cases et : t k with
      | none =>
        rw [et] at e1
        have e1 : bfN (up1 t k (some (x + d))) n + 0 = bfN t n + 1 := e1
        omega
      | some u =>
        have b3 := h.2.2 k u et
        have := hl u et
        omega
    · rw [up1_ne e] at hv
      have := h.2.2 k v hv
      omega
  · cases et : t a with
    | none =>
      rw [et] at e2
      have e2 : bfS (up1 t a (some (x + d))) n + 30000 = bfS t n + (x + d) := e2
      omega
    | some u =>
      have := hl u et
      rw [et] at e2
      have e2 : bfS (up1 t a (some (x + d))) n + u = bfS t n + (x + d) := e2
      omega
theorem bf_t {P : Nat → Nat → Prop} {n s a c d : Nat} {t : Nat → Option Nat} (h : BF P n s t) (hn : n ≤ 12) (q : kw_n (t c) + d < kw_n (t a)) : ∃ x, t c = some x ∧ ∀ u, t a = some u → x + d < u := by
  cases e : t c with
  | none =>
    rw [e] at q
    have q : 100000000 + d < kw_n (t a) := q
    have := kw_nle (a := t a) (fun v hv => by have := bf_b h hn a v hv; omega)
    omega
  | some x =>
    rw [e] at q
    refine ⟨x, rfl, fun u hu => ?_⟩
    rw [hu] at q
    exact q
theorem bf_f {P : Nat → Nat → Prop} {n s a c d : Nat} {t : Nat → Option Nat} (h : BF P n s t) (hn : n ≤ 12) (hd : d ≤ 2151) (q : ¬ kw_n (t c) + d < kw_n (t a)) : ∀ x, t c = some x → ∃ u, t a = some u ∧ u ≤ x + d := by
  intro x hx
  have hb := bf_b h hn c x hx
  rw [hx] at q
  have q : ¬ x + d < kw_n (t a) := q
  cases e : t a with
  | none =>
    rw [e] at q
    have q : ¬ x + d < 100000000 := q
    omega
  | some u =>
    rw [e] at q
    have q : ¬ x + d < u := q
    exact ⟨u, rfl, by omega⟩
theorem bf_nb {P : Nat → Nat → Prop} {n s : Nat} {t : Nat → Option Nat} (h : BF P n s t) (hn : n ≤ 12) (k : Nat) : kw_n (t k) ≤ 100000000 := kw_nle (fun v hv => by have := bf_b h hn k v hv; omega)
def tR (M : kr_M) (n : Nat) (t : Nat → Option Nat) : Prop := ∀ k, k < n → M.1 381 k = nI (kw_n (t k))
theorem tR_up {M : kr_M} {n a v : Nat} {t : Nat → Option Nat} (h : tR M n t) : tR (kr_si M 381 a (nI v)) n (up1 t a (some v)) := fun k hk => by
  rw [kg_si]
  by_cases e : k = a
  · subst e
    rw [if_pos ⟨rfl, rfl⟩, up1_at]; rfl
  · rw [if_neg (fun q => e q.2), up1_ne e]
    exact h k hk
abbrev tmX : Nat → Nat → Prop := fun a _ => a = 381
theorem tm_s : SS tmX := fun a j h => by have h : a = 381 := h; omega
theorem tmG {M M' : kr_M} {G : GG} (h : RG M G) (hf : Fx tmX M M') : RG M' G := h.fx hf (fun a j p q z => by have z : a = 381 := z; omega)
theorem tmL {M M' : kr_M} {G : GG} (h : LG M G) (hf : Fx tmX M M') : LG M' G := h.fx hf (fun a j p q z => by have z : a = 381 := z; omega) (fun z => by have z : 346 = 381 := z; omega)
/-- one pull along a rope -/
theorem tm_1 {M : kr_M} {P : Nat → Nat → Prop} {s r a c d j n' : Nat} {t : Nat → Option Nat} {l : Int32} {K : Int32 → Int32 → kr_M → Option kr_M} {Q : kr_M → Prop} (hB : BF P 6 s t) (hT : tR M 6 t) (hr : r < 6) (hj : j < 2) (ha : a < 6) (hc : c < 6) (ea : M.1 359 (4 * r + j) = nI a) (ec : M.1 359 (4 * r + 1 - j) = nI c) (hd : 1 ≤ d) (hd2 : d ≤ 2151) (hP : ∀ x, P c x → P a (x + d))
    (h : ∀ M' t' l', BF P 6 s t' → tR M' 6 t' → Fx tmX M M' → (l' = l ∧ t' = t ∧ (∀ x, t c = some x → ∃ u, t a = some u ∧ u ≤ x + d)) ∨ (l' = 1 ∧ bfS t' 6 < bfS t 6) → Wp (f_X12_laysTimes_109 K (nI r) (nI d) n' l' (nI (j + 1)) M') Q) : Wp (f_X12_laysTimes_109 K (nI r) (nI d) (n' + 1) l (nI j) M) Q := by
  have eT := hT a ha
  have eC := hT c hc
  have na := bf_nb hB (by omega) a
  have nc := bf_nb hB (by omega) c
  rw [f_X12_laysTimes_109]
  by_cases q : kw_n (t c) + d < kw_n (t a)
  · obtain ⟨x, hx, hl⟩ := bf_t hB (by omega) q
    obtain ⟨u1, u2⟩ := bf_up hB (by omega) ha hx hd hd2 (hP x (hB.1 c x hx)) hl
    have bx := bf_b hB (by omega) c x hx
    have eC' : M.1 381 c = nI x := by rw [eC, hx]; rfl
    rw [hx] at q
    have q : x + d < kw_n (t a) := q
    (repeat (first | with_reducible refine Wp_some ?_ | (with_reducible refine Wp_letI ?_; intro v_ hv_; (try simp (disch := omega) only [L_0, L_1, L_2, L_3, L_4, L_5, L_6, L_7, L_8, L_9, L_10, L_11, L_12, L_16, L_18, L_20, L_24, L_25, L_30, L_32, L_38, L_40, L_48, L_50, L_60, L_63, L_64, L_72, L_99, L_100, L_160, L_500, L_999, L_1380, L_1400, L_2400, L_2401, L_60025, L_100000, L_1000000, L_100000000, L_2000000000, nI_add, pk_mul, nI_clamp, nI_leI, nI_ltI, nI_eq, kin_I, pk_sub, nI_m1, m1_nI, nI_am1, kx_max, kx_min, kt_tx, kt_rp, kg_si, kg_sl, kq_si, kq_sl, kv_si, kv_sl, Nat.reduceAdd, Nat.reduceMul, Nat.reduceSub, Nat.reduceEqDiff, Nat.reduceLT, Nat.reduceLeDiff, ne_eq, not_true_eq_false, not_false_eq_true, or_true, true_or, or_false, false_or, and_true, true_and, false_and, and_false, if_true, if_false, ite_true, ite_false, reduceIte, kl_0, kl_1, kl_2, kl_3, kl_6, kl_20, kl_50, kl_500, kl_999, kl_2400, kl_2g, in_t, in_tt, in_f, in_ff, in_n, if_pos, if_neg, eq_self, nI_n1, n1_nI, nI_an1, lesser_n1, lesser_rn, lesser_n, kx_n1, ea, ec, eC', eT] at hv_); subst hv_) | (with_reducible refine Wp_biI ?_; intro c_ hc_; simp (disch := omega) only [L_0, L_1, L_2, L_3, L_4, L_5, L_6, L_7, L_8, L_9, L_10, L_11, L_12, L_16, L_18, L_20, L_24, L_25, L_30, L_32, L_38, L_40, L_48, L_50, L_60, L_63, L_64, L_72, L_99, L_100, L_160, L_500, L_999, L_1380, L_1400, L_2400, L_2401, L_60025, L_100000, L_1000000, L_100000000, L_2000000000, nI_add, pk_mul, nI_clamp, nI_leI, nI_ltI, nI_eq, kin_I, pk_sub, nI_m1, m1_nI, nI_am1, kx_max, kx_min, kt_tx, kt_rp, kg_si, kg_sl, kq_si, kq_sl, kv_si, kv_sl, Nat.reduceAdd, Nat.reduceMul, Nat.reduceSub, Nat.reduceEqDiff, Nat.reduceLT, Nat.reduceLeDiff, ne_eq, not_true_eq_false, not_false_eq_true, or_true, true_or, or_false, false_or, and_true, true_and, false_and, and_false, if_true, if_false, ite_true, ite_false, reduceIte, kl_0, kl_1, kl_2, kl_3, kl_6, kl_20, kl_50, kl_500, kl_999, kl_2400, kl_2g, in_t, in_tt, in_f, in_ff, in_n, if_pos, if_neg, eq_self, nI_n1, n1_nI, nI_an1, lesser_n1, lesser_rn, lesser_n, kx_n1, ea, ec, eC', eT] at hc_; subst hc_; with_reducible refine Wp_bis ?_) | (with_reducible refine Wp_bvI ?_; intro c_ hc_; simp (disch := omega) only [L_0, L_1, L_2, L_3, L_4, L_5, L_6, L_7, L_8, L_9, L_10, L_11, L_12, L_16, L_18, L_20, L_24, L_25, L_30, L_32, L_38, L_40, L_48, L_50, L_60, L_63, L_64, L_72, L_99, L_100, L_160, L_500, L_999, L_1380, L_1400, L_2400, L_2401, L_60025, L_100000, L_1000000, L_100000000, L_2000000000, nI_add, pk_mul, nI_clamp, nI_leI, nI_ltI, nI_eq, kin_I, pk_sub, nI_m1, m1_nI, nI_am1, kx_max, kx_min, kt_tx, kt_rp, kg_si, kg_sl, kq_si, kq_sl, kv_si, kv_sl, Nat.reduceAdd, Nat.reduceMul, Nat.reduceSub, Nat.reduceEqDiff, Nat.reduceLT, Nat.reduceLeDiff, ne_eq, not_true_eq_false, not_false_eq_true, or_true, true_or, or_false, false_or, and_true, true_and, false_and, and_false, if_true, if_false, ite_true, ite_false, reduceIte, kl_0, kl_1, kl_2, kl_3, kl_6, kl_20, kl_50, kl_500, kl_999, kl_2400, kl_2g, in_t, in_tt, in_f, in_ff, in_n, if_pos, if_neg, eq_self, nI_n1, n1_nI, nI_an1, lesser_n1, lesser_rn, lesser_n, kx_n1, ea, ec, eC', eT] at hc_; subst hc_; with_reducible refine Wp_bvs ?_) | (with_reducible refine Wp_t (by (first | (simp (disch := omega) only [L_0, L_1, L_2, L_3, L_4, L_5, L_6, L_7, L_8, L_9, L_10, L_11, L_12, L_16, L_18, L_20, L_24, L_25, L_30, L_32, L_38, L_40, L_48, L_50, L_60, L_63, L_64, L_72, L_99, L_100, L_160, L_500, L_999, L_1380, L_1400, L_2400, L_2401, L_60025, L_100000, L_1000000, L_100000000, L_2000000000, nI_add, pk_mul, nI_clamp, nI_leI, nI_ltI, nI_eq, kin_I, pk_sub, nI_m1, m1_nI, nI_am1, kx_max, kx_min, kt_tx, kt_rp, kg_si, kg_sl, kq_si, kq_sl, kv_si, kv_sl, Nat.reduceAdd, Nat.reduceMul, Nat.reduceSub, Nat.reduceEqDiff, Nat.reduceLT, Nat.reduceLeDiff, ne_eq, not_true_eq_false, not_false_eq_true, or_true, true_or, or_false, false_or, and_true, true_and, false_and, and_false, if_true, if_false, ite_true, ite_false, reduceIte, kl_0, kl_1, kl_2, kl_3, kl_6, kl_20, kl_50, kl_500, kl_999, kl_2400, kl_2g, in_t, in_tt, in_f, in_ff, in_n, if_pos, if_neg, eq_self, nI_n1, n1_nI, nI_an1, lesser_n1, lesser_rn, lesser_n, kx_n1, ea, ec, eC', eT]; done) | (simp (disch := omega) only [L_0, L_1, L_2, L_3, L_4, L_5, L_6, L_7, L_8, L_9, L_10, L_11, L_12, L_16, L_18, L_20, L_24, L_25, L_30, L_32, L_38, L_40, L_48, L_50, L_60, L_63, L_64, L_72, L_99, L_100, L_160, L_500, L_999, L_1380, L_1400, L_2400, L_2401, L_60025, L_100000, L_1000000, L_100000000, L_2000000000, nI_add, pk_mul, nI_clamp, nI_leI, nI_ltI, nI_eq, kin_I, pk_sub, nI_m1, m1_nI, nI_am1, kx_max, kx_min, kt_tx, kt_rp, kg_si, kg_sl, kq_si, kq_sl, kv_si, kv_sl, Nat.reduceAdd, Nat.reduceMul, Nat.reduceSub, Nat.reduceEqDiff, Nat.reduceLT, Nat.reduceLeDiff, ne_eq, not_true_eq_false, not_false_eq_true, or_true, true_or, or_false, false_or, and_true, true_and, false_and, and_false, if_true, if_false, ite_true, ite_false, reduceIte, kl_0, kl_1, kl_2, kl_3, kl_6, kl_20, kl_50, kl_500, kl_999, kl_2400, kl_2g, in_t, in_tt, in_f, in_ff, in_n, if_pos, if_neg, eq_self, nI_n1, n1_nI, nI_an1, lesser_n1, lesser_rn, lesser_n, kx_n1, ea, ec, eC', eT]; omega) | decide)) ?_) | (with_reducible refine Wp_f (by (first | (simp (disch := omega) only [L_0, L_1, L_2, L_3, L_4, L_5, L_6, L_7, L_8, L_9, L_10, L_11, L_12, L_16, L_18, L_20, L_24, L_25, L_30, L_32, L_38, L_40, L_48, L_50, L_60, L_63, L_64, L_72, L_99, L_100, L_160, L_500, L_999, L_1380, L_1400, L_2400, L_2401, L_60025, L_100000, L_1000000, L_100000000, L_2000000000, nI_add, pk_mul, nI_clamp, nI_leI, nI_ltI, nI_eq, kin_I, pk_sub, nI_m1, m1_nI, nI_am1, kx_max, kx_min, kt_tx, kt_rp, kg_si, kg_sl, kq_si, kq_sl, kv_si, kv_sl, Nat.reduceAdd, Nat.reduceMul, Nat.reduceSub, Nat.reduceEqDiff, Nat.reduceLT, Nat.reduceLeDiff, ne_eq, not_true_eq_false, not_false_eq_true, or_true, true_or, or_false, false_or, and_true, true_and, false_and, and_false, if_true, if_false, ite_true, ite_false, reduceIte, kl_0, kl_1, kl_2, kl_3, kl_6, kl_20, kl_50, kl_500, kl_999, kl_2400, kl_2g, in_t, in_tt, in_f, in_ff, in_n, if_pos, if_neg, eq_self, nI_n1, n1_nI, nI_an1, lesser_n1, lesser_rn, lesser_n, kx_n1, ea, ec, eC', eT]; done) | (simp (disch := omega) only [L_0, L_1, L_2, L_3, L_4, L_5, L_6, L_7, L_8, L_9, L_10, L_11, L_12, L_16, L_18, L_20, L_24, L_25, L_30, L_32, L_38, L_40, L_48, L_50, L_60, L_63, L_64, L_72, L_99, L_100, L_160, L_500, L_999, L_1380, L_1400, L_2400, L_2401, L_60025, L_100000, L_1000000, L_100000000, L_2000000000, nI_add, pk_mul, nI_clamp, nI_leI, nI_ltI, nI_eq, kin_I, pk_sub, nI_m1, m1_nI, nI_am1, kx_max, kx_min, kt_tx, kt_rp, kg_si, kg_sl, kq_si, kq_sl, kv_si, kv_sl, Nat.reduceAdd, Nat.reduceMul, Nat.reduceSub, Nat.reduceEqDiff, Nat.reduceLT, Nat.reduceLeDiff, ne_eq, not_true_eq_false, not_false_eq_true, or_true, true_or, or_false, false_or, and_true, true_and, false_and, and_false, if_true, if_false, ite_true, ite_false, reduceIte, kl_0, kl_1, kl_2, kl_3, kl_6, kl_20, kl_50, kl_500, kl_999, kl_2400, kl_2g, in_t, in_tt, in_f, in_ff, in_n, if_pos, if_neg, eq_self, nI_n1, n1_nI, nI_an1, lesser_n1, lesser_rn, lesser_n, kx_n1, ea, ec, eC', eT]; omega) | decide)) ?_) | unfold f_X12_laysTimes_188)); try simp (disch := omega) only [nI_1, kt_rp, kt_tx]
    exact h _ _ _ u1 (tR_up hT) ((Fx.refl M).si _ rfl) (Or.inr ⟨rfl, u2⟩)
  · (repeat (first | with_reducible refine Wp_some ?_ | (with_reducible refine Wp_letI ?_; intro v_ hv_; (try simp (disch := omega) only [L_0, L_1, L_2, L_3, L_4, L_5, L_6, L_7, L_8, L_9, L_10, L_11, L_12, L_16, L_18, L_20, L_24, L_25, L_30, L_32, L_38, L_40, L_48, L_50, L_60, L_63, L_64, L_72, L_99, L_100, L_160, L_500, L_999, L_1380, L_1400, L_2400, L_2401, L_60025, L_100000, L_1000000, L_100000000, L_2000000000, nI_add, pk_mul, nI_clamp, nI_leI, nI_ltI, nI_eq, kin_I, pk_sub, nI_m1, m1_nI, nI_am1, kx_max, kx_min, kt_tx, kt_rp, kg_si, kg_sl, kq_si, kq_sl, kv_si, kv_sl, Nat.reduceAdd, Nat.reduceMul, Nat.reduceSub, Nat.reduceEqDiff, Nat.reduceLT, Nat.reduceLeDiff, ne_eq, not_true_eq_false, not_false_eq_true, or_true, true_or, or_false, false_or, and_true, true_and, false_and, and_false, if_true, if_false, ite_true, ite_false, reduceIte, kl_0, kl_1, kl_2, kl_3, kl_6, kl_20, kl_50, kl_500, kl_999, kl_2400, kl_2g, in_t, in_tt, in_f, in_ff, in_n, if_pos, if_neg, eq_self, nI_n1, n1_nI, nI_an1, lesser_n1, lesser_rn, lesser_n, kx_n1, ea, ec, eC, eT] at hv_); subst hv_) | (with_reducible refine Wp_biI ?_; intro c_ hc_; simp (disch := omega) only [L_0, L_1, L_2, L_3, L_4, L_5, L_6, L_7, L_8, L_9, L_10, L_11, L_12, L_16, L_18, L_20, L_24, L_25, L_30, L_32, L_38, L_40, L_48, L_50, L_60, L_63, L_64, L_72, L_99, L_100, L_160, L_500, L_999, L_1380, L_1400, L_2400, L_2401, L_60025, L_100000, L_1000000, L_100000000, L_2000000000, nI_add, pk_mul, nI_clamp, nI_leI, nI_ltI, nI_eq, kin_I, pk_sub, nI_m1, m1_nI, nI_am1, kx_max, kx_min, kt_tx, kt_rp, kg_si, kg_sl, kq_si, kq_sl, kv_si, kv_sl, Nat.reduceAdd, Nat.reduceMul, Nat.reduceSub, Nat.reduceEqDiff, Nat.reduceLT, Nat.reduceLeDiff, ne_eq, not_true_eq_false, not_false_eq_true, or_true, true_or, or_false, false_or, and_true, true_and, false_and, and_false, if_true, if_false, ite_true, ite_false, reduceIte, kl_0, kl_1, kl_2, kl_3, kl_6, kl_20, kl_50, kl_500, kl_999, kl_2400, kl_2g, in_t, in_tt, in_f, in_ff, in_n, if_pos, if_neg, eq_self, nI_n1, n1_nI, nI_an1, lesser_n1, lesser_rn, lesser_n, kx_n1, ea, ec, eC, eT] at hc_; subst hc_; with_reducible refine Wp_bis ?_) | (with_reducible refine Wp_bvI ?_; intro c_ hc_; simp (disch := omega) only [L_0, L_1, L_2, L_3, L_4, L_5, L_6, L_7, L_8, L_9, L_10, L_11, L_12, L_16, L_18, L_20, L_24, L_25, L_30, L_32, L_38, L_40, L_48, L_50, L_60, L_63, L_64, L_72, L_99, L_100, L_160, L_500, L_999, L_1380, L_1400, L_2400, L_2401, L_60025, L_100000, L_1000000, L_100000000, L_2000000000, nI_add, pk_mul, nI_clamp, nI_leI, nI_ltI, nI_eq, kin_I, pk_sub, nI_m1, m1_nI, nI_am1, kx_max, kx_min, kt_tx, kt_rp, kg_si, kg_sl, kq_si, kq_sl, kv_si, kv_sl, Nat.reduceAdd, Nat.reduceMul, Nat.reduceSub, Nat.reduceEqDiff, Nat.reduceLT, Nat.reduceLeDiff, ne_eq, not_true_eq_false, not_false_eq_true, or_true, true_or, or_false, false_or, and_true, true_and, false_and, and_false, if_true, if_false, ite_true, ite_false, reduceIte, kl_0, kl_1, kl_2, kl_3, kl_6, kl_20, kl_50, kl_500, kl_999, kl_2400, kl_2g, in_t, in_tt, in_f, in_ff, in_n, if_pos, if_neg, eq_self, nI_n1, n1_nI, nI_an1, lesser_n1, lesser_rn, lesser_n, kx_n1, ea, ec, eC, eT] at hc_; subst hc_; with_reducible refine Wp_bvs ?_) | (with_reducible refine Wp_t (by (first | (simp (disch := omega) only [L_0, L_1, L_2, L_3, L_4, L_5, L_6, L_7, L_8, L_9, L_10, L_11, L_12, L_16, L_18, L_20, L_24, L_25, L_30, L_32, L_38, L_40, L_48, L_50, L_60, L_63, L_64, L_72, L_99, L_100, L_160, L_500, L_999, L_1380, L_1400, L_2400, L_2401, L_60025, L_100000, L_1000000, L_100000000, L_2000000000, nI_add, pk_mul, nI_clamp, nI_leI, nI_ltI, nI_eq, kin_I, pk_sub, nI_m1, m1_nI, nI_am1, kx_max, kx_min, kt_tx, kt_rp, kg_si, kg_sl, kq_si, kq_sl, kv_si, kv_sl, Nat.reduceAdd, Nat.reduceMul, Nat.reduceSub, Nat.reduceEqDiff, Nat.reduceLT, Nat.reduceLeDiff, ne_eq, not_true_eq_false, not_false_eq_true, or_true, true_or, or_false, false_or, and_true, true_and, false_and, and_false, if_true, if_false, ite_true, ite_false, reduceIte, kl_0, kl_1, kl_2, kl_3, kl_6, kl_20, kl_50, kl_500, kl_999, kl_2400, kl_2g, in_t, in_tt, in_f, in_ff, in_n, if_pos, if_neg, eq_self, nI_n1, n1_nI, nI_an1, lesser_n1, lesser_rn, lesser_n, kx_n1, ea, ec, eC, eT]; done) | (simp (disch := omega) only [L_0, L_1, L_2, L_3, L_4, L_5, L_6, L_7, L_8, L_9, L_10, L_11, L_12, L_16, L_18, L_20, L_24, L_25, L_30, L_32, L_38, L_40, L_48, L_50, L_60, L_63, L_64, L_72, L_99, L_100, L_160, L_500, L_999, L_1380, L_1400, L_2400, L_2401, L_60025, L_100000, L_1000000, L_100000000, L_2000000000, nI_add, pk_mul, nI_clamp, nI_leI, nI_ltI, nI_eq, kin_I, pk_sub, nI_m1, m1_nI, nI_am1, kx_max, kx_min, kt_tx, kt_rp, kg_si, kg_sl, kq_si, kq_sl, kv_si, kv_sl, Nat.reduceAdd, Nat.reduceMul, Nat.reduceSub, Nat.reduceEqDiff, Nat.reduceLT, Nat.reduceLeDiff, ne_eq, not_true_eq_false, not_false_eq_true, or_true, true_or, or_false, false_or, and_true, true_and, false_and, and_false, if_true, if_false, ite_true, ite_false, reduceIte, kl_0, kl_1, kl_2, kl_3, kl_6, kl_20, kl_50, kl_500, kl_999, kl_2400, kl_2g, in_t, in_tt, in_f, in_ff, in_n, if_pos, if_neg, eq_self, nI_n1, n1_nI, nI_an1, lesser_n1, lesser_rn, lesser_n, kx_n1, ea, ec, eC, eT]; omega) | decide)) ?_) | (with_reducible refine Wp_f (by (first | (simp (disch := omega) only [L_0, L_1, L_2, L_3, L_4, L_5, L_6, L_7, L_8, L_9, L_10, L_11, L_12, L_16, L_18, L_20, L_24, L_25, L_30, L_32, L_38, L_40, L_48, L_50, L_60, L_63, L_64, L_72, L_99, L_100, L_160, L_500, L_999, L_1380, L_1400, L_2400, L_2401, L_60025, L_100000, L_1000000, L_100000000, L_2000000000, nI_add, pk_mul, nI_clamp, nI_leI, nI_ltI, nI_eq, kin_I, pk_sub, nI_m1, m1_nI, nI_am1, kx_max, kx_min, kt_tx, kt_rp, kg_si, kg_sl, kq_si, kq_sl, kv_si, kv_sl, Nat.reduceAdd, Nat.reduceMul, Nat.reduceSub, Nat.reduceEqDiff, Nat.reduceLT, Nat.reduceLeDiff, ne_eq, not_true_eq_false, not_false_eq_true, or_true, true_or, or_false, false_or, and_true, true_and, false_and, and_false, if_true, if_false, ite_true, ite_false, reduceIte, kl_0, kl_1, kl_2, kl_3, kl_6, kl_20, kl_50, kl_500, kl_999, kl_2400, kl_2g, in_t, in_tt, in_f, in_ff, in_n, if_pos, if_neg, eq_self, nI_n1, n1_nI, nI_an1, lesser_n1, lesser_rn, lesser_n, kx_n1, ea, ec, eC, eT]; done) | (simp (disch := omega) only [L_0, L_1, L_2, L_3, L_4, L_5, L_6, L_7, L_8, L_9, L_10, L_11, L_12, L_16, L_18, L_20, L_24, L_25, L_30, L_32, L_38, L_40, L_48, L_50, L_60, L_63, L_64, L_72, L_99, L_100, L_160, L_500, L_999, L_1380, L_1400, L_2400, L_2401, L_60025, L_100000, L_1000000, L_100000000, L_2000000000, nI_add, pk_mul, nI_clamp, nI_leI, nI_ltI, nI_eq, kin_I, pk_sub, nI_m1, m1_nI, nI_am1, kx_max, kx_min, kt_tx, kt_rp, kg_si, kg_sl, kq_si, kq_sl, kv_si, kv_sl, Nat.reduceAdd, Nat.reduceMul, Nat.reduceSub, Nat.reduceEqDiff, Nat.reduceLT, Nat.reduceLeDiff, ne_eq, not_true_eq_false, not_false_eq_true, or_true, true_or, or_false, false_or, and_true, true_and, false_and, and_false, if_true, if_false, ite_true, ite_false, reduceIte, kl_0, kl_1, kl_2, kl_3, kl_6, kl_20, kl_50, kl_500, kl_999, kl_2400, kl_2g, in_t, in_tt, in_f, in_ff, in_n, if_pos, if_neg, eq_self, nI_n1, n1_nI, nI_an1, lesser_n1, lesser_rn, lesser_n, kx_n1, ea, ec, eC, eT]; omega) | decide)) ?_) | unfold f_X12_laysTimes_188)); try simp (disch := omega) only [nI_1, kt_rp, kt_tx]
    exact h M t l hB hT (Fx.refl M) (Or.inl ⟨rfl, rfl, bf_f hB (by omega) hd2 q⟩)
def edK (G : GG) (p : Nat) (wo : Int32) (t : Nat → Option Nat) (n : Nat) : Prop := ∀ r, r < n → wkB G p wo r = true → ∀ a c, wkE G r a c → ∀ x, t c = some x → ∃ u, t a = some u ∧ u ≤ x + wkC G p r
theorem tm_2 {M : kr_M} {s r p : Nat} {wo : Int32} {G : GG} {t : Nat → Option Nat} {l : Int32} {K : Int32 → Int32 → kr_M → Option kr_M} {Q : kr_M → Prop} (hV : GV G) (hp : p < gPe G) (hR : RG M G) (hB : BF (fun k v => sd G p wo k s v) 6 s t) (hT : tR M 6 t) (hr : r < gRo G) (hb : wkB G p wo r = true)
    (h : ∀ M' t' l', BF (fun k v => sd G p wo k s v) 6 s t' → tR M' 6 t' → Fx tmX M M' → (l' = l ∧ t' = t ∧ (∀ a c, wkE G r a c → ∀ x, t c = some x → ∃ u, t a = some u ∧ u ≤ x + wkC G p r)) ∨ (l' = 1 ∧ bfS t' 6 < bfS t 6) → Wp (K l' (nI (r + 1)) M') Q) : Wp (f_X12_laysTimes_109 K (nI r) (nI (wkC G p r)) kr_F l (nI 0) M) Q := by
  have hV' := hV
  obtain ⟨vLi, v0, vPl, vWe, vOd, vKi, vWo, vRo, vPe, vWt, vAc, vIn, vWa, vL, vMn, vW, vA, vB, vAB, vLd, vCr, vN, vK, vWg, vPc, vSt, vD⟩ := hV'
  have hA := vA r hr
  have hB' := vB r hr
  obtain ⟨d1, d2⟩ := wkC_b hV hr hp
  have hR' := hR
  obtain ⟨r0, rPl, rWe, rOd, rKi, rWo, rRo, rPe, rAc, rInc, rWa, rL, rMn, rW, rA, rB, rLd, rWg, rPc⟩ := hR'
  have gen : ∀ (a c : Nat), wkE G r a c → ∀ x, sd G p wo c s x → sd G p wo a s (x + wkC G p r) := fun a c hac x hx => by
    rw [Nat.add_comm]
    exact sd_cat (sd_e hb hac) hx
  obtain ⟨f, hf⟩ : ∃ f, kr_F = f + 1 + 1 + 1 := ⟨kr_F - 3, by have := kr_F_gt 5 (by omega); omega⟩
  rw [hf]
  refine tm_1 (a := gA G r) (c := gB G r) hB hT (by omega) (by omega) (by omega) (by omega) (rA r hr) (rB r hr) d1 d2 (gen _ _ (Or.inl ⟨rfl, rfl⟩)) (fun M1 t1 l1 b1 y1 f1 o1 => ?_)
  have hR1 := tmG hR f1
  have hR1' := hR1
  obtain ⟨r0, rPl, rWe, rOd, rKi, rWo, rRo, rPe, rAc, rInc, rWa, rL, rMn, rW, rA, rB, rLd, rWg, rPc⟩ := hR1'
  refine tm_1 (a := gB G r) (c := gA G r) b1 y1 (by omega) (by omega) (by omega) (by omega) (rB r hr) (rA r hr) d1 d2 (gen _ _ (Or.inr ⟨rfl, rfl⟩)) (fun M2 t2 l2 b2 y2 f2 o2 => ?_)
  rw [f_X12_laysTimes_109]
  refine Wp_t (nI_le (Nat.le_refl 2) (by omega)) ?_
  unfold f_X12_laysTimes_194
  rw [L_1, nI_add]
  refine h M2 t2 l2 b2 y2 (f1.trans f2) ?_
  rcases o1 with ⟨x1, x2, x3⟩ | ⟨x1, x2⟩
  · subst x2
    rcases o2 with ⟨z1, z2, z3⟩ | ⟨z1, z2⟩
    · refine Or.inl ⟨by rw [z1, x1], z2, fun a c hac => ?_⟩
      rcases hac with ⟨rfl, rfl⟩ | ⟨rfl, rfl⟩
      · exact x3
      · exact z3
    · exact Or.inr ⟨z1, z2⟩
  · rcases o2 with ⟨z1, z2, z3⟩ | ⟨z1, z2⟩
    · subst z2
      exact Or.inr ⟨by rw [z1, x1], x2⟩
    · exact Or.inr ⟨z1, by omega⟩
theorem tm_ro {M0 : kr_M} {s p : Nat} {wo : Int32} {G : GG} {t0 : Nat → Option Nat} {K : Int32 → kr_M → Option kr_M} {Q : kr_M → Prop} (hV : GV G) (hp : p < gPe G)
    (h : ∀ M' t' l', RG M' G → LG M' G → BF (fun k v => sd G p wo k s v) 6 s t' → tR M' 6 t' → Fx tmX M0 M' → (l' = 0 ∧ edK G p wo t' (gRo G)) ∨ (l' = 1 ∧ bfS t' 6 < bfS t0 6) → Wp (K l' M') Q) :
    ∀ n' r M t l, r ≤ gRo G → gRo G - r < n' → RG M G → LG M G → BF (fun k v => sd G p wo k s v) 6 s t → tR M 6 t → Fx tmX M0 M → (l = 0 ∧ t = t0 ∧ edK G p wo t r) ∨ (l = 1 ∧ bfS t 6 < bfS t0 6) → Wp (f_X12_laysTimes_50 K (nI p) wo n' l (nI r) M) Q := by
  intro n'
  induction n' with
  | zero => intro r M t l h1 h2; omega
  | succ n' ih =>
    intro r M t l h1 h2 hR hL hB hT hF ho
    have hV' := hV
    obtain ⟨vLi, v0, vPl, vWe, vOd, vKi, vWo, vRo, vPe, vWt, vAc, vIn, vWa, vL, vMn, vW, vA, vB, vAB, vLd, vCr, vN, vK, vWg, vPc, vSt, vD⟩ := hV'
    have hR' := hR
    obtain ⟨r0, rPl, rWe, rOd, rKi, rWo, rRo, rPe, rAc, rInc, rWa, rL, rMn, rW, rA, rB, rLd, rWg, rPc⟩ := hR'
    rw [f_X12_laysTimes_50]
    by_cases c : r = gRo G
    · subst c
      (repeat (first | with_reducible refine Wp_some ?_ | (with_reducible refine Wp_letI ?_; intro v_ hv_; (try simp (disch := omega) only [L_0, L_1, L_2, L_3, L_4, L_5, L_6, L_7, L_8, L_9, L_10, L_11, L_12, L_16, L_18, L_20, L_24, L_25, L_30, L_32, L_38, L_40, L_48, L_50, L_60, L_63, L_64, L_72, L_99, L_100, L_160, L_500, L_999, L_1380, L_1400, L_2400, L_2401, L_60025, L_100000, L_1000000, L_100000000, L_2000000000, nI_add, pk_mul, nI_clamp, nI_leI, nI_ltI, nI_eq, kin_I, pk_sub, nI_m1, m1_nI, nI_am1, kx_max, kx_min, kt_tx, kt_rp, kg_si, kg_sl, kq_si, kq_sl, kv_si, kv_sl, Nat.reduceAdd, Nat.reduceMul, Nat.reduceSub, Nat.reduceEqDiff, Nat.reduceLT, Nat.reduceLeDiff, ne_eq, not_true_eq_false, not_false_eq_true, or_true, true_or, or_false, false_or, and_true, true_and, false_and, and_false, if_true, if_false, ite_true, ite_false, reduceIte, kl_0, kl_1, kl_2, kl_3, kl_6, kl_20, kl_50, kl_500, kl_999, kl_2400, kl_2g, in_t, in_tt, in_f, in_ff, in_n, if_pos, if_neg, eq_self, nI_n1, n1_nI, nI_an1, lesser_n1, lesser_rn, lesser_n, kx_n1, rRo] at hv_); subst hv_) | (with_reducible refine Wp_biI ?_; intro c_ hc_; simp (disch := omega) only [L_0, L_1, L_2, L_3, L_4, L_5, L_6, L_7, L_8, L_9, L_10, L_11, L_12, L_16, L_18, L_20, L_24, L_25, L_30, L_32, L_38, L_40, L_48, L_50, L_60, L_63, L_64, L_72, L_99, L_100, L_160, L_500, L_999, L_1380, L_1400, L_2400, L_2401, L_60025, L_100000, L_1000000, L_100000000, L_2000000000, nI_add, pk_mul, nI_clamp, nI_leI, nI_ltI, nI_eq, kin_I, pk_sub, nI_m1, m1_nI, nI_am1, kx_max, kx_min, kt_tx, kt_rp, kg_si, kg_sl, kq_si, kq_sl, kv_si, kv_sl, Nat.reduceAdd, Nat.reduceMul, Nat.reduceSub, Nat.reduceEqDiff, Nat.reduceLT, Nat.reduceLeDiff, ne_eq, not_true_eq_false, not_false_eq_true, or_true, true_or, or_false, false_or, and_true, true_and, false_and, and_false, if_true, if_false, ite_true, ite_false, reduceIte, kl_0, kl_1, kl_2, kl_3, kl_6, kl_20, kl_50, kl_500, kl_999, kl_2400, kl_2g, in_t, in_tt, in_f, in_ff, in_n, if_pos, if_neg, eq_self, nI_n1, n1_nI, nI_an1, lesser_n1, lesser_rn, lesser_n, kx_n1, rRo] at hc_; subst hc_; with_reducible refine Wp_bis ?_) | (with_reducible refine Wp_bvI ?_; intro c_ hc_; simp (disch := omega) only [L_0, L_1, L_2, L_3, L_4, L_5, L_6, L_7, L_8, L_9, L_10, L_11, L_12, L_16, L_18, L_20, L_24, L_25, L_30, L_32, L_38, L_40, L_48, L_50, L_60, L_63, L_64, L_72, L_99, L_100, L_160, L_500, L_999, L_1380, L_1400, L_2400, L_2401, L_60025, L_100000, L_1000000, L_100000000, L_2000000000, nI_add, pk_mul, nI_clamp, nI_leI, nI_ltI, nI_eq, kin_I, pk_sub, nI_m1, m1_nI, nI_am1, kx_max, kx_min, kt_tx, kt_rp, kg_si, kg_sl, kq_si, kq_sl, kv_si, kv_sl, Nat.reduceAdd, Nat.reduceMul, Nat.reduceSub, Nat.reduceEqDiff, Nat.reduceLT, Nat.reduceLeDiff, ne_eq, not_true_eq_false, not_false_eq_true, or_true, true_or, or_false, false_or, and_true, true_and, false_and, and_false, if_true, if_false, ite_true, ite_false, reduceIte, kl_0, kl_1, kl_2, kl_3, kl_6, kl_20, kl_50, kl_500, kl_999, kl_2400, kl_2g, in_t, in_tt, in_f, in_ff, in_n, if_pos, if_neg, eq_self, nI_n1, n1_nI, nI_an1, lesser_n1, lesser_rn, lesser_n, kx_n1, rRo] at hc_; subst hc_; with_reducible refine Wp_bvs ?_) | (with_reducible refine Wp_t (by (first | (simp (disch := omega) only [L_0, L_1, L_2, L_3, L_4, L_5, L_6, L_7, L_8, L_9, L_10, L_11, L_12, L_16, L_18, L_20, L_24, L_25, L_30, L_32, L_38, L_40, L_48, L_50, L_60, L_63, L_64, L_72, L_99, L_100, L_160, L_500, L_999, L_1380, L_1400, L_2400, L_2401, L_60025, L_100000, L_1000000, L_100000000, L_2000000000, nI_add, pk_mul, nI_clamp, nI_leI, nI_ltI, nI_eq, kin_I, pk_sub, nI_m1, m1_nI, nI_am1, kx_max, kx_min, kt_tx, kt_rp, kg_si, kg_sl, kq_si, kq_sl, kv_si, kv_sl, Nat.reduceAdd, Nat.reduceMul, Nat.reduceSub, Nat.reduceEqDiff, Nat.reduceLT, Nat.reduceLeDiff, ne_eq, not_true_eq_false, not_false_eq_true, or_true, true_or, or_false, false_or, and_true, true_and, false_and, and_false, if_true, if_false, ite_true, ite_false, reduceIte, kl_0, kl_1, kl_2, kl_3, kl_6, kl_20, kl_50, kl_500, kl_999, kl_2400, kl_2g, in_t, in_tt, in_f, in_ff, in_n, if_pos, if_neg, eq_self, nI_n1, n1_nI, nI_an1, lesser_n1, lesser_rn, lesser_n, kx_n1, rRo]; done) | (simp (disch := omega) only [L_0, L_1, L_2, L_3, L_4, L_5, L_6, L_7, L_8, L_9, L_10, L_11, L_12, L_16, L_18, L_20, L_24, L_25, L_30, L_32, L_38, L_40, L_48, L_50, L_60, L_63, L_64, L_72, L_99, L_100, L_160, L_500, L_999, L_1380, L_1400, L_2400, L_2401, L_60025, L_100000, L_1000000, L_100000000, L_2000000000, nI_add, pk_mul, nI_clamp, nI_leI, nI_ltI, nI_eq, kin_I, pk_sub, nI_m1, m1_nI, nI_am1, kx_max, kx_min, kt_tx, kt_rp, kg_si, kg_sl, kq_si, kq_sl, kv_si, kv_sl, Nat.reduceAdd, Nat.reduceMul, Nat.reduceSub, Nat.reduceEqDiff, Nat.reduceLT, Nat.reduceLeDiff, ne_eq, not_true_eq_false, not_false_eq_true, or_true, true_or, or_false, false_or, and_true, true_and, false_and, and_false, if_true, if_false, ite_true, ite_false, reduceIte, kl_0, kl_1, kl_2, kl_3, kl_6, kl_20, kl_50, kl_500, kl_999, kl_2400, kl_2g, in_t, in_tt, in_f, in_ff, in_n, if_pos, if_neg, eq_self, nI_n1, n1_nI, nI_an1, lesser_n1, lesser_rn, lesser_n, kx_n1, rRo]; omega) | decide)) ?_) | (with_reducible refine Wp_f (by (first | (simp (disch := omega) only [L_0, L_1, L_2, L_3, L_4, L_5, L_6, L_7, L_8, L_9, L_10, L_11, L_12, L_16, L_18, L_20, L_24, L_25, L_30, L_32, L_38, L_40, L_48, L_50, L_60, L_63, L_64, L_72, L_99, L_100, L_160, L_500, L_999, L_1380, L_1400, L_2400, L_2401, L_60025, L_100000, L_1000000, L_100000000, L_2000000000, nI_add, pk_mul, nI_clamp, nI_leI, nI_ltI, nI_eq, kin_I, pk_sub, nI_m1, m1_nI, nI_am1, kx_max, kx_min, kt_tx, kt_rp, kg_si, kg_sl, kq_si, kq_sl, kv_si, kv_sl, Nat.reduceAdd, Nat.reduceMul, Nat.reduceSub, Nat.reduceEqDiff, Nat.reduceLT, Nat.reduceLeDiff, ne_eq, not_true_eq_false, not_false_eq_true, or_true, true_or, or_false, false_or, and_true, true_and, false_and, and_false, if_true, if_false, ite_true, ite_false, reduceIte, kl_0, kl_1, kl_2, kl_3, kl_6, kl_20, kl_50, kl_500, kl_999, kl_2400, kl_2g, in_t, in_tt, in_f, in_ff, in_n, if_pos, if_neg, eq_self, nI_n1, n1_nI, nI_an1, lesser_n1, lesser_rn, lesser_n, kx_n1, rRo]; done) | (simp (disch := omega) only [L_0, L_1, L_2, L_3, L_4, L_5, L_6, L_7, L_8, L_9, L_10, L_11, L_12, L_16, L_18, L_20, L_24, L_25, L_30, L_32, L_38, L_40, L_48, L_50, L_60, L_63, L_64, L_72, L_99, L_100, L_160, L_500, L_999, L_1380, L_1400, L_2400, L_2401, L_60025, L_100000, L_1000000, L_100000000, L_2000000000, nI_add, pk_mul, nI_clamp, nI_leI, nI_ltI, nI_eq, kin_I, pk_sub, nI_m1, m1_nI, nI_am1, kx_max, kx_min, kt_tx, kt_rp, kg_si, kg_sl, kq_si, kq_sl, kv_si, kv_sl, Nat.reduceAdd, Nat.reduceMul, Nat.reduceSub, Nat.reduceEqDiff, Nat.reduceLT, Nat.reduceLeDiff, ne_eq, not_true_eq_false, not_false_eq_true, or_true, true_or, or_false, false_or, and_true, true_and, false_and, and_false, if_true, if_false, ite_true, ite_false, reduceIte, kl_0, kl_1, kl_2, kl_3, kl_6, kl_20, kl_50, kl_500, kl_999, kl_2400, kl_2g, in_t, in_tt, in_f, in_ff, in_n, if_pos, if_neg, eq_self, nI_n1, n1_nI, nI_an1, lesser_n1, lesser_rn, lesser_n, kx_n1, rRo]; omega) | decide)) ?_) | unfold f_X12_laysTimes_200)); try simp (disch := omega) only [nI_1, kt_rp, kt_tx]
      refine h M t l hR hL hB hT hF ?_
      rcases ho with ⟨x1, x2, x3⟩ | x
      · exact Or.inl ⟨x1, x3⟩
      · exact Or.inr x
    · have hr : r < gRo G := by omega
      have skip : ¬ wkB G p wo r = true → Wp (f_X12_laysTimes_194 (f_X12_laysTimes_50 K (nI p) wo n') l (nI r) M) Q := fun hn => by
        unfold f_X12_laysTimes_194
        rw [L_1, nI_add]
        refine ih (r + 1) M t l (by omega) (by omega) hR hL hB hT hF ?_
        rcases ho with ⟨x1, x2, x3⟩ | x
        · refine Or.inl ⟨x1, x2, fun r' hr' hb' => ?_⟩
          by_cases e : r' = r
          · subst e; exact absurd hb' hn
          · exact x3 r' (by omega) hb'
        · exact Or.inr x
      by_cases e : nI r = wo
      · have hn : ¬ wkB G p wo r = true := fun q => (wkB_t.mp q).2.1 e
        refine Wp_t (by decide) ?_
        refine Wp_letI ?_; intro v ev
        have rRo' : M.1 353 (5 : Int32).toNatClampNeg = nI (gRo G) := rRo
        rw [rRo'] at ev
        subst ev
        refine Wp_f (nI_ge (by omega) (by omega)) (Wp_t e ?_)
        exact skip hn
      · refine Wp_t (by decide) ?_
        refine Wp_letI ?_; intro v ev
        have rRo' : M.1 353 (5 : Int32).toNatClampNeg = nI (gRo G) := rRo
        rw [rRo'] at ev
        subst ev
        refine Wp_f (nI_ge (by omega) (by omega)) (Wp_f e ?_)
        by_cases d : rSt G r < nI (gWg G p)
        · have hn : ¬ wkB G p wo r = true := fun q => (wkB_t.mp q).2.2 d
          (repeat (first | with_reducible refine Wp_some ?_ | (with_reducible refine Wp_letI ?_; intro v_ hv_; (try simp (disch := omega) only [L_0, L_1, L_2, L_3, L_4, L_5, L_6, L_7, L_8, L_9, L_10, L_11, L_12, L_16, L_18, L_20, L_24, L_25, L_30, L_32, L_38, L_40, L_48, L_50, L_60, L_63, L_64, L_72, L_99, L_100, L_160, L_500, L_999, L_1380, L_1400, L_2400, L_2401, L_60025, L_100000, L_1000000, L_100000000, L_2000000000, nI_add, pk_mul, nI_clamp, nI_leI, nI_ltI, nI_eq, kin_I, pk_sub, nI_m1, m1_nI, nI_am1, kx_max, kx_min, kt_tx, kt_rp, kg_si, kg_sl, kq_si, kq_sl, kv_si, kv_sl, Nat.reduceAdd, Nat.reduceMul, Nat.reduceSub, Nat.reduceEqDiff, Nat.reduceLT, Nat.reduceLeDiff, ne_eq, not_true_eq_false, not_false_eq_true, or_true, true_or, or_false, false_or, and_true, true_and, false_and, and_false, if_true, if_false, ite_true, ite_false, reduceIte, kl_0, kl_1, kl_2, kl_3, kl_6, kl_20, kl_50, kl_500, kl_999, kl_2400, kl_2g, in_t, in_tt, in_f, in_ff, in_n, if_pos, if_neg, eq_self, nI_n1, n1_nI, nI_an1, lesser_n1, lesser_rn, lesser_n, kx_n1, rWg p hp, bear_f hV hR hL hr d] at hv_); subst hv_) | (with_reducible refine Wp_biI ?_; intro c_ hc_; simp (disch := omega) only [L_0, L_1, L_2, L_3, L_4, L_5, L_6, L_7, L_8, L_9, L_10, L_11, L_12, L_16, L_18, L_20, L_24, L_25, L_30, L_32, L_38, L_40, L_48, L_50, L_60, L_63, L_64, L_72, L_99, L_100, L_160, L_500, L_999, L_1380, L_1400, L_2400, L_2401, L_60025, L_100000, L_1000000, L_100000000, L_2000000000, nI_add, pk_mul, nI_clamp, nI_leI, nI_ltI, nI_eq, kin_I, pk_sub, nI_m1, m1_nI, nI_am1, kx_max, kx_min, kt_tx, kt_rp, kg_si, kg_sl, kq_si, kq_sl, kv_si, kv_sl, Nat.reduceAdd, Nat.reduceMul, Nat.reduceSub, Nat.reduceEqDiff, Nat.reduceLT, Nat.reduceLeDiff, ne_eq, not_true_eq_false, not_false_eq_true, or_true, true_or, or_false, false_or, and_true, true_and, false_and, and_false, if_true, if_false, ite_true, ite_false, reduceIte, kl_0, kl_1, kl_2, kl_3, kl_6, kl_20, kl_50, kl_500, kl_999, kl_2400, kl_2g, in_t, in_tt, in_f, in_ff, in_n, if_pos, if_neg, eq_self, nI_n1, n1_nI, nI_an1, lesser_n1, lesser_rn, lesser_n, kx_n1, rWg p hp, bear_f hV hR hL hr d] at hc_; subst hc_; with_reducible refine Wp_bis ?_) | (with_reducible refine Wp_bvI ?_; intro c_ hc_; simp (disch := omega) only [L_0, L_1, L_2, L_3, L_4, L_5, L_6, L_7, L_8, L_9, L_10, L_11, L_12, L_16, L_18, L_20, L_24, L_25, L_30, L_32, L_38, L_40, L_48, L_50, L_60, L_63, L_64, L_72, L_99, L_100, L_160, L_500, L_999, L_1380, L_1400, L_2400, L_2401, L_60025, L_100000, L_1000000, L_100000000, L_2000000000, nI_add, pk_mul, nI_clamp, nI_leI, nI_ltI, nI_eq, kin_I, pk_sub, nI_m1, m1_nI, nI_am1, kx_max, kx_min, kt_tx, kt_rp, kg_si, kg_sl, kq_si, kq_sl, kv_si, kv_sl, Nat.reduceAdd, Nat.reduceMul, Nat.reduceSub, Nat.reduceEqDiff, Nat.reduceLT, Nat.reduceLeDiff, ne_eq, not_true_eq_false, not_false_eq_true, or_true, true_or, or_false, false_or, and_true, true_and, false_and, and_false, if_true, if_false, ite_true, ite_false, reduceIte, kl_0, kl_1, kl_2, kl_3, kl_6, kl_20, kl_50, kl_500, kl_999, kl_2400, kl_2g, in_t, in_tt, in_f, in_ff, in_n, if_pos, if_neg, eq_self, nI_n1, n1_nI, nI_an1, lesser_n1, lesser_rn, lesser_n, kx_n1, rWg p hp, bear_f hV hR hL hr d] at hc_; subst hc_; with_reducible refine Wp_bvs ?_) | (with_reducible refine Wp_t (by (first | (simp (disch := omega) only [L_0, L_1, L_2, L_3, L_4, L_5, L_6, L_7, L_8, L_9, L_10, L_11, L_12, L_16, L_18, L_20, L_24, L_25, L_30, L_32, L_38, L_40, L_48, L_50, L_60, L_63, L_64, L_72, L_99, L_100, L_160, L_500, L_999, L_1380, L_1400, L_2400, L_2401, L_60025, L_100000, L_1000000, L_100000000, L_2000000000, nI_add, pk_mul, nI_clamp, nI_leI, nI_ltI, nI_eq, kin_I, pk_sub, nI_m1, m1_nI, nI_am1, kx_max, kx_min, kt_tx, kt_rp, kg_si, kg_sl, kq_si, kq_sl, kv_si, kv_sl, Nat.reduceAdd, Nat.reduceMul, Nat.reduceSub, Nat.reduceEqDiff, Nat.reduceLT, Nat.reduceLeDiff, ne_eq, not_true_eq_false, not_false_eq_true, or_true, true_or, or_false, false_or, and_true, true_and, false_and, and_false, if_true, if_false, ite_true, ite_false, reduceIte, kl_0, kl_1, kl_2, kl_3, kl_6, kl_20, kl_50, kl_500, kl_999, kl_2400, kl_2g, in_t, in_tt, in_f, in_ff, in_n, if_pos, if_neg, eq_self, nI_n1, n1_nI, nI_an1, lesser_n1, lesser_rn, lesser_n, kx_n1, rWg p hp, bear_f hV hR hL hr d]; done) | (simp (disch := omega) only [L_0, L_1, L_2, L_3, L_4, L_5, L_6, L_7, L_8, L_9, L_10, L_11, L_12, L_16, L_18, L_20, L_24, L_25, L_30, L_32, L_38, L_40, L_48, L_50, L_60, L_63, L_64, L_72, L_99, L_100, L_160, L_500, L_999, L_1380, L_1400, L_2400, L_2401, L_60025, L_100000, L_1000000, L_100000000, L_2000000000, nI_add, pk_mul, nI_clamp, nI_leI, nI_ltI, nI_eq, kin_I, pk_sub, nI_m1, m1_nI, nI_am1, kx_max, kx_min, kt_tx, kt_rp, kg_si, kg_sl, kq_si, kq_sl, kv_si, kv_sl, Nat.reduceAdd, Nat.reduceMul, Nat.reduceSub, Nat.reduceEqDiff, Nat.reduceLT, Nat.reduceLeDiff, ne_eq, not_true_eq_false, not_false_eq_true, or_true, true_or, or_false, false_or, and_true, true_and, false_and, and_false, if_true, if_false, ite_true, ite_false, reduceIte, kl_0, kl_1, kl_2, kl_3, kl_6, kl_20, kl_50, kl_500, kl_999, kl_2400, kl_2g, in_t, in_tt, in_f, in_ff, in_n, if_pos, if_neg, eq_self, nI_n1, n1_nI, nI_an1, lesser_n1, lesser_rn, lesser_n, kx_n1, rWg p hp, bear_f hV hR hL hr d]; omega) | decide)) ?_) | (with_reducible refine Wp_f (by (first | (simp (disch := omega) only [L_0, L_1, L_2, L_3, L_4, L_5, L_6, L_7, L_8, L_9, L_10, L_11, L_12, L_16, L_18, L_20, L_24, L_25, L_30, L_32, L_38, L_40, L_48, L_50, L_60, L_63, L_64, L_72, L_99, L_100, L_160, L_500, L_999, L_1380, L_1400, L_2400, L_2401, L_60025, L_100000, L_1000000, L_100000000, L_2000000000, nI_add, pk_mul, nI_clamp, nI_leI, nI_ltI, nI_eq, kin_I, pk_sub, nI_m1, m1_nI, nI_am1, kx_max, kx_min, kt_tx, kt_rp, kg_si, kg_sl, kq_si, kq_sl, kv_si, kv_sl, Nat.reduceAdd, Nat.reduceMul, Nat.reduceSub, Nat.reduceEqDiff, Nat.reduceLT, Nat.reduceLeDiff, ne_eq, not_true_eq_false, not_false_eq_true, or_true, true_or, or_false, false_or, and_true, true_and, false_and, and_false, if_true, if_false, ite_true, ite_false, reduceIte, kl_0, kl_1, kl_2, kl_3, kl_6, kl_20, kl_50, kl_500, kl_999, kl_2400, kl_2g, in_t, in_tt, in_f, in_ff, in_n, if_pos, if_neg, eq_self, nI_n1, n1_nI, nI_an1, lesser_n1, lesser_rn, lesser_n, kx_n1, rWg p hp, bear_f hV hR hL hr d]; done) | (simp (disch := omega) only [L_0, L_1, L_2, L_3, L_4, L_5, L_6, L_7, L_8, L_9, L_10, L_11, L_12, L_16, L_18, L_20, L_24, L_25, L_30, L_32, L_38, L_40, L_48, L_50, L_60, L_63, L_64, L_72, L_99, L_100, L_160, L_500, L_999, L_1380, L_1400, L_2400, L_2401, L_60025, L_100000, L_1000000, L_100000000, L_2000000000, nI_add, pk_mul, nI_clamp, nI_leI, nI_ltI, nI_eq, kin_I, pk_sub, nI_m1, m1_nI, nI_am1, kx_max, kx_min, kt_tx, kt_rp, kg_si, kg_sl, kq_si, kq_sl, kv_si, kv_sl, Nat.reduceAdd, Nat.reduceMul, Nat.reduceSub, Nat.reduceEqDiff, Nat.reduceLT, Nat.reduceLeDiff, ne_eq, not_true_eq_false, not_false_eq_true, or_true, true_or, or_false, false_or, and_true, true_and, false_and, and_false, if_true, if_false, ite_true, ite_false, reduceIte, kl_0, kl_1, kl_2, kl_3, kl_6, kl_20, kl_50, kl_500, kl_999, kl_2400, kl_2g, in_t, in_tt, in_f, in_ff, in_n, if_pos, if_neg, eq_self, nI_n1, n1_nI, nI_an1, lesser_n1, lesser_rn, lesser_n, kx_n1, rWg p hp, bear_f hV hR hL hr d]; omega) | decide)) ?_))); try simp (disch := omega) only [nI_1, kt_rp, kt_tx]
          exact skip hn
        · have hb : wkB G p wo r = true := wkB_t.mpr ⟨hr, e, d⟩
          have hm : nI (rIn G r) * nI (gPc G p) = nI (wkC G p r) := by rw [pk_mul]; rfl
          (repeat (first | with_reducible refine Wp_some ?_ | (with_reducible refine Wp_letI ?_; intro v_ hv_; (try simp (disch := omega) only [L_0, L_1, L_2, L_3, L_4, L_5, L_6, L_7, L_8, L_9, L_10, L_11, L_12, L_16, L_18, L_20, L_24, L_25, L_30, L_32, L_38, L_40, L_48, L_50, L_60, L_63, L_64, L_72, L_99, L_100, L_160, L_500, L_999, L_1380, L_1400, L_2400, L_2401, L_60025, L_100000, L_1000000, L_100000000, L_2000000000, nI_add, pk_mul, nI_clamp, nI_leI, nI_ltI, nI_eq, kin_I, pk_sub, nI_m1, m1_nI, nI_am1, kx_max, kx_min, kt_tx, kt_rp, kg_si, kg_sl, kq_si, kq_sl, kv_si, kv_sl, Nat.reduceAdd, Nat.reduceMul, Nat.reduceSub, Nat.reduceEqDiff, Nat.reduceLT, Nat.reduceLeDiff, ne_eq, not_true_eq_false, not_false_eq_true, or_true, true_or, or_false, false_or, and_true, true_and, false_and, and_false, if_true, if_false, ite_true, ite_false, reduceIte, kl_0, kl_1, kl_2, kl_3, kl_6, kl_20, kl_50, kl_500, kl_999, kl_2400, kl_2g, in_t, in_tt, in_f, in_ff, in_n, if_pos, if_neg, eq_self, nI_n1, n1_nI, nI_an1, lesser_n1, lesser_rn, lesser_n, kx_n1, rWg p hp, bear_t hV hR hL hr d, inchesR hV hR hL hr, rPc p hp, hm] at hv_); subst hv_) | (with_reducible refine Wp_biI ?_; intro c_ hc_; simp (disch := omega) only [L_0, L_1, L_2, L_3, L_4, L_5, L_6, L_7, L_8, L_9, L_10, L_11, L_12, L_16, L_18, L_20, L_24, L_25, L_30, L_32, L_38, L_40, L_48, L_50, L_60, L_63, L_64, L_72, L_99, L_100, L_160, L_500, L_999, L_1380, L_1400, L_2400, L_2401, L_60025, L_100000, L_1000000, L_100000000, L_2000000000, nI_add, pk_mul, nI_clamp, nI_leI, nI_ltI, nI_eq, kin_I, pk_sub, nI_m1, m1_nI, nI_am1, kx_max, kx_min, kt_tx, kt_rp, kg_si, kg_sl, kq_si, kq_sl, kv_si, kv_sl, Nat.reduceAdd, Nat.reduceMul, Nat.reduceSub, Nat.reduceEqDiff, Nat.reduceLT, Nat.reduceLeDiff, ne_eq, not_true_eq_false, not_false_eq_true, or_true, true_or, or_false, false_or, and_true, true_and, false_and, and_false, if_true, if_false, ite_true, ite_false, reduceIte, kl_0, kl_1, kl_2, kl_3, kl_6, kl_20, kl_50, kl_500, kl_999, kl_2400, kl_2g, in_t, in_tt, in_f, in_ff, in_n, if_pos, if_neg, eq_self, nI_n1, n1_nI, nI_an1, lesser_n1, lesser_rn, lesser_n, kx_n1, rWg p hp, bear_t hV hR hL hr d, inchesR hV hR hL hr, rPc p hp, hm] at hc_; subst hc_; with_reducible refine Wp_bis ?_) | (with_reducible refine Wp_bvI ?_; intro c_ hc_; simp (disch := omega) only [L_0, L_1, L_2, L_3, L_4, L_5, L_6, L_7, L_8, L_9, L_10, L_11, L_12, L_16, L_18, L_20, L_24, L_25, L_30, L_32, L_38, L_40, L_48, L_50, L_60, L_63, L_64, L_72, L_99, L_100, L_160, L_500, L_999, L_1380, L_1400, L_2400, L_2401, L_60025, L_100000, L_1000000, L_100000000, L_2000000000, nI_add, pk_mul, nI_clamp, nI_leI, nI_ltI, nI_eq, kin_I, pk_sub, nI_m1, m1_nI, nI_am1, kx_max, kx_min, kt_tx, kt_rp, kg_si, kg_sl, kq_si, kq_sl, kv_si, kv_sl, Nat.reduceAdd, Nat.reduceMul, Nat.reduceSub, Nat.reduceEqDiff, Nat.reduceLT, Nat.reduceLeDiff, ne_eq, not_true_eq_false, not_false_eq_true, or_true, true_or, or_false, false_or, and_true, true_and, false_and, and_false, if_true, if_false, ite_true, ite_false, reduceIte, kl_0, kl_1, kl_2, kl_3, kl_6, kl_20, kl_50, kl_500, kl_999, kl_2400, kl_2g, in_t, in_tt, in_f, in_ff, in_n, if_pos, if_neg, eq_self, nI_n1, n1_nI, nI_an1, lesser_n1, lesser_rn, lesser_n, kx_n1, rWg p hp, bear_t hV hR hL hr d, inchesR hV hR hL hr, rPc p hp, hm] at hc_; subst hc_; with_reducible refine Wp_bvs ?_) | (with_reducible refine Wp_t (by (first | (simp (disch := omega) only [L_0, L_1, L_2, L_3, L_4, L_5, L_6, L_7, L_8, L_9, L_10, L_11, L_12, L_16, L_18, L_20, L_24, L_25, L_30, L_32, L_38, L_40, L_48, L_50, L_60, L_63, L_64, L_72, L_99, L_100, L_160, L_500, L_999, L_1380, L_1400, L_2400, L_2401, L_60025, L_100000, L_1000000, L_100000000, L_2000000000, nI_add, pk_mul, nI_clamp, nI_leI, nI_ltI, nI_eq, kin_I, pk_sub, nI_m1, m1_nI, nI_am1, kx_max, kx_min, kt_tx, kt_rp, kg_si, kg_sl, kq_si, kq_sl, kv_si, kv_sl, Nat.reduceAdd, Nat.reduceMul, Nat.reduceSub, Nat.reduceEqDiff, Nat.reduceLT, Nat.reduceLeDiff, ne_eq, not_true_eq_false, not_false_eq_true, or_true, true_or, or_false, false_or, and_true, true_and, false_and, and_false, if_true, if_false, ite_true, ite_false, reduceIte, kl_0, kl_1, kl_2, kl_3, kl_6, kl_20, kl_50, kl_500, kl_999, kl_2400, kl_2g, in_t, in_tt, in_f, in_ff, in_n, if_pos, if_neg, eq_self, nI_n1, n1_nI, nI_an1, lesser_n1, lesser_rn, lesser_n, kx_n1, rWg p hp, bear_t hV hR hL hr d, inchesR hV hR hL hr, rPc p hp, hm]; done) | (simp (disch := omega) only [L_0, L_1, L_2, L_3, L_4, L_5, L_6, L_7, L_8, L_9, L_10, L_11, L_12, L_16, L_18, L_20, L_24, L_25, L_30, L_32, L_38, L_40, L_48, L_50, L_60, L_63, L_64, L_72, L_99, L_100, L_160, L_500, L_999, L_1380, L_1400, L_2400, L_2401, L_60025, L_100000, L_1000000, L_100000000, L_2000000000, nI_add, pk_mul, nI_clamp, nI_leI, nI_ltI, nI_eq, kin_I, pk_sub, nI_m1, m1_nI, nI_am1, kx_max, kx_min, kt_tx, kt_rp, kg_si, kg_sl, kq_si, kq_sl, kv_si, kv_sl, Nat.reduceAdd, Nat.reduceMul, Nat.reduceSub, Nat.reduceEqDiff, Nat.reduceLT, Nat.reduceLeDiff, ne_eq, not_true_eq_false, not_false_eq_true, or_true, true_or, or_false, false_or, and_true, true_and, false_and, and_false, if_true, if_false, ite_true, ite_false, reduceIte, kl_0, kl_1, kl_2, kl_3, kl_6, kl_20, kl_50, kl_500, kl_999, kl_2400, kl_2g, in_t, in_tt, in_f, in_ff, in_n, if_pos, if_neg, eq_self, nI_n1, n1_nI, nI_an1, lesser_n1, lesser_rn, lesser_n, kx_n1, rWg p hp, bear_t hV hR hL hr d, inchesR hV hR hL hr, rPc p hp, hm]; omega) | decide)) ?_) | (with_reducible refine Wp_f (by (first | (simp (disch := omega) only [L_0, L_1, L_2, L_3, L_4, L_5, L_6, L_7, L_8, L_9, L_10, L_11, L_12, L_16, L_18, L_20, L_24, L_25, L_30, L_32, L_38, L_40, L_48, L_50, L_60, L_63, L_64, L_72, L_99, L_100, L_160, L_500, L_999, L_1380, L_1400, L_2400, L_2401, L_60025, L_100000, L_1000000, L_100000000, L_2000000000, nI_add, pk_mul, nI_clamp, nI_leI, nI_ltI, nI_eq, kin_I, pk_sub, nI_m1, m1_nI, nI_am1, kx_max, kx_min, kt_tx, kt_rp, kg_si, kg_sl, kq_si, kq_sl, kv_si, kv_sl, Nat.reduceAdd, Nat.reduceMul, Nat.reduceSub, Nat.reduceEqDiff, Nat.reduceLT, Nat.reduceLeDiff, ne_eq, not_true_eq_false, not_false_eq_true, or_true, true_or, or_false, false_or, and_true, true_and, false_and, and_false, if_true, if_false, ite_true, ite_false, reduceIte, kl_0, kl_1, kl_2, kl_3, kl_6, kl_20, kl_50, kl_500, kl_999, kl_2400, kl_2g, in_t, in_tt, in_f, in_ff, in_n, if_pos, if_neg, eq_self, nI_n1, n1_nI, nI_an1, lesser_n1, lesser_rn, lesser_n, kx_n1, rWg p hp, bear_t hV hR hL hr d, inchesR hV hR hL hr, rPc p hp, hm]; done) | (simp (disch := omega) only [L_0, L_1, L_2, L_3, L_4, L_5, L_6, L_7, L_8, L_9, L_10, L_11, L_12, L_16, L_18, L_20, L_24, L_25, L_30, L_32, L_38, L_40, L_48, L_50, L_60, L_63, L_64, L_72, L_99, L_100, L_160, L_500, L_999, L_1380, L_1400, L_2400, L_2401, L_60025, L_100000, L_1000000, L_100000000, L_2000000000, nI_add, pk_mul, nI_clamp, nI_leI, nI_ltI, nI_eq, kin_I, pk_sub, nI_m1, m1_nI, nI_am1, kx_max, kx_min, kt_tx, kt_rp, kg_si, kg_sl, kq_si, kq_sl, kv_si, kv_sl, Nat.reduceAdd, Nat.reduceMul, Nat.reduceSub, Nat.reduceEqDiff, Nat.reduceLT, Nat.reduceLeDiff, ne_eq, not_true_eq_false, not_false_eq_true, or_true, true_or, or_false, false_or, and_true, true_and, false_and, and_false, if_true, if_false, ite_true, ite_false, reduceIte, kl_0, kl_1, kl_2, kl_3, kl_6, kl_20, kl_50, kl_500, kl_999, kl_2400, kl_2g, in_t, in_tt, in_f, in_ff, in_n, if_pos, if_neg, eq_self, nI_n1, n1_nI, nI_an1, lesser_n1, lesser_rn, lesser_n, kx_n1, rWg p hp, bear_t hV hR hL hr d, inchesR hV hR hL hr, rPc p hp, hm]; omega) | decide)) ?_))); try simp (disch := omega) only [nI_1, kt_rp, kt_tx]
          refine tm_2 hV hp hR hB hT hr hb (fun M1 t1 l1 b1 y1 f1 o1 => ?_)
          refine ih (r + 1) M1 t1 l1 (by omega) (by omega) (tmG hR f1) (tmL hL f1) b1 y1 (hF.trans f1) ?_
          rcases o1 with ⟨x1, x2, x3⟩ | ⟨x1, x2⟩
          · subst x2
            rcases ho with ⟨z1, z2, z3⟩ | ⟨z1, z2⟩
            · refine Or.inl ⟨by rw [x1, z1], z2, fun r' hr' hb' => ?_⟩
              by_cases e : r' = r
              · subst e; exact x3
              · exact z3 r' (by omega) hb'
            · exact Or.inr ⟨by rw [x1, z1], z2⟩
          · rcases ho with ⟨z1, z2, z3⟩ | ⟨z1, z2⟩
            · subst z2
              exact Or.inr ⟨x1, x2⟩
            · exact Or.inr ⟨x1, by omega⟩
theorem tm_all {M0 : kr_M} {s p : Nat} {wo : Int32} {G : GG} (hV : GV G) (hp : p < gPe G) : ∀ n' M t l, 1 ≤ n' → (l = 0 ∧ edK G p wo t (gRo G)) ∨ (l = 1 ∧ bfS t 6 + 2 ≤ n') → RG M G → LG M G → BF (fun k v => sd G p wo k s v) 6 s t → tR M 6 t → Fx tmX M0 M → Wp (f_X12_laysTimes_39 (nI p) wo n' l M) (fun M' => ∃ t, tR M' 6 t ∧ BF (fun k v => sd G p wo k s v) 6 s t ∧ edK G p wo t (gRo G) ∧ Fx tmX M0 M') := by
  intro n'
  induction n' with
  | zero => intro M t l h1; omega
  | succ n' ih =>
    intro M t l h1 ho hR hL hB hT hF
    rw [f_X12_laysTimes_39]
    rcases ho with ⟨rfl, x⟩ | ⟨rfl, x⟩
    · exact Wp_t rfl (Wp_some ⟨t, hT, hB, x, hF⟩)
    · refine Wp_f (by decide) ?_
      refine tm_ro (M0 := M0) (t0 := t) hV hp (fun M1 t1 l1 r1 g1 b1 y1 f1 o1 => ?_) kr_F 0 M t 0 (by omega) (kr_F_gt _ (by obtain ⟨vLi, v0, vPl, vWe, vOd, vKi, vWo, vRo, vPe, vWt, vAc, vIn, vWa, vL, vMn, vW, vA, vB, vAB, vLd, vCr, vN, vK, vWg, vPc, vSt, vD⟩ := hV; omega)) hR hL hB hT hF (Or.inl ⟨rfl, rfl, fun r hr => by omega⟩)
      refine ih M1 t1 l1 (by omega) ?_ r1 g1 b1 y1 f1
      rcases o1 with ⟨z1, z2⟩ | ⟨z1, z2⟩
      · exact Or.inl ⟨z1, z2⟩
      · exact Or.inr ⟨z1, by omega⟩
/-- what the reference's times know -/
def tmK (M : kr_M) (G : GG) (p : Nat) (wo : Int32) (s : Nat) : Prop := ∃ t, tR M 6 t ∧ (∀ a, isD (t a) (sd G p wo a s)) ∧ (∀ a v, t a = some v → v ≤ 25000)
theorem tm_is {G : GG} {p s : Nat} {wo : Int32} {t : Nat → Option Nat} (hB : BF (fun k v => sd G p wo k s v) 6 s t) (hE : edK G p wo t (gRo G)) : ∀ a, isD (t a) (sd G p wo a s) := by
  have key : ∀ d a v, wk G p wo d a s v → ∃ u, t a = some u ∧ u ≤ v := by
    intro d
    induction d with
    | zero =>
      intro a v hd
      obtain ⟨rfl, rfl⟩ := hd
      exact ⟨0, hB.2.1, Nat.le_refl _⟩
    | succ d ih =>
      intro a v hd
      obtain ⟨r, c, r1, r2, r3, r4⟩ := hd
      obtain ⟨w, w1, w2⟩ := ih c (v - wkC G p r) r4
      obtain ⟨u, u1, u2⟩ := hE r (wkB_t.mp r1).1 r1 a c r2 w w1
      exact ⟨u, u1, by omega⟩
  intro a
  exact ⟨fun v hv => hB.1 a v hv, fun v ⟨d, hd⟩ => key d a v hd⟩
def bf0 (s : Nat) : Nat → Option Nat := fun k => if k = s then some 0 else none
theorem bf_0 {P : Nat → Nat → Prop} {n s : Nat} (hs : s < n) (h : P s 0) : BF P n s (bf0 s) := by
  have h0 : bf0 s s = some 0 := if_pos rfl
  have k0 : ∀ k v, bf0 s k = some v → k = s ∧ v = 0 := fun k v hv => by
    by_cases e : k = s
    · subst e
      rw [h0] at hv
      exact ⟨rfl, by have hv : 0 = v := (by simpa using hv); omega⟩
    · have : bf0 s k = none := if_neg e
      rw [this] at hv
      exact absurd hv (by simp)
  refine ⟨fun k v hv => ?_, h0, fun k v hv => ?_⟩
  · obtain ⟨rfl, rfl⟩ := k0 k v hv
    exact h
  · obtain ⟨rfl, rfl⟩ := k0 k v hv
    have := sF_ge (f := fun j => bfC (bf0 k j)) n hs
    have z : bfC (bf0 k k) = 1 := by rw [h0]; rfl
    have this : bfC (bf0 k k) ≤ bfN (bf0 k) n := this
    omega
theorem tm_ini {M0 : kr_M} {s p : Nat} {wo : Int32} {G : GG} (hV : GV G) (hp : p < gPe G) (hs : s < 6) : ∀ n' k M, k ≤ 6 → 6 - k < n' → RG M G → LG M G → tR M k (bf0 s) → Fx tmX M0 M → Wp (f_X12_laysTimes_3 (nI p) (nI s) wo n' (nI k) M) (fun M' => tmK M' G p wo s ∧ Fx tmX M0 M') := by
  intro n'
  induction n' with
  | zero => intro k M h1 h2; omega
  | succ n' ih =>
    intro k M h1 h2 hR hL hT hF
    rw [f_X12_laysTimes_3]
    by_cases c : k = 6
    · subst c
      refine Wp_t (nI_le (Nat.le_refl 6) (by omega)) ?_
      unfold f_X12_laysTimes_36
      have hB : BF (fun k v => sd G p wo k s v) 6 s (bf0 s) := bf_0 hs (sd_0 s)
      refine Wp_mono (tm_all (M0 := M0) (wo := wo) hV hp kr_F M (bf0 s) 1 (Nat.le_of_lt (kr_F_gt _ (by omega))) (Or.inr ⟨rfl, by have := bf_S hB (by omega); have := kr_F_g2 900000 (by omega); omega⟩) hR hL hB hT hF) (fun M' ⟨t, t1, t2, t3, t4⟩ => ⟨⟨t, t1, tm_is t2 t3, bf_b t2 (by omega)⟩, t4⟩)
    · have go : ∀ x : Int32, x = nI (kw_n (bf0 s k)) → Wp (f_X12_laysTimes_29 (f_X12_laysTimes_3 (nI p) (nI s) wo n') (nI k) x (nI k) M) (fun M' => tmK M' G p wo s ∧ Fx tmX M0 M') := fun x hx => by
        unfold f_X12_laysTimes_29
        refine Wp_t ((kin_I (by omega)).mpr (by omega)) ?_
        refine Wp_letI ?_; intro M1 e1
        rw [nI_clamp (by omega)] at e1
        have hf : Fx tmX M M1 := by rw [← e1]; exact (Fx.refl M).si _ rfl
        rw [L_1, nI_add]
        refine ih (k + 1) M1 (by omega) (by omega) (tmG hR hf) (tmL hL hf) (fun k' hk' => ?_) (hF.trans hf)
        rw [← e1, kg_si]
        by_cases e : k' = k
        · subst e
          rw [if_pos ⟨rfl, rfl⟩, hx]
        · rw [if_neg (fun q => e q.2)]
          exact hT k' (by omega)
      refine Wp_f (by rw [L_6]; exact nI_ge (by omega) (by omega)) ?_
      by_cases e : k = s
      · refine Wp_f (fun q => q (by rw [e])) (go 0 ?_)
        rw [show bf0 s k = some 0 from if_pos e]; rfl
      · refine Wp_t (fun q => e ((nI_eq (by omega) (by omega)).mp q)) (go 100000000 ?_)
        rw [show bf0 s k = none from if_neg e]; rfl
theorem tm_ok {M : kr_M} {s p : Nat} {wo : Int32} {G : GG} (hV : GV G) (hR : RG M G) (hL : LG M G) (hp : p < gPe G) (hs : s < 6) : Wp (f_X12_laysTimes (nI p) (nI s) wo M) (fun M' => tmK M' G p wo s ∧ Fx tmX M M') := by
  unfold f_X12_laysTimes
  exact tm_ini (M0 := M) hV hp hs kr_F 0 M (by omega) (kr_F_gt _ (by omega)) hR hL (fun k hk => by omega) (Fx.refl M)
