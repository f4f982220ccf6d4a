/-! THE STEPS: 'comes back with', and how a function is gone through -/
def Wp {β : Type} (c : Option β) (Q : β → Prop) : Prop := ∃ x, c = some x ∧ Q x
theorem Wp_some {β : Type} {x : β} {Q : β → Prop} (h : Q x) : Wp (some x) Q := ⟨x, rfl, h⟩
theorem Wp_letI {α β : Type} {v : α} {k : α → Option β} {Q : β → Prop} (h : ∀ v', v = v' → Wp (k v') Q) : Wp (kr_let v k) Q := h v rfl
theorem Wp_t {β : Type} {c : Prop} [Decidable c] {a b : Option β} {Q : β → Prop} (hc : c) (h : Wp a Q) : Wp (if c then a else b) Q := by rw [if_pos hc]; exact h
theorem Wp_f {β : Type} {c : Prop} [Decidable c] {a b : Option β} {Q : β → Prop} (hc : ¬ c) (h : Wp b Q) : Wp (if c then a else b) Q := by rw [if_neg hc]; exact h
theorem Wp_c {β : Type} {c : Prop} [Decidable c] {a b : Option β} {Q : β → Prop} (h1 : c → Wp a Q) (h2 : ¬ c → Wp b Q) : Wp (if c then a else b) Q := by
  by_cases hc : c
  · exact Wp_t hc (h1 hc)
  · exact Wp_f hc (h2 hc)
theorem Wp_mono {β : Type} {c : Option β} {P Q : β → Prop} (h : Wp c P) (h2 : ∀ x, P x → Q x) : Wp c Q := by
  obtain ⟨x, e, p⟩ := h
  exact ⟨x, e, h2 x p⟩
theorem Wp_eq {β : Type} {c : Option β} {y : β} (h : Wp c (fun x => x = y)) : c = some y := by
  obtain ⟨x, e, p⟩ := h
  rw [e, p]
theorem Wp_of {β : Type} {c : Option β} {y : β} {Q : β → Prop} (e : c = some y) (h : Q y) : Wp c Q := ⟨y, e, h⟩
theorem Wp_bi {β : Type} {f : Option (Int32 × kr_M)} {k : Int32 → kr_M → Option β} {Q : β → Prop} (P : Int32 × kr_M → Prop) (h1 : Wp f P) (h2 : ∀ r M', P (r, M') → Wp (k r M') Q) : Wp (kr_bi f k) Q := by
  obtain ⟨⟨r, M'⟩, e, p⟩ := h1
  rw [e]
  exact h2 r M' p
theorem Wp_bie {β : Type} {f : Option (Int32 × kr_M)} {k : Int32 → kr_M → Option β} {Q : β → Prop} {r : Int32} {M' : kr_M} (e : f = some (r, M')) (h2 : Wp (k r M') Q) : Wp (kr_bi f k) Q := by
  rw [e]
  exact h2
theorem Wp_bl {β : Type} {f : Option (Int64 × kr_M)} {k : Int64 → kr_M → Option β} {Q : β → Prop} (P : Int64 × kr_M → Prop) (h1 : Wp f P) (h2 : ∀ r M', P (r, M') → Wp (k r M') Q) : Wp (kr_bl f k) Q := by
  obtain ⟨⟨r, M'⟩, e, p⟩ := h1
  rw [e]
  exact h2 r M' p
theorem Wp_bv {β : Type} {f : Option kr_M} {k : kr_M → Option β} {Q : β → Prop} (P : kr_M → Prop) (h1 : Wp f P) (h2 : ∀ M', P M' → Wp (k M') Q) : Wp (kr_bv f k) Q := by
  obtain ⟨M', e, p⟩ := h1
  rw [e]
  exact h2 M' p
theorem Wp_bve {β : Type} {f : Option kr_M} {k : kr_M → Option β} {Q : β → Prop} {M' : kr_M} (e : f = some M') (h2 : Wp (k M') Q) : Wp (kr_bv f k) Q := by
  rw [e]
  exact h2
theorem L_0 : (0 : Int32) = nI 0 := rfl
theorem L_1 : (1 : Int32) = nI 1 := rfl
theorem L_2 : (2 : Int32) = nI 2 := rfl
theorem L_3 : (3 : Int32) = nI 3 := rfl
theorem L_4 : (4 : Int32) = nI 4 := rfl
theorem L_5 : (5 : Int32) = nI 5 := rfl
theorem L_6 : (6 : Int32) = nI 6 := rfl
theorem L_7 : (7 : Int32) = nI 7 := rfl
theorem L_8 : (8 : Int32) = nI 8 := rfl
theorem L_9 : (9 : Int32) = nI 9 := rfl
theorem L_10 : (10 : Int32) = nI 10 := rfl
theorem L_11 : (11 : Int32) = nI 11 := rfl
theorem L_12 : (12 : Int32) = nI 12 := rfl
theorem L_16 : (16 : Int32) = nI 16 := rfl
theorem L_18 : (18 : Int32) = nI 18 := rfl
theorem L_20 : (20 : Int32) = nI 20 := rfl
theorem L_24 : (24 : Int32) = nI 24 := rfl
theorem L_25 : (25 : Int32) = nI 25 := rfl
theorem L_30 : (30 : Int32) = nI 30 := rfl
theorem L_32 : (32 : Int32) = nI 32 := rfl
theorem L_38 : (38 : Int32) = nI 38 := rfl
theorem L_40 : (40 : Int32) = nI 40 := rfl
theorem L_48 : (48 : Int32) = nI 48 := rfl
theorem L_50 : (50 : Int32) = nI 50 := rfl
theorem L_60 : (60 : Int32) = nI 60 := rfl
theorem L_63 : (63 : Int32) = nI 63 := rfl
theorem L_64 : (64 : Int32) = nI 64 := rfl
theorem L_72 : (72 : Int32) = nI 72 := rfl
theorem L_99 : (99 : Int32) = nI 99 := rfl
theorem L_100 : (100 : Int32) = nI 100 := rfl
theorem L_160 : (160 : Int32) = nI 160 := rfl
theorem L_500 : (500 : Int32) = nI 500 := rfl
theorem L_999 : (999 : Int32) = nI 999 := rfl
theorem L_1380 : (1380 : Int32) = nI 1380 := rfl
theorem L_1400 : (1400 : Int32) = nI 1400 := rfl
theorem L_2400 : (2400 : Int32) = nI 2400 := rfl
theorem L_2401 : (2401 : Int32) = nI 2401 := rfl
theorem L_60025 : (60025 : Int32) = nI 60025 := rfl
theorem L_100000 : (100000 : Int32) = nI 100000 := rfl
theorem L_1000000 : (1000000 : Int32) = nI 1000000 := rfl
theorem L_100000000 : (100000000 : Int32) = nI 100000000 := rfl
theorem L_2000000000 : (2000000000 : Int32) = nI 2000000000 := rfl
theorem kin_I {a n : Nat} (h : a < 2 ^ 31) : kr_in (nI a) n ↔ a < n := by
  rw [kz_in, nI_toInt h]
  omega
theorem nI_m1 {a : Nat} (h : a < 2 ^ 31) : nI a = -1 ↔ False := by
  rw [kz_eq, nI_toInt h, show (-1 : Int32).toInt = (-1 : Int) from rfl]
  exact ⟨fun q => by omega, fun q => q.elim⟩
theorem m1_nI {a : Nat} (h : a < 2 ^ 31) : -1 = nI a ↔ False := by
  rw [kz_eq, nI_toInt h, show (-1 : Int32).toInt = (-1 : Int) from rfl]
  exact ⟨fun q => by omega, fun q => q.elim⟩
theorem nI_am1 {a : Nat} (h : 0 < a) : nI a + -1 = nI (a - 1) := by
  obtain ⟨b, rfl⟩ : ∃ b, a = b + 1 := ⟨a - 1, by omega⟩
  exact pk_m1 b
theorem kx_max {a b : Nat} (ha : a < 2 ^ 31) (hb : b < 2 ^ 31) : kr_max (nI a) (nI b) = nI (max a b) := by
  unfold kr_max
  by_cases h : a < b
  · rw [if_pos ((nI_ltI ha hb).mpr h), Nat.max_eq_right (by omega)]
  · rw [if_neg (fun q => h ((nI_ltI ha hb).mp q)), Nat.max_eq_left (by omega)]
theorem kx_min {a b : Nat} (ha : a < 2 ^ 31) (hb : b < 2 ^ 31) : kr_min (nI a) (nI b) = nI (min a b) := by
  unfold kr_min
  by_cases h : b < a
  · rw [if_pos ((nI_ltI hb ha).mpr h), Nat.min_eq_right (by omega)]
  · rw [if_neg (fun q => h ((nI_ltI hb ha).mp q)), Nat.min_eq_left (by omega)]
theorem kt_tx {g w : Nat} (h : w < 2 ^ 31) : kr_tx g (nI w) = g + 11 + 2 * w := by unfold kr_tx; rw [nI_clamp h]
theorem kt_rp {g r : Nat} (h : r < 2 ^ 31) : kr_rp g (nI r) = g + 31 + 5 * r := by unfold kr_rp; rw [nI_clamp h]
theorem kg_si (M : kr_M) (a k : Nat) (x : Int32) (b j : Nat) : (kr_si M a k x).1 b j = if b = a ∧ j = k then x else M.1 b j := by
  by_cases h : b = a
  · subst h
    by_cases h2 : j = k
    · subst h2; rw [kr_si_at, if_pos ⟨rfl, rfl⟩]
    · rw [kr_si_nk _ _ _ h2, if_neg (fun q => h2 q.2)]
  · rw [kr_si_ne _ _ _ h, if_neg (fun q => h q.1)]
theorem kg_sl (M : kr_M) (a k : Nat) (x : Int64) : (kr_sl M a k x).1 = M.1 := rfl
theorem kq_si (M : kr_M) (a k : Nat) (x : Int32) (j : Nat) : kr_gr (kr_si M a k x) j = kr_gr M j := rfl
theorem kq_sl (M : kr_M) (a k : Nat) (x : Int64) (j : Nat) : kr_gr (kr_sl M a k x) j = kr_gr M j := rfl
theorem kv_si (M : kr_M) (a k : Nat) (x : Int32) : (kr_si M a k x).2 = M.2 := rfl
theorem kv_sl (M : kr_M) (a k : Nat) (x : Int64) (b j : Nat) : (kr_sl M a k x).2.1 b j = if b = a ∧ j = k then x else M.2.1 b j := kr_sl_at M a k x b j
