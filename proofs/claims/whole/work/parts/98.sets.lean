/-! SETS of at most six, as numbers -/
theorem nx_and (a b : Nat) : nI a &&& nI b = nI (a &&& b) := by
  apply Int32.toBitVec_inj.1
  show BitVec.ofNat 32 a &&& BitVec.ofNat 32 b = BitVec.ofNat 32 (a &&& b)
  apply BitVec.eq_of_getLsbD_eq
  intro i hi
  simp [hi]
def lb (S : Nat) : Nat := S &&& (64 - S)
def pc (s : Nat) : Nat := s % 2 + s / 2 % 2 + s / 4 % 2 + s / 8 % 2 + s / 16 % 2 + s / 32 % 2
theorem st_1 : ∀ S, S < 64 → ∀ P, P < 64 → P &&& S = P → nI S &&& (nI P ^^^ (-1 : Int32)) = nI (S - P) ∧ P ≤ S ∧ (S - P) &&& S = S - P ∧ P &&& (S - P) = 0 := by decide +kernel
theorem st_2 : ∀ S, S < 64 → ∀ P, P < 64 → (nI P &&& (nI S ^^^ (-1 : Int32)) = 0 ↔ P &&& S = P) := by decide +kernel
theorem st_3 : ∀ S, S < 64 → nI S &&& (0 - nI S) = nI (lb S) ∧ lb S ≤ S ∧ lb S &&& S = lb S ∧ (0 < S → 0 < lb S) := by decide +kernel
def aL (f : Nat → Bool) : Nat → Bool
  | 0 => true
  | n + 1 => f n && aL f n
theorem aL_t {f : Nat → Bool} : ∀ n, aL f n = true → ∀ i, i < n → f i = true
  | 0, _, i, hi => by omega
  | n + 1, h, i, hi => by
    rw [aL, Bool.and_eq_true] at h
    by_cases c : i = n
    · rw [c]; exact h.1
    · exact aL_t n h.2 i (by omega)
theorem im_t {a b : Bool} (h : (!a || b) = true) (ha : a = true) : b = true := by
  rw [ha] at h
  simpa using h
theorem st_4 (S : Nat) (hS : S < 64) (P : Nat) (hP : P < 64) (h1 : P &&& S = P) (Q : Nat) (hQ : Q < 64) (h2 : Q &&& (S - P) = Q) : Q &&& S = Q ∧ P &&& (S - Q) = P := by
  have h : aL (fun S => aL (fun P => !(P &&& S == P) || aL (fun Q => !(Q &&& (S - P) == Q) || ((Q &&& S == Q) && (P &&& (S - Q) == P))) 64) 64) 64 = true := by decide +kernel
  have h := aL_t _ (aL_t _ h S hS) P hP
  have h := im_t h (by rw [h1]; exact beq_self_eq_true P)
  have h := im_t (aL_t _ h Q hQ) (by rw [h2]; exact beq_self_eq_true Q)
  rw [Bool.and_eq_true, beq_iff_eq, beq_iff_eq] at h
  exact h
theorem st_5 (S : Nat) (hS : S < 64) (P : Nat) (hP : P < 64) (h1 : P &&& S = P) (h2 : P &&& lb S = 0) (h3 : 0 < S) : 0 < S - P ∧ lb (S - P) = lb S := by
  have h : aL (fun S => aL (fun P => !(P &&& S == P) || (!(P &&& lb S == 0) || (!(decide (0 < S)) || (decide (0 < S - P) && (lb (S - P) == lb S))))) 64) 64 = true := by decide +kernel
  have h := aL_t _ (aL_t _ h S hS) P hP
  have h := im_t h (by rw [h1]; exact beq_self_eq_true P)
  have h := im_t h (by rw [h2]; rfl)
  have h := im_t h (decide_eq_true h3)
  rw [Bool.and_eq_true, beq_iff_eq] at h
  exact ⟨of_decide_eq_true h.1, h.2⟩
theorem st_6 (S : Nat) (hS : S < 64) (P : Nat) (hP : P < 64) (h1 : P &&& S = P) (Q : Nat) (hQ : Q < 64) (h2 : Q &&& S = Q) (h3 : P < Q) : P ≤ (Q - 1) &&& S := by
  have h : aL (fun S => aL (fun P => !(P &&& S == P) || aL (fun Q => !(Q &&& S == Q) || (!(decide (P < Q)) || decide (P ≤ (Q - 1) &&& S))) 64) 64) 64 = true := by decide +kernel
  have h := aL_t _ (aL_t _ h S hS) P hP
  have h := im_t h (by rw [h1]; exact beq_self_eq_true P)
  have h := im_t (aL_t _ h Q hQ) (by rw [h2]; exact beq_self_eq_true Q)
  have h := im_t h (decide_eq_true h3)
  exact of_decide_eq_true h
theorem st_7 : ∀ S, S < 64 → ∀ Q, Q < 64 → 0 < Q → ((Q - 1) &&& S) &&& S = (Q - 1) &&& S ∧ (Q - 1) &&& S < Q := by decide +kernel
theorem st_8 : ∀ s, s < 64 → ∀ r, r < 6 → ((nI s >>> (nI r &&& 31)) &&& (1 : Int32)) = if s.testBit r = true then 1 else 0 := by decide +kernel
theorem st_9 : ∀ p, p ≤ 6 → (1 : Int32) <<< (nI p &&& 31) = nI (2 ^ p) ∧ 1 ≤ 2 ^ p ∧ 2 ^ p ≤ 64 := by decide +kernel
theorem st_10 : ∀ p, p < 6 → ∀ s, s < 64 → s < 2 ^ p → nI (2 ^ p) ||| nI s = nI (2 ^ p + s) ∧ nI s ||| nI (2 ^ p) = nI (s + 2 ^ p) ∧ 2 ^ p + s < 64 := by decide +kernel
theorem st_11 : ∀ s, s < 64 → ∀ M : Unit, (let v1 := (nI s - (((nI s).toUInt32 >>> (((1 : Int32)).toUInt32 &&& Int32.toUInt32 31)).toInt32 &&& (1431655765 : Int32))); let v2 := ((v1 &&& (858993459 : Int32)) + (((v1).toUInt32 >>> (((2 : Int32)).toUInt32 &&& Int32.toUInt32 31)).toInt32 &&& (858993459 : Int32))); let v3 := ((v2 + ((v2).toUInt32 >>> (((4 : Int32)).toUInt32 &&& Int32.toUInt32 31)).toInt32) &&& (252645135 : Int32)); let v4 := (v3 + ((v3).toUInt32 >>> (((8 : Int32)).toUInt32 &&& Int32.toUInt32 31)).toInt32); let v5 := (v4 + ((v4).toUInt32 >>> (((16 : Int32)).toUInt32 &&& Int32.toUInt32 31)).toInt32); (v5 &&& (63 : Int32))) = nI (pc s) := by
  intro s hs _
  exact (by decide +kernel : ∀ s, s < 64 → (let v1 := (nI s - (((nI s).toUInt32 >>> (((1 : Int32)).toUInt32 &&& Int32.toUInt32 31)).toInt32 &&& (1431655765 : Int32))); let v2 := ((v1 &&& (858993459 : Int32)) + (((v1).toUInt32 >>> (((2 : Int32)).toUInt32 &&& Int32.toUInt32 31)).toInt32 &&& (858993459 : Int32))); let v3 := ((v2 + ((v2).toUInt32 >>> (((4 : Int32)).toUInt32 &&& Int32.toUInt32 31)).toInt32) &&& (252645135 : Int32)); let v4 := (v3 + ((v3).toUInt32 >>> (((8 : Int32)).toUInt32 &&& Int32.toUInt32 31)).toInt32); let v5 := (v4 + ((v4).toUInt32 >>> (((16 : Int32)).toUInt32 &&& Int32.toUInt32 31)).toInt32); (v5 &&& (63 : Int32))) = nI (pc s)) s hs
theorem st_12 : ∀ s, s < 64 → 0 < s → nI s &&& (nI s - 1) = nI (s &&& (s - 1)) ∧ s &&& (s - 1) < s ∧ pc (s &&& (s - 1)) + 1 = pc s := by decide +kernel
theorem st_pc : ∀ s, s < 64 → pc s ≤ 6 ∧ (pc s = 0 ↔ s = 0) := by decide +kernel
theorem bitC_ok {s : Nat} (hs : s < 64) (M : kr_M) : f_J6_bitCount_0f7a4 (nI s) M = some (nI (pc s), M) := by
  have h := st_11 s hs ()
  show some (_, M) = some (nI (pc s), M)
  rw [← h]
theorem sizeR_l : ∀ n' s c (M : kr_M), s < 64 → pc s < n' → f_X12_sizeOf_4 n' (nI c) (nI s) M = some (nI (c + pc s), M) := by
  intro n'
  induction n' with
  | zero => intro s c M h1 h2; omega
  | succ n' ih =>
    intro s c M hs hn
    rw [f_X12_sizeOf_4]
    apply Wp_eq
    have p0 := st_pc s hs
    by_cases c0 : s = 0
    · subst c0
      refine Wp_t rfl (Wp_some ?_)
      rw [show pc 0 = 0 from rfl, Nat.add_zero]
    · obtain ⟨a1, a2, a3⟩ := st_12 s hs (by omega)
      refine Wp_f (fun q => c0 ((nI_eq (by omega) (by omega)).mp q)) ?_
      refine Wp_letI ?_
      intro v hv
      rw [a1] at hv
      subst hv
      rw [nI_1]
      refine Wp_of (ih _ (c + 1) M (by omega) (by omega)) ?_
      rw [show c + 1 + pc (s &&& (s - 1)) = c + pc s by omega]
theorem sizeR_ok {s : Nat} (hs : s < 64) (M : kr_M) : f_X12_sizeOf (nI s) M = some (nI (pc s), M) := by
  have h := sizeR_l kr_F s 0 M hs (kr_F_gt _ (by have := (st_pc s hs).1; omega))
  rw [Nat.zero_add] at h
  exact h
theorem isBit_t {s r : Nat} (hs : s < 64) (hr : r < 6) (h : s.testBit r = true) (M : kr_M) : f_X12_isBit (nI s) (nI r) M = some (1, M) := by
  apply Wp_eq
  unfold f_X12_isBit
  have := st_8 s hs r hr
  rw [if_pos h] at this
  exact Wp_f (fun q => q this) (Wp_some rfl)
theorem isBit_f {s r : Nat} (hs : s < 64) (hr : r < 6) (h : ¬ s.testBit r = true) (M : kr_M) : f_X12_isBit (nI s) (nI r) M = some (0, M) := by
  apply Wp_eq
  unfold f_X12_isBit
  have := st_8 s hs r hr
  rw [if_neg h] at this
  exact Wp_t (by rw [this]; decide) (Wp_some rfl)
/-! least sums over subsets: the table -/
def mnF (c : Nat → Option Nat) : Nat → Option Nat
  | 0 => none
  | n + 1 => kw_m (mnF c n) (c (n + 1))
theorem mnF_att {c : Nat → Option Nat} : ∀ n v, mnF c n = some v → ∃ P, 1 ≤ P ∧ P ≤ n ∧ c P = some v
  | 0, v, h => by rw [mnF] at h; exact absurd h (by simp)
  | n + 1, v, h => by
    rw [mnF] at h
    cases ha : mnF c n with
    | none => rw [ha, kw_m] at h; exact ⟨n + 1, by omega, by omega, h⟩
    | some a =>
      obtain ⟨u, u1, u2, u3⟩ := mnF_att n a ha
      cases hc : c (n + 1) with
      | none =>
        rw [ha, hc, kw_m] at h
        have h : a = v := by simpa using h
        exact ⟨u, u1, by omega, by rw [u3, h]⟩
      | some b =>
        rw [ha, hc, kw_m] at h
        have h : min a b = v := by simpa using h
        by_cases q : a ≤ b
        · exact ⟨u, u1, by omega, by rw [u3, ← h, Nat.min_eq_left q]⟩
        · exact ⟨n + 1, by omega, by omega, by rw [hc, ← h, Nat.min_eq_right (by omega)]⟩
theorem mnF_le {c : Nat → Option Nat} : ∀ n P u, 1 ≤ P → P ≤ n → c P = some u → ∃ v, mnF c n = some v ∧ v ≤ u
  | 0, P, u, h1, h2, _ => by omega
  | n + 1, P, u, h1, h2, h3 => by
    rw [mnF]
    by_cases e : P = n + 1
    · subst e
      rw [h3]
      cases ha : mnF c n with
      | none => exact ⟨u, rfl, Nat.le_refl _⟩
      | some a => exact ⟨min a u, rfl, by omega⟩
    · obtain ⟨v, v1, v2⟩ := mnF_le n P u h1 (by omega) h3
      rw [v1]
      cases hc : c (n + 1) with
      | none => exact ⟨v, rfl, v2⟩
      | some b => exact ⟨min v b, rfl, by omega⟩
/-- two least values are the same if each is not above the other -/
theorem o_eq {a b : Option Nat} (h1 : ∀ v, a = some v → ∃ u, b = some u ∧ u ≤ v) (h2 : ∀ v, b = some v → ∃ u, a = some u ∧ u ≤ v) : a = b := by
  cases a with
  | none =>
    cases b with
    | none => rfl
    | some v =>
      obtain ⟨u, u1, -⟩ := h2 v rfl
      exact absurd u1 (by simp)
  | some v =>
    obtain ⟨u, u1, u2⟩ := h1 v rfl
    obtain ⟨w, w1, w2⟩ := h2 u u1
    have w1 : v = w := by simpa using w1
    have : u = v := by omega
    rw [u1, this]
def dpC (ok : Nat → Bool) (c : Nat → Nat) (T : Nat → Option Nat) (S P : Nat) : Option Nat := if P &&& S = P ∧ 0 < P ∧ ok P = true then (T (S - P)).map (fun x => c P + x) else none
def dpT (ok : Nat → Bool) (c : Nat → Nat) : Nat → Nat → Option Nat
  | 0 => fun _ => some 0
  | d + 1 => fun j => if j = d + 1 then mnF (dpC ok c (dpT ok c d) (d + 1)) (d + 1) else dpT ok c d j
theorem dpT_eq {ok : Nat → Bool} {c : Nat → Nat} : ∀ e d j, j ≤ d → dpT ok c (d + e) j = dpT ok c d j
  | 0, d, j, _ => rfl
  | e + 1, d, j, h => by
    have := dpT_eq (ok := ok) (c := c) e d j h
    show (if j = d + e + 1 then mnF (dpC ok c (dpT ok c (d + e)) (d + e + 1)) (d + e + 1) else dpT ok c (d + e) j) = _
    rw [if_neg (by omega), this]
theorem mnF_cg {c c' : Nat → Option Nat} : ∀ n, (∀ P, 1 ≤ P → P ≤ n → c P = c' P) → mnF c n = mnF c' n
  | 0, _ => rfl
  | n + 1, h => by rw [mnF, mnF, mnF_cg n (fun P h1 h2 => h P h1 (by omega)), h (n + 1) (by omega) (by omega)]
def dpZ (ok : Nat → Bool) (c : Nat → Nat) (S : Nat) : Option Nat := dpT ok c 64 S
theorem dpZ_0 {ok : Nat → Bool} {c : Nat → Nat} : dpZ ok c 0 = some 0 := by
  have := dpT_eq (ok := ok) (c := c) 64 0 0 (Nat.le_refl _)
  rw [Nat.zero_add] at this
  exact this
theorem dpZ_f {ok : Nat → Bool} {c : Nat → Nat} {S : Nat} (h1 : 1 ≤ S) (h2 : S < 64) : dpZ ok c S = mnF (dpC ok c (dpZ ok c) S) S := by
  obtain ⟨d, rfl⟩ : ∃ d, S = d + 1 := ⟨S - 1, by omega⟩
  have e := dpT_eq (ok := ok) (c := c) (64 - (d + 1)) (d + 1) (d + 1) (Nat.le_refl _)
  rw [show d + 1 + (64 - (d + 1)) = 64 by omega] at e
  refine e.trans ?_
  show (if d + 1 = d + 1 then mnF (dpC ok c (dpT ok c d) (d + 1)) (d + 1) else dpT ok c d (d + 1)) = _
  rw [if_pos rfl]
  refine mnF_cg _ (fun P p1 p2 => ?_)
  unfold dpC
  by_cases q : P &&& (d + 1) = P ∧ 0 < P ∧ ok P = true
  · rw [if_pos q, if_pos q]
    have e2 := dpT_eq (ok := ok) (c := c) (64 - d) d (d + 1 - P) (by omega)
    rw [show d + (64 - d) = 64 by omega] at e2
    show Option.map _ (dpT ok c d (d + 1 - P)) = Option.map _ (dpT ok c 64 (d + 1 - P))
    rw [e2]
  · rw [if_neg q, if_neg q]
theorem dpC_s {ok : Nat → Bool} {c : Nat → Nat} {T : Nat → Option Nat} {S P v : Nat} (h : dpC ok c T S P = some v) : P &&& S = P ∧ 0 < P ∧ ok P = true ∧ ∃ x, T (S - P) = some x ∧ v = c P + x := by
  unfold dpC at h
  by_cases q : P &&& S = P ∧ 0 < P ∧ ok P = true
  · rw [if_pos q] at h
    cases hx : T (S - P) with
    | none => rw [hx] at h; exact absurd h (by simp)
    | some x =>
      rw [hx] at h
      have h : c P + x = v := by simpa using h
      exact ⟨q.1, q.2.1, q.2.2, x, rfl, h.symm⟩
  · rw [if_neg q] at h
    exact absurd h (by simp)
theorem dpC_i {ok : Nat → Bool} {c : Nat → Nat} {T : Nat → Option Nat} {S P x : Nat} (h1 : P &&& S = P) (h2 : 0 < P) (h3 : ok P = true) (h4 : T (S - P) = some x) : dpC ok c T S P = some (c P + x) := by
  unfold dpC
  rw [if_pos ⟨h1, h2, h3⟩, h4]
  rfl
/-- with the set's first in the group -/
def dpD (ok : Nat → Bool) (c : Nat → Nat) (T : Nat → Option Nat) (S P : Nat) : Option Nat := if P &&& lb S = 0 then none else dpC ok c T S P
theorem dp_ex {ok : Nat → Bool} {c : Nat → Nat} : ∀ n S, S ≤ n → 1 ≤ S → S < 64 → mnF (dpD ok c (dpZ ok c) S) S = dpZ ok c S := by
  intro n
  induction n with
  | zero => intro S h1 h2; omega
  | succ n ih =>
    intro S hn h1 h2
    refine o_eq (fun v hv => ?_) (fun v hv => ?_)
    · obtain ⟨P, p1, p2, p3⟩ := mnF_att S v hv
      unfold dpD at p3
      by_cases q : P &&& lb S = 0
      · rw [if_pos q] at p3; exact absurd p3 (by simp)
      · rw [if_neg q] at p3
        rw [dpZ_f h1 h2]
        exact mnF_le S P v p1 p2 p3
    · have hv0 := hv
      rw [dpZ_f h1 h2] at hv
      obtain ⟨P, p1, p2, p3⟩ := mnF_att S v hv
      by_cases q : P &&& lb S = 0
      · obtain ⟨s1, s2, s3, x, s4, s5⟩ := dpC_s p3
        obtain ⟨l1, l2⟩ := st_5 S h2 P (by omega) s1 q (by omega)
        obtain ⟨u1, u2, u3, u4⟩ := st_1 S h2 P (by omega) s1
        -- the rest has the first
        rw [← ih (S - P) (by omega) (by omega) (by omega)] at s4
        obtain ⟨Q, q1, q2, q3⟩ := mnF_att _ _ s4
        unfold dpD at q3
        by_cases z : Q &&& lb (S - P) = 0
        · rw [if_pos z] at q3; exact absurd q3 (by simp)
        · rw [if_neg z] at q3
          obtain ⟨t1, t2, t3, y, t4, t5⟩ := dpC_s q3
          obtain ⟨w1, w2⟩ := st_4 S h2 P (by omega) s1 Q (by omega) t1
          have e1 : dpC ok c (dpZ ok c) (S - Q) P = some (c P + y) := dpC_i w2 s2 s3 (by rw [show S - Q - P = S - P - Q by omega]; exact t4)
          obtain ⟨z1, z2, z3, z4⟩ := st_1 S h2 Q (by omega) w1
          obtain ⟨x1, x2⟩ := mnF_le (c := dpC ok c (dpZ ok c) (S - Q)) (S - Q) P _ p1 (by
            have := (st_1 (S - Q) (by omega) P (by omega) w2).2.1
            exact this) e1
          rw [← dpZ_f (by have := (st_1 (S - Q) (by omega) P (by omega) w2).2.1; omega) (by omega)] at x2
          have e2 : dpD ok c (dpZ ok c) S Q = some (c Q + x1) := by
            unfold dpD
            rw [if_neg (by rw [← l2]; exact z)]
            exact dpC_i w1 t2 t3 x2.1
          obtain ⟨m, m1, m2⟩ := mnF_le (c := dpD ok c (dpZ ok c) S) S Q _ q1 z2 e2
          exact ⟨m, m1, by have := x2.2; omega⟩
      · refine mnF_le S P v p1 p2 ?_
        unfold dpD
        rw [if_neg q]
        exact p3
/-- whether a set can be parted doesn't hang on the costs -/
theorem dp_nn {ok : Nat → Bool} {c c' : Nat → Nat} : ∀ n S, S ≤ n → S < 64 → (∃ v, dpZ ok c S = some v) → ∃ v, dpZ ok c' S = some v := by
  intro n
  induction n with
  | zero =>
    intro S h1 h2 _
    obtain rfl : S = 0 := by omega
    exact ⟨0, dpZ_0⟩
  | succ n ih =>
    intro S h1 h2 ⟨v, hv⟩
    by_cases c0 : S = 0
    · subst c0; exact ⟨0, dpZ_0⟩
    · rw [dpZ_f (by omega) h2] at hv
      obtain ⟨P, p1, p2, p3⟩ := mnF_att S v hv
      obtain ⟨s1, s2, s3, x, s4, s5⟩ := dpC_s p3
      obtain ⟨y, hy⟩ := ih (S - P) (by omega) (by omega) ⟨x, s4⟩
      obtain ⟨m, m1, m2⟩ := mnF_le (c := dpC ok c' (dpZ ok c') S) S P _ p1 p2 (dpC_i s1 s2 s3 hy)
      exact ⟨m, by rw [dpZ_f (by omega) h2]; exact m1⟩
theorem dp_none {ok : Nat → Bool} {c : Nat → Nat} (c' : Nat → Nat) {S : Nat} (h2 : S < 64) (h : dpZ ok c S = none) : dpZ ok c' S = none := by
  cases hx : dpZ ok c' S with
  | none => rfl
  | some v =>
    obtain ⟨u, hu⟩ := dp_nn (c := c') (c' := c) S S (Nat.le_refl _) h2 ⟨v, hx⟩
    rw [h] at hu
    exact absurd hu (by simp)
theorem dp_mul {ok : Nat → Bool} {c : Nat → Nat} (k : Nat) : ∀ n S, S ≤ n → S < 64 → dpZ ok (fun P => k * c P) S = (dpZ ok c S).map (fun x => k * x) := by
  intro n
  induction n with
  | zero =>
    intro S h1 h2
    obtain rfl : S = 0 := by omega
    rw [dpZ_0, dpZ_0]
    rfl
  | succ n ih =>
    intro S h1 h2
    by_cases c0 : S = 0
    · subst c0
      rw [dpZ_0, dpZ_0]
      rfl
    · refine o_eq (fun v hv => ?_) (fun v hv => ?_)
      · rw [dpZ_f (by omega) h2] at hv
        obtain ⟨P, p1, p2, p3⟩ := mnF_att S v hv
        obtain ⟨s1, s2, s3, x, s4, s5⟩ := dpC_s p3
        rw [ih (S - P) (by omega) (by omega)] at s4
        cases hx : dpZ ok c (S - P) with
        | none => rw [hx] at s4; exact absurd s4 (by simp)
        | some y =>
          rw [hx] at s4
          have s4 : k * y = x := by simpa using s4
          obtain ⟨m, m1, m2⟩ := mnF_le (c := dpC ok c (dpZ ok c) S) S P _ p1 p2 (dpC_i s1 s2 s3 hx)
          rw [← dpZ_f (by omega) h2] at m1
          rw [m1]
          refine ⟨k * m, rfl, ?_⟩
          rw [s5, ← s4, ← Nat.mul_add]
          exact Nat.mul_le_mul_left k m2
      · cases hx : dpZ ok c S with
        | none => rw [hx] at hv; exact absurd hv (by simp)
        | some y =>
          rw [hx] at hv
          have hv : k * y = v := by simpa using hv
          rw [dpZ_f (by omega) h2] at hx
          obtain ⟨P, p1, p2, p3⟩ := mnF_att S y hx
          obtain ⟨s1, s2, s3, x, s4, s5⟩ := dpC_s p3
          have e := ih (S - P) (by omega) (by omega)
          rw [s4] at e
          obtain ⟨m, m1, m2⟩ := mnF_le (c := dpC ok (fun P => k * c P) (dpZ ok (fun P => k * c P)) S) S P _ p1 p2 (dpC_i s1 s2 s3 e)
          rw [← dpZ_f (by omega) h2] at m1
          refine ⟨m, m1, ?_⟩
          rw [← hv, s5, Nat.mul_add]
          exact m2
theorem dp_bd {ok : Nat → Bool} {c : Nat → Nat} {b : Nat} (hc : ∀ P, P < 64 → c P ≤ b) : ∀ n S v, S ≤ n → S < 64 → dpZ ok c S = some v → v ≤ b * S := by
  intro n
  induction n with
  | zero =>
    intro S v h1 h2 hv
    obtain rfl : S = 0 := by omega
    rw [dpZ_0] at hv
    have hv : 0 = v := by simpa using hv
    omega
  | succ n ih =>
    intro S v h1 h2 hv
    by_cases c0 : S = 0
    · subst c0
      exact ih 0 v (by omega) h2 hv
    · rw [dpZ_f (by omega) h2] at hv
      obtain ⟨P, p1, p2, p3⟩ := mnF_att S v hv
      obtain ⟨s1, s2, s3, x, s4, s5⟩ := dpC_s p3
      have := ih (S - P) x (by omega) (by omega) s4
      have := hc P (by omega)
      have e : b * S = b * (S - P) + b * P := by rw [← Nat.mul_add]; congr 1; omega
      have : b ≤ b * P := Nat.le_mul_of_pos_right b (by omega)
      omega
