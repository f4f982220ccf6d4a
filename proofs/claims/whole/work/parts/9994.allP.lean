/-! all, order: the pure side, and which ropes are laid -/
theorem st_20 : ∀ S, S < 64 → ∀ r, r < 6 → S.testBit r = true → 2 ^ r &&& S = 2 ^ r ∧ 2 ^ r ≤ S ∧ 1 ≤ 2 ^ r ∧ pc (S - 2 ^ r) + 1 = pc S ∧ nI S &&& (nI (2 ^ r) ^^^ (-1 : Int32)) = nI (S - 2 ^ r) := by decide +kernel
def loB (G : GG) (r o : Nat) : Bool := decide (o ≠ r ∧ (gN G r < gN G o ∨ o < r) ∧ inB (gN G o) (gK G o) (gN G r) (gK G r) = true)
theorem loB_t {G : GG} {r o : Nat} : loB G r o = true ↔ o ≠ r ∧ (gN G r < gN G o ∨ o < r) ∧ inB (gN G o) (gK G o) (gN G r) (gK G r) = true := by unfold loB; exact decide_eq_true_iff
def loA (G : GG) (r : Nat) : Bool := anyB (loB G r) (gRo G) 0
def laS (G : GG) : Nat → Nat
  | 0 => 0
  | r + 1 => if loA G r = true then laS G r else laS G r + 2 ^ r
theorem laS_lt (G : GG) : ∀ n, laS G n < 2 ^ n
  | 0 => Nat.zero_lt_one
  | n + 1 => by
    have h := laS_lt G n
    have e : 2 ^ (n + 1) = 2 ^ n + 2 ^ n := by rw [Nat.pow_succ]; omega
    show (if loA G n = true then laS G n else laS G n + 2 ^ n) < 2 ^ (n + 1)
    split <;> omega
def aN (G : GG) (V : Nat → Nat → Nat) (S l r : Nat) : Nat := gN G r - (if l = 6 then 0 else ovG G l r) + V (S - 2 ^ r) r
def aS (G : GG) (V : Nat → Nat → Nat) (S l : Nat) : Nat → Option (Nat × Nat)
  | 0 => none
  | r + 1 => if S.testBit r = true then (match aS G V S l r with
    | none => some (aN G V S l r, r)
    | some (m, a) => if m ≤ aN G V S l r then some (m, a) else some (aN G V S l r, r)) else aS G V S l r
def aV (G : GG) : Nat → Nat → Nat → Nat
  | 0, _, _ => 0
  | d + 1, S, l => match aS G (aV G d) S l (gRo G) with
    | none => 0
    | some (m, _) => m
def aZ (G : GG) (S l : Nat) : Nat := aV G 64 S l
theorem aS_cg {G : GG} {V V' : Nat → Nat → Nat} {S l : Nat} (hS : S < 64) (h : ∀ S' l', S' < S → V S' l' = V' S' l') : ∀ r, r ≤ 6 → aS G V S l r = aS G V' S l r
  | 0, _ => rfl
  | r + 1, hr => by
    have ih := aS_cg (l := l) (G := G) hS h r (by omega)
    unfold aS
    rw [ih]
    by_cases c : S.testBit r = true
    · have q := st_20 S hS r (by omega) c
      have e : aN G V S l r = aN G V' S l r := by unfold aN; rw [h (S - 2 ^ r) r (by omega)]
      rw [e]
    · rw [if_neg c, if_neg c]
theorem aS_0 {G : GG} {V : Nat → Nat → Nat} {l : Nat} : ∀ r, aS G V 0 l r = none
  | 0 => rfl
  | r + 1 => by
    unfold aS
    rw [if_neg (by simp), aS_0 r]
theorem aV_eq {G : GG} (hV : GV G) : ∀ S d d' l, S < 64 → S ≤ d → S ≤ d' → aV G d S l = aV G d' S l := by
  intro S
  induction S using Nat.strongRecOn with
  | ind S ih =>
    intro d d' l hS h1 h2
    have z : ∀ d l, aV G d 0 l = 0 := fun d l => by
      cases d with
      | zero => rfl
      | succ d => unfold aV; rw [aS_0]
    cases d with
    | zero =>
      obtain rfl : S = 0 := by omega
      rw [z, z]
    | succ d =>
      cases d' with
      | zero =>
        obtain rfl : S = 0 := by omega
        rw [z, z]
      | succ d' =>
        unfold aV
        rw [aS_cg hS (fun S' l' q => ih S' q d d' l' (by omega) (by omega) (by omega)) (gRo G) (by obtain ⟨vLi, v0, vPl, vWe, vOd, vKi, vWo, vRo, vPe, vWt, vAc, vIn, vWa, vL, vMn, vW, vA, vB, vAB, vLd, vCr, vN, vK, vWg, vPc, vSt, vD⟩ := hV; omega)]
theorem aZ_f {G : GG} (hV : GV G) {S l : Nat} (hS : S < 64) : aZ G S l = match aS G (aZ G) S l (gRo G) with
    | none => 0
    | some (m, _) => m := by
  show aV G (63 + 1) S l = _
  unfold aV
  rw [aS_cg (V' := aZ G) hS (fun S' l' q => aV_eq hV S' 63 64 l' (by omega) (by omega) (by omega)) (gRo G) (by obtain ⟨vLi, v0, vPl, vWe, vOd, vKi, vWo, vRo, vPe, vWt, vAc, vIn, vWa, vL, vMn, vW, vA, vB, vAB, vLd, vCr, vN, vK, vWg, vPc, vSt, vD⟩ := hV; omega)]
theorem aS_b {G : GG} {V : Nat → Nat → Nat} {S l m a : Nat} (hS : S < 64) : ∀ r, r ≤ 6 → aS G V S l r = some (m, a) → a < r ∧ S.testBit a = true ∧ m = aN G V S l a
  | 0, _, h => absurd h (by simp [aS])
  | r + 1, hr, h => by
    unfold aS at h
    by_cases c : S.testBit r = true
    · rw [if_pos c] at h
      cases e : aS G V S l r with
      | none =>
        rw [e] at h
        have h : aN G V S l r = m ∧ r = a := by simpa using h
        obtain ⟨h1, h2⟩ := h
        subst h2
        exact ⟨by omega, c, h1.symm⟩
      | some y =>
        obtain ⟨m', a'⟩ := y
        rw [e] at h
        have h : (if m' ≤ aN G V S l r then some (m', a') else some (aN G V S l r, r)) = some (m, a) := h
        by_cases d : m' ≤ aN G V S l r
        · rw [if_pos d] at h
          have h : m' = m ∧ a' = a := by simpa using h
          obtain ⟨h1, h2⟩ := h
          subst h1 h2
          obtain ⟨q1, q2, q3⟩ := aS_b hS r (by omega) e
          exact ⟨by omega, q2, q3⟩
        · rw [if_neg d] at h
          have h : aN G V S l r = m ∧ r = a := by simpa using h
          obtain ⟨h1, h2⟩ := h
          subst h2
          exact ⟨by omega, c, h1.symm⟩
    · rw [if_neg c] at h
      obtain ⟨q1, q2, q3⟩ := aS_b hS r (by omega) h
      exact ⟨by omega, q2, q3⟩
theorem aS_n {G : GG} {V : Nat → Nat → Nat} {S l : Nat} : ∀ r, aS G V S l r = none → ∀ k, k < r → ¬ S.testBit k = true
  | 0, _, k, hk => by omega
  | r + 1, h, k, hk => by
    unfold aS at h
    by_cases c : S.testBit r = true
    · rw [if_pos c] at h
      cases e : aS G V S l r with
      | none => rw [e] at h; exact absurd h (by simp)
      | some y =>
        obtain ⟨m', a'⟩ := y
        rw [e] at h
        have h : (if m' ≤ aN G V S l r then some (m', a') else some (aN G V S l r, r)) = none := h
        split at h <;> exact absurd h (by simp)
    · rw [if_neg c] at h
      by_cases d : k = r
      · rw [d]; exact c
      · exact aS_n r h k (by omega)
theorem ovG_le (G : GG) (r o : Nat) : ovG G r o ≤ gN G r ∧ (r ≠ o → ovG G r o ≤ gN G o) := by
  unfold ovG
  have := lf_le (ovB (gN G r) (gK G r) (gK G o)) (if r = o then gN G r - 1 else min (gN G r) (gN G o))
  refine ⟨?_, fun q => ?_⟩
  · by_cases q : r = o
    · rw [if_pos q] at this ⊢
      omega
    · rw [if_neg q] at this ⊢
      omega
  · rw [if_neg q] at this ⊢
    omega
theorem aZ_le {G : GG} (hV : GV G) : ∀ S l, S < 64 → aZ G S l ≤ 24 * pc S := by
  intro S
  induction S using Nat.strongRecOn with
  | ind S ih =>
    intro l hS
    rw [aZ_f hV hS]
    cases e : aS G (aZ G) S l (gRo G) with
    | none => exact Nat.zero_le _
    | some y =>
      obtain ⟨m, a⟩ := y
      have hV' := hV
      obtain ⟨vLi, v0, vPl, vWe, vOd, vKi, vWo, vRo, vPe, vWt, vAc, vIn, vWa, vL, vMn, vW, vA, vB, vAB, vLd, vCr, vN, vK, vWg, vPc, vSt, vD⟩ := hV'
      obtain ⟨q1, q2, q3⟩ := aS_b hS (gRo G) (by omega) e
      have q := st_20 S hS a (by omega) q2
      have := ih (S - 2 ^ a) (by omega) a (by omega)
      have := vN a q1
      show m ≤ 24 * pc S
      unfold aN at q3
      omega
/-- the way's k-th rope -/
def aP (G : GG) (V : Nat → Nat → Nat) : Nat → Nat → Nat → Nat
  | 0, S, l => match aS G V S l (gRo G) with
    | none => 0
    | some (_, a) => a
  | k + 1, S, l => match aS G V S l (gRo G) with
    | none => 0
    | some (_, a) => aP G V k (S - 2 ^ a) a
