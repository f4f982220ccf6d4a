/-! GORGE: lines, what they tell -/
def u1 (P : GG) (i v : Nat) : GG := (fun j => if j = i then v else P.1 j, P.2)
def u2 (P : GG) (a k v : Nat) : GG := (P.1, fun a' k' => if a' = a ∧ k' = k then v else P.2.1 a' k', P.2.2)
def u3 (P : GG) (t a : Nat) (f : Nat → Nat) : GG := (P.1, P.2.1, fun t' a' i => if t' = t ∧ a' = a then f i else P.2.2 t' a' i)
def nxs (b : Nat → Int32) (n s : Nat) : Nat → Nat
  | 0 => s
  | i + 1 => nxt_ b n (nxs b n s i)
/-- the knots of a word or a rope -/
def knC (b : Nat → Int32) (n most ki i : Nat) (σ : SG) : SG := if i = most ∧ tv b n σ.2 < ki then sFail 3 σ else σ
def knF (b : Nat → Int32) (n most ki : Nat) : Nat → Nat → SG → SG × Nat
  | 0, i, σ => (σ, i)
  | d + 1, i, σ => if σ.1 = none ∧ tk b n σ.2 = 2 then knF b n most ki d (i + 1) (sNum b n 0 ki (knC b n most ki i σ)) else (σ, i)
def knS (b : Nat → Int32) (n most ki : Nat) (σ : SG) : SG × Nat := knF b n most ki most 1 (sNum b n 0 ki σ)
theorem knC_g {b : Nat → Int32} {n most ki i : Nat} {σ : SG} (h : (knC b n most ki i σ).1 = none) : knC b n most ki i σ = σ ∧ σ.1 = none ∧ ¬ (i = most ∧ tv b n σ.2 < ki) := by
  unfold knC at h ⊢
  by_cases c : i = most ∧ tv b n σ.2 < ki
  · rw [if_pos c] at h; exact (sFail_g h).elim
  · rw [if_neg c] at h ⊢; exact ⟨rfl, h, c⟩
theorem sNum_s {b : Nat → Int32} {n lo hi : Nat} {σ : SG} (h : (sNum b n lo hi σ).1 = none) : sNum b n lo hi σ = (none, nxt_ b n σ.2) := by
  obtain ⟨h1, h2, h3, h4⟩ := sNum_g h
  obtain ⟨o, s⟩ := σ
  have h1 : o = none := h1
  subst h1
  show (if tk b n s = 2 then (if lo ≤ tv b n s ∧ tv b n s < hi then ((none, nxt_ b n s) : SG) else (some (2, s), s)) else (some (1, s), s)) = _
  rw [if_pos h2, if_pos ⟨h3, h4⟩]
theorem kn_step {b : Nat → Int32} {n most ki i s : Nat} {σ : SG} (hσ : σ.1 = none → σ.2 = nxs b n s i) (h : (sNum b n 0 ki (knC b n most ki i σ)).1 = none) : i ≠ most ∧ tv b n (nxs b n s i) < ki ∧ (sNum b n 0 ki (knC b n most ki i σ)).2 = nxs b n s (i + 1) ∧ σ.1 = none := by
  obtain ⟨h1, h2, h3, h4⟩ := sNum_g h
  obtain ⟨k1, k2, k3⟩ := knC_g h1
  have e := hσ k2
  rw [k1] at h4
  have := sNum_s h
  rw [k1] at this
  rw [k1, this, ← e]
  refine ⟨fun q => k3 ⟨q, h4⟩, h4, ?_, k2⟩
  show nxt_ b n σ.2 = nxt_ b n (nxs b n s i)
  rw [e]
theorem knF_v {b : Nat → Int32} {n most ki s : Nat} : ∀ d i σ, d + i = most + 1 → 1 ≤ i → (σ.1 = none → i ≤ most ∧ σ.2 = nxs b n s i ∧ ∀ j, j < i → tv b n (nxs b n s j) < ki) → (knF b n most ki d i σ).1.1 = none → 1 ≤ (knF b n most ki d i σ).2 ∧ (knF b n most ki d i σ).2 ≤ most ∧ ∀ j, j < (knF b n most ki d i σ).2 → tv b n (nxs b n s j) < ki := by
  intro d
  induction d with
  | zero =>
    intro i σ h1 h2 h3 h4
    have h4 : σ.1 = none := h4
    have := (h3 h4).1
    omega
  | succ d ih =>
    intro i σ h1 h2 h3 h4
    rw [knF] at h4 ⊢
    by_cases c : σ.1 = none ∧ tk b n σ.2 = 2
    · rw [if_pos c] at h4 ⊢
      refine ih (i + 1) _ (by omega) (by omega) (fun q => ?_) h4
      obtain ⟨a1, a2, a3, a4⟩ := kn_step (s := s) (fun z => (h3 z).2.1) q
      obtain ⟨b1, b2, b3⟩ := h3 a4
      refine ⟨by omega, a3, fun j hj => ?_⟩
      by_cases e : j = i
      · rw [e]; exact a2
      · exact b3 j (by omega)
    · rw [if_neg c] at h4 ⊢
      have h4 : σ.1 = none := h4
      obtain ⟨b1, b2, b3⟩ := h3 h4
      exact ⟨h2, b1, b3⟩
theorem knS_v {b : Nat → Int32} {n most ki : Nat} {σ : SG} (hm : 1 ≤ most) (h : (knS b n most ki σ).1.1 = none) : 1 ≤ (knS b n most ki σ).2 ∧ (knS b n most ki σ).2 ≤ most ∧ ∀ j, j < (knS b n most ki σ).2 → tv b n (nxs b n σ.2 j) < ki := by
  refine knF_v most 1 _ (by omega) (by omega) (fun q => ?_) h
  obtain ⟨h1, h2, h3, h4⟩ := sNum_g q
  refine ⟨hm, by rw [sNum_s q]; rfl, fun j hj => ?_⟩
  obtain rfl : j = 0 := by omega
  exact h4
theorem knF_b {b : Nat → Int32} {n most ki d i : Nat} {e : Nat × Nat} {s : Nat} : knF b n most ki d i (some e, s) = ((some e, s), i) := by
  cases d with
  | zero => rfl
  | succ d =>
    rw [knF, if_neg (fun q => absurd q.1 (by simp))]
theorem knF_g {b : Nat → Int32} {n most ki : Nat} : ∀ d i σ, (knF b n most ki d i σ).1.1 = none → σ.1 = none := by
  intro d i σ h
  obtain ⟨o, s⟩ := σ
  cases o with
  | none => rfl
  | some e => rw [knF_b] at h; exact h
theorem knS_g {b : Nat → Int32} {n most ki : Nat} {σ : SG} (h : (knS b n most ki σ).1.1 = none) : σ.1 = none := (sNum_g (knF_g _ _ _ h)).1
/-- a word that was told ahead -/
def dpB (P : GG) (m : Nat) (f : Nat → Nat) (v : Nat) : Bool := decide (P.2.1 2 v = m ∧ ∀ i, i < m → P.2.2 0 v i = f i)
theorem dpB_t {P : GG} {m : Nat} {f : Nat → Nat} {v : Nat} : dpB P m f v = true ↔ (P.2.1 2 v = m ∧ ∀ i, i < m → P.2.2 0 v i = f i) := by unfold dpB; exact decide_eq_true_iff
def dpA (P : GG) (m : Nat) (f : Nat → Nat) : Bool := anyB (dpB P m f) (P.1 5) 0
theorem anyB_t {p : Nat → Bool} : ∀ d s, anyB p d s = true ↔ ∃ j, s ≤ j ∧ j < s + d ∧ p j = true
  | 0, s => ⟨fun q => absurd q (by simp [anyB]), fun ⟨j, q1, q2, _⟩ => by omega⟩
  | d + 1, s => by
    rw [anyB, Bool.or_eq_true, anyB_t d (s + 1)]
    constructor
    · intro q
      rcases q with q | ⟨j, q1, q2, q3⟩
      · exact ⟨s, Nat.le_refl _, by omega, q⟩
      · exact ⟨j, by omega, by omega, q3⟩
    · intro ⟨j, q1, q2, q3⟩
      by_cases e : j = s
      · subst e; exact Or.inl q3
      · exact Or.inr ⟨j, by omega, by omega, q3⟩
theorem dpA_t {P : GG} {m : Nat} {f : Nat → Nat} : dpA P m f = true ↔ ∃ v, v < P.1 5 ∧ P.2.1 2 v = m ∧ ∀ i, i < m → P.2.2 0 v i = f i := by
  unfold dpA
  rw [anyB_t]
  constructor
  · intro ⟨j, q1, q2, q3⟩
    exact ⟨j, by omega, dpB_t.mp q3⟩
  · intro ⟨v, q1, q2⟩
    exact ⟨v, Nat.zero_le _, by omega, dpB_t.mpr q2⟩
def dupC (b : Nat → Int32) (n : Nat) (P : GG) (m : Nat) (f : Nat → Nat) (σ : SG) : SG := if σ.1 = none ∧ isW b n σ.2 8 = true ∧ dpA P m f = true then sFail 2 σ else σ
def samC (b : Nat → Int32) (n v : Nat) (σ : SG) : SG := if σ.1 = none ∧ tk b n σ.2 = 2 ∧ tv b n σ.2 = v then sFail 2 σ else σ
def nmS (b : Nat → Int32) (n l lo hi : Nat) (σ : SG) : SG := sNum b n lo hi (sName b n l σ)
def nmV (b : Nat → Int32) (n l : Nat) (σ : SG) : Nat := tv b n (sName b n l σ).2
theorem nmS_g {b : Nat → Int32} {n l lo hi : Nat} {σ : SG} (h : (nmS b n l lo hi σ).1 = none) : σ.1 = none ∧ lo ≤ nmV b n l σ ∧ nmV b n l σ < hi := by
  obtain ⟨h1, h2, h3, h4⟩ := sNum_g h
  exact ⟨sName_g h1, h3, h4⟩
def lnG1 (b : Nat → Int32) (n : Nat) (σ : SG) : SG := sName b n 0 σ
def lnG (b : Nat → Int32) (n : Nat) (P : GG) (σ : SG) : GG × SG := (u1 (u1 (u1 P 1 (nmV b n 1 (sName b n 0 σ))) 2 (nmV b n 2 (nmS b n 1 2 7 (sName b n 0 σ)))) 3 (nmV b n 3 (nmS b n 2 0 100 (nmS b n 1 2 7 (sName b n 0 σ)))), nmS b n 3 0 101 (nmS b n 2 0 100 (nmS b n 1 2 7 (sName b n 0 σ))))
def lnK (b : Nat → Int32) (n : Nat) (P : GG) (σ : SG) : GG × SG := if P.1 4 = 6 then (P, sFail 3 σ) else (u1 (u2 (u2 P 0 (P.1 4) (nmV b n 5 (sNext b n σ))) 1 (P.1 4) (nmV b n 6 (nmS b n 5 1 10 (sNext b n σ)))) 4 (P.1 4 + 1), nmS b n 6 0 51 (nmS b n 5 1 10 (sNext b n σ)))
def lnW (b : Nat → Int32) (n : Nat) (P : GG) (σ : SG) : GG × SG := if P.1 5 = 10 then (P, sFail 3 σ) else
  (u1 (u2 (u2 (u3 P 0 (P.1 5) (fun i => tv b n (nxs b n (sNext b n σ).2 i))) 2 (P.1 5) (knS b n 4 (P.1 4) (sNext b n σ)).2) 3 (P.1 5) (nmV b n 8 (dupC b n P (knS b n 4 (P.1 4) (sNext b n σ)).2 (fun i => tv b n (nxs b n (sNext b n σ).2 i)) (knS b n 4 (P.1 4) (sNext b n σ)).1))) 5 (P.1 5 + 1), nmS b n 8 0 100 (dupC b n P (knS b n 4 (P.1 4) (sNext b n σ)).2 (fun i => tv b n (nxs b n (sNext b n σ).2 i)) (knS b n 4 (P.1 4) (sNext b n σ)).1))
def lnR2 (b : Nat → Int32) (n : Nat) (P : GG) (σ : SG) : SG := samC b n (tv b n (sNext b n σ).2) (sName b n 10 (sNum b n 0 (P.1 1) (sNext b n σ)))
def lnR5 (b : Nat → Int32) (n : Nat) (P : GG) (σ : SG) : SG := sNum b n 0 (P.1 1) (lnR2 b n P σ)
def lnR7 (b : Nat → Int32) (n : Nat) (P : GG) (σ : SG) : SG := sName b n 12 (nmS b n 11 1 1000 (lnR5 b n P σ))
def lnR (b : Nat → Int32) (n : Nat) (P : GG) (σ : SG) : GG × SG := if P.1 6 = 6 then (P, sFail 3 σ) else
  (u1 (u2 (u2 (u2 (u2 (u3 P 1 (P.1 6) (fun i => tv b n (nxs b n (lnR7 b n P σ).2 i))) 7 (P.1 6) (knS b n 12 (P.1 4) (lnR7 b n P σ)).2) 4 (P.1 6) (tv b n (sNext b n σ).2)) 5 (P.1 6) (tv b n (lnR2 b n P σ).2)) 6 (P.1 6) (nmV b n 11 (lnR5 b n P σ))) 6 (P.1 6 + 1), (knS b n 12 (P.1 4) (lnR7 b n P σ)).1)
def lnQ (b : Nat → Int32) (n : Nat) (P : GG) (σ : SG) : GG × SG := if P.1 7 = 6 then (P, sFail 3 σ) else
  (u1 (u2 (u2 (u2 P 9 (P.1 7) (nmV b n 14 (sNext b n σ))) 10 (P.1 7) (nmV b n 15 (nmS b n 14 1 1000 (sNext b n σ)))) 11 (P.1 7) (nmV b n 16 (nmS b n 15 1 10 (nmS b n 14 1 1000 (sNext b n σ))))) 7 (P.1 7 + 1), nmS b n 16 0 (P.1 1) (nmS b n 15 1 10 (nmS b n 14 1 1000 (sNext b n σ))))
def ln (b : Nat → Int32) (n : Nat) (P : GG) (σ : SG) : GG × SG := if P.1 0 = 0 then lnG b n P σ else if isW b n σ.2 4 = true then lnK b n P σ else if isW b n σ.2 7 = true then lnW b n P σ else if isW b n σ.2 9 = true then lnR b n P σ else if isW b n σ.2 13 = true then lnQ b n P σ else (P, sFail 1 σ)
def lnZ (b : Nat → Int32) (n : Nat) (z : GG × SG) : GG × SG := (u1 (ln b n z.1 z.2).1 0 (z.1.1 0 + 1), sSign b n (ln b n z.1 z.2).2)
def glF (b : Nat → Int32) (n : Nat) : Nat → GG × SG → GG × SG
  | 0, z => z
  | d + 1, z => if z.2.1 = none ∧ ¬ tk b n z.2.2 = 0 then glF b n d (lnZ b n z) else z
/-- what was told is in its bounds -/
def PV (P : GG) : Prop := ((P.1 0 = 0 ∧ ∀ j, 1 ≤ j → j < 8 → P.1 j = 0) ∨ (P.1 0 = 1 + P.1 4 + P.1 5 + P.1 6 + P.1 7 ∧ 2 ≤ P.1 1 ∧ P.1 1 ≤ 6)) ∧ P.1 2 ≤ 99 ∧ P.1 3 ≤ 100 ∧ P.1 4 ≤ 6 ∧ P.1 5 ≤ 10 ∧ P.1 6 ≤ 6 ∧ P.1 7 ≤ 6 ∧
  (∀ k, k < P.1 4 → 1 ≤ P.2.1 0 k ∧ P.2.1 0 k ≤ 9 ∧ P.2.1 1 k ≤ 50) ∧
  (∀ w, w < P.1 5 → 1 ≤ P.2.1 2 w ∧ P.2.1 2 w ≤ 4 ∧ P.2.1 3 w ≤ 99 ∧ ∀ i, i < P.2.1 2 w → P.2.2 0 w i < P.1 4) ∧
  (∀ r, r < P.1 6 → P.2.1 4 r < P.1 1 ∧ P.2.1 5 r < P.1 1 ∧ P.2.1 4 r ≠ P.2.1 5 r ∧ 1 ≤ P.2.1 6 r ∧ P.2.1 6 r ≤ 999 ∧ 1 ≤ P.2.1 7 r ∧ P.2.1 7 r ≤ 12 ∧ ∀ i, i < P.2.1 7 r → P.2.2 1 r i < P.1 4) ∧
  (∀ p, p < P.1 7 → 1 ≤ P.2.1 9 p ∧ P.2.1 9 p ≤ 999 ∧ 1 ≤ P.2.1 10 p ∧ P.2.1 10 p ≤ 9 ∧ P.2.1 11 p < P.1 1) ∧
  (∀ w v, v < w → w < P.1 5 → P.2.1 2 v = P.2.1 2 w → ¬ ∀ i, i < P.2.1 2 v → P.2.2 0 v i = P.2.2 0 w i)
theorem u1_p (P : GG) (i v : Nat) : (u1 P i v).1 i = v := if_pos rfl
theorem u2_n (P : GG) {a k v a' k' : Nat} (h : ¬ (a' = a ∧ k' = k)) : (u2 P a k v).2.1 a' k' = P.2.1 a' k' := if_neg h
theorem u2_p (P : GG) (a k v : Nat) : (u2 P a k v).2.1 a k = v := if_pos ⟨rfl, rfl⟩
theorem u3_n (P : GG) {t a t' a' i : Nat} {f : Nat → Nat} (h : ¬ (t' = t ∧ a' = a)) : (u3 P t a f).2.2 t' a' i = P.2.2 t' a' i := if_neg h
theorem u3_p (P : GG) (t a i : Nat) (f : Nat → Nat) : (u3 P t a f).2.2 t a i = f i := if_pos ⟨rfl, rfl⟩
