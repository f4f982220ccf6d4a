/-! slips: readings as ways from place to place, and their least sums -/
def pt (G : GG) (n : Nat) (k : Nat → Nat) : List Nat → Nat → Nat → Nat → Prop
  | [], i, j, s => i = j ∧ s = 0
  | w :: ws, i, j, s => w < gWo G ∧ hW G n k w i = true ∧ gMn G w ≤ s ∧ pt G n k ws (i + gL G w) j (s - gMn G w)
def pa (G : GG) (n : Nat) (k : Nat → Nat) (i j s : Nat) : Prop := ∃ ws, pt G n k ws i j s
theorem pa_0 {G : GG} {n : Nat} {k : Nat → Nat} (i : Nat) : pa G n k i i 0 := ⟨[], rfl, rfl⟩
theorem pa_w {G : GG} {n : Nat} {k : Nat → Nat} {w i j s : Nat} (hw : w < gWo G) (hh : hW G n k w i = true) (h1 : gMn G w ≤ s) (h : pa G n k (i + gL G w) j (s - gMn G w)) : pa G n k i j s := by
  obtain ⟨ws, h⟩ := h
  exact ⟨w :: ws, hw, hh, h1, h⟩
theorem pa_i {G : GG} {n : Nat} {k : Nat → Nat} {i j s : Nat} (h : pa G n k i j s) : (i = j ∧ s = 0) ∨ ∃ w, w < gWo G ∧ hW G n k w i = true ∧ gMn G w ≤ s ∧ pa G n k (i + gL G w) j (s - gMn G w) := by
  obtain ⟨ws, h⟩ := h
  cases ws with
  | nil => exact Or.inl h
  | cons w ws => exact Or.inr ⟨w, h.1, h.2.1, h.2.2.1, ws, h.2.2.2⟩
theorem pa_cat {G : GG} {n : Nat} {k : Nat → Nat} {i m j s u : Nat} (h1 : pa G n k i m s) (h2 : pa G n k m j u) : pa G n k i j (s + u) := by
  obtain ⟨ws, h1⟩ := h1
  induction ws generalizing i s with
  | nil =>
    obtain ⟨rfl, rfl⟩ := h1
    rw [Nat.zero_add]
    exact h2
  | cons w ws ih =>
    obtain ⟨q1, q2, q3, q4⟩ := h1
    have := ih q4
    refine pa_w q1 q2 (by omega) ?_
    rw [show s + u - gMn G w = s - gMn G w + u by omega]
    exact this
theorem pa_1 {G : GG} {n : Nat} {k : Nat → Nat} {w i : Nat} (hw : w < gWo G) (hh : hW G n k w i = true) : pa G n k i (i + gL G w) (gMn G w) := pa_w hw hh (Nat.le_refl _) (by rw [Nat.sub_self]; exact pa_0 _)
theorem pa_b {G : GG} {n : Nat} {k : Nat → Nat} (hV : GV G) {i j s : Nat} (h : pa G n k i j s) : i ≤ j ∧ s ≤ 99 * (j - i) ∧ (i ≤ n → j ≤ n) := by
  obtain ⟨vLi, v0, vPl, vWe, vOd, vKi, vWo, vRo, vPe, vWt, vAc, vIn, vWa, vL, vMn, vW, vA, vB, vAB, vLd, vCr, vN, vK, vWg, vPc, vSt, vD⟩ := hV
  obtain ⟨ws, h⟩ := h
  induction ws generalizing i s with
  | nil =>
    obtain ⟨rfl, rfl⟩ := h
    exact ⟨Nat.le_refl _, Nat.zero_le _, id⟩
  | cons w ws ih =>
    obtain ⟨q1, q2, q3, q4⟩ := h
    obtain ⟨r1, r2, r3⟩ := ih q4
    have a1 := vL w q1
    have a2 := vMn w q1
    have a3 := (hW_iff.mp q2).1
    exact ⟨by omega, by omega, fun _ => r3 a3⟩
/-- the last word -/
theorem pa_s {G : GG} {n : Nat} {k : Nat → Nat} {i j s : Nat} (h : pa G n k i j s) : (i = j ∧ s = 0) ∨ ∃ f w, w < gWo G ∧ hW G n k w f = true ∧ f + gL G w = j ∧ gMn G w ≤ s ∧ pa G n k i f (s - gMn G w) := by
  obtain ⟨ws, h⟩ := h
  induction ws generalizing i s with
  | nil => exact Or.inl h
  | cons w ws ih =>
    obtain ⟨q1, q2, q3, q4⟩ := h
    rcases ih q4 with ⟨e1, e2⟩ | ⟨f, v, r1, r2, r3, r4, r5⟩
    · refine Or.inr ⟨i, w, q1, q2, e1, q3, ?_⟩
      rw [e2]
      exact pa_0 _
    · refine Or.inr ⟨f, v, r1, r2, r3, by omega, pa_w q1 q2 (by omega) ?_⟩
      rw [show s - gMn G v - gMn G w = s - gMn G w - gMn G v by omega]
      exact r5
theorem idM_ {a b : Option Nat} {P Q : Nat → Prop} (h1 : isD a P) (h2 : isD b Q) : isD (kw_m a b) (fun s => P s ∨ Q s) := by
  refine ⟨fun v hv => ?_, fun v hv => ?_⟩
  · rcases om_s hv with e | e
    · exact Or.inl (h1.1 v e)
    · exact Or.inr (h2.1 v e)
  · rcases hv with e | e
    · obtain ⟨u, q1, q2⟩ := h1.2 v e
      obtain ⟨t, q3, q4⟩ := om_l (b := b) q1
      exact ⟨t, q3, by omega⟩
    · obtain ⟨u, q1, q2⟩ := h2.2 v e
      obtain ⟨t, q3, q4⟩ := om_r (a := a) q1
      exact ⟨t, q3, by omega⟩
theorem idC_ {a : Option Nat} {P Q : Nat → Prop} (h1 : isD a P) (h : ∀ s, P s ↔ Q s) : isD a Q := ⟨fun v hv => (h v).mp (h1.1 v hv), fun v hv => h1.2 v ((h v).mpr hv)⟩
theorem idN_ {P : Nat → Prop} (h : ∀ s, ¬ P s) : isD none P := ⟨fun v hv => absurd hv (by simp), fun v hv => absurd hv (h v)⟩
theorem idZ_ {a : Option Nat} {P : Nat → Prop} (h : isD a P) (e : a = none) (s : Nat) : ¬ P s := fun q => by
  obtain ⟨u, q1, q2⟩ := h.2 s q
  rw [e] at q1
  exact absurd q1 (by simp)
theorem idA_ {a : Option Nat} {P : Nat → Prop} (h : isD a P) (c : Nat) : isD (a.map (fun z => z + c)) (fun s => c ≤ s ∧ P (s - c)) := by
  cases a with
  | none => exact idN_ (fun s q => idZ_ h rfl _ q.2)
  | some y =>
    refine ⟨fun v hv => ?_, fun v hv => ?_⟩
    · have hv : y + c = v := by simpa using hv
      subst hv
      refine ⟨by omega, ?_⟩
      rw [Nat.add_sub_cancel]
      exact h.1 y rfl
    · obtain ⟨u, q1, q2⟩ := h.2 _ hv.2
      have q1 : y = u := by simpa using q1
      exact ⟨y + c, rfl, by omega⟩
theorem idS_ {v : Nat} {P : Nat → Prop} (h1 : P v) (h2 : ∀ s, P s → v ≤ s) : isD (some v) P := by
  refine ⟨fun u hu => ?_, fun s hs => ⟨v, rfl, h2 s hs⟩⟩
  have hu : v = u := by simpa using hu
  rw [← hu]
  exact h1
/-- of a place: the least sum -/
def rdO (z : Nat × Nat × Nat) : Option Nat := if z.1 = 0 then none else some z.2.1
theorem rdO_e (z : Nat × Nat × Nat) : eL z = kw_e (rdO z) := by
  unfold eL rdO
  by_cases c : z.1 = 0
  · rw [if_pos c, if_pos c]; rfl
  · rw [if_neg c, if_neg c]; rfl
theorem rdO_f (z : Nat × Nat × Nat) : fL z = nI (kw_n (rdO z)) := by
  unfold fL rdO
  by_cases c : z.1 = 0
  · rw [if_pos c, if_pos c]; rfl
  · rw [if_neg c, if_neg c]; rfl
theorem rdO_n {z : Nat × Nat × Nat} : rdO z = none ↔ z.1 = 0 := by
  unfold rdO
  by_cases c : z.1 = 0
  · rw [if_pos c]; exact ⟨fun _ => c, fun _ => rfl⟩
  · rw [if_neg c]; exact ⟨fun q => absurd q (by simp), fun q => absurd q c⟩
def rdw (G : GG) (n : Nat) (k : Nat → Nat) (T : Nat → Nat × Nat × Nat) (i w : Nat) : Option Nat := if hW G n k w i = true then (rdO (T (i + gL G w))).map (fun z => z + gMn G w) else none
theorem rdF_o {G : GG} {n : Nat} {k : Nat → Nat} {T : Nat → Nat × Nat × Nat} {i w : Nat} : rdO (rdF G n k T i (w + 1)) = kw_m (rdO (rdF G n k T i w)) (rdw G n k T i w) := by
  rw [rdF]
  unfold rdw
  by_cases c : hW G n k w i = true
  · rw [if_pos c]
    by_cases d : 0 < (T (i + gL G w)).1
    · rw [if_pos ⟨c, d⟩]
      have e : rdO (T (i + gL G w)) = some (T (i + gL G w)).2.1 := if_neg (by omega)
      rw [e]
      unfold rdO
      rw [if_neg (show ¬ (rdF G n k T i w).1 + (T (i + gL G w)).1 = 0 by omega)]
      by_cases f : (rdF G n k T i w).1 = 0
      · rw [if_pos f]
        simp only [if_pos f]
        rfl
      · rw [if_neg f]
        simp only [if_neg f]
        rfl
    · rw [if_neg (fun q => d q.2), (rdO_n (z := T (i + gL G w))).mpr (by omega)]
      cases rdO (rdF G n k T i w) <;> rfl
  · rw [if_neg (fun q => c q.1), if_neg c]
    cases rdO (rdF G n k T i w) <;> rfl
theorem rd_w {G : GG} {n : Nat} {k : Nat → Nat} {T : Nat → Nat × Nat × Nat} {i : Nat} (h : ∀ j, i < j → j ≤ n → isD (rdO (T j)) (pa G n k j n)) (hV : GV G) : ∀ w, w ≤ gWo G → isD (rdO (rdF G n k T i w)) (fun s => ∃ v, v < w ∧ hW G n k v i = true ∧ gMn G v ≤ s ∧ pa G n k (i + gL G v) n (s - gMn G v))
  | 0, _ => idN_ (fun s ⟨v, q, _⟩ => by omega)
  | w + 1, hw => by
    rw [rdF_o]
    have ih := rd_w h hV w (by omega)
    obtain ⟨vLi, v0, vPl, vWe, vOd, vKi, vWo, vRo, vPe, vWt, vAc, vIn, vWa, vL, vMn, vW, vA, vB, vAB, vLd, vCr, vN, vK, vWg, vPc, vSt, vD⟩ := hV
    have hl := vL w (by omega)
    have one : isD (rdw G n k T i w) (fun s => hW G n k w i = true ∧ gMn G w ≤ s ∧ pa G n k (i + gL G w) n (s - gMn G w)) := by
      unfold rdw
      by_cases c : hW G n k w i = true
      · rw [if_pos c]
        have a3 := (hW_iff.mp c).1
        exact idC_ (idA_ (h (i + gL G w) (by omega) a3) (gMn G w)) (fun s => ⟨fun q => ⟨c, q⟩, fun q => q.2⟩)
      · rw [if_neg c]
        exact idN_ (fun s q => c q.1)
    refine idC_ (idM_ ih one) (fun s => ⟨fun q => ?_, fun ⟨v, q1, q2⟩ => ?_⟩)
    · rcases q with ⟨v, q1, q2⟩ | q
      · exact ⟨v, by omega, q2⟩
      · exact ⟨w, by omega, q⟩
    · by_cases e : v = w
      · subst e; exact Or.inr q2
      · exact Or.inl ⟨v, by omega, q2⟩
theorem rd_is {G : GG} {n : Nat} {k : Nat → Nat} (hV : GV G) : ∀ d, d ≤ n → ∀ j, n - d ≤ j → j ≤ n → isD (rdO (rdT G n k d j)) (pa G n k j n)
  | 0, _, j, h1, h2 => by
    obtain rfl : j = n := by omega
    exact idS_ (pa_0 _) (fun s _ => Nat.zero_le _)
  | d + 1, hd, j, h1, h2 => by
    have ih := rd_is (n := n) (k := k) hV d (by omega)
    rw [rdT]
    by_cases c : j = n - (d + 1)
    · have e : (fun j => if j = n - (d + 1) then rdF G n k (rdT G n k d) j (gWo G) else rdT G n k d j) j = rdF G n k (rdT G n k d) j (gWo G) := if_pos c
      rw [e]
      refine idC_ (rd_w (i := j) (fun j' a b => ih j' (by omega) b) hV (gWo G) (Nat.le_refl _)) (fun s => ⟨fun ⟨v, q1, q2, q3, q4⟩ => pa_w q1 q2 q3 q4, fun q => ?_⟩)
      rcases pa_i q with ⟨e, _⟩ | q
      · omega
      · exact q
    · have e : (fun j => if j = n - (d + 1) then rdF G n k (rdT G n k d) j (gWo G) else rdT G n k d j) j = rdT G n k d j := if_neg c
      rw [e]
      exact ih j (by omega) h2
/-- one knot changed -/
def upK (k : Nat → Nat) (p c : Nat) : Nat → Nat := fun i => if i = p then c else k i
theorem hW_lo {G : GG} {n w f p c : Nat} {k : Nat → Nat} (h : p < f ∨ f + gL G w ≤ p) : hW G n (upK k p c) w f = true ↔ hW G n k w f = true := by
  have e : ∀ j, j < gL G w → upK k p c (f + j) = k (f + j) := fun j hj => if_neg (by omega)
  rw [hW_iff, hW_iff]
  exact ⟨fun q => ⟨q.1, fun j hj => by rw [← e j hj]; exact q.2 j hj⟩, fun q => ⟨q.1, fun j hj => by rw [e j hj]; exact q.2 j hj⟩⟩
theorem hW_at {G : GG} {n w f p c : Nat} {k : Nat → Nat} (h1 : f ≤ p) (h2 : p < f + gL G w) : hW G n (upK k p c) w f = true ↔ (f + gL G w ≤ n ∧ (∀ j, j < gL G w → (f + j = p ∨ k (f + j) = gW G w j)) ∧ gW G w (p - f) = c) := by
  rw [hW_iff]
  refine ⟨fun q => ⟨q.1, fun j hj => ?_, ?_⟩, fun ⟨q1, q2, q3⟩ => ⟨q1, fun j hj => ?_⟩⟩
  · by_cases e : f + j = p
    · exact Or.inl e
    · have := q.2 j hj
      rw [show upK k p c (f + j) = k (f + j) from if_neg e] at this
      exact Or.inr this
  · have := q.2 (p - f) (by omega)
    rw [show upK k p c (f + (p - f)) = c from if_pos (by omega)] at this
    exact this.symm
  · by_cases e : f + j = p
    · rw [show upK k p c (f + j) = c from if_pos e, ← q3, show p - f = j by omega]
    · rw [show upK k p c (f + j) = k (f + j) from if_neg e]
      rcases q2 j hj with z | z
      · exact absurd z e
      · exact z
theorem pa_lo {G : GG} {n p c : Nat} {k : Nat → Nat} (hV : GV G) {i j s : Nat} (h : j ≤ p ∨ p < i) : pa G n (upK k p c) i j s ↔ pa G n k i j s := by
  have key : ∀ (a b : Nat → Nat), (∀ w f, (p < f ∨ f + gL G w ≤ p) → hW G n a w f = true → hW G n b w f = true) → ∀ ws i s, (j ≤ p ∨ p < i) → pt G n a ws i j s → pt G n b ws i j s := by
    intro a b hab ws
    induction ws with
    | nil => intro i s _ h; exact h
    | cons w ws ih =>
      intro i s hij ⟨q1, q2, q3, q4⟩
      have le := (pa_b hV ⟨ws, q4⟩).1
      exact ⟨q1, hab w i (by omega) q2, q3, ih _ _ (by omega) q4⟩
  constructor
  · intro ⟨ws, q⟩
    exact ⟨ws, key _ _ (fun w f hf => (hW_lo hf).mp) ws i s h q⟩
  · intro ⟨ws, q⟩
    exact ⟨ws, key _ _ (fun w f hf => (hW_lo hf).mpr) ws i s h q⟩
/-- the word over a place -/
theorem pa_over {G : GG} {n : Nat} {k : Nat → Nat} (hV : GV G) {i j p s : Nat} (h1 : i ≤ p) (h2 : p < j) (h : pa G n k i j s) : ∃ f w a b, w < gWo G ∧ f ≤ p ∧ p < f + gL G w ∧ hW G n k w f = true ∧ pa G n k i f a ∧ pa G n k (f + gL G w) j b ∧ s = a + gMn G w + b := by
  obtain ⟨ws, h⟩ := h
  induction ws generalizing i s with
  | nil => have := h.1; omega
  | cons w ws ih =>
    obtain ⟨q1, q2, q3, q4⟩ := h
    by_cases c : p < i + gL G w
    · exact ⟨i, w, 0, s - gMn G w, q1, h1, c, q2, pa_0 _, ⟨ws, q4⟩, by omega⟩
    · obtain ⟨f, v, a, b, r1, r2, r3, r4, r5, r6, r7⟩ := ih (by omega) q4
      refine ⟨f, v, gMn G w + a, b, r1, r2, r3, r4, pa_w q1 q2 (by omega) ?_, r6, by omega⟩
      rw [show gMn G w + a - gMn G w = a by omega]
      exact r5
/-- the words W (and of W those that begin less than I ahead of p), laid over the place p, a knot c there -/
def ovP (G : GG) (n : Nat) (k : Nat → Nat) (p c W I s : Nat) : Prop := ∃ w f a b, (w < W ∨ (w = W ∧ p - f < I)) ∧ w < gWo G ∧ f ≤ p ∧ p < f + gL G w ∧ hW G n (upK k p c) w f = true ∧ pa G n k 0 f a ∧ pa G n k (f + gL G w) n b ∧ s = a + gMn G w + b
theorem ovP_all {G : GG} {n : Nat} {k : Nat → Nat} (hV : GV G) {p c : Nat} (hp : p < n) (s : Nat) : ovP G n k p c (gWo G) 0 s ↔ pa G n (upK k p c) 0 n s := by
  constructor
  · intro ⟨w, f, a, b, q1, q2, q3, q4, q5, q6, q7, q8⟩
    have z1 := (pa_lo (c := c) hV (Or.inl q3)).mpr q6
    have z2 := (pa_lo (c := c) hV (Or.inr q4)).mpr q7
    rw [q8]
    exact pa_cat (pa_cat z1 (pa_1 q2 q5)) z2
  · intro h
    obtain ⟨f, w, a, b, q1, q2, q3, q4, q5, q6, q7⟩ := pa_over hV (Nat.zero_le p) hp h
    exact ⟨w, f, a, b, Or.inl q1, q1, q2, q3, q4, (pa_lo hV (Or.inl q2)).mp q5, (pa_lo hV (Or.inr q3)).mp q6, q7⟩
/-- the ways to j whose last word begins ahead of f, or at f and is less than w -/
def ahP (G : GG) (n : Nat) (k : Nat → Nat) (f w j s : Nat) : Prop := (j = 0 ∧ s = 0) ∨ ∃ f' w', (f' < f ∨ (f' = f ∧ w' < w)) ∧ w' < gWo G ∧ hW G n k w' f' = true ∧ f' + gL G w' = j ∧ gMn G w' ≤ s ∧ pa G n k 0 f' (s - gMn G w')
theorem ahP_pa {G : GG} {n : Nat} {k : Nat → Nat} (hV : GV G) {f w j s : Nat} (h : j ≤ f) : ahP G n k f w j s ↔ pa G n k 0 j s := by
  obtain ⟨vLi, v0, vPl, vWe, vOd, vKi, vWo, vRo, vPe, vWt, vAc, vIn, vWa, vL, vMn, vW, vA, vB, vAB, vLd, vCr, vN, vK, vWg, vPc, vSt, vD⟩ := hV
  constructor
  · intro q
    rcases q with ⟨rfl, rfl⟩ | ⟨f', w', q1, q2, q3, q4, q5, q6⟩
    · exact pa_0 _
    · have := pa_cat q6 (pa_1 q2 q3)
      rw [q4, show s - gMn G w' + gMn G w' = s by omega] at this
      exact this
  · intro q
    rcases pa_s q with ⟨e1, e2⟩ | ⟨f', w', q1, q2, q3, q4, q5⟩
    · exact Or.inl ⟨e1.symm, e2⟩
    · have := vL w' q1
      exact Or.inr ⟨f', w', Or.inl (by omega), q1, q2, q3, q4, q5⟩
theorem ahP_w {G : GG} {n : Nat} {k : Nat → Nat} {f j s : Nat} : ahP G n k f (gWo G) j s ↔ ahP G n k (f + 1) 0 j s := by
  constructor
  · intro q
    rcases q with q | ⟨f', w', q1, q2⟩
    · exact Or.inl q
    · exact Or.inr ⟨f', w', Or.inl (by omega), q2⟩
  · intro q
    rcases q with q | ⟨f', w', q1, q2⟩
    · exact Or.inl q
    · refine Or.inr ⟨f', w', ?_, q2⟩
      have := q2.1
      omega
/-- the table of slips -/
def slT (G : GG) (n : Nat) (k : Nat → Nat) (p c : Nat) : Option Nat := rdO (rdT G n (upK k p c) n 0)
theorem slT_is {G : GG} {n : Nat} {k : Nat → Nat} (hV : GV G) {p c : Nat} : isD (slT G n k p c) (pa G n (upK k p c) 0 n) := rd_is hV n (Nat.le_refl _) 0 (by omega) (by omega)
theorem slT_b {G : GG} {n : Nat} {k : Nat → Nat} (hV : GV G) {p c v : Nat} (h : slT G n k p c = some v) : v ≤ 99 * n := by
  have := (pa_b hV ((slT_is hV).1 v h)).2.1
  omega
def slB (G : GG) (n : Nat) (k : Nat → Nat) (p c : Nat) : Bool := decide (c ≠ k p ∧ slT G n k p c ≠ none)
theorem slB_t {G : GG} {n : Nat} {k : Nat → Nat} {p c : Nat} : slB G n k p c = true ↔ (c ≠ k p ∧ slT G n k p c ≠ none) := by unfold slB; exact decide_eq_true_iff
def slN (G : GG) (n : Nat) (k : Nat → Nat) (p : Nat) : Nat → Nat
  | 0 => 0
  | c + 1 => slN G n k p c + if slB G n k p c = true then 1 else 0
theorem slN_le (G : GG) (n : Nat) (k : Nat → Nat) (p : Nat) : ∀ c, slN G n k p c ≤ c
  | 0 => Nat.le_refl _
  | c + 1 => by
    have := slN_le G n k p c
    rw [slN]
    split <;> omega
def slA (G : GG) (n : Nat) (k : Nat → Nat) : Nat → Nat
  | 0 => 0
  | p + 1 => slA G n k p + slN G n k p (gKi G)
theorem slA_le {G : GG} {n : Nat} {k : Nat → Nat} (hV : GV G) : ∀ p, slA G n k p ≤ 6 * p
  | 0 => Nat.le_refl _
  | p + 1 => by
    have := slA_le (n := n) (k := k) hV p
    have := slN_le G n k p (gKi G)
    rw [slA]
    obtain ⟨vLi, v0, vPl, vWe, vOd, vKi, vWo, vRo, vPe, vWt, vAc, vIn, vWa, vL, vMn, vW, vA, vB, vAB, vLd, vCr, vN, vK, vWg, vPc, vSt, vD⟩ := hV
    omega
theorem slA_ge {G : GG} {n : Nat} {k : Nat → Nat} : ∀ m p, p < m → slN G n k p (gKi G) ≤ slA G n k m
  | 0, p, h => by omega
  | m + 1, p, h => by
    rw [slA]
    by_cases e : p = m
    · subst e; omega
    · have := slA_ge (G := G) (n := n) (k := k) m p (by omega)
      omega
def spF (G : GG) (n : Nat) (k : Nat → Nat) : Nat → Int32
  | 0 => 0
  | p + 1 => if 0 < slN G n k p (gKi G) then spF G n k p ||| ((1 : Int32) <<< (nI p &&& 31)) else spF G n k p
/-- feel: the place, and what is left at worst -/
def flW (G : GG) (n : Nat) (k : Nat → Nat) (t p : Nat) : Nat := max (min (slN G n k p (gKi G)) 1) (t - slN G n k p (gKi G))
def flF (G : GG) (n : Nat) (k : Nat → Nat) (t : Nat) : Nat → Int32 × Nat
  | 0 => (-1, t)
  | p + 1 => if flW G n k t p < (flF G n k t p).2 then (nI p, flW G n k t p) else flF G n k t p
theorem flF_le (G : GG) (n : Nat) (k : Nat → Nat) (t : Nat) : ∀ p, (flF G n k t p).2 ≤ t
  | 0 => Nat.le_refl _
  | p + 1 => by
    have := flF_le G n k t p
    rw [flF]
    by_cases c : flW G n k t p < (flF G n k t p).2
    · rw [if_pos c]; show flW G n k t p ≤ t; omega
    · rw [if_neg c]; exact this
def slS (G : GG) (n : Nat) (k : Nat → Nat) : Nat := slA G n k n + (if (rdT G n k n 0).1 = 0 then 0 else 1)
/-- forged: by how much, and the place and kind as one number -/
def fgD (a b : Nat) : Nat := (a - b) + (b - a)
def fgV (G : GG) (n : Nat) (k : Nat → Nat) (q : Nat) : Nat := fgD ((slT G n k (q / 6) (q % 6)).getD 0) ((rdO (rdT G n k n 0)).getD 0)
def fgF (G : GG) (n : Nat) (k : Nat → Nat) : Nat → Option (Nat × Nat)
  | 0 => none
  | q + 1 => if q % 6 < gKi G ∧ slB G n k (q / 6) (q % 6) = true then (match fgF G n k q with
    | none => some (fgV G n k q, q)
    | some (v, a) => if v < fgV G n k q then some (fgV G n k q, q) else some (v, a)) else fgF G n k q
theorem fgF_b {G : GG} {n : Nat} {k : Nat → Nat} : ∀ q v a, fgF G n k q = some (v, a) → a < q ∧ v = fgV G n k a
  | 0, v, a, h => absurd h (by simp [fgF])
  | q + 1, v, a, h => by
    unfold fgF at h
    by_cases c : q % 6 < gKi G ∧ slB G n k (q / 6) (q % 6) = true
    · rw [if_pos c] at h
      cases e : fgF G n k q with
      | none =>
        rw [e] at h
        have h : fgV G n k q = v ∧ q = a := by simpa using h
        obtain ⟨h1, h2⟩ := h
        subst h2
        exact ⟨by omega, h1.symm⟩
      | some y =>
        obtain ⟨u, b⟩ := y
        rw [e] at h
        have h : (if u < fgV G n k q then some (fgV G n k q, q) else some (u, b)) = some (v, a) := h
        by_cases d : u < fgV G n k q
        · rw [if_pos d] at h
          have h : fgV G n k q = v ∧ q = a := by simpa using h
          obtain ⟨h1, h2⟩ := h
          subst h2
          exact ⟨by omega, h1.symm⟩
        · rw [if_neg d] at h
          have h : u = v ∧ b = a := by simpa using h
          obtain ⟨h1, h2⟩ := h
          subst h1 h2
          have := fgF_b q u b e
          exact ⟨by omega, this.2⟩
    · rw [if_neg c] at h
      have := fgF_b q v a h
      exact ⟨by omega, this.2⟩
theorem fgF_skip {G : GG} {n : Nat} {k : Nat → Nat} {p : Nat} : ∀ t, gKi G + t ≤ 6 → fgF G n k (6 * p + gKi G + t) = fgF G n k (6 * p + gKi G)
  | 0, _ => rfl
  | t + 1, h => by
    show fgF G n k (6 * p + gKi G + t + 1) = _
    rw [fgF, if_neg (by omega), fgF_skip t (by omega)]
theorem fgV_b {G : GG} {n : Nat} {k : Nat → Nat} (hV : GV G) (hn : n ≤ 24) (q : Nat) : fgV G n k q ≤ 99 * 24 := by
  unfold fgV fgD
  have h1 : (slT G n k (q / 6) (q % 6)).getD 0 ≤ 99 * 24 := by
    cases e : slT G n k (q / 6) (q % 6) with
    | none => exact Nat.zero_le _
    | some v => have := slT_b hV e; show v ≤ 99 * 24; omega
  have h2 : (rdO (rdT G n k n 0)).getD 0 ≤ 99 * 24 := by
    cases e : rdO (rdT G n k n 0) with
    | none => exact Nat.zero_le _
    | some v =>
      have := (pa_b hV ((rd_is (k := k) hV n (Nat.le_refl _) 0 (by omega) (by omega)).1 v e)).2.1
      show v ≤ 99 * 24; omega
  omega
