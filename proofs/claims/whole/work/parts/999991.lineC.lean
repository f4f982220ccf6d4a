/-! GORGE: the class's lines -/
def dsc (g : Nat) (P : GG) (a j : Nat) : Prop := (a = g ∧ j < 8) ∨ ((a = g + 1 ∨ a = g + 2) ∧ j < P.1 4) ∨ (a = g + 4 ∧ j < P.1 5) ∨ ((a = g + 6 ∨ a = g + 7 ∨ a = g + 8) ∧ j < P.1 7) ∨ (g + 11 ≤ a ∧ a < g + 11 + 2 * P.1 5) ∨ (g + 31 ≤ a ∧ a < g + 31 + 5 * P.1 6)
def C0 (M : kr_M) (g : Nat) (P : GG) : Prop := ∀ j, j < 8 → M.1 g j = nI (P.1 j)
def C1 (M : kr_M) (g : Nat) (P : GG) : Prop := ∀ k, k < P.1 4 → M.1 (g + 1) k = nI (P.2.1 0 k) ∧ M.1 (g + 2) k = nI (P.2.1 1 k)
def C2 (M : kr_M) (g : Nat) (P : GG) : Prop := ∀ w, w < P.1 5 → M.1 (g + 11 + 2 * w) 1 = nI (P.2.1 2 w) ∧ M.1 (g + 4) w = nI (P.2.1 3 w) ∧ ∀ i, i < P.2.1 2 w → M.1 (g + 12 + 2 * w) i = nI (P.2.2 0 w i)
def C3 (M : kr_M) (g : Nat) (P : GG) : Prop := ∀ r, r < P.1 6 → M.1 (g + 31 + 5 * r) 0 = nI (P.2.1 4 r) ∧ M.1 (g + 31 + 5 * r) 1 = nI (P.2.1 5 r) ∧ M.1 (g + 31 + 5 * r) 2 = nI (P.2.1 6 r) ∧ M.1 (g + 32 + 5 * r) 1 = nI (P.2.1 7 r) ∧ ∀ i, i < P.2.1 7 r → M.1 (g + 33 + 5 * r) i = nI (P.2.2 1 r i)
def C4 (M : kr_M) (g : Nat) (P : GG) : Prop := ∀ p, p < P.1 7 → M.1 (g + 6) p = nI (P.2.1 9 p) ∧ M.1 (g + 7) p = nI (P.2.1 10 p) ∧ M.1 (g + 8) p = nI (P.2.1 11 p)
def CPg (M : kr_M) (g : Nat) (P : GG) : Prop := C0 M g P ∧ C1 M g P ∧ C2 M g P ∧ C3 M g P ∧ C4 M g P
theorem C1.fr {M M' : kr_M} {g : Nat} {P : GG} (h : C1 M g P) (hd : ∀ a j, dsc g P a j → ¬ a = g → M'.1 a j = M.1 a j) : C1 M' g P := fun k hk => by
  rw [hd (g + 1) k (by unfold dsc; omega) (by omega), hd (g + 2) k (by unfold dsc; omega) (by omega)]; exact h k hk
theorem C2.fr {M M' : kr_M} {g : Nat} {P : GG} (h : C2 M g P) (hd : ∀ a j, dsc g P a j → ¬ a = g → M'.1 a j = M.1 a j) : C2 M' g P := fun w hw => by
  obtain ⟨h1, h2, h3⟩ := h w hw
  refine ⟨?_, ?_, fun i hi => ?_⟩
  · rw [hd _ _ (by unfold dsc; omega) (by omega)]; exact h1
  · rw [hd _ _ (by unfold dsc; omega) (by omega)]; exact h2
  · rw [hd _ _ (by unfold dsc; omega) (by omega)]; exact h3 i hi
theorem C3.fr {M M' : kr_M} {g : Nat} {P : GG} (h : C3 M g P) (hd : ∀ a j, dsc g P a j → ¬ a = g → M'.1 a j = M.1 a j) : C3 M' g P := fun r hr => by
  obtain ⟨h1, h2, h3, h4, h5⟩ := h r hr
  refine ⟨?_, ?_, ?_, ?_, fun i hi => ?_⟩
  · rw [hd _ _ (by unfold dsc; omega) (by omega)]; exact h1
  · rw [hd _ _ (by unfold dsc; omega) (by omega)]; exact h2
  · rw [hd _ _ (by unfold dsc; omega) (by omega)]; exact h3
  · rw [hd _ _ (by unfold dsc; omega) (by omega)]; exact h4
  · rw [hd _ _ (by unfold dsc; omega) (by omega)]; exact h5 i hi
theorem C4.fr {M M' : kr_M} {g : Nat} {P : GG} (h : C4 M g P) (hd : ∀ a j, dsc g P a j → ¬ a = g → M'.1 a j = M.1 a j) : C4 M' g P := fun p hp => by
  obtain ⟨h1, h2, h3⟩ := h p hp
  refine ⟨?_, ?_, ?_⟩
  · rw [hd _ _ (by unfold dsc; omega) (by omega)]; exact h1
  · rw [hd _ _ (by unfold dsc; omega) (by omega)]; exact h2
  · rw [hd _ _ (by unfold dsc; omega) (by omega)]; exact h3
/-- cells of a line: the tape's, those beyond what was told, one count -/
def lfX (g : Nat) (P : GG) (c a j : Nat) : Prop := (a = 1 ∧ 2 ≤ j ∧ j ≤ 7) ∨ (g ≤ a ∧ a ≤ g + 60 ∧ ¬ dsc g P a j) ∨ (a = g ∧ j = c)
theorem lf_tp {M M' : kr_M} {g c : Nat} {P : GG} (h : Fx tpX M M') : Fx (lfX g P c) M M' := h.mono (fun a j q => Or.inl q)
theorem lf_d {M M' : kr_M} {g c : Nat} {P : GG} (hg : 3 ≤ g) (h : Fx (lfX g P c) M M') : ∀ a j, dsc g P a j → ¬ a = g → M'.1 a j = M.1 a j := fun a j h1 h2 => h.1 a j (fun q => by
  rcases q with q | q | q
  · unfold dsc at h1; omega
  · exact q.2.2 h1
  · exact h2 q.1)
theorem lf_0 {M M' : kr_M} {g c : Nat} {P : GG} (hg : 3 ≤ g) (h : Fx (lfX g P c) M M') : ∀ j, j < 8 → j ≠ c → M'.1 g j = M.1 g j := fun j h1 h2 => h.1 g j (fun q => by
  rcases q with q | q | q
  · omega
  · exact q.2.2 (by unfold dsc; omega)
  · exact h2 q.2)
theorem CPg.fx {M M' : kr_M} {g : Nat} {P : GG} (hg : 3 ≤ g) (h : CPg M g P) (hf : Fx (lfX g P 8) M M') : CPg M' g P := by
  obtain ⟨h0, h1, h2, h3, h4⟩ := h
  have hd := lf_d hg hf
  exact ⟨fun j hj => by rw [lf_0 hg hf j hj (by omega)]; exact h0 j hj, h1.fr hd, h2.fr hd, h3.fr hd, h4.fr hd⟩
theorem TC.lf {M M' : kr_M} {b : Nat → Int32} {n g c : Nat} {P : GG} (hg : 3 ≤ g) (h : TC M b n) (hf : Fx (lfX g P c) M M') : TC M' b n := h.fx hf (fun q => by rcases q with q | q | q <;> omega) (fun j q => by rcases q with q | q | q <;> omega)
theorem St.cg {M M' : kr_M} {b : Nat → Int32} {n : Nat} {σ : SG} (h : St M b n σ) (h1 : ∀ j, M'.1 1 j = M.1 1 j) : St M' b n σ := by
  obtain ⟨o, s⟩ := σ
  cases o with
  | none =>
    obtain ⟨a1, a2, a3, a4, a5, a6, a7⟩ := h
    exact ⟨by rw [h1]; exact a1, by rw [h1]; exact a2, a3, by rw [h1]; exact a4, by rw [h1]; exact a5, by rw [h1]; exact a6, by rw [h1]; exact a7⟩
  | some e =>
    obtain ⟨a1, a2, a3, a4, a5⟩ := h
    refine ⟨by rw [h1]; exact a1, a2, a3, by rw [h1]; exact a4, ?_⟩
    rcases a5 with q | ⟨s', q1, q2, q3, q4, q5⟩
    · exact Or.inl (by rw [h1]; exact q)
    · exact Or.inr ⟨s', q1, by rw [h1]; exact q2, by rw [h1]; exact q3, by rw [h1]; exact q4, by rw [h1]; exact q5⟩
theorem St.si {M : kr_M} {b : Nat → Int32} {n : Nat} {σ : SG} (h : St M b n σ) {a k : Nat} (z : Int32) (ha : a ≠ 1) : St (kr_si M a k z) b n σ := h.cg (fun j => by rw [kg_si, if_neg (fun q => ha q.1.symm)])
/-- after a line, with a fault or without: the ropes have their texts -/
def Cq (M : kr_M) (g : Nat) : Prop := ∃ (ro : Nat) (tn : Nat → Nat), ro ≤ 6 ∧ M.1 g 6 = nI ro ∧ ∀ r, r < ro → M.1 (g + 31 + 5 * r + 1) 1 = nI (tn r) ∧ tn r ≤ 12
theorem Cq_of {M M' : kr_M} {g c : Nat} {P : GG} (hg : 3 ≤ g) (hc : c ≠ 6) (h : CPg M g P) (hV : PV P) (hf : Fx (lfX g P c) M M') : Cq M' g := by
  obtain ⟨v0, v1, v2, v3, v4, v5, v6, vk, vw, vr, vp, vd⟩ := hV
  refine ⟨P.1 6, fun r => P.2.1 7 r, v5, by rw [lf_0 hg hf 6 (by omega) (by omega)]; exact h.1 6 (by omega), fun r hr => ⟨?_, (vr r hr).2.2.2.2.2.2.1⟩⟩
  rw [show g + 31 + 5 * r + 1 = g + 32 + 5 * r by omega, lf_d hg hf _ _ (by unfold dsc; omega) (by omega)]
  exact (h.2.2.2.1 r hr).2.2.2.1
/-! the additions -/
theorem CPg.addK {M M' : kr_M} {g x y : Nat} {P : GG} (hg : 3 ≤ g) (h : CPg M g P) (hf : Fx (lfX g P 4) M M') (e : M'.1 g 4 = nI (P.1 4 + 1)) (e1 : M'.1 (g + 1) (P.1 4) = nI x) (e2 : M'.1 (g + 2) (P.1 4) = nI y) : CPg M' g (u1 (u2 (u2 P 0 (P.1 4) x) 1 (P.1 4) y) 4 (P.1 4 + 1)) := by
  obtain ⟨h0, h1, h2, h3, h4⟩ := h
  have hd := lf_d hg hf
  have o1 := h1.fr hd
  refine ⟨fun j hj => ?_, fun k hk => ?_, h2.fr hd, h3.fr hd, h4.fr hd⟩
  · by_cases c : j = 4
    · subst c; exact e
    · simp only [u1, u2, if_neg c]
      rw [lf_0 hg hf j hj c]; exact h0 j hj
  · have hk : k < P.1 4 + 1 := hk
    by_cases c : k = P.1 4
    · simp [u1, u2, c, e1, e2]
    · have := o1 k (by omega)
      simp [u1, u2, c, this]
theorem CPg.addW {M M' : kr_M} {g m y : Nat} {f : Nat → Nat} {P : GG} (hg : 3 ≤ g) (h : CPg M g P) (hf : Fx (lfX g P 5) M M') (e : M'.1 g 5 = nI (P.1 5 + 1)) (e1 : M'.1 (g + 11 + 2 * P.1 5) 1 = nI m) (e2 : M'.1 (g + 4) (P.1 5) = nI y) (e3 : ∀ i, i < m → M'.1 (g + 12 + 2 * P.1 5) i = nI (f i)) : CPg M' g (u1 (u2 (u2 (u3 P 0 (P.1 5) f) 2 (P.1 5) m) 3 (P.1 5) y) 5 (P.1 5 + 1)) := by
  obtain ⟨h0, h1, h2, h3, h4⟩ := h
  have hd := lf_d hg hf
  have o2 := h2.fr hd
  refine ⟨fun j hj => ?_, h1.fr hd, fun w hw => ?_, h3.fr hd, h4.fr hd⟩
  · by_cases c : j = 5
    · subst c; exact e
    · simp only [u1, u2, u3, if_neg c]
      rw [lf_0 hg hf j hj c]; exact h0 j hj
  · have hw : w < P.1 5 + 1 := hw
    by_cases c : w = P.1 5
    · simp [u1, u2, u3, c, e1, e2]
      exact e3
    · obtain ⟨q1, q2, q3⟩ := o2 w (by omega)
      simp [u1, u2, u3, c, q1, q2]
      exact q3
theorem CPg.addR {M M' : kr_M} {g m x1 x2 x3 : Nat} {f : Nat → Nat} {P : GG} (hg : 3 ≤ g) (h : CPg M g P) (hf : Fx (lfX g P 6) M M') (e : M'.1 g 6 = nI (P.1 6 + 1)) (e1 : M'.1 (g + 31 + 5 * P.1 6) 0 = nI x1) (e2 : M'.1 (g + 31 + 5 * P.1 6) 1 = nI x2) (e3 : M'.1 (g + 31 + 5 * P.1 6) 2 = nI x3) (e4 : M'.1 (g + 32 + 5 * P.1 6) 1 = nI m) (e5 : ∀ i, i < m → M'.1 (g + 33 + 5 * P.1 6) i = nI (f i)) : CPg M' g (u1 (u2 (u2 (u2 (u2 (u3 P 1 (P.1 6) f) 7 (P.1 6) m) 4 (P.1 6) x1) 5 (P.1 6) x2) 6 (P.1 6) x3) 6 (P.1 6 + 1)) := by
  obtain ⟨h0, h1, h2, h3, h4⟩ := h
  have hd := lf_d hg hf
  have o3 := h3.fr hd
  refine ⟨fun j hj => ?_, h1.fr hd, h2.fr hd, fun r hr => ?_, h4.fr hd⟩
  · by_cases c : j = 6
    · subst c; exact e
    · simp only [u1, u2, u3, if_neg c]
      rw [lf_0 hg hf j hj c]; exact h0 j hj
  · have hr : r < P.1 6 + 1 := hr
    by_cases c : r = P.1 6
    · simp [u1, u2, u3, c, e1, e2, e3, e4]
      exact e5
    · obtain ⟨q1, q2, q3, q4, q5⟩ := o3 r (by omega)
      simp [u1, u2, u3, c, q1, q2, q3, q4]
      exact q5
theorem CPg.addP {M M' : kr_M} {g x1 x2 x3 : Nat} {P : GG} (hg : 3 ≤ g) (h : CPg M g P) (hf : Fx (lfX g P 7) M M') (e : M'.1 g 7 = nI (P.1 7 + 1)) (e1 : M'.1 (g + 6) (P.1 7) = nI x1) (e2 : M'.1 (g + 7) (P.1 7) = nI x2) (e3 : M'.1 (g + 8) (P.1 7) = nI x3) : CPg M' g (u1 (u2 (u2 (u2 P 9 (P.1 7) x1) 10 (P.1 7) x2) 11 (P.1 7) x3) 7 (P.1 7 + 1)) := by
  obtain ⟨h0, h1, h2, h3, h4⟩ := h
  have hd := lf_d hg hf
  have o4 := h4.fr hd
  refine ⟨fun j hj => ?_, h1.fr hd, h2.fr hd, h3.fr hd, fun p hp => ?_⟩
  · by_cases c : j = 7
    · subst c; exact e
    · simp only [u1, u2, if_neg c]
      rw [lf_0 hg hf j hj c]; exact h0 j hj
  · have hp : p < P.1 7 + 1 := hp
    by_cases c : p = P.1 7
    · simp [u1, u2, c, e1, e2, e3]
    · obtain ⟨q1, q2, q3⟩ := o4 p (by omega)
      simp [u1, u2, c, q1, q2, q3]
/-! the knots -/
def txX (t a j : Nat) : Prop := (a = 1 ∧ 2 ≤ j ∧ j ≤ 7) ∨ (a = t ∧ j = 1) ∨ a = t + 1
theorem put_any {M : kr_M} {t z L : Nat} (e : M.1 t 1 = nI z) (hl : kr_len (t + 1) = L) (hz : z ≤ L) (hL : L ≤ 24) (x : Int32) : Wp (f_X7_put t x M) (fun M' => (∃ z', z' ≤ L ∧ M'.1 t 1 = nI z') ∧ (z < L → M'.1 t 1 = nI (z + 1) ∧ M'.1 (t + 1) z = x ∧ ∀ j, j < z → M'.1 (t + 1) j = M.1 (t + 1) j) ∧ Fx (fun a j => (a = t ∧ j = 1) ∨ a = t + 1) M M') := by
  by_cases c : z < L
  · rw [put_ok e hl c hL x]
    refine Wp_some ⟨⟨z + 1, by omega, by rw [kr_si_at]⟩, fun _ => ⟨by rw [kr_si_at], ?_, fun j hj => ?_⟩, ((Fx.refl M).si _ (Or.inr rfl)).si _ (Or.inl ⟨rfl, rfl⟩)⟩
    · rw [kg_si, if_neg (by omega), kr_si_at]
    · rw [kg_si, if_neg (by omega), kg_si, if_neg (by omega)]
  · unfold f_X7_put
    refine Wp_letI ?_; intro v ev
    rw [e] at ev
    subst ev
    rw [hl]
    exact Wp_t (nI_le (a := L) (by omega) (by omega)) (Wp_some ⟨⟨z, hz, e⟩, fun q => absurd q c, Fx.refl M⟩)
theorem kim1 {ki : Nat} (h : ki ≤ 1000) : (nI ki - 1).toInt = (ki : Int) - 1 := by
  have z1 : (1 : Int32).toInt = 1 := rfl
  have zn := nI_toInt (n := ki) (by omega)
  rw [kz_sub (by omega) (by omega), zn, z1]
theorem Wp_and {β : Type} {c : Option β} {P Q : β → Prop} (h1 : Wp c P) (h2 : Wp c Q) : Wp c (fun x => P x ∧ Q x) := by
  obtain ⟨x, e1, p⟩ := h1
  obtain ⟨y, e2, q⟩ := h2
  have : some x = some y := by rw [← e1, e2]
  have : x = y := by simpa using this
  subst this
  exact ⟨x, e1, p, q⟩
theorem n37_T {M : kr_M} (h : ¬ M.1 1 2 = 0) : Wp (f_X6_number_37 M) (fun x => x.2.1 1 4 = 0) := by
  unfold f_X6_number_37 f_X6_next
  refine Wp_letI ?_; intro v ev
  refine Wp_bv (fun M' => M'.1 1 4 = 0) ?_ (fun M' q => Wp_some q)
  refine Wp_letI ?_; intro v2 ev2
  refine Wp_f (by rw [← ev2]; exact h) ?_
  refine Wp_letI ?_; intro M4 e4
  exact Wp_some (by rw [← e4, kr_si_at])
theorem St_bad {M : kr_M} {b : Nat → Int32} {n k : Nat} {σ : SG} (h : St M b n (sFail k σ)) : ¬ M.1 1 2 = 0 := by
  obtain ⟨o, s⟩ := σ
  cases o with
  | none =>
    obtain ⟨h1, h2, h3, _⟩ := h
    rw [h1]; exact nI_ne0 (by omega) (by omega)
  | some e =>
    obtain ⟨h1, h2, h3, _⟩ := h
    rw [h1]; exact nI_ne0 (by omega) (by omega)
theorem k_numT {M : kr_M} {b : Nat → Int32} {n lo hi : Nat} {p2 : Int32} {σ : SG} (hlo : lo ≤ 1000) (hp : p2.toInt = (hi : Int) - 1) (h : St M b n σ) : Wp (f_X6_number (nI lo) p2 M) (fun x => (sNum b n lo hi σ).1 ≠ none → x.2.1 1 4 = 0) ∨ (sNum b n lo hi σ).1 = none := by
  have bl : ∀ k, 1 ≤ k ∧ k ≤ 3 → Wp (kr_bv (f_X6_blame (nI k) M) fun M1 => f_X6_number_37 M1) (fun x => x.2.1 1 4 = 0) := fun k hk => Wp_bv _ (k_blame hk h) (fun M1 q => n37_T (St_bad q.1))
  by_cases g : (sNum b n lo hi σ).1 = none
  · exact Or.inr g
  refine Or.inl (Wp_mono (P := fun x => x.2.1 1 4 = 0) ?_ (fun x q _ => q))
  have w32 : Wp (f_X6_number_32 M) (fun x => x.2.1 1 4 = 0) := by unfold f_X6_number_32; exact bl 2 (by omega)
  have w1 : Wp (kr_bv (f_X6_blame (1 : Int32) M) fun M1 => f_X6_number_37 M1) (fun x => x.2.1 1 4 = 0) := bl 1 (by omega)
  have w37 : σ.1 ≠ none → Wp (f_X6_number_37 M) (fun x => x.2.1 1 4 = 0) := fun q => n37_T (by
    obtain ⟨o, s⟩ := σ
    cases o with
    | none => exact absurd rfl q
    | some e => rw [h.1]; exact nI_ne0 (by have := h.2.1; omega) (by have := h.2.2.1; omega))
  unfold f_X6_number
  refine Wp_letI ?_; intro v ev
  refine Wp_c (fun e2 => ?_) (fun _ => w1)
  refine Wp_letI ?_; intro v3 ev3
  refine Wp_c (fun _ => w32) (fun e4 => ?_)
  refine Wp_letI ?_; intro v5 ev5
  refine Wp_c (fun e6 => ?_) (fun _ => w32)
  refine w37 (fun q => g ?_)
  obtain ⟨o, s⟩ := σ
  have q : o = none := q
  subst q
  obtain ⟨a1, a2, a3, a4, a5, a6, a7⟩ := h
  have kb := tk_b b n s
  have vb := tv_b b n s
  rw [← ev, a4] at e2
  have e2 : tk b n s = 2 := (nI_eq (b := 2) (by omega) (by omega)).mp e2
  rw [← ev3, a7, nI_ltI (by omega) (by omega)] at e4
  rw [← ev5, a7, kz_le, hp, nI_toInt (by omega)] at e6
  show (if tk b n s = 2 then (if lo ≤ tv b n s ∧ tv b n s < hi then ((none, nxt_ b n s) : SG) else (some (2, s), s)) else (some (1, s), s)).1 = none
  rw [if_pos e2, if_pos ⟨by omega, by omega⟩]
theorem k_numX {M : kr_M} {b : Nat → Int32} {n lo hi : Nat} {p2 : Int32} {σ : SG} (hT : TC M b n) (hlo : lo ≤ 1000) (hp : p2.toInt = (hi : Int) - 1) (h : St M b n σ) : Wp (f_X6_number (nI lo) p2 M) (fun x => St x.2 b n (sNum b n lo hi σ) ∧ Fx tpX M x.2 ∧ ((sNum b n lo hi σ).1 = none → x.1 = nI (tv b n σ.2)) ∧ ((sNum b n lo hi σ).1 ≠ none → x.2.1 1 4 = 0)) := by
  rcases k_numT hlo hp h with q | q
  · exact Wp_mono (Wp_and (k_num hT hlo hp h) q) (fun x ⟨⟨a1, a2, a3⟩, a4⟩ => ⟨a1, a2, a3, a4⟩)
  · exact Wp_mono (k_num hT hlo hp h) (fun x ⟨a1, a2, a3⟩ => ⟨a1, a2, a3, fun z => absurd q z⟩)
theorem kc_20 {M0 : kr_M} {b : Nat → Int32} {n t most ki s : Nat} (hl : kr_len (t + 1) = most) (hm : most ≤ 12) (hki : ki ≤ 6) (ht : 3 ≤ t) : ∀ d i σ M n', d + i = most + 1 → 1 ≤ i → d < n' → TC M b n → St M b n σ → (σ.1 = none → i ≤ most ∧ σ.2 = nxs b n s i ∧ M.1 t 1 = nI i ∧ ∀ j, j < i → M.1 (t + 1) j = nI (tv b n (nxs b n s j))) → (σ.1 ≠ none → M.1 1 4 = 0) → (∃ z, z ≤ most ∧ M.1 t 1 = nI z) → Fx (txX t) M0 M → Wp (f_X6_knots_20 t (nI most) (nI ki) n' (nI i) M) (fun M' => St M' b n (knF b n most ki d i σ).1 ∧ ((knF b n most ki d i σ).1.1 = none → M'.1 t 1 = nI (knF b n most ki d i σ).2 ∧ ∀ j, j < (knF b n most ki d i σ).2 → M'.1 (t + 1) j = nI (tv b n (nxs b n s j))) ∧ (∃ z, z ≤ most ∧ M'.1 t 1 = nI z) ∧ ((knF b n most ki d i σ).1.1 ≠ none → M'.1 1 4 = 0) ∧ Fx (txX t) M0 M') := by
  intro d
  induction d with
  | zero =>
    intro i σ M n' h1 h2 h3 hT hS hG hB hz hF
    obtain ⟨m', rfl⟩ : ∃ m', n' = m' + 1 := ⟨n' - 1, by omega⟩
    rw [f_X6_knots_20]
    refine Wp_t ((nI_ltI (by omega) (by omega)).mpr (by omega)) (Wp_some ⟨hS, fun q => ?_, hz, hB, hF⟩)
    have := (hG q).1
    omega
  | succ d ih =>
    intro i σ M n' h1 h2 h3 hT hS hG hB hz hF
    obtain ⟨m', rfl⟩ : ∃ m', n' = m' + 1 := ⟨n' - 1, by omega⟩
    rw [f_X6_knots_20]
    refine Wp_f (fun q => by have := (nI_ltI (by omega) (by omega)).mp q; omega) ?_
    obtain ⟨o, p⟩ := σ
    cases o with
    | some e =>
      rw [knF_b]
      have h := hS
      obtain ⟨a1, a2, a3, a4, a5⟩ := h
      refine Wp_letI ?_; intro v ev
      rw [a1] at ev
      subst ev
      exact Wp_t (nI_ne0 (by omega) (by omega)) (Wp_some ⟨hS, fun q => absurd q (by simp), hz, fun _ => hB (by simp), hF⟩)
    | none =>
      have h := hS
      obtain ⟨a1, a2, a3, a4, a5, a6, a7⟩ := h
      obtain ⟨g1, g2, g3, g4⟩ := hG rfl
      have kb := tk_b b n p
      have vb := tv_b b n p
      refine Wp_letI ?_; intro v ev
      rw [a1] at ev
      subst ev
      refine Wp_f (fun q => q rfl) ?_
      refine Wp_letI ?_; intro v ev
      rw [a4] at ev
      subst ev
      rw [knF]
      by_cases c : tk b n p = 2
      · rw [if_pos (show ((none, p) : SG).1 = none ∧ tk b n ((none, p) : SG).2 = 2 from ⟨rfl, c⟩)]
        refine Wp_f (fun q => q (by rw [c]; rfl)) ?_
        have go : ∀ M1 τ, τ = knC b n most ki i (none, p) → TC M1 b n → St M1 b n τ → Fx tpX M M1 → Wp (f_X6_knots_60 (f_X6_knots_20 t (nI most) (nI ki) m') t (nI ki) (nI i) M1) (fun M' => St M' b n (knF b n most ki d (i + 1) (sNum b n 0 ki (knC b n most ki i (none, p)))).1 ∧ ((knF b n most ki d (i + 1) (sNum b n 0 ki (knC b n most ki i (none, p)))).1.1 = none → M'.1 t 1 = nI (knF b n most ki d (i + 1) (sNum b n 0 ki (knC b n most ki i (none, p)))).2 ∧ ∀ j, j < (knF b n most ki d (i + 1) (sNum b n 0 ki (knC b n most ki i (none, p)))).2 → M'.1 (t + 1) j = nI (tv b n (nxs b n s j))) ∧ (∃ z, z ≤ most ∧ M'.1 t 1 = nI z) ∧ ((knF b n most ki d (i + 1) (sNum b n 0 ki (knC b n most ki i (none, p)))).1.1 ≠ none → M'.1 1 4 = 0) ∧ Fx (txX t) M0 M') := fun M1 τ hτ hT1 hS1 hF1 => by
          unfold f_X6_knots_60
          refine Wp_bi _ (k_numX (lo := 0) (hi := ki) hT1 (by omega) (kim1 (by omega)) hS1) (fun r M2 ⟨q1, q2, q3, q4⟩ => ?_)
          have hf2 := hF1.trans q2
          have e2 : M2.1 t 1 = nI i := by rw [hf2.1 t 1 (fun q => by have q : t = 1 ∧ 2 ≤ 1 ∧ 1 ≤ 7 := q; omega)]; exact g3
          have e3 : ∀ j, M2.1 (t + 1) j = M.1 (t + 1) j := fun j => hf2.1 (t + 1) j (fun q => by have q : t + 1 = 1 ∧ 2 ≤ j ∧ j ≤ 7 := q; omega)
          refine Wp_bv _ (put_any e2 hl g1 (by omega) r) (fun M3 ⟨r1, r2, r3⟩ => ?_)
          have q1' : St M2 b n (sNum b n 0 ki τ) := q1
          rw [hτ] at q1'
          rw [L_1, nI_add]
          have hS3 : St M3 b n (sNum b n 0 ki (knC b n most ki i (none, p))) := q1'.cg (fun j => r3.1 1 j (fun q => by rcases q with q | q <;> omega))
          have hF3 : Fx (txX t) M M3 := (hf2.mono (fun a j q => Or.inl q)).trans (r3.mono (fun a j q => Or.inr q))
          refine ih (i + 1) _ M3 m' (by omega) (by omega) (by omega) (hT.fx hF3 (fun q => by rcases q with q | q | q <;> omega) (fun j q => by rcases q with q | q | q <;> omega)) hS3 (fun gq => ?_) (fun gq => ?_) r1 (hF.trans hF3)
          rotate_left
          · rw [r3.1 1 4 (fun q => by rcases q with q | q <;> omega)]
            have q4 : (sNum b n 0 ki τ).1 ≠ none → M2.1 1 4 = 0 := q4
            rw [hτ] at q4
            exact q4 gq
          obtain ⟨s1, s2, s3, s4⟩ := kn_step (s := s) (fun _ => g2) gq
          obtain ⟨t1, t2, t3⟩ := r2 (by omega)
          refine ⟨by omega, s3, t1, fun j hj => ?_⟩
          by_cases e : j = i
          · rw [e, t2]
            have k0 := (knC_g (sNum_g gq).1).1
            have q3 : (sNum b n 0 ki τ).1 = none → r = nI (tv b n τ.2) := q3
            rw [hτ] at q3
            rw [q3 gq, k0]
            show nI (tv b n p) = nI (tv b n (nxs b n s i))
            rw [show p = nxs b n s i from g2]
          · rw [t3 j (by omega), e3]; exact g4 j (by omega)
        by_cases c2 : i = most
        · refine Wp_f (fun q => q (by rw [c2])) ?_
          refine Wp_letI ?_; intro v ev
          rw [a7] at ev
          subst ev
          by_cases c3 : tv b n p < ki
          · refine Wp_f (nI_ge c3 (by omega)) ?_
            refine Wp_bv _ (k_blame (k := 3) (by omega) hS) (fun M1 ⟨q1, q2⟩ => ?_)
            refine go M1 _ ?_ (hT.tp q2) q1 q2
            unfold knC
            rw [if_pos ⟨c2, c3⟩]
          · refine Wp_t (nI_le (by omega) (by omega)) (go M _ ?_ hT hS (Fx.refl M))
            unfold knC
            rw [if_neg (fun q => c3 q.2)]
        · refine Wp_t (fun q => c2 ((nI_eq (by omega) (by omega)).mp q)) (go M _ ?_ hT hS (Fx.refl M))
          unfold knC
          rw [if_neg (fun q => c2 q.1)]
      · have cn : ¬ (((none, p) : SG).1 = none ∧ tk b n ((none, p) : SG).2 = 2) := fun q => c q.2
        rw [if_neg cn]
        refine Wp_t (fun q => c ((nI_eq (b := 2) (by omega) (by omega)).mp q)) (Wp_some ⟨hS, fun _ => ⟨g3, g4⟩, hz, fun q => absurd rfl q, hF⟩)
theorem kc_ok {M : kr_M} {b : Nat → Int32} {n t most ki : Nat} {σ : SG} (hl : kr_len (t + 1) = most) (hm : most ≤ 12) (hm1 : 1 ≤ most) (hki : ki ≤ 6) (ht : 3 ≤ t) (hT : TC M b n) (hS : St M b n σ) : Wp (f_X6_knots t (nI most) (nI ki) M) (fun M' => St M' b n (knS b n most ki σ).1 ∧ ((knS b n most ki σ).1.1 = none → M'.1 t 1 = nI (knS b n most ki σ).2 ∧ ∀ j, j < (knS b n most ki σ).2 → M'.1 (t + 1) j = nI (tv b n (nxs b n σ.2 j))) ∧ (∃ z, z ≤ most ∧ M'.1 t 1 = nI z) ∧ ((knS b n most ki σ).1.1 ≠ none → M'.1 1 4 = 0) ∧ Fx (txX t) M M') := by
  unfold f_X6_knots knS
  refine Wp_letI ?_; intro M1 e1
  have f1 : Fx (txX t) M M1 := by rw [← e1]; exact (Fx.refl M).si _ (Or.inr (Or.inl ⟨rfl, rfl⟩))
  have hT1 : TC M1 b n := hT.fx f1 (fun q => by rcases q with q | q | q <;> omega) (fun j q => by rcases q with q | q | q <;> omega)
  have hS1 : St M1 b n σ := by rw [← e1]; exact hS.si _ (by omega)
  refine Wp_bi _ (k_numX (lo := 0) (hi := ki) hT1 (by omega) (kim1 (by omega)) hS1) (fun r M2 ⟨q1, q2, q3, q4⟩ => ?_)
  have e2 : M2.1 t 1 = nI 0 := by rw [q2.1 t 1 (fun q => by have q : t = 1 ∧ 2 ≤ 1 ∧ 1 ≤ 7 := q; omega), ← e1, kr_si_at]; rfl
  refine Wp_bv _ (put_any e2 hl (by omega) (by omega) r) (fun M3 ⟨r1, r2, r3⟩ => ?_)
  have f3 : Fx (txX t) M M3 := (f1.trans (q2.mono (fun a j q => Or.inl q))).trans (r3.mono (fun a j q => Or.inr q))
  have hS3 : St M3 b n (sNum b n 0 ki σ) := St.cg q1 (fun j => r3.1 1 j (fun q => by rcases q with q | q <;> omega))
  refine kc_20 (M0 := M) (s := σ.2) hl hm hki ht most 1 _ M3 kr_F (by omega) (by omega) (kr_F_gt _ (by omega)) (hT.fx f3 (fun q => by rcases q with q | q | q <;> omega) (fun j q => by rcases q with q | q | q <;> omega)) hS3 (fun gq => ?_) (fun gq => ?_) r1 f3
  rotate_left
  · rw [r3.1 1 4 (fun q => by rcases q with q | q <;> omega)]
    exact q4 gq
  obtain ⟨t1, t2, t3⟩ := r2 (by omega)
  refine ⟨hm1, by rw [sNum_s gq]; rfl, t1, fun j hj => ?_⟩
  obtain rfl : j = 0 := by omega
  rw [t2]
  exact q3 gq
