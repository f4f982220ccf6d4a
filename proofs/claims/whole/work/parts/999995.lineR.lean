/-! GORGE: the reference's lines -/
def x4 (a j : Nat) : Prop := (a = 352 ∧ j = 4) ∨ (a = 353 ∧ 32 ≤ j ∧ j < 40) ∨ ((a = 354 ∨ a = 355) ∧ 24 ≤ j ∧ j < 30) ∨ ((a = 356 ∨ a = 357) ∧ 40 ≤ j ∧ j < 50) ∨ (a = 358 ∧ 160 ≤ j ∧ j < 200) ∨ (a = 359 ∧ 96 ≤ j ∧ j < 120) ∨ (a = 360 ∧ 288 ≤ j ∧ j < 360) ∨ (a = 361 ∧ 72 ≤ j ∧ j < 90)
def dsr (P : GG) (a j : Nat) : Prop := (a = 352 ∧ j = 4) ∨ (a = 353 ∧ 32 ≤ j ∧ j < 40) ∨ ((a = 354 ∨ a = 355) ∧ 24 ≤ j ∧ j < 24 + P.1 4) ∨ ((a = 356 ∨ a = 357) ∧ 40 ≤ j ∧ j < 40 + P.1 5) ∨ (a = 358 ∧ 160 ≤ j ∧ j < 160 + 4 * P.1 5) ∨ (a = 359 ∧ 96 ≤ j ∧ j < 96 + 4 * P.1 6) ∨ (a = 360 ∧ 288 ≤ j ∧ j < 288 + 12 * P.1 6) ∨ (a = 361 ∧ 72 ≤ j ∧ j < 72 + 3 * P.1 7)
def R0 (M : kr_M) (P : GG) : Prop := M.1 352 4 = nI (P.1 0) ∧ (∀ j, j < 7 → M.1 353 (32 + j) = nI (P.1 (j + 1))) ∧ M.1 353 39 = 0
def R1 (M : kr_M) (P : GG) : Prop := ∀ k, k < P.1 4 → M.1 354 (24 + k) = nI (P.2.1 0 k) ∧ M.1 355 (24 + k) = nI (P.2.1 1 k)
def R2 (M : kr_M) (P : GG) : Prop := ∀ w, w < P.1 5 → M.1 356 (40 + w) = nI (P.2.1 2 w) ∧ M.1 357 (40 + w) = nI (P.2.1 3 w) ∧ ∀ i, i < P.2.1 2 w → M.1 358 (160 + 4 * w + i) = nI (P.2.2 0 w i)
def R3 (M : kr_M) (P : GG) : Prop := ∀ r, r < P.1 6 → M.1 359 (96 + 4 * r) = nI (P.2.1 4 r) ∧ M.1 359 (96 + 4 * r + 1) = nI (P.2.1 5 r) ∧ M.1 359 (96 + 4 * r + 2) = nI (P.2.1 6 r) ∧ M.1 359 (96 + 4 * r + 3) = nI (P.2.1 7 r) ∧ ∀ i, i < P.2.1 7 r → M.1 360 (288 + 12 * r + i) = nI (P.2.2 1 r i)
def R4 (M : kr_M) (P : GG) : Prop := ∀ p, p < P.1 7 → M.1 361 (72 + 3 * p) = nI (P.2.1 9 p) ∧ M.1 361 (72 + 3 * p + 1) = nI (P.2.1 10 p) ∧ M.1 361 (72 + 3 * p + 2) = nI (P.2.1 11 p)
def RPg (M : kr_M) (P : GG) : Prop := R0 M P ∧ R1 M P ∧ R2 M P ∧ R3 M P ∧ R4 M P
/-- the cells of a line -/
def rfX (P : GG) (c a j : Nat) : Prop := (a = 346 ∧ 7 ≤ j ∧ j ≤ 13) ∨ (x4 a j ∧ ¬ dsr P a j) ∨ (a = 353 ∧ j = c ∧ c < 40)
theorem rf_d {M M' : kr_M} {c : Nat} {P : GG} (h : Fw (rfX P c) M M') : ∀ a j, dsr P a j → ¬ (a = 353 ∧ j = c) → M'.1 a j = M.1 a j := fun a j h1 h2 => h.1 a j (fun q => by
  rcases q with q | q | q
  · unfold dsr at h1; omega
  · exact q.2 h1
  · exact h2 ⟨q.1, q.2.1⟩)
theorem R1.fr {M M' : kr_M} {c : Nat} {P : GG} (h : R1 M P) (hf : Fw (rfX P c) M M') : R1 M' P := fun k hk => by
  rw [rf_d hf _ _ (by unfold dsr; omega) (by omega), rf_d hf _ _ (by unfold dsr; omega) (by omega)]; exact h k hk
theorem R2.fr {M M' : kr_M} {c : Nat} {P : GG} (h : R2 M P) (hv : ∀ w, w < P.1 5 → P.2.1 2 w ≤ 4) (hf : Fw (rfX P c) M M') : R2 M' P := fun w hw => by
  obtain ⟨h1, h2, h3⟩ := h w hw
  have := hv w hw
  refine ⟨?_, ?_, fun i hi => ?_⟩
  · rw [rf_d hf _ _ (by unfold dsr; omega) (by omega)]; exact h1
  · rw [rf_d hf _ _ (by unfold dsr; omega) (by omega)]; exact h2
  · rw [rf_d hf _ _ (by unfold dsr; omega) (by omega)]; exact h3 i hi
theorem R3.fr {M M' : kr_M} {c : Nat} {P : GG} (h : R3 M P) (hv : ∀ r, r < P.1 6 → P.2.1 7 r ≤ 12) (hf : Fw (rfX P c) M M') : R3 M' P := fun r hr => by
  obtain ⟨h1, h2, h3, h4, h5⟩ := h r hr
  have := hv r hr
  refine ⟨?_, ?_, ?_, ?_, fun i hi => ?_⟩
  · rw [rf_d hf _ _ (by unfold dsr; omega) (by omega)]; exact h1
  · rw [rf_d hf _ _ (by unfold dsr; omega) (by omega)]; exact h2
  · rw [rf_d hf _ _ (by unfold dsr; omega) (by omega)]; exact h3
  · rw [rf_d hf _ _ (by unfold dsr; omega) (by omega)]; exact h4
  · rw [rf_d hf _ _ (by unfold dsr; omega) (by omega)]; exact h5 i hi
theorem R4.fr {M M' : kr_M} {c : Nat} {P : GG} (h : R4 M P) (hf : Fw (rfX P c) M M') : R4 M' P := fun p hp => by
  obtain ⟨h1, h2, h3⟩ := h p hp
  refine ⟨?_, ?_, ?_⟩
  · rw [rf_d hf _ _ (by unfold dsr; omega) (by omega)]; exact h1
  · rw [rf_d hf _ _ (by unfold dsr; omega) (by omega)]; exact h2
  · rw [rf_d hf _ _ (by unfold dsr; omega) (by omega)]; exact h3
theorem PV_w {P : GG} (hV : PV P) : (∀ w, w < P.1 5 → P.2.1 2 w ≤ 4) ∧ ∀ r, r < P.1 6 → P.2.1 7 r ≤ 12 := by
  obtain ⟨v0, v1, v2, v3, v4, v5, v6, vk, vw, vr, vp, vd⟩ := hV
  exact ⟨fun w hw => (vw w hw).2.1, fun r hr => (vr r hr).2.2.2.2.2.2.1⟩
theorem RPg.fx {M M' : kr_M} {P : GG} (hV : PV P) (h : RPg M P) (hf : Fw (rfX P 40) M M') : RPg M' P := by
  obtain ⟨⟨h0, h0a, h0b⟩, h1, h2, h3, h4⟩ := h
  obtain ⟨w1, w2⟩ := PV_w hV
  refine ⟨⟨?_, fun j hj => ?_, ?_⟩, h1.fr hf, h2.fr w1 hf, h3.fr w2 hf, h4.fr hf⟩
  · rw [rf_d hf _ _ (by unfold dsr; omega) (by omega)]; exact h0
  · rw [rf_d hf _ _ (by unfold dsr; omega) (by omega)]; exact h0a j hj
  · rw [rf_d hf _ _ (by unfold dsr; omega) (by omega)]; exact h0b
theorem rf_rn {M M' : kr_M} {c : Nat} {P : GG} (h : Fw rnX M M') : Fw (rfX P c) M M' := h.mono (fun a j q => Or.inl q)
theorem rf_4 {c a j : Nat} {P : GG} (h : rfX P 40 a j) : rfX P c a j := by
  rcases h with q | q | q
  · exact Or.inl q
  · exact Or.inr (Or.inl q)
  · omega
theorem TR.rf {M M' : kr_M} {b : Nat → Int32} {n c : Nat} {P : GG} (h : TR M b n) (hf : Fw (rfX P c) M M') : TR M' b n := h.fz hf (fun q => by unfold rfX x4 at q; omega) (fun j q => by unfold rfX x4 at q; omega)
theorem Sr.cg {M M' : kr_M} {b : Nat → Int32} {n : Nat} {σ : SG} (h : Sr M b n σ) (h1 : ∀ j, M'.1 346 j = M.1 346 j) (h2 : M'.2.1 346 = M.2.1 346) : Sr M' b n σ := by
  obtain ⟨o, s⟩ := σ
  cases o with
  | none =>
    obtain ⟨a1, a2, a3, a4, a5, ⟨u, a6, a7⟩, a8⟩ := h
    exact ⟨by rw [h1]; exact a1, a2, by rw [h1]; exact a3, by rw [h1]; exact a4, by rw [h1]; exact a5, ⟨u, by rw [h1]; exact a6, a7⟩, fun q l hl => by rw [h2]; exact a8 q l hl⟩
  | some e =>
    obtain ⟨a1, a2, a3, a4⟩ := h
    exact ⟨by rw [h1]; exact a1, a2, a3, by rw [h1]; exact a4⟩
theorem Sr.si {M : kr_M} {b : Nat → Int32} {n : Nat} {σ : SG} (h : Sr M b n σ) {a k : Nat} (z : Int32) (ha : a ≠ 346) : Sr (kr_si M a k z) b n σ := h.cg (fun j => by rw [kg_si, if_neg (fun q => ha q.1.symm)]) rfl
/-- a write beyond what was told -/
theorem rf_si {M M' : kr_M} {P : GG} {a k : Nat} (h : Fw (rfX P 40) M M') (z : Int32) (h1 : x4 a k) (h2 : ¬ dsr P a k) : Fw (rfX P 40) M (kr_si M' a k z) := h.si _ (Or.inr (Or.inl ⟨h1, h2⟩))
/-- a count -/
theorem rf_cn {M M' : kr_M} {P : GG} {c : Nat} (hc : c < 40) (h : Fw (rfX P 40) M M') (z : Int32) : Fw (rfX P c) M (kr_si M' 353 c z) := (h.mono (fun a j q => rf_4 q)).si _ (Or.inr (Or.inr ⟨rfl, rfl, hc⟩))
def rX (a j : Nat) : Prop := (a = 346 ∧ 7 ≤ j ∧ j ≤ 13) ∨ x4 a j
theorem rf_x {M M' : kr_M} {P : GG} {c : Nat} (hc : 32 ≤ c ∧ c < 40) (h : Fw (rfX P c) M M') : Fw rX M M' := h.mono (fun a j q => by
  rcases q with q | q | q
  · exact Or.inl q
  · exact Or.inr q.1
  · exact Or.inr (by unfold x4; omega))
def RQ (M : kr_M) (b : Nat → Int32) (n : Nat) (z : GG × SG) (M' : kr_M) : Prop := Sr M' b n z.2 ∧ (z.2.1 = none → RPg M' z.1) ∧ Fw rX M M'
theorem hR_ok {M : kr_M} {P : GG} {j : Nat} (h : RPg M P) (hj : j < 7) : f_X12_hasRead (nI j) M = some (nI (P.1 (j + 1)), M) := by
  apply Wp_eq
  unfold f_X12_hasRead
  rw [show (32 : Int32) + nI j = nI (32 + j) from nI_add 32 j]
  refine Wp_t ((kin_I (by omega)).mpr (by omega)) ?_
  refine Wp_letI ?_; intro v ev
  rw [nI_clamp (by omega), h.1.2.1 j hj] at ev
  subst ev
  exact Wp_some rfl
theorem tl_ok {M : kr_M} {j : Nat} (hj : j < 8) (z : Int32) : f_X12_tells (nI j) z M = some (kr_si M 353 (32 + j) z) := by
  apply Wp_eq
  unfold f_X12_tells
  rw [show (32 : Int32) + nI j = nI (32 + j) from nI_add 32 j]
  refine Wp_t ((kin_I (by omega)).mpr (by omega)) ?_
  refine Wp_letI ?_; intro M1 e1
  rw [nI_clamp (by omega)] at e1
  subst e1
  exact Wp_some rfl
/-! the additions -/
theorem R0.add {M M' : kr_M} {P : GG} {c v : Nat} (h : R0 M P) (hc : 1 ≤ c ∧ c < 8) (hf : Fw (rfX P (31 + c)) M M') (e : M'.1 353 (31 + c) = nI v) : ∀ P', P'.1 = (u1 P c v).1 → R0 M' P' := by
  intro P' hP
  obtain ⟨h0, h1, h2⟩ := h
  unfold R0
  rw [hP]
  refine ⟨?_, fun j hj => ?_, ?_⟩
  · rw [rf_d hf _ _ (by unfold dsr; omega) (by omega), h0]
    simp only [u1, if_neg (show ¬ 0 = c by omega)]
  · by_cases k : j + 1 = c
    · rw [show 32 + j = 31 + c by omega, e, k, u1_p]
    · rw [rf_d hf _ _ (by unfold dsr; omega) (by omega), h1 j hj]
      simp only [u1, if_neg k]
  · rw [rf_d hf _ _ (by unfold dsr; omega) (by omega)]; exact h2
theorem RPg.addK {M M' : kr_M} {x y : Nat} {P : GG} (hV : PV P) (h : RPg M P) (hf : Fw (rfX P 35) M M') (e : M'.1 353 35 = nI (P.1 4 + 1)) (e1 : M'.1 354 (24 + P.1 4) = nI x) (e2 : M'.1 355 (24 + P.1 4) = nI y) : RPg M' (u1 (u2 (u2 P 0 (P.1 4) x) 1 (P.1 4) y) 4 (P.1 4 + 1)) := by
  obtain ⟨h0, h1, h2, h3, h4⟩ := h
  obtain ⟨w1, w2⟩ := PV_w hV
  have o1 := h1.fr hf
  refine ⟨h0.add (c := 4) (by omega) hf e _ rfl, fun k hk => ?_, h2.fr w1 hf, h3.fr w2 hf, h4.fr hf⟩
  have hk : k < P.1 4 + 1 := hk
  by_cases c : k = P.1 4
  · simp [u1, u2, c, e1, e2]
  · have := o1 k (by omega)
    simp [u1, u2, c, this]
theorem RPg.addW {M M' : kr_M} {m y : Nat} {f : Nat → Nat} {P : GG} (hV : PV P) (h : RPg M P) (hf : Fw (rfX P 36) M M') (e : M'.1 353 36 = nI (P.1 5 + 1)) (e1 : M'.1 356 (40 + P.1 5) = nI m) (e2 : M'.1 357 (40 + P.1 5) = nI y) (e3 : ∀ i, i < m → M'.1 358 (160 + 4 * P.1 5 + i) = nI (f i)) : RPg M' (u1 (u2 (u2 (u3 P 0 (P.1 5) f) 2 (P.1 5) m) 3 (P.1 5) y) 5 (P.1 5 + 1)) := by
  obtain ⟨h0, h1, h2, h3, h4⟩ := h
  obtain ⟨w1, w2⟩ := PV_w hV
  have o2 := h2.fr w1 hf
  refine ⟨h0.add (c := 5) (by omega) hf e _ rfl, h1.fr hf, fun w hw => ?_, h3.fr w2 hf, h4.fr hf⟩
  have hw : w < P.1 5 + 1 := hw
  by_cases c : w = P.1 5
  · simp [u1, u2, u3, c, e1, e2]
    exact e3
  · obtain ⟨q1, q2, q3⟩ := o2 w (by omega)
    simp [u1, u2, u3, c, q1, q2]
    exact q3
theorem RPg.addR {M M' : kr_M} {m x1 x2 x3 : Nat} {f : Nat → Nat} {P : GG} (hV : PV P) (h : RPg M P) (hf : Fw (rfX P 37) M M') (e : M'.1 353 37 = nI (P.1 6 + 1)) (e1 : M'.1 359 (96 + 4 * P.1 6) = nI x1) (e2 : M'.1 359 (96 + 4 * P.1 6 + 1) = nI x2) (e3 : M'.1 359 (96 + 4 * P.1 6 + 2) = nI x3) (e4 : M'.1 359 (96 + 4 * P.1 6 + 3) = nI m) (e5 : ∀ i, i < m → M'.1 360 (288 + 12 * P.1 6 + i) = nI (f i)) : RPg M' (u1 (u2 (u2 (u2 (u2 (u3 P 1 (P.1 6) f) 7 (P.1 6) m) 4 (P.1 6) x1) 5 (P.1 6) x2) 6 (P.1 6) x3) 6 (P.1 6 + 1)) := by
  obtain ⟨h0, h1, h2, h3, h4⟩ := h
  obtain ⟨w1, w2⟩ := PV_w hV
  have o3 := h3.fr w2 hf
  refine ⟨h0.add (c := 6) (by omega) hf e _ rfl, h1.fr hf, h2.fr w1 hf, fun r hr => ?_, h4.fr hf⟩
  have hr : r < P.1 6 + 1 := hr
  by_cases c : r = P.1 6
  · simp [u1, u2, u3, c, e1, e2, e3, e4]
    exact e5
  · obtain ⟨q1, q2, q3, q4, q5⟩ := o3 r (by omega)
    simp [u1, u2, u3, c, q1, q2, q3, q4]
    exact q5
theorem RPg.addP {M M' : kr_M} {x1 x2 x3 : Nat} {P : GG} (hV : PV P) (h : RPg M P) (hf : Fw (rfX P 38) M M') (e : M'.1 353 38 = nI (P.1 7 + 1)) (e1 : M'.1 361 (72 + 3 * P.1 7) = nI x1) (e2 : M'.1 361 (72 + 3 * P.1 7 + 1) = nI x2) (e3 : M'.1 361 (72 + 3 * P.1 7 + 2) = nI x3) : RPg M' (u1 (u2 (u2 (u2 P 9 (P.1 7) x1) 10 (P.1 7) x2) 11 (P.1 7) x3) 7 (P.1 7 + 1)) := by
  obtain ⟨h0, h1, h2, h3, h4⟩ := h
  obtain ⟨w1, w2⟩ := PV_w hV
  have o4 := h4.fr hf
  refine ⟨h0.add (c := 7) (by omega) hf e _ rfl, h1.fr hf, h2.fr w1 hf, h3.fr w2 hf, fun p hp => ?_⟩
  have hp : p < P.1 7 + 1 := hp
  by_cases c : p = P.1 7
  · simp [u1, u2, c, e1, e2, e3]
  · obtain ⟨q1, q2, q3⟩ := o4 p (by omega)
    simp [u1, u2, c, q1, q2, q3]
/-! the knots -/
theorem kind_ok {M : kr_M} {b : Nat → Int32} {n : Nat} {P : GG} {σ : SG} (hT : TR M b n) (hP : RPg M P) (h6 : P.1 4 ≤ 6) (h : Sr M b n σ) : Wp (f_X12_kindHere M) (fun x => Sr x.2 b n (sNum b n 0 (P.1 4) σ) ∧ Fw rnX M x.2 ∧ ((sNum b n 0 (P.1 4) σ).1 = none → x.1 = nI (tv b n σ.2))) := by
  unfold f_X12_kindHere
  rw [show f_X12_hasRead (3 : Int32) M = some (nI (P.1 4), M) from hR_ok (j := 3) hP (by omega)]
  refine Wp_bis ?_
  exact Wp_bi _ (q_num (lo := 0) (hi := P.1 4) hT (by omega) (by omega) (kim1 (by omega)) h) (fun z M2 q => Wp_some q)
theorem place_ok {M : kr_M} {b : Nat → Int32} {n : Nat} {P : GG} {σ : SG} (hT : TR M b n) (hP : RPg M P) (h6 : P.1 1 ≤ 6) (h : Sr M b n σ) : Wp (f_X12_placeHere M) (fun x => Sr x.2 b n (sNum b n 0 (P.1 1) σ) ∧ Fw rnX M x.2 ∧ ((sNum b n 0 (P.1 1) σ).1 = none → x.1 = nI (tv b n σ.2))) := by
  unfold f_X12_placeHere
  rw [show f_X12_hasRead (0 : Int32) M = some (nI (P.1 1), M) from hR_ok (j := 0) hP (by omega)]
  refine Wp_bis ?_
  exact Wp_bi _ (q_num (lo := 0) (hi := P.1 1) hT (by omega) (by omega) (kim1 (by omega)) h) (fun z M2 q => Wp_some q)
def knX (row base most a j : Nat) : Prop := (a = 346 ∧ 7 ≤ j ∧ j ≤ 13) ∨ (a = row ∧ base ≤ j ∧ j < base + most)
def krF (b : Nat → Int32) (n most ki i p : Nat) : SG × Nat := knF b n most ki (most - i) (i + 1) (sNum b n 0 ki (knC b n most ki i (none, p)))
theorem kr_3 {M0 : kr_M} {b : Nat → Int32} {n row base most s : Nat} {P : GG} (hV : PV P) (hro : row ≠ 346) (hl : base + most ≤ kr_len row) (hl2 : kr_len row ≤ 10000) (hm : 1 ≤ most ∧ most ≤ 12) (hx : ∀ j, base ≤ j → j < base + most → x4 row j ∧ ¬ dsr P row j) : ∀ n' i p M, i ≤ most → most - i < n' → TR M b n → Sr M b n (none, p) → p = nxs b n s i → (i = 0 ∨ tk b n p = 2) → RPg M P → (∀ j, j < i → M.1 row (base + j) = nI (tv b n (nxs b n s j))) → Fw (knX row base most) M0 M → Wp (f_X12_knotsTo_3 row (nI base) (nI most) n' (nI i) M) (fun x => Sr x.2 b n (krF b n most (P.1 4) i p).1 ∧ ((krF b n most (P.1 4) i p).1.1 = none → x.1 = nI (krF b n most (P.1 4) i p).2 ∧ ∀ j, j < (krF b n most (P.1 4) i p).2 → x.2.1 row (base + j) = nI (tv b n (nxs b n s j))) ∧ Fw (knX row base most) M0 x.2) := by
  have hV' := hV
  obtain ⟨v0, v1, v2, v3, v4, v5, v6, vk, vw, vr, vp, vd⟩ := hV'
  have kf : ∀ {A B : kr_M}, Fw (knX row base most) A B → Fw (rfX P 40) A B := fun h => h.mono (fun a j q => by
    rcases q with q | q
    · exact Or.inl q
    · obtain ⟨rfl, q1, q2⟩ := q
      exact Or.inr (Or.inl (hx j q1 q2)))
  intro n'
  induction n' with
  | zero => intro i p M h1 h2; omega
  | succ n' ih =>
    intro i p M h1 h2 hT hS hp hi hP hG hF
    rw [f_X12_knotsTo_3]
    have st := hS
    obtain ⟨a1, a2, a3, a4, a5, ⟨u, a6, a7, a8⟩, a9⟩ := st
    have kb := tk_b b n p
    have vb := tv_b b n p
    -- the rest, once it is settled whether there are too many
    have go : ∀ M1, Sr M1 b n (knC b n most (P.1 4) i (none, p)) → Fw rnX M M1 → Wp (f_X12_knotsTo_34 (f_X12_knotsTo_3 row (nI base) (nI most) n') row (nI base) (nI most) (nI i) M1) (fun x => Sr x.2 b n (krF b n most (P.1 4) i p).1 ∧ ((krF b n most (P.1 4) i p).1.1 = none → x.1 = nI (krF b n most (P.1 4) i p).2 ∧ ∀ j, j < (krF b n most (P.1 4) i p).2 → x.2.1 row (base + j) = nI (tv b n (nxs b n s j))) ∧ Fw (knX row base most) M0 x.2) := fun M1 hS1 f1 => by
      have fk1 : Fw (knX row base most) M M1 := f1.mono (fun a j q => Or.inl q)
      unfold f_X12_knotsTo_34
      refine Wp_bi _ (kind_ok (hT.rn f1) (hP.fx hV (kf fk1)) v3 hS1) (fun r2 M2 ⟨b1, b2, b3⟩ => ?_)
      have b1 : Sr M2 b n (sNum b n 0 (P.1 4) (knC b n most (P.1 4) i (none, p))) := b1
      have b3 : (sNum b n 0 (P.1 4) (knC b n most (P.1 4) i (none, p))).1 = none → r2 = nI (tv b n (knC b n most (P.1 4) i (none, p)).2) := b3
      have fk2 : Fw (knX row base most) M M2 := fk1.trans (b2.mono (fun a j q => Or.inl q))
      have kn := kn_step (b := b) (n := n) (most := most) (ki := P.1 4) (i := i) (s := s) (σ := (none, p)) (fun _ => hp)
      unfold krF
      generalize hτ : sNum b n 0 (P.1 4) (knC b n most (P.1 4) i (none, p)) = τ at *
      rw [q_good b1]
      refine Wp_bis ?_
      obtain ⟨o, p'⟩ := τ
      cases o with
      | some e =>
        rw [if_neg (show ¬ ((some e, p') : SG).1 = none by simp), knF_b]
        refine Wp_t rfl ?_
        unfold f_X12_knotsTo_61
        rw [q_good b1, if_neg (show ¬ ((some e, p') : SG).1 = none by simp)]
        exact Wp_bis (Wp_t rfl (Wp_some ⟨b1, fun q => absurd q (by simp), hF.trans fk2⟩))
      | none =>
        rw [if_pos (show ((none, p') : SG).1 = none from rfl)]
        refine Wp_f (by decide) ?_
        obtain ⟨k1, k2, k3, k4⟩ := kn rfl
        have k3 : p' = nxs b n s (i + 1) := k3
        refine Wp_f (nI_ge (by omega) (by omega)) ?_
        rw [nI_add]
        refine Wp_t ((kin_I (by omega)).mpr (by omega)) ?_
        refine Wp_letI ?_; intro M5 e5
        rw [nI_clamp (by omega)] at e5
        have kc := (knC_g (b := b) (n := n) (most := most) (ki := P.1 4) (i := i) (σ := (none, p)) (sNum_g (show (sNum b n 0 (P.1 4) (knC b n most (P.1 4) i (none, p))).1 = none by rw [hτ])).1).1
        have r2v : r2 = nI (tv b n (nxs b n s i)) := by
          rw [b3 rfl, kc, ← hp]
        have f5 : Fw (knX row base most) M M5 := by rw [← e5]; exact fk2.si _ (Or.inr ⟨rfl, by omega, by omega⟩)
        have hS5 : Sr M5 b n (none, p') := by rw [← e5]; exact Sr.si b1 _ hro
        have hG5 : ∀ j, j < i + 1 → M5.1 row (base + j) = nI (tv b n (nxs b n s j)) := fun j hj => by
          rw [← e5, kg_si]
          by_cases e : j = i
          · subst e; rw [if_pos ⟨rfl, rfl⟩]; exact r2v
          · rw [if_neg (by omega), b2.1 _ _ (fun q => hro q.1), f1.1 _ _ (fun q => hro q.1)]; exact hG j (by omega)
        unfold f_X12_knotsTo_61
        rw [q_good hS5, if_pos (show ((none, p') : SG).1 = none from rfl)]
        refine Wp_bis (Wp_f (by decide) ?_)
        refine Wp_letI ?_; intro v ev
        rw [hS5.2.2.1] at ev
        subst ev
        have kb' := tk_b b n p'
        obtain ⟨d, hd⟩ : ∃ d, most - i = d + 1 := ⟨most - i - 1, by omega⟩
        by_cases c : tk b n p' = 2
        · refine Wp_t (by rw [c]; rfl) ?_
          rw [show nI i + (1 : Int32) = nI (i + 1) by rw [L_1, nI_add]]
          have nx := ih (i + 1) p' M5 (by omega) (by omega) (hT.rf (kf f5)) hS5 k3 (Or.inr c) (hP.fx hV (kf f5)) hG5 (hF.trans f5)
          unfold krF at nx
          rw [hd, knF, if_pos (show ((none, p') : SG).1 = none ∧ tk b n ((none, p') : SG).2 = 2 from ⟨rfl, c⟩)]
          rw [show most - (i + 1) = d by omega] at nx
          exact nx
        · refine Wp_f (fun q => c ((nI_eq (b := 2) (by omega) (by omega)).mp q)) ?_
          have cn : ¬ (((none, p') : SG).1 = none ∧ tk b n ((none, p') : SG).2 = 2) := fun q => c q.2
          rw [hd, knF, if_neg cn]
          exact Wp_some ⟨hS5, fun _ => ⟨by rw [L_1, nI_add], hG5⟩, hF.trans f5⟩
    by_cases c : i = most
    · refine Wp_f (fun q => q (by rw [c])) ?_
      have tk2 : tk b n p = 2 := by
        rcases hi with q | q
        · omega
        · exact q
      refine Wp_letI ?_; intro v ev
      rw [a3] at ev
      subst ev
      refine Wp_f (fun q => q (by rw [tk2]; rfl)) ?_
      refine Wp_letI ?_; intro v ev
      rw [a6] at ev
      subst ev
      rw [show f_X12_hasRead (3 : Int32) M = some (nI (P.1 4), M) from hR_ok (j := 3) hP (by omega)]
      refine Wp_bis ?_
      by_cases c3 : tv b n p < P.1 4
      · refine Wp_f (nI_ge (by omega) (by omega)) ?_
        refine Wp_bv _ (q_fails (k := 3) (by omega) hS) (fun M5 ⟨q1, q2⟩ => go M5 ?_ q2)
        unfold knC
        rw [if_pos ⟨c, c3⟩]
        exact q1
      · refine Wp_t (nI_le (by omega) (by omega)) (go M ?_ (Fw.refl M))
        unfold knC
        rw [if_neg (fun q => c3 q.2)]
        exact hS
    · refine Wp_t (fun q => c ((nI_eq (by omega) (by omega)).mp q)) (go M ?_ (Fw.refl M))
      unfold knC
      rw [if_neg (fun q => c q.1)]
      exact hS
theorem krk_ok {M : kr_M} {b : Nat → Int32} {n row base most p : Nat} {P : GG} (hV : PV P) (hro : row ≠ 346) (hl : base + most ≤ kr_len row) (hl2 : kr_len row ≤ 10000) (hm : 1 ≤ most ∧ most ≤ 12) (hx : ∀ j, base ≤ j → j < base + most → x4 row j ∧ ¬ dsr P row j) (hT : TR M b n) (hS : Sr M b n (none, p)) (hP : RPg M P) : Wp (f_X12_knotsTo row (nI base) (nI most) M) (fun x => Sr x.2 b n (knS b n most (P.1 4) (none, p)).1 ∧ ((knS b n most (P.1 4) (none, p)).1.1 = none → x.1 = nI (knS b n most (P.1 4) (none, p)).2 ∧ ∀ j, j < (knS b n most (P.1 4) (none, p)).2 → x.2.1 row (base + j) = nI (tv b n (nxs b n p j))) ∧ Fw (rfX P 40) M x.2 ∧ Fw (knX row base most) M x.2) := by
  have e : krF b n most (P.1 4) 0 p = knS b n most (P.1 4) (none, p) := by
    unfold krF knS knC
    rw [if_neg (by omega), Nat.sub_zero]
  unfold f_X12_knotsTo
  have := kr_3 (M0 := M) (s := p) hV hro hl hl2 hm hx kr_F 0 p M (by omega) (kr_F_gt _ (by omega)) hT hS rfl (Or.inl rfl) hP (fun j hj => by omega) (Fw.refl M)
  rw [e] at this
  refine Wp_mono this (fun x ⟨q1, q2, q3⟩ => ⟨q1, q2, q3.mono (fun a j q => ?_), q3⟩)
  rcases q with q | q
  · exact Or.inl q
  · obtain ⟨rfl, y1, y2⟩ := q
    exact Or.inr (Or.inl (hx j y1 y2))
