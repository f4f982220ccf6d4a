/-! GORGE: the reference's lines, one by one -/
theorem room_n {w m : Int32} {M : kr_M} : f_X12_isRoom 0 w m M = some (0, M) := by
  apply Wp_eq
  unfold f_X12_isRoom f_X12_isRoom_18 f_X12_isRoom_33
  exact Wp_t rfl (Wp_t rfl (Wp_t rfl (Wp_some rfl)))
theorem room_33b {b : Nat → Int32} {n : Nat} {M : kr_M} {e : Nat × Nat} {s : Nat} (h : Sr M b n (some e, s)) : f_X12_isRoom_18 1 M = some (0, M) := by
  obtain ⟨h1, h2, h3, h4⟩ := h
  apply Wp_eq
  unfold f_X12_isRoom_18 f_X12_isRoom_33
  refine Wp_f (by decide) ?_
  refine Wp_letI ?_; intro v ev
  rw [h1] at ev
  subst ev
  refine Wp_t (nI_ne0 (by omega) (by omega)) ?_
  refine Wp_f (by decide) ?_
  refine Wp_letI ?_; intro v ev
  rw [h1] at ev
  subst ev
  exact Wp_t (nI_ne0 (by omega) (by omega)) (Wp_some rfl)
theorem room_f {b : Nat → Int32} {n s j m : Nat} {M : kr_M} {P : GG} (hP : RPg M P) (hj : j < 7) (hm : P.1 (j + 1) = m) (hS : Sr M b n (none, s)) : Wp (f_X12_isRoom 1 (nI j) (nI m) M) (fun x => x.1 = 0 ∧ Sr x.2 b n (some (3, s), s) ∧ Fw rnX M x.2) := by
  unfold f_X12_isRoom
  refine Wp_f (by decide) ?_
  rw [hR_ok hP hj]
  refine Wp_bis (Wp_f (fun q => q (by rw [hm])) ?_)
  refine Wp_bv _ (q_fails (k := 3) (by omega) hS) (fun M3 ⟨q1, q2⟩ => ?_)
  have q1 : Sr M3 b n (some (3, s), s) := q1
  rw [room_33b q1]
  exact Wp_some ⟨rfl, q1, q2⟩
theorem room_y {b : Nat → Int32} {n s j m : Nat} {M : kr_M} {P : GG} (hT : TR M b n) (hP : RPg M P) (hj : j < 7) (hb : P.1 (j + 1) < 2 ^ 31) (hb2 : m < 2 ^ 31) (hm : ¬ P.1 (j + 1) = m) (hS : Sr M b n (none, s)) : Wp (f_X12_isRoom 1 (nI j) (nI m) M) (fun x => x.1 = 1 ∧ Sr x.2 b n (none, nxt_ b n s) ∧ Fw rnX M x.2) := by
  unfold f_X12_isRoom
  refine Wp_f (by decide) ?_
  rw [hR_ok hP hj]
  refine Wp_bis (Wp_t (fun q => hm ((nI_eq hb hb2).mp q)) ?_)
  unfold f_X12_isRoom_18
  refine Wp_f (by decide) ?_
  refine Wp_letI ?_; intro v ev
  rw [hS.1] at ev
  subst ev
  refine Wp_f (fun q => q rfl) ?_
  refine Wp_bv _ (q_next hT hS) (fun M2 ⟨q1, q2⟩ => ?_)
  unfold f_X12_isRoom_33
  refine Wp_f (by decide) ?_
  refine Wp_letI ?_; intro v ev
  rw [q1.1] at ev
  subst ev
  exact Wp_f (fun q => q rfl) (Wp_some ⟨rfl, q1, q2⟩)
theorem c40 {a : Nat} : (40 : Int32) + nI a = nI (40 + a) := nI_add 40 a
theorem c24 {a : Nat} : (24 : Int32) + nI a = nI (24 + a) := nI_add 24 a
theorem c4m {a : Nat} : (4 : Int32) * nI a = nI (4 * a) := pk_mul 4 a
theorem c12m {a : Nat} : (12 : Int32) * nI a = nI (12 * a) := pk_mul 12 a
theorem c3m {a : Nat} : (3 : Int32) * nI a = nI (3 * a) := pk_mul 3 a
theorem inc {a : Nat} : nI a + (1 : Int32) = nI (a + 1) := nI_add a 1
theorem in2 {a : Nat} : nI a + (2 : Int32) = nI (a + 2) := nI_add a 2
theorem in3 {a : Nat} : nI a + (3 : Int32) = nI (a + 3) := nI_add a 3
/-- the end of a line: one more of its kind -/
theorem tell_1 {M M' : kr_M} {P : GG} {j : Nat} (hV : PV P) (hP : RPg M P) (hj : j < 7) (hf : Fw (rfX P 40) M M') {Q : kr_M → Prop} (h : Fw (rfX P (32 + j)) M (kr_si M' 353 (32 + j) (nI (P.1 (j + 1) + 1))) → Q (kr_si M' 353 (32 + j) (nI (P.1 (j + 1) + 1)))) : Wp (kr_bi (f_X12_hasRead (nI j) M') fun r M1 => kr_bv (f_X12_tells (nI j) (r + (1 : Int32)) M1) fun M3 => some M3) Q := by
  rw [hR_ok (hP.fx hV hf) hj]
  refine Wp_bis ?_
  rw [inc, tl_ok (by omega)]
  exact Wp_some (h (rf_cn (by omega) hf _))
theorem qc_K {M M3 : kr_M} {b : Nat → Int32} {n s : Nat} {P : GG} (hV : PV P) (hP : RPg M P) (hT : TR M b n) (c : ¬ P.1 4 = 6) (f3 : Fw rnX M M3) (hS : Sr M3 b n (none, nxt_ b n s)) : Wp (kr_bi (f_X12_hasRead (3 : Int32) M3) fun r13 M12 => kr_let (((24 : Int32) + r13)) fun v14 => kr_bi (f_X12_number_ (136645372 : Int64) (1 : Int32) (9 : Int32) M12) fun r16 M15 => (if kr_in v14 30 then kr_let (kr_si M15 354 v14.toNatClampNeg r16) (fun M17 => kr_bi (f_X12_number_ (456392 : Int64) (0 : Int32) (50 : Int32) M17) fun r19 M18 => (if kr_in v14 30 then kr_let (kr_si M18 355 v14.toNatClampNeg r19) (fun M20 => kr_bi (f_X12_hasRead (3 : Int32) M20) fun r22 M21 => kr_bv (f_X12_tells (3 : Int32) (r22 + (1 : Int32)) M21) fun M23 => some M23) else none)) else none)) (RQ M b n (lnK b n P (none, s))) := by
  have hV' := hV
  obtain ⟨v0, v1, v2, v3, v4, v5, v6, vk, vw, vr, vp, vd⟩ := hV'
  have g3 : Fw (rfX P 40) M M3 := rf_rn f3
  rw [show f_X12_hasRead (3 : Int32) M3 = some (nI (P.1 4), M3) from hR_ok (j := 3) (hP.fx hV g3) (by omega)]
  refine Wp_bis ?_
  refine Wp_letI ?_; intro v ev
  rw [c24] at ev
  subst ev
  refine Wp_bi _ (q_named (l := 5) (lo := 1) (hi := 10) (hT.rf g3) (by omega) rfl (by omega) (by omega) rfl hS) (fun r16 M15 ⟨b1, b2, b3⟩ => ?_)
  refine Wp_t ((kin_I (by omega)).mpr (by omega)) ?_
  refine Wp_letI ?_; intro M17 e17
  rw [nI_clamp (by omega)] at e17
  have g17 : Fw (rfX P 40) M M17 := by rw [← e17]; exact rf_si (g3.trans (rf_rn b2)) _ (by unfold x4; omega) (by unfold dsr; omega)
  have hS17 : Sr M17 b n (nmS b n 5 1 10 (sNext b n (none, s))) := by rw [← e17]; exact Sr.si b1 _ (by omega)
  refine Wp_bi _ (q_named (l := 6) (lo := 0) (hi := 51) (hT.rf g17) (by omega) rfl (by omega) (by omega) rfl hS17) (fun r19 M18 ⟨c1, c2, c3⟩ => ?_)
  refine Wp_t ((kin_I (by omega)).mpr (by omega)) ?_
  refine Wp_letI ?_; intro M20 e20
  rw [nI_clamp (by omega)] at e20
  have g20 : Fw (rfX P 40) M M20 := by rw [← e20]; exact rf_si (g17.trans (rf_rn c2)) _ (by unfold x4; omega) (by unfold dsr; omega)
  refine tell_1 (j := 3) hV hP (by omega) g20 (fun fe => ?_)
  unfold lnK
  rw [if_neg c]
  refine ⟨?_, fun gq => ?_, rf_x (by omega) fe⟩
  · rw [← e20]; exact (Sr.si c1 _ (by omega)).si _ (by omega)
  · have gq : (nmS b n 6 0 51 (nmS b n 5 1 10 (sNext b n (none, s)))).1 = none := gq
    refine RPg.addK hV hP fe (by rw [kr_si_at]) ?_ ?_
    · rw [kg_si, if_neg (by omega), ← e20, kg_si, if_neg (by omega), c2.1 _ _ (fun q => by have := q.1; omega), ← e17, kr_si_at]
      exact b3 (nmS_g gq).1
    · rw [kg_si, if_neg (by omega), ← e20, kr_si_at]
      exact c3 gq
theorem qc_P {M M3 : kr_M} {b : Nat → Int32} {n s : Nat} {P : GG} (hV : PV P) (hP : RPg M P) (hT : TR M b n) (c : ¬ P.1 7 = 6) (h1 : P.1 1 ≤ 6) (f3 : Fw rnX M M3) (hS : Sr M3 b n (none, nxt_ b n s)) : Wp (f_X12_personLine M3) (RQ M b n (lnQ b n P (none, s))) := by
  have hV' := hV
  obtain ⟨v0, v1, v2, v3, v4, v5, v6, vk, vw, vr, vp, vd⟩ := hV'
  have g3 : Fw (rfX P 40) M M3 := rf_rn f3
  unfold f_X12_personLine
  rw [show f_X12_hasRead (6 : Int32) M3 = some (nI (P.1 7), M3) from hR_ok (j := 6) (hP.fx hV g3) (by omega)]
  refine Wp_bis ?_
  refine Wp_letI ?_; intro v ev
  rw [c24, c3m, show 3 * (24 + P.1 7) = 72 + 3 * P.1 7 by omega] at ev
  subst ev
  refine Wp_bi _ (q_named (l := 14) (lo := 1) (hi := 1000) (hT.rf g3) (by omega) rfl (by omega) (by omega) rfl hS) (fun r5 M4 ⟨b1, b2, b3⟩ => ?_)
  refine Wp_t ((kin_I (by omega)).mpr (by omega)) ?_
  refine Wp_letI ?_; intro M6 e6
  rw [nI_clamp (by omega)] at e6
  have g6 : Fw (rfX P 40) M M6 := by rw [← e6]; exact rf_si (g3.trans (rf_rn b2)) _ (by unfold x4; omega) (by unfold dsr; omega)
  have hS6 : Sr M6 b n (nmS b n 14 1 1000 (sNext b n (none, s))) := by rw [← e6]; exact Sr.si b1 _ (by omega)
  refine Wp_bi _ (q_named (l := 15) (lo := 1) (hi := 10) (hT.rf g6) (by omega) rfl (by omega) (by omega) rfl hS6) (fun r8 M7 ⟨c1, c2, c3⟩ => ?_)
  rw [inc, in2]
  refine Wp_t ((kin_I (by omega)).mpr (by omega)) ?_
  refine Wp_letI ?_; intro M9 e9
  rw [nI_clamp (by omega)] at e9
  have g9 : Fw (rfX P 40) M M9 := by rw [← e9]; exact rf_si (g6.trans (rf_rn c2)) _ (by unfold x4; omega) (by unfold dsr; omega)
  have hS9 : Sr M9 b n (nmS b n 15 1 10 (nmS b n 14 1 1000 (sNext b n (none, s)))) := by rw [← e9]; exact Sr.si c1 _ (by omega)
  refine Wp_bv _ (q_asks (l := 16) (hT.rf g9) (by omega) rfl hS9) (fun M10 ⟨d1, d2⟩ => ?_)
  have g10 : Fw (rfX P 40) M M10 := g9.trans (rf_rn d2)
  refine Wp_bi _ (place_ok (hT.rf g10) (hP.fx hV g10) h1 d1) (fun r13 M12 ⟨i1, i2, i3⟩ => ?_)
  refine Wp_t ((kin_I (by omega)).mpr (by omega)) ?_
  refine Wp_letI ?_; intro M14 e14
  rw [nI_clamp (by omega)] at e14
  have g14 : Fw (rfX P 40) M M14 := by rw [← e14]; exact rf_si (g10.trans (rf_rn i2)) _ (by unfold x4; omega) (by unfold dsr; omega)
  refine tell_1 (j := 6) hV hP (by omega) g14 (fun fe => ?_)
  unfold lnQ
  rw [if_neg c]
  have ne : ∀ {A B : kr_M}, Fw rnX A B → ∀ j, B.1 361 j = A.1 361 j := fun h j => h.1 361 j (fun q => by have := q.1; omega)
  refine ⟨?_, fun gq => ?_, rf_x (by omega) fe⟩
  · rw [← e14]; exact (Sr.si i1 _ (by omega)).si _ (by omega)
  · have gq : (nmS b n 16 0 (P.1 1) (nmS b n 15 1 10 (nmS b n 14 1 1000 (sNext b n (none, s))))).1 = none := gq
    have g2 := (nmS_g gq).1
    refine RPg.addP hV hP fe (by rw [kr_si_at]) ?_ ?_ ?_
    · rw [kg_si, if_neg (by omega), ← e14, kg_si, if_neg (by omega), ne i2, ne d2, ← e9, kg_si, if_neg (by omega), ne c2, ← e6, kr_si_at]
      exact b3 (nmS_g g2).1
    · rw [kg_si, if_neg (by omega), ← e14, kg_si, if_neg (by omega), ne i2, ne d2, ← e9, kr_si_at]
      exact c3 g2
    · rw [kg_si, if_neg (by omega), ← e14, kr_si_at]
      exact i3 gq
/-! words -/
theorem al_0 {M : kr_M} {a k : Nat} {l2 y : Int32} (ha : a < 50) : f_X12_areAlike_24 (nI a) l2 (k + 1) 0 y M = some (0, M) := by
  apply Wp_eq
  rw [f_X12_areAlike_24]
  refine Wp_t ((kin_I (by omega)).mpr ha) ?_
  refine Wp_letI ?_; intro v ev
  exact Wp_c (fun _ => Wp_t (Or.inl rfl) (Wp_some rfl)) (fun _ => Wp_t rfl (Wp_t (Or.inl rfl) (Wp_some rfl)))
theorem al_24 {M : kr_M} {v w m : Nat} {f h : Nat → Nat} (hv : v < 10) (hw : w < 10) (hm : m ≤ 4) (e1 : M.1 356 (40 + v) = nI m) (d1 : ∀ i, i < m → M.1 358 (160 + 4 * v + i) = nI (f i) ∧ f i < 6) (d2 : ∀ i, i < m → M.1 358 (160 + 4 * w + i) = nI (h i) ∧ h i < 6) : ∀ n' i, i ≤ m → m - i < n' → f_X12_areAlike_24 (nI (40 + v)) (nI (40 + w)) n' 1 (nI i) M = some (if ∀ j, j < m → i ≤ j → f j = h j then 1 else 0, M) := by
  intro n'
  induction n' with
  | zero => intro i h1 h2; omega
  | succ n' ih =>
    intro i h1 h2
    apply Wp_eq
    rw [f_X12_areAlike_24]
    refine Wp_t ((kin_I (by omega)).mpr (by omega)) ?_
    refine Wp_letI ?_; intro x ev
    rw [nI_clamp (by omega), e1] at ev
    subst ev
    by_cases c : i = m
    · refine Wp_t (nI_le (by omega) (by omega)) (Wp_t (Or.inr rfl) (Wp_some ?_))
      rw [if_pos (fun j a1 a2 => by omega)]
    · refine Wp_f (nI_ge (by omega) (by omega)) (Wp_f (by decide) ?_)
      rw [c4m, c4m, nI_add, nI_add, show 4 * (40 + v) + i = 160 + 4 * v + i by omega, show 4 * (40 + w) + i = 160 + 4 * w + i by omega]
      obtain ⟨q1, q2⟩ := d1 i (by omega)
      obtain ⟨q3, q4⟩ := d2 i (by omega)
      refine Wp_t ((kin_I (by omega)).mpr (by omega)) ?_
      refine Wp_letI ?_; intro x ev
      rw [nI_clamp (by omega), q1] at ev
      subst ev
      refine Wp_t ((kin_I (by omega)).mpr (by omega)) ?_
      refine Wp_letI ?_; intro x ev
      rw [nI_clamp (by omega), q3] at ev
      subst ev
      unfold f_X12_areAlike_69
      by_cases d : f i = h i
      · refine Wp_f (fun q => q (by rw [d])) ?_
        have nx := ih (i + 1) (by omega) (by omega)
        rw [inc]
        refine Wp_of nx ?_
        by_cases e : ∀ j, j < m → i ≤ j → f j = h j
        · rw [if_pos e, if_pos (fun j a1 a2 => e j a1 (by omega))]
        · rw [if_neg e, if_neg (fun q => e (fun j a1 a2 => by
            by_cases z : j = i
            · rw [z]; exact d
            · exact q j a1 (by omega)))]
      · refine Wp_t (fun q => d ((nI_eq (by omega) (by omega)).mp q)) ?_
        obtain ⟨k, rfl⟩ : ∃ k, n' = k + 1 := ⟨n' - 1, by omega⟩
        rw [al_0 (by omega)]
        refine Wp_some ?_
        rw [if_neg (fun q => d (q i (by omega) (Nat.le_refl _)))]
theorem al_ok {M : kr_M} {v w m1 m : Nat} {f h : Nat → Nat} (hv : v < 10) (hw : w < 10) (hm1 : m1 ≤ 4) (hm : m ≤ 4) (e1 : M.1 356 (40 + v) = nI m1) (e2 : M.1 356 (40 + w) = nI m) (d1 : ∀ i, i < m1 → M.1 358 (160 + 4 * v + i) = nI (f i) ∧ f i < 6) (d2 : ∀ i, i < m → M.1 358 (160 + 4 * w + i) = nI (h i) ∧ h i < 6) : f_X12_areAlike (nI (40 + v)) (nI (40 + w)) M = some (if m1 = m ∧ ∀ i, i < m → f i = h i then 1 else 0, M) := by
  apply Wp_eq
  unfold f_X12_areAlike
  refine Wp_t ((kin_I (by omega)).mpr (by omega)) ?_
  refine Wp_letI ?_; intro x ev
  rw [nI_clamp (by omega), e1] at ev
  subst ev
  refine Wp_t ((kin_I (by omega)).mpr (by omega)) ?_
  refine Wp_letI ?_; intro x ev
  rw [nI_clamp (by omega), e2] at ev
  subst ev
  unfold f_X12_areAlike_20
  by_cases c : m1 = m
  · subst c
    refine Wp_f (fun q => q rfl) ?_
    refine Wp_of (al_24 hv hw hm e1 d1 d2 kr_F 0 (by omega) (kr_F_gt _ (by omega))) ?_
    by_cases e : ∀ i, i < m1 → f i = h i
    · rw [if_pos (fun j a1 _ => e j a1), if_pos ⟨rfl, e⟩]
    · rw [if_neg (fun q => e (fun j a1 => q j a1 (Nat.zero_le _))), if_neg (fun q => e q.2)]
  · refine Wp_t (fun q => c ((nI_eq (by omega) (by omega)).mp q)) ?_
    obtain ⟨k, hk⟩ : ∃ k, kr_F = k + 1 := ⟨kr_F - 1, by have := kr_F_gt 0 (by omega); omega⟩
    rw [hk, al_0 (by omega)]
    refine Wp_some ?_
    rw [if_neg (fun q => c q.1)]
