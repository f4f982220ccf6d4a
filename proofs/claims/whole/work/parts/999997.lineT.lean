/-! GORGE: the reference's words, ropes, lines -/
theorem wr_30 {b : Nat → Int32} {n m : Nat} {f : Nat → Nat} {P : GG} {σ : SG} {Q : kr_M → Prop} (hV : PV P) (hc : P.1 5 < 10) {M : kr_M} (hS : Sr M b n σ) (hP : RPg M P) (hm : σ.1 = none → m ≤ 4 ∧ M.1 356 (40 + P.1 5) = nI m ∧ ∀ i, i < m → M.1 358 (160 + 4 * P.1 5 + i) = nI (f i) ∧ f i < 6) (h : ∀ M', Sr M' b n (dupC b n P m f σ) → Fw rnX M M' → Wp (f_X12_wordLine_72 (nI (40 + P.1 5)) M') Q) : ∀ n' v, v ≤ P.1 5 → P.1 5 - v + 1 < n' → (σ.1 = none → isW b n σ.2 8 = true → ∀ v', v' < v → ¬ dpB P m f v' = true) → Wp (f_X12_wordLine_30 (nI (40 + P.1 5)) n' (nI (40 + v)) M) Q := by
  have hV' := hV
  obtain ⟨v0, v1, v2, v3, v4, v5, v6, vk, vw, vr, vp, vd⟩ := hV'
  intro n'
  induction n' with
  | zero => intro v h1 h2; omega
  | succ n' ih =>
    intro v h1 h2 hN
    rw [f_X12_wordLine_30]
    by_cases c : v = P.1 5
    · refine Wp_t (nI_le (by omega) (by omega)) (h M ?_ (Fw.refl M))
      unfold dupC
      rw [if_neg (fun q => by
        obtain ⟨z, z1, z2⟩ := dpA_t.mp q.2.2
        exact hN q.1 q.2.1 z (by omega) (dpB_t.mpr z2))]
      exact hS
    refine Wp_f (nI_ge (by omega) (by omega)) ?_
    have st := hS
    obtain ⟨o, s⟩ := σ
    cases o with
    | some e =>
      refine Wp_letI ?_; intro x ev
      rw [st.1] at ev
      subst ev
      refine Wp_t (nI_ne0 (by have := st.2.1; omega) (by have := st.2.2.1; omega)) (h M ?_ (Fw.refl M))
      unfold dupC
      rw [if_neg (fun q => absurd q.1 (by simp))]
      exact hS
    | none =>
      refine Wp_letI ?_; intro x ev
      rw [st.1] at ev
      subst ev
      refine Wp_f (fun q => q rfl) ?_
      rw [q_is (l := 8) (w := 7008274) (by omega) rfl hS]
      refine Wp_bis ?_
      by_cases w8 : isW b n s 8 = true
      · rw [if_pos (show ((none, s) : SG).1 = none ∧ isW b n ((none, s) : SG).2 8 = true from ⟨rfl, w8⟩)]
        refine Wp_f (by decide) ?_
        obtain ⟨m1, m2, m3⟩ := hm rfl
        obtain ⟨r1, r2, r3⟩ := hP.2.2.1 v (by omega)
        obtain ⟨y1, y2, y3, y4⟩ := vw v (by omega)
        rw [al_ok (f := fun i => P.2.2 0 v i) (by omega) hc y2 m1 r1 m2 (fun i hi => ⟨r3 i hi, by have := y4 i hi; show P.2.2 0 v i < 6; omega⟩) m3]
        refine Wp_bis ?_
        unfold f_X12_wordLine_66
        rw [inc, show 40 + v + 1 = 40 + (v + 1) by omega]
        by_cases d : P.2.1 2 v = m ∧ ∀ i, i < m → P.2.2 0 v i = f i
        · rw [if_pos d]
          refine Wp_f (by decide) ?_
          refine Wp_bv _ (q_fails (k := 2) (by omega) hS) (fun M6 ⟨q1, q2⟩ => ?_)
          have dd : dupC b n P m f (none, s) = sFail 2 (none, s) := by
            unfold dupC
            rw [if_pos ⟨rfl, w8, dpA_t.mpr ⟨v, by omega, d⟩⟩]
          rw [← dd] at q1
          have fin := h M6 q1 q2
          rw [dd] at q1
          have q1 : Sr M6 b n (some (2, s), s) := q1
          obtain ⟨k, rfl⟩ : ∃ k, n' = k + 1 := ⟨n' - 1, by omega⟩
          rw [f_X12_wordLine_30]
          refine Wp_c (fun _ => fin) (fun _ => ?_)
          refine Wp_letI ?_; intro x ev
          rw [q1.1] at ev
          subst ev
          exact Wp_t (show ¬ nI 2 = 0 by decide) fin
        · rw [if_neg d]
          refine Wp_t rfl ?_
          refine ih (v + 1) (by omega) (by omega) (fun a1 a2 v' hv' => ?_)
          by_cases e : v' = v
          · rw [e]; exact fun q => d (dpB_t.mp q)
          · exact hN a1 a2 v' (by omega)
      · have cn : ¬ (((none, s) : SG).1 = none ∧ isW b n ((none, s) : SG).2 8 = true) := fun q => w8 q.2
        rw [if_neg cn]
        refine Wp_t rfl (h M ?_ (Fw.refl M))
        unfold dupC
        rw [if_neg (fun q => w8 q.2.1)]
        exact hS
theorem len_358 : kr_len 358 = 200 ∧ kr_len 360 = 360 := by decide +kernel
theorem qc_W {M M3 : kr_M} {b : Nat → Int32} {n s : Nat} {P : GG} (hV : PV P) (hP : RPg M P) (hT : TR M b n) (c : ¬ P.1 5 = 10) (f3 : Fw rnX M M3) (hS : Sr M3 b n (none, nxt_ b n s)) : Wp (f_X12_wordLine M3) (RQ M b n (lnW b n P (none, s))) := by
  have hV' := hV
  obtain ⟨v0, v1, v2, v3, v4, v5, v6, vk, vw, vr, vp, vd⟩ := hV'
  have g3 : Fw (rfX P 40) M M3 := rf_rn f3
  unfold f_X12_wordLine
  rw [show f_X12_hasRead (4 : Int32) M3 = some (nI (P.1 5), M3) from hR_ok (j := 4) (hP.fx hV g3) (by omega)]
  refine Wp_bis ?_
  refine Wp_letI ?_; intro v ev
  rw [c40] at ev
  subst ev
  rw [c4m, show 4 * (40 + P.1 5) = 160 + 4 * P.1 5 by omega]
  refine Wp_bi _ (krk_ok (row := 358) (base := 160 + 4 * P.1 5) (most := 4) hV (by omega) (by rw [len_358.1]; omega) (by rw [len_358.1]; omega) (by omega) (fun j a1 a2 => ⟨by unfold x4; omega, by unfold dsr; omega⟩) (hT.rf g3) hS (hP.fx hV g3)) (fun r5 M4 ⟨b1, b2, b3, b4⟩ => ?_)
  have b1 : Sr M4 b n (knS b n 4 (P.1 4) (none, nxt_ b n s)).1 := b1
  have b2 : (knS b n 4 (P.1 4) (none, nxt_ b n s)).1.1 = none → r5 = nI (knS b n 4 (P.1 4) (none, nxt_ b n s)).2 ∧ ∀ j, j < (knS b n 4 (P.1 4) (none, nxt_ b n s)).2 → M4.1 358 (160 + 4 * P.1 5 + j) = nI (tv b n (nxs b n (nxt_ b n s) j)) := b2
  have g4 : Fw (rfX P 40) M M4 := g3.trans b3
  refine Wp_t ((kin_I (by omega)).mpr (by omega)) ?_
  refine Wp_letI ?_; intro M6 e6
  rw [nI_clamp (by omega)] at e6
  have g6 : Fw (rfX P 40) M M6 := by rw [← e6]; exact rf_si g4 _ (by unfold x4; omega) (by unfold dsr; omega)
  have hS6 : Sr M6 b n (knS b n 4 (P.1 4) (none, nxt_ b n s)).1 := by rw [← e6]; exact Sr.si b1 _ (by omega)
  refine wr_30 (m := (knS b n 4 (P.1 4) (none, nxt_ b n s)).2) (f := fun i => tv b n (nxs b n (nxt_ b n s) i)) hV (by omega) hS6 (hP.fx hV g6) (fun gq => ?_) (fun M7 k1 k2 => ?_) kr_F 0 (by omega) (kr_F_gt _ (by omega)) (fun _ _ v' hv' => by omega)
  · obtain ⟨t1, t2⟩ := b2 gq
    obtain ⟨y1, y2, y3⟩ := knS_v (by omega) gq
    refine ⟨y2, ?_, fun i hi => ⟨?_, ?_⟩⟩
    · rw [← e6, kr_si_at]; exact t1
    · rw [← e6, kg_si, if_neg (by omega)]; exact t2 i hi
    · have := y3 i hi
      show tv b n (nxs b n (nxt_ b n s) i) < 6
      have e0 : tv b n (nxs b n ((none, nxt_ b n s) : SG).2 i) < P.1 4 := this
      have e0 : tv b n (nxs b n (nxt_ b n s) i) < P.1 4 := e0
      omega
  · have g7 : Fw (rfX P 40) M M7 := g6.trans (rf_rn k2)
    unfold f_X12_wordLine_72
    refine Wp_bi _ (q_named (l := 8) (lo := 0) (hi := 100) (hT.rf g7) (by omega) rfl (by omega) (by omega) rfl k1) (fun r2 M8 ⟨c1, c2, c3⟩ => ?_)
    refine Wp_t ((kin_I (by omega)).mpr (by omega)) ?_
    refine Wp_letI ?_; intro M9 e9
    rw [nI_clamp (by omega)] at e9
    have g9 : Fw (rfX P 40) M M9 := by rw [← e9]; exact rf_si (g7.trans (rf_rn c2)) _ (by unfold x4; omega) (by unfold dsr; omega)
    refine tell_1 (j := 4) hV hP (by omega) g9 (fun fe => ?_)
    have ne : ∀ {A B : kr_M}, Fw rnX A B → ∀ a j, a ≠ 346 → B.1 a j = A.1 a j := fun h a j z => h.1 a j (fun q => z q.1)
    unfold lnW
    rw [if_neg c]
    refine ⟨?_, fun gq => ?_, rf_x (by omega) fe⟩
    · rw [← e9]; exact (Sr.si c1 _ (by omega)).si _ (by omega)
    · have gd := (dupC_g (nmS_g gq).1).2.1
      obtain ⟨t1, t2⟩ := b2 gd
      refine RPg.addW hV hP fe (by rw [kr_si_at]) ?_ ?_ (fun i hi => ?_)
      · rw [kg_si, if_neg (by omega), ← e9, kg_si, if_neg (by omega), ne c2 _ _ (by omega), ne k2 _ _ (by omega), ← e6, kr_si_at]
        exact t1
      · rw [kg_si, if_neg (by omega), ← e9, kr_si_at]
        exact c3 gq
      · rw [kg_si, if_neg (by omega), ← e9, kg_si, if_neg (by omega), ne c2 _ _ (by omega), ne k2 _ _ (by omega), ← e6, kg_si, if_neg (by omega)]
        exact t2 i hi
theorem qc_R {M M3 : kr_M} {b : Nat → Int32} {n s : Nat} {P : GG} (hV : PV P) (hP : RPg M P) (hT : TR M b n) (c : ¬ P.1 6 = 6) (h1 : P.1 1 ≤ 6) (f3 : Fw rnX M M3) (hS : Sr M3 b n (none, nxt_ b n s)) : Wp (f_X12_ropeLine M3) (RQ M b n (lnR b n P (none, s))) := by
  have hV' := hV
  obtain ⟨v0, v1, v2, v3, v4, v5, v6, vk, vw, vr, vp, vd⟩ := hV'
  have g3 : Fw (rfX P 40) M M3 := rf_rn f3
  have ne : ∀ {A B : kr_M}, Fw rnX A B → ∀ a j, a ≠ 346 → B.1 a j = A.1 a j := fun h a j z => h.1 a j (fun q => z q.1)
  unfold f_X12_ropeLine
  rw [show f_X12_hasRead (5 : Int32) M3 = some (nI (P.1 6), M3) from hR_ok (j := 5) (hP.fx hV g3) (by omega)]
  refine Wp_bis ?_
  refine Wp_letI ?_; intro v ev
  rw [c24] at ev
  subst ev
  have h1' : sNext b n (none, s) = (none, nxt_ b n s) := rfl
  refine Wp_bi _ (place_ok (hT.rf g3) (hP.fx hV g3) h1 hS) (fun r5 M4 ⟨b1, b2, b3⟩ => ?_)
  have b1 : Sr M4 b n (sNum b n 0 (P.1 1) (sNext b n (none, s))) := b1
  have b3 : (sNum b n 0 (P.1 1) (sNext b n (none, s))).1 = none → r5 = nI (tv b n (sNext b n (none, s)).2) := b3
  rw [c4m, show 4 * (24 + P.1 6) = 96 + 4 * P.1 6 by omega]
  refine Wp_t ((kin_I (by omega)).mpr (by omega)) ?_
  refine Wp_letI ?_; intro M6 e6
  rw [nI_clamp (by omega)] at e6
  have g6 : Fw (rfX P 40) M M6 := by rw [← e6]; exact rf_si (g3.trans (rf_rn b2)) _ (by unfold x4; omega) (by unfold dsr; omega)
  have hS6 : Sr M6 b n (sNum b n 0 (P.1 1) (sNext b n (none, s))) := by rw [← e6]; exact Sr.si b1 _ (by omega)
  refine Wp_bv _ (q_asks (l := 10) (hT.rf g6) (by omega) rfl hS6) (fun M7 ⟨c1, c2⟩ => ?_)
  have g7 : Fw (rfX P 40) M M7 := g6.trans (rf_rn c2)
  have x0 : M7.1 359 (96 + 4 * P.1 6) = r5 := by rw [ne c2 _ _ (by omega), ← e6, kr_si_at]
  have fin : ∀ M8, Fw rnX M7 M8 → Sr M8 b n (lnR2 b n P (none, s)) → Wp (f_X12_ropeLine_63 (nI (24 + P.1 6)) M8) (RQ M b n (lnR b n P (none, s))) := fun M8 k1 k2 => by
    have g8 : Fw (rfX P 40) M M8 := g7.trans (rf_rn k1)
    unfold f_X12_ropeLine_63
    refine Wp_bi _ (place_ok (hT.rf g8) (hP.fx hV g8) h1 k2) (fun r2 M9 ⟨d1, d2, d3⟩ => ?_)
    rw [c4m, show 4 * (24 + P.1 6) = 96 + 4 * P.1 6 by omega, inc, in2, in3]
    refine Wp_t ((kin_I (by omega)).mpr (by omega)) ?_
    refine Wp_letI ?_; intro M10 e10
    rw [nI_clamp (by omega)] at e10
    have g10 : Fw (rfX P 40) M M10 := by rw [← e10]; exact rf_si (g8.trans (rf_rn d2)) _ (by unfold x4; omega) (by unfold dsr; omega)
    have hS10 : Sr M10 b n (lnR5 b n P (none, s)) := by rw [← e10]; exact Sr.si d1 _ (by omega)
    refine Wp_bi _ (q_named (l := 11) (lo := 1) (hi := 1000) (hT.rf g10) (by omega) rfl (by omega) (by omega) rfl hS10) (fun r4 M11 ⟨i1, i2, i3⟩ => ?_)
    refine Wp_t ((kin_I (by omega)).mpr (by omega)) ?_
    refine Wp_letI ?_; intro M12 e12
    rw [nI_clamp (by omega)] at e12
    have g12 : Fw (rfX P 40) M M12 := by rw [← e12]; exact rf_si (g10.trans (rf_rn i2)) _ (by unfold x4; omega) (by unfold dsr; omega)
    have hS12 : Sr M12 b n (nmS b n 11 1 1000 (lnR5 b n P (none, s))) := by rw [← e12]; exact Sr.si i1 _ (by omega)
    refine Wp_bv _ (q_asks (l := 12) (hT.rf g12) (by omega) rfl hS12) (fun M13 ⟨j1, j2⟩ => ?_)
    have j1 : Sr M13 b n (lnR7 b n P (none, s)) := j1
    have g13 : Fw (rfX P 40) M M13 := g12.trans (rf_rn j2)
    rw [q_good j1]
    refine Wp_bis ?_
    have lnr : lnR b n P (none, s) = (u1 (u2 (u2 (u2 (u2 (u3 P 1 (P.1 6) (fun i => tv b n (nxs b n (lnR7 b n P (none, s)).2 i))) 7 (P.1 6) (knS b n 12 (P.1 4) (lnR7 b n P (none, s))).2) 4 (P.1 6) (tv b n (sNext b n (none, s)).2)) 5 (P.1 6) (tv b n (lnR2 b n P (none, s)).2)) 6 (P.1 6) (nmV b n 11 (lnR5 b n P (none, s)))) 6 (P.1 6 + 1), (knS b n 12 (P.1 4) (lnR7 b n P (none, s))).1) := by
      unfold lnR
      rw [if_neg c]
    rw [lnr]
    by_cases g : (lnR7 b n P (none, s)).1 = none
    · rw [if_pos g]
      refine Wp_f (by decide) ?_
      obtain ⟨p7, h7⟩ : ∃ p7, lnR7 b n P (none, s) = (none, p7) := ⟨(lnR7 b n P (none, s)).2, by
        generalize lnR7 b n P (none, s) = τ at *
        obtain ⟨o, q⟩ := τ
        have g : o = none := g
        rw [g]⟩
      rw [h7] at j1
      rw [c12m, show 12 * (24 + P.1 6) = 288 + 12 * P.1 6 by omega]
      refine Wp_bi _ (krk_ok (row := 360) (base := 288 + 12 * P.1 6) (most := 12) hV (by omega) (by rw [len_358.2]; omega) (by rw [len_358.2]; omega) (by omega) (fun j a1 a2 => ⟨by unfold x4; omega, by unfold dsr; omega⟩) (hT.rf g13) j1 (hP.fx hV g13)) (fun r12 M14 ⟨m1, m2, m3, m4⟩ => ?_)
      have m1 : Sr M14 b n (knS b n 12 (P.1 4) (none, p7)).1 := m1
      have m2 : (knS b n 12 (P.1 4) (none, p7)).1.1 = none → r12 = nI (knS b n 12 (P.1 4) (none, p7)).2 ∧ ∀ j, j < (knS b n 12 (P.1 4) (none, p7)).2 → M14.1 360 (288 + 12 * P.1 6 + j) = nI (tv b n (nxs b n p7 j)) := m2
      rw [h7]
      refine Wp_t ((kin_I (by omega)).mpr (by omega)) ?_
      refine Wp_letI ?_; intro M15 e15
      rw [nI_clamp (by omega)] at e15
      have g15 : Fw (rfX P 40) M M15 := by rw [← e15]; exact rf_si (g13.trans m3) _ (by unfold x4; omega) (by unfold dsr; omega)
      unfold f_X12_ropeLine_136
      refine tell_1 (j := 5) hV hP (by omega) g15 (fun fe => ?_)
      have n14 : ∀ j, M14.1 359 j = M13.1 359 j := fun j => m4.1 359 j (fun q => by rcases q with q | q <;> omega)
      refine ⟨?_, fun gq => ?_, rf_x (by omega) fe⟩
      · rw [← e15]; exact (Sr.si m1 _ (by omega)).si _ (by omega)
      · have h6 : (nmS b n 11 1 1000 (lnR5 b n P (none, s))).1 = none := sName_g g
        have h5 : (lnR5 b n P (none, s)).1 = none := (nmS_g h6).1
        have h2 : (lnR2 b n P (none, s)).1 = none := (sNum_g h5).1
        have h0 : (sNum b n 0 (P.1 1) (sNext b n (none, s))).1 = none := sName_g (samC_g h2).2.1
        obtain ⟨t1, t2⟩ := m2 gq
        refine RPg.addR hV hP fe (by rw [kr_si_at]) ?_ ?_ ?_ ?_ (fun i hi => ?_)
        · rw [kg_si, if_neg (by omega), ← e15, kg_si, if_neg (by omega), n14, ne j2 _ _ (by omega), ← e12, kg_si, if_neg (by omega), ne i2 _ _ (by omega), ← e10, kg_si, if_neg (by omega), ne d2 _ _ (by omega), ne k1 _ _ (by omega), x0]
          exact b3 h0
        · rw [kg_si, if_neg (by omega), ← e15, kg_si, if_neg (by omega), n14, ne j2 _ _ (by omega), ← e12, kg_si, if_neg (by omega), ne i2 _ _ (by omega), ← e10, kr_si_at]
          exact d3 h5
        · rw [kg_si, if_neg (by omega), ← e15, kg_si, if_neg (by omega), n14, ne j2 _ _ (by omega), ← e12, kr_si_at]
          exact i3 h6
        · rw [kg_si, if_neg (by omega), ← e15, kr_si_at]
          exact t1
        · rw [kg_si, if_neg (by omega), ← e15, kg_si, if_neg (by omega)]
          exact t2 i hi
    · rw [if_neg g]
      refine Wp_t rfl ?_
      unfold f_X12_ropeLine_136
      refine tell_1 (j := 5) hV hP (by omega) g13 (fun fe => ⟨?_, fun gq => ?_, rf_x (by omega) fe⟩)
      · have e7 : (knS b n 12 (P.1 4) (lnR7 b n P (none, s))).1 = lnR7 b n P (none, s) := by
          generalize lnR7 b n P (none, s) = τ at *
          obtain ⟨o, q⟩ := τ
          cases o with
          | none => exact absurd rfl g
          | some e =>
            unfold knS
            rw [show sNum b n 0 (P.1 4) (some e, q) = (some e, q) from rfl, knF_b]
        show Sr _ b n (knS b n 12 (P.1 4) (lnR7 b n P (none, s))).1
        rw [e7]
        exact Sr.si j1 _ (by omega)
      · exact absurd (knS_g gq) g
  by_cases gd : (sName b n 10 (sNum b n 0 (P.1 1) (sNext b n (none, s)))).1 = none
  · have r5v : r5 = nI (tv b n (sNext b n (none, s)).2) := b3 (sName_g gd)
    have vb0 : tv b n (sNext b n (none, s)).2 < P.1 1 := (sNum_g (sName_g gd)).2.2.2
    generalize hτ : sName b n 10 (sNum b n 0 (P.1 1) (sNext b n (none, s))) = τ at *
    obtain ⟨o, q⟩ := τ
    have gd : o = none := gd
    subst gd
    have st := c1
    obtain ⟨q1, q2, q3, q4, q5, ⟨u, q6, q7, q8⟩, q9⟩ := st
    have kb := tk_b b n q
    have e2 : lnR2 b n P (none, s) = samC b n (tv b n (sNext b n (none, s)).2) (none, q) := by unfold lnR2; rw [hτ]
    refine Wp_letI ?_; intro v ev
    rw [q1] at ev
    subst ev
    refine Wp_f (fun z => z rfl) ?_
    refine Wp_letI ?_; intro v ev
    rw [q3] at ev
    subst ev
    by_cases k2 : tk b n q = 2
    · refine Wp_f (fun z => z (by rw [k2]; rfl)) ?_
      refine Wp_letI ?_; intro v ev
      rw [q6] at ev
      subst ev
      refine Wp_t ((kin_I (by omega)).mpr (by omega)) ?_
      refine Wp_letI ?_; intro v ev
      rw [nI_clamp (by omega), x0, r5v] at ev
      subst ev
      by_cases k3 : tv b n q = tv b n (sNext b n (none, s)).2
      · refine Wp_f (fun z => z (by rw [show u = tv b n (sNext b n (none, s)).2 by omega])) ?_
        refine Wp_bv _ (q_fails (k := 2) (by omega) c1) (fun M8 ⟨y1, y2⟩ => fin M8 y2 ?_)
        rw [e2]
        unfold samC
        rw [if_pos ⟨rfl, k2, k3⟩]
        exact y1
      · refine Wp_t (fun z => k3 (by have := (nI_eq (by omega) (by omega)).mp z; omega)) (fin M7 (Fw.refl M7) ?_)
        rw [e2]
        unfold samC
        rw [if_neg (fun z => k3 z.2.2)]
        exact c1
    · refine Wp_t (fun z => k2 ((nI_eq (b := 2) (by omega) (by omega)).mp z)) (fin M7 (Fw.refl M7) ?_)
      rw [e2]
      unfold samC
      rw [if_neg (fun z => k2 z.2.1)]
      exact c1
  · have e2 : lnR2 b n P (none, s) = sName b n 10 (sNum b n 0 (P.1 1) (sNext b n (none, s))) := by
      unfold lnR2 samC
      rw [if_neg (fun z => gd z.1)]
    have st2 : Sr M7 b n (lnR2 b n P (none, s)) := by rw [e2]; exact c1
    have bad : ¬ M7.1 346 12 = 0 := by
      generalize sName b n 10 (sNum b n 0 (P.1 1) (sNext b n (none, s))) = τ at *
      obtain ⟨o, q⟩ := τ
      cases o with
      | none => exact absurd rfl gd
      | some e => rw [c1.1]; exact nI_ne0 (by have := c1.2.1; omega) (by have := c1.2.2.1; omega)
    refine Wp_letI ?_; intro v ev
    exact Wp_t (by rw [← ev]; exact bad) (fin M7 (Fw.refl M7) st2)
/-! a line -/
theorem bad_167 {M : kr_M} (h : ¬ M.1 346 12 = 0) : f_X12_line_167 M = some M ∧ f_X12_line_135 M = some M ∧ f_X12_line_104 M = some M := by
  have a : f_X12_line_167 M = some M := by
    apply Wp_eq
    unfold f_X12_line_167
    refine Wp_letI ?_; intro v ev
    exact Wp_t (by rw [← ev]; exact h) (Wp_some rfl)
  have a2 : f_X12_line_135 M = some M := by
    apply Wp_eq
    unfold f_X12_line_135
    refine Wp_letI ?_; intro v ev
    exact Wp_t (by rw [← ev]; exact h) (Wp_of a rfl)
  refine ⟨a, a2, ?_⟩
  apply Wp_eq
  unfold f_X12_line_104
  refine Wp_letI ?_; intro v ev
  exact Wp_t (by rw [← ev]; exact h) (Wp_of a2 rfl)
theorem Sr_bad {M : kr_M} {b : Nat → Int32} {n s : Nat} {e : Nat × Nat} (h : Sr M b n (some e, s)) : ¬ M.1 346 12 = 0 := by
  rw [h.1]; exact nI_ne0 (by have := h.2.1; omega) (by have := h.2.2.1; omega)
theorem rq_fail {M M' : kr_M} {b : Nat → Int32} {n s k : Nat} {P : GG} (h : Sr M' b n (some (k, s), s)) (hf : Fw rnX M M') : RQ M b n (P, sFail k (none, s)) M' := ⟨h, fun q => (sFail_g q).elim, hf.mono (fun a j q => Or.inl q)⟩
theorem qc_ln {M : kr_M} {b : Nat → Int32} {n s : Nat} {P : GG} (hV : PV P) (h0 : ¬ P.1 0 = 0) (hP : RPg M P) (hT : TR M b n) (hS : Sr M b n (none, s)) : Wp (f_X12_line M) (RQ M b n (ln b n P (none, s))) := by
  have hV' := hV
  obtain ⟨v0, v1, v2, v3, v4, v5, v6, vk, vw, vr, vp, vd⟩ := hV'
  have l1 := (PV_1 hV h0).2.2
  have w : ∀ l x, l < 17 → x = wH l → f_X12_is x M = some (if isW b n s l = true then 1 else 0, M) := fun l x hl hx => by
    rw [q_is hl hx hS]
    by_cases c : isW b n s l = true
    · rw [if_pos c, if_pos ⟨rfl, c⟩]
    · have cn : ¬ (((none, s) : SG).1 = none ∧ isW b n ((none, s) : SG).2 l = true) := fun q => c q.2
      rw [if_neg c, if_neg cn]
  unfold f_X12_line ln
  rw [if_neg h0, w 4 227144 (by omega) rfl]
  refine Wp_bis ?_
  by_cases c1 : isW b n s 4 = true
  · simp only [if_pos c1]
    by_cases f : P.1 4 = 6
    · refine Wp_bi _ (room_f (j := 3) (m := 6) hP (by omega) f hS) (fun r M3 ⟨q1, q2, q3⟩ => ?_)
      have q1 : r = 0 := q1
      subst q1
      refine Wp_t rfl ?_
      refine Wp_letI ?_; intro v ev
      refine Wp_t (by rw [← ev]; exact Sr_bad q2) ?_
      refine Wp_of (bad_167 (Sr_bad q2)).2.2 ?_
      unfold lnK
      rw [if_pos f]
      exact rq_fail q2 q3
    · refine Wp_bi _ (room_y (j := 3) (m := 6) hT hP (by omega) (show P.1 4 < 2 ^ 31 by omega) (by omega) f hS) (fun r M3 ⟨q1, q2, q3⟩ => ?_)
      have q1 : r = 1 := q1
      subst q1
      refine Wp_f (by decide) ?_
      exact qc_K hV hP hT f q3 q2
  simp only [if_neg c1]
  rw [room_n]
  refine Wp_bis (Wp_t rfl ?_)
  refine Wp_letI ?_; intro v ev
  rw [hS.1] at ev
  subst ev
  refine Wp_f (fun q => q rfl) ?_
  rw [w 7 464134 (by omega) rfl]
  refine Wp_bis ?_
  by_cases c2 : isW b n s 7 = true
  · simp only [if_pos c2]
    by_cases f : P.1 5 = 10
    · refine Wp_bi _ (room_f (j := 4) (m := 10) hP (by omega) f hS) (fun r M3 ⟨q1, q2, q3⟩ => ?_)
      have q1 : r = 0 := q1
      subst q1
      refine Wp_t rfl ?_
      refine Wp_of (bad_167 (Sr_bad q2)).2.2 ?_
      unfold lnW
      rw [if_pos f]
      exact rq_fail q2 q3
    · refine Wp_bi _ (room_y (j := 4) (m := 10) hT hP (by omega) (show P.1 5 < 2 ^ 31 by omega) (by omega) f hS) (fun r M3 ⟨q1, q2, q3⟩ => ?_)
      have q1 : r = 1 := q1
      subst q1
      refine Wp_f (by decide) ?_
      exact Wp_bv _ (qc_W hV hP hT f q3 q2) (fun M' q => Wp_some q)
  simp only [if_neg c2]
  rw [room_n]
  refine Wp_bis (Wp_t rfl ?_)
  unfold f_X12_line_104
  refine Wp_letI ?_; intro v ev
  rw [hS.1] at ev
  subst ev
  refine Wp_f (fun q => q rfl) ?_
  rw [w 9 365666 (by omega) rfl]
  refine Wp_bis ?_
  by_cases c3 : isW b n s 9 = true
  · simp only [if_pos c3]
    by_cases f : P.1 6 = 6
    · refine Wp_bi _ (room_f (j := 5) (m := 6) hP (by omega) f hS) (fun r M3 ⟨q1, q2, q3⟩ => ?_)
      have q1 : r = 0 := q1
      subst q1
      refine Wp_t rfl ?_
      refine Wp_of (bad_167 (Sr_bad q2)).2.1 ?_
      unfold lnR
      rw [if_pos f]
      exact rq_fail q2 q3
    · refine Wp_bi _ (room_y (j := 5) (m := 6) hT hP (by omega) (show P.1 6 < 2 ^ 31 by omega) (by omega) f hS) (fun r M3 ⟨q1, q2, q3⟩ => ?_)
      have q1 : r = 1 := q1
      subst q1
      refine Wp_f (by decide) ?_
      exact Wp_bv _ (qc_R hV hP hT f l1 q3 q2) (fun M' q => Wp_some q)
  simp only [if_neg c3]
  rw [room_n]
  refine Wp_bis (Wp_t rfl ?_)
  unfold f_X12_line_135
  refine Wp_letI ?_; intro v ev
  rw [hS.1] at ev
  subst ev
  refine Wp_f (fun q => q rfl) ?_
  rw [w 13 232608281 (by omega) rfl]
  refine Wp_bis ?_
  by_cases c4 : isW b n s 13 = true
  · simp only [if_pos c4]
    by_cases f : P.1 7 = 6
    · refine Wp_bi _ (room_f (j := 6) (m := 6) hP (by omega) f hS) (fun r M3 ⟨q1, q2, q3⟩ => ?_)
      have q1 : r = 0 := q1
      subst q1
      refine Wp_t rfl ?_
      refine Wp_of (bad_167 (Sr_bad q2)).1 ?_
      unfold lnQ
      rw [if_pos f]
      exact rq_fail q2 q3
    · refine Wp_bi _ (room_y (j := 6) (m := 6) hT hP (by omega) (show P.1 7 < 2 ^ 31 by omega) (by omega) f hS) (fun r M3 ⟨q1, q2, q3⟩ => ?_)
      have q1 : r = 1 := q1
      subst q1
      refine Wp_f (by decide) ?_
      exact Wp_bv _ (qc_P hV hP hT f l1 q3 q2) (fun M' q => Wp_some q)
  simp only [if_neg c4]
  rw [room_n]
  refine Wp_bis (Wp_t rfl ?_)
  unfold f_X12_line_167
  refine Wp_letI ?_; intro v ev
  rw [hS.1] at ev
  subst ev
  refine Wp_f (fun q => q rfl) ?_
  exact Wp_bv _ (q_fails (k := 1) (by omega) hS) (fun M' q => Wp_some (rq_fail q.1 q.2))
