/-! GORGE: words, and the class's own steps with a fault or without -/
def sln (l : Nat) : Nat := kr_sn.getD l 0
theorem sln_b : ∀ l, l < 17 → sln l ≤ 6 := by decide +kernel
def isW (b : Nat → Int32) (n s l : Nat) : Bool := decide (tk b n s = 1 ∧ te b n s - s = sln l ∧ ∀ i, i < sln l → b (s + i) = kr_sch l (nI i))
theorem isW_t {b : Nat → Int32} {n s l : Nat} : isW b n s l = true ↔ (tk b n s = 1 ∧ te b n s - s = sln l ∧ ∀ i, i < sln l → b (s + i) = kr_sch l (nI i)) := by unfold isW; exact decide_eq_true_iff
theorem isW_28 {M : kr_M} {b : Nat → Int32} {n s l : Nat} (hT : TC M b n) (hl : l < 17) (h5 : M.1 1 5 = nI s) (hs : s + sln l ≤ n) : ∀ n' i, i ≤ sln l → sln l - i < n' → f_X6_isWord_28 l n' (nI i) M = some (if ∀ j, j < sln l → i ≤ j → b (s + j) = kr_sch l (nI j) then 1 else 0, M) := by
  have hb := sln_b l hl
  obtain ⟨t1, t2, t3⟩ := hT
  intro n'
  induction n' with
  | zero => intro i h1 h2; omega
  | succ n' ih =>
    intro i h1 h2
    apply Wp_eq
    rw [f_X6_isWord_28]
    refine Wp_letI ?_; intro v ev
    have ev : nI (sln l) = v := ev
    subst ev
    by_cases c : i = sln l
    · refine Wp_t (nI_le (by omega) (by omega)) (Wp_some ?_)
      rw [if_pos (fun j a1 a2 => by omega)]
    · refine Wp_f (nI_ge (by omega) (by omega)) ?_
      refine Wp_letI ?_; intro v ev
      rw [h5] at ev
      subst ev
      rw [nI_add]
      refine Wp_t ((kin_I (by omega)).mpr (by omega)) ?_
      refine Wp_letI ?_; intro v ev
      rw [nI_clamp (by omega), t3 (s + i) (by omega)] at ev
      subst ev
      refine Wp_t ((kin_I (by omega)).mpr (show i < sln l by omega)) ?_
      refine Wp_letI ?_; intro v ev
      subst ev
      by_cases d : b (s + i) = kr_sch l (nI i)
      · refine Wp_t d ?_
        rw [L_1, nI_add, ih (i + 1) (by omega) (by omega)]
        refine Wp_some ?_
        by_cases e : ∀ j, j < sln l → i ≤ j → b (s + j) = kr_sch l (nI j)
        · rw [if_pos e, if_pos (fun j a1 a2 => e j a1 (by omega))]
          rfl
        · rw [if_neg e, if_neg (fun q => e (fun j a1 a2 => by
            by_cases z : j = i
            · rw [z]; exact d
            · exact q j a1 (by omega)))]
      · refine Wp_f d (Wp_some ?_)
        rw [if_neg (fun q => d (q i (by omega) (Nat.le_refl _)))]
theorem k_isW {M : kr_M} {b : Nat → Int32} {n s l : Nat} (hT : TC M b n) (hl : l < 17) (h : CK M b n s) : f_X6_isWord l M = some (if isW b n s l = true then 1 else 0, M) := by
  obtain ⟨hs, h4, h5, h6, h7⟩ := h
  have hb := sln_b l hl
  have tb := te_b (b := b) hs
  have kb := tk_b b n s
  have hn := hT.2.1
  apply Wp_eq
  unfold f_X6_isWord
  refine Wp_letI ?_; intro v ev
  rw [h4] at ev
  subst ev
  by_cases c : tk b n s = 1
  · refine Wp_f (fun q => q (by rw [c]; rfl)) ?_
    refine Wp_letI ?_; intro v ev
    rw [h6] at ev
    subst ev
    refine Wp_letI ?_; intro v ev
    rw [h5] at ev
    subst ev
    refine Wp_letI ?_; intro v ev
    have ev : nI (sln l) = v := ev
    subst ev
    rw [pk_sub tb.1]
    by_cases d : te b n s - s = sln l
    · refine Wp_t (by rw [d]) ?_
      rw [show f_X6_isWord_28 l kr_F (0 : Int32) M = _ from isW_28 hT hl h5 (by omega) kr_F 0 (by omega) (kr_F_gt _ (by omega))]
      refine Wp_some ?_
      by_cases e : ∀ j, j < sln l → 0 ≤ j → b (s + j) = kr_sch l (nI j)
      · rw [if_pos e, if_pos (isW_t.mpr ⟨c, d, fun i hi => e i hi (Nat.zero_le _)⟩)]
      · rw [if_neg e, if_neg (fun q => e (fun j a1 _ => (isW_t.mp q).2.2 j a1))]
    · refine Wp_f (fun q => d ((nI_eq (by omega) (by omega)).mp q)) (Wp_some ?_)
      rw [if_neg (fun q => d (isW_t.mp q).2.1)]
  · refine Wp_t (fun q => c ((nI_eq (b := 1) (by omega) (by omega)).mp q)) (Wp_some ?_)
    rw [if_neg (fun q => c (isW_t.mp q).1)]
/-! where the reading stands: at a token, or at a fault -/
abbrev SG : Type := Option (Nat × Nat) × Nat
def StG (M : kr_M) (b : Nat → Int32) (n s : Nat) : Prop := M.1 1 2 = 0 ∧ M.1 1 3 = -1 ∧ CK M b n s
def StB (M : kr_M) (b : Nat → Int32) (n : Nat) (e : Nat × Nat) : Prop := M.1 1 2 = nI e.1 ∧ 1 ≤ e.1 ∧ e.1 ≤ 3 ∧ M.1 1 3 = nI e.2 ∧ (M.1 1 4 = 0 ∨ ∃ s, CK M b n s)
def St (M : kr_M) (b : Nat → Int32) (n : Nat) : SG → Prop
  | (none, s) => StG M b n s
  | (some e, _) => StB M b n e
def sNext (b : Nat → Int32) (n : Nat) : SG → SG
  | (none, s) => (none, nxt_ b n s)
  | (some e, s) => (some e, s)
def sFail (k : Nat) : SG → SG
  | (none, s) => (some (k, s), s)
  | (some e, s) => (some e, s)
def sName (b : Nat → Int32) (n l : Nat) : SG → SG
  | (none, s) => if isW b n s l = true then (none, nxt_ b n s) else (some (1, s), s)
  | (some e, s) => (some e, s)
def sNum (b : Nat → Int32) (n lo hi : Nat) : SG → SG
  | (none, s) => if tk b n s = 2 then (if lo ≤ tv b n s ∧ tv b n s < hi then (none, nxt_ b n s) else (some (2, s), s)) else (some (1, s), s)
  | (some e, s) => (some e, s)
def sSign (b : Nat → Int32) (n : Nat) : SG → SG
  | (none, s) => if tk b n s = 3 then (none, nxt_ b n s) else (some (1, s), s)
  | (some e, s) => (some e, s)
theorem sNext_g {b : Nat → Int32} {n : Nat} {σ : SG} (h : (sNext b n σ).1 = none) : σ.1 = none := by
  obtain ⟨o, s⟩ := σ
  cases o with
  | none => rfl
  | some e => exact h
theorem sFail_g {k : Nat} {σ : SG} (h : (sFail k σ).1 = none) : False := by
  obtain ⟨o, s⟩ := σ
  cases o with
  | none => exact absurd h (by simp [sFail])
  | some e => exact absurd h (by simp [sFail])
theorem sName_g {b : Nat → Int32} {n l : Nat} {σ : SG} (h : (sName b n l σ).1 = none) : σ.1 = none := by
  obtain ⟨o, s⟩ := σ
  cases o with
  | none => rfl
  | some e => exact h
theorem sNum_g {b : Nat → Int32} {n lo hi : Nat} {σ : SG} (h : (sNum b n lo hi σ).1 = none) : σ.1 = none ∧ tk b n σ.2 = 2 ∧ lo ≤ tv b n σ.2 ∧ tv b n σ.2 < hi := by
  obtain ⟨o, s⟩ := σ
  cases o with
  | none =>
    have h : (if tk b n s = 2 then (if lo ≤ tv b n s ∧ tv b n s < hi then ((none, nxt_ b n s) : SG) else (some (2, s), s)) else (some (1, s), s)).1 = none := h
    by_cases c : tk b n s = 2
    · rw [if_pos c] at h
      by_cases d : lo ≤ tv b n s ∧ tv b n s < hi
      · exact ⟨rfl, c, d⟩
      · rw [if_neg d] at h; exact absurd h (by simp)
    · rw [if_neg c] at h; exact absurd h (by simp)
  | some e => exact absurd h (by simp [sNum])
theorem sSign_g {b : Nat → Int32} {n : Nat} {σ : SG} (h : (sSign b n σ).1 = none) : σ.1 = none := by
  obtain ⟨o, s⟩ := σ
  cases o with
  | none => rfl
  | some e => exact h
abbrev tpX : Nat → Nat → Prop := fun a j => a = 1 ∧ 2 ≤ j ∧ j ≤ 7
theorem tn_tp {M M' : kr_M} (h : Fx tnX M M') : Fx tpX M M' := h.mono (fun a j q => ⟨q.1, by have := q.2; omega, q.2.2⟩)
theorem TC.tp {M M' : kr_M} {b : Nat → Int32} {n : Nat} (h : TC M b n) (hf : Fx tpX M M') : TC M' b n := h.fx hf (fun q => by have q : 1 = 1 ∧ 2 ≤ 1 ∧ 1 ≤ 7 := q; omega) (fun j q => by have q : 2 = 1 ∧ 2 ≤ j ∧ j ≤ 7 := q; omega)
theorem k_next {M : kr_M} {b : Nat → Int32} {n : Nat} {σ : SG} (hT : TC M b n) (h : St M b n σ) : Wp (f_X6_next M) (fun M' => St M' b n (sNext b n σ) ∧ Fx tpX M M') := by
  obtain ⟨o, s⟩ := σ
  cases o with
  | none =>
    obtain ⟨h2, h3, h4⟩ := h
    refine Wp_mono (c_next hT h2 (te_b h4.1).2 h4.2.2.2.1) (fun M' ⟨q1, q2⟩ => ⟨⟨?_, ?_, q1⟩, tn_tp q2⟩)
    · rw [q2.1 1 2 (fun q => by have q : 1 = 1 ∧ 4 ≤ 2 ∧ 2 ≤ 7 := q; omega)]; exact h2
    · rw [q2.1 1 3 (fun q => by have q : 1 = 1 ∧ 4 ≤ 3 ∧ 3 ≤ 7 := q; omega)]; exact h3
  | some e =>
    obtain ⟨h2, h3, h4, h5, h6⟩ := h
    unfold f_X6_next
    refine Wp_letI ?_; intro v ev
    rw [h2] at ev
    subst ev
    refine Wp_f (nI_ne0 (by omega) (by omega)) ?_
    refine Wp_letI ?_; intro M4 e4
    have hf : Fx tpX M M4 := by rw [← e4]; exact (Fx.refl M).si _ ⟨rfl, by omega, by omega⟩
    refine Wp_some ⟨⟨?_, h3, h4, ?_, Or.inl ?_⟩, hf⟩
    · rw [← e4, kg_si, if_neg (by omega)]; exact h2
    · rw [← e4, kg_si, if_neg (by omega)]; exact h5
    · rw [← e4, kr_si_at]
theorem k_blame {M : kr_M} {b : Nat → Int32} {n k : Nat} {σ : SG} (hk : 1 ≤ k ∧ k ≤ 3) (h : St M b n σ) : Wp (f_X6_blame (nI k) M) (fun M' => St M' b n (sFail k σ) ∧ Fx tpX M M') := by
  obtain ⟨o, s⟩ := σ
  unfold f_X6_blame
  cases o with
  | none =>
    obtain ⟨h2, h3, h4, h5, h6, h7, h8⟩ := h
    refine Wp_letI ?_; intro v ev
    rw [h2] at ev
    subst ev
    refine Wp_f (fun q => q rfl) ?_
    refine Wp_letI ?_; intro M2 e2
    refine Wp_letI ?_; intro v ev
    rw [← e2, kg_si, if_neg (by omega), h6] at ev
    subst ev
    refine Wp_letI ?_; intro M4 e4
    have hf : Fx (fun a j => a = 1 ∧ (j = 2 ∨ j = 3)) M M4 := by rw [← e4, ← e2]; exact ((Fx.refl M).si _ ⟨rfl, Or.inl rfl⟩).si _ ⟨rfl, Or.inr rfl⟩
    refine Wp_some ⟨⟨?_, hk.1, hk.2, ?_, Or.inr ⟨s, h4, ?_, ?_, ?_, ?_⟩⟩, hf.mono (fun a j q => ⟨q.1, by have := q.2; omega, by have := q.2; omega⟩)⟩
    · rw [← e4, kg_si, if_neg (by omega), ← e2, kr_si_at]
    · rw [← e4, kr_si_at]
    · rw [hf.1 1 4 (fun q => by have q : 1 = 1 ∧ (4 = 2 ∨ 4 = 3) := q; omega)]; exact h5
    · rw [hf.1 1 5 (fun q => by have q : 1 = 1 ∧ (5 = 2 ∨ 5 = 3) := q; omega)]; exact h6
    · rw [hf.1 1 6 (fun q => by have q : 1 = 1 ∧ (6 = 2 ∨ 6 = 3) := q; omega)]; exact h7
    · rw [hf.1 1 7 (fun q => by have q : 1 = 1 ∧ (7 = 2 ∨ 7 = 3) := q; omega)]; exact h8
  | some e =>
    have h' := h
    obtain ⟨h2, h3, h4, h5, h6⟩ := h'
    refine Wp_letI ?_; intro v ev
    rw [h2] at ev
    subst ev
    exact Wp_t (nI_ne0 (by omega) (by omega)) (Wp_some ⟨h, Fx.refl M⟩)
theorem k_anyW {M : kr_M} {b : Nat → Int32} {n l : Nat} {σ : SG} (hT : TC M b n) (hl : l < 17) (h : St M b n σ) : ∃ r, f_X6_isWord l M = some (r, M) ∧ (σ.1 = none → r = if isW b n σ.2 l = true then 1 else 0) := by
  obtain ⟨o, s⟩ := σ
  cases o with
  | none => exact ⟨_, k_isW hT hl h.2.2, fun _ => rfl⟩
  | some e =>
    obtain ⟨h2, h3, h4, h5, h6⟩ := h
    rcases h6 with h6 | ⟨s', h6⟩
    · refine ⟨0, ?_, fun q => absurd q (by simp)⟩
      apply Wp_eq
      unfold f_X6_isWord
      refine Wp_letI ?_; intro v ev
      rw [h6] at ev
      subst ev
      exact Wp_t (by decide) (Wp_some rfl)
    · exact ⟨_, k_isW hT hl h6, fun q => absurd q (by simp)⟩
theorem k_name {M : kr_M} {b : Nat → Int32} {n l : Nat} {σ : SG} (hT : TC M b n) (hl : l < 17) (h : St M b n σ) : Wp (f_X6_name l M) (fun M' => St M' b n (sName b n l σ) ∧ Fx tpX M M') := by
  obtain ⟨r, hr, hr2⟩ := k_anyW hT hl h
  obtain ⟨o, s⟩ := σ
  unfold f_X6_name
  rw [hr]
  refine Wp_bis ?_
  cases o with
  | none =>
    have hr2 : r = if isW b n s l = true then 1 else 0 := hr2 rfl
    show Wp _ (fun M' => St M' b n (if isW b n s l = true then (none, nxt_ b n s) else (some (1, s), s)) ∧ Fx tpX M M')
    by_cases c : isW b n s l = true
    · rw [if_pos c] at hr2 ⊢
      subst hr2
      refine Wp_f (by decide) ?_
      exact Wp_bv _ (k_next hT h) (fun M' q => Wp_some q)
    · rw [if_neg c] at hr2 ⊢
      subst hr2
      refine Wp_t rfl ?_
      exact Wp_bv _ (k_blame (k := 1) (by omega) h) (fun M' q => Wp_some q)
  | some e =>
    refine Wp_c (fun _ => ?_) (fun _ => ?_)
    · exact Wp_bv _ (k_blame (k := 1) (by omega) h) (fun M' q => Wp_some q)
    · exact Wp_bv _ (k_next hT h) (fun M' q => Wp_some q)
theorem k_37 {M : kr_M} {b : Nat → Int32} {n : Nat} {σ : SG} (hT : TC M b n) (h : St M b n σ) : Wp (f_X6_number_37 M) (fun x => St x.2 b n (sNext b n σ) ∧ Fx tpX M x.2 ∧ x.1 = M.1 1 7) := by
  unfold f_X6_number_37
  refine Wp_letI ?_; intro v ev
  exact Wp_bv _ (k_next hT h) (fun M' q => Wp_some ⟨q.1, q.2, ev.symm⟩)
theorem k_b37 {M : kr_M} {b : Nat → Int32} {n k : Nat} {σ : SG} (hT : TC M b n) (hk : 1 ≤ k ∧ k ≤ 3) (h : St M b n σ) : Wp (kr_bv (f_X6_blame (nI k) M) fun M1 => f_X6_number_37 M1) (fun x => St x.2 b n (sFail k σ) ∧ Fx tpX M x.2) := by
  refine Wp_bv _ (k_blame hk h) (fun M1 ⟨a1, a2⟩ => ?_)
  refine Wp_mono (k_37 (hT.tp a2) a1) (fun x ⟨q1, q2, _⟩ => ⟨?_, a2.trans q2⟩)
  obtain ⟨o, s⟩ := σ
  cases o with
  | none => exact q1
  | some e => exact q1
theorem k_num {M : kr_M} {b : Nat → Int32} {n lo hi : Nat} {p2 : Int32} {σ : SG} (hT : TC M b n) (hlo : lo ≤ 1000) (hp : p2.toInt = (hi : Int) - 1) (h : St M b n σ) : Wp (f_X6_number (nI lo) p2 M) (fun x => St x.2 b n (sNum b n lo hi σ) ∧ Fx tpX M x.2 ∧ ((sNum b n lo hi σ).1 = none → x.1 = nI (tv b n σ.2))) := by
  have w32 : Wp (f_X6_number_32 M) (fun x => St x.2 b n (sFail 2 σ) ∧ Fx tpX M x.2) := by
    unfold f_X6_number_32
    exact k_b37 (k := 2) hT (by omega) h
  have w1 : Wp (kr_bv (f_X6_blame (1 : Int32) M) fun M4 => f_X6_number_37 M4) (fun x => St x.2 b n (sFail 1 σ) ∧ Fx tpX M x.2) := k_b37 (k := 1) hT (by omega) h
  obtain ⟨o, s⟩ := σ
  unfold f_X6_number
  cases o with
  | none =>
    have h' := h
    obtain ⟨h2, h3, h4, h5, h6, h7, h8⟩ := h'
    have kb := tk_b b n s
    have vb := tv_b b n s
    show Wp _ (fun (x : Int32 × kr_M) => St x.2 b n (if tk b n s = 2 then (if lo ≤ tv b n s ∧ tv b n s < hi then (none, nxt_ b n s) else (some (2, s), s)) else (some (1, s), s)) ∧ Fx tpX M x.2 ∧ ((if tk b n s = 2 then (if lo ≤ tv b n s ∧ tv b n s < hi then ((none, nxt_ b n s) : SG) else (some (2, s), s)) else (some (1, s), s)).1 = none → x.1 = nI (tv b n s)))
    refine Wp_letI ?_; intro v ev
    rw [h5] at ev
    subst ev
    by_cases c : tk b n s = 2
    · rw [if_pos c]
      refine Wp_t (by rw [c]; rfl) ?_
      refine Wp_letI ?_; intro v ev
      rw [h8] at ev
      subst ev
      have bad : ¬ (lo ≤ tv b n s ∧ tv b n s < hi) → Wp (f_X6_number_32 M) (fun x => St x.2 b n (if lo ≤ tv b n s ∧ tv b n s < hi then (none, nxt_ b n s) else (some (2, s), s)) ∧ Fx tpX M x.2 ∧ ((if lo ≤ tv b n s ∧ tv b n s < hi then ((none, nxt_ b n s) : SG) else (some (2, s), s)).1 = none → x.1 = nI (tv b n s))) := fun z => by
        rw [if_neg z]
        exact Wp_mono w32 (fun x q => ⟨q.1, q.2, fun y => absurd y (by simp)⟩)
      by_cases d : tv b n s < lo
      · exact Wp_t ((nI_ltI (by omega) (by omega)).mpr d) (bad (by omega))
      · refine Wp_f (fun q => d ((nI_ltI (by omega) (by omega)).mp q)) ?_
        refine Wp_letI ?_; intro v ev
        rw [h8] at ev
        subst ev
        have iff : nI (tv b n s) ≤ p2 ↔ tv b n s < hi := by
          rw [kz_le, hp, nI_toInt (by omega)]
          omega
        by_cases e : tv b n s < hi
        · refine Wp_t (iff.mpr e) ?_
          rw [if_pos ⟨by omega, e⟩]
          exact Wp_mono (k_37 hT h) (fun x ⟨q1, q2, q3⟩ => ⟨q1, q2, fun _ => by rw [q3, h8]⟩)
        · exact Wp_f (fun q => e (iff.mp q)) (bad (fun q => e q.2))
    · rw [if_neg c]
      refine Wp_f (fun q => c ((nI_eq (b := 2) (by omega) (by omega)).mp q)) ?_
      exact Wp_mono w1 (fun x q => ⟨q.1, q.2, fun y => absurd y (by simp)⟩)
  | some e =>
    have k37 : Wp (f_X6_number_37 M) (fun x => St x.2 b n (some e, s) ∧ Fx tpX M x.2) := Wp_mono (k_37 hT h) (fun x q => ⟨q.1, q.2.1⟩)
    have key : Wp (kr_let (M.1 1 4) fun v1 => (if v1 = (2 : Int32) then kr_let (M.1 1 7) fun v2 => (if v2 < nI lo then (f_X6_number_32 M) else kr_let (M.1 1 7) fun v3 => (if v3 ≤ p2 then (f_X6_number_37 M) else (f_X6_number_32 M))) else kr_bv (f_X6_blame (1 : Int32) M) fun M4 => (f_X6_number_37 M4))) (fun x => St x.2 b n (some e, s) ∧ Fx tpX M x.2) := by
      refine Wp_letI ?_; intro v ev
      refine Wp_c (fun _ => ?_) (fun _ => w1)
      refine Wp_letI ?_; intro v ev
      refine Wp_c (fun _ => w32) (fun _ => ?_)
      refine Wp_letI ?_; intro v ev
      exact Wp_c (fun _ => k37) (fun _ => w32)
    exact Wp_mono key (fun x q => ⟨q.1, q.2, fun y => absurd y (by simp [sNum])⟩)
theorem k_named {M : kr_M} {b : Nat → Int32} {n l lo hi : Nat} {p2 : Int32} {σ : SG} (hT : TC M b n) (hl : l < 17) (hlo : lo ≤ 1000) (hp : p2.toInt = (hi : Int) - 1) (h : St M b n σ) : Wp (f_X6_named l (nI lo) p2 M) (fun x => St x.2 b n (sNum b n lo hi (sName b n l σ)) ∧ Fx tpX M x.2 ∧ ((sNum b n lo hi (sName b n l σ)).1 = none → x.1 = nI (tv b n (sName b n l σ).2))) := by
  unfold f_X6_named
  refine Wp_bv _ (k_name hT hl h) (fun M1 ⟨a1, a2⟩ => ?_)
  refine Wp_bi _ (k_num (hT.tp a2) hlo hp a1) (fun z M2 ⟨q1, q2, q3⟩ => Wp_some ⟨q1, a2.trans q2, q3⟩)
theorem k_sign {M : kr_M} {b : Nat → Int32} {n : Nat} {σ : SG} (hT : TC M b n) (h : St M b n σ) : Wp (f_X6_sign M) (fun M' => St M' b n (sSign b n σ) ∧ Fx tpX M M') := by
  obtain ⟨o, s⟩ := σ
  unfold f_X6_sign
  have fin : ∀ M1 τ, TC M1 b n → St M1 b n τ → Wp (f_X6_sign_13 M1) (fun M' => St M' b n (sNext b n τ) ∧ Fx tpX M1 M') := fun M1 τ a1 a2 => by
    unfold f_X6_sign_13
    exact Wp_bv _ (k_next a1 a2) (fun M' q => Wp_some q)
  have bl : Wp (kr_bv (f_X6_blame (1 : Int32) M) fun M2 => f_X6_sign_13 M2) (fun M' => St M' b n (sNext b n (sFail 1 (o, s))) ∧ Fx tpX M M') := by
    refine Wp_bv _ (k_blame (k := 1) (by omega) h) (fun M1 ⟨a1, a2⟩ => ?_)
    exact Wp_mono (fin M1 _ (hT.tp a2) a1) (fun M' q => ⟨q.1, a2.trans q.2⟩)
  cases o with
  | none =>
    have h' := h
    obtain ⟨h2, h3, h4, h5, h6, h7, h8⟩ := h'
    have kb := tk_b b n s
    show Wp _ (fun M' => St M' b n (if tk b n s = 3 then (none, nxt_ b n s) else (some (1, s), s)) ∧ Fx tpX M M')
    refine Wp_letI ?_; intro v ev
    rw [h5] at ev
    subst ev
    by_cases c : tk b n s = 3
    · rw [if_pos c]
      exact Wp_t (by rw [c]; rfl) (fin M _ hT h)
    · rw [if_neg c]
      exact Wp_f (fun q => c ((nI_eq (b := 3) (by omega) (by omega)).mp q)) bl
  | some e =>
    refine Wp_letI ?_; intro v ev
    exact Wp_c (fun _ => fin M _ hT h) (fun _ => bl)
