/-! a gorge moved: what a gorge's tie hangs on -/
def rl (ro pe : Nat) (R R' : rp_S) : Prop := (∀ r, r < ro → R'.2.1 r = R.2.1 r ∧ R'.2.2.1 r = R.2.2.1 r ∧ ∀ i, i < R.2.1 r → R'.1 r i = R.1 r i) ∧ (∀ p, p < pe → R'.2.2.2.1 p = R.2.2.2.1 p) ∧ R'.2.2.2.2 = R.2.2.2.2
theorem rl_1 {M M' : kr_M} {g g' k : Nat} {R R' : rp_S} (hd : ∀ j, j < 4 → rp_d M' g' k j = rp_d M g k j) (hr : ∀ r, r < zn (M.1 g 6) → M'.1 (g' + 31 + 5 * r) 0 = M.1 (g + 31 + 5 * r) 0 ∧ M'.1 (g' + 31 + 5 * r) 1 = M.1 (g + 31 + 5 * r) 1) (hv : rp_v M g R k) (h : rl (zn (M.1 g 6)) (zn (M.1 g 7)) R R') : rl (zn (M.1 g 6)) (zn (M.1 g 7)) (rp_1 M g R k) (rp_1 M' g' R' k) := by
  obtain ⟨h1, h2, h3⟩ := h
  have q0 := hd 0 (by omega)
  have q1 := hd 1 (by omega)
  have q2 := hd 2 (by omega)
  have q3 := hd 3 (by omega)
  rcases hv with ⟨d0, a1, a2, a3, a4, a5⟩ | ⟨d0, a1, a2, a3, a4, a5, a6⟩ | ⟨d0, a1, a2, a3, a4⟩ | ⟨d0, a1, a2, a3, a4, a5⟩ | ⟨d0, a1⟩
  · have e : rp_1 M g R k = (R.1, R.2.1, fun r => if r = zn (rp_d M g k 2) then R.2.2.1 r + 1 else R.2.2.1 r, fun p => if p = zn (rp_d M g k 1) then rp_oe M g (zn (rp_d M g k 2)) (R.2.2.2.1 p) else R.2.2.2.1 p, R.2.2.2.2) := by unfold rp_1; rw [if_pos d0]
    have e' : rp_1 M' g' R' k = (R'.1, R'.2.1, fun r => if r = zn (rp_d M g k 2) then R'.2.2.1 r + 1 else R'.2.2.1 r, fun p => if p = zn (rp_d M g k 1) then rp_oe M' g' (zn (rp_d M g k 2)) (R'.2.2.2.1 p) else R'.2.2.2.1 p, R'.2.2.2.2) := by unfold rp_1; rw [if_pos (by rw [q0]; exact d0), q1, q2]
    have hz : zn (rp_d M g k 2) < zn (M.1 g 6) := zn_lt a3 a4
    rw [e, e']
    refine ⟨fun r hr' => ⟨(h1 r hr').1, ?_, (h1 r hr').2.2⟩, fun p hp => ?_, h3⟩
    · show (if r = zn (rp_d M g k 2) then R'.2.2.1 r + 1 else R'.2.2.1 r) = (if r = zn (rp_d M g k 2) then R.2.2.1 r + 1 else R.2.2.1 r)
      rw [(h1 r hr').2.1]
    · show (if p = zn (rp_d M g k 1) then rp_oe M' g' (zn (rp_d M g k 2)) (R'.2.2.2.1 p) else R'.2.2.2.1 p) = (if p = zn (rp_d M g k 1) then rp_oe M g (zn (rp_d M g k 2)) (R.2.2.2.1 p) else R.2.2.2.1 p)
      rw [h2 p hp]
      unfold rp_oe
      rw [(hr _ hz).1, (hr _ hz).2]
  · have e : rp_1 M g R k = (fun r i => if r = zn (rp_d M g k 1) ∧ i = zn (rp_d M g k 2) then rp_d M g k 3 else R.1 r i, R.2) := by unfold rp_1; rw [if_neg (by rw [d0]; decide), if_pos d0]
    have e' : rp_1 M' g' R' k = (fun r i => if r = zn (rp_d M g k 1) ∧ i = zn (rp_d M g k 2) then rp_d M g k 3 else R'.1 r i, R'.2) := by unfold rp_1; rw [q0, if_neg (by rw [d0]; decide), if_pos d0, q1, q2, q3]
    rw [e, e']
    refine ⟨fun r hr' => ⟨(h1 r hr').1, (h1 r hr').2.1, fun i hi => ?_⟩, h2, h3⟩
    show (if r = zn (rp_d M g k 1) ∧ i = zn (rp_d M g k 2) then rp_d M g k 3 else R'.1 r i) = (if r = zn (rp_d M g k 1) ∧ i = zn (rp_d M g k 2) then rp_d M g k 3 else R.1 r i)
    rw [(h1 r hr').2.2 i hi]
  · have e : rp_1 M g R k = (R.1, fun r => if r = zn (rp_d M g k 1) then zn (rp_d M g k 2) else R.2.1 r, R.2.2) := by unfold rp_1; rw [if_neg (by rw [d0]; decide), if_neg (by rw [d0]; decide), if_pos d0]
    have e' : rp_1 M' g' R' k = (R'.1, fun r => if r = zn (rp_d M g k 1) then zn (rp_d M g k 2) else R'.2.1 r, R'.2.2) := by unfold rp_1; rw [q0, if_neg (by rw [d0]; decide), if_neg (by rw [d0]; decide), if_pos d0, q1, q2]
    rw [e, e']
    refine ⟨fun r hr' => ⟨?_, (h1 r hr').2.1, fun i hi => ?_⟩, h2, h3⟩
    · show (if r = zn (rp_d M g k 1) then zn (rp_d M g k 2) else R'.2.1 r) = (if r = zn (rp_d M g k 1) then zn (rp_d M g k 2) else R.2.1 r)
      rw [(h1 r hr').1]
    · have hi : i < (if r = zn (rp_d M g k 1) then zn (rp_d M g k 2) else R.2.1 r) := hi
      refine (h1 r hr').2.2 i ?_
      by_cases c : r = zn (rp_d M g k 1)
      · rw [if_pos c] at hi
        rw [← c] at a4
        unfold zn at hi
        omega
      · rw [if_neg c] at hi
        exact hi
  · have e : rp_1 M g R k = (fun r i => if r = zn (rp_d M g k 1) ∧ R.2.1 r ≤ i ∧ i < R.2.1 r + R.2.1 (zn (rp_d M g k 2)) then R.1 (zn (rp_d M g k 2)) (i - R.2.1 r) else R.1 r i, fun r => if r = zn (rp_d M g k 1) then R.2.1 r + R.2.1 (zn (rp_d M g k 2)) else R.2.1 r, R.2.2) := by unfold rp_1; rw [if_neg (by rw [d0]; decide), if_neg (by rw [d0]; decide), if_neg (by rw [d0]; decide), if_pos d0]
    have e' : rp_1 M' g' R' k = (fun r i => if r = zn (rp_d M g k 1) ∧ R'.2.1 r ≤ i ∧ i < R'.2.1 r + R'.2.1 (zn (rp_d M g k 2)) then R'.1 (zn (rp_d M g k 2)) (i - R'.2.1 r) else R'.1 r i, fun r => if r = zn (rp_d M g k 1) then R'.2.1 r + R'.2.1 (zn (rp_d M g k 2)) else R'.2.1 r, R'.2.2) := by unfold rp_1; rw [q0, if_neg (by rw [d0]; decide), if_neg (by rw [d0]; decide), if_neg (by rw [d0]; decide), if_pos d0, q1, q2]
    have hz : zn (rp_d M g k 2) < zn (M.1 g 6) := zn_lt a3 a4
    obtain ⟨z1, z2, z3⟩ := h1 _ hz
    rw [e, e']
    refine ⟨fun r hr' => ⟨?_, (h1 r hr').2.1, fun i hi => ?_⟩, h2, h3⟩
    · show (if r = zn (rp_d M g k 1) then R'.2.1 r + R'.2.1 (zn (rp_d M g k 2)) else R'.2.1 r) = (if r = zn (rp_d M g k 1) then R.2.1 r + R.2.1 (zn (rp_d M g k 2)) else R.2.1 r)
      rw [(h1 r hr').1, z1]
    · have hi : i < (if r = zn (rp_d M g k 1) then R.2.1 r + R.2.1 (zn (rp_d M g k 2)) else R.2.1 r) := hi
      show (if r = zn (rp_d M g k 1) ∧ R'.2.1 r ≤ i ∧ i < R'.2.1 r + R'.2.1 (zn (rp_d M g k 2)) then R'.1 (zn (rp_d M g k 2)) (i - R'.2.1 r) else R'.1 r i) = (if r = zn (rp_d M g k 1) ∧ R.2.1 r ≤ i ∧ i < R.2.1 r + R.2.1 (zn (rp_d M g k 2)) then R.1 (zn (rp_d M g k 2)) (i - R.2.1 r) else R.1 r i)
      rw [(h1 r hr').1, z1]
      by_cases c : r = zn (rp_d M g k 1) ∧ R.2.1 r ≤ i ∧ i < R.2.1 r + R.2.1 (zn (rp_d M g k 2))
      · rw [if_pos c, if_pos c, z3 _ (by omega)]
      · rw [if_neg c, if_neg c]
        refine (h1 r hr').2.2 i ?_
        by_cases c2 : r = zn (rp_d M g k 1)
        · rw [if_pos c2] at hi
          exact Nat.lt_of_not_le (fun q => c ⟨c2, q, hi⟩)
        · rw [if_neg c2] at hi
          exact hi
  · have e : rp_1 M g R k = (R.1, R.2.1, R.2.2.1, R.2.2.2.1, rp_d M g k 1) := by unfold rp_1; rw [if_neg (by rw [d0]; decide), if_neg (by rw [d0]; decide), if_neg (by rw [d0]; decide), if_neg (by rw [d0]; decide)]
    have e' : rp_1 M' g' R' k = (R'.1, R'.2.1, R'.2.2.1, R'.2.2.2.1, rp_d M g k 1) := by unfold rp_1; rw [q0, if_neg (by rw [d0]; decide), if_neg (by rw [d0]; decide), if_neg (by rw [d0]; decide), if_neg (by rw [d0]; decide), q1]
    rw [e, e']
    exact ⟨h1, h2, rfl⟩
theorem rl_v {M M' : kr_M} {g g' k : Nat} {R R' : rp_S} (e4 : M'.1 g' 4 = M.1 g 4) (e6 : M'.1 g' 6 = M.1 g 6) (e7 : M'.1 g' 7 = M.1 g 7) (hd : ∀ j, j < 4 → rp_d M' g' k j = rp_d M g k j) (hr : ∀ r, r < zn (M.1 g 6) → M'.1 (g' + 31 + 5 * r) 0 = M.1 (g + 31 + 5 * r) 0 ∧ M'.1 (g' + 31 + 5 * r) 1 = M.1 (g + 31 + 5 * r) 1) (h : rl (zn (M.1 g 6)) (zn (M.1 g 7)) R R') (hv : rp_v M g R k) : rp_v M' g' R' k := by
  obtain ⟨h1, h2, h3⟩ := h
  unfold rp_v
  rw [hd 0 (by omega), hd 1 (by omega), hd 2 (by omega), hd 3 (by omega), e4, e6, e7]
  rcases hv with ⟨d0, a1, a2, a3, a4, a5⟩ | ⟨d0, a1, a2, a3, a4, a5, a6⟩ | ⟨d0, a1, a2, a3, a4⟩ | ⟨d0, a1, a2, a3, a4, a5⟩ | ⟨d0, a1⟩
  · refine Or.inl ⟨d0, a1, a2, a3, a4, ?_⟩
    rw [h2 _ (zn_lt a1 a2), (hr _ (zn_lt a3 a4)).1, (hr _ (zn_lt a3 a4)).2]
    exact a5
  · refine Or.inr (Or.inl ⟨d0, a1, a2, a3, ?_, a5, a6⟩)
    rw [(h1 _ (zn_lt a1 a2)).1]
    exact a4
  · refine Or.inr (Or.inr (Or.inl ⟨d0, a1, a2, a3, ?_⟩))
    rw [(h1 _ (zn_lt a1 a2)).1]
    exact a4
  · refine Or.inr (Or.inr (Or.inr (Or.inl ⟨d0, a1, a2, a3, a4, ?_⟩)))
    rw [(h1 _ (zn_lt a1 a2)).1, (h1 _ (zn_lt a3 a4)).1]
    exact a5
  · exact Or.inr (Or.inr (Or.inr (Or.inr ⟨d0, a1⟩)))
/-- the class's rows of a gorge are those of another one, as far as they count -/
def gE (M : kr_M) (g : Nat) (M' : kr_M) (g' : Nat) : Prop := (∀ j, j < 10 → M'.1 g' j = M.1 g j) ∧ (∀ k, k < zn (M.1 g 4) → M'.1 (g' + 1) k = M.1 (g + 1) k ∧ M'.1 (g' + 2) k = M.1 (g + 2) k) ∧ (∀ w, w < zn (M.1 g 5) → M'.1 (g' + 11 + 2 * w) 1 = M.1 (g + 11 + 2 * w) 1 ∧ M'.1 (g' + 4) w = M.1 (g + 4) w ∧ ∀ i, i < zn (M.1 (g + 11 + 2 * w) 1) → M'.1 (g' + 12 + 2 * w) i = M.1 (g + 12 + 2 * w) i) ∧ (∀ r, r < zn (M.1 g 6) → (∀ j, j < 4 → M'.1 (g' + 31 + 5 * r) j = M.1 (g + 31 + 5 * r) j) ∧ M'.1 (g' + 32 + 5 * r) 1 = M.1 (g + 32 + 5 * r) 1 ∧ (∀ i, i < zn (M.1 (g + 32 + 5 * r) 1) → M'.1 (g' + 33 + 5 * r) i = M.1 (g + 33 + 5 * r) i) ∧ M'.1 (g' + 34 + 5 * r) 1 = M.1 (g + 34 + 5 * r) 1 ∧ ∀ i, i < zn (M.1 (g + 34 + 5 * r) 1) → M'.1 (g' + 35 + 5 * r) i = M.1 (g + 35 + 5 * r) i) ∧ (∀ p, p < zn (M.1 g 7) → M'.1 (g' + 6) p = M.1 (g + 6) p ∧ M'.1 (g' + 7) p = M.1 (g + 7) p ∧ M'.1 (g' + 8) p = M.1 (g + 8) p ∧ M'.1 (g' + 9) p = M.1 (g + 9) p) ∧ (∀ k, k < 4 * zn (M.1 g 9) → M'.1 (g' + 10) k = M.1 (g + 10) k)
/-- the reference's rows of a gorge are those of another one -/
def xE (M : kr_M) (x : Nat) (M' : kr_M) (x' : Nat) : Prop := M'.1 352 x' = M.1 352 x ∧ (∀ j, j < 8 → M'.1 353 (8 * x' + j) = M.1 353 (8 * x + j)) ∧ (∀ j, j < 6 → M'.1 354 (6 * x' + j) = M.1 354 (6 * x + j)) ∧ (∀ j, j < 6 → M'.1 355 (6 * x' + j) = M.1 355 (6 * x + j)) ∧ (∀ j, j < 10 → M'.1 356 (10 * x' + j) = M.1 356 (10 * x + j)) ∧ (∀ j, j < 10 → M'.1 357 (10 * x' + j) = M.1 357 (10 * x + j)) ∧ (∀ j, j < 40 → M'.1 358 (40 * x' + j) = M.1 358 (40 * x + j)) ∧ (∀ j, j < 24 → M'.1 359 (24 * x' + j) = M.1 359 (24 * x + j)) ∧ (∀ j, j < 72 → M'.1 360 (72 * x' + j) = M.1 360 (72 * x + j)) ∧ (∀ j, j < 18 → M'.1 361 (18 * x' + j) = M.1 361 (18 * x + j)) ∧ (∀ j, j < 160 → M'.1 362 (160 * x' + j) = M.1 362 (160 * x + j))
theorem rl_n {M M' : kr_M} {g g' : Nat} (hV : gs_V M g) (hc : gE M g M' g') : ∀ n, n ≤ zn (M.1 g 9) → rl (zn (M.1 g 6)) (zn (M.1 g 7)) (rp_n M g n) (rp_n M' g' n) := by
  obtain ⟨v1, v2, v3, v4, v5, v6, v7, v8, v9, v10, v11, v12, v13, v14, v15, v16⟩ := hV
  obtain ⟨c1, c2, c3, c4, c5, c6⟩ := hc
  intro n
  induction n with
  | zero =>
    intro _
    refine ⟨fun r hr => ?_, fun p hp => ?_, rfl⟩
    · have r6 : r < 6 := by unfold zn at hr; omega
      obtain ⟨f1, f2, f3, f4⟩ := c4 r hr
      simp only [rp_n, rp_0, if_pos r6]
      rw [f2]
      first | exact ⟨rfl, rfl, f3⟩ | exact ⟨rfl, trivial, f3⟩ | exact ⟨trivial, trivial, f3⟩
    · exact (c5 p hp).2.2.1
  | succ n ih =>
    intro hn
    have i1 := ih (by omega)
    exact rl_1 (fun j hj => c6 (4 * n + j) (by omega)) (fun r hr => ⟨(c4 r hr).1 0 (by omega), (c4 r hr).1 1 (by omega)⟩) (v15 n (by omega)) i1
theorem GS_map {M M' : kr_M} {g g' x x' : Nat} (hc : gE M g M' g') (hx : xE M x M' x') (hG : GS M g x) : GS M' g' x' := by
  obtain ⟨hT, hV, hC⟩ := hG
  have hn := rl_n hV hc
  have hv0 := hV
  obtain ⟨v1, v2, v3, v4, v5, v6, v7, v8, v9, v10, v11, v12, v13, v14, v15, v16⟩ := hV
  obtain ⟨c1, c2, c3, c4, c5, c6⟩ := hc
  obtain ⟨x1, x2, x3, x4, x5, x6, x7, x8, x9, x10, x11⟩ := hx
  obtain ⟨t1, t2, t3, t4, t5, t6, t7, t8⟩ := hT
  have e : ∀ j, j < 10 → M'.1 g' j = M.1 g j := c1
  have e0 := e 0 (by omega)
  have e1 := e 1 (by omega)
  have e2 := e 2 (by omega)
  have e3 := e 3 (by omega)
  have e4 := e 4 (by omega)
  have e5 := e 5 (by omega)
  have e6 := e 6 (by omega)
  have e7 := e 7 (by omega)
  have e8 := e 8 (by omega)
  have e9 := e 9 (by omega)
  have k6 : zn (M.1 g 4) ≤ 6 := zn_le v6.2
  have w10 : zn (M.1 g 5) ≤ 10 := zn_le v7.2
  have r6 : zn (M.1 g 6) ≤ 6 := zn_le v8.2
  have p6 : zn (M.1 g 7) ≤ 6 := zn_le v9.2
  have a40 : zn (M.1 g 9) ≤ 40 := zn_le v10.2
  refine ⟨?_, ?_, ?_⟩
  · refine ⟨by rw [e0, x1]; exact t1, fun j hj => by rw [e _ (by omega), x2 j (by omega)]; exact t2 j hj, by rw [e9, x2 7 (by omega)]; exact t3, fun k hk => ?_, fun w hw => ?_, fun r hr => ?_, fun p hp => ?_, fun k hk => ?_⟩
    · rw [e4] at hk
      rw [(c2 k hk).1, (c2 k hk).2, x3 k (by omega), x4 k (by omega)]
      exact t4 k hk
    · rw [e5] at hw
      obtain ⟨f1, f2, f3⟩ := c3 w hw
      have l4 := (v12 w hw).2.1
      rw [f1, f2, x5 w (by omega), x6 w (by omega)]
      obtain ⟨s1, s2, s3⟩ := t5 w hw
      refine ⟨s1, s2, fun i hi => ?_⟩
      have i4 : i < 4 := by unfold zn at hi; omega
      rw [f3 i hi, x7 (4 * w + i) (by omega)]
      exact s3 i hi
    · rw [e6] at hr
      obtain ⟨f1, f2, f3, f4, f5⟩ := c4 r hr
      have l12 := (v13 r hr).2.2.2.2.2.2.2.2.1
      obtain ⟨s1, s2, s3⟩ := t6 r hr
      refine ⟨fun j hj => by rw [f1 j (by omega), x8 (4 * r + j) (by omega)]; exact s1 j hj, by rw [f2, x8 (4 * r + 3) (by omega)]; exact s2, fun i hi => ?_⟩
      rw [f2] at hi
      have i12 : i < 12 := by unfold zn at hi; omega
      rw [f3 i hi, x9 (12 * r + i) (by omega)]
      exact s3 i hi
    · rw [e7] at hp
      obtain ⟨f1, f2, f3, f4⟩ := c5 p hp
      rw [f1, f2, f3, x10 (3 * p) (by omega), x10 (3 * p + 1) (by omega), x10 (3 * p + 2) (by omega)]
      exact t7 p hp
    · rw [e9] at hk
      rw [c6 k hk, x11 k (by omega)]
      exact t8 k hk
  · unfold gs_V
    rw [e0, e1, e2, e3, e4, e5, e6, e7, e9]
    refine ⟨v1, fun q j h1 h2 => by rw [e j h2]; exact v2 q j h1 h2, v3, v4, v5, v6, v7, v8, v9, v10, fun k hk => ?_, fun w hw => ?_, fun r hr => ?_, fun p hp => ?_, fun k hk => ?_, fun w v hvw hw q1 q2 => ?_⟩
    · rw [(c2 k hk).1, (c2 k hk).2]
      exact v11 k hk
    · obtain ⟨f1, f2, f3⟩ := c3 w hw
      rw [f1, f2]
      obtain ⟨s1, s2, s3, s4, s5⟩ := v12 w hw
      exact ⟨s1, s2, s3, s4, fun i hi => by rw [f3 i hi]; exact s5 i hi⟩
    · obtain ⟨f1, f2, f3, f4, f5⟩ := c4 r hr
      rw [f1 0 (by omega), f1 1 (by omega), f1 2 (by omega), f2]
      obtain ⟨s1, s2, s3, s4, s5, s6, s7, s8, s9, s10⟩ := v13 r hr
      exact ⟨s1, s2, s3, s4, s5, s6, s7, s8, s9, fun i hi => by rw [f3 i hi]; exact s10 i hi⟩
    · obtain ⟨f1, f2, f3, f4⟩ := c5 p hp
      rw [f1, f2, f3]
      exact v14 p hp
    · exact rl_v e4 e6 e7 (fun j hj => c6 (4 * k + j) (by omega)) (fun r hr => ⟨(c4 r hr).1 0 (by omega), (c4 r hr).1 1 (by omega)⟩) (hn k (by omega)) (v15 k hk)
    · have hv : v < zn (M.1 g 5) := by omega
      obtain ⟨f1, f2, f3⟩ := c3 w hw
      obtain ⟨g1, g2, g3⟩ := c3 v hv
      rw [f1, g1] at q1
      refine v16 w v hvw hw q1 (fun i hi => ?_)
      have := q2 i (by rw [g1]; exact hi)
      rw [g3 i hi, f3 i (by rw [← q1]; exact hi)] at this
      exact this
  · obtain ⟨C1, C2, C3⟩ := hC
    have hB := rp_ok hv0 _ (Nat.le_refl _)
    obtain ⟨n1, n2, n3⟩ := hn _ (Nat.le_refl (zn (M.1 g 9)))
    unfold gs_C
    rw [e6, e7, e8, e9]
    refine ⟨fun r hr => ?_, fun p hp => ?_, by rw [n3]; exact C3⟩
    · obtain ⟨f1, f2, f3, f4, f5⟩ := c4 r hr
      obtain ⟨m1, m2, m3⟩ := n1 r hr
      obtain ⟨s1, s2, s3⟩ := C1 r hr
      have b24 := (hB.1 r hr).2.1
      rw [f4, f1 3 (by omega), m1, m2]
      refine ⟨s1, s2, fun i hi => ?_⟩
      rw [f5 i (by rw [s1, zn_nI (by omega)]; exact hi), m3 i hi]
      exact s3 i hi
    · rw [(c5 p hp).2.2.2, n2 p hp]
      exact C2 p hp
/-- the cells that an op on the present gorge may write -/
def sX (w j : Nat) : Prop := j < w ∨ 4 * w ≤ j
def sS (g a j : Nat) : Prop := (g ≤ a ∧ a ≤ g + 60) ∨ (a = 352 ∧ sX 1 j) ∨ (a = 353 ∧ sX 8 j) ∨ (a = 354 ∧ sX 6 j) ∨ (a = 355 ∧ sX 6 j) ∨ (a = 356 ∧ sX 10 j) ∨ (a = 357 ∧ sX 10 j) ∨ (a = 358 ∧ sX 40 j) ∨ (a = 359 ∧ sX 24 j) ∨ (a = 360 ∧ sX 72 j) ∨ (a = 361 ∧ sX 18 j) ∨ (a = 362 ∧ sX 160 j) ∨ (313 ≤ a ∧ a < 346) ∨ (a = 346 ∧ j ≠ 6 ∧ j ≠ 14 ∧ j ≠ 15) ∨ 363 < a
theorem gE_row {M M' : kr_M} {g : Nat} (hV : gs_V M g) (h : ∀ a, g ≤ a → a ≤ g + 60 → M'.1 a = M.1 a) : gE M g M' g := by
  obtain ⟨v1, v2, v3, v4, v5, v6, v7, v8, v9, v10, -⟩ := hV
  have w10 : zn (M.1 g 5) ≤ 10 := zn_le v7.2
  have r6 : zn (M.1 g 6) ≤ 6 := zn_le v8.2
  refine ⟨fun j _ => by rw [h g (by omega) (by omega)], fun k _ => ?_, fun w hw => ?_, fun r hr => ?_, fun p _ => ?_, fun k _ => ?_⟩
  · rw [h (g + 1) (by omega) (by omega), h (g + 2) (by omega) (by omega)]
    exact ⟨rfl, rfl⟩
  · rw [h (g + 11 + 2 * w) (by omega) (by omega), h (g + 4) (by omega) (by omega), h (g + 12 + 2 * w) (by omega) (by omega)]
    exact ⟨rfl, rfl, fun _ _ => rfl⟩
  · rw [h (g + 31 + 5 * r) (by omega) (by omega), h (g + 32 + 5 * r) (by omega) (by omega), h (g + 33 + 5 * r) (by omega) (by omega), h (g + 34 + 5 * r) (by omega) (by omega), h (g + 35 + 5 * r) (by omega) (by omega)]
    exact ⟨fun _ _ => rfl, rfl, fun _ _ => rfl, rfl, fun _ _ => rfl⟩
  · rw [h (g + 6) (by omega) (by omega), h (g + 7) (by omega) (by omega), h (g + 8) (by omega) (by omega), h (g + 9) (by omega) (by omega)]
    exact ⟨rfl, rfl, rfl, rfl⟩
  · rw [h (g + 10) (by omega) (by omega)]
theorem xE_sS {M M' : kr_M} {g x : Nat} (hg : g = 3 ∨ g = 64) (h : ∀ a j, ¬ sS g a j → M'.1 a j = M.1 a j) (h1 : 1 ≤ x) (h3 : x ≤ 3) : xE M x M' x := by
  refine ⟨h _ _ ?_, fun j hj => h _ _ ?_, fun j hj => h _ _ ?_, fun j hj => h _ _ ?_, fun j hj => h _ _ ?_, fun j hj => h _ _ ?_, fun j hj => h _ _ ?_, fun j hj => h _ _ ?_, fun j hj => h _ _ ?_, fun j hj => h _ _ ?_, fun j hj => h _ _ ?_⟩
  all_goals (unfold sS sX; omega)
theorem sD_re {M M' : kr_M} {g : Nat} (hg : g = 3 ∨ g = 64) (h : ∀ a j, ¬ sS g a j → M'.1 a j = M.1 a j) (hD : sD M) : sD M' := by
  intro k hk
  obtain ⟨d1, d2⟩ := hD k hk
  have e9 : M'.1 309 k = M.1 309 k := h _ _ (by unfold sS sX; omega)
  have e3 : M'.1 363 k = M.1 363 k := h _ _ (by unfold sS sX; omega)
  rw [e9, e3]
  refine ⟨d1, ?_⟩
  rcases d2 with d2 | ⟨d2, d3⟩
  · exact Or.inl d2
  · refine Or.inr ⟨d2, GS_map (gE_row d3.2.1 (fun a h1 h2 => funext fun j => h a j ?_)) (xE_sS hg h (by omega) (by omega)) d3⟩
    unfold sS sX
    omega
theorem Sim_re {M M2 : kr_M} {g : Nat} (h : Sim M) (hg : g = M.2.2.1) (hF : Fx (sS g) M M2) (hG : GS M2 g 0) : Sim M2 := by
  have g36 : g = 3 ∨ g = 64 := by
    rw [hg]
    rcases h.1.1 with a | a
    · exact Or.inl a.1
    · exact Or.inr a.1
  obtain ⟨f1, f2⟩ := hF
  obtain ⟨a, b, c, d, e⟩ := h
  have row : ∀ a, a = 1 ∨ a = 2 ∨ a = 311 ∨ a = 312 ∨ a = 347 ∨ a = 348 ∨ a = 351 → M2.1 a = M.1 a := fun a ha => funext fun j => f1 a j (by unfold sS sX; omega)
  refine ⟨by unfold sA; rw [f2]; exact a, ?_, fun s hs => ?_, sD_re g36 f1 d, by rw [f2, ← hg]; exact hG⟩
  · unfold sB
    rw [row 1 (by omega), row 2 (by omega), row 351 (by omega), f1 346 6 (by unfold sS sX; omega), f1 346 14 (by unfold sS sX; omega), f1 346 15 (by unfold sS sX; omega)]
    exact b
  · unfold sC1
    rw [row 312 (by omega), row 311 (by omega), row 347 (by omega), row 348 (by omega), f2]
    exact c s hs
