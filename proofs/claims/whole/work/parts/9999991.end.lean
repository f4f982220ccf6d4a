/-! THE END: both sides begin tied, and stay tied over every call -/
theorem m0_z (a j : Nat) (h1 : a ≠ 1) (h2 : a ≠ 312) (h3 : a ≠ 346) (h4 : a ≠ 347) : kr_M0.1 a j = 0 := by
  show kc_im kr_L0 a j = 0
  simp [kr_L0, kc_im, h1.symm, h2.symm, h3.symm, h4.symm]
theorem m0_GS : GS kr_M0 3 0 := by
  have z : ∀ a j, a ≠ 1 → a ≠ 312 → a ≠ 346 → a ≠ 347 → kr_M0.1 a j = 0 := m0_z
  have zz : ∀ j, kr_M0.1 3 j = 0 := fun j => z 3 j (by omega) (by omega) (by omega) (by omega)
  have t0 : (0 : Int32).toInt = 0 := rfl
  have n0 : zn (0 : Int32) = 0 := rfl
  refine ⟨⟨?_, fun j hj => ?_, ?_, fun k hk => ?_, fun k hk => ?_, fun k hk => ?_, fun k hk => ?_, fun k hk => ?_⟩, ⟨?_, fun _ j _ _ => zz j, fun q => absurd (zz 0) q, ?_, ?_, ?_, ?_, ?_, ?_, ?_, fun k hk => ?_, fun k hk => ?_, fun k hk => ?_, fun k hk => ?_, fun k hk => ?_, fun w v _ hw => ?_⟩, ⟨fun k hk => ?_, fun k hk => ?_, ?_⟩⟩
  · rw [zz, z 352 0 (by omega) (by omega) (by omega) (by omega)]
  · rw [zz, z 353 _ (by omega) (by omega) (by omega) (by omega)]
  · rw [zz, z 353 _ (by omega) (by omega) (by omega) (by omega)]
  all_goals first | (rw [zz, n0] at hk; omega) | (rw [zz, n0] at hw; omega) | (rw [zz, t0]; omega) | skip
  rw [zz 8, zz 9, n0]
  rfl
theorem m0_Sim : Sim kr_M0 := by
  refine ⟨⟨Or.inl ⟨rfl, rfl⟩, by decide +kernel⟩, ⟨by decide +kernel, by decide +kernel, by decide +kernel, fun j hj => ?_, by decide +kernel, by decide +kernel⟩, fun s hs => ?_, fun k hk => ?_, m0_GS⟩
  · have e : zn (kr_M0.1 1 1) = 0 := by decide +kernel
    omega
  · have : s = 0 ∨ s = 1 ∨ s = 2 ∨ s = 3 := by omega
    rcases this with rfl | rfl | rfl | rfl <;> exact Or.inl (by decide +kernel)
  · rw [m0_z 309 k (by omega) (by omega) (by omega) (by omega), m0_z 363 k (by omega) (by omega) (by omega) (by omega)]
    exact ⟨rfl, Or.inl rfl⟩
theorem all_ok : kr_ok Sim := by
  intro k hk a M h
  by_cases c0 : k = 0
  · subst c0; exact op_0 (a 1) (a 2) (a 3) (a 4) (a 5) M h
  by_cases c1 : k = 1
  · subst c1; exact op_1 (a 1) M h
  by_cases c2 : k = 2
  · subst c2; exact op_2  M h
  by_cases c3 : k = 3
  · subst c3; exact op_3 (a 1) M h
  by_cases c4 : k = 4
  · subst c4; exact op_4 (a 1) (a 2) M h
  by_cases c5 : k = 5
  · subst c5; exact op_5 (a 1) (a 2) M h
  by_cases c6 : k = 6
  · subst c6; exact op_6 (a 1) M h
  by_cases c7 : k = 7
  · subst c7; exact op_7 (a 1) (a 2) M h
  by_cases c8 : k = 8
  · subst c8; exact op_8 (a 1) (a 2) M h
  by_cases c9 : k = 9
  · subst c9; exact op_9 (a 1) (a 2) M h
  by_cases c10 : k = 10
  · subst c10; exact op_10 (a 1) (a 2) M h
  by_cases c11 : k = 11
  · subst c11; exact op_11 (a 1) (a 2) (a 3) M h
  by_cases c12 : k = 12
  · subst c12; exact op_12 (a 1) (a 2) (a 3) M h
  by_cases c13 : k = 13
  · subst c13; exact op_13 (a 1) (a 2) (a 3) M h
  by_cases c14 : k = 14
  · subst c14; exact op_14 (a 1) (a 2) M h
  by_cases c15 : k = 15
  · subst c15; exact op_15 (a 1) (a 2) (a 3) M h
  by_cases c16 : k = 16
  · subst c16; exact op_16 (a 1) M h
  by_cases c17 : k = 17
  · subst c17; exact op_17 (a 1) M h
  by_cases c18 : k = 18
  · subst c18; exact op_18 (a 1) M h
  by_cases c19 : k = 19
  · subst c19; exact op_19 (a 1) M h
  by_cases c20 : k = 20
  · subst c20; exact op_20 (a 1) M h
  by_cases c21 : k = 21
  · subst c21; exact op_21 (a 1) (a 2) M h
  by_cases c22 : k = 22
  · subst c22; exact op_22 (a 1) (a 2) M h
  by_cases c23 : k = 23
  · subst c23; exact op_23  M h
  by_cases c24 : k = 24
  · subst c24; exact op_24 (a 1) M h
  by_cases c25 : k = 25
  · subst c25; exact op_25 (a 1) (a 2) M h
  by_cases c26 : k = 26
  · subst c26; exact op_26 (a 1) (a 2) M h
  by_cases c27 : k = 27
  · subst c27; exact op_27 (a 1) (a 2) M h
  by_cases c28 : k = 28
  · subst c28; exact op_28 (a 1) M h
  by_cases c29 : k = 29
  · subst c29; exact op_29 (a 1) M h
  by_cases c30 : k = 30
  · subst c30; exact op_30 (a 1) (a 2) (a 3) M h
  by_cases c31 : k = 31
  · subst c31; exact op_31 (a 1) (a 2) (a 3) (a 4) M h
  by_cases c32 : k = 32
  · subst c32; exact op_32 (a 1) (a 2) (a 3) (a 4) M h
  by_cases c33 : k = 33
  · subst c33; exact op_33 (a 1) (a 2) (a 3) M h
  by_cases c34 : k = 34
  · subst c34; exact op_34 (a 1) M h
  by_cases c35 : k = 35
  · subst c35; exact op_35 (a 1) M h
  by_cases c36 : k = 36
  · subst c36; exact op_36 (a 1) M h
  by_cases c37 : k = 37
  · subst c37; exact op_37 (a 1) (a 2) M h
  by_cases c38 : k = 38
  · subst c38; exact op_38 (a 1) M h
  by_cases c39 : k = 39
  · subst c39; exact op_39 (a 1) (a 2) M h
  by_cases c40 : k = 40
  · subst c40; exact op_40 (a 1) (a 2) (a 3) M h
  by_cases c41 : k = 41
  · subst c41; exact op_41 (a 1) (a 2) M h
  by_cases c42 : k = 42
  · subst c42; exact op_42 (a 1) (a 2) M h
  by_cases c43 : k = 43
  · subst c43; exact op_43 (a 1) M h
  by_cases c44 : k = 44
  · subst c44; exact op_44  M h
  by_cases c45 : k = 45
  · subst c45; exact op_45  M h
  by_cases c46 : k = 46
  · subst c46; exact op_46 (a 1) (a 2) (a 3) M h
  by_cases c47 : k = 47
  · subst c47; exact op_47 (a 1) (a 2) (a 3) M h
  by_cases c48 : k = 48
  · subst c48; exact op_48 (a 1) M h
  by_cases c49 : k = 49
  · subst c49; exact op_49 (a 1) M h
  by_cases c50 : k = 50
  · subst c50; exact op_50 (a 1) M h
  by_cases c51 : k = 51
  · subst c51; exact op_51 (a 1) M h
  by_cases c52 : k = 52
  · subst c52; exact op_52 (a 1) (a 2) M h
  by_cases c53 : k = 53
  · subst c53; exact op_53 (a 1) M h
  by_cases c54 : k = 54
  · subst c54; exact op_54 (a 1) M h
  by_cases c55 : k = 55
  · subst c55; exact op_55 (a 1) M h
  by_cases c56 : k = 56
  · subst c56; exact op_56 (a 1) (a 2) (a 3) M h
  by_cases c57 : k = 57
  · subst c57; exact op_57 (a 1) (a 2) ((((a 3).toInt64) <<< ((32 : Int32).toInt64 &&& 63)) ||| (((a 4).toInt64) &&& (4294967295 : Int64))) M h
  by_cases c58 : k = 58
  · subst c58; exact op_58 (a 1) (a 2) (a 3) (a 4) (a 5) M h
  omega
theorem whole_start {p : Program} {e : Env} {s : State} {m : MethodId} {below : List Frame} {meth : Method} {c : Code} (l : Launch) {b L : Nat} {xs : Nat → Int32} (hL : L ≤ 3072) (C0 : lw_At p s m meth c b L xs) : W p l e room_1 s m #[Value.ref b] below meth c s.heap [] 0 0 (lw_Z below #[Value.ref b] s) (entryFrame m ([Value.ref b] : List Value).toArray 4) := kr_start all_ok m0_Sim l hL C0
