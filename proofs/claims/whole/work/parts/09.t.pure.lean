-- pure: rinses asked
theorem mRn_s {f g : Nat → Int32} {N : Nat → Nat} {c P i fu : Nat} {kk : Int32 × (Nat → Int32) → Option (Int32 × (Nat → Int32))} (hf : RM f N) (I : Inv N c) (hP : P < 6) (hi : i < 5) : ∃ g', s_X5_rinses_L1 (nI P) f kk (fu + 1) (nI (su (rn N P) i), nI (i + 1), g) = s_X5_rinses_L1 (nI P) f kk fu (nI (su (rn N P) (i + 1)), nI (i + 1 + 1), g') := by
  obtain ⟨g1, e1⟩ := mNear hf I (P := (P + (i + 1)) % 6) (by omega) g
  obtain ⟨g2, e2⟩ := mNear hf I (P := (P + i) % 6) (by omega) g1
  refine ⟨g2, ?_⟩
  show s_X5_rinses_B1 (nI P) f kk (s_X5_rinses_L1 (nI P) f kk fu) (nI (su (rn N P) i)) (nI (i + 1)) g = _
  unfold s_X5_rinses_B1
  rw [if_neg (show ¬ (6 : Int32) ≤ nI (i + 1) from nI_ge (a := i + 1) (b := 6) (by omega) (by omega)), nI_add, rmd6 (by omega), cl_e e1, show nI (P + (i + 1)) - 1 = nI (P + i) from pk_sub (b := 1) (by omega), rmd6 (by omega), cl_e e2, show su (rn N P) (i + 1) = su (rn N P) i + rn N P i from rfl]
  dsimp only
  unfold rn
  by_cases e : ch N ((P + (i + 1)) % 6) = ch N ((P + i) % 6)
  · rw [if_pos e, if_pos (show (near N ((P + (i + 1)) % 6) 8).1 = (near N ((P + i) % 6) 8).1 from e), nm_e', nm_e', nI_1, show nI (su _ i) + 0 = nI (su _ i + 0) from nI_add _ 0]
  · rw [if_neg e, if_neg (show ¬ (near N ((P + (i + 1)) % 6) 8).1 = (near N ((P + i) % 6) 8).1 from e), nm_e', nm_e', nI_1, nI_1]
theorem B_rinses {σ : Nat → Nat → Int32} {f : Nat → Int32} {N : Nat → Nat} {c : Nat} (h : RS σ N) (hf : RM f N) (I : Inv N c) (x : Int32) (r g : Nat → Int32) : ∃ (v : Int32) (r' g' : Nat → Int32), s_X4_rinses (σ 1) (σ 3) r x = some (v, r') ∧ s_X5_rinses f g x = some (v, g') := by
  unfold s_X4_rinses s_X5_rinses s_X0_rinsesFrom
  rw [wi6, isPanel_l]
  rcases in_cases x 0 5 with ⟨hx, -⟩ | ⟨hx, x1, x2⟩
  · exact ⟨-1, r, g, by rw [cl_e hx]; rfl, by rw [cl_e hx]; rfl⟩
  obtain ⟨P, -, hP, rfl⟩ := rng_n (a := 0) (b := 5) (by omega) (by omega) x1 x2
  have hPp : P < 6 := by omega
  obtain ⟨r', ec, hr⟩ := cChoose h.2.1 h.2.2.2.1 I r
  have hsu := su_le (g := po N) (b := 81) 8 (fun k hk => I.q (by omega))
  rw [cl_e hx, if_neg one_ne, cl_e hx, if_neg one_ne, cl_e ec, cl_e (mInP hf)]
  dsimp only
  by_cases e : su (po N) 8 = 0
  · exact ⟨-6, r', g, by rw [if_pos e, if_pos rfl, cl_s], by rw [e, if_pos nI_0]⟩
  · rw [if_neg e, if_neg one_ne, if_neg (nI_ne0 (by omega) (by omega))]
    obtain ⟨g0, e0⟩ := mRn_s (P := P) (g := g) (kk := s_X5_rinses_X1) (fu := 999) (i := 0) hf I hPp (by omega)
    obtain ⟨g1, e1⟩ := mRn_s (P := P) (g := g0) (kk := s_X5_rinses_X1) (fu := 998) (i := 1) hf I hPp (by omega)
    obtain ⟨g2, e2⟩ := mRn_s (P := P) (g := g1) (kk := s_X5_rinses_X1) (fu := 997) (i := 2) hf I hPp (by omega)
    obtain ⟨g3, e3⟩ := mRn_s (P := P) (g := g2) (kk := s_X5_rinses_X1) (fu := 996) (i := 3) hf I hPp (by omega)
    obtain ⟨g4, e4⟩ := mRn_s (P := P) (g := g3) (kk := s_X5_rinses_X1) (fu := 995) (i := 4) hf I hPp (by omega)
    have d0 := cRn_s (r := (1, r')) (P := P) (kk := s_X0_rinsesFrom_X1 (1, r')) (fu := 999) (i := 0) hr hPp (by omega)
    have d1 := cRn_s (r := (1, r')) (P := P) (kk := s_X0_rinsesFrom_X1 (1, r')) (fu := 998) (i := 1) hr hPp (by omega)
    have d2 := cRn_s (r := (1, r')) (P := P) (kk := s_X0_rinsesFrom_X1 (1, r')) (fu := 997) (i := 2) hr hPp (by omega)
    have d3 := cRn_s (r := (1, r')) (P := P) (kk := s_X0_rinsesFrom_X1 (1, r')) (fu := 996) (i := 3) hr hPp (by omega)
    have d4 := cRn_s (r := (1, r')) (P := P) (kk := s_X0_rinsesFrom_X1 (1, r')) (fu := 995) (i := 4) hr hPp (by omega)
    refine ⟨nI (su (rn N P) 5), r', g4, ?_, e0.trans (e1.trans (e2.trans (e3.trans (e4.trans ?_))))⟩
    · have dd : s_X0_rinsesFrom_L1 (nI P) (1, r') (s_X0_rinsesFrom_X1 (1, r')) 1000 (0, 1) = some (nI (su (rn N P) 5), r') := by
        refine d0.trans (d1.trans (d2.trans (d3.trans (d4.trans ?_))))
        show s_X0_rinsesFrom_B1 (nI P) _ _ _ _ (nI 6) = _
        unfold s_X0_rinsesFrom_B1 s_X0_rinsesFrom_X1
        rw [if_pos (show (6 : Int32) ≤ nI 6 from nI_le (a := 6) (b := 6) (by omega) (by omega))]
      rw [cl_e dd]
    · show s_X5_rinses_B1 (nI P) f _ _ _ (nI 6) _ = _
      unfold s_X5_rinses_B1 s_X5_rinses_X1
      rw [if_pos (show (6 : Int32) ≤ nI 6 from nI_le (a := 6) (b := 6) (by omega) (by omega))]
