-- pure: panels counted
theorem cPW_s {σ : Nat → Nat → Int32} {N : Nat → Nat} {c i fu : Nat} {kk : Int32 → Option Int32} (h : RS σ N) (I : Inv N c) (hc : c < 2 ^ 30) (hi : i < 6) : s_X2_panelsWell_L1 (σ 0) (σ 3) (σ 4) (σ 5) kk (fu + 1) (nI (su (wl N) i), nI i) = s_X2_panelsWell_L1 (σ 0) (σ 3) (σ 4) (σ 5) kk fu (nI (su (wl N) (i + 1)), nI (i + 1)) := by
  show s_X2_panelsWell_B1 (σ 0) (σ 3) (σ 4) (σ 5) kk (s_X2_panelsWell_L1 (σ 0) (σ 3) (σ 4) (σ 5) kk fu) (nI (su (wl N) i)) (nI i) = _
  unfold s_X2_panelsWell_B1
  rw [if_neg (show ¬ (6 : Int32) ≤ nI i from nI_ge (a := i) (b := 6) (by omega) (by omega)), cl_e (cWell h I hc hi), show su (wl N) (i + 1) = su (wl N) i + wl N i from rfl]
  rcases wl_01 N i with e | e
  · rw [e, if_pos nI_0, nm_e', nm_e', nI_1, show nI (su (wl N) i) + 0 = nI (su (wl N) i + 0) from nI_add _ 0]
  · rw [e, if_neg (show ¬ nI 1 = 0 from one_ne), nm_e', nm_e', nI_1, nI_1]
theorem cPW {σ : Nat → Nat → Int32} {N : Nat → Nat} {c : Nat} (h : RS σ N) (I : Inv N c) (hc : c < 2 ^ 30) : s_X2_panelsWell (σ 0) (σ 3) (σ 4) (σ 5) = some (nI (su (wl N) 6)) := by
  unfold s_X2_panelsWell
  refine (cPW_s (fu := 999) (i := 0) h I hc (by omega)).trans ?_
  refine (cPW_s (fu := 998) (i := 1) h I hc (by omega)).trans ?_
  refine (cPW_s (fu := 997) (i := 2) h I hc (by omega)).trans ?_
  refine (cPW_s (fu := 996) (i := 3) h I hc (by omega)).trans ?_
  refine (cPW_s (fu := 995) (i := 4) h I hc (by omega)).trans ?_
  refine (cPW_s (fu := 994) (i := 5) h I hc (by omega)).trans ?_
  show s_X2_panelsWell_B1 (σ 0) (σ 3) (σ 4) (σ 5) _ _ _ (nI 6) = _
  unfold s_X2_panelsWell_B1 s_X2_panelsWell_X1
  rw [if_pos (show (6 : Int32) ≤ nI 6 from nI_le (a := 6) (b := 6) (by omega) (by omega))]
theorem mPW_s {f g : Nat → Int32} {N : Nat → Nat} {c i fu : Nat} {kk : Int32 × (Nat → Int32) → Option (Int32 × (Nat → Int32))} (hf : RM f N) (I : Inv N c) (hi : i < 6) : ∃ g', s_X5_well_L1 f kk (fu + 1) (nI (su (wl N) i), nI i, g) = s_X5_well_L1 f kk fu (nI (su (wl N) (i + 1)), nI (i + 1), g') := by
  obtain ⟨g', e, -⟩ := mWell (g := g) hf I hi
  refine ⟨g', ?_⟩
  show s_X5_well_B1 f kk (s_X5_well_L1 f kk fu) (nI (su (wl N) i)) (nI i) g = _
  unfold s_X5_well_B1
  rw [if_neg (show ¬ (6 : Int32) ≤ nI i from nI_ge (a := i) (b := 6) (by omega) (by omega)), cl_e e, show su (wl N) (i + 1) = su (wl N) i + wl N i from rfl]
  dsimp only
  rcases wl_01 N i with e | e
  · rw [e, if_pos nI_0, nm_e', nm_e', nI_1, show nI (su (wl N) i) + 0 = nI (su (wl N) i + 0) from nI_add _ 0]
  · rw [e, if_neg (show ¬ nI 1 = 0 from one_ne), nm_e', nm_e', nI_1, nI_1]
theorem mPW {f : Nat → Int32} {N : Nat → Nat} {c : Nat} (hf : RM f N) (I : Inv N c) (g : Nat → Int32) : ∃ g', s_X5_well f g = some (nI (su (wl N) 6), g') := by
  unfold s_X5_well
  obtain ⟨g0, e0⟩ := mPW_s (g := g) (kk := s_X5_well_X1) (fu := 999) (i := 0) hf I (by omega)
  obtain ⟨g1, e1⟩ := mPW_s (g := g0) (kk := s_X5_well_X1) (fu := 998) (i := 1) hf I (by omega)
  obtain ⟨g2, e2⟩ := mPW_s (g := g1) (kk := s_X5_well_X1) (fu := 997) (i := 2) hf I (by omega)
  obtain ⟨g3, e3⟩ := mPW_s (g := g2) (kk := s_X5_well_X1) (fu := 996) (i := 3) hf I (by omega)
  obtain ⟨g4, e4⟩ := mPW_s (g := g3) (kk := s_X5_well_X1) (fu := 995) (i := 4) hf I (by omega)
  obtain ⟨g5, e5⟩ := mPW_s (g := g4) (kk := s_X5_well_X1) (fu := 994) (i := 5) hf I (by omega)
  refine ⟨g5, e0.trans (e1.trans (e2.trans (e3.trans (e4.trans (e5.trans ?_)))))⟩
  show s_X5_well_B1 f _ _ _ (nI 6) _ = _
  unfold s_X5_well_B1 s_X5_well_X1
  rw [if_pos (show (6 : Int32) ≤ nI 6 from nI_le (a := 6) (b := 6) (by omega) (by omega))]
theorem pt_01 (N : Nat → Nat) (P : Nat) : pt N P = 0 ∨ pt N P = 1 := by
  unfold pt
  split
  · exact Or.inl rfl
  · exact Or.inr rfl
theorem cPP_s {s : Nat → Int32} {N : Nat → Nat} {c i fu : Nat} {kk : Int32 → Option Int32} (I : Inv N c) (hc : c < 2 ^ 30) (hs : ∀ k, k < 6 → s k = nI (N (58 + 8 * k))) (hi : i < 6) : s_X2_panelsPainted_L1 s kk (fu + 1) (nI (su (pt N) i), nI i) = s_X2_panelsPainted_L1 s kk fu (nI (su (pt N) (i + 1)), nI (i + 1)) := by
  show s_X2_panelsPainted_B1 s kk (s_X2_panelsPainted_L1 s kk fu) (nI (su (pt N) i)) (nI i) = _
  unfold s_X2_panelsPainted_B1
  rw [if_neg (show ¬ (6 : Int32) ≤ nI i from nI_ge (a := i) (b := 6) (by omega) (by omega)), cl_e (cIsP I hc hs hi), show su (pt N) (i + 1) = su (pt N) i + pt N i from rfl]
  rcases pt_01 N i with e | e
  · rw [e, if_pos nI_0, nm_e', nm_e', nI_1, show nI (su (pt N) i) + 0 = nI (su (pt N) i + 0) from nI_add _ 0]
  · rw [e, if_neg (show ¬ nI 1 = 0 from one_ne), nm_e', nm_e', nI_1, nI_1]
theorem cPP {s : Nat → Int32} {N : Nat → Nat} {c : Nat} (I : Inv N c) (hc : c < 2 ^ 30) (hs : ∀ k, k < 6 → s k = nI (N (58 + 8 * k))) : s_X2_panelsPainted s = some (nI (su (pt N) 6)) := by
  unfold s_X2_panelsPainted
  refine (cPP_s (fu := 999) (i := 0) I hc hs (by omega)).trans ?_
  refine (cPP_s (fu := 998) (i := 1) I hc hs (by omega)).trans ?_
  refine (cPP_s (fu := 997) (i := 2) I hc hs (by omega)).trans ?_
  refine (cPP_s (fu := 996) (i := 3) I hc hs (by omega)).trans ?_
  refine (cPP_s (fu := 995) (i := 4) I hc hs (by omega)).trans ?_
  refine (cPP_s (fu := 994) (i := 5) I hc hs (by omega)).trans ?_
  show s_X2_panelsPainted_B1 s _ _ _ (nI 6) = _
  unfold s_X2_panelsPainted_B1 s_X2_panelsPainted_X1
  rw [if_pos (show (6 : Int32) ≤ nI 6 from nI_le (a := 6) (b := 6) (by omega) (by omega))]
theorem mPP_s {f : Nat → Int32} {N : Nat → Nat} {c i fu : Nat} {kk : Int32 → Option Int32} (hf : RM f N) (I : Inv N c) (hi : i < 6) : s_X5_painted_L1 f kk (fu + 1) (nI (su (pt N) i), nI i) = s_X5_painted_L1 f kk fu (nI (su (pt N) (i + 1)), nI (i + 1)) := by
  have hI := I.2.2.2.2.1 i hi
  have ep : pt N i = N (54 + 8 * i) := by
    unfold pt
    split <;> omega
  show s_X5_painted_B1 f kk (s_X5_painted_L1 f kk fu) (nI (su (pt N) i)) (nI i) = _
  unfold s_X5_painted_B1
  rw [if_neg (show ¬ (6 : Int32) ≤ nI i from nI_ge (a := i) (b := 6) (by omega) (by omega)), cl_e (mN i), show nI (51 + 8 * i) + 3 = nI (54 + 8 * i) from (nI_add _ 3).trans (by congr 1; omega), ld_n (by omega) (by omega), hf _ (by omega), nm_e', nm_e', nI_add, nI_1, show su (pt N) (i + 1) = su (pt N) i + pt N i from rfl, ep]
theorem mPP {f : Nat → Int32} {N : Nat → Nat} {c : Nat} (hf : RM f N) (I : Inv N c) : s_X5_painted f = some (nI (su (pt N) 6)) := by
  unfold s_X5_painted
  refine (mPP_s (fu := 999) (i := 0) hf I (by omega)).trans ?_
  refine (mPP_s (fu := 998) (i := 1) hf I (by omega)).trans ?_
  refine (mPP_s (fu := 997) (i := 2) hf I (by omega)).trans ?_
  refine (mPP_s (fu := 996) (i := 3) hf I (by omega)).trans ?_
  refine (mPP_s (fu := 995) (i := 4) hf I (by omega)).trans ?_
  refine (mPP_s (fu := 994) (i := 5) hf I (by omega)).trans ?_
  show s_X5_painted_B1 f _ _ _ (nI 6) = _
  unfold s_X5_painted_B1 s_X5_painted_X1
  rw [if_pos (show (6 : Int32) ≤ nI 6 from nI_le (a := 6) (b := 6) (by omega) (by omega))]
theorem cSk_s {s : Nat → Int32} {N : Nat → Nat} {i fu : Nat} {kk : Int32 → Option Int32} (hs : ∀ k, k < 6 → s k = nI (N (58 + 8 * k))) (hi : i < 6) : s_X2_allStrokes_L1 s kk (fu + 1) (nI (su (sk N) i), nI i) = s_X2_allStrokes_L1 s kk fu (nI (su (sk N) (i + 1)), nI (i + 1)) := by
  show s_X2_allStrokes_B1 s kk (s_X2_allStrokes_L1 s kk fu) (nI (su (sk N) i)) (nI i) = _
  unfold s_X2_allStrokes_B1
  rw [if_neg (show ¬ (6 : Int32) ≤ nI i from nI_ge (a := i) (b := 6) (by omega) (by omega)), cl_e (at_n hi (by omega)), hs i hi, nm_e', nm_e', nI_add, nI_1]
  rfl
theorem cSk {s : Nat → Int32} {N : Nat → Nat} {c : Nat} (I : Inv N c) (hs : ∀ k, k < 6 → s k = nI (N (58 + 8 * k))) : s_X2_allStrokes s = some (nI (N 5)) := by
  have e : su (sk N) 6 = N 5 := by
    rw [I.2.2.2.2.2]
    show 0 + N (58 + 8 * 0) + N (58 + 8 * 1) + N (58 + 8 * 2) + N (58 + 8 * 3) + N (58 + 8 * 4) + N (58 + 8 * 5) = sm6 N 58
    unfold sm6
    rw [Nat.zero_add]
  unfold s_X2_allStrokes
  rw [← e]
  refine (cSk_s (fu := 999) (i := 0) hs (by omega)).trans ?_
  refine (cSk_s (fu := 998) (i := 1) hs (by omega)).trans ?_
  refine (cSk_s (fu := 997) (i := 2) hs (by omega)).trans ?_
  refine (cSk_s (fu := 996) (i := 3) hs (by omega)).trans ?_
  refine (cSk_s (fu := 995) (i := 4) hs (by omega)).trans ?_
  refine (cSk_s (fu := 994) (i := 5) hs (by omega)).trans ?_
  show s_X2_allStrokes_B1 s _ _ _ (nI 6) = _
  unfold s_X2_allStrokes_B1 s_X2_allStrokes_X1
  rw [if_pos (show (6 : Int32) ≤ nI 6 from nI_le (a := 6) (b := 6) (by omega) (by omega))]
