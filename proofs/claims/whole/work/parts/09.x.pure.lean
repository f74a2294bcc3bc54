-- pure: the best mixture asked
theorem wi5 (x : Int32) : s_X4_isWithin x 5 = s_X5_in x 0 4 := within_in x (n := 4) (by omega)
theorem B_bestMixture {σ : Nat → Nat → Int32} {f : Nat → Int32} {N : Nat → Nat} {c : Nat} (h : RS σ N) (hf : RM f N) (I : Inv N c) (x z : Int32) (y ya yb g : Nat → Int32) : ∃ (v : Int32) (y' ya' yb' g' : Nat → Int32), s_X4_bestMixture (σ 1) (σ 3) y ya yb x z = some (v, y', ya', yb') ∧ s_X5_bestMixture f g x z = some (v, g') := by
  unfold s_X4_bestMixture s_X5_bestMixture
  rw [wi6, wi5, isPanel_l]
  rcases in_cases x 0 5 with ⟨hx, -⟩ | ⟨hx, x1, x2⟩
  · exact ⟨-1, y, ya, yb, g, by rw [cl_e hx]; rfl, by rw [cl_e hx]; rfl⟩
  obtain ⟨P, -, hP, rfl⟩ := rng_n (a := 0) (b := 5) (by omega) (by omega) x1 x2
  have hPp : P < 6 := by omega
  rcases in_cases z 0 4 with ⟨hz, -⟩ | ⟨hz, z1, z2⟩
  · exact ⟨-2, y, ya, yb, g, by rw [cl_e hx, if_neg one_ne, cl_e hz]; rfl, by rw [cl_e hx, if_neg one_ne, cl_e hz]; rfl⟩
  obtain ⟨j, -, hj, rfl⟩ := rng_n (a := 0) (b := 4) (by omega) (by omega) z1 z2
  have m0 : MB (upd y 4 1000) (mxo N P (8 * 0)) := ⟨pk_us, Nat.le_refl _, Or.inl ⟨rfl, rfl⟩⟩
  obtain ⟨y', a', b', hy, ec⟩ := cMo_1 (kk := s_X0_mixture_X1 (nI j)) h.2.1 h.2.2.2.1 I hPp 991 8 0 (upd y 4 1000) ya yb (by omega) m0
  obtain ⟨g', em⟩ := mMo (kk := s_X5_bestMixture_X1 (nI j)) hf I hPp 935 64 0 g (by omega)
  have w4 : s_X4_write 5 y 4 1000 = some (upd y 4 1000) := write_n (a := 4) (n := 5) (by omega) (by omega)
  have eC : s_X0_mixture (σ 1) (σ 3) y ya yb (nI P) (nI j) = s_X0_mixture_X1 (nI j) (y', a', b') := by
    unfold s_X0_mixture
    rw [cl_e w4]
    exact ec
  have eM : s_X5_bestMixture_L1 f (nI P) (s_X5_bestMixture_X1 (nI j)) 1000 ((-6), 1000, 0, g) = s_X5_bestMixture_X1 (nI j) ((mxo N P 64).1, nI (mxo N P 64).2, g') := em
  rw [cl_e hx, if_neg one_ne, cl_e hz, if_neg one_ne, cl_e hx, if_neg one_ne, cl_e hz, if_neg one_ne, eM]
  obtain ⟨h4, hle, hh⟩ := hy
  have a4 : s_X4_at 5 y' 4 = some (nI (mxo N P 64).2) := (at_n (a := 4) (n := 5) (by omega) (by omega)).trans (by rw [h4])
  have aj : s_X4_at 5 y' (nI j) = some (y' j) := at_n (by omega) (by omega)
  rcases hh with ⟨e1, e2⟩ | ⟨k, m, hk, hm, e1, e2, y0, y1, y2, y3⟩
  · refine ⟨-6, y', a', b', g', ?_, ?_⟩
    · have : s_X0_mixture_X1 (nI j) (y', a', b') = some (-6, y', a', b') := by
        unfold s_X0_mixture_X1
        dsimp only
        rw [cl_e a4, e2, if_pos (show nI 1000 = 1000 from rfl)]
      rw [cl_e (eC.trans this)]
    · unfold s_X5_bestMixture_X1
      dsimp only
      rw [e1, if_pos rfl]
  · have n1000 : ¬ nI (mxo N P 64).2 = 1000 := fun q => absurd ((nI_eq (a := (mxo N P 64).2) (b := 1000) (by omega) (by omega)).mp q) (by omega)
    have n6 : ¬ nI (81 * k + m) = -6 := fun q => absurd (show nI (81 * k + m) < 0 by rw [q]; decide) (nI_pos (by omega))
    refine ⟨y' j, y', a', b', g', ?_, ?_⟩
    · have : s_X0_mixture_X1 (nI j) (y', a', b') = some (y' j, y', a', b') := by
        unfold s_X0_mixture_X1
        dsimp only
        rw [cl_e a4, if_neg n1000, cl_e aj]
      rw [cl_e (eC.trans this)]
    · have d81 : ∀ {β : Type} (q : Int32 → Option β), dv (nI (81 * k + m)) 81 q = q (nI k) := fun q => by rw [dv_n (by decide), show (81 : Int32) = nI 81 from rfl, pk_div (by omega) (by omega) (by omega), show (81 * k + m) / 81 = k by omega]
      have r81 : ∀ {β : Type} (q : Int32 → Option β), rmd (nI (81 * k + m)) 81 q = q (nI m) := fun q => by rw [rmd_n (by decide), show (81 : Int32) = nI 81 from rfl, pk_rem (by omega) (by omega) (by omega), show (81 * k + m) % 81 = m by omega]
      have d8 : ∀ {β : Type} (q : Int32 → Option β), dv (nI k) 8 q = q (nI (k / 8)) := fun q => by rw [dv_n (by decide), show (8 : Int32) = nI 8 from rfl, pk_div (by omega) (by omega) (by omega)]
      have r8 : ∀ {β : Type} (q : Int32 → Option β), rmd (nI k) 8 q = q (nI (k % 8)) := fun q => by rw [rmd_n (by decide), show (8 : Int32) = nI 8 from rfl, pk_rem (by omega) (by omega) (by omega)]
      have d9 : ∀ {β : Type} (q : Int32 → Option β), dv (nI m) 9 q = q (nI (m / 9)) := fun q => by rw [dv_n (by decide), show (9 : Int32) = nI 9 from rfl, pk_div (by omega) (by omega) (by omega)]
      have r9 : ∀ {β : Type} (q : Int32 → Option β), rmd (nI m) 9 q = q (nI (m % 9)) := fun q => by rw [rmd_n (by decide), show (9 : Int32) = nI 9 from rfl, pk_rem (by omega) (by omega) (by omega)]
      unfold s_X5_bestMixture_X1
      dsimp only
      rw [e1, if_neg n6, d81, r81]
      rcases (show j = 0 ∨ j = 1 ∨ j = 2 ∨ j = 3 ∨ j = 4 by omega) with rfl | rfl | rfl | rfl | rfl
      · rw [if_pos (show nI 0 = 0 by decide), d8, y0]
      · rw [if_neg (show ¬ nI 1 = 0 by decide), if_pos (show nI 1 = 1 by decide), r8, y1]
      · rw [if_neg (show ¬ nI 2 = 0 by decide), if_neg (show ¬ nI 2 = 1 by decide), if_pos (show nI 2 = 2 by decide), d9, y2, show (1 : Int32) + nI (m / 9) = nI (1 + m / 9) from nI_add 1 _]
      · rw [if_neg (show ¬ nI 3 = 0 by decide), if_neg (show ¬ nI 3 = 1 by decide), if_neg (show ¬ nI 3 = 2 by decide), if_pos (show nI 3 = 3 by decide), r9, y3, show (1 : Int32) + nI (m % 9) = nI (1 + m % 9) from nI_add 1 _]
      · rw [if_neg (show ¬ nI 4 = 0 by decide), if_neg (show ¬ nI 4 = 1 by decide), if_neg (show ¬ nI 4 = 2 by decide), if_neg (show ¬ nI 4 = 3 by decide), h4]
