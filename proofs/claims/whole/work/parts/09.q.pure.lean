-- pure: the state held, the nearest pot
theorem mHold_i {f : Nat → Int32} : ∀ (m i fu : Nat) (y : Nat → Int32), i + m = 99 → (∀ k, k < i → y k = f k) → ∃ f9, s_X5_hold_L1 f s_X5_hold_X1 (fu + m + 1) (nI i, y) = some f9 ∧ ∀ k, k < 99 → f9 k = f k
  | 0, i, fu, y, hi, hy => by
    refine ⟨y, ?_, fun k hk => hy k (by omega)⟩
    show s_X5_hold_B1 f s_X5_hold_X1 (s_X5_hold_L1 f s_X5_hold_X1 (fu + 0)) (nI i) y = _
    unfold s_X5_hold_B1 s_X5_hold_X1
    rw [if_pos (show (99 : Int32) ≤ nI i from nI_le (a := 99) (b := i) (by omega) (by omega))]
  | m + 1, i, fu, y, hi, hy => by
    obtain ⟨f9, e, h9⟩ := mHold_i (f := f) m (i + 1) fu (upd y i (f i)) (by omega) (fun k hk => by
      by_cases e : k = i
      · subst e; rw [pk_us]
      · rw [pk_un e]; exact hy k (by omega))
    refine ⟨f9, ?_, h9⟩
    show s_X5_hold_B1 f s_X5_hold_X1 (s_X5_hold_L1 f s_X5_hold_X1 (fu + (m + 1))) (nI i) y = _
    unfold s_X5_hold_B1
    rw [if_neg (show ¬ (99 : Int32) ≤ nI i from nI_ge (a := i) (b := 99) (by omega) (by omega)), ld_n (by omega) (by omega), sto_n (by omega) (by omega), nm_e', nI_1]
    exact e
theorem mHold (f f2 : Nat → Int32) : ∃ f9, s_X5_hold f f2 = some f9 ∧ ∀ k, k < 99 → f9 k = f k := mHold_i 99 0 900 f2 (by omega) (fun k hk => absurd hk (by omega))
def dp (N : Nat → Nat) (P p : Nat) : Nat := dst N P (stg N (qp p) 0) (stg N (qp p) 1) (stg N (qp p) 2)
def near (N : Nat → Nat) (P : Nat) : Nat → Int32 × Nat
  | 0 => (-6, 1000)
  | i + 1 => if po N i = 0 then near N P i else if (near N P i).2 ≤ dp N P i then near N P i else (nI i, dp N P i)
theorem dst_le {N : Nat → Nat} {c P r y b : Nat} (I : Inv N c) (hP : P < 6) (hr : r ≤ 100) (hy : y ≤ 100) (hb : b ≤ 100) : dst N P r y b ≤ 300 := by
  have hI := I.2.2.2.2.1 P hP
  unfold dst
  have a1 := ad_le (a := r) (c := N (51 + 8 * P)) (m := 100) (by omega) (by omega)
  have a2 := ad_le (a := y) (c := N (52 + 8 * P)) (m := 100) (by omega) (by omega)
  have a3 := ad_le (a := b) (c := N (53 + 8 * P)) (m := 100) (by omega) (by omega)
  omega
theorem dp_le {N : Nat → Nat} {c P p : Nat} (I : Inv N c) (hP : P < 6) : dp N P p ≤ 300 := dst_le I hP (stg_le _ _ (by omega)) (stg_le _ _ (by omega)) (stg_le _ _ (by omega))
theorem near_ok {N : Nat → Nat} {c P : Nat} (I : Inv N c) (hP : P < 6) : ∀ i, (near N P i).2 ≤ 1000 ∧ ((near N P i).1 = -6 ∨ ∃ j, j < i ∧ (near N P i).1 = nI j ∧ 0 < po N j ∧ (near N P i).2 = dp N P j)
  | 0 => ⟨Nat.le_refl 1000, Or.inl rfl⟩
  | i + 1 => by
    obtain ⟨a, b⟩ := near_ok I hP i
    have hd := dp_le (p := i) I hP
    unfold near
    by_cases h0 : po N i = 0
    · rw [if_pos h0]
      refine ⟨a, b.elim Or.inl (fun ⟨j, hj, q⟩ => Or.inr ⟨j, by omega, q⟩)⟩
    · rw [if_neg h0]
      by_cases h1 : (near N P i).2 ≤ dp N P i
      · rw [if_pos h1]
        refine ⟨a, b.elim Or.inl (fun ⟨j, hj, q⟩ => Or.inr ⟨j, by omega, q⟩)⟩
      · rw [if_neg h1]
        exact ⟨by show dp N P i ≤ 1000; omega, Or.inr ⟨i, by omega, rfl, by omega, rfl⟩⟩
theorem cNear_s {d w : Nat → Int32} {N : Nat → Nat} {c P i fu : Nat} {kk : Int32 → Option Int32} (hd : RD d N) (hw : ∀ k, k < 18 → w k = nI (N (wm k))) (I : Inv N c) (hP : P < 6) (hi : i < 8) : s_X0_nearestPot_L1 d w (nI P) kk (fu + 1) ((near N P i).1, nI (near N P i).2, nI i) = s_X0_nearestPot_L1 d w (nI P) kk fu ((near N P (i + 1)).1, nI (near N P (i + 1)).2, nI (i + 1)) := by
  have hI := I.2.2.2.2.1 P hP
  have hq := I.q (p := i) (by omega)
  obtain ⟨ha, -⟩ := near_ok I hP i
  have hdp := dp_le (p := i) I hP
  have hca := cAll hd (p := i) (by omega)
  show s_X0_nearestPot_B1 d w (nI P) kk (s_X0_nearestPot_L1 d w (nI P) kk fu) (near N P i).1 (nI (near N P i).2) (nI i) = _
  unfold s_X0_nearestPot_B1 s_X2_hasPaint
  rw [if_neg (show ¬ (8 : Int32) ≤ nI i from nI_ge (a := i) (b := 8) (by omega) (by omega)), cl_e hca, show near N P (i + 1) = if po N i = 0 then near N P i else if (near N P i).2 ≤ dp N P i then near N P i else (nI i, dp N P i) from rfl]
  rcases Nat.eq_zero_or_pos (sm4 N (qp i)) with hz | hz
  · rw [if_pos (show po N i = 0 from hz), if_pos (show nI (sm4 N (qp i)) ≤ 0 by rw [hz]; exact Int32.le_refl _), cl_s, if_pos rfl, nm_e', nI_1]
  · have cd : s_X2_distanceOfPaint d w (nI P) (nI i) = some (nI (dp N P i)) := cDistPaint hd hw hP (by omega) hz hq (by omega) (by omega) (by omega)
    rw [if_neg (show ¬ po N i = 0 by unfold po; omega), if_neg (show ¬ nI (sm4 N (qp i)) ≤ 0 from nI_ge (a := 0) hz (by omega)), cl_s, if_neg one_ne, cl_e cd]
    by_cases hl : (near N P i).2 ≤ dp N P i
    · rw [if_pos hl, if_pos (nI_le hl (by omega)), nm_e', nI_1]
    · rw [if_neg hl, if_neg (nI_ge (by omega) (by omega)), nm_e', nI_1]
theorem cNear {d w : Nat → Int32} {N : Nat → Nat} {c P : Nat} (hd : RD d N) (hw : ∀ k, k < 18 → w k = nI (N (wm k))) (I : Inv N c) (hP : P < 6) : s_X0_nearestPot d w (nI P) = some (near N P 8).1 := by
  unfold s_X0_nearestPot
  refine (cNear_s (fu := 999) (i := 0) hd hw I hP (by omega)).trans ?_
  refine (cNear_s (fu := 998) (i := 1) hd hw I hP (by omega)).trans ?_
  refine (cNear_s (fu := 997) (i := 2) hd hw I hP (by omega)).trans ?_
  refine (cNear_s (fu := 996) (i := 3) hd hw I hP (by omega)).trans ?_
  refine (cNear_s (fu := 995) (i := 4) hd hw I hP (by omega)).trans ?_
  refine (cNear_s (fu := 994) (i := 5) hd hw I hP (by omega)).trans ?_
  refine (cNear_s (fu := 993) (i := 6) hd hw I hP (by omega)).trans ?_
  refine (cNear_s (fu := 992) (i := 7) hd hw I hP (by omega)).trans ?_
  show s_X0_nearestPot_B1 d w (nI P) _ _ _ _ (nI 8) = _
  unfold s_X0_nearestPot_B1 s_X0_nearestPot_X1
  rw [if_pos (show (8 : Int32) ≤ nI 8 from nI_le (a := 8) (b := 8) (by omega) (by omega))]
theorem mDistOf {f g : Nat → Int32} {N : Nat → Nat} {c P p : Nat} (hf : RM f N) (I : Inv N c) (hP : P < 6) (hp : p < 8) (h0 : 0 < po N p) : ∃ g', s_X5_distanceOf f g (nI p) (nI P) = some (nI (dp N P p), g') := by
  have hI := I.2.2.2.2.1 P hP
  have hq := I.q (p := p) (by omega)
  have hql := qp_lt p
  obtain ⟨g', e, hg⟩ := mLooks (tm := g) (q := qp p) hf (by omega) h0 hq
  refine ⟨g', ?_⟩
  unfold s_X5_distanceOf
  rw [cl_e (mP p hp), cl_e e, cl_e (mDist (v := stg N (qp p)) hg hf hP (fun k hk => by have := stg_le N (qp p) (k := k) (by omega); omega) (by omega) (by omega) (by omega))]
  rfl
theorem mNear_s {f g : Nat → Int32} {N : Nat → Nat} {c P i fu : Nat} {kk : Int32 × (Nat → Int32) → Option (Int32 × (Nat → Int32))} (hf : RM f N) (I : Inv N c) (hP : P < 6) (hi : i < 8) : ∃ g', s_X5_nearestPot_L1 f (nI P) kk (fu + 1) ((near N P i).1, nI (near N P i).2, nI i, g) = s_X5_nearestPot_L1 f (nI P) kk fu ((near N P (i + 1)).1, nI (near N P (i + 1)).2, nI (i + 1), g') := by
  have hql := qp_lt i
  have hq := I.q (p := i) (by omega)
  obtain ⟨ha, -⟩ := near_ok I hP i
  have hdp := dp_le (p := i) I hP
  have hma := mAll hf (q := qp i) (by omega)
  have ha' : nI (near N P i).2 ≤ (1000 : Int32) := nI_le (b := 1000) ha (by omega)
  rcases Nat.eq_zero_or_pos (sm4 N (qp i)) with hz | hz
  · refine ⟨g, ?_⟩
    show s_X5_nearestPot_B1 f (nI P) kk (s_X5_nearestPot_L1 f (nI P) kk fu) (near N P i).1 (nI (near N P i).2) (nI i) g = _
    unfold s_X5_nearestPot_B1
    rw [if_neg (show ¬ (8 : Int32) ≤ nI i from nI_ge (a := i) (b := 8) (by omega) (by omega)), cl_e (mP i hi), cl_e hma, show near N P (i + 1) = if po N i = 0 then near N P i else if (near N P i).2 ≤ dp N P i then near N P i else (nI i, dp N P i) from rfl]
    rw [if_pos (show po N i = 0 from hz), if_pos (show nI (sm4 N (qp i)) = 0 by rw [hz]; rfl), if_pos ha', if_pos ha', nm_e', nI_1]
  · obtain ⟨g', cd⟩ := mDistOf (g := g) hf I hP hi hz
    refine ⟨g', ?_⟩
    show s_X5_nearestPot_B1 f (nI P) kk (s_X5_nearestPot_L1 f (nI P) kk fu) (near N P i).1 (nI (near N P i).2) (nI i) g = _
    unfold s_X5_nearestPot_B1
    rw [if_neg (show ¬ (8 : Int32) ≤ nI i from nI_ge (a := i) (b := 8) (by omega) (by omega)), cl_e (mP i hi), cl_e hma, show near N P (i + 1) = if po N i = 0 then near N P i else if (near N P i).2 ≤ dp N P i then near N P i else (nI i, dp N P i) from rfl]
    rw [if_neg (show ¬ po N i = 0 by unfold po; omega), if_neg (nI_ne0 hz (by omega)), cl_e cd]
    dsimp only
    by_cases hl : (near N P i).2 ≤ dp N P i
    · rw [if_pos hl, if_pos (nI_le hl (by omega)), if_pos (nI_le hl (by omega)), nm_e', nI_1]
    · rw [if_neg hl, if_neg (nI_ge (by omega) (by omega)), if_neg (nI_ge (by omega) (by omega)), nm_e', nI_1]
theorem mNear {f : Nat → Int32} {N : Nat → Nat} {c P : Nat} (hf : RM f N) (I : Inv N c) (hP : P < 6) (g : Nat → Int32) : ∃ g', s_X5_nearestPot f g (nI P) = some ((near N P 8).1, g') := by
  unfold s_X5_nearestPot
  obtain ⟨g0, e0⟩ := mNear_s (g := g) (kk := s_X5_nearestPot_X1) (fu := 999) (i := 0) hf I hP (by omega)
  obtain ⟨g1, e1⟩ := mNear_s (g := g0) (kk := s_X5_nearestPot_X1) (fu := 998) (i := 1) hf I hP (by omega)
  obtain ⟨g2, e2⟩ := mNear_s (g := g1) (kk := s_X5_nearestPot_X1) (fu := 997) (i := 2) hf I hP (by omega)
  obtain ⟨g3, e3⟩ := mNear_s (g := g2) (kk := s_X5_nearestPot_X1) (fu := 996) (i := 3) hf I hP (by omega)
  obtain ⟨g4, e4⟩ := mNear_s (g := g3) (kk := s_X5_nearestPot_X1) (fu := 995) (i := 4) hf I hP (by omega)
  obtain ⟨g5, e5⟩ := mNear_s (g := g4) (kk := s_X5_nearestPot_X1) (fu := 994) (i := 5) hf I hP (by omega)
  obtain ⟨g6, e6⟩ := mNear_s (g := g5) (kk := s_X5_nearestPot_X1) (fu := 993) (i := 6) hf I hP (by omega)
  obtain ⟨g7, e7⟩ := mNear_s (g := g6) (kk := s_X5_nearestPot_X1) (fu := 992) (i := 7) hf I hP (by omega)
  refine ⟨g7, e0.trans (e1.trans (e2.trans (e3.trans (e4.trans (e5.trans (e6.trans (e7.trans ?_)))))))⟩
  show s_X5_nearestPot_B1 f (nI P) _ _ _ _ (nI 8) _ = _
  unfold s_X5_nearestPot_B1 s_X5_nearestPot_X1
  rw [if_pos (show (8 : Int32) ≤ nI 8 from nI_le (a := 8) (b := 8) (by omega) (by omega))]
