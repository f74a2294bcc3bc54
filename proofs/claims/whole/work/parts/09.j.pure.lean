-- pure: painting a panel
theorem mLk_s {f g : Nat → Int32} {N : Nat → Nat} {q i fu : Nat} {km : (Nat → Int32) → Option (Nat → Int32)} (hf : RM f N) (hq : q + 3 < 99) (hi : i < 3) (h0 : 0 < sm4 N q) (hb : sm4 N q ≤ 81) : s_X5_looksAt_L1 f (nI q) km (fu + 1) (nI i, g) = s_X5_looksAt_L1 f (nI q) km fu (nI (i + 1), upd g i (nI (stg N q i))) := by
  show s_X5_looksAt_B1 f (nI q) km (s_X5_looksAt_L1 f (nI q) km fu) (nI i) g = _
  unfold s_X5_looksAt_B1
  rw [if_neg (show ¬ (3 : Int32) ≤ nI i from nI_ge (a := i) (b := 3) (by omega) (by omega)), cl_e (mStr hf hq (by omega) h0 hb), sto_n (by omega) (by omega), nm_e', nI_1]
theorem mLooks {f tm : Nat → Int32} {N : Nat → Nat} {q : Nat} (hf : RM f N) (hq : q + 3 < 99) (h0 : 0 < sm4 N q) (hb : sm4 N q ≤ 81) : ∃ g, s_X5_looksAt f tm (nI q) = some g ∧ ∀ k, k < 3 → g k = nI (stg N q k) := by
  refine ⟨upd (upd (upd tm 0 (nI (stg N q 0))) 1 (nI (stg N q 1))) 2 (nI (stg N q 2)), ?_, fun k hk => ?_⟩
  · unfold s_X5_looksAt
    refine (mLk_s (fu := 999) (i := 0) hf hq (by omega) h0 hb).trans ?_
    refine (mLk_s (fu := 998) (i := 1) hf hq (by omega) h0 hb).trans ?_
    refine (mLk_s (fu := 997) (i := 2) hf hq (by omega) h0 hb).trans ?_
    show s_X5_looksAt_B1 f (nI q) _ _ (nI 3) _ = _
    unfold s_X5_looksAt_B1 s_X5_looksAt_X1
    rw [if_pos (show (3 : Int32) ≤ nI 3 from nI_le (a := 3) (b := 3) (by omega) (by omega))]
  · rcases (show k = 0 ∨ k = 1 ∨ k = 2 by omega) with rfl | rfl | rfl
    · rw [pk_un (by omega), pk_un (by omega), pk_us]
    · rw [pk_un (by omega), pk_us]
    · rw [pk_us]
theorem cPn_s {d g : Nat → Int32} {N : Nat → Nat} {P i fu : Nat} {kc : (Nat → Int32) → Option (Int32 × Int32 × (Nat → Int32) × (Nat → Int32) × (Nat → Int32) × (Nat → Int32) × (Nat → Int32))} (hd : RD d N) (hP : P < 6) (hi : i < 3) (h0 : 0 < sm4 N 47) (hb : sm4 N 47 ≤ 81) : s_X2_paintPanel_L1 d (nI P) kc (fu + 1) (nI i, g) = s_X2_paintPanel_L1 d (nI P) kc fu (nI (i + 1), upd g (3 * P + i) (nI (stg N 47 i))) := by
  have e0 : nI P * 3 = nI (3 * P) := (pk_mul P 3).trans (by rw [Nat.mul_comm])
  have hs : s_X2_strength d 8 (nI i) = some (nI (stg N 47 i)) := cStr hd (p := 8) (by omega) (by omega) h0 hb
  show s_X2_paintPanel_B1 d (nI P) kc (s_X2_paintPanel_L1 d (nI P) kc fu) (nI i) g = _
  unfold s_X2_paintPanel_B1
  rw [if_neg (show ¬ (3 : Int32) ≤ nI i from nI_ge (a := i) (b := 3) (by omega) (by omega)), cl_e hs, e0, nI_add, cl_e (write_n (by omega) (by omega)), nm_e', nI_1]
theorem mPn_s {g y : Nat → Int32} {P i fu : Nat} {km : (Nat → Int32) → Option (Int32 × (Nat → Int32) × (Nat → Int32) × (Nat → Int32))} (hP : P < 6) (hi : i < 3) : s_X5_paints_L1 (nI P) g km (fu + 1) (nI i, y) = s_X5_paints_L1 (nI P) g km fu (nI (i + 1), upd y (55 + 8 * P + i) (g i)) := by
  show s_X5_paints_B1 (nI P) g km (s_X5_paints_L1 (nI P) g km fu) (nI i) y = _
  unfold s_X5_paints_B1
  rw [if_neg (show ¬ (3 : Int32) ≤ nI i from nI_ge (a := i) (b := 3) (by omega) (by omega)), cl_e (mN P), ld_n (by omega) (by omega), show nI (51 + 8 * P) + 4 = nI (55 + 8 * P) from (nI_add _ 4).trans (by congr 1; omega), nI_add, sto_n (by omega) (by omega), nm_e', nI_1]
def pn1 (N : Nat → Nat) (P : Nat) : Nat → Nat := upN (upN (upN N (55 + 8 * P + 0) (stg N 47 0)) (55 + 8 * P + 1) (stg N 47 1)) (55 + 8 * P + 2) (stg N 47 2)
def pn3 (N : Nat → Nat) (P : Nat) : Nat → Nat := upN (upN (pn1 N P) (54 + 8 * P) 1) (58 + 8 * P) (N (58 + 8 * P) + 1)
def pn6 (N : Nat → Nat) (P : Nat) (y : Nat → Nat) : Nat → Nat := upN (upN (tkN (pn3 N P) 47 y 4) 3 (N 3 + N 0)) 5 (N 5 + 1)
theorem pn1_n {N : Nat → Nat} {P j : Nat} (h : j < 55 + 8 * P ∨ 58 + 8 * P ≤ j) : pn1 N P j = N j := by
  unfold pn1
  rw [upN_n (by omega), upN_n (by omega), upN_n (by omega)]
theorem pn3_n {N : Nat → Nat} {P j : Nat} (h : j < 54 + 8 * P ∨ 59 + 8 * P ≤ j) : pn3 N P j = N j := by
  unfold pn3
  rw [upN_n (by omega), upN_n (by omega), pn1_n (by omega)]
theorem pn6_n {N : Nat → Nat} {P j : Nat} {y : Nat → Nat} (h : 51 ≤ j) : pn6 N P y j = pn3 N P j := by
  unfold pn6
  rw [upN_n (by omega), upN_n (by omega), tkN_off (by omega)]
theorem pn6_m {N : Nat → Nat} {P j : Nat} {y : Nat → Nat} (h : j < 47) (h3 : j ≠ 3) (h5 : j ≠ 5) : pn6 N P y j = N j := by
  unfold pn6
  rw [upN_n h5, upN_n h3, tkN_off (by omega), pn3_n (by omega)]
theorem pn3_v (N : Nat → Nat) (P : Nat) : pn3 N P (54 + 8 * P) = 1 ∧ pn3 N P (55 + 8 * P) = stg N 47 0 ∧ pn3 N P (56 + 8 * P) = stg N 47 1 ∧ pn3 N P (57 + 8 * P) = stg N 47 2 ∧ pn3 N P (58 + 8 * P) = N (58 + 8 * P) + 1 := by
  unfold pn3 pn1
  refine ⟨?_, ?_, ?_, ?_, upN_s⟩
  · rw [upN_n (by omega), upN_s]
  · rw [upN_n (by omega), upN_n (by omega), upN_n (by omega), upN_n (by omega), Nat.add_zero, upN_s]
  · rw [upN_n (by omega), upN_n (by omega), upN_n (by omega), show 56 + 8 * P = 55 + 8 * P + 1 by omega, upN_s]
  · rw [upN_n (by omega), upN_n (by omega), show 57 + 8 * P = 55 + 8 * P + 2 by omega, upN_s]
theorem Inv.mono {N : Nat → Nat} {c c' : Nat} (I : Inv N c) (hc : c ≤ c') : Inv N c' := by
  obtain ⟨a, b, d, e, g, k⟩ := I
  refine ⟨a, b, d, e, fun p hp => ?_, k⟩
  obtain ⟨g1, g2, g3, g4, g5, g6, g7, g8, g9⟩ := g p hp
  exact ⟨g1, g2, g3, g4, g5, g6, g7, by omega, g9⟩
theorem Inv.pn {N : Nat → Nat} {c P : Nat} {y : Nat → Nat} (I : Inv N c) (hP : P < 6) (hy : ∀ k, k < 4 → y k ≤ N (47 + k)) (hs : s4 y ≤ sm4 N 47) : Inv (pn6 N P y) (c + 1) := by
  obtain ⟨a, b, d, e, g, k⟩ := I
  have hv := pn3_v N P
  have l0 := stg_le N 47 (k := 0) (by omega)
  have l1 := stg_le N 47 (k := 1) (by omega)
  have l2 := stg_le N 47 (k := 2) (by omega)
  refine ⟨by rw [pn6_m (by omega) (by omega) (by omega)]; exact a, by rw [pn6_m (by omega) (by omega) (by omega)]; exact b, fun p hp => ?_, ?_, fun p hp => ?_, ?_⟩
  · rw [sm4_eq (N := N) (fun k hk => pn6_m (by omega) (by omega) (by omega))]
    exact d p hp
  · have hk : ∀ k, k < 4 → pn6 N P y (47 + k) = tkN N 47 y 4 (47 + k) := fun k hk => by
      unfold pn6
      rw [upN_n (by omega), upN_n (by omega)]
      unfold tkN
      rw [if_pos (by omega), if_pos (by omega), pn3_n (by omega)]
    rw [sm4_eq hk, sm4_tk hy]
    omega
  · rw [pn6_n (by omega), pn6_n (by omega), pn6_n (by omega), pn6_n (by omega), pn6_n (by omega), pn6_n (by omega), pn6_n (by omega), pn6_n (by omega)]
    obtain ⟨g1, g2, g3, g4, g5, g6, g7, g8, g9⟩ := g p hp
    by_cases ep : p = P
    · subst ep
      obtain ⟨v1, v2, v3, v4, v5⟩ := hv
      rw [v1, v2, v3, v4, v5, pn3_n (by omega), pn3_n (by omega), pn3_n (by omega)]
      exact ⟨g1, g2, g3, by omega, l0, l1, l2, by omega, by omega⟩
    · rw [pn3_n (by omega), pn3_n (by omega), pn3_n (by omega), pn3_n (by omega), pn3_n (by omega), pn3_n (by omega), pn3_n (by omega), pn3_n (by omega)]
      exact ⟨g1, g2, g3, g4, g5, g6, g7, by omega, g9⟩
  · have e5 : pn6 N P y 5 = N 5 + 1 := upN_s
    have v5 := hv.2.2.2.2
    have hn : ∀ p, p < 6 → p ≠ P → pn3 N P (58 + 8 * p) = N (58 + 8 * p) := fun p hp hpp => pn3_n (by omega)
    unfold sm6 at k ⊢
    rw [e5, pn6_n (by omega), pn6_n (by omega), pn6_n (by omega), pn6_n (by omega), pn6_n (by omega), pn6_n (by omega), k]
    rcases (show P = 0 ∨ P = 1 ∨ P = 2 ∨ P = 3 ∨ P = 4 ∨ P = 5 by omega) with rfl | rfl | rfl | rfl | rfl | rfl
    all_goals
      have x0 := hn 0 (by omega)
      have x1 := hn 1 (by omega)
      have x2 := hn 2 (by omega)
      have x3 := hn 3 (by omega)
      have x4 := hn 4 (by omega)
      have x5 := hn 5 (by omega)
      simp only [Nat.reduceMul, Nat.reduceAdd, ne_eq] at x0 x1 x2 x3 x4 x5 v5 ⊢
      omega
