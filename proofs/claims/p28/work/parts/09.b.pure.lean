def pn1 (N : Nat → Nat) (P : Nat) : Nat → Nat := upN (upN (upN N (55 + 8 * P + 0) (stg N 47 0)) (55 + 8 * P + 1) (stg N 47 1)) (55 + 8 * P + 2) (stg N 47 2)
def pn3 (N : Nat → Nat) (P : Nat) : Nat → Nat := upN (upN (pn1 N P) (54 + 8 * P) 1) (58 + 8 * P) (N (58 + 8 * P) + 1)
def pn6 (N : Nat → Nat) (P : Nat) (y : Nat → Nat) : Nat → Nat := upN (upN (tkN (pn3 N P) 47 y 4) 3 (N 3 + N 0)) 5 (N 5 + 1)
theorem pn1_n {N : Nat → Nat} {P j : Nat} (h : j < 55 + 8 * P ∨ 58 + 8 * P ≤ j) : pn1 N P j = N j := by
  unfold pn1
  rw [upN_n (by omega), upN_n (by omega), upN_n (by omega)]
theorem pn3_n {N : Nat → Nat} {P j : Nat} (h : j < 54 + 8 * P ∨ 59 + 8 * P ≤ j) : pn3 N P j = N j := by
  unfold pn3
  rw [upN_n (by omega), upN_n (by omega), pn1_n (by omega)]
theorem pn6_n {N : Nat → Nat} {P j : Nat} {y : Nat → Nat} (h : 51 ≤ j) : pn6 N P y j = pn3 N P j := by
  unfold pn6
  rw [upN_n (by omega), upN_n (by omega), tkN_off (by omega)]
theorem pn6_m {N : Nat → Nat} {P j : Nat} {y : Nat → Nat} (h : j < 47) (h3 : j ≠ 3) (h5 : j ≠ 5) : pn6 N P y j = N j := by
  unfold pn6
  rw [upN_n h5, upN_n h3, tkN_off (by omega), pn3_n (by omega)]
theorem pn3_v (N : Nat → Nat) (P : Nat) : pn3 N P (54 + 8 * P) = 1 ∧ pn3 N P (55 + 8 * P) = stg N 47 0 ∧ pn3 N P (56 + 8 * P) = stg N 47 1 ∧ pn3 N P (57 + 8 * P) = stg N 47 2 ∧ pn3 N P (58 + 8 * P) = N (58 + 8 * P) + 1 := by
  unfold pn3 pn1
  refine ⟨?_, ?_, ?_, ?_, upN_s⟩
  · rw [upN_n (by omega), upN_s]
  · rw [upN_n (by omega), upN_n (by omega), upN_n (by omega), upN_n (by omega), Nat.add_zero, upN_s]
  · rw [upN_n (by omega), upN_n (by omega), upN_n (by omega), show 56 + 8 * P = 55 + 8 * P + 1 by omega, upN_s]
  · rw [upN_n (by omega), upN_n (by omega), show 57 + 8 * P = 55 + 8 * P + 2 by omega, upN_s]
theorem Inv.mono {N : Nat → Nat} {c c' : Nat} (I : Inv N c) (hc : c ≤ c') : Inv N c' := by
  obtain ⟨a, b, d, e, g, k⟩ := I
  refine ⟨a, b, d, e, fun p hp => ?_, k⟩
  obtain ⟨g1, g2, g3, g4, g5, g6, g7, g8, g9⟩ := g p hp
  exact ⟨g1, g2, g3, g4, g5, g6, g7, by omega, g9⟩
theorem Inv.pn {N : Nat → Nat} {c P : Nat} {y : Nat → Nat} (I : Inv N c) (hP : P < 6) (hy : ∀ k, k < 4 → y k ≤ N (47 + k)) (hs : s4 y ≤ sm4 N 47) : Inv (pn6 N P y) (c + 1) := by
  obtain ⟨a, b, d, e, g, k⟩ := I
  have hv := pn3_v N P
  have l0 := stg_le N 47 (k := 0) (by omega)
  have l1 := stg_le N 47 (k := 1) (by omega)
  have l2 := stg_le N 47 (k := 2) (by omega)
  refine ⟨by rw [pn6_m (by omega) (by omega) (by omega)]; exact a, by rw [pn6_m (by omega) (by omega) (by omega)]; exact b, fun p hp => ?_, ?_, fun p hp => ?_, ?_⟩
  · rw [sm4_eq (N := N) (fun k hk => pn6_m (by omega) (by omega) (by omega))]
    exact d p hp
  · have hk : ∀ k, k < 4 → pn6 N P y (47 + k) = tkN N 47 y 4 (47 + k) := fun k hk => by
      unfold pn6
      rw [upN_n (by omega), upN_n (by omega)]
      unfold tkN
      rw [if_pos (by omega), if_pos (by omega), pn3_n (by omega)]
    rw [sm4_eq hk, sm4_tk hy]
    omega
  · rw [pn6_n (by omega), pn6_n (by omega), pn6_n (by omega), pn6_n (by omega), pn6_n (by omega), pn6_n (by omega), pn6_n (by omega), pn6_n (by omega)]
    obtain ⟨g1, g2, g3, g4, g5, g6, g7, g8, g9⟩ := g p hp
    by_cases ep : p = P
    · subst ep
      obtain ⟨v1, v2, v3, v4, v5⟩ := hv
      rw [v1, v2, v3, v4, v5, pn3_n (by omega), pn3_n (by omega), pn3_n (by omega)]
      exact ⟨g1, g2, g3, by omega, l0, l1, l2, by omega, by omega⟩
    · rw [pn3_n (by omega), pn3_n (by omega), pn3_n (by omega), pn3_n (by omega), pn3_n (by omega), pn3_n (by omega), pn3_n (by omega), pn3_n (by omega)]
      exact ⟨g1, g2, g3, g4, g5, g6, g7, by omega, g9⟩
  · have e5 : pn6 N P y 5 = N 5 + 1 := upN_s
    have v5 := hv.2.2.2.2
    have hn : ∀ p, p < 6 → p ≠ P → pn3 N P (58 + 8 * p) = N (58 + 8 * p) := fun p hp hpp => pn3_n (by omega)
    unfold sm6 at k ⊢
    rw [e5, pn6_n (by omega), pn6_n (by omega), pn6_n (by omega), pn6_n (by omega), pn6_n (by omega), pn6_n (by omega), k]
    rcases (show P = 0 ∨ P = 1 ∨ P = 2 ∨ P = 3 ∨ P = 4 ∨ P = 5 by omega) with rfl | rfl | rfl | rfl | rfl | rfl
    all_goals
      have x0 := hn 0 (by omega)
      have x1 := hn 1 (by omega)
      have x2 := hn 2 (by omega)
      have x3 := hn 3 (by omega)
      have x4 := hn 4 (by omega)
      have x5 := hn 5 (by omega)
      simp only [Nat.reduceMul, Nat.reduceAdd, ne_eq] at x0 x1 x2 x3 x4 x5 v5 ⊢
      omega
-- pure: painting a panel, both sides alike
theorem dst_eq {N N' : Nat → Nat} {P r y b : Nat} (h1 : N' (51 + 8 * P) = N (51 + 8 * P)) (h2 : N' (52 + 8 * P) = N (52 + 8 * P)) (h3 : N' (53 + 8 * P) = N (53 + 8 * P)) : dst N' P r y b = dst N P r y b := by
  unfold dst
  rw [h1, h2, h3]
-- pure: sums and panels painted well
def su (g : Nat → Nat) : Nat → Nat
  | 0 => 0
  | n + 1 => su g n + g n
theorem su_le {g : Nat → Nat} {b : Nat} : ∀ n, (∀ k, k < n → g k ≤ b) → su g n ≤ n * b
  | 0, _ => by unfold su; omega
  | n + 1, h => by
    have h1 := su_le n (fun k hk => h k (by omega))
    have h2 := h n (by omega)
    have h3 : (n + 1) * b = n * b + b := Nat.succ_mul n b
    unfold su
    omega
def wl (N : Nat → Nat) (P : Nat) : Nat := if N (54 + 8 * P) = 0 then 0 else if N 1 < dst N P (N (55 + 8 * P)) (N (56 + 8 * P)) (N (57 + 8 * P)) then 0 else 1
theorem wl_01 (N : Nat → Nat) (P : Nat) : wl N P = 0 ∨ wl N P = 1 := by
  unfold wl
  split
  · exact Or.inl rfl
  · split
    · exact Or.inl rfl
    · exact Or.inr rfl
def po (N : Nat → Nat) (p : Nat) : Nat := sm4 N (qp p)
def pt (N : Nat → Nat) (P : Nat) : Nat := if N (54 + 8 * P) = 0 then 0 else 1
def sk (N : Nat → Nat) (P : Nat) : Nat := N (58 + 8 * P)
theorem cInP_s {d : Nat → Int32} {N : Nat → Nat} {i fu : Nat} {kk : Int32 → Option Int32} (hd : RD d N) (hi : i < 8) : s_X2_dropsInPots_L1 d kk (fu + 1) (nI (su (po N) i), nI i) = s_X2_dropsInPots_L1 d kk fu (nI (su (po N) (i + 1)), nI (i + 1)) := by
  show s_X2_dropsInPots_B1 d kk (s_X2_dropsInPots_L1 d kk fu) (nI (su (po N) i)) (nI i) = _
  unfold s_X2_dropsInPots_B1
  rw [if_neg (show ¬ (8 : Int32) ≤ nI i from nI_ge (a := i) (b := 8) (by omega) (by omega)), cl_e (cAll hd (by omega)), nm_e', nm_e', nI_add, nI_1]
  rfl
theorem cInP {d : Nat → Int32} {N : Nat → Nat} (hd : RD d N) : s_X2_dropsInPots d = some (nI (su (po N) 8)) := by
  unfold s_X2_dropsInPots
  refine (cInP_s (fu := 999) (i := 0) hd (by omega)).trans ?_
  refine (cInP_s (fu := 998) (i := 1) hd (by omega)).trans ?_
  refine (cInP_s (fu := 997) (i := 2) hd (by omega)).trans ?_
  refine (cInP_s (fu := 996) (i := 3) hd (by omega)).trans ?_
  refine (cInP_s (fu := 995) (i := 4) hd (by omega)).trans ?_
  refine (cInP_s (fu := 994) (i := 5) hd (by omega)).trans ?_
  refine (cInP_s (fu := 993) (i := 6) hd (by omega)).trans ?_
  refine (cInP_s (fu := 992) (i := 7) hd (by omega)).trans ?_
  show s_X2_dropsInPots_B1 d _ _ _ (nI 8) = _
  unfold s_X2_dropsInPots_B1 s_X2_dropsInPots_X1
  rw [if_pos (show (8 : Int32) ≤ nI 8 from nI_le (a := 8) (b := 8) (by omega) (by omega))]
theorem cIsP {s : Nat → Int32} {N : Nat → Nat} {c : Nat} (I : Inv N c) (hc : c < 2 ^ 30) (hs : ∀ k, k < 6 → s k = nI (N (58 + 8 * k))) {P : Nat} (hP : P < 6) : s_X2_isPainted s (nI P) = some (nI (pt N P)) := by
  have hI := I.2.2.2.2.1 P hP
  unfold s_X2_isPainted pt
  rw [cl_e (at_n hP (by omega)), hs P hP]
  rcases Nat.eq_zero_or_pos (N (58 + 8 * P)) with h0 | h0
  · rw [if_pos (show nI (N (58 + 8 * P)) ≤ 0 by rw [h0]; exact Int32.le_refl _), if_pos (by omega)]
    rfl
  · rw [if_neg (show ¬ nI (N (58 + 8 * P)) ≤ 0 from nI_ge (a := 0) h0 (by omega)), if_neg (by omega)]
    rfl
theorem cWell {σ : Nat → Nat → Int32} {N : Nat → Nat} {c : Nat} (h : RS σ N) (I : Inv N c) (hc : c < 2 ^ 30) {P : Nat} (hP : P < 6) : s_X2_isWell (σ 0) (σ 3) (σ 4) (σ 5) (nI P) = some (nI (wl N P)) := by
  have hI := I.2.2.2.2.1 P hP
  have h1 := I.2.1
  have hd : dst N P (N (55 + 8 * P)) (N (56 + 8 * P)) (N (57 + 8 * P)) ≤ 300 := by
    unfold dst
    have a1 := ad_le (a := N (55 + 8 * P)) (c := N (51 + 8 * P)) (m := 100) (by omega) (by omega)
    have a2 := ad_le (a := N (56 + 8 * P)) (c := N (52 + 8 * P)) (m := 100) (by omega) (by omega)
    have a3 := ad_le (a := N (57 + 8 * P)) (c := N (53 + 8 * P)) (m := 100) (by omega) (by omega)
    omega
  have hat : s_X4_at 2 (σ 0) 1 = some (nI (N 1)) := (at_n (a := 1) (n := 2) (by omega) (by omega)).trans (by rw [h.1 1 (by omega)])
  unfold s_X2_isWell wl
  rw [cl_e (cIsP I hc h.2.2.2.2.2.1 hP)]
  unfold pt
  by_cases h0 : N (54 + 8 * P) = 0
  · rw [if_pos h0, if_pos h0, if_pos nI_0]
    rfl
  · rw [if_neg h0, if_neg h0, if_neg (show ¬ nI 1 = 0 from one_ne), cl_e (cDistPanel h.2.2.2.1 h.2.2.2.2.1 hP (by omega) (by omega) (by omega) (by omega) (by omega) (by omega)), cl_e hat]
    by_cases hl : N 1 < dst N P (N (55 + 8 * P)) (N (56 + 8 * P)) (N (57 + 8 * P))
    · rw [if_pos hl, if_pos (nI_lt hl (by omega))]
      rfl
    · rw [if_neg hl, if_neg (nI_nlt (by omega) (by omega))]
      rfl
-- pure: panels counted
theorem cPW_s {σ : Nat → Nat → Int32} {N : Nat → Nat} {c i fu : Nat} {kk : Int32 → Option Int32} (h : RS σ N) (I : Inv N c) (hc : c < 2 ^ 30) (hi : i < 6) : s_X2_panelsWell_L1 (σ 0) (σ 3) (σ 4) (σ 5) kk (fu + 1) (nI (su (wl N) i), nI i) = s_X2_panelsWell_L1 (σ 0) (σ 3) (σ 4) (σ 5) kk fu (nI (su (wl N) (i + 1)), nI (i + 1)) := by
  show s_X2_panelsWell_B1 (σ 0) (σ 3) (σ 4) (σ 5) kk (s_X2_panelsWell_L1 (σ 0) (σ 3) (σ 4) (σ 5) kk fu) (nI (su (wl N) i)) (nI i) = _
  unfold s_X2_panelsWell_B1
  rw [if_neg (show ¬ (6 : Int32) ≤ nI i from nI_ge (a := i) (b := 6) (by omega) (by omega)), cl_e (cWell h I hc hi), show su (wl N) (i + 1) = su (wl N) i + wl N i from rfl]
  rcases wl_01 N i with e | e
  · rw [e, if_pos nI_0, nm_e', nm_e', nI_1, show nI (su (wl N) i) + 0 = nI (su (wl N) i + 0) from nI_add _ 0]
  · rw [e, if_neg (show ¬ nI 1 = 0 from one_ne), nm_e', nm_e', nI_1, nI_1]
theorem cPW {σ : Nat → Nat → Int32} {N : Nat → Nat} {c : Nat} (h : RS σ N) (I : Inv N c) (hc : c < 2 ^ 30) : s_X2_panelsWell (σ 0) (σ 3) (σ 4) (σ 5) = some (nI (su (wl N) 6)) := by
  unfold s_X2_panelsWell
  refine (cPW_s (fu := 999) (i := 0) h I hc (by omega)).trans ?_
  refine (cPW_s (fu := 998) (i := 1) h I hc (by omega)).trans ?_
  refine (cPW_s (fu := 997) (i := 2) h I hc (by omega)).trans ?_
  refine (cPW_s (fu := 996) (i := 3) h I hc (by omega)).trans ?_
  refine (cPW_s (fu := 995) (i := 4) h I hc (by omega)).trans ?_
  refine (cPW_s (fu := 994) (i := 5) h I hc (by omega)).trans ?_
  show s_X2_panelsWell_B1 (σ 0) (σ 3) (σ 4) (σ 5) _ _ _ (nI 6) = _
  unfold s_X2_panelsWell_B1 s_X2_panelsWell_X1
  rw [if_pos (show (6 : Int32) ≤ nI 6 from nI_le (a := 6) (b := 6) (by omega) (by omega))]
theorem pt_01 (N : Nat → Nat) (P : Nat) : pt N P = 0 ∨ pt N P = 1 := by
  unfold pt
  split
  · exact Or.inl rfl
  · exact Or.inr rfl
theorem cPP_s {s : Nat → Int32} {N : Nat → Nat} {c i fu : Nat} {kk : Int32 → Option Int32} (I : Inv N c) (hc : c < 2 ^ 30) (hs : ∀ k, k < 6 → s k = nI (N (58 + 8 * k))) (hi : i < 6) : s_X2_panelsPainted_L1 s kk (fu + 1) (nI (su (pt N) i), nI i) = s_X2_panelsPainted_L1 s kk fu (nI (su (pt N) (i + 1)), nI (i + 1)) := by
  show s_X2_panelsPainted_B1 s kk (s_X2_panelsPainted_L1 s kk fu) (nI (su (pt N) i)) (nI i) = _
  unfold s_X2_panelsPainted_B1
  rw [if_neg (show ¬ (6 : Int32) ≤ nI i from nI_ge (a := i) (b := 6) (by omega) (by omega)), cl_e (cIsP I hc hs hi), show su (pt N) (i + 1) = su (pt N) i + pt N i from rfl]
  rcases pt_01 N i with e | e
  · rw [e, if_pos nI_0, nm_e', nm_e', nI_1, show nI (su (pt N) i) + 0 = nI (su (pt N) i + 0) from nI_add _ 0]
  · rw [e, if_neg (show ¬ nI 1 = 0 from one_ne), nm_e', nm_e', nI_1, nI_1]
theorem cPP {s : Nat → Int32} {N : Nat → Nat} {c : Nat} (I : Inv N c) (hc : c < 2 ^ 30) (hs : ∀ k, k < 6 → s k = nI (N (58 + 8 * k))) : s_X2_panelsPainted s = some (nI (su (pt N) 6)) := by
  unfold s_X2_panelsPainted
  refine (cPP_s (fu := 999) (i := 0) I hc hs (by omega)).trans ?_
  refine (cPP_s (fu := 998) (i := 1) I hc hs (by omega)).trans ?_
  refine (cPP_s (fu := 997) (i := 2) I hc hs (by omega)).trans ?_
  refine (cPP_s (fu := 996) (i := 3) I hc hs (by omega)).trans ?_
  refine (cPP_s (fu := 995) (i := 4) I hc hs (by omega)).trans ?_
  refine (cPP_s (fu := 994) (i := 5) I hc hs (by omega)).trans ?_
  show s_X2_panelsPainted_B1 s _ _ _ (nI 6) = _
  unfold s_X2_panelsPainted_B1 s_X2_panelsPainted_X1
  rw [if_pos (show (6 : Int32) ≤ nI 6 from nI_le (a := 6) (b := 6) (by omega) (by omega))]
theorem cSk_s {s : Nat → Int32} {N : Nat → Nat} {i fu : Nat} {kk : Int32 → Option Int32} (hs : ∀ k, k < 6 → s k = nI (N (58 + 8 * k))) (hi : i < 6) : s_X2_allStrokes_L1 s kk (fu + 1) (nI (su (sk N) i), nI i) = s_X2_allStrokes_L1 s kk fu (nI (su (sk N) (i + 1)), nI (i + 1)) := by
  show s_X2_allStrokes_B1 s kk (s_X2_allStrokes_L1 s kk fu) (nI (su (sk N) i)) (nI i) = _
  unfold s_X2_allStrokes_B1
  rw [if_neg (show ¬ (6 : Int32) ≤ nI i from nI_ge (a := i) (b := 6) (by omega) (by omega)), cl_e (at_n hi (by omega)), hs i hi, nm_e', nm_e', nI_add, nI_1]
  rfl
theorem cSk {s : Nat → Int32} {N : Nat → Nat} {c : Nat} (I : Inv N c) (hs : ∀ k, k < 6 → s k = nI (N (58 + 8 * k))) : s_X2_allStrokes s = some (nI (N 5)) := by
  have e : su (sk N) 6 = N 5 := by
    rw [I.2.2.2.2.2]
    show 0 + N (58 + 8 * 0) + N (58 + 8 * 1) + N (58 + 8 * 2) + N (58 + 8 * 3) + N (58 + 8 * 4) + N (58 + 8 * 5) = sm6 N 58
    unfold sm6
    rw [Nat.zero_add]
  unfold s_X2_allStrokes
  rw [← e]
  refine (cSk_s (fu := 999) (i := 0) hs (by omega)).trans ?_
  refine (cSk_s (fu := 998) (i := 1) hs (by omega)).trans ?_
  refine (cSk_s (fu := 997) (i := 2) hs (by omega)).trans ?_
  refine (cSk_s (fu := 996) (i := 3) hs (by omega)).trans ?_
  refine (cSk_s (fu := 995) (i := 4) hs (by omega)).trans ?_
  refine (cSk_s (fu := 994) (i := 5) hs (by omega)).trans ?_
  show s_X2_allStrokes_B1 s _ _ _ (nI 6) = _
  unfold s_X2_allStrokes_B1 s_X2_allStrokes_X1
  rw [if_pos (show (6 : Int32) ≤ nI 6 from nI_le (a := 6) (b := 6) (by omega) (by omega))]
-- pure: settings and shades
theorem isS_l (x : Int32) : s_X2_isStrength x = s_X5_in x 0 100 := by
  unfold s_X2_isStrength cl
  show (s_X5_in x 0 100).bind some = s_X5_in x 0 100
  cases s_X5_in x 0 100 <;> rfl
def wnN (N : Nat → Nat) (P a b d : Nat) : Nat → Nat := upN (upN (upN N (51 + 8 * P) a) (51 + 8 * P + 1) b) (51 + 8 * P + 2) d
theorem wnN_n {N : Nat → Nat} {P a b d j : Nat} (h : j < 51 + 8 * P ∨ 54 + 8 * P ≤ j) : wnN N P a b d j = N j := by
  unfold wnN
  rw [upN_n (by omega), upN_n (by omega), upN_n (by omega)]
theorem wnN_v (N : Nat → Nat) (P a b d : Nat) : wnN N P a b d (51 + 8 * P) = a ∧ wnN N P a b d (52 + 8 * P) = b ∧ wnN N P a b d (53 + 8 * P) = d := by
  unfold wnN
  refine ⟨?_, ?_, ?_⟩
  · rw [upN_n (by omega), upN_n (by omega), upN_s]
  · rw [upN_n (by omega), show 52 + 8 * P = 51 + 8 * P + 1 by omega, upN_s]
  · rw [show 53 + 8 * P = 51 + 8 * P + 2 by omega, upN_s]
theorem Inv.wn {N : Nat → Nat} {c P a b d : Nat} (I : Inv N c) (hP : P < 6) (ha : a ≤ 100) (hb : b ≤ 100) (hd : d ≤ 100) : Inv (wnN N P a b d) c := by
  obtain ⟨i0, i1, i2, i3, g, k⟩ := I
  obtain ⟨v1, v2, v3⟩ := wnN_v N P a b d
  refine ⟨by rw [wnN_n (by omega)]; exact i0, by rw [wnN_n (by omega)]; exact i1, fun p hp => ?_, ?_, fun p hp => ?_, ?_⟩
  · rw [sm4_eq (N := N) (fun k hk => wnN_n (by omega))]; exact i2 p hp
  · rw [sm4_eq (N := N) (fun k hk => wnN_n (by omega))]; exact i3
  · obtain ⟨g1, g2, g3, g4, g5, g6, g7, g8, g9⟩ := g p hp
    rw [wnN_n (j := 54 + 8 * p) (by omega), wnN_n (j := 55 + 8 * p) (by omega), wnN_n (j := 56 + 8 * p) (by omega), wnN_n (j := 57 + 8 * p) (by omega), wnN_n (j := 58 + 8 * p) (by omega)]
    by_cases ep : p = P
    · subst ep
      rw [v1, v2, v3]
      exact ⟨ha, hb, hd, g4, g5, g6, g7, g8, g9⟩
    · rw [wnN_n (by omega), wnN_n (by omega), wnN_n (by omega)]
      exact ⟨g1, g2, g3, g4, g5, g6, g7, g8, g9⟩
  · unfold sm6 at k ⊢
    rw [wnN_n (by omega), wnN_n (j := 58) (by omega), wnN_n (j := 58 + 8) (by omega), wnN_n (j := 58 + 16) (by omega), wnN_n (j := 58 + 24) (by omega), wnN_n (j := 58 + 32) (by omega), wnN_n (j := 58 + 40) (by omega)]
    exact k
theorem about_no {d : Nat → Int32} {x y : Int32} (h : s_X5_in y 0 7 = some 0) : s_X2_aboutPaint d x y = some (-2) := by
  unfold s_X2_aboutPaint
  rw [bt_l, cl_e h, if_pos rfl]
def dp (N : Nat → Nat) (P p : Nat) : Nat := dst N P (stg N (qp p) 0) (stg N (qp p) 1) (stg N (qp p) 2)
def near (N : Nat → Nat) (P : Nat) : Nat → Int32 × Nat
  | 0 => (-6, 1000)
  | i + 1 => if po N i = 0 then near N P i else if (near N P i).2 ≤ dp N P i then near N P i else (nI i, dp N P i)
theorem dst_le {N : Nat → Nat} {c P r y b : Nat} (I : Inv N c) (hP : P < 6) (hr : r ≤ 100) (hy : y ≤ 100) (hb : b ≤ 100) : dst N P r y b ≤ 300 := by
  have hI := I.2.2.2.2.1 P hP
  unfold dst
  have a1 := ad_le (a := r) (c := N (51 + 8 * P)) (m := 100) (by omega) (by omega)
  have a2 := ad_le (a := y) (c := N (52 + 8 * P)) (m := 100) (by omega) (by omega)
  have a3 := ad_le (a := b) (c := N (53 + 8 * P)) (m := 100) (by omega) (by omega)
  omega
theorem dp_le {N : Nat → Nat} {c P p : Nat} (I : Inv N c) (hP : P < 6) : dp N P p ≤ 300 := dst_le I hP (stg_le _ _ (by omega)) (stg_le _ _ (by omega)) (stg_le _ _ (by omega))
theorem near_ok {N : Nat → Nat} {c P : Nat} (I : Inv N c) (hP : P < 6) : ∀ i, (near N P i).2 ≤ 1000 ∧ ((near N P i).1 = -6 ∨ ∃ j, j < i ∧ (near N P i).1 = nI j ∧ 0 < po N j ∧ (near N P i).2 = dp N P j)
  | 0 => ⟨Nat.le_refl 1000, Or.inl rfl⟩
  | i + 1 => by
    obtain ⟨a, b⟩ := near_ok I hP i
    have hd := dp_le (p := i) I hP
    unfold near
    by_cases h0 : po N i = 0
    · rw [if_pos h0]
      refine ⟨a, b.elim Or.inl (fun ⟨j, hj, q⟩ => Or.inr ⟨j, by omega, q⟩)⟩
    · rw [if_neg h0]
      by_cases h1 : (near N P i).2 ≤ dp N P i
      · rw [if_pos h1]
        refine ⟨a, b.elim Or.inl (fun ⟨j, hj, q⟩ => Or.inr ⟨j, by omega, q⟩)⟩
      · rw [if_neg h1]
        exact ⟨by show dp N P i ≤ 1000; omega, Or.inr ⟨i, by omega, rfl, by omega, rfl⟩⟩
theorem cNear_s {d w : Nat → Int32} {N : Nat → Nat} {c P i fu : Nat} {kk : Int32 → Option Int32} (hd : RD d N) (hw : ∀ k, k < 18 → w k = nI (N (wm k))) (I : Inv N c) (hP : P < 6) (hi : i < 8) : s_X0_nearestPot_L1 d w (nI P) kk (fu + 1) ((near N P i).1, nI (near N P i).2, nI i) = s_X0_nearestPot_L1 d w (nI P) kk fu ((near N P (i + 1)).1, nI (near N P (i + 1)).2, nI (i + 1)) := by
  have hI := I.2.2.2.2.1 P hP
  have hq := I.q (p := i) (by omega)
  obtain ⟨ha, -⟩ := near_ok I hP i
  have hdp := dp_le (p := i) I hP
  have hca := cAll hd (p := i) (by omega)
  show s_X0_nearestPot_B1 d w (nI P) kk (s_X0_nearestPot_L1 d w (nI P) kk fu) (near N P i).1 (nI (near N P i).2) (nI i) = _
  unfold s_X0_nearestPot_B1 s_X2_hasPaint
  rw [if_neg (show ¬ (8 : Int32) ≤ nI i from nI_ge (a := i) (b := 8) (by omega) (by omega)), cl_e hca, show near N P (i + 1) = if po N i = 0 then near N P i else if (near N P i).2 ≤ dp N P i then near N P i else (nI i, dp N P i) from rfl]
  rcases Nat.eq_zero_or_pos (sm4 N (qp i)) with hz | hz
  · rw [if_pos (show po N i = 0 from hz), if_pos (show nI (sm4 N (qp i)) ≤ 0 by rw [hz]; exact Int32.le_refl _), cl_s, if_pos rfl, nm_e', nI_1]
  · have cd : s_X2_distanceOfPaint d w (nI P) (nI i) = some (nI (dp N P i)) := cDistPaint hd hw hP (by omega) hz hq (by omega) (by omega) (by omega)
    rw [if_neg (show ¬ po N i = 0 by unfold po; omega), if_neg (show ¬ nI (sm4 N (qp i)) ≤ 0 from nI_ge (a := 0) hz (by omega)), cl_s, if_neg one_ne, cl_e cd]
    by_cases hl : (near N P i).2 ≤ dp N P i
    · rw [if_pos hl, if_pos (nI_le hl (by omega)), nm_e', nI_1]
    · rw [if_neg hl, if_neg (nI_ge (by omega) (by omega)), nm_e', nI_1]
theorem cNear {d w : Nat → Int32} {N : Nat → Nat} {c P : Nat} (hd : RD d N) (hw : ∀ k, k < 18 → w k = nI (N (wm k))) (I : Inv N c) (hP : P < 6) : s_X0_nearestPot d w (nI P) = some (near N P 8).1 := by
  unfold s_X0_nearestPot
  refine (cNear_s (fu := 999) (i := 0) hd hw I hP (by omega)).trans ?_
  refine (cNear_s (fu := 998) (i := 1) hd hw I hP (by omega)).trans ?_
  refine (cNear_s (fu := 997) (i := 2) hd hw I hP (by omega)).trans ?_
  refine (cNear_s (fu := 996) (i := 3) hd hw I hP (by omega)).trans ?_
  refine (cNear_s (fu := 995) (i := 4) hd hw I hP (by omega)).trans ?_
  refine (cNear_s (fu := 994) (i := 5) hd hw I hP (by omega)).trans ?_
  refine (cNear_s (fu := 993) (i := 6) hd hw I hP (by omega)).trans ?_
  refine (cNear_s (fu := 992) (i := 7) hd hw I hP (by omega)).trans ?_
  show s_X0_nearestPot_B1 d w (nI P) _ _ _ _ (nI 8) = _
  unfold s_X0_nearestPot_B1 s_X0_nearestPot_X1
  rw [if_pos (show (8 : Int32) ≤ nI 8 from nI_le (a := 8) (b := 8) (by omega) (by omega))]
-- pure: rinses on the way round
def ch (N : Nat → Nat) (P : Nat) : Int32 := (near N P 8).1
theorem near_emp {N : Nat → Nat} {c P : Nat} (I : Inv N c) (hP : P < 6) : ∀ i, i ≤ 8 → ((near N P i).1 = -6 ↔ su (po N) i = 0) ∧ (su (po N) i = 0 → (near N P i).2 = 1000)
  | 0, _ => ⟨⟨fun _ => rfl, fun _ => rfl⟩, fun _ => rfl⟩
  | i + 1, hi => by
    obtain ⟨a, b⟩ := near_emp I hP i (by omega)
    have hd := dp_le (p := i) I hP
    have hs : su (po N) (i + 1) = su (po N) i + po N i := rfl
    rw [hs]
    unfold near
    by_cases h0 : po N i = 0
    · rw [if_pos h0, h0, Nat.add_zero]
      exact ⟨a, b⟩
    · rw [if_neg h0]
      by_cases h1 : (near N P i).2 ≤ dp N P i
      · rw [if_pos h1]
        refine ⟨⟨fun q => absurd (b (a.mp q)) (by omega), fun q => absurd q (by omega)⟩, fun q => absurd q (by omega)⟩
      · rw [if_neg h1]
        refine ⟨⟨fun q => absurd (show nI i < 0 by rw [show nI i = -6 from q]; decide) (nI_pos (by omega)), fun q => absurd q (by omega)⟩, fun q => absurd q (by omega)⟩
theorem cCh_s {d w r : Nat → Int32} {N : Nat → Nat} {c i fu : Nat} {kk : (Nat → Int32) → Option (Int32 × (Nat → Int32))} (hd : RD d N) (hw : ∀ k, k < 18 → w k = nI (N (wm k))) (I : Inv N c) (hi : i < 6) : s_X0_choosePots_L1 d w kk (fu + 1) (nI i, r) = s_X0_choosePots_L1 d w kk fu (nI (i + 1), upd r i (ch N i)) := by
  show s_X0_choosePots_B1 d w kk (s_X0_choosePots_L1 d w kk fu) (nI i) r = _
  unfold s_X0_choosePots_B1
  rw [if_neg (show ¬ (6 : Int32) ≤ nI i from nI_ge (a := i) (b := 6) (by omega) (by omega)), cl_e (cNear hd hw I hi), cl_e (write_n hi (by omega)), nm_e', nI_1]
  rfl
theorem cChoose {d w : Nat → Int32} {N : Nat → Nat} {c : Nat} (hd : RD d N) (hw : ∀ k, k < 18 → w k = nI (N (wm k))) (I : Inv N c) (r : Nat → Int32) : ∃ r', s_X0_choosePots d w r = some (if su (po N) 8 = 0 then 0 else 1, r') ∧ ∀ k, k < 6 → r' k = ch N k := by
  have hv : ∀ k, k < 6 → upd (upd (upd (upd (upd (upd r 0 (ch N 0)) 1 (ch N 1)) 2 (ch N 2)) 3 (ch N 3)) 4 (ch N 4)) 5 (ch N 5) k = ch N k := fun k hk => by
    rcases (show k = 0 ∨ k = 1 ∨ k = 2 ∨ k = 3 ∨ k = 4 ∨ k = 5 by omega) with rfl | rfl | rfl | rfl | rfl | rfl
    · rw [pk_un (by omega), pk_un (by omega), pk_un (by omega), pk_un (by omega), pk_un (by omega), pk_us]
    · rw [pk_un (by omega), pk_un (by omega), pk_un (by omega), pk_un (by omega), pk_us]
    · rw [pk_un (by omega), pk_un (by omega), pk_un (by omega), pk_us]
    · rw [pk_un (by omega), pk_un (by omega), pk_us]
    · rw [pk_un (by omega), pk_us]
    · rw [pk_us]
  refine ⟨_, ?_, hv⟩
  unfold s_X0_choosePots
  refine (cCh_s (fu := 999) (i := 0) hd hw I (by omega)).trans ?_
  refine (cCh_s (fu := 998) (i := 1) hd hw I (by omega)).trans ?_
  refine (cCh_s (fu := 997) (i := 2) hd hw I (by omega)).trans ?_
  refine (cCh_s (fu := 996) (i := 3) hd hw I (by omega)).trans ?_
  refine (cCh_s (fu := 995) (i := 4) hd hw I (by omega)).trans ?_
  refine (cCh_s (fu := 994) (i := 5) hd hw I (by omega)).trans ?_
  show s_X0_choosePots_B1 d w _ _ (nI 6) _ = _
  unfold s_X0_choosePots_B1 s_X0_choosePots_X1
  have h0 : ch N 0 = -6 ↔ su (po N) 8 = 0 := (near_emp I (P := 0) (by omega) 8 (by omega)).1
  have hat : s_X4_at 6 (upd (upd (upd (upd (upd (upd r 0 (ch N 0)) 1 (ch N 1)) 2 (ch N 2)) 3 (ch N 3)) 4 (ch N 4)) 5 (ch N 5)) 0 = some (ch N 0) := (at_n (a := 0) (n := 6) (by omega) (by omega)).trans (by rw [hv 0 (by omega)])
  rw [if_pos (show (6 : Int32) ≤ nI 6 from nI_le (a := 6) (b := 6) (by omega) (by omega)), cl_e hat]
  by_cases e : su (po N) 8 = 0
  · rw [if_pos e, if_pos (h0.mpr e)]
  · rw [if_neg e, if_neg (fun q => e (h0.mp q))]
theorem rmd6 {β : Type} {a : Nat} {k : Int32 → Option β} (ha : a < 2 ^ 30) : rmd (nI a) 6 k = k (nI (a % 6)) := by
  rw [rmd_n (by decide), show (6 : Int32) = nI 6 from rfl, pk_div (by omega) (by omega) (by omega), pk_mul, pk_sub (by omega)]
  congr 2
  omega
def rn (N : Nat → Nat) (P i : Nat) : Nat := if ch N ((P + (i + 1)) % 6) = ch N ((P + i) % 6) then 0 else 1
theorem cRn_s {r : Int32 × (Nat → Int32)} {N : Nat → Nat} {P i fu : Nat} {kk : Int32 → Option (Int32 × (Nat → Int32))} (hr : ∀ k, k < 6 → r.2 k = ch N k) (hP : P < 6) (hi : i < 5) : s_X0_rinsesFrom_L1 (nI P) r kk (fu + 1) (nI (su (rn N P) i), nI (i + 1)) = s_X0_rinsesFrom_L1 (nI P) r kk fu (nI (su (rn N P) (i + 1)), nI (i + 1 + 1)) := by
  show s_X0_rinsesFrom_B1 (nI P) r kk (s_X0_rinsesFrom_L1 (nI P) r kk fu) (nI (su (rn N P) i)) (nI (i + 1)) = _
  unfold s_X0_rinsesFrom_B1
  rw [if_neg (show ¬ (6 : Int32) ≤ nI (i + 1) from nI_ge (a := i + 1) (b := 6) (by omega) (by omega)), nI_add, rmd6 (by omega), show nI (P + (i + 1)) - 1 = nI (P + i) from pk_sub (b := 1) (by omega), rmd6 (by omega), cl_e (at_n (by omega) (by omega)), cl_e (at_n (by omega) (by omega)), hr _ (by omega), hr _ (by omega), show su (rn N P) (i + 1) = su (rn N P) i + rn N P i from rfl]
  unfold rn
  by_cases e : ch N ((P + (i + 1)) % 6) = ch N ((P + i) % 6)
  · rw [if_pos e, if_pos e, nm_e', nm_e', nI_1, show nI (su _ i) + 0 = nI (su _ i + 0) from nI_add _ 0]
  · rw [if_neg e, if_neg e, nm_e', nm_e', nI_1, nI_1]
-- pure: the best order
def lfn (r1 r2 r3 r4 r5 : Nat) (k : Nat) : Nat := if k = 0 then 0 else if k = 1 then r1 else if k = 2 then r2 else if k = 3 then r3 else if k = 4 then r4 else r5
def cin (l : Nat → Nat) (a : Nat) : Nat → Nat → List Nat → List Nat
  | 0, _, w => w
  | n + 1, p, w => cin l a n (p + 1) (if l p = l a then w ++ [p] else w)
def cfs (l : Nat → Nat) (a : Nat) : Nat → Nat → Bool
  | 0, _ => true
  | n + 1, j => if l j = l a then false else cfs l a n (j + 1)
def cou (l : Nat → Nat) : Nat → Nat → List Nat → List Nat
  | 0, _, w => w
  | n + 1, a, w => cou l n (a + 1) (if cfs l a a 0 = true then cin l a (n + 1) a w else w)
def nxn (M : Nat) (sel : Nat → Bool) : Nat → Option Nat → Option Nat
  | 0, acc => acc
  | n + 1, acc => nxn M sel n (if M.testBit n = false ∧ sel n = true then some n else acc)
def stp (l : Nat → Nat) (s : Nat × Nat) : Option (Nat × Nat) :=
  match nxn s.2 (fun i => decide (l i = l s.1)) 6 none with
  | some q => some (q, s.2 ||| 1 <<< q)
  | none => match nxn s.2 (fun _ => true) 6 none with
    | some q => some (q, s.2 ||| 1 <<< q)
    | none => none
def mst (l : Nat → Nat) : Nat → Option (Nat × Nat)
  | 0 => some (0, 1)
  | k + 1 => (mst l k).bind (stp l)
theorem ord_all : ∀ (r1 : Fin 2) (r2 : Fin 3) (r3 : Fin 4) (r4 : Fin 5) (r5 : Fin 6), List.map (fun k => (mst (lfn r1.val r2.val r3.val r4.val r5.val) k).map Prod.fst) [0, 1, 2, 3, 4, 5] = (cou (lfn r1.val r2.val r3.val r4.val r5.val) 6 0 []).map some := by decide +kernel
theorem ord_k {l : Nat → Nat} {W : List Nat} (h : List.map (fun k => (mst l k).map Prod.fst) [0, 1, 2, 3, 4, 5] = W.map some) : W.length = 6 ∧ ∀ k, k < 6 → ∃ v M, W[k]? = some v ∧ mst l k = some (v, M) := by
  have hl : W.length = 6 := by
    have e := congrArg List.length h
    rw [List.length_map, List.length_map] at e
    exact e.symm
  refine ⟨hl, fun k hk => ?_⟩
  have e := congrArg (fun L => L[k]?) h
  have hv : W[k]? = some (W[k]'(by omega)) := List.getElem?_eq_getElem (by omega)
  have e2 : (List.map some W)[k]? = some (some (W[k]'(by omega))) := by rw [List.getElem?_map, hv]; rfl
  have e3 : (mst l k).map Prod.fst = some (W[k]'(by omega)) := by
    have e4 : (List.map (fun k => (mst l k).map Prod.fst) [0, 1, 2, 3, 4, 5])[k]? = some ((mst l k).map Prod.fst) := by
      rw [List.getElem?_map]
      rcases (show k = 0 ∨ k = 1 ∨ k = 2 ∨ k = 3 ∨ k = 4 ∨ k = 5 by omega) with rfl | rfl | rfl | rfl | rfl | rfl <;> rfl
    have e5 := e4.symm.trans (e.trans e2)
    exact Option.some.inj e5
  cases hm : mst l k with
  | none => rw [hm] at e3; cases e3
  | some s =>
    rw [hm] at e3
    exact ⟨_, s.2, hv, by rw [← Option.some.inj e3]⟩
-- labels of an equality pattern
def fin0 (c : Nat → Int32) (v : Int32) : Nat → Nat → Nat
  | 0, j => j
  | n + 1, j => if c j = v then j else fin0 c v n (j + 1)
theorem fin0_ok (c : Nat → Int32) (v : Int32) : ∀ n j, j ≤ fin0 c v n j ∧ fin0 c v n j ≤ j + n ∧ (∀ k, j ≤ k → k < fin0 c v n j → ¬ c k = v) ∧ (fin0 c v n j < j + n → c (fin0 c v n j) = v)
  | 0, j => ⟨Nat.le_refl _, Nat.le_refl _, fun k h1 h2 => absurd h2 (by show ¬ k < j; omega), fun h => absurd h (by show ¬ j < j; omega)⟩
  | n + 1, j => by
    obtain ⟨a, b, d, e⟩ := fin0_ok c v n (j + 1)
    unfold fin0
    by_cases h : c j = v
    · rw [if_pos h]
      exact ⟨Nat.le_refl _, by omega, fun k h1 h2 => by omega, fun _ => h⟩
    · rw [if_neg h]
      refine ⟨by omega, by omega, fun k h1 h2 => ?_, fun q => e (by omega)⟩
      rcases Nat.eq_or_lt_of_le h1 with q | q
      · rw [← q]; exact h
      · exact d k q h2
def lbl (c : Nat → Int32) (i : Nat) : Nat := fin0 c (c i) i 0
theorem lbl_le (c : Nat → Int32) (i : Nat) : lbl c i ≤ i := by
  have h := (fin0_ok c (c i) i 0).2.1
  unfold lbl
  omega
theorem lbl_c (c : Nat → Int32) (i : Nat) : c (lbl c i) = c i := by
  obtain ⟨a, b, d, e⟩ := fin0_ok c (c i) i 0
  have hl := lbl_le c i
  rcases Nat.eq_or_lt_of_le hl with q | q
  · rw [q]
  · exact e (by unfold lbl at q; omega)
theorem lbl_m (c : Nat → Int32) (i k : Nat) (h : k < lbl c i) : ¬ c k = c i := (fin0_ok c (c i) i 0).2.2.1 k (Nat.zero_le k) h
theorem lbl_eq (c : Nat → Int32) (i j : Nat) : c i = c j ↔ lbl c i = lbl c j := by
  refine ⟨fun h => ?_, fun h => ?_⟩
  · rcases Nat.lt_trichotomy (lbl c i) (lbl c j) with q | q | q
    · exact absurd ((lbl_c c i).trans h) (lbl_m c j _ q)
    · exact q
    · exact absurd ((lbl_c c j).trans h.symm) (lbl_m c i _ q)
  · rw [← lbl_c c i, ← lbl_c c j, h]
def lbf (c : Nat → Int32) : Nat → Nat := lfn (lbl c 1) (lbl c 2) (lbl c 3) (lbl c 4) (lbl c 5)
theorem lbf_v (c : Nat → Int32) (i : Nat) (hi : i < 6) : lbf c i = lbl c i := by
  rcases (show i = 0 ∨ i = 1 ∨ i = 2 ∨ i = 3 ∨ i = 4 ∨ i = 5 by omega) with rfl | rfl | rfl | rfl | rfl | rfl
  · have := lbl_le c 0
    show 0 = lbl c 0
    omega
  all_goals rfl
theorem lbf_eq (c : Nat → Int32) (i j : Nat) (hi : i < 6) (hj : j < 6) : c i = c j ↔ lbf c i = lbf c j := by
  rw [lbf_v c i hi, lbf_v c j hj]
  exact lbl_eq c i j
theorem lbf_ord (c : Nat → Int32) : (cou (lbf c) 6 0 []).length = 6 ∧ ∀ k, k < 6 → ∃ v M, (cou (lbf c) 6 0 [])[k]? = some v ∧ mst (lbf c) k = some (v, M) := ord_k (ord_all ⟨lbl c 1, Nat.lt_succ_of_le (lbl_le c 1)⟩ ⟨lbl c 2, Nat.lt_succ_of_le (lbl_le c 2)⟩ ⟨lbl c 3, Nat.lt_succ_of_le (lbl_le c 3)⟩ ⟨lbl c 4, Nat.lt_succ_of_le (lbl_le c 4)⟩ ⟨lbl c 5, Nat.lt_succ_of_le (lbl_le c 5)⟩)
-- the other side
def OW (y : Nat → Int32) (w : List Nat) : Prop := ∀ k v, w[k]? = some v → y k = nI v
theorem OW.add {y : Nat → Int32} {w : List Nat} (h : OW y w) (p : Nat) : OW (upd y w.length (nI p)) (w ++ [p]) := by
  intro k v hk
  rcases Nat.lt_trichotomy k w.length with q | q | q
  · rw [List.getElem?_append_left q] at hk
    rw [pk_un (by omega)]
    exact h k v hk
  · rw [List.getElem?_append_right (by omega), q, Nat.sub_self] at hk
    rw [q, pk_us, show p = v from Option.some.inj hk]
  · rw [List.getElem?_append_right (by omega)] at hk
    obtain ⟨j, hj⟩ : ∃ j, k - w.length = j + 1 := ⟨k - w.length - 1, by omega⟩
    rw [hj] at hk
    simp at hk
theorem len1 (w : List Nat) (p : Nat) : (w ++ [p]).length = w.length + 1 := by simp
theorem cin_len (l : Nat → Nat) (a : Nat) : ∀ n p w, w.length ≤ (cin l a n p w).length
  | 0, _, _ => Nat.le_refl _
  | n + 1, p, w => by
    have h := cin_len l a n (p + 1) (if l p = l a then w ++ [p] else w)
    unfold cin
    refine Nat.le_trans ?_ h
    split
    · rw [len1]; omega
    · exact Nat.le_refl _
theorem cou_len (l : Nat → Nat) : ∀ n a w, w.length ≤ (cou l n a w).length
  | 0, _, _ => Nat.le_refl _
  | n + 1, a, w => by
    have h := cou_len l n (a + 1) (if cfs l a a 0 = true then cin l a (n + 1) a w else w)
    unfold cou
    refine Nat.le_trans ?_ h
    split
    · exact cin_len l a (n + 1) a w
    · exact Nat.le_refl _
theorem cIn_l {c : Nat → Int32} {l : Nat → Nat} {r : Int32 × (Nat → Int32)} {a : Nat} {kk : Int32 × (Nat → Int32) → Option (Int32 × (Nat → Int32) × (Nat → Int32))} (hr : ∀ k, k < 6 → r.2 k = c k) (hl : ∀ i j, i < 6 → j < 6 → (c i = c j ↔ l i = l j)) (ha : a < 6) (fu : Nat) : ∀ (n p : Nat) (y : Nat → Int32) (w : List Nat), p + n = 6 → OW y w → (cin l a n p w).length ≤ 6 → ∃ y', OW y' (cin l a n p w) ∧ s_X0_panelInOrder_L2 r (nI a) kk (fu + n + 1) (nI w.length, nI p, y) = kk (nI (cin l a n p w).length, y')
  | 0, p, y, w, h, hy, hb => by
    have e : p = 6 := by omega
    subst e
    refine ⟨y, hy, ?_⟩
    show s_X0_panelInOrder_B2 r _ kk _ _ (nI 6) y = _
    unfold s_X0_panelInOrder_B2
    rw [if_pos (show (6 : Int32) ≤ nI 6 from nI_le (a := 6) (b := 6) (by omega) (by omega))]
    rfl
  | n + 1, p, y, w, h, hy, hb => by
    have es : cin l a (n + 1) p w = cin l a n (p + 1) (if l p = l a then w ++ [p] else w) := rfl
    by_cases e : l p = l a
    · rw [if_pos e] at es
      rw [es] at hb ⊢
      have h1 := cin_len l a n (p + 1) (w ++ [p])
      rw [len1] at h1
      obtain ⟨y', hy', e'⟩ := cIn_l (kk := kk) hr hl ha fu n (p + 1) (upd y w.length (nI p)) (w ++ [p]) (by omega) (hy.add p) hb
      refine ⟨y', hy', Eq.trans ?_ e'⟩
      show s_X0_panelInOrder_B2 r (nI a) kk (s_X0_panelInOrder_L2 r (nI a) kk (fu + n + 1)) (nI w.length) (nI p) y = _
      unfold s_X0_panelInOrder_B2
      rw [if_neg (show ¬ (6 : Int32) ≤ nI p from nI_ge (a := p) (b := 6) (by omega) (by omega)), cl_e (at_n (by omega) (by omega)), cl_e (at_n (by omega) (by omega)), hr _ (by omega), hr _ (by omega), if_pos ((hl p a (by omega) ha).mpr e), cl_e (write_n (by omega) (by omega)), nm_e', nm_e', nI_1, nI_1, len1]
    · rw [if_neg e] at es
      rw [es] at hb ⊢
      obtain ⟨y', hy', e'⟩ := cIn_l (kk := kk) hr hl ha fu n (p + 1) y w (by omega) hy hb
      refine ⟨y', hy', Eq.trans ?_ e'⟩
      show s_X0_panelInOrder_B2 r (nI a) kk (s_X0_panelInOrder_L2 r (nI a) kk (fu + n + 1)) (nI w.length) (nI p) y = _
      unfold s_X0_panelInOrder_B2
      rw [if_neg (show ¬ (6 : Int32) ≤ nI p from nI_ge (a := p) (b := 6) (by omega) (by omega)), cl_e (at_n (by omega) (by omega)), cl_e (at_n (by omega) (by omega)), hr _ (by omega), hr _ (by omega), if_neg (fun q => e ((hl p a (by omega) ha).mp q)), nm_e', nI_1]
theorem cFs_l {c : Nat → Int32} {l : Nat → Nat} {r : Nat → Int32} {a : Nat} {kk : Unit → Option Int32} (hr : ∀ k, k < 6 → r k = c k) (hl : ∀ i j, i < 6 → j < 6 → (c i = c j ↔ l i = l j)) (ha : a < 6) (fu : Nat) : ∀ n j, j + n = a → s_X0_isFirstOfItsPot_L1 (nI a) r kk (fu + n + 1) (nI j) = if cfs l a n j = true then kk () else some 0
  | 0, j, h => by
    show s_X0_isFirstOfItsPot_B1 (nI a) r kk _ (nI j) = _
    unfold s_X0_isFirstOfItsPot_B1
    rw [if_pos (nI_le (by omega) (by omega))]
    rfl
  | n + 1, j, h => by
    show s_X0_isFirstOfItsPot_B1 (nI a) r kk (s_X0_isFirstOfItsPot_L1 (nI a) r kk (fu + n + 1)) (nI j) = _
    unfold s_X0_isFirstOfItsPot_B1
    rw [if_neg (show ¬ nI a ≤ nI j from nI_ge (by omega) (by omega)), cl_e (at_n (by omega) (by omega)), cl_e (at_n (by omega) (by omega)), hr _ (by omega), hr _ (by omega), show cfs l a (n + 1) j = if l j = l a then false else cfs l a n (j + 1) from rfl]
    by_cases e : l j = l a
    · rw [if_pos ((hl j a (by omega) ha).mpr e), if_pos e]
      rfl
    · rw [if_neg (fun q => e ((hl j a (by omega) ha).mp q)), if_neg e, nm_e', nI_1]
      exact cFs_l hr hl ha fu n (j + 1) (by omega)
theorem cFs {c : Nat → Int32} {l : Nat → Nat} {r : Nat → Int32} {a : Nat} (hr : ∀ k, k < 6 → r k = c k) (hl : ∀ i j, i < 6 → j < 6 → (c i = c j ↔ l i = l j)) (ha : a < 6) : s_X0_isFirstOfItsPot r (nI a) = some (if cfs l a a 0 = true then 1 else 0) := by
  have e := cFs_l (kk := s_X0_isFirstOfItsPot_X1) hr hl ha (999 - a) a 0 (by omega)
  rw [show 999 - a + a + 1 = 1000 by omega] at e
  refine Eq.trans e ?_
  split <;> rfl
theorem cOu_l {c : Nat → Int32} {l : Nat → Nat} {r : Int32 × (Nat → Int32)} {kk : (Nat → Int32) → Option (Int32 × (Nat → Int32) × (Nat → Int32))} (hr : ∀ k, k < 6 → r.2 k = c k) (hl : ∀ i j, i < 6 → j < 6 → (c i = c j ↔ l i = l j)) (fu : Nat) : ∀ (n a : Nat) (y : Nat → Int32) (w : List Nat), a + n = 6 → OW y w → (cou l n a w).length ≤ 6 → ∃ y', OW y' (cou l n a w) ∧ s_X0_panelInOrder_L1 r kk (fu + n + 1) (nI w.length, nI a, y) = kk y'
  | 0, a, y, w, h, hy, hb => by
    have e : a = 6 := by omega
    subst e
    refine ⟨y, hy, ?_⟩
    show s_X0_panelInOrder_B1 r kk _ _ (nI 6) y = _
    unfold s_X0_panelInOrder_B1
    rw [if_pos (show (6 : Int32) ≤ nI 6 from nI_le (a := 6) (b := 6) (by omega) (by omega))]
  | n + 1, a, y, w, h, hy, hb => by
    have es : cou l (n + 1) a w = cou l n (a + 1) (if cfs l a a 0 = true then cin l a (n + 1) a w else w) := rfl
    have ef := cFs hr hl (a := a) (by omega)
    by_cases e : cfs l a a 0 = true
    · rw [if_pos e] at es ef
      rw [es] at hb ⊢
      have h1 := cou_len l n (a + 1) (cin l a (n + 1) a w)
      obtain ⟨y1, hy1, e1⟩ := cIn_l (kk := s_X0_panelInOrder_X2 (s_X0_panelInOrder_L1 r kk (fu + n + 1)) (nI a)) hr hl (a := a) (by omega) (999 - (n + 1)) (n + 1) a y w (by omega) hy (by omega)
      rw [show 999 - (n + 1) + (n + 1) + 1 = 1000 by omega] at e1
      obtain ⟨y', hy', e'⟩ := cOu_l (kk := kk) hr hl fu n (a + 1) y1 (cin l a (n + 1) a w) (by omega) hy1 hb
      refine ⟨y', hy', Eq.trans ?_ e'⟩
      show s_X0_panelInOrder_B1 r kk (s_X0_panelInOrder_L1 r kk (fu + n + 1)) (nI w.length) (nI a) y = _
      unfold s_X0_panelInOrder_B1
      rw [if_neg (show ¬ (6 : Int32) ≤ nI a from nI_ge (a := a) (b := 6) (by omega) (by omega)), cl_e ef, if_neg one_ne, e1]
      unfold s_X0_panelInOrder_X2
      rw [nm_e', nI_1]
    · rw [if_neg e] at es ef
      rw [es] at hb ⊢
      obtain ⟨y', hy', e'⟩ := cOu_l (kk := kk) hr hl fu n (a + 1) y w (by omega) hy hb
      refine ⟨y', hy', Eq.trans ?_ e'⟩
      show s_X0_panelInOrder_B1 r kk (s_X0_panelInOrder_L1 r kk (fu + n + 1)) (nI w.length) (nI a) y = _
      unfold s_X0_panelInOrder_B1
      rw [if_neg (show ¬ (6 : Int32) ≤ nI a from nI_ge (a := a) (b := 6) (by omega) (by omega)), cl_e ef, if_pos rfl, nm_e', nI_1]
-- the model's side
def cod : Option Nat → Int32
  | none => -6
  | some k => nI k
theorem bit_k6 : ∀ M : Fin 64, ∀ k : Fin 6, (((nI M.val >>> (nI k.val &&& 31)) &&& 1) = 0 ↔ M.val.testBit k.val = false) := by decide +kernel
theorem bit_o6 : ∀ M : Fin 64, ∀ k : Fin 6, nI M.val ||| ((1 : Int32) <<< (nI k.val &&& 31)) = nI (M.val ||| 1 <<< k.val) ∧ (M.val ||| 1 <<< k.val) < 64 := by decide +kernel
theorem nxn_lt (M : Nat) (sel : Nat → Bool) {m : Nat} : ∀ n acc, n ≤ m → (∀ q, acc = some q → q < m) → ∀ q, nxn M sel n acc = some q → q < m
  | 0, _, _, ha, q, h => ha q h
  | n + 1, acc, hn, ha, q, h => by
    refine nxn_lt M sel n (if M.testBit n = false ∧ sel n = true then some n else acc) (by omega) (fun z hz => ?_) q h
    split at hz
    · have := Option.some.inj hz
      omega
    · exact ha z hz
-- pure: states kept and recorded
theorem cpR {n : Nat} (hn : n < 2 ^ 31) (f g : Nat → Int32) : ∃ h, s_X4_copyRow n f n g = some h ∧ ∀ k, k < n → h k = f k := by
  refine ⟨va_cpy f g 0 0 n, ?_, fun k hk => ?_⟩
  · have e : (Int32.ofNat n).toNatClampNeg = n := nI_clamp hn
    have q : ¬ (Int32.ofNat n < 0 ∨ n < n ∨ n < n) := fun q => by
      rcases q with q | q | q
      · exact nI_pos hn q
      · omega
      · omega
    unfold s_X4_copyRow
    rw [nm_e', ite_self]
    unfold cpy
    rw [e, if_neg q]
  · unfold va_cpy
    rw [if_pos ⟨Nat.zero_le _, by omega⟩, Nat.zero_add, Nat.sub_zero]
theorem cpS {σ : Nat → Nat → Int32} {N : Nat → Nat} (h : RS σ N) (τ : Nat → Nat → Int32) : ∃ τ' : Nat → Nat → Int32, s_X2_copyFrom (τ 0) (τ 1) (τ 2) (τ 3) (τ 4) (τ 5) (σ 6 0) (σ 7 0) (σ 8 0) (σ 9 0) (σ 0) (σ 1) (σ 2) (σ 3) (σ 4) (σ 5) = some (τ' 6 0, τ' 7 0, τ' 8 0, τ' 9 0, τ' 0, τ' 1, τ' 2, τ' 3, τ' 4, τ' 5) ∧ RS τ' N ∧ ∀ j, 10 ≤ j → τ' j = τ j := by
  obtain ⟨r0, e0, h0⟩ := cpR (n := 2) (by omega) (σ 0) (τ 0)
  obtain ⟨r1, e1, h1⟩ := cpR (n := 36) (by omega) (σ 1) (τ 1)
  obtain ⟨r2, e2, h2⟩ := cpR (n := 8) (by omega) (σ 2) (τ 2)
  obtain ⟨r3, e3, h3⟩ := cpR (n := 18) (by omega) (σ 3) (τ 3)
  obtain ⟨r4, e4, h4⟩ := cpR (n := 18) (by omega) (σ 4) (τ 4)
  obtain ⟨r5, e5, h5⟩ := cpR (n := 6) (by omega) (σ 5) (τ 5)
  refine ⟨fun j => if j = 0 then r0 else if j = 1 then r1 else if j = 2 then r2 else if j = 3 then r3 else if j = 4 then r4 else if j = 5 then r5 else if j < 10 then σ j else τ j, ?_, ?_, fun j hj => ?_⟩
  · unfold s_X2_copyFrom
    rw [cl_e e0, cl_e e1, cl_e e2, cl_e e3, cl_e e4, cl_e e5]
    rfl
  · exact ⟨fun k hk => (h0 k hk).trans (h.1 k hk), fun k hk => (h1 k hk).trans (h.2.1 k hk), fun k hk => (h2 k hk).trans (h.2.2.1 k hk), fun k hk => (h3 k hk).trans (h.2.2.2.1 k hk), fun k hk => (h4 k hk).trans (h.2.2.2.2.1 k hk), fun k hk => (h5 k hk).trans (h.2.2.2.2.2.1 k hk), h.2.2.2.2.2.2.1, h.2.2.2.2.2.2.2.1, h.2.2.2.2.2.2.2.2.1, h.2.2.2.2.2.2.2.2.2⟩
  · show (if j = 0 then r0 else if j = 1 then r1 else if j = 2 then r2 else if j = 3 then r3 else if j = 4 then r4 else if j = 5 then r5 else if j < 10 then σ j else τ j) = τ j
    rw [if_neg (by omega), if_neg (by omega), if_neg (by omega), if_neg (by omega), if_neg (by omega), if_neg (by omega), if_neg (by omega)]
def upT (τ : Nat → Nat → Nat → Int32) (p : Nat) (x : Nat → Nat → Int32) : Nat → Nat → Nat → Int32 := fun q => if q = p then x else τ q
theorem upT_s {τ : Nat → Nat → Nat → Int32} {p : Nat} {x : Nat → Nat → Int32} : upT τ p x p = x := if_pos rfl
theorem upT_n {τ : Nat → Nat → Nat → Int32} {p q : Nat} {x : Nat → Nat → Int32} (h : q ≠ p) : upT τ p x q = τ q := if_neg h
theorem cRec {np kp : Nat} {r : Int32} (hn : np < 7) (hk : kp ≤ 6) (hr : ¬ r < 0) : s_X4_recorded (nI np) (nI kp) r = some (r, nI ((np + 1) % 7), nI (if kp = 6 then 6 else kp + 1)) := by
  have hm : (if 6 < nI kp + 1 then 6 else nI kp + 1) = nI (if kp = 6 then 6 else kp + 1) := by
    rw [nI_1]
    by_cases h : kp = 6
    · rw [if_pos h, if_pos (show (6 : Int32) < nI (kp + 1) from nI_lt (a := 6) (by omega) (by omega))]
      rfl
    · rw [if_neg h, if_neg (show ¬ (6 : Int32) < nI (kp + 1) from nI_nlt (a := 6) (by omega) (by omega))]
  unfold s_X4_recorded
  rw [if_neg hr, hm]
  by_cases h : np < 6
  · rw [if_pos (show nI np < 6 from nI_lt (b := 6) h (by omega)), nm_e', nm_e', nI_1, show (np + 1) % 7 = np + 1 by omega]
  · rw [if_neg (show ¬ nI np < 6 from nI_nlt (b := 6) (by omega) (by omega)), nm_e', show (np + 1) % 7 = 0 by omega]
    rfl
theorem cRecN {a b r : Int32} (hr : r < 0) : s_X4_recorded a b r = some (r, a, b) := if_pos hr
