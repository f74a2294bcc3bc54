-- the law's answer
theorem cell_ok {L k : Nat} {xs : Nat → Int32} (hL : L < 2 ^ 31) (hk : k < 2 ^ 31) : ∃ n : Nat, n < 2 ^ 31 ∧ s_L_cell L xs (nI k) = some (nI n) := by
  unfold s_L_cell
  by_cases h : Int32.ofNat L ≤ nI k
  · rw [if_pos h]
    obtain ⟨j, hj, e⟩ := pk_andE (15485959 * nI k + 8043) (m := 2147483647) 31 (by decide)
    exact ⟨j, hj, by rw [e]⟩
  · have hlt : k < L := Nat.lt_of_not_le fun q => h (show nI L ≤ nI k from nI_le q hk)
    rw [if_neg h, ld_n hlt hL]
    obtain ⟨j, hj, e⟩ := pk_andE (xs k) (m := 2147483647) 31 (by decide)
    exact ⟨j, hj, by rw [e]⟩
theorem law_l {L : Nat} {xs : Nat → Int32} (hL : L < 2 ^ 31) {kk : Ab → Option Int32} (fu : Nat) : ∀ (n k : Nat) (x : Ab), k + n = 44 → J x k → ∃ x' : Ab, J x' 44 ∧ s_L_law_L1 L xs kk (fu + n + 1) (nI k, x) = kk x' := by
  intro n
  induction n with
  | zero =>
    intro k x hk hJ
    have e : k = 44 := by omega
    subst e
    refine ⟨x, hJ, ?_⟩
    show s_L_law_B1 L xs kk _ (nI 44) x = _
    unfold s_L_law_B1
    rw [if_pos (show (44 : Int32) ≤ nI 44 from nI_le (a := 44) (by omega) (by omega))]
  | succ n ih =>
    intro k x hk hJ
    obtain ⟨v, hv, ev⟩ := cell_ok (L := L) (xs := xs) hL (show k < 2 ^ 31 by omega)
    obtain ⟨x1, e1, hJ1⟩ := acts_ok hJ (by omega) hv
    obtain ⟨x', hJ', e'⟩ := ih (k + 1) x1 (by omega) hJ1
    refine ⟨x', hJ', Eq.trans ?_ e'⟩
    show s_L_law_B1 L xs kk (s_L_law_L1 L xs kk (fu + n + 1)) (nI k) x = _
    unfold s_L_law_B1
    rw [if_neg (show ¬ (44 : Int32) ≤ nI k from nI_ge (b := 44) (by omega) (by omega)), cl_e ev, cl_e e1]
    dsimp only
    rw [if_neg one_ne, rmdN (D := 15) (d := 15) (show k < 2 ^ 31 by omega) rfl (by omega) (by omega)]
    by_cases h15 : k % 15 = 0
    · rw [h15, if_neg (show ¬ (0 : Int32) < nI 0 by decide), cl_e (drops_ok hJ1.1 (by omega) hJ1.2.1), if_neg one_ne, nm_e', nI_1]
    · rw [if_pos (show (0 : Int32) < nI (k % 15) from nI_lt (a := 0) (by omega) (by omega)), nm_e', nI_1]
theorem law_x {x : Ab} (hJ : J x 44) : s_L_law_X1 x = some 1 := by
  obtain ⟨I, hB, hs, hk⟩ := hJ
  have hc : 44 ≤ 2 ^ 28 := by omega
  have hsu := su_le (g := po x.1) (b := 81) 8 (fun k hk => I.q (by omega))
  unfold s_L_law_X1
  rw [cl_e (c_3 I hc), cl_e (c_5 I hc), cl_e (drops_ok I hc hB), if_neg one_ne, cl_e (near_okS I hc), if_neg one_ne]
  have e1 : a_save x 1 = some (nI (su (po x.1) 8), (x.1, x.2.1, x.2.2.1, some x.1)) := gd_p ⟨rfl, hs⟩
  rw [cl_e e1]
  dsimp only
  rw [if_pos (show nI (su (po x.1) 8) = nI (su (po x.1) 8) from rfl)]
  -- rinse
  obtain ⟨x1, hx1⟩ : ∃ x1 : Ab, x1 = (x.1, x.2.1, x.2.2.1, some x.1) := ⟨_, rfl⟩
  have n1 : x1.1 = x.1 := by rw [hx1]
  have k1 : x1.2.2.1 ≤ 6 := by rw [hx1]; exact hk
  have s1 : x1.2.2.2 = some x.1 := by rw [hx1]
  rw [← hx1]
  have I1 : Inv x1.1 44 := by rw [n1]; exact I
  have B1 : Bal x1.1 := by rw [n1]; exact hB
  have h47 := I1.2.2.2.1
  rw [cl_e (a_rinse_n I1 hc)]
  dsimp only
  rw [if_neg (show ¬ (rinseR x1.1).1 < 0 from nI_pos (show sm4 x1.1 47 < 2 ^ 31 by omega))]
  obtain ⟨I2, B2⟩ := I_rinse I1 B1
  obtain ⟨x2, hx2⟩ : ∃ x2 : Ab, x2 = chgA x1 (rinseR x1.1) := ⟨_, rfl⟩
  have k2 : x2.2.2.1 ≤ 6 := by rw [hx2]; exact chgA_k _ k1
  have s2 : x2.2.2.2 = some x.1 := by rw [hx2]; exact (chgA_sl _ _).trans s1
  have I2' : Inv x2.1 44 := by rw [hx2]; exact I2
  have B2' : Bal x2.1 := by rw [hx2]; exact B2
  rw [← hx2]
  -- empty 0
  have q2 := sm4_81 I2' (show 0 < 8 by omega)
  have e3 : a_empty x2 0 = some ((emptyR x2.1 0).1, chgA x2 (emptyR x2.1 0)) := a_empty_n I2' hc (p := 0) (by omega)
  rw [cl_e e3]
  dsimp only
  rw [if_neg (show ¬ (emptyR x2.1 0).1 < 0 from nI_pos (show sm4 x2.1 (qp 0) < 2 ^ 31 by omega))]
  obtain ⟨I3, B3⟩ := I_sink I2' B2' (p := 0) (by omega)
  obtain ⟨x3, hx3⟩ : ∃ x3 : Ab, x3 = chgA x2 (emptyR x2.1 0) := ⟨_, rfl⟩
  have k3 : x3.2.2.1 ≤ 6 := by rw [hx3]; exact chgA_k _ k2
  have s3 : x3.2.2.2 = some x.1 := by rw [hx3]; exact (chgA_sl _ _).trans s2
  have n3 : x3.1 = skN x2.1 0 := by rw [hx3]; rfl
  have I3' : Inv x3.1 44 := by rw [n3]; exact I3
  have B3' : Bal x3.1 := by rw [n3]; exact B3
  rw [← hx3]
  -- empty 1
  have q3 := sm4_81 I3' (show 1 < 8 by omega)
  have e4 : a_empty x3 1 = some ((emptyR x3.1 1).1, chgA x3 (emptyR x3.1 1)) := a_empty_n I3' hc (p := 1) (by omega)
  rw [cl_e e4]
  dsimp only
  rw [if_neg (show ¬ (emptyR x3.1 1).1 < 0 from nI_pos (show sm4 x3.1 (qp 1) < 2 ^ 31 by omega))]
  obtain ⟨I4, B4⟩ := I_sink I3' B3' (p := 1) (by omega)
  obtain ⟨x4, hx4⟩ : ∃ x4 : Ab, x4 = chgA x3 (emptyR x3.1 1) := ⟨_, rfl⟩
  have k4 : x4.2.2.1 ≤ 6 := by rw [hx4]; exact chgA_k _ k3
  have s4x : x4.2.2.2 = some x.1 := by rw [hx4]; exact (chgA_sl _ _).trans s3
  have n4 : x4.1 = skN x3.1 1 := by rw [hx4]; rfl
  have I4' : Inv x4.1 44 := by rw [n4]; exact I4
  rw [← hx4]
  -- the slot
  have eg : x4.2.2.2.getD (fun _ => 0) = x.1 := by rw [s4x]; rfl
  have e5 : a_restore_s x4 1 = some (nI (su (po x.1) 8), chgA x4 (nI (su (po x.1) 8), x.1)) := by
    refine (gd_p ⟨rfl, x.1, s4x⟩).trans ?_
    rw [eg]
  rw [cl_e e5]
  dsimp only
  rw [if_pos (show nI (su (po x.1) 8) = nI (su (po x.1) 8) from rfl)]
  have hnn : ¬ nI (su (po x.1) 8) < 0 := nI_pos (by omega)
  have hx5 : chgA x4 (nI (su (po x.1) 8), x.1) = (x.1, (fun j => if j = 0 then x4.1 else x4.2.1 (j - 1)), (if x4.2.2.1 = 6 then 6 else x4.2.2.1 + 1), x4.2.2.2) := by
    unfold chgA
    rw [if_neg hnn]
  rw [hx5]
  obtain ⟨x5, h5⟩ : ∃ x5 : Ab, x5 = (x.1, (fun j => if j = 0 then x4.1 else x4.2.1 (j - 1)), (if x4.2.2.1 = 6 then 6 else x4.2.2.1 + 1), x4.2.2.2) := ⟨_, rfl⟩
  have n5 : x5.1 = x.1 := by rw [h5]
  have t5 : x5.2.1 0 = x4.1 := by rw [h5]; rfl
  have k5 : x5.2.2.1 = if x4.2.2.1 = 6 then 6 else x4.2.2.1 + 1 := by rw [h5]
  have k5' : 0 < x5.2.2.1 ∧ x5.2.2.1 ≤ 6 := by
    rw [k5]
    split <;> omega
  rw [← h5]
  have I5 : Inv x5.1 44 := by rw [n5]; exact I
  have c5 := c_5 I5 hc
  rw [n5] at c5
  rw [cl_e c5, if_pos (show nI (x.1 4) = nI (x.1 4) from rfl)]
  -- undo
  have e6 : a_undo x5 = some (nI (x5.2.2.1 - 1), (x4.1, (fun j => x5.2.1 (j + 1)), x5.2.2.1 - 1, x5.2.2.2)) := by
    unfold a_undo
    rw [if_neg (show ¬ x5.2.2.1 = 0 by omega), t5]
  rw [cl_e e6]
  dsimp only
  rw [if_neg (show ¬ nI (x5.2.2.1 - 1) < 0 from nI_pos (by omega))]
  obtain ⟨x6, h6⟩ : ∃ x6 : Ab, x6 = (x4.1, (fun j => x5.2.1 (j + 1)), x5.2.2.1 - 1, x5.2.2.2) := ⟨_, rfl⟩
  rw [← h6]
  have n6 : x6.1 = x4.1 := by rw [h6]
  have I6 : Inv x6.1 44 := by rw [n6]; exact I4'
  have p0 : a_pot x6 0 4 = some (nI (sm4 x6.1 (qp 0))) := p_4 I6 hc (p := 0) (by omega)
  have p1 : a_pot x6 1 4 = some (nI (sm4 x6.1 (qp 1))) := p_4 I6 hc (p := 1) (by omega)
  have z1 : sm4 x6.1 (qp 1) = 0 := by
    rw [n6, n4]
    exact (sk_v (N := x3.1) (p := 1) (by omega)).1
  have z0 : sm4 x6.1 (qp 0) = 0 := by
    rw [n6, n4, (sk_v (N := x3.1) (p := 1) (by omega)).2.1 0 (by omega) (by omega), n3]
    exact (sk_v (N := x2.1) (p := 0) (by omega)).1
  rw [cl_e p0, z0, if_pos nI_0, cl_e p1, z1, if_pos nI_0]
def N0 (k : Nat) : Nat := if k = 0 then 3 else if k = 1 then 15 else 0
theorem N0_z {k : Nat} (h : 2 ≤ k) : N0 k = 0 := by
  unfold N0
  rw [if_neg (by omega), if_neg (by omega)]
theorem N0_s4 {q : Nat} (hq : 2 ≤ q) : sm4 N0 q = 0 := by
  unfold sm4
  rw [N0_z (by omega), N0_z (by omega), N0_z (by omega), N0_z (by omega)]
theorem N0_Inv : Inv N0 0 := by
  have s6 : sm6 N0 58 = 0 := by
    unfold sm6
    rw [N0_z (by omega), N0_z (by omega), N0_z (by omega), N0_z (by omega), N0_z (by omega), N0_z (by omega)]
  refine ⟨⟨by decide, by decide⟩, by decide, fun p hp => by rw [N0_s4 (by omega)]; omega, by rw [N0_s4 (by omega)]; omega, fun p hp => ?_, by rw [s6]; rfl⟩
  rw [N0_z (show 2 ≤ 51 + 8 * p by omega), N0_z (show 2 ≤ 52 + 8 * p by omega), N0_z (show 2 ≤ 53 + 8 * p by omega), N0_z (show 2 ≤ 54 + 8 * p by omega), N0_z (show 2 ≤ 55 + 8 * p by omega), N0_z (show 2 ≤ 56 + 8 * p by omega), N0_z (show 2 ≤ 57 + 8 * p by omega), N0_z (show 2 ≤ 58 + 8 * p by omega)]
  exact ⟨by omega, by omega, by omega, by omega, by omega, by omega, by omega, by omega, ⟨fun _ => rfl, fun _ => rfl⟩⟩
theorem su_0 {g : Nat → Nat} : ∀ n, (∀ q, q < n → g q = 0) → su g n = 0
  | 0, _ => rfl
  | n + 1, h => by
    show su g n + g n = 0
    rw [su_0 n (fun q hq => h q (by omega)), h n (by omega)]
def X0 : Ab := (N0, fun _ _ => 0, 0, none)
theorem X0_po {p : Nat} (hp : p < 8) : sm4 N0 (qp p) = 0 := N0_s4 (by have := qp_ge p; omega)
theorem X0_su : su (po N0) 8 = 0 := su_0 8 (fun q hq => X0_po hq)
theorem X0_J : J X0 0 := by
  refine ⟨N0_Inv, ?_, rfl, Nat.zero_le 6⟩
  show N0 2 = su (po N0) 8 + N0 3 + N0 4 + sm4 N0 47
  rw [X0_su, N0_s4 (by omega), N0_z (by omega), N0_z (by omega), N0_z (by omega)]
theorem law_ok {L : Nat} {xs : Nat → Int32} (hL : L < 2 ^ 31) : s_L_law L xs X0 = some 1 := by
  have hc : 0 ≤ 2 ^ 28 := by omega
  have I : Inv X0.1 0 := N0_Inv
  have e1 : a_undo X0 = some (-5, X0) := by
    unfold a_undo
    rw [if_pos (show X0.2.2.1 = 0 from rfl)]
  have e2 : a_restore_n X0 1 = some (-5, X0) := gd_p ⟨rfl, rfl⟩
  have e3 : a_nearest X0 0 0 = some (-6) := by
    have h := n_0 I hc (p := 0) (by omega)
    have e := (near_emp I (P := 0) (by omega) 8 (by omega)).1.mpr X0_su
    rw [show ch X0.1 0 = -6 from e] at h
    exact h
  have e4 : a_bestMixture X0 0 0 = some (-6) := gd_p ⟨rfl, rfl, fun p hp => X0_po hp⟩
  have e5 : a_brush X0 5 = some (-6) := by
    have h := b_5 I hc
    rw [if_pos (show sm4 X0.1 47 = 0 from N0_s4 (by omega))] at h
    exact h
  have e6 : a_panel X0 0 6 = some (-6) := by
    have h := l_6 I hc (p := 0) (by omega)
    rw [if_pos (show X0.1 (54 + 8 * 0) = 0 from (N0_z (by omega) : N0 (54 + 8 * 0) = 0))] at h
    exact h
  obtain ⟨x', hJ', e7⟩ := law_l (L := L) (xs := xs) hL (kk := s_L_law_X1) 955 44 0 X0 (by omega) X0_J
  have e7' : s_L_law_L1 L xs s_L_law_X1 1000 (0, X0) = s_L_law_X1 x' := e7
  unfold s_L_law
  rw [cl_e e1]
  dsimp only
  rw [if_pos (show (-5 : Int32) = -5 from rfl), cl_e e2]
  dsimp only
  rw [if_pos (show (-5 : Int32) = -5 from rfl), cl_e e3, if_pos (show (-6 : Int32) = -6 from rfl), cl_e e4, if_pos (show (-6 : Int32) = -6 from rfl), cl_e e5, if_pos (show (-6 : Int32) = -6 from rfl), cl_e e6, if_pos (show (-6 : Int32) = -6 from rfl), e7']
  exact law_x hJ'
