-- pure: sums and panels painted well
def su (g : Nat → Nat) : Nat → Nat
  | 0 => 0
  | n + 1 => su g n + g n
theorem su_le {g : Nat → Nat} {b : Nat} : ∀ n, (∀ k, k < n → g k ≤ b) → su g n ≤ n * b
  | 0, _ => by unfold su; omega
  | n + 1, h => by
    have h1 := su_le n (fun k hk => h k (by omega))
    have h2 := h n (by omega)
    have h3 : (n + 1) * b = n * b + b := Nat.succ_mul n b
    unfold su
    omega
def wl (N : Nat → Nat) (P : Nat) : Nat := if N (54 + 8 * P) = 0 then 0 else if N 1 < dst N P (N (55 + 8 * P)) (N (56 + 8 * P)) (N (57 + 8 * P)) then 0 else 1
theorem wl_01 (N : Nat → Nat) (P : Nat) : wl N P = 0 ∨ wl N P = 1 := by
  unfold wl
  split
  · exact Or.inl rfl
  · split
    · exact Or.inl rfl
    · exact Or.inr rfl
def po (N : Nat → Nat) (p : Nat) : Nat := sm4 N (qp p)
def pt (N : Nat → Nat) (P : Nat) : Nat := if N (54 + 8 * P) = 0 then 0 else 1
def sk (N : Nat → Nat) (P : Nat) : Nat := N (58 + 8 * P)
theorem cInP_s {d : Nat → Int32} {N : Nat → Nat} {i fu : Nat} {kk : Int32 → Option Int32} (hd : RD d N) (hi : i < 8) : s_X2_dropsInPots_L1 d kk (fu + 1) (nI (su (po N) i), nI i) = s_X2_dropsInPots_L1 d kk fu (nI (su (po N) (i + 1)), nI (i + 1)) := by
  show s_X2_dropsInPots_B1 d kk (s_X2_dropsInPots_L1 d kk fu) (nI (su (po N) i)) (nI i) = _
  unfold s_X2_dropsInPots_B1
  rw [if_neg (show ¬ (8 : Int32) ≤ nI i from nI_ge (a := i) (b := 8) (by omega) (by omega)), cl_e (cAll hd (by omega)), nm_e', nm_e', nI_add, nI_1]
  rfl
theorem cInP {d : Nat → Int32} {N : Nat → Nat} (hd : RD d N) : s_X2_dropsInPots d = some (nI (su (po N) 8)) := by
  unfold s_X2_dropsInPots
  refine (cInP_s (fu := 999) (i := 0) hd (by omega)).trans ?_
  refine (cInP_s (fu := 998) (i := 1) hd (by omega)).trans ?_
  refine (cInP_s (fu := 997) (i := 2) hd (by omega)).trans ?_
  refine (cInP_s (fu := 996) (i := 3) hd (by omega)).trans ?_
  refine (cInP_s (fu := 995) (i := 4) hd (by omega)).trans ?_
  refine (cInP_s (fu := 994) (i := 5) hd (by omega)).trans ?_
  refine (cInP_s (fu := 993) (i := 6) hd (by omega)).trans ?_
  refine (cInP_s (fu := 992) (i := 7) hd (by omega)).trans ?_
  show s_X2_dropsInPots_B1 d _ _ _ (nI 8) = _
  unfold s_X2_dropsInPots_B1 s_X2_dropsInPots_X1
  rw [if_pos (show (8 : Int32) ≤ nI 8 from nI_le (a := 8) (b := 8) (by omega) (by omega))]
theorem mInP_s {f : Nat → Int32} {N : Nat → Nat} {i fu : Nat} {kk : Int32 → Option Int32} (hf : RM f N) (hi : i < 8) : s_X5_inPots_L1 f kk (fu + 1) (nI (su (po N) i), nI i) = s_X5_inPots_L1 f kk fu (nI (su (po N) (i + 1)), nI (i + 1)) := by
  have hq := qp_lt i
  show s_X5_inPots_B1 f kk (s_X5_inPots_L1 f kk fu) (nI (su (po N) i)) (nI i) = _
  unfold s_X5_inPots_B1
  rw [if_neg (show ¬ (8 : Int32) ≤ nI i from nI_ge (a := i) (b := 8) (by omega) (by omega)), cl_e (mP i hi), cl_e (mAll hf (by omega)), nm_e', nm_e', nI_add, nI_1]
  rfl
theorem mInP {f : Nat → Int32} {N : Nat → Nat} (hf : RM f N) : s_X5_inPots f = some (nI (su (po N) 8)) := by
  unfold s_X5_inPots
  refine (mInP_s (fu := 999) (i := 0) hf (by omega)).trans ?_
  refine (mInP_s (fu := 998) (i := 1) hf (by omega)).trans ?_
  refine (mInP_s (fu := 997) (i := 2) hf (by omega)).trans ?_
  refine (mInP_s (fu := 996) (i := 3) hf (by omega)).trans ?_
  refine (mInP_s (fu := 995) (i := 4) hf (by omega)).trans ?_
  refine (mInP_s (fu := 994) (i := 5) hf (by omega)).trans ?_
  refine (mInP_s (fu := 993) (i := 6) hf (by omega)).trans ?_
  refine (mInP_s (fu := 992) (i := 7) hf (by omega)).trans ?_
  show s_X5_inPots_B1 f _ _ _ (nI 8) = _
  unfold s_X5_inPots_B1 s_X5_inPots_X1
  rw [if_pos (show (8 : Int32) ≤ nI 8 from nI_le (a := 8) (b := 8) (by omega) (by omega))]
theorem cIsP {s : Nat → Int32} {N : Nat → Nat} {c : Nat} (I : Inv N c) (hc : c < 2 ^ 30) (hs : ∀ k, k < 6 → s k = nI (N (58 + 8 * k))) {P : Nat} (hP : P < 6) : s_X2_isPainted s (nI P) = some (nI (pt N P)) := by
  have hI := I.2.2.2.2.1 P hP
  unfold s_X2_isPainted pt
  rw [cl_e (at_n hP (by omega)), hs P hP]
  rcases Nat.eq_zero_or_pos (N (58 + 8 * P)) with h0 | h0
  · rw [if_pos (show nI (N (58 + 8 * P)) ≤ 0 by rw [h0]; exact Int32.le_refl _), if_pos (by omega)]
    rfl
  · rw [if_neg (show ¬ nI (N (58 + 8 * P)) ≤ 0 from nI_ge (a := 0) h0 (by omega)), if_neg (by omega)]
    rfl
theorem cWell {σ : Nat → Nat → Int32} {N : Nat → Nat} {c : Nat} (h : RS σ N) (I : Inv N c) (hc : c < 2 ^ 30) {P : Nat} (hP : P < 6) : s_X2_isWell (σ 0) (σ 3) (σ 4) (σ 5) (nI P) = some (nI (wl N P)) := by
  have hI := I.2.2.2.2.1 P hP
  have h1 := I.2.1
  have hd : dst N P (N (55 + 8 * P)) (N (56 + 8 * P)) (N (57 + 8 * P)) ≤ 300 := by
    unfold dst
    have a1 := ad_le (a := N (55 + 8 * P)) (c := N (51 + 8 * P)) (m := 100) (by omega) (by omega)
    have a2 := ad_le (a := N (56 + 8 * P)) (c := N (52 + 8 * P)) (m := 100) (by omega) (by omega)
    have a3 := ad_le (a := N (57 + 8 * P)) (c := N (53 + 8 * P)) (m := 100) (by omega) (by omega)
    omega
  have hat : s_X4_at 2 (σ 0) 1 = some (nI (N 1)) := (at_n (a := 1) (n := 2) (by omega) (by omega)).trans (by rw [h.1 1 (by omega)])
  unfold s_X2_isWell wl
  rw [cl_e (cIsP I hc h.2.2.2.2.2.1 hP)]
  unfold pt
  by_cases h0 : N (54 + 8 * P) = 0
  · rw [if_pos h0, if_pos h0, if_pos nI_0]
    rfl
  · rw [if_neg h0, if_neg h0, if_neg (show ¬ nI 1 = 0 from one_ne), cl_e (cDistPanel h.2.2.2.1 h.2.2.2.2.1 hP (by omega) (by omega) (by omega) (by omega) (by omega) (by omega)), cl_e hat]
    by_cases hl : N 1 < dst N P (N (55 + 8 * P)) (N (56 + 8 * P)) (N (57 + 8 * P))
    · rw [if_pos hl, if_pos (nI_lt hl (by omega))]
      rfl
    · rw [if_neg hl, if_neg (nI_nlt (by omega) (by omega))]
      rfl
theorem mWl_s {f g : Nat → Int32} {N : Nat → Nat} {P i fu : Nat} {km : (Nat → Int32) → Option (Int32 × (Nat → Int32))} (hf : RM f N) (hP : P < 6) (hi : i < 3) : s_X5_isWell_L1 (nI P) f km (fu + 1) (nI i, g) = s_X5_isWell_L1 (nI P) f km fu (nI (i + 1), upd g i (nI (N (55 + 8 * P + i)))) := by
  show s_X5_isWell_B1 (nI P) f km (s_X5_isWell_L1 (nI P) f km fu) (nI i) g = _
  unfold s_X5_isWell_B1
  rw [if_neg (show ¬ (3 : Int32) ≤ nI i from nI_ge (a := i) (b := 3) (by omega) (by omega)), cl_e (mN P), show nI (51 + 8 * P) + 4 = nI (55 + 8 * P) from (nI_add _ 4).trans (by congr 1; omega), nI_add, ld_n (by omega) (by omega), sto_n (by omega) (by omega), nm_e', nI_1, hf _ (by omega)]
theorem mWell {f g : Nat → Int32} {N : Nat → Nat} {c : Nat} (hf : RM f N) (I : Inv N c) {P : Nat} (hP : P < 6) : ∃ g', s_X5_isWell f g (nI P) = some (nI (wl N P), g') ∧ (N (54 + 8 * P) ≠ 0 → ∀ k, k < 3 → g' k = nI (N (55 + 8 * P + k))) := by
  have hI := I.2.2.2.2.1 P hP
  have h1 := I.2.1
  have hd : dst N P (N (55 + 8 * P)) (N (56 + 8 * P)) (N (57 + 8 * P)) ≤ 300 := by
    unfold dst
    have a1 := ad_le (a := N (55 + 8 * P)) (c := N (51 + 8 * P)) (m := 100) (by omega) (by omega)
    have a2 := ad_le (a := N (56 + 8 * P)) (c := N (52 + 8 * P)) (m := 100) (by omega) (by omega)
    have a3 := ad_le (a := N (57 + 8 * P)) (c := N (53 + 8 * P)) (m := 100) (by omega) (by omega)
    omega
  unfold s_X5_isWell wl
  rw [cl_e (mN P), show nI (51 + 8 * P) + 3 = nI (54 + 8 * P) from (nI_add _ 3).trans (by congr 1; omega), ld_n (by omega) (by omega), hf _ (by omega)]
  by_cases h0 : N (54 + 8 * P) = 0
  · exact ⟨g, by rw [if_pos h0, if_pos (by rw [h0]; rfl)]; rfl, fun q => absurd h0 q⟩
  · rw [if_neg h0, if_neg (nI_ne0 (by omega) (by omega))]
    have hg : ∀ k, k < 3 → upd (upd (upd g 0 (nI (N (55 + 8 * P + 0)))) 1 (nI (N (55 + 8 * P + 1)))) 2 (nI (N (55 + 8 * P + 2))) k = nI (N (55 + 8 * P + k)) := fun k hk => by
      rcases (show k = 0 ∨ k = 1 ∨ k = 2 by omega) with rfl | rfl | rfl
      · rw [pk_un (by omega), pk_un (by omega), pk_us]
      · rw [pk_un (by omega), pk_us]
      · rw [pk_us]
    have hb : ∀ k, k < 3 → N (55 + 8 * P + k) < 2 ^ 30 := fun k hk => by
      rcases (show k = 0 ∨ k = 1 ∨ k = 2 by omega) with rfl | rfl | rfl
      · rw [Nat.add_zero]; omega
      · rw [show 55 + 8 * P + 1 = 56 + 8 * P by omega]; omega
      · rw [show 55 + 8 * P + 2 = 57 + 8 * P by omega]; omega
    have dm : s_X5_distance f (upd (upd (upd g 0 (nI (N (55 + 8 * P + 0)))) 1 (nI (N (55 + 8 * P + 1)))) 2 (nI (N (55 + 8 * P + 2)))) (nI P) = some (nI (dst N P (N (55 + 8 * P)) (N (56 + 8 * P)) (N (57 + 8 * P)))) := by
      refine (mDist (v := fun k => N (55 + 8 * P + k)) hg hf hP hb (by omega) (by omega) (by omega)).trans ?_
      show some (nI (dst N P (N (55 + 8 * P)) (N (55 + 8 * P + 1)) (N (55 + 8 * P + 2)))) = _
      rw [show 55 + 8 * P + 1 = 56 + 8 * P by omega, show 55 + 8 * P + 2 = 57 + 8 * P by omega]
    refine ⟨_, ?_, fun _ => hg⟩
    refine (mWl_s (fu := 999) (i := 0) hf hP (by omega)).trans ?_
    refine (mWl_s (fu := 998) (i := 1) hf hP (by omega)).trans ?_
    refine (mWl_s (fu := 997) (i := 2) hf hP (by omega)).trans ?_
    show s_X5_isWell_B1 (nI P) f _ _ (nI 3) _ = _
    unfold s_X5_isWell_B1 s_X5_isWell_X1
    rw [if_pos (show (3 : Int32) ≤ nI 3 from nI_le (a := 3) (b := 3) (by omega) (by omega))]
    dsimp only
    rw [cl_e dm, show (1 : Int32) = nI 1 from rfl, ld_n (by omega) (by omega), hf 1 (by omega)]
    by_cases hl : N 1 < dst N P (N (55 + 8 * P)) (N (56 + 8 * P)) (N (57 + 8 * P))
    · rw [if_pos hl, if_pos (nI_lt hl (by omega))]
      rfl
    · rw [if_neg hl, if_neg (nI_nlt (by omega) (by omega))]
