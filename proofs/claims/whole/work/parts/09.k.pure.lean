-- pure: painting a panel, both sides alike
theorem dst_eq {N N' : Nat → Nat} {P r y b : Nat} (h1 : N' (51 + 8 * P) = N (51 + 8 * P)) (h2 : N' (52 + 8 * P) = N (52 + 8 * P)) (h3 : N' (53 + 8 * P) = N (53 + 8 * P)) : dst N' P r y b = dst N P r y b := by
  unfold dst
  rw [h1, h2, h3]
theorem B_paint {σ : Nat → Nat → Int32} {f : Nat → Int32} {N : Nat → Nat} {c : Nat} (h : RS σ N) (hf : RM f N) (I : Inv N c) (tm gm : Nat → Int32) (x : Int32) : ∃ (r : Int32) (σ' : Nat → Nat → Int32) (f' tm' gm' : Nat → Int32) (N' : Nat → Nat), s_X2_paintPanel (σ 7 0) (σ 0) (σ 1) (σ 3) (σ 4) (σ 5) (σ 10) (σ 11) x = some (r, σ' 7 0, σ' 1, σ' 4, σ' 5, σ' 10, σ' 11) ∧ s_X5_paints f tm gm x = some (r, f', tm', gm') ∧ RS σ' N' ∧ RM f' N' ∧ Inv N' (c + 1) ∧ (∀ j, j ≠ 1 → j ≠ 4 → j ≠ 5 → j ≠ 7 → j ≠ 10 → j ≠ 11 → σ' j = σ j) := by
  unfold s_X2_paintPanel s_X5_paints
  rw [wi6, isPanel_l]
  rcases in_cases x 0 5 with ⟨hx, -⟩ | ⟨hx, x1, x2⟩
  · exact ⟨-1, σ, f, tm, gm, N, by rw [cl_e hx]; rfl, by rw [cl_e hx]; rfl, h, hf, I.mono (by omega), fun _ _ _ _ _ _ _ => rfl⟩
  obtain ⟨P, -, hP, rfl⟩ := rng_n (a := 0) (b := 5) (by omega) (by omega) x1 x2
  have e8 : qp 8 = 47 := rfl
  have hac : s_X2_allDrops (σ 1) 8 = some (nI (sm4 N 47)) := cAll h.2.1 (p := 8) (by omega)
  have ham : s_X5_drops f 47 = some (nI (sm4 N 47)) := mAll hf (q := 47) (by omega)
  have hat : s_X4_at 2 (σ 0) 0 = some (nI (N 0)) := (at_n (a := 0) (n := 2) (by omega) (by omega)).trans (by rw [h.1 0 (by omega)])
  have hbr := I.2.2.2.1
  have h0a := I.1.1
  have h0b := I.1.2
  have hld : ∀ {β : Type} (k : Int32 → Option β), ld 99 f 0 k = k (nI (N 0)) := fun k => (ld_n (a := 0) (n := 99) (by omega) (by omega)).trans (by rw [hf 0 (by omega)])
  by_cases hle : N 0 ≤ sm4 N 47
  · have hle' : nI (N 0) ≤ nI (sm4 N 47) := nI_le hle (by omega)
    have hPp : P < 6 := by omega
    obtain ⟨g, hg, hgv⟩ := mLooks (tm := gm) (q := 47) hf (by omega) (by omega) (by omega)
    have hg' : s_X5_looksAt f gm 47 = some g := hg
    have w : ∀ i, i < 3 → wm (3 * P + i) + 4 = 55 + 8 * P + i := fun i hi => by rw [wm_q hi]; omega
    have s1 := h.of4 (i := 3 * P + 0) (by omega) (stg N 47 0)
    rw [w 0 (by omega)] at s1
    have s2 := s1.of4 (i := 3 * P + 1) (by omega) (stg N 47 1)
    rw [w 1 (by omega), va_up_s] at s2
    have s3 := s2.of4 (i := 3 * P + 2) (by omega) (stg N 47 2)
    rw [w 2 (by omega), va_up_s] at s3
    have s4' := s3.of54 hPp 1
    have s5 := s4'.ofS hPp (N (58 + 8 * P) + 1)
    have hd3 : RD (σ 1) (pn3 N P) := s5.2.1
    have f1 := ((hf.up (55 + 8 * P + 0) (stg N 47 0)).up (55 + 8 * P + 1) (stg N 47 1)).up (55 + 8 * P + 2) (stg N 47 2)
    have f2 := f1.up (54 + 8 * P) 1
    have f3 : RM _ (pn3 N P) := f2.up (58 + 8 * P) (N (58 + 8 * P) + 1)
    have sm3 : sm4 (pn3 N P) 47 = sm4 N 47 := sm4_eq (fun k hk => pn3_n (by omega))
    obtain ⟨y, d', f', tk', lo', tm', t1, t2, t3, t4, t5, t6, t7, t8⟩ := takes_b hd3 f3 (p := 8) (m := N 0) (by omega) (by omega) (by rw [e8, sm3]; exact hle) (by rw [e8, sm3]; omega) (σ 10) (σ 11) tm
    have t1' : s_X2_takeOut (σ 1) (σ 10) (σ 11) 8 (nI (N 0)) = some (d', tk', lo') := t1
    rw [e8] at t2 t3 t4 t7
    have t2' : s_X5_takes _ tm 47 (nI (N 0)) = some (f', tm') := t2
    have s6 := s5.ofD t3 (fun j hj hd => tkN_off (by
      rcases Nat.lt_or_ge j 47 with q | q
      · exact Or.inl q
      · refine Or.inr (Nat.le_of_not_lt fun z => hd (4 * 8 + (j - 47)) (by omega) ?_)
        rw [dm_q (by omega) (by omega), e8]; omega))
    have s7 := s6.ofC 7 3 (N 3 + N 0) (by omega)
    have s8 := s7.of5 (N 5 + 1)
    have k7 : ∀ k, k < 4 → y k ≤ N (47 + k) := fun k hk => by
      have := t7 k hk
      rw [pn3_n (by omega)] at this
      exact this
    have I' := I.pn (y := y) hPp k7 (by rw [t8]; exact hle)
    have hI := I.2.2.2.2.1 P hPp
    have hJ := I'.2.2.2.2.1 P hPp
    have hv := pn3_v N P
    have n3 : pn3 N P 3 = N 3 := pn3_n (by omega)
    have n0 : tkN (pn3 N P) 47 y 4 0 = N 0 := by rw [tkN_off (by omega), pn3_n (by omega)]
    have n3' : tkN (pn3 N P) 47 y 4 3 = N 3 := by rw [tkN_off (by omega), n3]
    have n5 : upN (tkN (pn3 N P) 47 y 4) 3 (N 3 + N 0) 5 = N 5 := by rw [upN_n (by omega), tkN_off (by omega), pn3_n (by omega)]
    have f6 := t4.up 3 (N 3 + N 0)
    have f7 : RM _ (pn6 N P y) := f6.up 5 (N 5 + 1)
    have q1 : pn6 N P y (51 + 8 * P) = N (51 + 8 * P) := by rw [pn6_n (by omega), pn3_n (by omega)]
    have q2 : pn6 N P y (52 + 8 * P) = N (52 + 8 * P) := by rw [pn6_n (by omega), pn3_n (by omega)]
    have q3 : pn6 N P y (53 + 8 * P) = N (53 + 8 * P) := by rw [pn6_n (by omega), pn3_n (by omega)]
    have l0 := stg_le N 47 (k := 0) (by omega)
    have l1 := stg_le N 47 (k := 1) (by omega)
    have l2 := stg_le N 47 (k := 2) (by omega)
    have dm := mDist (v := stg N 47) hgv f7 hPp (fun k hk => by have := stg_le N 47 (k := k) (by omega); omega) (by rw [q1]; omega) (by rw [q2]; omega) (by rw [q3]; omega)
    rw [dst_eq q1 q2 q3] at dm
    have dc := cDistPanel (w := σ 3) (pa := upd (upd (upd (σ 4) (3 * P + 0) (nI (stg N 47 0))) (3 * P + 1) (nI (stg N 47 1))) (3 * P + 2) (nI (stg N 47 2))) s5.2.2.2.1 s5.2.2.2.2.1 hPp (by show pn3 N P _ ≤ _; rw [pn3_n (by omega)]; omega) (by show pn3 N P _ ≤ _; rw [pn3_n (by omega)]; omega) (by show pn3 N P _ ≤ _; rw [pn3_n (by omega)]; omega) (by show pn3 N P _ ≤ _; rw [hv.2.1]; exact l0) (by show pn3 N P _ ≤ _; rw [hv.2.2.1]; exact l1) (by show pn3 N P _ ≤ _; rw [hv.2.2.2.1]; exact l2)
    have dc' : s_X2_distanceOfPanel (σ 3) (upd (upd (upd (σ 4) (3 * P + 0) (nI (stg N 47 0))) (3 * P + 1) (nI (stg N 47 1))) (3 * P + 2) (nI (stg N 47 2))) (nI P) = some (nI (dst N P (stg N 47 0) (stg N 47 1) (stg N 47 2))) := by
      refine dc.trans ?_
      show some (nI (dst (pn3 N P) P (pn3 N P (55 + 8 * P)) (pn3 N P (56 + 8 * P)) (pn3 N P (57 + 8 * P)))) = _
      rw [hv.2.1, hv.2.2.1, hv.2.2.2.1, dst_eq (pn3_n (by omega)) (pn3_n (by omega)) (pn3_n (by omega))]
    refine ⟨nI (dst N P (stg N 47 0) (stg N 47 1) (stg N 47 2)), va_up (va_up _ 10 tk') 11 lo', _, tm', g, pn6 N P y, ?_, ?_, s8.ofX (fun j hj => by rw [va_up_n (by omega), va_up_n (by omega)]), f7, I', fun j h1 h4 h5 h7 h10 h11 => by rw [va_up_n h11, va_up_n h10, va_up_n h7, va_up_n h1, va_up_n h5, va_up_n h4, va_up_n h4, va_up_n h4]⟩
    · rw [cl_e hx, if_neg one_ne, cl_e hat, cl_e hac, if_pos hle']
      refine (cPn_s (fu := 999) (i := 0) h.2.1 hPp (by omega) (by omega) (by omega)).trans ?_
      refine (cPn_s (fu := 998) (i := 1) h.2.1 hPp (by omega) (by omega) (by omega)).trans ?_
      refine (cPn_s (fu := 997) (i := 2) h.2.1 hPp (by omega) (by omega) (by omega)).trans ?_
      show s_X2_paintPanel_B1 (σ 1) (nI P) _ _ (nI 3) _ = _
      unfold s_X2_paintPanel_B1 s_X2_paintPanel_X1
      rw [if_pos (show (3 : Int32) ≤ nI 3 from nI_le (a := 3) (b := 3) (by omega) (by omega)), cl_e t1', cl_e (add_n (by omega) (by omega)), nm_e', cl_e dc', h.2.2.2.2.2.2.2.1, nI_add, h.2.2.2.2.2.1 P hPp, nI_1]
      rfl
    · rw [cl_e hx, if_neg one_ne, cl_e ham, hld, if_pos hle', cl_e hg']
      refine (mPn_s (fu := 999) (i := 0) hPp (by omega)).trans ?_
      refine (mPn_s (fu := 998) (i := 1) hPp (by omega)).trans ?_
      refine (mPn_s (fu := 997) (i := 2) hPp (by omega)).trans ?_
      show s_X5_paints_B1 (nI P) g _ _ (nI 3) _ = _
      unfold s_X5_paints_B1 s_X5_paints_X1
      rw [if_pos (show (3 : Int32) ≤ nI 3 from nI_le (a := 3) (b := 3) (by omega) (by omega)), hgv 0 (by omega), hgv 1 (by omega), hgv 2 (by omega), cl_e (mN P)]
      dsimp only
      rw [show nI (51 + 8 * P) + 3 = nI (54 + 8 * P) from (nI_add _ 3).trans (by congr 1; omega), sto_n (by omega) (by omega), cl_e (mN P), show nI (51 + 8 * P) + 7 = nI (58 + 8 * P) from (nI_add _ 7).trans (by congr 1; omega), ld_n (by omega) (by omega), nm_e', sto_n (by omega) (by omega)]
      rw [show (1 : Int32) = nI 1 from rfl, f2 (58 + 8 * P) (by omega), upN_n (by omega), show upN (upN (upN N (55 + 8 * P + 0) (stg N 47 0)) (55 + 8 * P + 1) (stg N 47 1)) (55 + 8 * P + 2) (stg N 47 2) (58 + 8 * P) = N (58 + 8 * P) from pn1_n (by omega), nI_add]
      rw [show (0 : Int32) = nI 0 from rfl, ld_n (by omega) (by omega), f3 0 (by omega), pn3_n (by omega), cl_e t2']
      dsimp only
      rw [show (3 : Int32) = nI 3 from rfl, show (5 : Int32) = nI 5 from rfl, ld_n (by omega) (by omega), ld_n (by omega) (by omega), nm_e', sto_n (by omega) (by omega), t4 3 (by omega), t4 0 (by omega), n3', n0, nI_add, ld_n (by omega) (by omega), nm_e', sto_n (by omega) (by omega), f6 5 (by omega), n5, nI_add, cl_e dm]
  · have hle' : ¬ nI (N 0) ≤ nI (sm4 N 47) := nI_ge (by omega) (by omega)
    refine ⟨-5, σ, f, tm, gm, N, ?_, ?_, h, hf, I.mono (by omega), fun _ _ _ _ _ _ _ => rfl⟩
    · rw [cl_e hx, if_neg one_ne, cl_e hat, cl_e hac, if_neg hle']
    · rw [cl_e hx, if_neg one_ne, cl_e ham, hld, if_neg hle']
