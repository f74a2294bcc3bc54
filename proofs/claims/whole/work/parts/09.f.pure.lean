-- pure: filling, thinning, pouring, dipping: both sides alike
theorem wi8 (x : Int32) : s_X4_isWithin x 8 = s_X5_in x 0 7 := within_in x (n := 7) (by omega)
theorem wi4 (x : Int32) : s_X4_isWithin x 4 = s_X5_in x 0 3 := within_in x (n := 3) (by omega)
theorem wi6 (x : Int32) : s_X4_isWithin x 6 = s_X5_in x 0 5 := within_in x (n := 5) (by omega)
theorem wi2 (x : Int32) : s_X4_isWithin x 2 = s_X5_in x 0 1 := within_in x (n := 1) (by omega)
theorem isPot_l (x : Int32) : s_X5_isPot x = s_X5_in x 0 7 := isPot_e x
theorem isPanel_l (x : Int32) : s_X5_isPanel x = s_X5_in x 0 5 := isPanel_e x
theorem bt_l (x lo hi : Int32) : s_X4_isBetween x lo hi = s_X5_in x lo hi := rfl
theorem one_ne : ¬ (1 : Int32) = 0 := by decide
theorem sm4_up {N : Nat → Nat} {q k z : Nat} (hk : k < 4) : sm4 (upN N (q + k) (N (q + k) + z)) q = sm4 N q + z := by
  unfold sm4 upN
  rcases (show k = 0 ∨ k = 1 ∨ k = 2 ∨ k = 3 by omega) with rfl | rfl | rfl | rfl <;> simp <;> omega
theorem sm4_off {N : Nat → Nat} {q j v : Nat} (hj : j < q ∨ q + 4 ≤ j) : sm4 (upN N j v) q = sm4 N q := by
  unfold sm4
  rw [upN_n (by omega), upN_n (by omega), upN_n (by omega), upN_n (by omega)]
theorem Inv.ofD {N N' : Nat → Nat} {c : Nat} (I : Inv N c) (hN : ∀ j, (j < 2 ∨ 51 ≤ j ∨ j = 5) → N' j = N j) (hp : ∀ p, p < 8 → sm4 N' (7 + 5 * p) ≤ 81) (hb : sm4 N' 47 ≤ 9) : Inv N' c := by
  obtain ⟨i0, i1, -, -, i4, i5⟩ := I
  refine ⟨by rw [hN 0 (by omega)]; exact i0, by rw [hN 1 (by omega)]; exact i1, hp, hb, fun p h => ?_, ?_⟩
  · rw [hN _ (by omega), hN _ (by omega), hN _ (by omega), hN _ (by omega), hN _ (by omega), hN _ (by omega), hN _ (by omega), hN _ (by omega)]
    exact i4 p h
  · unfold sm6 at i5 ⊢
    rw [hN _ (by omega), hN _ (by omega), hN _ (by omega), hN _ (by omega), hN _ (by omega), hN _ (by omega), hN _ (by omega)]
    exact i5
theorem B_fill {σ : Nat → Nat → Int32} {f : Nat → Int32} {N : Nat → Nat} {c : Nat} (h : RS σ N) (hf : RM f N) (I : Inv N c) (x y z : Int32) : ∃ (r : Int32) (σ' : Nat → Nat → Int32) (f' : Nat → Int32) (N' : Nat → Nat), s_X2_addDrops (σ 6 0) (σ 1) x y z = some (r, σ' 6 0, σ' 1) ∧ s_X5_fills f x y z = some (r, f') ∧ RS σ' N' ∧ RM f' N' ∧ Inv N' c ∧ (∀ j, j ≠ 1 → j ≠ 6 → σ' j = σ j) := by
  unfold s_X2_addDrops s_X5_fills
  rw [wi8, wi4, bt_l, isPot_l]
  rcases in_cases x 0 7 with ⟨hx, -⟩ | ⟨hx, x1, x2⟩
  · exact ⟨-1, σ, f, N, by rw [cl_e hx]; rfl, by rw [cl_e hx]; rfl, h, hf, I, fun _ _ _ => rfl⟩
  obtain ⟨p, -, hp, rfl⟩ := rng_n (a := 0) (b := 7) (by omega) (by omega) x1 x2
  rcases in_cases y 0 3 with ⟨hy, -⟩ | ⟨hy, y1, y2⟩
  · exact ⟨-1, σ, f, N, by rw [cl_e hx, if_neg one_ne, cl_e hy]; rfl, by rw [cl_e hx, if_neg one_ne, cl_e hy]; rfl, h, hf, I, fun _ _ _ => rfl⟩
  obtain ⟨k, -, hk, rfl⟩ := rng_n (a := 0) (b := 3) (by omega) (by omega) y1 y2
  rcases in_cases z 1 81 with ⟨hz, -⟩ | ⟨hz, z1, z2⟩
  · exact ⟨-2, σ, f, N, by rw [cl_e hx, if_neg one_ne, cl_e hy, if_neg one_ne, cl_e hz]; rfl, by rw [cl_e hx, if_neg one_ne, cl_e hy, if_neg one_ne, cl_e hz]; rfl, h, hf, I, fun _ _ _ => rfl⟩
  obtain ⟨m, hm1, hm, rfl⟩ := rng_n (a := 1) (b := 81) (by omega) (by omega) z1 z2
  have hq := I.q (p := p) (by omega)
  have eq : qp p = 7 + 5 * p := if_pos (by omega)
  have e0 : nI p * 4 = nI (4 * p) := (pk_mul p 4).trans (by rw [Nat.mul_comm])
  have hall := cAll h.2.1 (p := p) (by omega)
  have hmall := mAll hf (q := qp p) (by omega)
  by_cases hle : sm4 N (qp p) + m ≤ 81
  · have hle' : nI (sm4 N (qp p) + m) ≤ (81 : Int32) := nI_le (b := 81) hle (by omega)
    have g1 := h.2.1.up (k := 4 * p + k) (by omega) (N (qp p + k) + m)
    rw [dm_q (by omega) (by omega)] at g1
    have s1 := h.ofD g1 (fun j _ hj => upN_n (fun e => hj (4 * p + k) (by omega) (by rw [dm_q (by omega) (by omega)]; exact e.symm)))
    have s2 := s1.ofC 6 2 (N 2 + m) (by omega)
    have f1 := hf.up (qp p + k) (N (qp p + k) + m)
    have f2 := f1.up 2 (N 2 + m)
    have n2 : upN N (qp p + k) (N (qp p + k) + m) 2 = N 2 := upN_n (by omega)
    refine ⟨nI (sm4 N (qp p) + m), _, _, _, ?_, ?_, s2, f2, ?_, fun j h1 h6 => by rw [va_up_n h6, va_up_n h1]⟩
    · rw [cl_e hx, if_neg one_ne, cl_e hy, if_neg one_ne, cl_e hz, if_neg one_ne, cl_e hall, nm_e', nI_add, if_pos hle', e0, nI_add, cl_e (add_n (by omega) (by omega)), nm_e', h.2.1 _ (by omega), dm_q (by omega) (by omega), nI_add, h.2.2.2.2.2.2.1, nI_add, va_up_s, va_up_n (by omega), va_up_s]
    · rw [cl_e hx, if_neg one_ne, cl_e hy, if_neg one_ne, cl_e hz, if_neg one_ne, cl_e (mP p (by omega)), cl_e hmall, nI_add, if_pos hle', cl_e (mP p (by omega)), nI_add, ld_n (by omega) (by omega), nm_e', sto_n (by omega) (by omega), hf _ (by omega), nI_add]
      rw [show (2 : Int32) = nI 2 from rfl, ld_n (by omega) (by omega), nm_e', sto_n (by omega) (by omega), f1 _ (by omega), n2, nI_add, cl_e (mP p (by omega)), cl_e (mAll f2 (by omega)), sm4_off (by omega), sm4_up (by omega)]
    · refine I.ofD (fun j hj => by rw [upN_n (by omega), upN_n (by omega)]) (fun a ha => ?_) ?_
      · rw [sm4_off (by omega)]
        by_cases e : a = p
        · subst e
          rw [← eq, sm4_up (by omega)]
          exact hle
        · rw [sm4_off (by omega)]
          exact I.2.2.1 a ha
      · rw [sm4_off (by omega), sm4_off (by omega)]
        exact I.2.2.2.1
  · have hle' : ¬ nI (sm4 N (qp p) + m) ≤ (81 : Int32) := nI_ge (a := 81) (by omega) (by omega)
    refine ⟨-4, σ, f, N, ?_, ?_, h, hf, I, fun _ _ _ => rfl⟩
    · rw [cl_e hx, if_neg one_ne, cl_e hy, if_neg one_ne, cl_e hz, if_neg one_ne, cl_e hall, nm_e', nI_add, if_neg hle']
    · rw [cl_e hx, if_neg one_ne, cl_e hy, if_neg one_ne, cl_e hz, if_neg one_ne, cl_e (mP p (by omega)), cl_e hmall, nI_add, if_neg hle']
theorem B_thin {σ : Nat → Nat → Int32} {f : Nat → Int32} {N : Nat → Nat} {c : Nat} (h : RS σ N) (hf : RM f N) (I : Inv N c) (x : Int32) : ∃ (r : Int32) (σ' : Nat → Nat → Int32) (f' : Nat → Int32) (N' : Nat → Nat), s_X2_thinPot (σ 6 0) (σ 1) (σ 2) x = some (r, σ' 6 0, σ' 1, σ' 2) ∧ s_X5_thins f x = some (r, f') ∧ RS σ' N' ∧ RM f' N' ∧ Inv N' c ∧ (∀ j, j ≠ 1 → j ≠ 2 → j ≠ 6 → σ' j = σ j) := by
  unfold s_X2_thinPot s_X5_thins
  rw [wi8, isPot_l]
  rcases in_cases x 0 7 with ⟨hx, -⟩ | ⟨hx, x1, x2⟩
  · exact ⟨-1, σ, f, N, by rw [cl_e hx]; rfl, by rw [cl_e hx]; rfl, h, hf, I, fun _ _ _ _ => rfl⟩
  obtain ⟨p, -, hp, rfl⟩ := rng_n (a := 0) (b := 7) (by omega) (by omega) x1 x2
  have hq := I.q (p := p) (by omega)
  have eq : qp p = 7 + 5 * p := if_pos (by omega)
  have e0 : nI p * 4 = nI (4 * p) := (pk_mul p 4).trans (by rw [Nat.mul_comm])
  have hall := cAll h.2.1 (p := p) (by omega)
  have hmall := mAll hf (q := qp p) (by omega)
  rcases Nat.eq_zero_or_pos (sm4 N (qp p)) with hz | hz
  · rw [hz] at hall hmall
    refine ⟨-5, σ, f, N, ?_, ?_, h, hf, I, fun _ _ _ _ => rfl⟩
    · rw [cl_e hx, if_neg one_ne, cl_e hall, if_pos nI_0]
    · rw [cl_e hx, if_neg one_ne, cl_e (mP p (by omega)), cl_e hmall, if_pos nI_0]
  have hne : ¬ nI (sm4 N (qp p)) = 0 := nI_ne0 hz (by omega)
  have e3 : nI (sm4 N (qp p)) * 3 = nI (3 * sm4 N (qp p)) := (pk_mul _ 3).trans (by rw [Nat.mul_comm])
  have e3' : (3 : Int32) * nI (sm4 N (qp p)) = nI (3 * sm4 N (qp p)) := pk_mul 3 _
  have e2' : (2 : Int32) * nI (sm4 N (qp p)) = nI (2 * sm4 N (qp p)) := pk_mul 2 _
  by_cases hle : 3 * sm4 N (qp p) ≤ 81
  · have hle' : nI (3 * sm4 N (qp p)) ≤ (81 : Int32) := nI_le (b := 81) hle (by omega)
    have g1 := h.2.1.up (k := 4 * p + 3) (by omega) (N (qp p + 3) + 2 * sm4 N (qp p))
    rw [dm_q (by omega) (by omega)] at g1
    have s1 := h.ofD g1 (fun j _ hj => upN_n (fun e => hj (4 * p + 3) (by omega) (by rw [dm_q (by omega) (by omega)]; exact e.symm)))
    have s2 := s1.ofC 6 2 (N 2 + 2 * sm4 N (qp p)) (by omega)
    have s3 := s2.of2 (i := p) (by omega) (N (11 + 5 * p) + 1)
    have f1 := hf.up (qp p + 3) (N (qp p + 3) + 2 * sm4 N (qp p))
    have f2 := f1.up 2 (N 2 + 2 * sm4 N (qp p))
    have f3 := f2.up (11 + 5 * p) (N (11 + 5 * p) + 1)
    have n2 : upN N (qp p + 3) (N (qp p + 3) + 2 * sm4 N (qp p)) 2 = N 2 := upN_n (by omega)
    have n4 : upN (upN N (qp p + 3) (N (qp p + 3) + 2 * sm4 N (qp p))) 2 (N 2 + 2 * sm4 N (qp p)) (11 + 5 * p) = N (11 + 5 * p) := by rw [upN_n (by omega), upN_n (by omega)]
    have esub : nI (3 * sm4 N (qp p)) - nI (sm4 N (qp p)) = nI (2 * sm4 N (qp p)) := by rw [pk_sub (by omega)]; congr 1; omega
    refine ⟨nI (3 * sm4 N (qp p)), _, _, _, ?_, ?_, s3, f3, ?_, fun j h1 h2 h6 => by rw [va_up_n h2, va_up_n h6, va_up_n h1]⟩
    · rw [cl_e hx, if_neg one_ne, cl_e hall, if_neg hne, nm_e', e3, if_pos hle', esub, e0, show nI (4 * p) + 3 = nI (4 * p + 3) from nI_add _ 3, cl_e (add_n (by omega) (by omega)), cl_e (add_n (by omega) (by omega)), nm_e', h.2.1 _ (by omega), dm_q (by omega) (by omega), nI_add, h.2.2.1 _ (by omega), nI_1, h.2.2.2.2.2.2.1, nI_add]
      rfl
    · rw [cl_e hx, if_neg one_ne, cl_e (mP p (by omega)), cl_e hmall, if_neg hne, e3', if_pos hle', cl_e (mP p (by omega)), e2', show nI (qp p) + 3 = nI (qp p + 3) from nI_add _ 3, ld_n (by omega) (by omega), nm_e', sto_n (by omega) (by omega), hf _ (by omega), nI_add]
      rw [show (2 : Int32) = nI 2 from rfl, ld_n (by omega) (by omega), nm_e', sto_n (by omega) (by omega), f1 _ (by omega), n2, nI_add, cl_e (mP p (by omega)), show nI (qp p) + 4 = nI (11 + 5 * p) from (nI_add _ 4).trans (by rw [eq]; congr 1; omega), ld_n (by omega) (by omega), nm_e', sto_n (by omega) (by omega), f2 _ (by omega), n4, nI_1]
    · refine I.ofD (fun j hj => by rw [upN_n (by omega), upN_n (by omega), upN_n (by omega)]) (fun a ha => ?_) ?_
      · rw [sm4_off (by omega), sm4_off (by omega)]
        by_cases e : a = p
        · subst e
          rw [← eq, sm4_up (by omega)]
          omega
        · rw [sm4_off (by omega)]
          exact I.2.2.1 a ha
      · rw [sm4_off (by omega), sm4_off (by omega), sm4_off (by omega)]
        exact I.2.2.2.1
  · have hle' : ¬ nI (3 * sm4 N (qp p)) ≤ (81 : Int32) := nI_ge (a := 81) (by omega) (by omega)
    refine ⟨-4, σ, f, N, ?_, ?_, h, hf, I, fun _ _ _ _ => rfl⟩
    · rw [cl_e hx, if_neg one_ne, cl_e hall, if_neg hne, nm_e', e3, if_neg hle']
    · rw [cl_e hx, if_neg one_ne, cl_e (mP p (by omega)), cl_e hmall, if_neg hne, e3', if_neg hle']
