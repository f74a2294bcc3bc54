-- pure: pouring and dipping
theorem B_pour {σ : Nat → Nat → Int32} {f : Nat → Int32} {N : Nat → Nat} {c : Nat} (h : RS σ N) (hf : RM f N) (I : Inv N c) (tm : Nat → Int32) (x y z : Int32) : ∃ (r : Int32) (σ' : Nat → Nat → Int32) (f' tm' : Nat → Int32) (N' : Nat → Nat), s_X2_pourOver (σ 1) (σ 10) (σ 11) x y z = some (r, σ' 1, σ' 10, σ' 11) ∧ s_X5_pours f tm x y z = some (r, f', tm') ∧ RS σ' N' ∧ RM f' N' ∧ Inv N' c ∧ (∀ j, j ≠ 1 → j ≠ 10 → j ≠ 11 → σ' j = σ j) := by
  unfold s_X2_pourOver s_X5_pours
  rw [wi8, wi8, bt_l, isPot_l, isPot_l]
  rcases in_cases x 0 7 with ⟨hx, -⟩ | ⟨hx, x1, x2⟩
  · exact ⟨-1, σ, f, tm, N, by rw [cl_e hx]; rfl, by rw [cl_e hx]; rfl, h, hf, I, fun _ _ _ _ => rfl⟩
  obtain ⟨p, -, hp, rfl⟩ := rng_n (a := 0) (b := 7) (by omega) (by omega) x1 x2
  rcases in_cases y 0 7 with ⟨hy, -⟩ | ⟨hy, y1, y2⟩
  · exact ⟨-1, σ, f, tm, N, by rw [cl_e hx, if_neg one_ne, cl_e hy]; rfl, by rw [cl_e hx, if_neg one_ne, cl_e hy]; rfl, h, hf, I, fun _ _ _ _ => rfl⟩
  obtain ⟨t, -, ht, rfl⟩ := rng_n (a := 0) (b := 7) (by omega) (by omega) y1 y2
  by_cases hpt : p = t
  · have he : nI p = nI t := by rw [hpt]
    exact ⟨-2, σ, f, tm, N, by rw [cl_e hx, if_neg one_ne, cl_e hy, if_neg one_ne, if_pos he], by rw [cl_e hx, if_neg one_ne, cl_e hy, if_neg one_ne, if_pos he], h, hf, I, fun _ _ _ _ => rfl⟩
  have he : ¬ nI p = nI t := fun q => hpt ((nI_eq (by omega) (by omega)).mp q)
  rcases in_cases z 1 81 with ⟨hz, -⟩ | ⟨hz, z1, z2⟩
  · exact ⟨-2, σ, f, tm, N, by rw [cl_e hx, if_neg one_ne, cl_e hy, if_neg one_ne, if_neg he, cl_e hz]; rfl, by rw [cl_e hx, if_neg one_ne, cl_e hy, if_neg one_ne, if_neg he, cl_e hz]; rfl, h, hf, I, fun _ _ _ _ => rfl⟩
  obtain ⟨m, hm1, hm, rfl⟩ := rng_n (a := 1) (b := 81) (by omega) (by omega) z1 z2
  have hap := cAll h.2.1 (p := p) (by omega)
  have hat := cAll h.2.1 (p := t) (by omega)
  have hql := qp_lt p
  have hqt := qp_lt t
  have hmp := mAll hf (q := qp p) (by omega)
  have hmt := mAll hf (q := qp t) (by omega)
  have Ip := I.q (p := p) (by omega)
  have It := I.q (p := t) (by omega)
  by_cases hle : m ≤ sm4 N (qp p)
  · have hle' : nI m ≤ nI (sm4 N (qp p)) := nI_le hle (by omega)
    by_cases hh : sm4 N (qp t) + m ≤ 81
    · have hh' : nI (sm4 N (qp t) + m) ≤ (81 : Int32) := nI_le (b := 81) hh (by omega)
      obtain ⟨σ', f1, f', tm', N', g1, g2, g3, g4, g5, g6, g7, g8⟩ := move_b h hf I (p := p) (t := t) (m := m) (hold := 81) (by omega) (by omega) hpt (by omega) hle hh (by rw [if_pos (by omega)]; omega) tm
      refine ⟨nI (sm4 N (qp t) + m), σ', f', tm', N', ?_, ?_, g5, g6, g7, g8⟩
      · rw [cl_e hx, if_neg one_ne, cl_e hy, if_neg one_ne, if_neg he, cl_e hz, if_neg one_ne]
        exact cl_e g1
      · rw [cl_e hx, if_neg one_ne, cl_e hy, if_neg one_ne, if_neg he, cl_e hz, if_neg one_ne, cl_e (mP p (by omega)), cl_e hmp, if_pos hle', cl_e (mP t (by omega)), cl_e hmt, nI_add, if_pos hh', cl_e (mP p (by omega)), cl_e g2, cl_e (mP t (by omega))]
        dsimp only
        rw [cl_e g3, cl_e (mP t (by omega)), cl_e g4]
    · have hh' : ¬ nI (sm4 N (qp t) + m) ≤ (81 : Int32) := nI_ge (a := 81) (by omega) (by omega)
      refine ⟨-4, σ, f, tm, N, ?_, ?_, h, hf, I, fun _ _ _ _ => rfl⟩
      · rw [cl_e hx, if_neg one_ne, cl_e hy, if_neg one_ne, if_neg he, cl_e hz, if_neg one_ne]
        unfold s_X2_move
        rw [cl_e hap, if_pos hle', cl_e hat, nm_e', nI_add, if_neg hh']
        rfl
      · rw [cl_e hx, if_neg one_ne, cl_e hy, if_neg one_ne, if_neg he, cl_e hz, if_neg one_ne, cl_e (mP p (by omega)), cl_e hmp, if_pos hle', cl_e (mP t (by omega)), cl_e hmt, nI_add, if_neg hh']
  · have hle' : ¬ nI m ≤ nI (sm4 N (qp p)) := nI_ge (by omega) (by omega)
    refine ⟨-5, σ, f, tm, N, ?_, ?_, h, hf, I, fun _ _ _ _ => rfl⟩
    · rw [cl_e hx, if_neg one_ne, cl_e hy, if_neg one_ne, if_neg he, cl_e hz, if_neg one_ne]
      unfold s_X2_move
      rw [cl_e hap, if_neg hle']
      rfl
    · rw [cl_e hx, if_neg one_ne, cl_e hy, if_neg one_ne, if_neg he, cl_e hz, if_neg one_ne, cl_e (mP p (by omega)), cl_e hmp, if_neg hle']
theorem B_dip {σ : Nat → Nat → Int32} {f : Nat → Int32} {N : Nat → Nat} {c : Nat} (h : RS σ N) (hf : RM f N) (I : Inv N c) (tm : Nat → Int32) (x z : Int32) : ∃ (r : Int32) (σ' : Nat → Nat → Int32) (f' tm' : Nat → Int32) (N' : Nat → Nat), s_X2_dipBrush (σ 1) (σ 10) (σ 11) x z = some (r, σ' 1, σ' 10, σ' 11) ∧ s_X5_dips f tm x z = some (r, f', tm') ∧ RS σ' N' ∧ RM f' N' ∧ Inv N' c ∧ (∀ j, j ≠ 1 → j ≠ 10 → j ≠ 11 → σ' j = σ j) := by
  unfold s_X2_dipBrush s_X5_dips
  rw [wi8, bt_l, isPot_l]
  rcases in_cases x 0 7 with ⟨hx, -⟩ | ⟨hx, x1, x2⟩
  · exact ⟨-1, σ, f, tm, N, by rw [cl_e hx]; rfl, by rw [cl_e hx]; rfl, h, hf, I, fun _ _ _ _ => rfl⟩
  obtain ⟨p, -, hp, rfl⟩ := rng_n (a := 0) (b := 7) (by omega) (by omega) x1 x2
  rcases in_cases z 1 9 with ⟨hz, -⟩ | ⟨hz, z1, z2⟩
  · exact ⟨-2, σ, f, tm, N, by rw [cl_e hx, if_neg one_ne, cl_e hz]; rfl, by rw [cl_e hx, if_neg one_ne, cl_e hz]; rfl, h, hf, I, fun _ _ _ _ => rfl⟩
  obtain ⟨m, hm1, hm, rfl⟩ := rng_n (a := 1) (b := 9) (by omega) (by omega) z1 z2
  have hap := cAll h.2.1 (p := p) (by omega)
  have hat : s_X2_allDrops (σ 1) 8 = some (nI (sm4 N 47)) := cAll h.2.1 (p := 8) (by omega)
  have hql := qp_lt p
  have hmp := mAll hf (q := qp p) (by omega)
  have hmt : s_X5_drops f 47 = some (nI (sm4 N 47)) := mAll hf (q := 47) (by omega)
  have Ip := I.q (p := p) (by omega)
  have It := I.2.2.2.1
  by_cases hle : m ≤ sm4 N (qp p)
  · have hle' : nI m ≤ nI (sm4 N (qp p)) := nI_le hle (by omega)
    by_cases hh : sm4 N 47 + m ≤ 9
    · have hh' : nI (sm4 N 47 + m) ≤ (9 : Int32) := nI_le (b := 9) hh (by omega)
      obtain ⟨σ', f1, f', tm', N', g1, g2, g3, g4, g5, g6, g7, g8⟩ := move_b h hf I (p := p) (t := 8) (m := m) (hold := 9) (by omega) (by omega) (by omega) (by omega) hle hh (by simp) tm
      have g1' : s_X2_move (σ 1) (σ 10) (σ 11) (nI p) 8 (nI m) 9 = _ := g1
      have g3' : s_X5_puts f1 tm' 47 = _ := g3
      have g4' : s_X5_drops f' 47 = _ := g4
      refine ⟨nI (sm4 N 47 + m), σ', f', tm', N', ?_, ?_, g5, g6, g7, g8⟩
      · rw [cl_e hx, if_neg one_ne, cl_e hz, if_neg one_ne]
        exact cl_e g1'
      · rw [cl_e hx, if_neg one_ne, cl_e hz, if_neg one_ne, cl_e (mP p (by omega)), cl_e hmp, if_pos hle', cl_e hmt, nI_add, if_pos hh', cl_e (mP p (by omega)), cl_e g2]
        dsimp only
        rw [cl_e g3', cl_e g4']
        rfl
    · have hh' : ¬ nI (sm4 N 47 + m) ≤ (9 : Int32) := nI_ge (a := 9) (by omega) (by omega)
      refine ⟨-4, σ, f, tm, N, ?_, ?_, h, hf, I, fun _ _ _ _ => rfl⟩
      · rw [cl_e hx, if_neg one_ne, cl_e hz, if_neg one_ne]
        unfold s_X2_move
        rw [cl_e hap, if_pos hle', cl_e hat, nm_e', nI_add, if_neg hh']
        rfl
      · rw [cl_e hx, if_neg one_ne, cl_e hz, if_neg one_ne, cl_e (mP p (by omega)), cl_e hmp, if_pos hle', cl_e hmt, nI_add, if_neg hh']
  · have hle' : ¬ nI m ≤ nI (sm4 N (qp p)) := nI_ge (by omega) (by omega)
    refine ⟨-5, σ, f, tm, N, ?_, ?_, h, hf, I, fun _ _ _ _ => rfl⟩
    · rw [cl_e hx, if_neg one_ne, cl_e hz, if_neg one_ne]
      unfold s_X2_move
      rw [cl_e hap, if_neg hle']
      rfl
    · rw [cl_e hx, if_neg one_ne, cl_e hz, if_neg one_ne, cl_e (mP p (by omega)), cl_e hmp, if_neg hle']
