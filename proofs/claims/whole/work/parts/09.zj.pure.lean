-- pure: the law's cases, both sides answer alike (questions, texts, undo, slots)
theorem S_pot {σ : Nat → Nat → Int32} {f23 : Nat → Int32} {N : Nat → Nat} {c : Nat} (h : RS σ N) (hf : RM f23 N) (I : Inv N c) {Ls i : Nat} {xs : Nat → Int32} (hi : i + 5 ≤ Ls) (hLs : Ls < 2 ^ 31) : s_L_pot Ls xs (σ 1) (σ 2) f23 (nI i) = some () := by
  have l1 : ∀ {β : Type} (k : Int32 → Option β), ld Ls xs (nI i + 1) k = k (xs (i + 1)) := fun k => ldx (j := 1) (by omega) hLs
  have l2 : ∀ {β : Type} (k : Int32 → Option β), ld Ls xs (nI i + 2) k = k (xs (i + 2)) := fun k => ldx (j := 2) (by omega) hLs
  obtain ⟨r, ec, em⟩ := B_pot h hf I (xs (i + 1)) (xs (i + 2))
  unfold s_L_pot
  rw [l1, l2, cl_e ec, l1, l2, cl_e em]
  rw [if_pos rfl]
theorem S_brush {σ : Nat → Nat → Int32} {f23 : Nat → Int32} {N : Nat → Nat} {c : Nat} (h : RS σ N) (hf : RM f23 N) (I : Inv N c) {Ls i : Nat} {xs : Nat → Int32} (hi : i + 5 ≤ Ls) (hLs : Ls < 2 ^ 31) : s_L_brush Ls xs (σ 1) f23 (nI i) = some () := by
  have l1 : ∀ {β : Type} (k : Int32 → Option β), ld Ls xs (nI i + 1) k = k (xs (i + 1)) := fun k => ldx (j := 1) (by omega) hLs
  obtain ⟨r, ec, em⟩ := B_brush h hf I (xs (i + 1))
  unfold s_L_brush
  rw [l1, cl_e ec, l1, cl_e em]
  rw [if_pos rfl]
theorem S_panel {σ : Nat → Nat → Int32} {f23 : Nat → Int32} {N : Nat → Nat} {c : Nat} (h : RS σ N) (hf : RM f23 N) (I : Inv N c) (hc : c < 2 ^ 30) {Ls i : Nat} {xs : Nat → Int32} (hi : i + 5 ≤ Ls) (hLs : Ls < 2 ^ 31) (f29 : Nat → Int32) : ∃ g' : Nat → Int32, s_L_panel Ls xs (σ 0) (σ 3) (σ 4) (σ 5) f23 f29 (nI i) = some (g') := by
  have l1 : ∀ {β : Type} (k : Int32 → Option β), ld Ls xs (nI i + 1) k = k (xs (i + 1)) := fun k => ldx (j := 1) (by omega) hLs
  have l2 : ∀ {β : Type} (k : Int32 → Option β), ld Ls xs (nI i + 2) k = k (xs (i + 2)) := fun k => ldx (j := 2) (by omega) hLs
  obtain ⟨r, g', ec, em⟩ := B_panel h hf I hc (xs (i + 1)) (xs (i + 2)) f29
  refine ⟨g', ?_⟩
  unfold s_L_panel
  rw [l1, l2, cl_e ec, l1, l2, cl_e em]
  dsimp only
  rw [if_pos rfl]
theorem S_count {σ : Nat → Nat → Int32} {f23 : Nat → Int32} {N : Nat → Nat} {c : Nat} (h : RS σ N) (hf : RM f23 N) (I : Inv N c) (hc : c < 2 ^ 30) {Ls i : Nat} {xs : Nat → Int32} (hi : i + 5 ≤ Ls) (hLs : Ls < 2 ^ 31) (L kp : Nat) (f29 : Nat → Int32) : ∃ g' : Nat → Int32, s_L_count Ls xs (nI kp) (σ 6 0) (σ 7 0) (σ 8 0) (σ 9 0) (σ 0) (σ 1) (σ 3) (σ 4) (σ 5) (nI L) (nI L) (nI kp) f23 f29 (nI i) = some (g') := by
  have l1 : ∀ {β : Type} (k : Int32 → Option β), ld Ls xs (nI i + 1) k = k (xs (i + 1)) := fun k => ldx (j := 1) (by omega) hLs
  obtain ⟨r, g', ec, em⟩ := B_count h hf I hc (nI L) (nI kp) (xs (i + 1)) f29
  refine ⟨g', ?_⟩
  unfold s_L_count
  rw [l1, cl_e ec, l1, cl_e em]
  dsimp only
  rw [if_pos rfl]
theorem S_nearest {σ : Nat → Nat → Int32} {f23 : Nat → Int32} {N : Nat → Nat} {c : Nat} (h : RS σ N) (hf : RM f23 N) (I : Inv N c) {Ls i : Nat} {xs : Nat → Int32} (hi : i + 5 ≤ Ls) (hLs : Ls < 2 ^ 31) (f29 : Nat → Int32) : ∃ g' : Nat → Int32, s_L_nearest Ls xs (σ 1) (σ 3) f23 f29 (nI i) = some (g') := by
  have l1 : ∀ {β : Type} (k : Int32 → Option β), ld Ls xs (nI i + 1) k = k (xs (i + 1)) := fun k => ldx (j := 1) (by omega) hLs
  have l2 : ∀ {β : Type} (k : Int32 → Option β), ld Ls xs (nI i + 2) k = k (xs (i + 2)) := fun k => ldx (j := 2) (by omega) hLs
  obtain ⟨r, g', ec, em⟩ := B_nearest h hf I (xs (i + 1)) (xs (i + 2)) f29
  refine ⟨g', ?_⟩
  unfold s_L_nearest
  rw [l1, l2, cl_e ec, l1, l2, cl_e em]
  dsimp only
  rw [if_pos rfl]
theorem S_bestThinning {σ : Nat → Nat → Int32} {f23 : Nat → Int32} {N : Nat → Nat} {c : Nat} (h : RS σ N) (hf : RM f23 N) (I : Inv N c) {Ls i : Nat} {xs : Nat → Int32} (hi : i + 5 ≤ Ls) (hLs : Ls < 2 ^ 31) (f29 : Nat → Int32) : ∃ g' : Nat → Int32, s_L_bestThinning Ls xs (σ 1) (σ 3) f23 f29 (nI i) = some (g') := by
  have l1 : ∀ {β : Type} (k : Int32 → Option β), ld Ls xs (nI i + 1) k = k (xs (i + 1)) := fun k => ldx (j := 1) (by omega) hLs
  have l2 : ∀ {β : Type} (k : Int32 → Option β), ld Ls xs (nI i + 2) k = k (xs (i + 2)) := fun k => ldx (j := 2) (by omega) hLs
  have l3 : ∀ {β : Type} (k : Int32 → Option β), ld Ls xs (nI i + 3) k = k (xs (i + 3)) := fun k => ldx (j := 3) (by omega) hLs
  obtain ⟨r, g', ec, em⟩ := B_bestThinning h hf I (xs (i + 1)) (xs (i + 2)) (xs (i + 3)) f29
  refine ⟨g', ?_⟩
  unfold s_L_bestThinning
  rw [l1, l2, l3, cl_e ec, l1, l2, l3, cl_e em]
  dsimp only
  rw [if_pos rfl]
theorem S_bestMixture {σ : Nat → Nat → Int32} {f23 : Nat → Int32} {N : Nat → Nat} {c : Nat} (h : RS σ N) (hf : RM f23 N) (I : Inv N c) {Ls i : Nat} {xs : Nat → Int32} (hi : i + 5 ≤ Ls) (hLs : Ls < 2 ^ 31) (f11 f12 f13 f29 : Nat → Int32) : ∃ y' ya' yb' g' : Nat → Int32, s_L_bestMixture Ls xs (σ 1) (σ 3) f11 f12 f13 f23 f29 (nI i) = some (y', ya', yb', g') := by
  have l1 : ∀ {β : Type} (k : Int32 → Option β), ld Ls xs (nI i + 1) k = k (xs (i + 1)) := fun k => ldx (j := 1) (by omega) hLs
  have l2 : ∀ {β : Type} (k : Int32 → Option β), ld Ls xs (nI i + 2) k = k (xs (i + 2)) := fun k => ldx (j := 2) (by omega) hLs
  obtain ⟨r, y', ya', yb', g', ec, em⟩ := B_bestMixture h hf I (xs (i + 1)) (xs (i + 2)) f11 f12 f13 f29
  refine ⟨y', ya', yb', g', ?_⟩
  unfold s_L_bestMixture
  rw [l1, l2, cl_e ec, l1, l2, cl_e em]
  dsimp only
  rw [if_pos rfl]
theorem S_rinses {σ : Nat → Nat → Int32} {f23 : Nat → Int32} {N : Nat → Nat} {c : Nat} (h : RS σ N) (hf : RM f23 N) (I : Inv N c) {Ls i : Nat} {xs : Nat → Int32} (hi : i + 5 ≤ Ls) (hLs : Ls < 2 ^ 31) (f14 f29 : Nat → Int32) : ∃ y' g' : Nat → Int32, s_L_rinses Ls xs (σ 1) (σ 3) f14 f23 f29 (nI i) = some (y', g') := by
  have l1 : ∀ {β : Type} (k : Int32 → Option β), ld Ls xs (nI i + 1) k = k (xs (i + 1)) := fun k => ldx (j := 1) (by omega) hLs
  obtain ⟨r, y', g', ec, em⟩ := B_rinses h hf I (xs (i + 1)) f14 f29
  refine ⟨y', g', ?_⟩
  unfold s_L_rinses
  rw [l1, cl_e ec, l1, cl_e em]
  dsimp only
  rw [if_pos rfl]
theorem S_bestOrder {σ : Nat → Nat → Int32} {f23 : Nat → Int32} {N : Nat → Nat} {c : Nat} (h : RS σ N) (hf : RM f23 N) (I : Inv N c) {Ls i : Nat} {xs : Nat → Int32} (hi : i + 5 ≤ Ls) (hLs : Ls < 2 ^ 31) (f14 f15 f29 : Nat → Int32) : ∃ y' ya' g' : Nat → Int32, s_L_bestOrder Ls xs (σ 1) (σ 3) f14 f15 f23 f29 (nI i) = some (y', ya', g') := by
  have l1 : ∀ {β : Type} (k : Int32 → Option β), ld Ls xs (nI i + 1) k = k (xs (i + 1)) := fun k => ldx (j := 1) (by omega) hLs
  obtain ⟨r, y', ya', g', ec, em⟩ := B_bestOrder h hf I (xs (i + 1)) f14 f15 f29
  refine ⟨y', ya', g', ?_⟩
  unfold s_L_bestOrder
  rw [l1, cl_e ec, l1, cl_e em]
  dsimp only
  rw [if_pos rfl]
theorem S_put {S Pd : Nat → Int32} {t : Nat → Nat} {L : Nat} (hR : RT S Pd t) (hL : L ≤ 60) {Ls i : Nat} {xs : Nat → Int32} (hi : i + 5 ≤ Ls) (hLs : Ls < 2 ^ 31) : ∃ (S' Pd' : Nat → Int32) (t' : Nat → Nat) (L' : Nat), L' ≤ 60 ∧ RT S' Pd' t' ∧ s_L_put Ls xs (nI L) S (nI L) Pd (nI i) = some (nI L', S', nI L', Pd') := by
  have l1 : ∀ {β : Type} (k : Int32 → Option β), ld Ls xs (nI i + 1) k = k (xs (i + 1)) := fun k => ldx (j := 1) (by omega) hLs
  have l2 : ∀ {β : Type} (k : Int32 → Option β), ld Ls xs (nI i + 2) k = k (xs (i + 2)) := fun k => ldx (j := 2) (by omega) hLs
  obtain ⟨v, S', Pd', t', L', h1, h2, e1, e2⟩ := B_put hR hL (((xs (i + 1)).toInt64 <<< ((32 : Int32).toInt64 &&& 63)) ||| ((xs (i + 2)).toInt64 &&& 4294967295))
  refine ⟨S', Pd', t', L', h1, h2, ?_⟩
  unfold s_L_put
  rw [l1, l2, cl_e e1, l1, l2, cl_e e2]
  dsimp only
  rw [if_pos rfl]
theorem S_wipe (Ls : Nat) (xs : Nat → Int32) (L : Nat) : s_L_wipe Ls xs (nI L) (nI L) = some (nI 0, nI 0) := by
  unfold s_L_wipe s_X4_wipe s_X1_clear s_X5_wipe
  rw [cl_s, cl_s, cl_s]
  dsimp only
  rw [if_pos rfl]
  rfl
theorem S_fault {S Pd : Nat → Int32} {t : Nat → Nat} {L : Nat} (hR : RT S Pd t) (hL : L ≤ 60) (Ls : Nat) (xs : Nat → Int32) (R : Nat → Int32) (g0 g1 g2 g3 : Int32) (f3 : Nat → Int32) : ∃ (p h0 h1 h2 h3 : Int32) (hf' : Nat → Int32) (W aa : Int32) (R' : Nat → Int32), s_L_fault Ls xs (nI L) S g0 g1 g2 g3 f3 (nI L) R Pd = some (p, h0, h1, h2, h3, hf', W, aa, R') := by
  obtain ⟨v, p, h0, h1, h2, h3, hf', W, aa, R', e1, e2⟩ := B_fault hR hL R g0 g1 g2 g3 f3
  refine ⟨p, h0, h1, h2, h3, hf', W, aa, R', ?_⟩
  unfold s_L_fault
  rw [cl_e e1, cl_e e2]
  dsimp only
  rw [if_pos rfl]
theorem S_undo {σ : Nat → Nat → Int32} {τ : Nat → Nat → Nat → Int32} {f20 : Nat → Option Nat} {f23 f25 : Nat → Int32} {N : Nat → Nat} {np kp c ad : Nat} (h : RS σ N) (hf : RM f23 N) (I : Inv N c) (hG : RG τ f25 np kp c) (hn : np < 7) (hk : kp ≤ 6) (hq : s_X4_studioAt 7 f20 (nI ((np + 6) % 7)) = some (some ad)) (Ls : Nat) (xs : Nat → Int32) : ∃ (σ' : Nat → Nat → Int32) (f' : Nat → Int32) (N' : Nat → Nat) (np' kp' : Nat), s_L_undo Ls xs (nI np) (nI kp) (σ 6 0) (σ 7 0) (σ 8 0) (σ 9 0) (σ 0) (σ 1) (σ 2) (σ 3) (σ 4) (σ 5) f20 (nI kp) f23 f25 (τ (((np + 6) % 7)) 6 0) (τ (((np + 6) % 7)) 7 0) (τ (((np + 6) % 7)) 8 0) (τ (((np + 6) % 7)) 9 0) (τ (((np + 6) % 7)) 0) (τ (((np + 6) % 7)) 1) (τ (((np + 6) % 7)) 2) (τ (((np + 6) % 7)) 3) (τ (((np + 6) % 7)) 4) (τ (((np + 6) % 7)) 5) = some (nI np', nI kp', σ' 6 0, σ' 7 0, σ' 8 0, σ' 9 0, σ' 0, σ' 1, σ' 2, σ' 3, σ' 4, σ' 5, nI kp', f') ∧ RS σ' N' ∧ RM f' N' ∧ Inv N' c ∧ RG τ f25 np' kp' c ∧ np' < 7 ∧ kp' ≤ 6 ∧ ∀ j, 10 ≤ j → σ' j = σ j := by
  obtain ⟨r, σ', f', N', np', kp', e1, e2, h', hf', I', hG', n7, k6, hs⟩ := B_undo h hf I hG hn hk hq
  refine ⟨σ', f', N', np', kp', ?_, h', hf', I', hG', n7, k6, hs⟩
  unfold s_L_undo
  rw [cl_e e1, cl_e e2]
  dsimp only
  rw [if_pos rfl]
theorem sl_bad {x : Int32} (hb : s_X5_in x 0 1 = some 0) : s_X4_save_b x = some (-2) := by
  unfold s_X4_save_b
  rcases in_cases x 0 1 with ⟨-, q | q⟩ | ⟨q, -⟩
  · rw [if_pos q]
  · have h0 : ¬ x < 0 := fun z => absurd (Int32.lt_trans q z) (by decide)
    have h2 : ¬ x < 2 := fun z => by
      rcases pk_ix x (n := 2) (by omega) with y | y | ⟨j, hj, rfl⟩
      · exact h0 y
      · exact absurd (Int32.lt_of_lt_of_le z y) Int32.lt_irrefl
      · exact absurd (show nI 1 < nI j from q) (nI_nlt (by omega) (by omega))
    rw [if_neg h0, if_neg h2]
  · rw [q] at hb
    cases hb
theorem S_save_b {Ls i : Nat} {xs : Nat → Int32} (hi : i + 5 ≤ Ls) (hLs : Ls < 2 ^ 31) (f23 f26 f27 : Nat → Int32) (hb : s_X5_in (xs (i + 1)) 0 1 = some 0) : s_L_save_b Ls xs f23 f26 f27 (nI i) = some (f26, f27) := by
  have l1 : ∀ {β : Type} (k : Int32 → Option β), ld Ls xs (nI i + 1) k = k (xs (i + 1)) := fun k => ldx (j := 1) (by omega) hLs
  have e5 : s_X5_save f23 f26 f27 (xs (i + 1)) = some (-2, f26, f27) := by
    unfold s_X5_save
    rw [cl_e hb, if_pos rfl]
  unfold s_L_save_b
  rw [l1, cl_e (sl_bad hb), l1, cl_e e5]
  dsimp only
  rw [if_pos rfl]
theorem S_save_s {σ : Nat → Nat → Int32} {τ : Nat → Nat → Nat → Int32} {f21 : Nat → Option Nat} {f23 f26 f27 : Nat → Int32} {N : Nat → Nat} {c s : Nat} (h : RS σ N) (hf : RM f23 N) (I : Inv N c) (hs : s < 2) {Ls i : Nat} {xs : Nat → Int32} (hi : i + 5 ≤ Ls) (hLs : Ls < 2 ^ 31) (hx : xs (i + 1) = nI s) : ∃ (x : Nat → Nat → Int32) (Sv' : Nat → Int32), s_L_save_s Ls xs (σ 6 0) (σ 7 0) (σ 8 0) (σ 9 0) (σ 0) (σ 1) (σ 2) (σ 3) (σ 4) (σ 5) f21 f23 f26 f27 (τ (7 + s) 6 0) (τ (7 + s) 7 0) (τ (7 + s) 8 0) (τ (7 + s) 9 0) (τ (7 + s) 0) (τ (7 + s) 1) (τ (7 + s) 2) (τ (7 + s) 3) (τ (7 + s) 4) (τ (7 + s) 5) (nI i) = some (Sv', upd f27 s 1, x 6 0, x 7 0, x 8 0, x 9 0, x 0, x 1, x 2, x 3, x 4, x 5) ∧ RS x N ∧ (∀ j, 10 ≤ j → x j = τ (7 + s) j) ∧ (∀ k, k < 99 → Sv' (99 * s + k) = nI (N k)) ∧ (∀ k, (k < 99 * s ∨ 99 * s + 99 ≤ k) → Sv' k = f26 k) := by
  have l1 : ∀ {β : Type} (k : Int32 → Option β), ld Ls xs (nI i + 1) k = k (xs (i + 1)) := fun k => ldx (j := 1) (by omega) hLs
  obtain ⟨Sv', e1, e2, a, b⟩ := B_save (τ := τ) (Sv := f26) (Is := f27) h hf I hs
  obtain ⟨x, ex, hX, hx2⟩ := cpS h (τ (7 + s))
  have e4 : s_X4_save_s (σ 6 0) (σ 7 0) (σ 8 0) (σ 9 0) (σ 0) (σ 1) (σ 2) (σ 3) (σ 4) (σ 5) f21 (τ (7 + s) 6 0) (τ (7 + s) 7 0) (τ (7 + s) 8 0) (τ (7 + s) 9 0) (τ (7 + s) 0) (τ (7 + s) 1) (τ (7 + s) 2) (τ (7 + s) 3) (τ (7 + s) 4) (τ (7 + s) 5) (nI s) = some (nI (su (po N) 8), x 6 0, x 7 0, x 8 0, x 9 0, x 0, x 1, x 2, x 3, x 4, x 5) := by
    unfold s_X4_save_s
    rw [if_neg (nI_pos (by omega)), if_pos (show nI s < 2 from nI_lt (b := 2) hs (by omega)), ldq_n hs (by omega), cl_e ex, cl_e e2]
  refine ⟨x, Sv', ?_, hX, hx2, a, b⟩
  unfold s_L_save_s
  rw [l1, hx, cl_e e4, l1, hx, cl_e e1]
  dsimp only
  rw [if_pos rfl]
theorem S_save_n {σ : Nat → Nat → Int32} {f21 : Nat → Option Nat} {f23 f26 f27 : Nat → Int32} {N : Nat → Nat} {c s : Nat} (h : RS σ N) (hf : RM f23 N) (I : Inv N c) (hs : s < 2) {Ls i : Nat} {xs : Nat → Int32} (hi : i + 5 ≤ Ls) (hLs : Ls < 2 ^ 31) (hx : xs (i + 1) = nI s) : ∃ (x : Nat → Nat → Int32) (Sv' : Nat → Int32), s_L_save_n Ls xs (σ 6 0) (σ 7 0) (σ 8 0) (σ 9 0) (σ 0) (σ 1) (σ 2) (σ 3) (σ 4) (σ 5) f21 f23 f26 f27 (nI i) = some (σ 6 0, σ 7 0, σ 8 0, σ 9 0, Sv', upd f27 s 1, x 6 0, x 7 0, x 8 0, x 9 0, x 0, x 1, x 2, x 3, x 4, x 5) ∧ RS x N ∧ x 10 = (fun _ => 0) ∧ x 11 = (fun _ => 0) ∧ (∀ k, k < 99 → Sv' (99 * s + k) = nI (N k)) ∧ (∀ k, (k < 99 * s ∨ 99 * s + 99 ≤ k) → Sv' k = f26 k) := by
  have l1 : ∀ {β : Type} (k : Int32 → Option β), ld Ls xs (nI i + 1) k = k (xs (i + 1)) := fun k => ldx (j := 1) (by omega) hLs
  obtain ⟨Sv', e1, e2, a, b⟩ := B_save (τ := fun _ _ _ => 0) (Sv := f26) (Is := f27) h hf I hs
  obtain ⟨r4, er⟩ := cInit
  obtain ⟨x, ex, hX, hx2⟩ := cpS h (fun j => if j = 0 then r4 else fun _ => 0)
  have ex' : s_X2_copyFrom r4 (fun _ => 0) (fun _ => 0) (fun _ => 0) (fun _ => 0) (fun _ => 0) (σ 6 0) (σ 7 0) (σ 8 0) (σ 9 0) (σ 0) (σ 1) (σ 2) (σ 3) (σ 4) (σ 5) = some (x 6 0, x 7 0, x 8 0, x 9 0, x 0, x 1, x 2, x 3, x 4, x 5) := ex
  have e4 : s_X4_save_n (σ 6 0) (σ 7 0) (σ 8 0) (σ 9 0) (σ 0) (σ 1) (σ 2) (σ 3) (σ 4) (σ 5) f21 (nI s) = some (nI (su (po N) 8), x 6 0, x 7 0, x 8 0, x 9 0, x 0, x 1, x 2, x 3, x 4, x 5) := by
    unfold s_X4_save_n
    rw [if_neg (nI_pos (by omega)), if_pos (show nI s < 2 from nI_lt (b := 2) hs (by omega)), ldq_n hs (by omega), cl_e er, cl_e ex', cl_e e2]
  refine ⟨x, Sv', ?_, hX, hx2 10 (by omega), hx2 11 (by omega), a, b⟩
  unfold s_L_save_n
  rw [l1, hx, cl_e e4, l1, hx, cl_e e1]
  dsimp only
  rw [if_pos rfl]
theorem S_restore_n {Ls i : Nat} {xs : Nat → Int32} (hi : i + 5 ≤ Ls) (hLs : Ls < 2 ^ 31) {kp : Nat} (f21 : Nat → Option Nat) (f23 f24 f25 f26 f27 : Nat → Int32) (hb : s_X5_in (xs (i + 1)) 0 1 = some 0 ∨ ∃ s, s < 2 ∧ xs (i + 1) = nI s ∧ f21 s = none ∧ f27 s = 0) : s_L_restore_n Ls xs f21 (nI kp) f23 f24 f25 f26 f27 (nI i) = some (nI kp, f23, f24, f25) := by
  have l1 : ∀ {β : Type} (k : Int32 → Option β), ld Ls xs (nI i + 1) k = k (xs (i + 1)) := fun k => ldx (j := 1) (by omega) hLs
  unfold s_L_restore_n s_X4_restore_n s_X5_restore
  rcases hb with hb | ⟨s, hs, hx, h1, h2⟩
  · rw [l1, wi2, cl_e hb, if_pos rfl, cl_s, l1, cl_e hb, if_pos rfl, cl_s]
    dsimp only
    rw [if_pos rfl]
  · have hin : s_X5_in (nI s) 0 1 = some 1 := by
      rcases in_cases (nI s) 0 1 with ⟨-, q | q⟩ | ⟨q, -⟩
      · exact absurd q (nI_pos (by omega))
      · exact absurd (show nI 1 < nI s from q) (nI_nlt (by omega) (by omega))
      · exact q
    have hst : s_X4_studioAt 2 f21 (nI s) = some none := by
      unfold s_X4_studioAt
      rw [if_neg (nI_pos (by omega)), if_pos (show nI s < Int32.ofNat 2 from nI_lt (b := 2) hs (by omega)), ldq_n hs (by omega), h1]
    rw [l1, hx, wi2, cl_e hin, if_neg one_ne, cl_e hst, cl_s, l1, hx, cl_e hin, if_neg one_ne, ld_n hs (by omega), h2, if_pos rfl, cl_s]
    dsimp only
    rw [if_pos rfl]
theorem S_restore_s {σ : Nat → Nat → Int32} {τ : Nat → Nat → Nat → Int32} {f20 : Nat → Option Nat} {f23 f25 : Nat → Int32} {N : Nat → Nat} {np kp c ad : Nat} (h : RS σ N) (hf : RM f23 N) (I : Inv N c) (hG : RG τ f25 np kp c) (hn : np < 7) (hk : kp ≤ 6) (hq : s_X4_studioAt 7 f20 (nI np) = some (some ad)) {Ls i : Nat} {xs : Nat → Int32} (hi : i + 5 ≤ Ls) (hLs : Ls < 2 ^ 31) {f21 : Nat → Option Nat} {f24 f26 f27 : Nat → Int32} {s ad2 : Nat} {M : Nat → Nat} (hs : s < 2) (hx : xs (i + 1) = nI s) (hst : s_X4_studioAt 2 f21 (nI s) = some (some ad2)) (h27 : f27 s = 1) (hτ : RS (τ (7 + s)) M) (hSv : ∀ k, k < 99 → f26 (99 * s + k) = nI (M k)) : ∃ (x σ' : Nat → Nat → Int32) (F f' B' : Nat → Int32) (np' kp' : Nat), s_L_restore_s Ls xs (nI np) (nI kp) (σ 6 0) (σ 7 0) (σ 8 0) (σ 9 0) (σ 0) (σ 1) (σ 2) (σ 3) (σ 4) (σ 5) f20 f21 (nI kp) f23 f24 f25 f26 f27 (τ np 6 0) (τ np 7 0) (τ np 8 0) (τ np 9 0) (τ np 0) (τ np 1) (τ np 2) (τ np 3) (τ np 4) (τ np 5) (τ (7 + s) 6 0) (τ (7 + s) 7 0) (τ (7 + s) 8 0) (τ (7 + s) 9 0) (τ (7 + s) 0) (τ (7 + s) 1) (τ (7 + s) 2) (τ (7 + s) 3) (τ (7 + s) 4) (τ (7 + s) 5) (nI i) = some (nI np', nI kp', σ' 6 0, σ' 7 0, σ' 8 0, σ' 9 0, σ' 0, σ' 1, σ' 2, σ' 3, σ' 4, σ' 5, nI kp', f', F, B', x 6 0, x 7 0, x 8 0, x 9 0, x 0, x 1, x 2, x 3, x 4, x 5) ∧ RS σ' M ∧ RM f' M ∧ (∀ j, 10 ≤ j → x j = τ np j) ∧ RG (upT τ np x) B' np' kp' c ∧ np' < 7 ∧ kp' ≤ 6 ∧ (∀ j, 10 ≤ j → σ' j = σ j) := by
  have l1 : ∀ {β : Type} (k : Int32 → Option β), ld Ls xs (nI i + 1) k = k (xs (i + 1)) := fun k => ldx (j := 1) (by omega) hLs
  have hin : s_X5_in (nI s) 0 1 = some 1 := by
    rcases in_cases (nI s) 0 1 with ⟨-, q | q⟩ | ⟨q, -⟩
    · exact absurd q (nI_pos (by omega))
    · exact absurd (show nI 1 < nI s from q) (nI_nlt (by omega) (by omega))
    · exact q
  obtain ⟨x, F, ek, hX, hx2, eF, hG0, hrec⟩ := kept_b h hf I hG hn hk hq f24
  obtain ⟨σ', f', ec, ed, h', hf', hs', hM⟩ := B_restore (σ := σ) (f := f23) (Sv := f26) (Is := f27) (F0 := f24) (B := f25) (K := nI kp) (τ (7 + s)) hs h27 hτ hSv
  obtain ⟨np', kp', B', n7, k6, er, emr, hG'⟩ := hrec (nI (su (po M) 8))
  have e5 := hM F (nI kp') B' eF emr
  have e4 : s_X4_restore_s (nI np) (nI kp) (σ 6 0) (σ 7 0) (σ 8 0) (σ 9 0) (σ 0) (σ 1) (σ 2) (σ 3) (σ 4) (σ 5) f20 f21 (τ np 6 0) (τ np 7 0) (τ np 8 0) (τ np 9 0) (τ np 0) (τ np 1) (τ np 2) (τ np 3) (τ np 4) (τ np 5) (τ (7 + s) 6 0) (τ (7 + s) 7 0) (τ (7 + s) 8 0) (τ (7 + s) 9 0) (τ (7 + s) 0) (τ (7 + s) 1) (τ (7 + s) 2) (τ (7 + s) 3) (τ (7 + s) 4) (τ (7 + s) 5) (nI s) = some (nI (su (po M) 8), nI np', nI kp', σ' 6 0, σ' 7 0, σ' 8 0, σ' 9 0, σ' 0, σ' 1, σ' 2, σ' 3, σ' 4, σ' 5, x 6 0, x 7 0, x 8 0, x 9 0, x 0, x 1, x 2, x 3, x 4, x 5) := by
    unfold s_X4_restore_s
    rw [wi2, cl_e hin, if_neg one_ne, cl_e hst, cl_e ek, cl_e ec]
    dsimp only
    rw [cl_e ed, cl_e er]
  refine ⟨x, σ', F, f', B', np', kp', ?_, h', hf', hx2, hG', n7, k6, hs'⟩
  unfold s_L_restore_s
  rw [l1, hx, cl_e e4, l1, hx, cl_e e5]
  dsimp only
  rw [if_pos rfl]
theorem S_run {σ : Nat → Nat → Int32} {τ : Nat → Nat → Nat → Int32} {f20 : Nat → Option Nat} {f23 f25 : Nat → Int32} {N : Nat → Nat} {np kp c ad : Nat} (h : RS σ N) (hf : RM f23 N) (I : Inv N c) (hG : RG τ f25 np kp c) (hn : np < 7) (hk : kp ≤ 6) (hq : s_X4_studioAt 7 f20 (nI np) = some (some ad)) {S Pd : Nat → Int32} {t : Nat → Nat} {L : Nat} (hR : RT S Pd t) (hL : L ≤ 60) (Ls : Nat) (xs : Nat → Int32) (f24 f28 f29 R f3 : Nat → Int32) (g0 g1 g2 g3 : Int32) : ∃ (x σ' : Nat → Nat → Int32) (F f' B' tm' gm' R' : Nat → Int32) (N' : Nat → Nat) (np' kp' L' : Nat) (p h0 h1 h2 h3 W aa : Int32) (hf' : Nat → Int32), s_L_run Ls xs (nI np) (nI kp) (σ 6 0) (σ 7 0) (σ 8 0) (σ 9 0) (σ 0) (σ 1) (σ 2) (σ 3) (σ 4) (σ 5) (σ 10) (σ 11) (nI L) S g0 g1 g2 g3 f3 f20 (nI L) (nI kp) f23 f24 f25 f28 f29 R Pd (τ np 6 0) (τ np 7 0) (τ np 8 0) (τ np 9 0) (τ np 0) (τ np 1) (τ np 2) (τ np 3) (τ np 4) (τ np 5) = some (nI np', nI kp', σ' 6 0, σ' 7 0, σ' 8 0, σ' 9 0, σ' 1, σ' 2, σ' 4, σ' 5, σ' 10, σ' 11, nI L', p, h0, h1, h2, h3, hf', nI L', nI kp', W, aa, f', F, B', tm', gm', R', x 6 0, x 7 0, x 8 0, x 9 0, x 0, x 1, x 2, x 3, x 4, x 5) ∧ RS σ' N' ∧ RM f' N' ∧ Inv N' (c + 60) ∧ (∀ j, 10 ≤ j → x j = τ np j) ∧ RG (upT τ np x) B' np' kp' c ∧ np' < 7 ∧ kp' ≤ 6 ∧ L' ≤ 60 ∧ (L' = L ∨ L' = 0) ∧ σ' 0 = σ 0 ∧ σ' 3 = σ 3 := by
  obtain ⟨vm, vc, W, j, R1, eM, hj, hv, hC⟩ := FF_all hR hL R
  obtain ⟨g0', g1', g2', g3', f3', eC⟩ := hC g0 g1 g2 g3 f3
  obtain ⟨x, F, ek, hx, hx2, eF, hG0, hrec⟩ := kept_b h hf I hG hn hk hq f24
  rcases hv with ⟨rfl, rfl⟩ | ⟨rfl, rfl, hW, hch⟩
  · have n6 : ¬ nI j = -6 := fun z => absurd (show nI j < 0 by rw [z]; decide) (nI_pos (by omega))
    have e4 : s_X4_run (nI np) (nI kp) (σ 6 0) (σ 7 0) (σ 8 0) (σ 9 0) (σ 0) (σ 1) (σ 2) (σ 3) (σ 4) (σ 5) (σ 10) (σ 11) (nI L) S g0 g1 g2 g3 f3 f20 (τ np 6 0) (τ np 7 0) (τ np 8 0) (τ np 9 0) (τ np 0) (τ np 1) (τ np 2) (τ np 3) (τ np 4) (τ np 5) = some ((-3), nI np, nI kp, σ 6 0, σ 7 0, σ 8 0, σ 9 0, σ 1, σ 2, σ 4, σ 5, σ 10, σ 11, nI L, nI j, g0', g1', g2', g3', f3', τ np 6 0, τ np 7 0, τ np 8 0, τ np 9 0, τ np 0, τ np 1, τ np 2, τ np 3, τ np 4, τ np 5) := by
      unfold s_X4_run
      rw [cl_e eC]
      dsimp only
      rw [if_neg n6]
    have e5 : s_X5_run (nI L) (nI kp) f23 f24 f25 f28 f29 R Pd = some ((-3), nI L, nI kp, nI W, nI j, f23, f24, f25, f28, f29, R1) := by
      unfold s_X5_run
      rw [cl_e eM]
      dsimp only
      rw [if_neg (nI_pos (by omega))]
    refine ⟨τ np, σ, f24, f23, f25, f28, f29, R1, N, np, kp, L, nI j, g0', g1', g2', g3', nI W, nI j, f3', ?_, h, hf, I.mono (by omega), fun _ _ => rfl, ?_, hn, hk, hL, Or.inl rfl, rfl, rfl⟩
    · unfold s_L_run
      rw [cl_e e4, cl_e e5]
      dsimp only
      rw [if_pos rfl]
    · exact hG.fail hn hk (τ np)
  · obtain ⟨n, hn2⟩ : ∃ n, W = n + 1 := by
      cases W with
      | zero => exact hch.elim
      | succ n => exact ⟨n, rfl⟩
    subst hn2
    obtain ⟨i', hlt, hle, hread, hrest⟩ := hch
    obtain ⟨k0, k1, k2, k3, kf, eR, hWK⟩ := hread g0' g1' g2' g3' f3'
    have eRF : s_X1_readFirst (nI L) S g0' g1' g2' g3' f3' = some (1, nI i', k0, k1, k2, k3, kf) := by
      unfold s_X1_readFirst
      rw [cl_e (show s_X1_readWork (nI L) 0 S g0' g1' g2' g3' f3' = some (1, nI i', k0, k1, k2, k3, kf) from eR)]
    obtain ⟨cnt', σ', f', tm', gm', N', p, h0, h1, h2, h3, hf', hcnt, eLC, eLM, h', hf'', I', s0, s3⟩ := run_l (vm := -1) (aa := nI j) (g5 := nI np) (g6 := nI kp) (K := nI kp) (r3 := (x 6 0, x 7 0, x 8 0, x 9 0, x 0, x 1, x 2, x 3, x 4, x 5)) (m3 := F) (b3 := f25) hR hL hW (998 - n) (998 - n) n 0 i' 0 σ f23 f28 f29 N c k0 k1 k2 k3 kf (by omega) h hf I hWK hle (by
      rcases hrest with q | ⟨a, b, q⟩
      · exact Or.inl q
      · exact Or.inr ⟨a, b, q⟩)
    rw [show 998 - n + n + 2 = 1000 by omega] at eLC eLM
    obtain ⟨np', kp', B', n7, k6, er, emr, hG'⟩ := hrec (nI cnt')
    have e4 : s_X4_run (nI np) (nI kp) (σ 6 0) (σ 7 0) (σ 8 0) (σ 9 0) (σ 0) (σ 1) (σ 2) (σ 3) (σ 4) (σ 5) (σ 10) (σ 11) (nI L) S g0 g1 g2 g3 f3 f20 (τ np 6 0) (τ np 7 0) (τ np 8 0) (τ np 9 0) (τ np 0) (τ np 1) (τ np 2) (τ np 3) (τ np 4) (τ np 5) = some (nI cnt', nI np', nI kp', σ' 6 0, σ' 7 0, σ' 8 0, σ' 9 0, σ' 1, σ' 2, σ' 4, σ' 5, σ' 10, σ' 11, nI 0, p, h0, h1, h2, h3, hf', x 6 0, x 7 0, x 8 0, x 9 0, x 0, x 1, x 2, x 3, x 4, x 5) := by
      unfold s_X4_run
      rw [cl_e eC]
      dsimp only
      rw [if_pos rfl, cl_e ek, cl_e eRF]
      refine Eq.trans eLC ?_
      unfold s_X4_run_X1 s_X1_clear
      rw [cl_s, cl_e er]
      rfl
    have e5 : s_X5_run (nI L) (nI kp) f23 f24 f25 f28 f29 R Pd = some (nI cnt', nI 0, nI kp', nI (n + 1), nI j, f', F, B', tm', gm', R1) := by
      unfold s_X5_run
      rw [cl_e eM]
      dsimp only
      rw [if_pos (show (-1 : Int32) < 0 by decide), cl_e eF]
      refine Eq.trans eLM ?_
      unfold s_X5_run_X1
      rw [cl_e emr]
      rfl
    refine ⟨x, σ', F, f', B', tm', gm', R1, N', np', kp', 0, p, h0, h1, h2, h3, nI (n + 1), nI j, hf', ?_, h', hf'', I'.mono (by omega), hx2, hG', n7, k6, by omega, Or.inr rfl, s0, s3⟩
    unfold s_L_run
    rw [cl_e e4, cl_e e5]
    dsimp only
    rw [if_pos rfl]
