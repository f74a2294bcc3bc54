-- pure: the law's cases, both sides answer alike (changes)
theorem ldx {β : Type} {Ls i j : Nat} {xs : Nat → Int32} {k : Int32 → Option β} (h : i + j < Ls) (hL : Ls < 2 ^ 31) : ld Ls xs (nI i + nI j) k = k (xs (i + j)) := by
  rw [nI_add, ld_n h hL]
theorem S_fill {σ : Nat → Nat → Int32} {τ : Nat → Nat → Nat → Int32} {f20 : Nat → Option Nat} {f23 f25 : Nat → Int32} {N : Nat → Nat} {np kp c ad : Nat} (h : RS σ N) (hf : RM f23 N) (I : Inv N c) (hG : RG τ f25 np kp c) (hn : np < 7) (hk : kp ≤ 6) (hq : s_X4_studioAt 7 f20 (nI np) = some (some ad)) {Ls i : Nat} {xs : Nat → Int32} (hi : i + 5 ≤ Ls) (hLs : Ls < 2 ^ 31) (f24 : Nat → Int32) : ∃ (x σ' : Nat → Nat → Int32) (F f' B' : Nat → Int32) (N' : Nat → Nat) (np' kp' : Nat), s_L_fill Ls xs (nI np) (nI kp) (σ 6 0) (σ 7 0) (σ 8 0) (σ 9 0) (σ 0) (σ 1) (σ 2) (σ 3) (σ 4) (σ 5) f20 (nI kp) f23 f24 f25 (τ np 0) (τ np 1) (τ np 2) (τ np 3) (τ np 4) (τ np 5) (nI i) = some (nI np', nI kp', σ' 6 0, σ' 1, nI kp', f', F, B', x 6 0, x 7 0, x 8 0, x 9 0, x 0, x 1, x 2, x 3, x 4, x 5) ∧ RS σ' N' ∧ RM f' N' ∧ Inv N' c ∧ (∀ j, 10 ≤ j → x j = τ np j) ∧ RG (upT τ np x) B' np' kp' c ∧ np' < 7 ∧ kp' ≤ 6 ∧ (∀ j, j ≠ 1 → j ≠ 6 → σ' j = σ j) := by
  have l1 : ∀ {β : Type} (k : Int32 → Option β), ld Ls xs (nI i + 1) k = k (xs (i + 1)) := fun k => ldx (j := 1) (by omega) hLs
  have l2 : ∀ {β : Type} (k : Int32 → Option β), ld Ls xs (nI i + 2) k = k (xs (i + 2)) := fun k => ldx (j := 2) (by omega) hLs
  have l3 : ∀ {β : Type} (k : Int32 → Option β), ld Ls xs (nI i + 3) k = k (xs (i + 3)) := fun k => ldx (j := 3) (by omega) hLs
  obtain ⟨x, F, ek, hx, hx2, eF, hG0, hrec⟩ := kept_b h hf I hG hn hk hq f24
  obtain ⟨r, σ', f', N', ec, em, h', hf', I', hs⟩ := B_fill h hf I (xs (i + 1)) (xs (i + 2)) (xs (i + 3))
  obtain ⟨np', kp', B', n7, k6, er, emr, hG'⟩ := hrec r
  have e4 : s_X4_fill (nI np) (nI kp) (σ 6 0) (σ 7 0) (σ 8 0) (σ 9 0) (σ 0) (σ 1) (σ 2) (σ 3) (σ 4) (σ 5) f20 (τ np 0) (τ np 1) (τ np 2) (τ np 3) (τ np 4) (τ np 5) (xs (i + 1)) (xs (i + 2)) (xs (i + 3)) = some (r, nI np', nI kp', σ' 6 0, σ' 1, x 6 0, x 7 0, x 8 0, x 9 0, x 0, x 1, x 2, x 3, x 4, x 5) := by
    unfold s_X4_fill
    rw [cl_e ek, cl_e ec, cl_e er]
  have e5 : s_X5_fill (nI kp) f23 f24 f25 (xs (i + 1)) (xs (i + 2)) (xs (i + 3)) = some (r, nI kp', f', F, B') := by
    unfold s_X5_fill
    rw [cl_e eF, cl_e em, cl_e emr]
  refine ⟨x, σ', F, f', B', N', np', kp', ?_, h', hf', I', hx2, hG', n7, k6, hs⟩
  unfold s_L_fill
  rw [l1, l2, l3, cl_e e4, l1, l2, l3, cl_e e5]
  dsimp only
  rw [if_pos rfl]
theorem S_thin {σ : Nat → Nat → Int32} {τ : Nat → Nat → Nat → Int32} {f20 : Nat → Option Nat} {f23 f25 : Nat → Int32} {N : Nat → Nat} {np kp c ad : Nat} (h : RS σ N) (hf : RM f23 N) (I : Inv N c) (hG : RG τ f25 np kp c) (hn : np < 7) (hk : kp ≤ 6) (hq : s_X4_studioAt 7 f20 (nI np) = some (some ad)) {Ls i : Nat} {xs : Nat → Int32} (hi : i + 5 ≤ Ls) (hLs : Ls < 2 ^ 31) (f24 : Nat → Int32) : ∃ (x σ' : Nat → Nat → Int32) (F f' B' : Nat → Int32) (N' : Nat → Nat) (np' kp' : Nat), s_L_thin Ls xs (nI np) (nI kp) (σ 6 0) (σ 7 0) (σ 8 0) (σ 9 0) (σ 0) (σ 1) (σ 2) (σ 3) (σ 4) (σ 5) f20 (nI kp) f23 f24 f25 (τ np 0) (τ np 1) (τ np 2) (τ np 3) (τ np 4) (τ np 5) (nI i) = some (nI np', nI kp', σ' 6 0, σ' 1, σ' 2, nI kp', f', F, B', x 6 0, x 7 0, x 8 0, x 9 0, x 0, x 1, x 2, x 3, x 4, x 5) ∧ RS σ' N' ∧ RM f' N' ∧ Inv N' c ∧ (∀ j, 10 ≤ j → x j = τ np j) ∧ RG (upT τ np x) B' np' kp' c ∧ np' < 7 ∧ kp' ≤ 6 ∧ (∀ j, j ≠ 1 → j ≠ 2 → j ≠ 6 → σ' j = σ j) := by
  have l1 : ∀ {β : Type} (k : Int32 → Option β), ld Ls xs (nI i + 1) k = k (xs (i + 1)) := fun k => ldx (j := 1) (by omega) hLs
  obtain ⟨x, F, ek, hx, hx2, eF, hG0, hrec⟩ := kept_b h hf I hG hn hk hq f24
  obtain ⟨r, σ', f', N', ec, em, h', hf', I', hs⟩ := B_thin h hf I (xs (i + 1))
  obtain ⟨np', kp', B', n7, k6, er, emr, hG'⟩ := hrec r
  have e4 : s_X4_thin (nI np) (nI kp) (σ 6 0) (σ 7 0) (σ 8 0) (σ 9 0) (σ 0) (σ 1) (σ 2) (σ 3) (σ 4) (σ 5) f20 (τ np 0) (τ np 1) (τ np 2) (τ np 3) (τ np 4) (τ np 5) (xs (i + 1)) = some (r, nI np', nI kp', σ' 6 0, σ' 1, σ' 2, x 6 0, x 7 0, x 8 0, x 9 0, x 0, x 1, x 2, x 3, x 4, x 5) := by
    unfold s_X4_thin
    rw [cl_e ek, cl_e ec, cl_e er]
  have e5 : s_X5_thin (nI kp) f23 f24 f25 (xs (i + 1)) = some (r, nI kp', f', F, B') := by
    unfold s_X5_thin
    rw [cl_e eF, cl_e em, cl_e emr]
  refine ⟨x, σ', F, f', B', N', np', kp', ?_, h', hf', I', hx2, hG', n7, k6, hs⟩
  unfold s_L_thin
  rw [l1, cl_e e4, l1, cl_e e5]
  dsimp only
  rw [if_pos rfl]
theorem S_pour {σ : Nat → Nat → Int32} {τ : Nat → Nat → Nat → Int32} {f20 : Nat → Option Nat} {f23 f25 : Nat → Int32} {N : Nat → Nat} {np kp c ad : Nat} (h : RS σ N) (hf : RM f23 N) (I : Inv N c) (hG : RG τ f25 np kp c) (hn : np < 7) (hk : kp ≤ 6) (hq : s_X4_studioAt 7 f20 (nI np) = some (some ad)) {Ls i : Nat} {xs : Nat → Int32} (hi : i + 5 ≤ Ls) (hLs : Ls < 2 ^ 31) (f24 f28 : Nat → Int32) : ∃ (x σ' : Nat → Nat → Int32) (F f' B' : Nat → Int32) (tm' : Nat → Int32) (N' : Nat → Nat) (np' kp' : Nat), s_L_pour Ls xs (nI np) (nI kp) (σ 6 0) (σ 7 0) (σ 8 0) (σ 9 0) (σ 0) (σ 1) (σ 2) (σ 3) (σ 4) (σ 5) (σ 10) (σ 11) f20 (nI kp) f23 f24 f25 f28 (τ np 0) (τ np 1) (τ np 2) (τ np 3) (τ np 4) (τ np 5) (nI i) = some (nI np', nI kp', σ' 1, σ' 10, σ' 11, nI kp', f', F, B', tm', x 6 0, x 7 0, x 8 0, x 9 0, x 0, x 1, x 2, x 3, x 4, x 5) ∧ RS σ' N' ∧ RM f' N' ∧ Inv N' c ∧ (∀ j, 10 ≤ j → x j = τ np j) ∧ RG (upT τ np x) B' np' kp' c ∧ np' < 7 ∧ kp' ≤ 6 ∧ (∀ j, j ≠ 1 → j ≠ 10 → j ≠ 11 → σ' j = σ j) := by
  have l1 : ∀ {β : Type} (k : Int32 → Option β), ld Ls xs (nI i + 1) k = k (xs (i + 1)) := fun k => ldx (j := 1) (by omega) hLs
  have l2 : ∀ {β : Type} (k : Int32 → Option β), ld Ls xs (nI i + 2) k = k (xs (i + 2)) := fun k => ldx (j := 2) (by omega) hLs
  have l3 : ∀ {β : Type} (k : Int32 → Option β), ld Ls xs (nI i + 3) k = k (xs (i + 3)) := fun k => ldx (j := 3) (by omega) hLs
  obtain ⟨x, F, ek, hx, hx2, eF, hG0, hrec⟩ := kept_b h hf I hG hn hk hq f24
  obtain ⟨r, σ', f', tm', N', ec, em, h', hf', I', hs⟩ := B_pour h hf I f28 (xs (i + 1)) (xs (i + 2)) (xs (i + 3))
  obtain ⟨np', kp', B', n7, k6, er, emr, hG'⟩ := hrec r
  have e4 : s_X4_pour (nI np) (nI kp) (σ 6 0) (σ 7 0) (σ 8 0) (σ 9 0) (σ 0) (σ 1) (σ 2) (σ 3) (σ 4) (σ 5) (σ 10) (σ 11) f20 (τ np 0) (τ np 1) (τ np 2) (τ np 3) (τ np 4) (τ np 5) (xs (i + 1)) (xs (i + 2)) (xs (i + 3)) = some (r, nI np', nI kp', σ' 1, σ' 10, σ' 11, x 6 0, x 7 0, x 8 0, x 9 0, x 0, x 1, x 2, x 3, x 4, x 5) := by
    unfold s_X4_pour
    rw [cl_e ek, cl_e ec, cl_e er]
  have e5 : s_X5_pour (nI kp) f23 f24 f25 f28 (xs (i + 1)) (xs (i + 2)) (xs (i + 3)) = some (r, nI kp', f', F, B', tm') := by
    unfold s_X5_pour
    rw [cl_e eF, cl_e em, cl_e emr]
  refine ⟨x, σ', F, f', B', tm', N', np', kp', ?_, h', hf', I', hx2, hG', n7, k6, hs⟩
  unfold s_L_pour
  rw [l1, l2, l3, cl_e e4, l1, l2, l3, cl_e e5]
  dsimp only
  rw [if_pos rfl]
theorem S_dip {σ : Nat → Nat → Int32} {τ : Nat → Nat → Nat → Int32} {f20 : Nat → Option Nat} {f23 f25 : Nat → Int32} {N : Nat → Nat} {np kp c ad : Nat} (h : RS σ N) (hf : RM f23 N) (I : Inv N c) (hG : RG τ f25 np kp c) (hn : np < 7) (hk : kp ≤ 6) (hq : s_X4_studioAt 7 f20 (nI np) = some (some ad)) {Ls i : Nat} {xs : Nat → Int32} (hi : i + 5 ≤ Ls) (hLs : Ls < 2 ^ 31) (f24 f28 : Nat → Int32) : ∃ (x σ' : Nat → Nat → Int32) (F f' B' : Nat → Int32) (tm' : Nat → Int32) (N' : Nat → Nat) (np' kp' : Nat), s_L_dip Ls xs (nI np) (nI kp) (σ 6 0) (σ 7 0) (σ 8 0) (σ 9 0) (σ 0) (σ 1) (σ 2) (σ 3) (σ 4) (σ 5) (σ 10) (σ 11) f20 (nI kp) f23 f24 f25 f28 (τ np 0) (τ np 1) (τ np 2) (τ np 3) (τ np 4) (τ np 5) (nI i) = some (nI np', nI kp', σ' 1, σ' 10, σ' 11, nI kp', f', F, B', tm', x 6 0, x 7 0, x 8 0, x 9 0, x 0, x 1, x 2, x 3, x 4, x 5) ∧ RS σ' N' ∧ RM f' N' ∧ Inv N' c ∧ (∀ j, 10 ≤ j → x j = τ np j) ∧ RG (upT τ np x) B' np' kp' c ∧ np' < 7 ∧ kp' ≤ 6 ∧ (∀ j, j ≠ 1 → j ≠ 10 → j ≠ 11 → σ' j = σ j) := by
  have l1 : ∀ {β : Type} (k : Int32 → Option β), ld Ls xs (nI i + 1) k = k (xs (i + 1)) := fun k => ldx (j := 1) (by omega) hLs
  have l2 : ∀ {β : Type} (k : Int32 → Option β), ld Ls xs (nI i + 2) k = k (xs (i + 2)) := fun k => ldx (j := 2) (by omega) hLs
  obtain ⟨x, F, ek, hx, hx2, eF, hG0, hrec⟩ := kept_b h hf I hG hn hk hq f24
  obtain ⟨r, σ', f', tm', N', ec, em, h', hf', I', hs⟩ := B_dip h hf I f28 (xs (i + 1)) (xs (i + 2))
  obtain ⟨np', kp', B', n7, k6, er, emr, hG'⟩ := hrec r
  have e4 : s_X4_dip (nI np) (nI kp) (σ 6 0) (σ 7 0) (σ 8 0) (σ 9 0) (σ 0) (σ 1) (σ 2) (σ 3) (σ 4) (σ 5) (σ 10) (σ 11) f20 (τ np 0) (τ np 1) (τ np 2) (τ np 3) (τ np 4) (τ np 5) (xs (i + 1)) (xs (i + 2)) = some (r, nI np', nI kp', σ' 1, σ' 10, σ' 11, x 6 0, x 7 0, x 8 0, x 9 0, x 0, x 1, x 2, x 3, x 4, x 5) := by
    unfold s_X4_dip
    rw [cl_e ek, cl_e ec, cl_e er]
  have e5 : s_X5_dip (nI kp) f23 f24 f25 f28 (xs (i + 1)) (xs (i + 2)) = some (r, nI kp', f', F, B', tm') := by
    unfold s_X5_dip
    rw [cl_e eF, cl_e em, cl_e emr]
  refine ⟨x, σ', F, f', B', tm', N', np', kp', ?_, h', hf', I', hx2, hG', n7, k6, hs⟩
  unfold s_L_dip
  rw [l1, l2, cl_e e4, l1, l2, cl_e e5]
  dsimp only
  rw [if_pos rfl]
theorem S_paint {σ : Nat → Nat → Int32} {τ : Nat → Nat → Nat → Int32} {f20 : Nat → Option Nat} {f23 f25 : Nat → Int32} {N : Nat → Nat} {np kp c ad : Nat} (h : RS σ N) (hf : RM f23 N) (I : Inv N c) (hG : RG τ f25 np kp c) (hn : np < 7) (hk : kp ≤ 6) (hq : s_X4_studioAt 7 f20 (nI np) = some (some ad)) {Ls i : Nat} {xs : Nat → Int32} (hi : i + 5 ≤ Ls) (hLs : Ls < 2 ^ 31) (f24 f28 f29 : Nat → Int32) : ∃ (x σ' : Nat → Nat → Int32) (F f' B' : Nat → Int32) (tm' gm' : Nat → Int32) (N' : Nat → Nat) (np' kp' : Nat), s_L_paint Ls xs (nI np) (nI kp) (σ 6 0) (σ 7 0) (σ 8 0) (σ 9 0) (σ 0) (σ 1) (σ 2) (σ 3) (σ 4) (σ 5) (σ 10) (σ 11) f20 (nI kp) f23 f24 f25 f28 f29 (τ np 0) (τ np 1) (τ np 2) (τ np 3) (τ np 4) (τ np 5) (nI i) = some (nI np', nI kp', σ' 7 0, σ' 1, σ' 4, σ' 5, σ' 10, σ' 11, nI kp', f', F, B', tm', gm', x 6 0, x 7 0, x 8 0, x 9 0, x 0, x 1, x 2, x 3, x 4, x 5) ∧ RS σ' N' ∧ RM f' N' ∧ Inv N' (c + 1) ∧ (∀ j, 10 ≤ j → x j = τ np j) ∧ RG (upT τ np x) B' np' kp' c ∧ np' < 7 ∧ kp' ≤ 6 ∧ (∀ j, j ≠ 1 → j ≠ 4 → j ≠ 5 → j ≠ 7 → j ≠ 10 → j ≠ 11 → σ' j = σ j) := by
  have l1 : ∀ {β : Type} (k : Int32 → Option β), ld Ls xs (nI i + 1) k = k (xs (i + 1)) := fun k => ldx (j := 1) (by omega) hLs
  obtain ⟨x, F, ek, hx, hx2, eF, hG0, hrec⟩ := kept_b h hf I hG hn hk hq f24
  obtain ⟨r, σ', f', tm', gm', N', ec, em, h', hf', I', hs⟩ := B_paint h hf I f28 f29 (xs (i + 1))
  obtain ⟨np', kp', B', n7, k6, er, emr, hG'⟩ := hrec r
  have e4 : s_X4_paint (nI np) (nI kp) (σ 6 0) (σ 7 0) (σ 8 0) (σ 9 0) (σ 0) (σ 1) (σ 2) (σ 3) (σ 4) (σ 5) (σ 10) (σ 11) f20 (τ np 0) (τ np 1) (τ np 2) (τ np 3) (τ np 4) (τ np 5) (xs (i + 1)) = some (r, nI np', nI kp', σ' 7 0, σ' 1, σ' 4, σ' 5, σ' 10, σ' 11, x 6 0, x 7 0, x 8 0, x 9 0, x 0, x 1, x 2, x 3, x 4, x 5) := by
    unfold s_X4_paint
    rw [cl_e ek, cl_e ec, cl_e er]
  have e5 : s_X5_paint (nI kp) f23 f24 f25 f28 f29 (xs (i + 1)) = some (r, nI kp', f', F, B', tm', gm') := by
    unfold s_X5_paint
    rw [cl_e eF, cl_e em, cl_e emr]
  refine ⟨x, σ', F, f', B', tm', gm', N', np', kp', ?_, h', hf', I', hx2, hG', n7, k6, hs⟩
  unfold s_L_paint
  rw [l1, cl_e e4, l1, cl_e e5]
  dsimp only
  rw [if_pos rfl]
theorem S_rinse {σ : Nat → Nat → Int32} {τ : Nat → Nat → Nat → Int32} {f20 : Nat → Option Nat} {f23 f25 : Nat → Int32} {N : Nat → Nat} {np kp c ad : Nat} (h : RS σ N) (hf : RM f23 N) (I : Inv N c) (hG : RG τ f25 np kp c) (hn : np < 7) (hk : kp ≤ 6) (hq : s_X4_studioAt 7 f20 (nI np) = some (some ad)) (Ls i : Nat) (xs : Nat → Int32) (f24 : Nat → Int32) : ∃ (x σ' : Nat → Nat → Int32) (F f' B' : Nat → Int32) (N' : Nat → Nat) (np' kp' : Nat), s_L_rinse Ls xs (nI np) (nI kp) (σ 6 0) (σ 7 0) (σ 8 0) (σ 9 0) (σ 0) (σ 1) (σ 2) (σ 3) (σ 4) (σ 5) f20 (nI kp) f23 f24 f25 (τ np 0) (τ np 1) (τ np 2) (τ np 3) (τ np 4) (τ np 5) = some (nI np', nI kp', σ' 8 0, σ' 9 0, σ' 1, nI kp', f', F, B', x 6 0, x 7 0, x 8 0, x 9 0, x 0, x 1, x 2, x 3, x 4, x 5) ∧ RS σ' N' ∧ RM f' N' ∧ Inv N' c ∧ (∀ j, 10 ≤ j → x j = τ np j) ∧ RG (upT τ np x) B' np' kp' c ∧ np' < 7 ∧ kp' ≤ 6 ∧ (∀ j, j ≠ 1 → j ≠ 8 → j ≠ 9 → σ' j = σ j) := by
  obtain ⟨x, F, ek, hx, hx2, eF, hG0, hrec⟩ := kept_b h hf I hG hn hk hq f24
  obtain ⟨r, σ', f', N', ec, em, -, h', hf', I', hs⟩ := B_rinse h hf I
  obtain ⟨np', kp', B', n7, k6, er, emr, hG'⟩ := hrec r
  have e4 : s_X4_rinse (nI np) (nI kp) (σ 6 0) (σ 7 0) (σ 8 0) (σ 9 0) (σ 0) (σ 1) (σ 2) (σ 3) (σ 4) (σ 5) f20 (τ np 0) (τ np 1) (τ np 2) (τ np 3) (τ np 4) (τ np 5) = some (r, nI np', nI kp', σ' 8 0, σ' 9 0, σ' 1, x 6 0, x 7 0, x 8 0, x 9 0, x 0, x 1, x 2, x 3, x 4, x 5) := by
    unfold s_X4_rinse
    rw [cl_e ek, cl_e ec, cl_e er]
  have e5 : s_X5_rinse (nI kp) f23 f24 f25 = some (r, nI kp', f', F, B') := by
    unfold s_X5_rinse
    rw [cl_e eF, cl_e em, cl_e emr]
  refine ⟨x, σ', F, f', B', N', np', kp', ?_, h', hf', I', hx2, hG', n7, k6, hs⟩
  unfold s_L_rinse
  rw [cl_e e4, cl_e e5]
  dsimp only
  rw [if_pos rfl]
theorem S_set {σ : Nat → Nat → Int32} {τ : Nat → Nat → Nat → Int32} {f20 : Nat → Option Nat} {f23 f25 : Nat → Int32} {N : Nat → Nat} {np kp c ad : Nat} (h : RS σ N) (hf : RM f23 N) (I : Inv N c) (hG : RG τ f25 np kp c) (hn : np < 7) (hk : kp ≤ 6) (hq : s_X4_studioAt 7 f20 (nI np) = some (some ad)) {Ls i : Nat} {xs : Nat → Int32} (hi : i + 5 ≤ Ls) (hLs : Ls < 2 ^ 31) (f24 : Nat → Int32) : ∃ (x σ' : Nat → Nat → Int32) (F f' B' : Nat → Int32) (N' : Nat → Nat) (np' kp' : Nat), s_L_set Ls xs (nI np) (nI kp) (σ 6 0) (σ 7 0) (σ 8 0) (σ 9 0) (σ 0) (σ 1) (σ 2) (σ 3) (σ 4) (σ 5) f20 (nI kp) f23 f24 f25 (τ np 0) (τ np 1) (τ np 2) (τ np 3) (τ np 4) (τ np 5) (nI i) = some (nI np', nI kp', σ' 0, nI kp', f', F, B', x 6 0, x 7 0, x 8 0, x 9 0, x 0, x 1, x 2, x 3, x 4, x 5) ∧ RS σ' N' ∧ RM f' N' ∧ Inv N' c ∧ (∀ j, 10 ≤ j → x j = τ np j) ∧ RG (upT τ np x) B' np' kp' c ∧ np' < 7 ∧ kp' ≤ 6 ∧ (∀ j, j ≠ 0 → σ' j = σ j) := by
  have l1 : ∀ {β : Type} (k : Int32 → Option β), ld Ls xs (nI i + 1) k = k (xs (i + 1)) := fun k => ldx (j := 1) (by omega) hLs
  have l2 : ∀ {β : Type} (k : Int32 → Option β), ld Ls xs (nI i + 2) k = k (xs (i + 2)) := fun k => ldx (j := 2) (by omega) hLs
  obtain ⟨x, F, ek, hx, hx2, eF, hG0, hrec⟩ := kept_b h hf I hG hn hk hq f24
  rcases B_set h hf I (xs (i + 1)) (xs (i + 2)) (nI kp) f24 f25 with ⟨e, he, ec, em⟩ | ⟨r, σ', f', N', hr, ec, em, h', hf', I', hs⟩
  · have e4 : s_X4_set (nI np) (nI kp) (σ 6 0) (σ 7 0) (σ 8 0) (σ 9 0) (σ 0) (σ 1) (σ 2) (σ 3) (σ 4) (σ 5) f20 (τ np 0) (τ np 1) (τ np 2) (τ np 3) (τ np 4) (τ np 5) (xs (i + 1)) (xs (i + 2)) = some (e, nI np, nI kp, σ 0, x 6 0, x 7 0, x 8 0, x 9 0, x 0, x 1, x 2, x 3, x 4, x 5) := by
      unfold s_X4_set
      rw [cl_e ek, cl_e ec, cl_e (cRecN he)]
    have e5 : s_X5_set (nI kp) f23 f24 f25 (xs (i + 1)) (xs (i + 2)) = some (e, nI kp, f23, f24, f25) := em
    refine ⟨x, σ, f24, f23, f25, N, np, kp, ?_, h, hf, I, hx2, hG0, hn, hk, fun _ _ => rfl⟩
    unfold s_L_set
    rw [l1, l2, cl_e e4, l1, l2, cl_e e5]
    dsimp only
    rw [if_pos rfl]
  · obtain ⟨np', kp', B', n7, k6, er, emr, hG'⟩ := hrec r
    have e4 : s_X4_set (nI np) (nI kp) (σ 6 0) (σ 7 0) (σ 8 0) (σ 9 0) (σ 0) (σ 1) (σ 2) (σ 3) (σ 4) (σ 5) f20 (τ np 0) (τ np 1) (τ np 2) (τ np 3) (τ np 4) (τ np 5) (xs (i + 1)) (xs (i + 2)) = some (r, nI np', nI kp', σ' 0, x 6 0, x 7 0, x 8 0, x 9 0, x 0, x 1, x 2, x 3, x 4, x 5) := by
      unfold s_X4_set
      rw [cl_e ek, cl_e ec, cl_e er]
    have e5 : s_X5_set (nI kp) f23 f24 f25 (xs (i + 1)) (xs (i + 2)) = some (r, nI kp', f', F, B') := em _ _ _ _ eF emr
    refine ⟨x, σ', F, f', B', N', np', kp', ?_, h', hf', I', hx2, hG', n7, k6, hs⟩
    unfold s_L_set
    rw [l1, l2, cl_e e4, l1, l2, cl_e e5]
    dsimp only
    rw [if_pos rfl]
theorem S_want {σ : Nat → Nat → Int32} {τ : Nat → Nat → Nat → Int32} {f20 : Nat → Option Nat} {f23 f25 : Nat → Int32} {N : Nat → Nat} {np kp c ad : Nat} (h : RS σ N) (hf : RM f23 N) (I : Inv N c) (hG : RG τ f25 np kp c) (hn : np < 7) (hk : kp ≤ 6) (hq : s_X4_studioAt 7 f20 (nI np) = some (some ad)) (hc : c < 2 ^ 30) {Ls i : Nat} {xs : Nat → Int32} (hi : i + 5 ≤ Ls) (hLs : Ls < 2 ^ 31) (f24 f29 : Nat → Int32) : ∃ (x σ' : Nat → Nat → Int32) (F f' B' : Nat → Int32) (g' : Nat → Int32) (N' : Nat → Nat) (np' kp' : Nat), s_L_want Ls xs (nI np) (nI kp) (σ 6 0) (σ 7 0) (σ 8 0) (σ 9 0) (σ 0) (σ 1) (σ 2) (σ 3) (σ 4) (σ 5) f20 (nI kp) f23 f24 f25 f29 (τ np 0) (τ np 1) (τ np 2) (τ np 3) (τ np 4) (τ np 5) (nI i) = some (nI np', nI kp', σ' 3, nI kp', f', F, B', g', x 6 0, x 7 0, x 8 0, x 9 0, x 0, x 1, x 2, x 3, x 4, x 5) ∧ RS σ' N' ∧ RM f' N' ∧ Inv N' c ∧ (∀ j, 10 ≤ j → x j = τ np j) ∧ RG (upT τ np x) B' np' kp' c ∧ np' < 7 ∧ kp' ≤ 6 ∧ (∀ j, j ≠ 3 → σ' j = σ j) := by
  have l1 : ∀ {β : Type} (k : Int32 → Option β), ld Ls xs (nI i + 1) k = k (xs (i + 1)) := fun k => ldx (j := 1) (by omega) hLs
  have l2 : ∀ {β : Type} (k : Int32 → Option β), ld Ls xs (nI i + 2) k = k (xs (i + 2)) := fun k => ldx (j := 2) (by omega) hLs
  have l3 : ∀ {β : Type} (k : Int32 → Option β), ld Ls xs (nI i + 3) k = k (xs (i + 3)) := fun k => ldx (j := 3) (by omega) hLs
  have l4 : ∀ {β : Type} (k : Int32 → Option β), ld Ls xs (nI i + 4) k = k (xs (i + 4)) := fun k => ldx (j := 4) (by omega) hLs
  obtain ⟨x, F, ek, hx, hx2, eF, hG0, hrec⟩ := kept_b h hf I hG hn hk hq f24
  rcases B_want h hf I hc (xs (i + 1)) (xs (i + 2)) (xs (i + 3)) (xs (i + 4)) (nI kp) f24 f25 f29 with ⟨e, he, ec, em⟩ | ⟨r, σ', f', g', N', hr, ec, em, h', hf', I', hs⟩
  · have e4 : s_X4_want (nI np) (nI kp) (σ 6 0) (σ 7 0) (σ 8 0) (σ 9 0) (σ 0) (σ 1) (σ 2) (σ 3) (σ 4) (σ 5) f20 (τ np 0) (τ np 1) (τ np 2) (τ np 3) (τ np 4) (τ np 5) (xs (i + 1)) (xs (i + 2)) (xs (i + 3)) (xs (i + 4)) = some (e, nI np, nI kp, σ 3, x 6 0, x 7 0, x 8 0, x 9 0, x 0, x 1, x 2, x 3, x 4, x 5) := by
      unfold s_X4_want
      rw [cl_e ek, cl_e ec, cl_e (cRecN he)]
    have e5 : s_X5_want (nI kp) f23 f24 f25 f29 (xs (i + 1)) (xs (i + 2)) (xs (i + 3)) (xs (i + 4)) = some (e, nI kp, f23, f24, f25, f29) := em
    refine ⟨x, σ, f24, f23, f25, f29, N, np, kp, ?_, h, hf, I, hx2, hG0, hn, hk, fun _ _ => rfl⟩
    unfold s_L_want
    rw [l1, l2, l3, l4, cl_e e4, l1, l2, l3, l4, cl_e e5]
    dsimp only
    rw [if_pos rfl]
  · obtain ⟨np', kp', B', n7, k6, er, emr, hG'⟩ := hrec r
    have e4 : s_X4_want (nI np) (nI kp) (σ 6 0) (σ 7 0) (σ 8 0) (σ 9 0) (σ 0) (σ 1) (σ 2) (σ 3) (σ 4) (σ 5) f20 (τ np 0) (τ np 1) (τ np 2) (τ np 3) (τ np 4) (τ np 5) (xs (i + 1)) (xs (i + 2)) (xs (i + 3)) (xs (i + 4)) = some (r, nI np', nI kp', σ' 3, x 6 0, x 7 0, x 8 0, x 9 0, x 0, x 1, x 2, x 3, x 4, x 5) := by
      unfold s_X4_want
      rw [cl_e ek, cl_e ec, cl_e er]
    have e5 : s_X5_want (nI kp) f23 f24 f25 f29 (xs (i + 1)) (xs (i + 2)) (xs (i + 3)) (xs (i + 4)) = some (r, nI kp', f', F, B', g') := em _ _ _ _ eF emr
    refine ⟨x, σ', F, f', B', g', N', np', kp', ?_, h', hf', I', hx2, hG', n7, k6, hs⟩
    unfold s_L_want
    rw [l1, l2, l3, l4, cl_e e4, l1, l2, l3, l4, cl_e e5]
    dsimp only
    rw [if_pos rfl]
theorem S_empty {σ : Nat → Nat → Int32} {τ : Nat → Nat → Nat → Int32} {f20 : Nat → Option Nat} {f23 f25 : Nat → Int32} {N : Nat → Nat} {np kp c ad : Nat} (h : RS σ N) (hf : RM f23 N) (I : Inv N c) (hG : RG τ f25 np kp c) (hn : np < 7) (hk : kp ≤ 6) (hq : s_X4_studioAt 7 f20 (nI np) = some (some ad)) {Ls i : Nat} {xs : Nat → Int32} (hi : i + 5 ≤ Ls) (hLs : Ls < 2 ^ 31) (f24 : Nat → Int32) : ∃ (x σ' : Nat → Nat → Int32) (F f' B' : Nat → Int32) (N' : Nat → Nat) (np' kp' : Nat), s_L_empty Ls xs (nI np) (nI kp) (σ 6 0) (σ 7 0) (σ 8 0) (σ 9 0) (σ 0) (σ 1) (σ 2) (σ 3) (σ 4) (σ 5) f20 (nI kp) f23 f24 f25 (τ np 0) (τ np 1) (τ np 2) (τ np 3) (τ np 4) (τ np 5) (nI i) = some (nI np', nI kp', σ' 8 0, σ' 1, nI kp', f', F, B', x 6 0, x 7 0, x 8 0, x 9 0, x 0, x 1, x 2, x 3, x 4, x 5) ∧ RS σ' N' ∧ RM f' N' ∧ Inv N' c ∧ (∀ j, 10 ≤ j → x j = τ np j) ∧ RG (upT τ np x) B' np' kp' c ∧ np' < 7 ∧ kp' ≤ 6 ∧ (∀ j, j ≠ 1 → j ≠ 8 → σ' j = σ j) := by
  have l1 : ∀ {β : Type} (k : Int32 → Option β), ld Ls xs (nI i + 1) k = k (xs (i + 1)) := fun k => ldx (j := 1) (by omega) hLs
  obtain ⟨x, F, ek, hx, hx2, eF, hG0, hrec⟩ := kept_b h hf I hG hn hk hq f24
  rcases B_empty h hf I (xs (i + 1)) with ⟨ec, em⟩ | ⟨r, σ', f', N', ec, em, h', hf', I', hs⟩
  · have he : (-1 : Int32) < 0 := by decide
    have e4 : s_X4_empty (nI np) (nI kp) (σ 6 0) (σ 7 0) (σ 8 0) (σ 9 0) (σ 0) (σ 1) (σ 2) (σ 3) (σ 4) (σ 5) f20 (τ np 0) (τ np 1) (τ np 2) (τ np 3) (τ np 4) (τ np 5) (xs (i + 1)) = some ((-1), nI np, nI kp, σ 8 0, σ 1, x 6 0, x 7 0, x 8 0, x 9 0, x 0, x 1, x 2, x 3, x 4, x 5) := by
      unfold s_X4_empty
      rw [cl_e ek, cl_e ec, cl_e (cRecN he)]
    have e5 : s_X5_empty (nI kp) f23 f24 f25 (xs (i + 1)) = some ((-1), nI kp, f23, f24, f25) := em _ _ _
    refine ⟨x, σ, f24, f23, f25, N, np, kp, ?_, h, hf, I, hx2, hG0, hn, hk, fun _ _ _ => rfl⟩
    unfold s_L_empty
    rw [l1, cl_e e4, l1, cl_e e5]
    dsimp only
    rw [if_pos rfl]
  · obtain ⟨np', kp', B', n7, k6, er, emr, hG'⟩ := hrec r
    have e4 : s_X4_empty (nI np) (nI kp) (σ 6 0) (σ 7 0) (σ 8 0) (σ 9 0) (σ 0) (σ 1) (σ 2) (σ 3) (σ 4) (σ 5) f20 (τ np 0) (τ np 1) (τ np 2) (τ np 3) (τ np 4) (τ np 5) (xs (i + 1)) = some (r, nI np', nI kp', σ' 8 0, σ' 1, x 6 0, x 7 0, x 8 0, x 9 0, x 0, x 1, x 2, x 3, x 4, x 5) := by
      unfold s_X4_empty
      rw [cl_e ek, cl_e ec, cl_e er]
    have e5 : s_X5_empty (nI kp) f23 f24 f25 (xs (i + 1)) = some (r, nI kp', f', F, B') := em _ _ _ _ _ _ eF emr
    refine ⟨x, σ', F, f', B', N', np', kp', ?_, h', hf', I', hx2, hG', n7, k6, hs⟩
    unfold s_L_empty
    rw [l1, cl_e e4, l1, cl_e e5]
    dsimp only
    rw [if_pos rfl]
