-- pure: a panel asked, the state held
theorem B_panel {σ : Nat → Nat → Int32} {f : Nat → Int32} {N : Nat → Nat} {c : Nat} (h : RS σ N) (hf : RM f N) (I : Inv N c) (hc : c < 2 ^ 30) (x y : Int32) (g : Nat → Int32) : ∃ (r : Int32) (g' : Nat → Int32), s_X4_panel (σ 0) (σ 3) (σ 4) (σ 5) x y = some r ∧ s_X5_panel f g x y = some (r, g') := by
  unfold s_X4_panel s_X5_panel s_X2_aboutPanel
  rw [wi6, isPanel_l]
  rcases in_cases x 0 5 with ⟨hx, -⟩ | ⟨hx, x1, x2⟩
  · exact ⟨-1, g, by rw [cl_e hx]; rfl, by rw [cl_e hx]; rfl⟩
  obtain ⟨P, -, hP, rfl⟩ := rng_n (a := 0) (b := 5) (by omega) (by omega) x1 x2
  have hPp : P < 6 := by omega
  have hI := I.2.2.2.2.1 P hPp
  obtain ⟨g', hw, hg⟩ := mWell (g := g) hf I hPp
  have p01 : N (54 + 8 * P) = 0 ∨ N (54 + 8 * P) = 1 := by omega
  have e0 : nI P * 3 = nI (3 * P) := (pk_mul P 3).trans (by rw [Nat.mul_comm])
  have hld : ∀ {β : Type} (k : Int32 → Option β), ld 99 f (nI (51 + 8 * P) + 3) k = k (nI (N (54 + 8 * P))) := fun k => by
    rw [show nI (51 + 8 * P) + 3 = nI (54 + 8 * P) from (nI_add _ 3).trans (by congr 1; omega), ld_n (by omega) (by omega), hf _ (by omega)]
  rw [cl_e hx, if_neg one_ne, cl_e hx, if_neg one_ne, cl_e hw, cl_e (mN P), hld, bt_l]
  rcases in_cases y 0 8 with ⟨hy, hy'⟩ | ⟨hy, y1, y2⟩
  · have hn : ∀ k, k ≤ 8 → ¬ y = nI k := fun k hk q => by
      subst q
      rcases hy' with e | e
      · exact absurd e (nI_pos (by omega))
      · exact absurd (show nI 8 < nI k from e) (nI_nlt (by omega) (by omega))
    refine ⟨-2, g', by rw [cl_e hy, if_pos rfl, cl_s], ?_⟩
    rcases p01 with e | e
    · rw [e, if_neg (show ¬ nI 0 = 1 by decide), if_neg (show ¬ y = 0 from hn 0 (by omega)), if_neg (show ¬ y = 1 from hn 1 (by omega)), if_neg (show ¬ y = 2 from hn 2 (by omega)), if_neg (show ¬ y = 3 from hn 3 (by omega)), if_neg (show ¬ y = 4 from hn 4 (by omega)), if_neg (show ¬ y = 5 from hn 5 (by omega)), if_neg (show ¬ y = 6 from hn 6 (by omega)), if_neg (show ¬ y = 7 from hn 7 (by omega)), if_neg (show ¬ y = 8 from hn 8 (by omega))]
    · rw [e, if_pos (show nI 1 = 1 from rfl), if_neg (show ¬ y = 0 from hn 0 (by omega)), if_neg (show ¬ y = 1 from hn 1 (by omega)), if_neg (show ¬ y = 2 from hn 2 (by omega)), if_neg (show ¬ y = 3 from hn 3 (by omega)), if_neg (show ¬ y = 4 from hn 4 (by omega)), if_neg (show ¬ y = 5 from hn 5 (by omega)), if_neg (show ¬ y = 6 from hn 6 (by omega)), if_neg (show ¬ y = 7 from hn 7 (by omega)), if_neg (show ¬ y = 8 from hn 8 (by omega))]
  obtain ⟨k, -, hk, rfl⟩ := rng_n (a := 0) (b := 8) (by omega) (by omega) y1 y2
  have ne : ∀ a b, a ≤ 8 → b ≤ 8 → a ≠ b → ¬ nI a = nI b := fun a b ha hb hab q => hab ((nI_eq (by omega) (by omega)).mp q)
  have cw := cWell h I hc hPp
  have cp := cIsP I hc h.2.2.2.2.2.1 hPp
  have cd := cDistPanel h.2.2.2.1 h.2.2.2.2.1 hPp (by omega) (by omega) (by omega) (by omega) (by omega) (by omega)
  rw [cl_e hy, if_neg one_ne]
  have row : ∀ i, i < 3 → s_X4_at 18 (σ 3) (nI P * 3 + nI i) = some (nI (N (51 + 8 * P + i))) := fun i hi => by
    rw [e0, nI_add, at_n (by omega) (by omega), h.2.2.2.1 _ (by omega), wm_q hi]
  have look : ∀ i, i < 3 → s_X4_at 18 (σ 4) (nI P * 3 + nI (i + 3) - 3) = some (nI (N (55 + 8 * P + i))) := fun i hi => by
    rw [e0, nI_add, show (3 : Int32) = nI 3 from rfl, pk_sub (by omega), show 3 * P + (i + 3) - 3 = 3 * P + i by omega, at_n (by omega) (by omega), h.2.2.2.2.1 _ (by omega), wm_q hi, show 51 + 8 * P + i + 4 = 55 + 8 * P + i by omega]
  have mrow : ∀ i, i < 3 → ∀ {β : Type} (k : Int32 → Option β), ld 99 f (nI (51 + 8 * P) + nI i) k = k (nI (N (51 + 8 * P + i))) := fun i hi β k => by
    rw [nI_add, ld_n (by omega) (by omega), hf _ (by omega)]
  have mlook : ∀ i, i < 3 → ∀ {β : Type} (k : Int32 → Option β), ld 99 f (nI (51 + 8 * P) + 4 + nI (i + 3) - 3) k = k (nI (N (55 + 8 * P + i))) := fun i hi β k => by
    rw [show nI (51 + 8 * P) + 4 = nI (55 + 8 * P) from (nI_add _ 4).trans (by congr 1; omega), nI_add, show (3 : Int32) = nI 3 from rfl, pk_sub (by omega), show 55 + 8 * P + (i + 3) - 3 = 55 + 8 * P + i by omega, ld_n (by omega) (by omega), hf _ (by omega)]
  have m7 : ∀ {β : Type} (k : Int32 → Option β), ld 99 f (nI (51 + 8 * P) + 7) k = k (nI (N (58 + 8 * P))) := fun k => by
    rw [show nI (51 + 8 * P) + 7 = nI (58 + 8 * P) from (nI_add _ 7).trans (by congr 1; omega), ld_n (by omega) (by omega), hf _ (by omega)]
  have c8 : s_X4_at 6 (σ 5) (nI P) = some (nI (N (58 + 8 * P))) := by rw [at_n hPp (by omega), h.2.2.2.2.2.1 P hPp]
  have md : N (54 + 8 * P) ≠ 0 → s_X5_distance f g' (nI P) = some (nI (dst N P (N (55 + 8 * P)) (N (56 + 8 * P)) (N (57 + 8 * P)))) := fun q => by
    have hb : ∀ k, k < 3 → N (55 + 8 * P + k) < 2 ^ 30 := fun k hk => by
      rcases (show k = 0 ∨ k = 1 ∨ k = 2 by omega) with rfl | rfl | rfl
      · rw [Nat.add_zero]; omega
      · rw [show 55 + 8 * P + 1 = 56 + 8 * P by omega]; omega
      · rw [show 55 + 8 * P + 2 = 57 + 8 * P by omega]; omega
    refine (mDist (v := fun k => N (55 + 8 * P + k)) (hg q) hf hPp hb (by omega) (by omega) (by omega)).trans ?_
    show some (nI (dst N P (N (55 + 8 * P)) (N (55 + 8 * P + 1)) (N (55 + 8 * P + 2)))) = _
    rw [show 55 + 8 * P + 1 = 56 + 8 * P by omega, show 55 + 8 * P + 2 = 57 + 8 * P by omega]
  rcases (show k = 0 ∨ k = 1 ∨ k = 2 ∨ k = 3 ∨ k = 4 ∨ k = 5 ∨ k = 6 ∨ k = 7 ∨ k = 8 by omega) with rfl | rfl | rfl | rfl | rfl | rfl | rfl | rfl | rfl
  · refine ⟨nI (N (51 + 8 * P + 0)), g', ?_, ?_⟩
    · rw [if_neg (show ¬ (3 : Int32) ≤ nI 0 by decide), cl_e (row 0 (by omega)), cl_s]
    · rcases p01 with e | e
      · rw [e, if_neg (show ¬ nI 0 = 1 by decide), if_pos (show nI 0 = 0 from rfl), cl_e (mN P), mrow 0 (by omega)]
      · rw [e, if_pos (show nI 1 = 1 from rfl), if_pos (show nI 0 = 0 from rfl), cl_e (mN P), mrow 0 (by omega)]
  · refine ⟨nI (N (51 + 8 * P + 1)), g', ?_, ?_⟩
    · rw [if_neg (show ¬ (3 : Int32) ≤ nI 1 by decide), cl_e (row 1 (by omega)), cl_s]
    · rcases p01 with e | e
      · rw [e, if_neg (show ¬ nI 0 = 1 by decide), if_neg (show ¬ nI 1 = 0 by decide), if_pos (show nI 1 = 1 from rfl), cl_e (mN P), mrow 1 (by omega)]
      · rw [e, if_pos (show nI 1 = 1 from rfl), if_neg (show ¬ nI 1 = 0 by decide), if_pos (show nI 1 = 1 from rfl), cl_e (mN P), mrow 1 (by omega)]
  · refine ⟨nI (N (51 + 8 * P + 2)), g', ?_, ?_⟩
    · rw [if_neg (show ¬ (3 : Int32) ≤ nI 2 by decide), cl_e (row 2 (by omega)), cl_s]
    · rcases p01 with e | e
      · rw [e, if_neg (show ¬ nI 0 = 1 by decide), if_neg (show ¬ nI 2 = 0 by decide), if_neg (show ¬ nI 2 = 1 by decide), if_pos (show nI 2 = 2 from rfl), cl_e (mN P), mrow 2 (by omega)]
      · rw [e, if_pos (show nI 1 = 1 from rfl), if_neg (show ¬ nI 2 = 0 by decide), if_neg (show ¬ nI 2 = 1 by decide), if_pos (show nI 2 = 2 from rfl), cl_e (mN P), mrow 2 (by omega)]
  · rcases p01 with e | e
    · refine ⟨-6, g', ?_, ?_⟩
      · rw [if_pos (show (3 : Int32) ≤ nI 3 by decide), if_neg (show ¬ nI 3 = 7 by decide), if_neg (show ¬ nI 3 = 8 by decide), cl_e cp, show pt N P = 0 from if_pos e, if_pos nI_0, cl_s]
      · rw [e, if_neg (show ¬ nI 0 = 1 by decide), if_neg (show ¬ nI 3 = 0 by decide), if_neg (show ¬ nI 3 = 1 by decide), if_neg (show ¬ nI 3 = 2 by decide), if_pos (show nI 3 = 3 from rfl)]
    · refine ⟨nI (N (55 + 8 * P + 0)), g', ?_, ?_⟩
      · rw [if_pos (show (3 : Int32) ≤ nI 3 by decide), if_neg (show ¬ nI 3 = 7 by decide), if_neg (show ¬ nI 3 = 8 by decide), cl_e cp, show pt N P = 1 from if_neg (by omega), if_neg (show ¬ nI 1 = 0 from one_ne), if_neg (show ¬ nI 3 = 6 by decide), cl_e (look 0 (by omega)), cl_s]
      · rw [e, if_pos (show nI 1 = 1 from rfl), if_neg (show ¬ nI 3 = 0 by decide), if_neg (show ¬ nI 3 = 1 by decide), if_neg (show ¬ nI 3 = 2 by decide), if_pos (show nI 3 = 3 from rfl), cl_e (mN P), mlook 0 (by omega)]
  · rcases p01 with e | e
    · refine ⟨-6, g', ?_, ?_⟩
      · rw [if_pos (show (3 : Int32) ≤ nI 4 by decide), if_neg (show ¬ nI 4 = 7 by decide), if_neg (show ¬ nI 4 = 8 by decide), cl_e cp, show pt N P = 0 from if_pos e, if_pos nI_0, cl_s]
      · rw [e, if_neg (show ¬ nI 0 = 1 by decide), if_neg (show ¬ nI 4 = 0 by decide), if_neg (show ¬ nI 4 = 1 by decide), if_neg (show ¬ nI 4 = 2 by decide), if_neg (show ¬ nI 4 = 3 by decide), if_pos (show nI 4 = 4 from rfl)]
    · refine ⟨nI (N (55 + 8 * P + 1)), g', ?_, ?_⟩
      · rw [if_pos (show (3 : Int32) ≤ nI 4 by decide), if_neg (show ¬ nI 4 = 7 by decide), if_neg (show ¬ nI 4 = 8 by decide), cl_e cp, show pt N P = 1 from if_neg (by omega), if_neg (show ¬ nI 1 = 0 from one_ne), if_neg (show ¬ nI 4 = 6 by decide), cl_e (look 1 (by omega)), cl_s]
      · rw [e, if_pos (show nI 1 = 1 from rfl), if_neg (show ¬ nI 4 = 0 by decide), if_neg (show ¬ nI 4 = 1 by decide), if_neg (show ¬ nI 4 = 2 by decide), if_neg (show ¬ nI 4 = 3 by decide), if_pos (show nI 4 = 4 from rfl), cl_e (mN P), mlook 1 (by omega)]
  · rcases p01 with e | e
    · refine ⟨-6, g', ?_, ?_⟩
      · rw [if_pos (show (3 : Int32) ≤ nI 5 by decide), if_neg (show ¬ nI 5 = 7 by decide), if_neg (show ¬ nI 5 = 8 by decide), cl_e cp, show pt N P = 0 from if_pos e, if_pos nI_0, cl_s]
      · rw [e, if_neg (show ¬ nI 0 = 1 by decide), if_neg (show ¬ nI 5 = 0 by decide), if_neg (show ¬ nI 5 = 1 by decide), if_neg (show ¬ nI 5 = 2 by decide), if_neg (show ¬ nI 5 = 3 by decide), if_neg (show ¬ nI 5 = 4 by decide), if_pos (show nI 5 = 5 from rfl)]
    · refine ⟨nI (N (55 + 8 * P + 2)), g', ?_, ?_⟩
      · rw [if_pos (show (3 : Int32) ≤ nI 5 by decide), if_neg (show ¬ nI 5 = 7 by decide), if_neg (show ¬ nI 5 = 8 by decide), cl_e cp, show pt N P = 1 from if_neg (by omega), if_neg (show ¬ nI 1 = 0 from one_ne), if_neg (show ¬ nI 5 = 6 by decide), cl_e (look 2 (by omega)), cl_s]
      · rw [e, if_pos (show nI 1 = 1 from rfl), if_neg (show ¬ nI 5 = 0 by decide), if_neg (show ¬ nI 5 = 1 by decide), if_neg (show ¬ nI 5 = 2 by decide), if_neg (show ¬ nI 5 = 3 by decide), if_neg (show ¬ nI 5 = 4 by decide), if_pos (show nI 5 = 5 from rfl), cl_e (mN P), mlook 2 (by omega)]
  · rcases p01 with e | e
    · refine ⟨-6, g', ?_, ?_⟩
      · rw [if_pos (show (3 : Int32) ≤ nI 6 by decide), if_neg (show ¬ nI 6 = 7 by decide), if_neg (show ¬ nI 6 = 8 by decide), cl_e cp, show pt N P = 0 from if_pos e, if_pos nI_0, cl_s]
      · rw [e, if_neg (show ¬ nI 0 = 1 by decide), if_neg (show ¬ nI 6 = 0 by decide), if_neg (show ¬ nI 6 = 1 by decide), if_neg (show ¬ nI 6 = 2 by decide), if_neg (show ¬ nI 6 = 3 by decide), if_neg (show ¬ nI 6 = 4 by decide), if_neg (show ¬ nI 6 = 5 by decide), if_pos (show nI 6 = 6 from rfl)]
    · refine ⟨nI (dst N P (N (55 + 8 * P)) (N (56 + 8 * P)) (N (57 + 8 * P))), g', ?_, ?_⟩
      · rw [if_pos (show (3 : Int32) ≤ nI 6 by decide), if_neg (show ¬ nI 6 = 7 by decide), if_neg (show ¬ nI 6 = 8 by decide), cl_e cp, show pt N P = 1 from if_neg (by omega), if_neg (show ¬ nI 1 = 0 from one_ne), if_pos (show nI 6 = 6 from rfl), cl_e cd, cl_s]
      · rw [e, if_pos (show nI 1 = 1 from rfl), if_neg (show ¬ nI 6 = 0 by decide), if_neg (show ¬ nI 6 = 1 by decide), if_neg (show ¬ nI 6 = 2 by decide), if_neg (show ¬ nI 6 = 3 by decide), if_neg (show ¬ nI 6 = 4 by decide), if_neg (show ¬ nI 6 = 5 by decide), if_pos (show nI 6 = 6 from rfl)]
        dsimp only
        rw [cl_e (md (by omega))]
  · refine ⟨nI (wl N P), g', ?_, ?_⟩
    · rw [if_pos (show (3 : Int32) ≤ nI 7 by decide), if_pos (show nI 7 = 7 from rfl), cl_e cw]
      rcases wl_01 N P with e | e
      · rw [e]; rfl
      · rw [e]; rfl
    · rcases p01 with e | e
      · rw [e, if_neg (show ¬ nI 0 = 1 by decide), if_neg (show ¬ nI 7 = 0 by decide), if_neg (show ¬ nI 7 = 1 by decide), if_neg (show ¬ nI 7 = 2 by decide), if_neg (show ¬ nI 7 = 3 by decide), if_neg (show ¬ nI 7 = 4 by decide), if_neg (show ¬ nI 7 = 5 by decide), if_neg (show ¬ nI 7 = 6 by decide), if_pos (show nI 7 = 7 from rfl)]
        rcases wl_01 N P with e | e
        · rw [e]; rfl
        · rw [e]; rfl
      · rw [e, if_pos (show nI 1 = 1 from rfl), if_neg (show ¬ nI 7 = 0 by decide), if_neg (show ¬ nI 7 = 1 by decide), if_neg (show ¬ nI 7 = 2 by decide), if_neg (show ¬ nI 7 = 3 by decide), if_neg (show ¬ nI 7 = 4 by decide), if_neg (show ¬ nI 7 = 5 by decide), if_neg (show ¬ nI 7 = 6 by decide), if_pos (show nI 7 = 7 from rfl)]
        rcases wl_01 N P with e | e
        · rw [e]; rfl
        · rw [e]; rfl
  · refine ⟨nI (N (58 + 8 * P)), g', ?_, ?_⟩
    · rw [if_pos (show (3 : Int32) ≤ nI 8 by decide), if_neg (show ¬ nI 8 = 7 by decide), if_pos (show nI 8 = 8 from rfl), cl_e c8, cl_s]
    · rcases p01 with e | e
      · rw [e, if_neg (show ¬ nI 0 = 1 by decide), if_neg (show ¬ nI 8 = 0 by decide), if_neg (show ¬ nI 8 = 1 by decide), if_neg (show ¬ nI 8 = 2 by decide), if_neg (show ¬ nI 8 = 3 by decide), if_neg (show ¬ nI 8 = 4 by decide), if_neg (show ¬ nI 8 = 5 by decide), if_neg (show ¬ nI 8 = 6 by decide), if_neg (show ¬ nI 8 = 7 by decide), if_pos (show nI 8 = 8 from rfl), cl_e (mN P), m7]
      · rw [e, if_pos (show nI 1 = 1 from rfl), if_neg (show ¬ nI 8 = 0 by decide), if_neg (show ¬ nI 8 = 1 by decide), if_neg (show ¬ nI 8 = 2 by decide), if_neg (show ¬ nI 8 = 3 by decide), if_neg (show ¬ nI 8 = 4 by decide), if_neg (show ¬ nI 8 = 5 by decide), if_neg (show ¬ nI 8 = 6 by decide), if_neg (show ¬ nI 8 = 7 by decide), if_pos (show nI 8 = 8 from rfl), cl_e (mN P), m7]
