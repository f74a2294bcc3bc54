-- pure: one work of a run, done by both sides
theorem zck01 {β : Type} {x : Int32} {o : Option β} (h : x = 0 ∨ x = 1) : zck x o = o := if_pos h
theorem did_l {g1 : Int32} {f3 R : Nat → Int32} {w c : Nat} {tm gm : Nat → Int32} (hw : w ≤ 31) (h1 : g1 = R (6 * w + 1)) (h3 : ∀ k, k < 4 → f3 k = R (6 * w + 2 + k)) (fu fm : Nat) : ∀ (n k : Nat) (a : Int32) (σ : Nat → Nat → Int32) (f : Nat → Int32) (N : Nat → Nat), k + n = 4 → (a = 0 ∨ a = 1) → RS σ N → RM f N → Inv N c → ∃ (a' : Int32) (σ' : Nat → Nat → Int32) (f' : Nat → Int32) (N' : Nat → Nat), (a' = 0 ∨ a' = 1) ∧ s_X4_didFill_L1 f3 g1 s_X4_didFill_X1 (fu + n + 1) (a, nI k, σ 6 0, σ 1) = some (a', σ' 6 0, σ' 1) ∧ s_X5_does_L1 R (nI (6 * w)) (s_X5_does_X1 tm gm) (fm + n + 1) (a, nI k, f) = some (a', f', tm, gm) ∧ RS σ' N' ∧ RM f' N' ∧ Inv N' c ∧ ∀ j, j ≠ 1 → j ≠ 6 → σ' j = σ j
  | 0, k, a, σ, f, N, hk, ha, h, hf, I => by
    have e : k = 4 := by omega
    subst e
    refine ⟨a, σ, f, N, ha, ?_, ?_, h, hf, I, fun _ _ _ => rfl⟩
    · show s_X4_didFill_B1 f3 g1 _ _ a (nI 4) _ _ = _
      unfold s_X4_didFill_B1 s_X4_didFill_X1
      rw [if_pos (show (4 : Int32) ≤ nI 4 by decide)]
      dsimp only
      rw [zck01 ha]
    · show s_X5_does_B1 R _ _ _ a (nI 4) f = _
      unfold s_X5_does_B1 s_X5_does_X1
      rw [if_pos (show (4 : Int32) ≤ nI 4 by decide)]
      dsimp only
      rw [zck01 ha]
  | n + 1, k, a, σ, f, N, hk, ha, h, hf, I => by
    have k4 : ¬ (4 : Int32) ≤ nI k := nI_ge (a := k) (b := 4) (by omega) (by omega)
    have C0 : s_X4_didFill_L1 f3 g1 s_X4_didFill_X1 (fu + (n + 1) + 1) (a, nI k, σ 6 0, σ 1) = s_X4_didFill_B1 f3 g1 s_X4_didFill_X1 (s_X4_didFill_L1 f3 g1 s_X4_didFill_X1 (fu + n + 1)) a (nI k) (σ 6 0) (σ 1) := rfl
    have M0 : s_X5_does_L1 R (nI (6 * w)) (s_X5_does_X1 tm gm) (fm + (n + 1) + 1) (a, nI k, f) = s_X5_does_B1 R (nI (6 * w)) (s_X5_does_X1 tm gm) (s_X5_does_L1 R (nI (6 * w)) (s_X5_does_X1 tm gm) (fm + n + 1)) a (nI k) f := rfl
    have ex : nI (6 * w) + 2 + nI k = nI (6 * w + 2 + k) := by rw [show nI (6 * w) + 2 = nI (6 * w + 2) from nI_add _ 2, nI_add]
    have ld2 : ∀ (q : Int32 → Option (Int32 × (Nat → Int32) × (Nat → Int32) × (Nat → Int32))), ld 192 R (nI (6 * w + 2 + k)) q = q (f3 k) := fun q => by rw [ld_n (by omega) (by omega), h3 k (by omega)]
    have ld1 : ∀ (q : Int32 → Option (Int32 × (Nat → Int32) × (Nat → Int32) × (Nat → Int32))), ld 192 R (nI (6 * w) + 1) q = q g1 := fun q => by rw [nI_1, ld_n (by omega) (by omega), h1]
    rw [C0, M0]
    unfold s_X4_didFill_B1 s_X5_does_B1
    rw [if_neg k4, if_neg k4, cl_e (at_n (by omega) (by omega)), ex, ld2]
    by_cases hz : f3 k ≤ 0
    · obtain ⟨a', σ', f', N', ha', ec, em, h', hf', I', hs'⟩ := did_l (tm := tm) (gm := gm) hw h1 h3 fu fm n (k + 1) a σ f N (by omega) ha h hf I
      refine ⟨a', σ', f', N', ha', ?_, ?_, h', hf', I', hs'⟩
      · rw [if_pos hz, nm_e', nI_1]
        exact ec
      · rw [if_pos hz]
        rcases ha with rfl | rfl
        · rw [if_pos rfl, nm_e', nI_1]
          exact em
        · rw [if_neg one_ne, nm_e', nI_1]
          exact em
    · obtain ⟨r, σ1, f1, N1, ec1, em1, h1', hf1, I1, hs1⟩ := B_fill h hf I g1 (nI k) (f3 k)
      rw [if_neg hz, if_neg hz, ld1, ld2, cl_e ec1, cl_e em1]
      dsimp only
      by_cases hr : r < 0
      · obtain ⟨a', σ', f', N', ha', ec, em, h', hf', I', hs'⟩ := did_l (tm := tm) (gm := gm) hw h1 h3 fu fm n (k + 1) a σ1 f1 N1 (by omega) ha h1' hf1 I1
        refine ⟨a', σ', f', N', ha', ?_, ?_, h', hf', I', fun j j1 j6 => (hs' j j1 j6).trans (hs1 j j1 j6)⟩
        · rw [if_pos hr, nm_e', nI_1]
          exact ec
        · rw [if_pos hr]
          rcases ha with rfl | rfl
          · rw [if_pos rfl, nm_e', nI_1]
            exact em
          · rw [if_neg one_ne, nm_e', nI_1]
            exact em
      · obtain ⟨a', σ', f', N', ha', ec, em, h', hf', I', hs'⟩ := did_l (tm := tm) (gm := gm) hw h1 h3 fu fm n (k + 1) 1 σ1 f1 N1 (by omega) (Or.inr rfl) h1' hf1 I1
        refine ⟨a', σ', f', N', ha', ?_, ?_, h', hf', I', fun j j1 j6 => (hs' j j1 j6).trans (hs1 j j1 j6)⟩
        · rw [if_neg hr, nm_e', nI_1]
          exact ec
        · rw [if_neg hr]
          rcases ha with rfl | rfl
          · rw [if_pos rfl, nm_e', nI_1]
            exact em
          · rw [if_neg one_ne, nm_e', nI_1]
            exact em
theorem did_b {σ : Nat → Nat → Int32} {f R : Nat → Int32} {N : Nat → Nat} {c w : Nat} {g0 g1 g2 g3 : Int32} {f3 : Nat → Int32} (h : RS σ N) (hf : RM f N) (I : Inv N c) (hw : w ≤ 31) (hW : WK g0 g1 g2 g3 f3 R (6 * w)) (tm gm : Nat → Int32) : ∃ (z : Int32) (σ' : Nat → Nat → Int32) (f' tm' gm' : Nat → Int32) (N' : Nat → Nat), (z = 0 ∨ z = 1) ∧ s_X4_didWork (σ 6 0) (σ 7 0) (σ 8 0) (σ 9 0) (σ 0) (σ 1) (σ 2) (σ 3) (σ 4) (σ 5) (σ 10) (σ 11) g0 g1 g2 g3 f3 = some (z, σ' 6 0, σ' 7 0, σ' 8 0, σ' 9 0, σ' 1, σ' 2, σ' 4, σ' 5, σ' 10, σ' 11) ∧ s_X5_does f tm gm R (nI w) = some (z, f', tm', gm') ∧ RS σ' N' ∧ RM f' N' ∧ Inv N' (c + 1) ∧ σ' 0 = σ 0 ∧ σ' 3 = σ 3 := by
  have e6 : (6 : Int32) * nI w = nI (6 * w) := pk_mul 6 w
  have l0 : ∀ (q : Int32 → Option (Int32 × (Nat → Int32) × (Nat → Int32) × (Nat → Int32))), ld 192 R (nI (6 * w)) q = q (R (6 * w)) := fun q => ld_n (by omega) (by omega)
  have l1 : ∀ (q : Int32 → Option (Int32 × (Nat → Int32) × (Nat → Int32) × (Nat → Int32))), ld 192 R (nI (6 * w) + 1) q = q (R (6 * w + 1)) := fun q => by rw [show nI (6 * w) + 1 = nI (6 * w + 1) from nI_add _ 1, ld_n (by omega) (by omega)]
  have l2 : ∀ (q : Int32 → Option (Int32 × (Nat → Int32) × (Nat → Int32) × (Nat → Int32))), ld 192 R (nI (6 * w) + 2) q = q (R (6 * w + 2)) := fun q => by rw [show nI (6 * w) + 2 = nI (6 * w + 2) from nI_add _ 2, ld_n (by omega) (by omega)]
  have l3 : ∀ (q : Int32 → Option (Int32 × (Nat → Int32) × (Nat → Int32) × (Nat → Int32))), ld 192 R (nI (6 * w) + 3) q = q (R (6 * w + 3)) := fun q => by rw [show nI (6 * w) + 3 = nI (6 * w + 3) from nI_add _ 3, ld_n (by omega) (by omega)]
  unfold s_X5_does
  rw [nm_e', e6, l0, l0]
  rcases hW with ⟨rfl, r0, r1, r3⟩ | ⟨rfl, r0, r1⟩ | ⟨rfl, r0, r1, r2, r3⟩ | ⟨rfl, r0, r1, r2⟩ | ⟨rfl, r0, r1⟩ | ⟨rfl, r0⟩
  · obtain ⟨z, σ', f', N', hz, ec, em, h', hf', I', hs⟩ := did_l (tm := tm) (gm := gm) hw r1 r3 995 995 4 0 0 σ f N (by omega) (Or.inl rfl) h hf I
    have ec' : s_X4_didFill (σ 6 0) (σ 1) g1 f3 = some (z, σ' 6 0, σ' 1) := ec
    refine ⟨z, σ', f', tm, gm, N', hz, ?_, ?_, h', hf', I'.mono (by omega), hs 0 (by decide) (by decide), hs 3 (by decide) (by decide)⟩
    · unfold s_X4_didWork
      rw [if_neg (show ¬ (43 : Int32) = 33 by decide), if_pos (show (43 : Int32) = 43 from rfl), cl_e ec', hs 7 (by decide) (by decide), hs 8 (by decide) (by decide), hs 9 (by decide) (by decide), hs 2 (by decide) (by decide), hs 4 (by decide) (by decide), hs 5 (by decide) (by decide), hs 10 (by decide) (by decide), hs 11 (by decide) (by decide)]
    · rw [r0, if_pos (show (43 : Int32) = 43 from rfl)]
      exact em
  · obtain ⟨r, σ', f', N', ec, em, h', hf', I', hs⟩ := B_thin h hf I g1
    have dC : s_X4_didWork (σ 6 0) (σ 7 0) (σ 8 0) (σ 9 0) (σ 0) (σ 1) (σ 2) (σ 3) (σ 4) (σ 5) (σ 10) (σ 11) 33 g1 g2 g3 f3 = if r < 0 then some (0, σ' 6 0, σ' 7 0, σ' 8 0, σ' 9 0, σ' 1, σ' 2, σ' 4, σ' 5, σ' 10, σ' 11) else some (1, σ' 6 0, σ' 7 0, σ' 8 0, σ' 9 0, σ' 1, σ' 2, σ' 4, σ' 5, σ' 10, σ' 11) := by
      unfold s_X4_didWork
      rw [if_pos (show (33 : Int32) = 33 from rfl), cl_e ec]
      dsimp only
      rw [hs 7 (by decide) (by decide) (by decide), hs 8 (by decide) (by decide) (by decide), hs 9 (by decide) (by decide) (by decide), hs 4 (by decide) (by decide) (by decide), hs 5 (by decide) (by decide) (by decide), hs 10 (by decide) (by decide) (by decide), hs 11 (by decide) (by decide) (by decide)]
    have dM : (cl (s_X5_thins f (R (6 * w + 1))) fun r7 => if r7.1 < 0 then (some ((0 : Int32), r7.2, tm, gm)) else (some ((1 : Int32), r7.2, tm, gm))) = if r < 0 then some ((0 : Int32), f', tm, gm) else some ((1 : Int32), f', tm, gm) := by
      rw [← r1, cl_e em]
    rw [r0, if_neg (show ¬ (33 : Int32) = 43 by decide), if_pos (show (33 : Int32) = 33 from rfl)]
    rw [l1]
    by_cases hr : r < 0
    · exact ⟨0, σ', f', tm, gm, N', Or.inl rfl, dC.trans (if_pos hr), dM.trans (if_pos hr), h', hf', I'.mono (by omega), hs 0 (by decide) (by decide) (by decide), hs 3 (by decide) (by decide) (by decide)⟩
    · exact ⟨1, σ', f', tm, gm, N', Or.inr rfl, dC.trans (if_neg hr), dM.trans (if_neg hr), h', hf', I'.mono (by omega), hs 0 (by decide) (by decide) (by decide), hs 3 (by decide) (by decide) (by decide)⟩
  · obtain ⟨r, σ', f', tm', N', ec, em, h', hf', I', hs⟩ := B_pour h hf I tm g1 g2 g3
    have dC : s_X4_didWork (σ 6 0) (σ 7 0) (σ 8 0) (σ 9 0) (σ 0) (σ 1) (σ 2) (σ 3) (σ 4) (σ 5) (σ 10) (σ 11) 62 g1 g2 g3 f3 = if r < 0 then some (0, σ' 6 0, σ' 7 0, σ' 8 0, σ' 9 0, σ' 1, σ' 2, σ' 4, σ' 5, σ' 10, σ' 11) else some (1, σ' 6 0, σ' 7 0, σ' 8 0, σ' 9 0, σ' 1, σ' 2, σ' 4, σ' 5, σ' 10, σ' 11) := by
      unfold s_X4_didWork
      rw [if_neg (show ¬ (62 : Int32) = 33 by decide), if_neg (show ¬ (62 : Int32) = 43 by decide), if_pos (show (62 : Int32) = 62 from rfl), cl_e ec]
      dsimp only
      rw [hs 6 (by decide) (by decide) (by decide), hs 7 (by decide) (by decide) (by decide), hs 8 (by decide) (by decide) (by decide), hs 9 (by decide) (by decide) (by decide), hs 2 (by decide) (by decide) (by decide), hs 4 (by decide) (by decide) (by decide), hs 5 (by decide) (by decide) (by decide)]
    have dM : (cl (s_X5_pours f tm (R (6 * w + 1)) (R (6 * w + 2)) (R (6 * w + 3))) fun r13 => if r13.1 < 0 then (some ((0 : Int32), r13.2.1, r13.2.2, gm)) else (some ((1 : Int32), r13.2.1, r13.2.2, gm))) = if r < 0 then some ((0 : Int32), f', tm', gm) else some ((1 : Int32), f', tm', gm) := by
      rw [← r1, ← r2, ← r3, cl_e em]
    rw [r0, if_neg (show ¬ (62 : Int32) = 43 by decide), if_neg (show ¬ (62 : Int32) = 33 by decide), if_pos (show (62 : Int32) = 62 from rfl)]
    rw [l1]
    rw [l2]
    rw [l3]
    by_cases hr : r < 0
    · exact ⟨0, σ', f', tm', gm, N', Or.inl rfl, dC.trans (if_pos hr), dM.trans (if_pos hr), h', hf', I'.mono (by omega), hs 0 (by decide) (by decide) (by decide), hs 3 (by decide) (by decide) (by decide)⟩
    · exact ⟨1, σ', f', tm', gm, N', Or.inr rfl, dC.trans (if_neg hr), dM.trans (if_neg hr), h', hf', I'.mono (by omega), hs 0 (by decide) (by decide) (by decide), hs 3 (by decide) (by decide) (by decide)⟩
  · obtain ⟨r, σ', f', tm', N', ec, em, h', hf', I', hs⟩ := B_dip h hf I tm g1 g3
    have dC : s_X4_didWork (σ 6 0) (σ 7 0) (σ 8 0) (σ 9 0) (σ 0) (σ 1) (σ 2) (σ 3) (σ 4) (σ 5) (σ 10) (σ 11) 100 g1 g2 g3 f3 = if r < 0 then some (0, σ' 6 0, σ' 7 0, σ' 8 0, σ' 9 0, σ' 1, σ' 2, σ' 4, σ' 5, σ' 10, σ' 11) else some (1, σ' 6 0, σ' 7 0, σ' 8 0, σ' 9 0, σ' 1, σ' 2, σ' 4, σ' 5, σ' 10, σ' 11) := by
      unfold s_X4_didWork
      rw [if_neg (show ¬ (100 : Int32) = 33 by decide), if_neg (show ¬ (100 : Int32) = 43 by decide), if_neg (show ¬ (100 : Int32) = 62 by decide), if_pos (show (100 : Int32) = 100 from rfl), cl_e ec]
      dsimp only
      rw [hs 6 (by decide) (by decide) (by decide), hs 7 (by decide) (by decide) (by decide), hs 8 (by decide) (by decide) (by decide), hs 9 (by decide) (by decide) (by decide), hs 2 (by decide) (by decide) (by decide), hs 4 (by decide) (by decide) (by decide), hs 5 (by decide) (by decide) (by decide)]
    have dM : (cl (s_X5_dips f tm (R (6 * w + 1)) (R (6 * w + 2))) fun r18 => if r18.1 < 0 then (some ((0 : Int32), r18.2.1, r18.2.2, gm)) else (some ((1 : Int32), r18.2.1, r18.2.2, gm))) = if r < 0 then some ((0 : Int32), f', tm', gm) else some ((1 : Int32), f', tm', gm) := by
      rw [← r1, ← r2, cl_e em]
    rw [r0, if_neg (show ¬ (100 : Int32) = 43 by decide), if_neg (show ¬ (100 : Int32) = 33 by decide), if_neg (show ¬ (100 : Int32) = 62 by decide), if_pos (show (100 : Int32) = 100 from rfl)]
    rw [l1]
    rw [l2]
    by_cases hr : r < 0
    · exact ⟨0, σ', f', tm', gm, N', Or.inl rfl, dC.trans (if_pos hr), dM.trans (if_pos hr), h', hf', I'.mono (by omega), hs 0 (by decide) (by decide) (by decide), hs 3 (by decide) (by decide) (by decide)⟩
    · exact ⟨1, σ', f', tm', gm, N', Or.inr rfl, dC.trans (if_neg hr), dM.trans (if_neg hr), h', hf', I'.mono (by omega), hs 0 (by decide) (by decide) (by decide), hs 3 (by decide) (by decide) (by decide)⟩
  · obtain ⟨r, σ', f', tm', gm', N', ec, em, h', hf', I', hs⟩ := B_paint h hf I tm gm g1
    have dC : s_X4_didWork (σ 6 0) (σ 7 0) (σ 8 0) (σ 9 0) (σ 0) (σ 1) (σ 2) (σ 3) (σ 4) (σ 5) (σ 10) (σ 11) 112 g1 g2 g3 f3 = if r < 0 then some (0, σ' 6 0, σ' 7 0, σ' 8 0, σ' 9 0, σ' 1, σ' 2, σ' 4, σ' 5, σ' 10, σ' 11) else some (1, σ' 6 0, σ' 7 0, σ' 8 0, σ' 9 0, σ' 1, σ' 2, σ' 4, σ' 5, σ' 10, σ' 11) := by
      unfold s_X4_didWork
      rw [if_neg (show ¬ (112 : Int32) = 33 by decide), if_neg (show ¬ (112 : Int32) = 43 by decide), if_neg (show ¬ (112 : Int32) = 62 by decide), if_neg (show ¬ (112 : Int32) = 100 by decide), if_pos (show (112 : Int32) = 112 from rfl), cl_e ec]
      dsimp only
      rw [hs 6 (by decide) (by decide) (by decide) (by decide) (by decide) (by decide), hs 8 (by decide) (by decide) (by decide) (by decide) (by decide) (by decide), hs 9 (by decide) (by decide) (by decide) (by decide) (by decide) (by decide), hs 2 (by decide) (by decide) (by decide) (by decide) (by decide) (by decide)]
    have dM : (cl (s_X5_paints f tm gm (R (6 * w + 1))) fun r22 => if r22.1 < 0 then (some ((0 : Int32), r22.2.1, r22.2.2.1, r22.2.2.2)) else (some ((1 : Int32), r22.2.1, r22.2.2.1, r22.2.2.2))) = if r < 0 then some ((0 : Int32), f', tm', gm') else some ((1 : Int32), f', tm', gm') := by
      rw [← r1, cl_e em]
    rw [r0, if_neg (show ¬ (112 : Int32) = 43 by decide), if_neg (show ¬ (112 : Int32) = 33 by decide), if_neg (show ¬ (112 : Int32) = 62 by decide), if_neg (show ¬ (112 : Int32) = 100 by decide), if_pos (show (112 : Int32) = 112 from rfl)]
    rw [l1]
    by_cases hr : r < 0
    · exact ⟨0, σ', f', tm', gm', N', Or.inl rfl, dC.trans (if_pos hr), dM.trans (if_pos hr), h', hf', I', hs 0 (by decide) (by decide) (by decide) (by decide) (by decide) (by decide), hs 3 (by decide) (by decide) (by decide) (by decide) (by decide) (by decide)⟩
    · exact ⟨1, σ', f', tm', gm', N', Or.inr rfl, dC.trans (if_neg hr), dM.trans (if_neg hr), h', hf', I', hs 0 (by decide) (by decide) (by decide) (by decide) (by decide) (by decide), hs 3 (by decide) (by decide) (by decide) (by decide) (by decide) (by decide)⟩
  · obtain ⟨r, σ', f', N', ec, em, rp, h', hf', I', hs⟩ := B_rinse h hf I
    have dC : s_X4_didWork (σ 6 0) (σ 7 0) (σ 8 0) (σ 9 0) (σ 0) (σ 1) (σ 2) (σ 3) (σ 4) (σ 5) (σ 10) (σ 11) 114 g1 g2 g3 f3 = if r < 0 then some (0, σ' 6 0, σ' 7 0, σ' 8 0, σ' 9 0, σ' 1, σ' 2, σ' 4, σ' 5, σ' 10, σ' 11) else some (1, σ' 6 0, σ' 7 0, σ' 8 0, σ' 9 0, σ' 1, σ' 2, σ' 4, σ' 5, σ' 10, σ' 11) := by
      unfold s_X4_didWork
      rw [if_neg (show ¬ (114 : Int32) = 33 by decide), if_neg (show ¬ (114 : Int32) = 43 by decide), if_neg (show ¬ (114 : Int32) = 62 by decide), if_neg (show ¬ (114 : Int32) = 100 by decide), if_neg (show ¬ (114 : Int32) = 112 by decide), if_pos (show (114 : Int32) = 114 from rfl), cl_e ec]
      dsimp only
      rw [hs 6 (by decide) (by decide) (by decide), hs 7 (by decide) (by decide) (by decide), hs 2 (by decide) (by decide) (by decide), hs 4 (by decide) (by decide) (by decide), hs 5 (by decide) (by decide) (by decide), hs 10 (by decide) (by decide) (by decide), hs 11 (by decide) (by decide) (by decide)]
    have dM : (cl (s_X5_rinsesBrush f) fun r24 => if r24.1 < 0 then (some ((0 : Int32), r24.2, tm, gm)) else (some ((1 : Int32), r24.2, tm, gm))) = if r < 0 then some ((0 : Int32), f', tm, gm) else some ((1 : Int32), f', tm, gm) := by
      rw [cl_e em]
    rw [r0, if_neg (show ¬ (114 : Int32) = 43 by decide), if_neg (show ¬ (114 : Int32) = 33 by decide), if_neg (show ¬ (114 : Int32) = 62 by decide), if_neg (show ¬ (114 : Int32) = 100 by decide), if_neg (show ¬ (114 : Int32) = 112 by decide)]
    by_cases hr : r < 0
    · exact ⟨0, σ', f', tm, gm, N', Or.inl rfl, dC.trans (if_pos hr), dM.trans (if_pos hr), h', hf', I'.mono (by omega), hs 0 (by decide) (by decide) (by decide), hs 3 (by decide) (by decide) (by decide)⟩
    · exact ⟨1, σ', f', tm, gm, N', Or.inr rfl, dC.trans (if_neg hr), dM.trans (if_neg hr), h', hf', I'.mono (by omega), hs 0 (by decide) (by decide) (by decide), hs 3 (by decide) (by decide) (by decide)⟩
