-- pure: all works of a run, done by both sides
theorem cNext_n {S Pd : Nat → Int32} {t : Nat → Nat} {L i : Nat} {g0 g1 g2 g3 : Int32} {f3 : Nat → Int32} (hR : RT S Pd t) (hL : L ≤ 60) (hi : i ≤ 60) (h : ¬ sg t L i = 59) : s_X1_readNext (nI L) (nI i) S g0 g1 g2 g3 f3 = some (0, nI i, g0, g1, g2, g3, f3) := by
  have cS : s_X1_readSign (nI L) (nI i) S 59 = some (0, nI i) := cRs_n (a := 59) hR hL hi (by omega) h
  unfold s_X1_readNext
  rw [cl_e cS]
  dsimp only
  rw [if_pos rfl]
theorem cNext_y {S Pd : Nat → Int32} {t : Nat → Nat} {L i i2 : Nat} {g0 g1 g2 g3 : Int32} {f3 : Nat → Int32} {h0 h1 h2 h3 : Int32} {hf : Nat → Int32} (hR : RT S Pd t) (hL : L ≤ 60) (hi : i ≤ 60) (h : sg t L i = 59) (hw : s_X1_readWork (nI L) (nI (i + 1)) S g0 g1 g2 g3 f3 = some (1, nI i2, h0, h1, h2, h3, hf)) : s_X1_readNext (nI L) (nI i) S g0 g1 g2 g3 f3 = some (1, nI i2, h0, h1, h2, h3, hf) := by
  have cS : s_X1_readSign (nI L) (nI i) S 59 = some (1, nI (i + 1)) := cRs_y (a := 59) hR hL hi h
  unfold s_X1_readNext
  rw [cl_e cS]
  dsimp only
  rw [if_neg one_ne, cl_e hw]
  dsimp only
  rw [if_neg one_ne]
theorem run_l {S Pd R : Nat → Int32} {t : Nat → Nat} {L W : Nat} {vm aa g5 g6 K : Int32} {r3 : Int32 × Int32 × Int32 × Int32 × (Nat → Int32) × (Nat → Int32) × (Nat → Int32) × (Nat → Int32) × (Nat → Int32) × (Nat → Int32)} {m3 b3 : Nat → Int32} (hR : RT S Pd t) (hL : L ≤ 60) (hW : W ≤ 31) (fu fm : Nat) : ∀ (n w i' cnt : Nat) (σ : Nat → Nat → Int32) (f tm gm : Nat → Int32) (N : Nat → Nat) (c : Nat) (g0 g1 g2 g3 : Int32) (f3 : Nat → Int32), w + 1 + n = W → RS σ N → RM f N → Inv N c → WK g0 g1 g2 g3 f3 R (6 * w) → i' ≤ L → ((n = 0 ∧ i' = L) ∨ (i' < L ∧ sg t L i' = 59 ∧ chn S t L R n (w + 1) (i' + 1))) → ∃ (cnt' : Nat) (σ' : Nat → Nat → Int32) (f' tm' gm' : Nat → Int32) (N' : Nat → Nat) (p h0 h1 h2 h3 : Int32) (hf : Nat → Int32), cnt' ≤ cnt + n + 1 ∧ s_X4_run_L1 (σ 0) (σ 3) (nI L) S (s_X4_run_X1 (nI L) g5 g6 r3) (fu + n + 2) (nI cnt, 1, nI w, σ 6 0, σ 7 0, σ 8 0, σ 9 0, σ 1, σ 2, σ 4, σ 5, σ 10, σ 11, nI i', g0, g1, g2, g3, f3) = s_X4_run_X1 (nI L) g5 g6 r3 (nI cnt', σ' 6 0, σ' 7 0, σ' 8 0, σ' 9 0, σ' 1, σ' 2, σ' 4, σ' 5, σ' 10, σ' 11, p, h0, h1, h2, h3, hf) ∧ s_X5_run_L1 (vm, nI W, aa, R) (s_X5_run_X1 K m3 b3 (vm, nI W, aa, R)) (fm + n + 2) (nI cnt, nI w, f, tm, gm) = s_X5_run_X1 K m3 b3 (vm, nI W, aa, R) (nI cnt', f', tm', gm') ∧ RS σ' N' ∧ RM f' N' ∧ Inv N' (c + n + 1) ∧ σ' 0 = σ 0 ∧ σ' 3 = σ 3 := by
  intro n
  induction n with
  | zero =>
    intro w i' cnt σ f tm gm N c g0 g1 g2 g3 f3 hwW h hf I hWK hi' hnext
    obtain ⟨z, σ1, f1, tm1, gm1, N1, hz, ec, em, h1', hf1, I1, e0, e3⟩ := did_b h hf I (by omega) hWK tm gm
    rcases hnext with ⟨-, rfl⟩ | ⟨-, -, hh⟩
    · have nx := cNext_n (g0 := g0) (g1 := g1) (g2 := g2) (g3 := g3) (f3 := f3) hR hL hL (show ¬ sg t i' i' = 59 by unfold sg; rw [if_neg (Nat.lt_irrefl _)]; decide)
      have w60 : ¬ (60 : Int32) ≤ nI w := nI_ge (a := w) (b := 60) (by omega) (by omega)
      have w61 : ¬ (60 : Int32) ≤ nI (w + 1) := nI_ge (a := w + 1) (b := 60) (by omega) (by omega)
      have wm : ¬ nI W ≤ nI w := nI_ge (by omega) (by omega)
      have wm1 : nI W ≤ nI (w + 1) := nI_le (by omega) (by omega)
      have C : ∀ cnt1 : Nat, (z = 0 → cnt1 = cnt) → (z = 1 → cnt1 = cnt + 1) → s_X4_run_L1 (σ 0) (σ 3) (nI i') S (s_X4_run_X1 (nI i') g5 g6 r3) (fu + 0 + 2) (nI cnt, 1, nI w, σ 6 0, σ 7 0, σ 8 0, σ 9 0, σ 1, σ 2, σ 4, σ 5, σ 10, σ 11, nI i', g0, g1, g2, g3, f3) = s_X4_run_X1 (nI i') g5 g6 r3 (nI cnt1, σ1 6 0, σ1 7 0, σ1 8 0, σ1 9 0, σ1 1, σ1 2, σ1 4, σ1 5, σ1 10, σ1 11, nI i', g0, g1, g2, g3, f3) := fun cnt1 z0 z1 => by
        have last : s_X4_run_L1 (σ 0) (σ 3) (nI i') S (s_X4_run_X1 (nI i') g5 g6 r3) (fu + 1) (nI cnt1, 0, nI (w + 1), σ1 6 0, σ1 7 0, σ1 8 0, σ1 9 0, σ1 1, σ1 2, σ1 4, σ1 5, σ1 10, σ1 11, nI i', g0, g1, g2, g3, f3) = s_X4_run_X1 (nI i') g5 g6 r3 (nI cnt1, σ1 6 0, σ1 7 0, σ1 8 0, σ1 9 0, σ1 1, σ1 2, σ1 4, σ1 5, σ1 10, σ1 11, nI i', g0, g1, g2, g3, f3) := by
          show s_X4_run_B1 (σ 0) (σ 3) (nI i') S (s_X4_run_X1 (nI i') g5 g6 r3) (s_X4_run_L1 (σ 0) (σ 3) (nI i') S (s_X4_run_X1 (nI i') g5 g6 r3) fu) (nI cnt1) 0 (nI (w + 1)) (σ1 6 0) (σ1 7 0) (σ1 8 0) (σ1 9 0) (σ1 1) (σ1 2) (σ1 4) (σ1 5) (σ1 10) (σ1 11) (nI i') g0 g1 g2 g3 f3 = _
          unfold s_X4_run_B1
          rw [if_neg w61, if_pos rfl]
        refine Eq.trans ?_ last
        show s_X4_run_B1 (σ 0) (σ 3) (nI i') S (s_X4_run_X1 (nI i') g5 g6 r3) (s_X4_run_L1 (σ 0) (σ 3) (nI i') S (s_X4_run_X1 (nI i') g5 g6 r3) (fu + 1)) (nI cnt) 1 (nI w) (σ 6 0) (σ 7 0) (σ 8 0) (σ 9 0) (σ 1) (σ 2) (σ 4) (σ 5) (σ 10) (σ 11) (nI i') g0 g1 g2 g3 f3 = _
        unfold s_X4_run_B1
        rw [if_neg w60, if_neg one_ne, cl_e (show s_X1_lastRead = some () from rfl), cl_e ec]
        dsimp only
        rcases hz with rfl | rfl
        · rw [if_pos rfl, nm_e', cl_e nx, nm_e', nI_1, show nI cnt + 0 = nI (cnt + 0) from nI_add cnt 0, z0 rfl]
          rfl
        · rw [if_neg one_ne, nm_e', cl_e nx, nm_e', nI_1, nI_1, z1 rfl]
      have M : ∀ cnt1 : Nat, (z = 0 → cnt1 = cnt) → (z = 1 → cnt1 = cnt + 1) → s_X5_run_L1 (vm, nI W, aa, R) (s_X5_run_X1 K m3 b3 (vm, nI W, aa, R)) (fm + 0 + 2) (nI cnt, nI w, f, tm, gm) = s_X5_run_X1 K m3 b3 (vm, nI W, aa, R) (nI cnt1, f1, tm1, gm1) := fun cnt1 z0 z1 => by
        have last : s_X5_run_L1 (vm, nI W, aa, R) (s_X5_run_X1 K m3 b3 (vm, nI W, aa, R)) (fm + 1) (nI cnt1, nI (w + 1), f1, tm1, gm1) = s_X5_run_X1 K m3 b3 (vm, nI W, aa, R) (nI cnt1, f1, tm1, gm1) := by
          show s_X5_run_B1 (vm, nI W, aa, R) (s_X5_run_X1 K m3 b3 (vm, nI W, aa, R)) (s_X5_run_L1 (vm, nI W, aa, R) (s_X5_run_X1 K m3 b3 (vm, nI W, aa, R)) fm) (nI cnt1) (nI (w + 1)) f1 tm1 gm1 = _
          unfold s_X5_run_B1
          dsimp only
          rw [if_pos wm1]
        refine Eq.trans ?_ last
        show s_X5_run_B1 (vm, nI W, aa, R) (s_X5_run_X1 K m3 b3 (vm, nI W, aa, R)) (s_X5_run_L1 (vm, nI W, aa, R) (s_X5_run_X1 K m3 b3 (vm, nI W, aa, R)) (fm + 1)) (nI cnt) (nI w) f tm gm = _
        unfold s_X5_run_B1
        dsimp only
        rw [if_neg wm, cl_e em]
        dsimp only
        rcases hz with rfl | rfl
        · rw [if_pos rfl, nm_e', nm_e', nI_1, show nI cnt + 0 = nI (cnt + 0) from nI_add cnt 0, z0 rfl]
          rfl
        · rw [if_neg one_ne, nm_e', nm_e', nI_1, nI_1, z1 rfl]
      rcases hz with rfl | rfl
      · exact ⟨cnt, σ1, f1, tm1, gm1, N1, nI i', g0, g1, g2, g3, f3, by omega, C cnt (fun _ => rfl) (fun q => absurd q n01), M cnt (fun _ => rfl) (fun q => absurd q n01), h1', hf1, I1, e0, e3⟩
      · exact ⟨cnt + 1, σ1, f1, tm1, gm1, N1, nI i', g0, g1, g2, g3, f3, by omega, C (cnt + 1) (fun q => absurd q one_ne) (fun _ => rfl), M (cnt + 1) (fun q => absurd q one_ne) (fun _ => rfl), h1', hf1, I1, e0, e3⟩
    · exact hh.elim
  | succ n ih =>
    intro w i' cnt σ f tm gm N c g0 g1 g2 g3 f3 hwW h hf I hWK hi' hnext
    obtain ⟨z, σ1, f1, tm1, gm1, N1, hz, ec, em, h1', hf1, I1, e0, e3⟩ := did_b h hf I (by omega) hWK tm gm
    rcases hnext with ⟨hh, -⟩ | ⟨hiL, h59, i2, hlt, hle, hread, hrest⟩
    · exact absurd hh (by omega)
    · obtain ⟨k0, k1, k2, k3, kf, eR, hWK2⟩ := hread g0 g1 g2 g3 f3
      have nx := cNext_y hR hL (by omega) h59 eR
      have w60 : ¬ (60 : Int32) ≤ nI w := nI_ge (a := w) (b := 60) (by omega) (by omega)
      have wm : ¬ nI W ≤ nI w := nI_ge (by omega) (by omega)
      have go : ∀ cnt1 : Nat, (z = 0 → cnt1 = cnt) → (z = 1 → cnt1 = cnt + 1) → ∃ (cnt' : Nat) (σ' : Nat → Nat → Int32) (f' tm' gm' : Nat → Int32) (N' : Nat → Nat) (p h0 h1 h2 h3 : Int32) (hf : Nat → Int32), cnt' ≤ cnt1 + n + 1 ∧ s_X4_run_L1 (σ 0) (σ 3) (nI L) S (s_X4_run_X1 (nI L) g5 g6 r3) (fu + (n + 1) + 2) (nI cnt, 1, nI w, σ 6 0, σ 7 0, σ 8 0, σ 9 0, σ 1, σ 2, σ 4, σ 5, σ 10, σ 11, nI i', g0, g1, g2, g3, f3) = s_X4_run_X1 (nI L) g5 g6 r3 (nI cnt', σ' 6 0, σ' 7 0, σ' 8 0, σ' 9 0, σ' 1, σ' 2, σ' 4, σ' 5, σ' 10, σ' 11, p, h0, h1, h2, h3, hf) ∧ s_X5_run_L1 (vm, nI W, aa, R) (s_X5_run_X1 K m3 b3 (vm, nI W, aa, R)) (fm + (n + 1) + 2) (nI cnt, nI w, f, tm, gm) = s_X5_run_X1 K m3 b3 (vm, nI W, aa, R) (nI cnt', f', tm', gm') ∧ RS σ' N' ∧ RM f' N' ∧ Inv N' (c + 1 + n + 1) ∧ σ' 0 = σ 0 ∧ σ' 3 = σ 3 := fun cnt1 z0 z1 => by
        obtain ⟨cnt', σ', f', tm', gm', N', p, h0, h1, h2, h3, hf', hcnt, eC, eM, h', hf'', I', s0, s3⟩ := ih (w + 1) i2 cnt1 σ1 f1 tm1 gm1 N1 (c + 1) k0 k1 k2 k3 kf (by omega) h1' hf1 I1 hWK2 hle hrest
        rw [e0, e3] at eC
        refine ⟨cnt', σ', f', tm', gm', N', p, h0, h1, h2, h3, hf', hcnt, Eq.trans ?_ eC, Eq.trans ?_ eM, h', hf'', I', s0.trans e0, s3.trans e3⟩
        · show s_X4_run_B1 (σ 0) (σ 3) (nI L) S (s_X4_run_X1 (nI L) g5 g6 r3) (s_X4_run_L1 (σ 0) (σ 3) (nI L) S (s_X4_run_X1 (nI L) g5 g6 r3) (fu + n + 2)) (nI cnt) 1 (nI w) (σ 6 0) (σ 7 0) (σ 8 0) (σ 9 0) (σ 1) (σ 2) (σ 4) (σ 5) (σ 10) (σ 11) (nI i') g0 g1 g2 g3 f3 = _
          unfold s_X4_run_B1
          rw [if_neg w60, if_neg one_ne, cl_e (show s_X1_lastRead = some () from rfl), cl_e ec]
          dsimp only
          rcases hz with rfl | rfl
          · rw [if_pos rfl, nm_e', cl_e nx, nm_e', nI_1, show nI cnt + 0 = nI (cnt + 0) from nI_add cnt 0, z0 rfl]
            rfl
          · rw [if_neg one_ne, nm_e', cl_e nx, nm_e', nI_1, nI_1, z1 rfl]
        · show s_X5_run_B1 (vm, nI W, aa, R) (s_X5_run_X1 K m3 b3 (vm, nI W, aa, R)) (s_X5_run_L1 (vm, nI W, aa, R) (s_X5_run_X1 K m3 b3 (vm, nI W, aa, R)) (fm + n + 2)) (nI cnt) (nI w) f tm gm = _
          unfold s_X5_run_B1
          dsimp only
          rw [if_neg wm, cl_e em]
          dsimp only
          rcases hz with rfl | rfl
          · rw [if_pos rfl, nm_e', nm_e', nI_1, show nI cnt + 0 = nI (cnt + 0) from nI_add cnt 0, z0 rfl]
            rfl
          · rw [if_neg one_ne, nm_e', nm_e', nI_1, nI_1, z1 rfl]
      rcases hz with rfl | rfl
      · obtain ⟨cnt', σ', f', tm', gm', N', p, h0, h1, h2, h3, hf', hcnt, eC, eM, h', hf'', I', s0, s3⟩ := go cnt (fun _ => rfl) (fun q => absurd q n01)
        exact ⟨cnt', σ', f', tm', gm', N', p, h0, h1, h2, h3, hf', by omega, eC, eM, h', hf'', I'.mono (by omega), s0, s3⟩
      · obtain ⟨cnt', σ', f', tm', gm', N', p, h0, h1, h2, h3, hf', hcnt, eC, eM, h', hf'', I', s0, s3⟩ := go (cnt + 1) (fun q => absurd q one_ne) (fun _ => rfl)
        exact ⟨cnt', σ', f', tm', gm', N', p, h0, h1, h2, h3, hf', by omega, eC, eM, h', hf'', I'.mono (by omega), s0, s3⟩
