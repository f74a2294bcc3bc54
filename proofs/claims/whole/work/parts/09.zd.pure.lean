-- pure: the fault of the pad
theorem WK.mono {g0 g1 g2 g3 : Int32} {f3 R R2 : Nat → Int32} {q : Nat} (h : ∀ k, q ≤ k → k < q + 6 → R2 k = R k) (w : WK g0 g1 g2 g3 f3 R q) : WK g0 g1 g2 g3 f3 R2 q := by
  have h0 := h q (by omega) (by omega)
  have h1 := h (q + 1) (by omega) (by omega)
  have h2 := h (q + 2) (by omega) (by omega)
  have h3 := h (q + 3) (by omega) (by omega)
  rcases w with ⟨a, b, c, d⟩ | ⟨a, b, c⟩ | ⟨a, b, c, d, e⟩ | ⟨a, b, c, d⟩ | ⟨a, b, c⟩ | ⟨a, b⟩
  · exact Or.inl ⟨a, h0.trans b, c.trans h1.symm, fun k hk => (d k hk).trans (h (q + 2 + k) (by omega) (by omega)).symm⟩
  · exact Or.inr (Or.inl ⟨a, h0.trans b, c.trans h1.symm⟩)
  · exact Or.inr (Or.inr (Or.inl ⟨a, h0.trans b, c.trans h1.symm, d.trans h2.symm, e.trans h3.symm⟩))
  · exact Or.inr (Or.inr (Or.inr (Or.inl ⟨a, h0.trans b, c.trans h1.symm, d.trans h2.symm⟩)))
  · exact Or.inr (Or.inr (Or.inr (Or.inr (Or.inl ⟨a, h0.trans b, c.trans h1.symm⟩))))
  · exact Or.inr (Or.inr (Or.inr (Or.inr (Or.inr ⟨a, h0.trans b⟩))))
def chn (S : Nat → Int32) (t : Nat → Nat) (L : Nat) (R : Nat → Int32) : Nat → Nat → Nat → Prop
  | 0, _, _ => False
  | n + 1, w, i => ∃ i' : Nat, i < i' ∧ i' ≤ L ∧ (∀ (g0 g1 g2 g3 : Int32) (f3 : Nat → Int32), ∃ (g0' g1' g2' g3' : Int32) (f3' : Nat → Int32), s_X1_readWork (nI L) (nI i) S g0 g1 g2 g3 f3 = some (1, nI i', g0', g1', g2', g3', f3') ∧ WK g0' g1' g2' g3' f3' R (6 * w)) ∧ ((n = 0 ∧ i' = L) ∨ (i' < L ∧ sg t L i' = 59 ∧ chn S t L R n (w + 1) (i' + 1)))
def FFP (S Pd : Nat → Int32) (t : Nat → Nat) (L w i : Nat) (R : Nat → Int32) (fc fm : Nat) : Prop := ∃ (vm vc : Int32) (W j : Nat) (R' : Nat → Int32), (∃ rm, s_X5_readsWork (nI L) (nI w) (nI i) R Pd = some rm ∧ (rm.1 = 0 ∨ rm.1 = 1) ∧ s_X5_faultOf_L1 (nI L) Pd s_X5_faultOf_X1 fm (rm.1, rm.2.2.1, rm.2.1, rm.2.2.2) = some (vm, nI W, nI j, R')) ∧ (∀ k, k < 6 * w → R' k = R k) ∧ j ≤ L ∧ ((vm = nI j ∧ vc = nI j) ∨ (vm = -1 ∧ vc = -6 ∧ ∃ n, W = w + n ∧ W ≤ 31 ∧ chn S t L R' n w i)) ∧ ∀ (g0 g1 g2 g3 : Int32) (f3 : Nat → Int32), ∃ rc, s_X1_readWork (nI L) (nI i) S g0 g1 g2 g3 f3 = some rc ∧ (rc.1 = 0 ∨ rc.1 = 1) ∧ ∃ (g0' g1' g2' g3' : Int32) (f3' : Nat → Int32), s_X1_firstFault_L1 (nI L) S s_X1_firstFault_X1 fc (rc.1, nI w, rc.2.1, rc.2.2.1, rc.2.2.2.1, rc.2.2.2.2.1, rc.2.2.2.2.2.1, rc.2.2.2.2.2.2) = some (vc, nI j, g0', g1', g2', g3', f3')
theorem cFF_0 {S : Nat → Int32} {L w j fc : Nat} {g0 g1 g2 g3 : Int32} {f3 : Nat → Int32} (hw : w < 60) : s_X1_firstFault_L1 (nI L) S s_X1_firstFault_X1 (fc + 1) (0, nI w, nI j, g0, g1, g2, g3, f3) = some (nI j, nI j, g0, g1, g2, g3, f3) := by
  show s_X1_firstFault_B1 (nI L) S s_X1_firstFault_X1 (s_X1_firstFault_L1 (nI L) S s_X1_firstFault_X1 fc) 0 (nI w) (nI j) g0 g1 g2 g3 f3 = _
  unfold s_X1_firstFault_B1 s_X1_firstFault_X1
  rw [if_neg (show ¬ (60 : Int32) ≤ nI w from nI_ge (a := w) (b := 60) hw (by omega)), if_pos rfl]
  dsimp only
  rw [if_pos rfl]
theorem mFF_0 {Pd R : Nat → Int32} {L W j fm : Nat} : s_X5_faultOf_L1 (nI L) Pd s_X5_faultOf_X1 (fm + 1) (0, nI j, nI W, R) = some (nI j, nI W, nI j, R) := by
  show s_X5_faultOf_B1 (nI L) Pd s_X5_faultOf_X1 (s_X5_faultOf_L1 (nI L) Pd s_X5_faultOf_X1 fm) 0 (nI j) (nI W) R = _
  unfold s_X5_faultOf_B1 s_X5_faultOf_X1
  rw [if_pos rfl]
  dsimp only
  rw [if_pos rfl]
theorem FF_b {S Pd : Nat → Int32} {t : Nat → Nat} {L : Nat} (hR : RT S Pd t) (hL : L ≤ 60) (fc fm : Nat) : ∀ (n w i : Nat) (R : Nat → Int32), L ≤ i + n → i ≤ L → 2 * w ≤ i → FFP S Pd t L w i R (fc + n + 2) (fm + n + 2) := by
  intro n
  induction n with
  | zero =>
    intro w i R h1 h2 h3
    obtain ⟨c, m, e, i', R', eM, fR, l1, l2, hcm, hC⟩ := PW_b hR hL (w := w) (i := i) (by omega) h2 R
    rcases hcm with ⟨-, -, -, h⟩ | ⟨rfl, rfl, rfl⟩ | ⟨-, -, -, h, -⟩
    · exact absurd h (by omega)
    · refine ⟨nI i', nI i', w + 0, i', R', ⟨_, eM, Or.inl rfl, mFF_0⟩, fun k hk => fR k (Or.inl hk), l2, Or.inl ⟨rfl, rfl⟩, fun g0 g1 g2 g3 f3 => ?_⟩
      obtain ⟨g0', g1', g2', g3', f3', eC, -⟩ := hC g0 g1 g2 g3 f3
      exact ⟨_, eC, Or.inl rfl, g0', g1', g2', g3', f3', cFF_0 (by omega)⟩
    · exact absurd h (by omega)
  | succ n ih =>
    intro w i R h1 h2 h3
    obtain ⟨c, m, e, i', R', eM, fR, l1, l2, hcm, hC⟩ := PW_b hR hL (w := w) (i := i) (by omega) h2 R
    have M0 : ∀ (a b d : Int32) (r : Nat → Int32), s_X5_faultOf_L1 (nI L) Pd s_X5_faultOf_X1 (fm + (n + 1) + 2) (a, b, d, r) = s_X5_faultOf_B1 (nI L) Pd s_X5_faultOf_X1 (s_X5_faultOf_L1 (nI L) Pd s_X5_faultOf_X1 (fm + n + 2)) a b d r := fun a b d r => rfl
    have C0 : ∀ (a b d x0 x1 x2 x3 : Int32) (r : Nat → Int32), s_X1_firstFault_L1 (nI L) S s_X1_firstFault_X1 (fc + (n + 1) + 2) (a, b, d, x0, x1, x2, x3, r) = s_X1_firstFault_B1 (nI L) S s_X1_firstFault_X1 (s_X1_firstFault_L1 (nI L) S s_X1_firstFault_X1 (fc + n + 2)) a b d x0 x1 x2 x3 r := fun a b d x0 x1 x2 x3 r => rfl
    have w60 : ¬ (60 : Int32) ≤ nI w := nI_ge (a := w) (b := 60) (by omega) (by omega)
    rcases hcm with ⟨rfl, rfl, rfl, hlt⟩ | ⟨rfl, rfl, rfl⟩ | ⟨rfl, rfl, rfl, hiL, hsg⟩
    · by_cases hE : L ≤ i'
      · have e : i' = L := by omega
        refine ⟨-1, -6, w + 1, i', R', ⟨_, eM, Or.inr rfl, ?_⟩, fun k hk => fR k (Or.inl hk), l2, Or.inr ⟨rfl, rfl, 1, rfl, by omega, i', hlt, l2, fun g0 g1 g2 g3 f3 => ?_, Or.inl ⟨rfl, e⟩⟩, fun g0 g1 g2 g3 f3 => ?_⟩
        · show s_X5_faultOf_L1 (nI L) Pd s_X5_faultOf_X1 (fm + (n + 1) + 2) (1, nI i', nI (w + 1), R') = _
          rw [M0]
          unfold s_X5_faultOf_B1 s_X5_faultOf_X1
          rw [if_neg one_ne, if_pos (nI_le hE (by omega))]
          dsimp only
          rw [if_neg one_ne]
        · obtain ⟨g0', g1', g2', g3', f3', eC, hW⟩ := hC g0 g1 g2 g3 f3
          exact ⟨g0', g1', g2', g3', f3', eC, hW rfl⟩
        · obtain ⟨g0', g1', g2', g3', f3', eC, hW⟩ := hC g0 g1 g2 g3 f3
          refine ⟨_, eC, Or.inr rfl, g0', g1', g2', g3', f3', ?_⟩
          show s_X1_firstFault_L1 (nI L) S s_X1_firstFault_X1 (fc + (n + 1) + 2) (1, nI w, nI i', g0', g1', g2', g3', f3') = _
          rw [C0]
          unfold s_X1_firstFault_B1 s_X1_firstFault_X1
          rw [if_neg w60, if_neg one_ne, if_pos (nI_le hE (by omega))]
          dsimp only
          rw [if_neg one_ne]
      · have hE' : ¬ nI L ≤ nI i' := nI_ge (by omega) (by omega)
        by_cases h59 : sg t L i' = 59
        · have mA : s_X5_accepts (nI L) (nI i') Pd 59 = some (1, nI (i' + 1)) := mAcc_y (a := 59) hR hL (by omega) (by omega) h59
          have cS : s_X1_readSign (nI L) (nI i') S 59 = some (1, nI (i' + 1)) := cRs_y (a := 59) hR hL (by omega) h59
          obtain ⟨vm, vc, W, j, R2, ⟨rm, eM2, r01, lM2⟩, fR2, j2, hv, hC2⟩ := ih (w + 1) (i' + 1) R' (by omega) (by omega) (by omega)
          refine ⟨vm, vc, W, j, R2, ⟨_, eM, Or.inr rfl, ?_⟩, fun k hk => (fR2 k (by omega)).trans (fR k (Or.inl hk)), j2, ?_, fun g0 g1 g2 g3 f3 => ?_⟩
          · show s_X5_faultOf_L1 (nI L) Pd s_X5_faultOf_X1 (fm + (n + 1) + 2) (1, nI i', nI (w + 1), R') = _
            rw [M0]
            unfold s_X5_faultOf_B1
            rw [if_neg one_ne, if_neg hE', cl_e mA]
            dsimp only
            rw [if_neg one_ne, cl_e eM2]
            rcases r01 with r | r
            · rw [if_pos r]
              rw [r] at lM2
              exact lM2
            · rw [if_neg (by rw [r]; exact one_ne)]
              rw [r] at lM2
              exact lM2
          · rcases hv with h | ⟨a, b, n2, hW, hW2, hch⟩
            · exact Or.inl h
            · refine Or.inr ⟨a, b, n2 + 1, by omega, hW2, i', hlt, l2, fun g0 g1 g2 g3 f3 => ?_, Or.inr ⟨by omega, h59, hch⟩⟩
              obtain ⟨g0', g1', g2', g3', f3', eC, hK⟩ := hC g0 g1 g2 g3 f3
              exact ⟨g0', g1', g2', g3', f3', eC, (hK rfl).mono (fun k k1 k2 => fR2 k (by omega))⟩
          · obtain ⟨g0', g1', g2', g3', f3', eC, -⟩ := hC g0 g1 g2 g3 f3
            obtain ⟨rc, eC2, r01c, h0, h1', h2', h3', hf, lC2⟩ := hC2 g0' g1' g2' g3' f3'
            refine ⟨_, eC, Or.inr rfl, h0, h1', h2', h3', hf, ?_⟩
            show s_X1_firstFault_L1 (nI L) S s_X1_firstFault_X1 (fc + (n + 1) + 2) (1, nI w, nI i', g0', g1', g2', g3', f3') = _
            rw [C0]
            unfold s_X1_firstFault_B1
            rw [if_neg w60, if_neg one_ne, if_neg hE', cl_e cS]
            dsimp only
            rw [if_neg one_ne, cl_e eC2]
            rcases r01c with r | r
            · rw [if_pos r, nm_e', nI_1]
              rw [r] at lC2
              exact lC2
            · rw [if_neg (by rw [r]; exact one_ne), nm_e', nI_1]
              rw [r] at lC2
              exact lC2
        · have mA : s_X5_accepts (nI L) (nI i') Pd 59 = some (0, nI i') := mAcc_n (a := 59) hR hL (by omega) (by omega) h59
          have cS : s_X1_readSign (nI L) (nI i') S 59 = some (0, nI i') := cRs_n (a := 59) hR hL (by omega) (by omega) h59
          refine ⟨nI i', nI i', w + 1, i', R', ⟨_, eM, Or.inr rfl, ?_⟩, fun k hk => fR k (Or.inl hk), l2, Or.inl ⟨rfl, rfl⟩, fun g0 g1 g2 g3 f3 => ?_⟩
          · show s_X5_faultOf_L1 (nI L) Pd s_X5_faultOf_X1 (fm + (n + 1) + 2) (1, nI i', nI (w + 1), R') = _
            rw [M0]
            unfold s_X5_faultOf_B1
            rw [if_neg one_ne, if_neg hE', cl_e mA]
            dsimp only
            rw [if_pos rfl]
            exact mFF_0
          · obtain ⟨g0', g1', g2', g3', f3', eC, -⟩ := hC g0 g1 g2 g3 f3
            refine ⟨_, eC, Or.inr rfl, g0', g1', g2', g3', f3', ?_⟩
            show s_X1_firstFault_L1 (nI L) S s_X1_firstFault_X1 (fc + (n + 1) + 2) (1, nI w, nI i', g0', g1', g2', g3', f3') = _
            rw [C0]
            unfold s_X1_firstFault_B1
            rw [if_neg w60, if_neg one_ne, if_neg hE', cl_e cS]
            dsimp only
            rw [if_pos rfl, nm_e', nI_1]
            exact cFF_0 (by omega)
    · refine ⟨nI i', nI i', w + 0, i', R', ⟨_, eM, Or.inl rfl, mFF_0⟩, fun k hk => fR k (Or.inl hk), l2, Or.inl ⟨rfl, rfl⟩, fun g0 g1 g2 g3 f3 => ?_⟩
      obtain ⟨g0', g1', g2', g3', f3', eC, -⟩ := hC g0 g1 g2 g3 f3
      exact ⟨_, eC, Or.inl rfl, g0', g1', g2', g3', f3', cFF_0 (by omega)⟩
    · have hE' : ¬ nI L ≤ nI i' := nI_ge hiL (by omega)
      have mA : s_X5_accepts (nI L) (nI i') Pd 59 = some (0, nI i') := mAcc_n (a := 59) hR hL (by omega) (by omega) hsg
      refine ⟨nI i', nI i', w + 1, i', R', ⟨_, eM, Or.inr rfl, ?_⟩, fun k hk => fR k (Or.inl hk), l2, Or.inl ⟨rfl, rfl⟩, fun g0 g1 g2 g3 f3 => ?_⟩
      · show s_X5_faultOf_L1 (nI L) Pd s_X5_faultOf_X1 (fm + (n + 1) + 2) (1, nI i', nI (w + 1), R') = _
        rw [M0]
        unfold s_X5_faultOf_B1
        rw [if_neg one_ne, if_neg hE', cl_e mA]
        dsimp only
        rw [if_pos rfl]
        exact mFF_0
      · obtain ⟨g0', g1', g2', g3', f3', eC, -⟩ := hC g0 g1 g2 g3 f3
        exact ⟨_, eC, Or.inl rfl, g0', g1', g2', g3', f3', cFF_0 (by omega)⟩
theorem FF_all {S Pd : Nat → Int32} {t : Nat → Nat} {L : Nat} (hR : RT S Pd t) (hL : L ≤ 60) (R : Nat → Int32) : ∃ (vm vc : Int32) (W j : Nat) (R' : Nat → Int32), s_X5_faultOf (nI L) R Pd = some (vm, nI W, nI j, R') ∧ j ≤ L ∧ ((vm = nI j ∧ vc = nI j) ∨ (vm = -1 ∧ vc = -6 ∧ W ≤ 31 ∧ chn S t L R' W 0 0)) ∧ ∀ (g0 g1 g2 g3 : Int32) (f3 : Nat → Int32), ∃ (g0' g1' g2' g3' : Int32) (f3' : Nat → Int32), s_X1_firstFault (nI L) S g0 g1 g2 g3 f3 = some (vc, nI j, g0', g1', g2', g3', f3') := by
  obtain ⟨vm, vc, W, j, R', ⟨rm, eM, -, lM⟩, -, hj, hv, hC⟩ := FF_b hR hL 938 938 60 0 0 R (by omega) (by omega) (by omega)
  refine ⟨vm, vc, W, j, R', ?_, hj, ?_, fun g0 g1 g2 g3 f3 => ?_⟩
  · have eM' : s_X5_readsWork (nI L) 0 0 R Pd = some rm := eM
    unfold s_X5_faultOf
    rw [cl_e eM']
    exact lM
  · rcases hv with h | ⟨a, b, n, hW, hW2, hch⟩
    · exact Or.inl h
    · refine Or.inr ⟨a, b, hW2, ?_⟩
      rw [show W = n by omega]
      exact hch
  · obtain ⟨rc, eC, -, g0', g1', g2', g3', f3', lC⟩ := hC g0 g1 g2 g3 f3
    refine ⟨g0', g1', g2', g3', f3', ?_⟩
    have eC' : s_X1_readWork (nI L) 0 S g0 g1 g2 g3 f3 = some rc := eC
    unfold s_X1_firstFault
    rw [cl_e eC']
    exact lC
theorem B_fault {S Pd : Nat → Int32} {t : Nat → Nat} {L : Nat} (hR : RT S Pd t) (hL : L ≤ 60) (R : Nat → Int32) (g0 g1 g2 g3 : Int32) (f3 : Nat → Int32) : ∃ (v : Int32) (p g0' g1' g2' g3' : Int32) (f3' : Nat → Int32) (W a : Int32) (R' : Nat → Int32), s_X4_fault (nI L) S g0 g1 g2 g3 f3 = some (v, p, g0', g1', g2', g3', f3') ∧ s_X5_fault (nI L) R Pd = some (v, W, a, R') := by
  obtain ⟨vm, vc, W, j, R', eM, hj, hv, hC⟩ := FF_all hR hL R
  obtain ⟨g0', g1', g2', g3', f3', eC⟩ := hC g0 g1 g2 g3 f3
  refine ⟨vc, nI j, g0', g1', g2', g3', f3', nI W, nI j, R', ?_, ?_⟩
  · unfold s_X4_fault
    rw [cl_e eC]
  · unfold s_X5_fault
    rw [cl_e eM]
    dsimp only
    rcases hv with ⟨rfl, rfl⟩ | ⟨rfl, rfl, -, -⟩
    · rw [if_pos (show (0 : Int32) ≤ nI j from nI_pos' (by omega))]
    · rw [if_neg (show ¬ (0 : Int32) ≤ -1 by decide)]
