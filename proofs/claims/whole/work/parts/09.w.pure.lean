-- pure: mixtures, the loops
theorem cTP_3 {w fa fb : Nat → Int32} {N : Nat → Nat} {c P k i : Nat} {s : Int32 × Nat} {kk : (Nat → Int32) → Option ((Nat → Int32) × (Nat → Int32) × (Nat → Int32))} (hw : ∀ k, k < 18 → w k = nI (N (wm k))) (I : Inv N c) (hP : P < 6) (hk : k < 64) (hi : i < 9) (a0 : 0 < po N (k / 8)) (b0 : 0 < po N (k % 8)) (ea : ∀ i, i < 3 → fa i = nI (100 * N (qp (k / 8) + i) * po N (k % 8))) (eb : ∀ i, i < 3 → fb i = nI (100 * N (qp (k % 8) + i) * po N (k / 8))) (fu : Nat) : ∀ (n j : Nat) (y : Nat → Int32), j + n = 9 → MB y (mxi N P k s (9 * i + j)) → ∃ y', MB y' (mxi N P k s (9 * i + 9)) ∧ s_X0_tryParts_L3 (nI (po N (k / 8))) (nI (po N (k % 8))) (nI (1 + i)) fa fb w (nI P) (nI (k / 8)) (nI (k % 8)) kk (fu + n + 1) (nI (1 + j), y) = kk y'
  | 0, j, y, h, hy => by
    have e : j = 9 := by omega
    subst e
    refine ⟨y, hy, ?_⟩
    show s_X0_tryParts_B3 _ _ _ fa fb w _ _ _ kk _ (nI 10) y = _
    unfold s_X0_tryParts_B3
    rw [if_pos (show (9 : Int32) < nI 10 from nI_lt (a := 9) (b := 10) (by omega) (by omega))]
  | n + 1, j, y, h, hy => by
    obtain ⟨y1, h1, e1⟩ := cTP_s (kk := kk) (m := 9 * i + j) (fu := fu + n + 1) hw I hP hk (by omega) a0 b0 ea eb hy
    rw [show (9 * i + j) / 9 = i by omega, show (9 * i + j) % 9 = j by omega] at e1
    obtain ⟨y2, h2, e2⟩ := cTP_3 (kk := kk) hw I hP hk hi a0 b0 ea eb fu n (j + 1) y1 (by omega) h1
    exact ⟨y2, h2, e1.trans e2⟩
theorem cTP_2 {w fa fb : Nat → Int32} {N : Nat → Nat} {c P k : Nat} {s : Int32 × Nat} {kk : (Nat → Int32) → Option ((Nat → Int32) × (Nat → Int32) × (Nat → Int32))} (hw : ∀ k, k < 18 → w k = nI (N (wm k))) (I : Inv N c) (hP : P < 6) (hk : k < 64) (a0 : 0 < po N (k / 8)) (b0 : 0 < po N (k % 8)) (ea : ∀ i, i < 3 → fa i = nI (100 * N (qp (k / 8) + i) * po N (k % 8))) (eb : ∀ i, i < 3 → fb i = nI (100 * N (qp (k % 8) + i) * po N (k / 8))) (fu : Nat) : ∀ (n i : Nat) (y : Nat → Int32), i + n = 9 → MB y (mxi N P k s (9 * i)) → ∃ y', MB y' (mxi N P k s 81) ∧ s_X0_tryParts_L2 (nI (po N (k / 8))) (nI (po N (k % 8))) fa fb w (nI P) (nI (k / 8)) (nI (k % 8)) kk (fu + n + 1) (nI (1 + i), y) = kk y'
  | 0, i, y, h, hy => by
    have e : i = 9 := by omega
    subst e
    refine ⟨y, hy, ?_⟩
    show s_X0_tryParts_B2 _ _ fa fb w _ _ _ kk _ (nI 10) y = _
    unfold s_X0_tryParts_B2
    rw [if_pos (show (9 : Int32) < nI 10 from nI_lt (a := 9) (b := 10) (by omega) (by omega))]
  | n + 1, i, y, h, hy => by
    obtain ⟨y1, h1, e1⟩ := cTP_3 (i := i) (kk := s_X0_tryParts_X3 (s_X0_tryParts_L2 (nI (po N (k / 8))) (nI (po N (k % 8))) fa fb w (nI P) (nI (k / 8)) (nI (k % 8)) kk (fu + n + 1)) (nI (1 + i))) hw I hP hk (by omega) a0 b0 ea eb 990 9 0 y (by omega) hy
    obtain ⟨y2, h2, e2⟩ := cTP_2 (kk := kk) hw I hP hk a0 b0 ea eb fu n (i + 1) y1 (by omega) h1
    refine ⟨y2, h2, Eq.trans ?_ e2⟩
    show s_X0_tryParts_B2 (nI (po N (k / 8))) (nI (po N (k % 8))) fa fb w (nI P) (nI (k / 8)) (nI (k % 8)) kk (s_X0_tryParts_L2 (nI (po N (k / 8))) (nI (po N (k % 8))) fa fb w (nI P) (nI (k / 8)) (nI (k % 8)) kk (fu + n + 1)) (nI (1 + i)) y = _
    unfold s_X0_tryParts_B2
    rw [if_neg (show ¬ (9 : Int32) < nI (1 + i) from nI_nlt (a := 9) (by omega) (by omega))]
    refine Eq.trans e1 ?_
    unfold s_X0_tryParts_X3
    rw [nm_e', nI_1]
    rfl
theorem cTF_s {d ya yb : Nat → Int32} {N : Nat → Nat} {a b i fu : Nat} {kk : (Nat → Int32) × (Nat → Int32) → Option ((Nat → Int32) × (Nat → Int32) × (Nat → Int32))} (hd : RD d N) (ha : a < 8) (hb : b < 8) (hi : i < 3) : s_X0_tryParts_L1 d (nI a) (nI (po N b)) (nI b) (nI (po N a)) kk (fu + 1) (nI i, ya, yb) = s_X0_tryParts_L1 d (nI a) (nI (po N b)) (nI b) (nI (po N a)) kk fu (nI (i + 1), upd ya i (nI (100 * N (qp a + i) * po N b)), upd yb i (nI (100 * N (qp b + i) * po N a))) := by
  show s_X0_tryParts_B1 d (nI a) (nI (po N b)) (nI b) (nI (po N a)) kk (s_X0_tryParts_L1 d (nI a) (nI (po N b)) (nI b) (nI (po N a)) kk fu) (nI i) ya yb = _
  unfold s_X0_tryParts_B1
  rw [if_neg (show ¬ (3 : Int32) ≤ nI i from nI_ge (a := i) (b := 3) (by omega) (by omega)), cl_e (cDO hd (by omega) (by omega)), cl_e (write_n hi (by omega)), cl_e (cDO hd (by omega) (by omega)), cl_e (write_n hi (by omega)), nm_e', nI_1]
  rw [show (100 : Int32) * nI (N (qp a + i)) = nI (100 * N (qp a + i)) from pk_mul 100 _, show (100 : Int32) * nI (N (qp b + i)) = nI (100 * N (qp b + i)) from pk_mul 100 _, pk_mul, pk_mul]
theorem cTry {d w y ya yb : Nat → Int32} {N : Nat → Nat} {c P k : Nat} {s : Int32 × Nat} (hd : RD d N) (hw : ∀ k, k < 18 → w k = nI (N (wm k))) (I : Inv N c) (hP : P < 6) (hk : k < 64) (a0 : 0 < po N (k / 8)) (b0 : 0 < po N (k % 8)) (hy : MB y s) : ∃ y' a' b', MB y' (mxi N P k s 81) ∧ s_X0_tryParts d w y ya yb (nI P) (nI (k / 8)) (nI (k % 8)) = some (y', a', b') := by
  have ea : ∀ i, i < 3 → upd (upd (upd ya 0 (nI (100 * N (qp (k / 8) + 0) * po N (k % 8)))) 1 (nI (100 * N (qp (k / 8) + 1) * po N (k % 8)))) 2 (nI (100 * N (qp (k / 8) + 2) * po N (k % 8))) i = nI (100 * N (qp (k / 8) + i) * po N (k % 8)) := fun i hi => by
    rcases (show i = 0 ∨ i = 1 ∨ i = 2 by omega) with rfl | rfl | rfl
    · rw [pk_un (by omega), pk_un (by omega), pk_us]
    · rw [pk_un (by omega), pk_us]
    · rw [pk_us]
  have eb : ∀ i, i < 3 → upd (upd (upd yb 0 (nI (100 * N (qp (k % 8) + 0) * po N (k / 8)))) 1 (nI (100 * N (qp (k % 8) + 1) * po N (k / 8)))) 2 (nI (100 * N (qp (k % 8) + 2) * po N (k / 8))) i = nI (100 * N (qp (k % 8) + i) * po N (k / 8)) := fun i hi => by
    rcases (show i = 0 ∨ i = 1 ∨ i = 2 by omega) with rfl | rfl | rfl
    · rw [pk_un (by omega), pk_un (by omega), pk_us]
    · rw [pk_un (by omega), pk_us]
    · rw [pk_us]
  obtain ⟨y', hy', e'⟩ := cTP_2 (kk := s_X0_tryParts_X2 (upd (upd (upd ya 0 (nI (100 * N (qp (k / 8) + 0) * po N (k % 8)))) 1 (nI (100 * N (qp (k / 8) + 1) * po N (k % 8)))) 2 (nI (100 * N (qp (k / 8) + 2) * po N (k % 8)))) (upd (upd (upd yb 0 (nI (100 * N (qp (k % 8) + 0) * po N (k / 8)))) 1 (nI (100 * N (qp (k % 8) + 1) * po N (k / 8)))) 2 (nI (100 * N (qp (k % 8) + 2) * po N (k / 8))))) hw I hP hk a0 b0 ea eb 990 9 0 y (by omega) (s := s) hy
  refine ⟨y', (upd (upd (upd ya 0 (nI (100 * N (qp (k / 8) + 0) * po N (k % 8)))) 1 (nI (100 * N (qp (k / 8) + 1) * po N (k % 8)))) 2 (nI (100 * N (qp (k / 8) + 2) * po N (k % 8)))), (upd (upd (upd yb 0 (nI (100 * N (qp (k % 8) + 0) * po N (k / 8)))) 1 (nI (100 * N (qp (k % 8) + 1) * po N (k / 8)))) 2 (nI (100 * N (qp (k % 8) + 2) * po N (k / 8)))), hy', ?_⟩
  unfold s_X0_tryParts
  rw [cl_e (cAll hd (by omega)), cl_e (cAll hd (by omega))]
  refine (cTF_s (fu := 999) (i := 0) hd (by omega) (by omega) (by omega)).trans ?_
  refine (cTF_s (fu := 998) (i := 1) hd (by omega) (by omega) (by omega)).trans ?_
  refine (cTF_s (fu := 997) (i := 2) hd (by omega) (by omega) (by omega)).trans ?_
  show s_X0_tryParts_B1 d _ _ _ _ _ _ (nI 3) _ _ = _
  unfold s_X0_tryParts_B1 s_X0_tryParts_X1
  rw [if_pos (show (3 : Int32) ≤ nI 3 from nI_le (a := 3) (b := 3) (by omega) (by omega))]
  exact e'
theorem mxo_low {N : Nat → Nat} {P lo : Nat} (hl : lo < 8) : ∀ j, j ≤ lo + 1 → j ≤ 8 → mxo N P (8 * lo + j) = mxo N P (8 * lo)
  | 0, _, _ => rfl
  | j + 1, h, h8 => by
    have e : mxo N P (8 * lo + j + 1) = if (8 * lo + j) / 8 < (8 * lo + j) % 8 ∧ 0 < po N ((8 * lo + j) / 8) ∧ 0 < po N ((8 * lo + j) % 8) then mxi N P (8 * lo + j) (mxo N P (8 * lo + j)) 81 else mxo N P (8 * lo + j) := rfl
    rw [show 8 * lo + (j + 1) = 8 * lo + j + 1 from rfl, e, if_neg (fun q => absurd q.1 (by omega))]
    exact mxo_low hl j (by omega) (by omega)
theorem cMo_2 {d w : Nat → Int32} {N : Nat → Nat} {c P lo : Nat} {kk : (Nat → Int32) × (Nat → Int32) × (Nat → Int32) → Option (Int32 × (Nat → Int32) × (Nat → Int32) × (Nat → Int32))} (hd : RD d N) (hw : ∀ k, k < 18 → w k = nI (N (wm k))) (I : Inv N c) (hP : P < 6) (hl : lo < 8) (fu : Nat) : ∀ (n j : Nat) (y ya yb : Nat → Int32), j + n = 8 → lo < j → MB y (mxo N P (8 * lo + j)) → ∃ y' a' b', MB y' (mxo N P (8 * lo + 8)) ∧ s_X0_mixture_L2 d (nI lo) w (nI P) kk (fu + n + 1) (nI j, y, ya, yb) = kk (y', a', b')
  | 0, j, y, ya, yb, h, hj, hy => by
    have e : j = 8 := by omega
    subst e
    refine ⟨y, ya, yb, hy, ?_⟩
    show s_X0_mixture_B2 d _ w _ kk _ (nI 8) y ya yb = _
    unfold s_X0_mixture_B2
    rw [if_pos (show (8 : Int32) ≤ nI 8 from nI_le (a := 8) (b := 8) (by omega) (by omega))]
  | n + 1, j, y, ya, yb, h, hj, hy => by
    have pa : po N lo ≤ 81 := I.q (p := lo) (by omega)
    have pb : po N j ≤ 81 := I.q (p := j) (by omega)
    have es : mxo N P (8 * lo + (j + 1)) = if (8 * lo + j) / 8 < (8 * lo + j) % 8 ∧ 0 < po N ((8 * lo + j) / 8) ∧ 0 < po N ((8 * lo + j) % 8) then mxi N P (8 * lo + j) (mxo N P (8 * lo + j)) 81 else mxo N P (8 * lo + j) := rfl
    rw [show (8 * lo + j) / 8 = lo by omega, show (8 * lo + j) % 8 = j by omega] at es
    have go : ∀ y1 a1 b1, MB y1 (mxo N P (8 * lo + (j + 1))) → (s_X0_mixture_B2 d (nI lo) w (nI P) kk (s_X0_mixture_L2 d (nI lo) w (nI P) kk (fu + n + 1)) (nI j) y ya yb = s_X0_mixture_L2 d (nI lo) w (nI P) kk (fu + n + 1) (nI (j + 1), y1, a1, b1)) → ∃ y' a' b', MB y' (mxo N P (8 * lo + 8)) ∧ s_X0_mixture_L2 d (nI lo) w (nI P) kk (fu + (n + 1) + 1) (nI j, y, ya, yb) = kk (y', a', b') := fun y1 a1 b1 h1 e1 => by
      obtain ⟨y2, a2, b2, h2, e2⟩ := cMo_2 (kk := kk) hd hw I hP hl fu n (j + 1) y1 a1 b1 (by omega) (by omega) h1
      exact ⟨y2, a2, b2, h2, Eq.trans e1 e2⟩
    by_cases za : po N lo = 0
    · refine go y ya yb (by rw [es, if_neg (fun q => absurd q.2.1 (by omega))]; exact hy) ?_
      unfold s_X0_mixture_B2
      rw [if_neg (show ¬ (8 : Int32) ≤ nI j from nI_ge (a := j) (b := 8) (by omega) (by omega)), cl_e (cHP hd (by omega) pa), if_pos za, if_pos rfl, nm_e', nI_1]
    · by_cases zb : po N j = 0
      · refine go y ya yb (by rw [es, if_neg (fun q => absurd q.2.2 (by omega))]; exact hy) ?_
        unfold s_X0_mixture_B2
        rw [if_neg (show ¬ (8 : Int32) ≤ nI j from nI_ge (a := j) (b := 8) (by omega) (by omega)), cl_e (cHP hd (by omega) pa), if_neg za, if_neg one_ne, cl_e (cHP hd (by omega) pb), if_pos zb, if_pos rfl, nm_e', nI_1]
      · obtain ⟨y1, a1, b1, h1, e1⟩ := cTry (ya := ya) (yb := yb) (k := 8 * lo + j) (P := P) hd hw I hP (by omega) (by rw [show (8 * lo + j) / 8 = lo by omega]; omega) (by rw [show (8 * lo + j) % 8 = j by omega]; omega) hy
        rw [show (8 * lo + j) / 8 = lo by omega, show (8 * lo + j) % 8 = j by omega] at e1
        refine go y1 a1 b1 (by rw [es, if_pos ⟨hj, by omega, by omega⟩]; exact h1) ?_
        unfold s_X0_mixture_B2
        rw [if_neg (show ¬ (8 : Int32) ≤ nI j from nI_ge (a := j) (b := 8) (by omega) (by omega)), cl_e (cHP hd (by omega) pa), if_neg za, if_neg one_ne, cl_e (cHP hd (by omega) pb), if_neg zb, if_neg one_ne, cl_e e1, nm_e', nI_1]
theorem cMo_1 {d w : Nat → Int32} {N : Nat → Nat} {c P : Nat} {kk : (Nat → Int32) × (Nat → Int32) × (Nat → Int32) → Option (Int32 × (Nat → Int32) × (Nat → Int32) × (Nat → Int32))} (hd : RD d N) (hw : ∀ k, k < 18 → w k = nI (N (wm k))) (I : Inv N c) (hP : P < 6) (fu : Nat) : ∀ (n lo : Nat) (y ya yb : Nat → Int32), lo + n = 8 → MB y (mxo N P (8 * lo)) → ∃ y' a' b', MB y' (mxo N P 64) ∧ s_X0_mixture_L1 d w (nI P) kk (fu + n + 1) (nI lo, y, ya, yb) = kk (y', a', b')
  | 0, lo, y, ya, yb, h, hy => by
    have e : lo = 8 := by omega
    subst e
    refine ⟨y, ya, yb, hy, ?_⟩
    show s_X0_mixture_B1 d w _ kk _ (nI 8) y ya yb = _
    unfold s_X0_mixture_B1
    rw [if_pos (show (8 : Int32) ≤ nI 8 from nI_le (a := 8) (b := 8) (by omega) (by omega))]
  | n + 1, lo, y, ya, yb, h, hy => by
    have hl : lo < 8 := by omega
    have e0 := mxo_low (N := N) (P := P) hl (lo + 1) (Nat.le_refl _) (by omega)
    obtain ⟨y1, a1, b1, h1, e1⟩ := cMo_2 (kk := s_X0_mixture_X2 (s_X0_mixture_L1 d w (nI P) kk (fu + n + 1)) (nI lo)) hd hw I hP hl (999 - (7 - lo)) (7 - lo) (lo + 1) y ya yb (by omega) (by omega) (by rw [e0]; exact hy)
    rw [show 999 - (7 - lo) + (7 - lo) + 1 = 1000 by omega] at e1
    obtain ⟨y2, a2, b2, h2, e2⟩ := cMo_1 (kk := kk) hd hw I hP fu n (lo + 1) y1 a1 b1 (by omega) h1
    refine ⟨y2, a2, b2, h2, Eq.trans ?_ e2⟩
    show s_X0_mixture_B1 d w (nI P) kk (s_X0_mixture_L1 d w (nI P) kk (fu + n + 1)) (nI lo) y ya yb = _
    unfold s_X0_mixture_B1
    rw [if_neg (show ¬ (8 : Int32) ≤ nI lo from nI_ge (a := lo) (b := 8) (by omega) (by omega)), nm_e', nI_1, e1]
    unfold s_X0_mixture_X2
    rw [nm_e', nI_1]
theorem mMi {f : Nat → Int32} {N : Nat → Nat} {c P k : Nat} {s : Int32 × Nat} {kk : Int32 × Int32 × (Nat → Int32) → Option (Int32 × (Nat → Int32))} (hf : RM f N) (I : Inv N c) (hP : P < 6) (hk : k < 64) (a0 : 0 < po N (k / 8)) (b0 : 0 < po N (k % 8)) (hs : s.2 ≤ 1000) (fu : Nat) : ∀ (n m : Nat) (g : Nat → Int32), m + n = 81 → (mxi N P k s m).2 ≤ 1000 → ∃ g', s_X5_bestMixture_L5 (nI k) f (nI P) kk (fu + n + 1) ((mxi N P k s m).1, nI (mxi N P k s m).2, nI m, g) = kk ((mxi N P k s 81).1, nI (mxi N P k s 81).2, g')
  | 0, m, g, h, hm => by
    have e : m = 81 := by omega
    subst e
    refine ⟨g, ?_⟩
    show s_X5_bestMixture_B5 _ f _ kk _ _ _ (nI 81) g = _
    unfold s_X5_bestMixture_B5
    rw [if_pos (show (81 : Int32) ≤ nI 81 from nI_le (a := 81) (b := 81) (by omega) (by omega))]
  | n + 1, m, g, h, hm => by
    have md : mdk N P k m ≤ 300 := mdn_le I hP
    have es : mxi N P k s (m + 1) = if (mxi N P k s m).2 ≤ mdk N P k m then mxi N P k s m else (nI (81 * k + m), mdk N P k m) := rfl
    obtain ⟨g1, e1⟩ := mMx (a := k / 8) (b := k % 8) (r := 1 + m / 9) (o := 1 + m % 9) hf I hP (by omega) (by omega) a0 b0 (by omega) (by omega) (by omega) g
    obtain ⟨g2, e2⟩ := mMi (kk := kk) (s := s) hf I hP hk a0 b0 hs fu n (m + 1) g1 (by omega) (by rw [es]; split <;> omega)
    refine ⟨g2, Eq.trans ?_ e2⟩
    have d8 : ∀ {β : Type} (q : Int32 → Option β), dv (nI k) 8 q = q (nI (k / 8)) := fun q => by rw [dv_n (by decide), show (8 : Int32) = nI 8 from rfl, pk_div (by omega) (by omega) (by omega)]
    have r8 : ∀ {β : Type} (q : Int32 → Option β), rmd (nI k) 8 q = q (nI (k % 8)) := fun q => by rw [rmd_n (by decide), show (8 : Int32) = nI 8 from rfl, pk_rem (by omega) (by omega) (by omega)]
    have d9 : ∀ {β : Type} (q : Int32 → Option β), dv (nI m) 9 q = q (nI (m / 9)) := fun q => by rw [dv_n (by decide), show (9 : Int32) = nI 9 from rfl, pk_div (by omega) (by omega) (by omega)]
    have r9 : ∀ {β : Type} (q : Int32 → Option β), rmd (nI m) 9 q = q (nI (m % 9)) := fun q => by rw [rmd_n (by decide), show (9 : Int32) = nI 9 from rfl, pk_rem (by omega) (by omega) (by omega)]
    show s_X5_bestMixture_B5 (nI k) f (nI P) kk (s_X5_bestMixture_L5 (nI k) f (nI P) kk (fu + n + 1)) (mxi N P k s m).1 (nI (mxi N P k s m).2) (nI m) g = _
    unfold s_X5_bestMixture_B5
    rw [if_neg (show ¬ (81 : Int32) ≤ nI m from nI_ge (a := m) (b := 81) (by omega) (by omega)), d8, r8, d9, r9, show (1 : Int32) + nI (m / 9) = nI (1 + m / 9) from nI_add 1 _, show (1 : Int32) + nI (m % 9) = nI (1 + m % 9) from nI_add 1 _, cl_e e1, es]
    dsimp only
    by_cases hl : (mxi N P k s m).2 ≤ mdk N P k m
    · have hl' : nI (mxi N P k s m).2 ≤ nI (mdn N P (k / 8) (k % 8) (1 + m / 9) (1 + m % 9)) := nI_le hl (by unfold mdk at md; omega)
      rw [if_pos hl, if_pos hl', if_pos hl', nm_e', nI_1]
    · have hl' : ¬ nI (mxi N P k s m).2 ≤ nI (mdn N P (k / 8) (k % 8) (1 + m / 9) (1 + m % 9)) := nI_ge (by unfold mdk at hl; omega) (by omega)
      rw [if_neg hl, if_neg hl', nm_e', if_neg hl', nm_e', nI_1, show (81 : Int32) * nI k = nI (81 * k) from pk_mul 81 _, nI_add]
      rfl
theorem mxi_le {N : Nat → Nat} {c P k : Nat} {s : Int32 × Nat} (I : Inv N c) (hP : P < 6) (hs : s.2 ≤ 1000) : ∀ m, (mxi N P k s m).2 ≤ 1000
  | 0 => hs
  | m + 1 => by
    have h := mxi_le (k := k) I hP hs m
    have md : mdk N P k m ≤ 300 := mdn_le I hP
    unfold mxi
    split
    · exact h
    · show mdk N P k m ≤ 1000
      omega
theorem mxo_le {N : Nat → Nat} {c P : Nat} (I : Inv N c) (hP : P < 6) : ∀ k, (mxo N P k).2 ≤ 1000
  | 0 => Nat.le_refl _
  | k + 1 => by
    have h := mxo_le I hP k
    unfold mxo
    split
    · exact mxi_le I hP h 81
    · exact h
theorem mMo {f : Nat → Int32} {N : Nat → Nat} {c P : Nat} {kk : Int32 × Int32 × (Nat → Int32) → Option (Int32 × (Nat → Int32))} (hf : RM f N) (I : Inv N c) (hP : P < 6) (fu : Nat) : ∀ (n k : Nat) (g : Nat → Int32), k + n = 64 → ∃ g', s_X5_bestMixture_L1 f (nI P) kk (fu + n + 1) ((mxo N P k).1, nI (mxo N P k).2, nI k, g) = kk ((mxo N P 64).1, nI (mxo N P 64).2, g')
  | 0, k, g, h => by
    have e : k = 64 := by omega
    subst e
    refine ⟨g, ?_⟩
    show s_X5_bestMixture_B1 f _ kk _ _ _ (nI 64) g = _
    unfold s_X5_bestMixture_B1
    rw [if_pos (show (64 : Int32) ≤ nI 64 from nI_le (a := 64) (b := 64) (by omega) (by omega))]
  | n + 1, k, g, h => by
    have pa : po N (k / 8) ≤ 81 := I.q (p := k / 8) (by omega)
    have pb : po N (k % 8) ≤ 81 := I.q (p := k % 8) (by omega)
    have qa := qp_lt (k / 8)
    have qb := qp_lt (k % 8)
    have es : mxo N P (k + 1) = if k / 8 < k % 8 ∧ 0 < po N (k / 8) ∧ 0 < po N (k % 8) then mxi N P k (mxo N P k) 81 else mxo N P k := rfl
    have d8 : ∀ {β : Type} (q : Int32 → Option β), dv (nI k) 8 q = q (nI (k / 8)) := fun q => by rw [dv_n (by decide), show (8 : Int32) = nI 8 from rfl, pk_div (by omega) (by omega) (by omega)]
    have r8 : ∀ {β : Type} (q : Int32 → Option β), rmd (nI k) 8 q = q (nI (k % 8)) := fun q => by rw [rmd_n (by decide), show (8 : Int32) = nI 8 from rfl, pk_rem (by omega) (by omega) (by omega)]
    have go : ∀ g1, (s_X5_bestMixture_B1 f (nI P) kk (s_X5_bestMixture_L1 f (nI P) kk (fu + n + 1)) (mxo N P k).1 (nI (mxo N P k).2) (nI k) g = s_X5_bestMixture_L1 f (nI P) kk (fu + n + 1) ((mxo N P (k + 1)).1, nI (mxo N P (k + 1)).2, nI (k + 1), g1)) → ∃ g', s_X5_bestMixture_L1 f (nI P) kk (fu + (n + 1) + 1) ((mxo N P k).1, nI (mxo N P k).2, nI k, g) = kk ((mxo N P 64).1, nI (mxo N P 64).2, g') := fun g1 e1 => by
      obtain ⟨g2, e2⟩ := mMo (kk := kk) hf I hP fu n (k + 1) g1 (by omega)
      exact ⟨g2, Eq.trans e1 e2⟩
    by_cases hlt : k / 8 < k % 8
    · by_cases za : 0 < po N (k / 8)
      · by_cases zb : 0 < po N (k % 8)
        · obtain ⟨g1, e1⟩ := mMi (kk := s_X5_bestMixture_X5 (s_X5_bestMixture_L1 f (nI P) kk (fu + n + 1)) (nI k)) (s := mxo N P k) hf I hP (by omega) za zb (mxo_le I hP k) 918 81 0 g (by omega) (mxo_le I hP k)
          refine go g1 ?_
          unfold s_X5_bestMixture_B1
          rw [if_neg (show ¬ (64 : Int32) ≤ nI k from nI_ge (a := k) (b := 64) (by omega) (by omega)), d8, r8, if_neg (show ¬ nI (k % 8) ≤ nI (k / 8) from nI_ge hlt (by omega)), d8, cl_e (mP _ (by omega)), cl_e (mAll hf (by omega)), if_neg (show ¬ nI (sm4 N (qp (k / 8))) ≤ 0 from nI_nle za (Nat.lt_of_le_of_lt pa (by omega))), r8, cl_e (mP _ (by omega)), cl_e (mAll hf (by omega)), if_neg (show ¬ nI (sm4 N (qp (k % 8))) ≤ 0 from nI_nle zb (Nat.lt_of_le_of_lt pb (by omega)))]
          refine Eq.trans e1 ?_
          unfold s_X5_bestMixture_X5
          rw [nm_e', nI_1, es, if_pos ⟨hlt, za, zb⟩]
        · refine go g ?_
          have z0 : sm4 N (qp (k % 8)) = 0 := Nat.eq_zero_of_not_pos zb
          unfold s_X5_bestMixture_B1
          rw [if_neg (show ¬ (64 : Int32) ≤ nI k from nI_ge (a := k) (b := 64) (by omega) (by omega)), d8, r8, if_neg (show ¬ nI (k % 8) ≤ nI (k / 8) from nI_ge hlt (by omega)), d8, cl_e (mP _ (by omega)), cl_e (mAll hf (by omega)), if_neg (show ¬ nI (sm4 N (qp (k / 8))) ≤ 0 from nI_nle za (Nat.lt_of_le_of_lt pa (by omega))), r8, cl_e (mP _ (by omega)), cl_e (mAll hf (by omega)), if_pos (show nI (sm4 N (qp (k % 8))) ≤ 0 by rw [z0]; exact Int32.le_refl _)]
          show s_X5_bestMixture_B4 _ _ _ _ _ _ = _
          unfold s_X5_bestMixture_B4 s_X5_bestMixture_X4
          rw [ite_self, nm_e', nI_1, es, if_neg (fun q => zb q.2.2)]
      · refine go g ?_
        have z0 : sm4 N (qp (k / 8)) = 0 := Nat.eq_zero_of_not_pos za
        unfold s_X5_bestMixture_B1
        rw [if_neg (show ¬ (64 : Int32) ≤ nI k from nI_ge (a := k) (b := 64) (by omega) (by omega)), d8, r8, if_neg (show ¬ nI (k % 8) ≤ nI (k / 8) from nI_ge hlt (by omega)), d8, cl_e (mP _ (by omega)), cl_e (mAll hf (by omega)), if_pos (show nI (sm4 N (qp (k / 8))) ≤ 0 by rw [z0]; exact Int32.le_refl _)]
        show s_X5_bestMixture_B3 _ _ _ _ _ _ = _
        unfold s_X5_bestMixture_B3 s_X5_bestMixture_X3
        rw [ite_self, nm_e', nI_1, es, if_neg (fun q => za q.2.1)]
    · refine go g ?_
      unfold s_X5_bestMixture_B1
      rw [if_neg (show ¬ (64 : Int32) ≤ nI k from nI_ge (a := k) (b := 64) (by omega) (by omega)), d8, r8, if_pos (show nI (k % 8) ≤ nI (k / 8) from nI_le (by omega) (by omega))]
      show s_X5_bestMixture_B2 _ _ _ _ _ _ = _
      unfold s_X5_bestMixture_B2 s_X5_bestMixture_X2
      rw [ite_self, nm_e', nI_1, es, if_neg (fun q => hlt q.1)]
