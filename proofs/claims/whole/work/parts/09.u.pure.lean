-- pure: the best thinning
def tq (N : Nat → Nat) (p : Nat) : Nat → Nat
  | 0 => po N p
  | t + 1 => tq N p t * 3
theorem tq_ge (N : Nat → Nat) (p : Nat) : ∀ t, po N p ≤ tq N p t
  | 0 => Nat.le_refl _
  | t + 1 => by
    have h := tq_ge N p t
    have e : tq N p (t + 1) = tq N p t * 3 := rfl
    omega
theorem tq_b {N : Nat → Nat} {p t : Nat} (h : po N p ≤ 81) (ht : t ≤ 5) : tq N p t ≤ 19683 := by
  have e0 : tq N p 0 = po N p := rfl
  have e1 : tq N p 1 = tq N p 0 * 3 := rfl
  have e2 : tq N p 2 = tq N p 1 * 3 := rfl
  have e3 : tq N p 3 = tq N p 2 * 3 := rfl
  have e4 : tq N p 4 = tq N p 3 * 3 := rfl
  have e5 : tq N p 5 = tq N p 4 * 3 := rfl
  rcases (show t = 0 ∨ t = 1 ∨ t = 2 ∨ t = 3 ∨ t = 4 ∨ t = 5 by omega) with rfl | rfl | rfl | rfl | rfl | rfl <;> omega
theorem tq_5 {N : Nat → Nat} {p : Nat} (h : 0 < po N p) : 81 < tq N p 5 := by
  have e0 : tq N p 0 = po N p := rfl
  have e1 : tq N p 1 = tq N p 0 * 3 := rfl
  have e2 : tq N p 2 = tq N p 1 * 3 := rfl
  have e3 : tq N p 3 = tq N p 2 * 3 := rfl
  have e4 : tq N p 4 = tq N p 3 * 3 := rfl
  have e5 : tq N p 5 = tq N p 4 * 3 := rfl
  omega
def tsn (N : Nat → Nat) (p t k : Nat) : Nat := 100 * N (qp p + k) / tq N p t
def tdn (N : Nat → Nat) (P p t : Nat) : Nat := dst N P (tsn N p t 0) (tsn N p t 1) (tsn N p t 2)
theorem tsn_le (N : Nat → Nat) (p t : Nat) {k : Nat} (hk : k < 4) : tsn N p t k ≤ 100 := by
  have h1 := sm4_ge N (qp p) hk
  have h2 : sm4 N (qp p) ≤ tq N p t := tq_ge N p t
  unfold tsn
  exact Nat.div_le_of_le_mul (by rw [Nat.mul_comm]; exact Nat.mul_le_mul_right 100 (Nat.le_trans h1 h2))
theorem tdn_le {N : Nat → Nat} {c P p t : Nat} (I : Inv N c) (hP : P < 6) : tdn N P p t ≤ 300 := dst_le I hP (tsn_le _ _ _ (by omega)) (tsn_le _ _ _ (by omega)) (tsn_le _ _ _ (by omega))
theorem cDO {d : Nat → Int32} {N : Nat → Nat} (hd : RD d N) {p k : Nat} (hp : p < 9) (hk : k < 4) : s_X2_dropsOf d (nI p) (nI k) = some (nI (N (qp p + k))) := by
  have e0 : nI p * 4 = nI (4 * p) := (pk_mul p 4).trans (by rw [Nat.mul_comm])
  unfold s_X2_dropsOf
  rw [e0, nI_add, cl_e (at_n (by omega) (by omega)), hd _ (by omega), dm_q hp hk]
theorem cHP {d : Nat → Int32} {N : Nat → Nat} (hd : RD d N) {p : Nat} (hp : p < 9) (hb : po N p ≤ 81) : s_X2_hasPaint d (nI p) = some (if po N p = 0 then 0 else 1) := by
  unfold s_X2_hasPaint
  rw [cl_e (cAll hd hp)]
  by_cases h : po N p = 0
  · rw [if_pos h, if_pos (show nI (sm4 N (qp p)) ≤ 0 by rw [show sm4 N (qp p) = 0 from h]; exact Int32.le_refl _)]
  · rw [if_neg h, if_neg (show ¬ nI (sm4 N (qp p)) ≤ 0 from nI_nle (Nat.pos_of_ne_zero h) (Nat.lt_of_le_of_lt hb (by omega)))]
theorem cThS {d : Nat → Int32} {N : Nat → Nat} (hd : RD d N) {p k a : Nat} (hp : p < 9) (hk : k < 4) (h0 : 0 < a) (ha : a < 2 ^ 30) (hN : N (qp p + k) ≤ 81) : s_X0_thinnedStrength d (nI p) (nI k) (nI a) = some (nI (100 * N (qp p + k) / a)) := by
  unfold s_X0_thinnedStrength
  rw [cl_e (cDO hd hp hk), show (100 : Int32) * nI (N (qp p + k)) = nI (100 * N (qp p + k)) from pk_mul 100 _, cl_e (div_c h0 (by omega)), pk_div (by omega) h0 (by omega)]
theorem cDT_l {N : Nat → Nat} {p t : Nat} {kk : Int32 → Option Int32} : ∀ (n j fu : Nat), j + n = t → t ≤ 4 → s_X0_distanceThinned_L1 (nI t) kk (fu + n + 1) (nI (tq N p j), nI j) = kk (nI (tq N p t))
  | 0, j, fu, h, ht => by
    have e : j = t := by omega
    subst e
    show s_X0_distanceThinned_B1 (nI j) kk (s_X0_distanceThinned_L1 (nI j) kk fu) (nI (tq N p j)) (nI j) = _
    unfold s_X0_distanceThinned_B1
    rw [if_pos (nI_le (Nat.le_refl j) (by omega))]
  | n + 1, j, fu, h, ht => by
    show s_X0_distanceThinned_B1 (nI t) kk (s_X0_distanceThinned_L1 (nI t) kk (fu + (n + 1))) (nI (tq N p j)) (nI j) = _
    unfold s_X0_distanceThinned_B1
    rw [if_neg (show ¬ nI t ≤ nI j from nI_ge (by omega) (by omega)), if_neg (show ¬ (4 : Int32) ≤ nI j from nI_ge (a := j) (b := 4) (by omega) (by omega)), nm_e', nm_e', nI_1, show nI (tq N p j) * 3 = nI (tq N p (j + 1)) from pk_mul _ 3]
    exact cDT_l n (j + 1) fu (by omega) ht
theorem cDT {d w : Nat → Int32} {N : Nat → Nat} {c P p t : Nat} (hd : RD d N) (hw : ∀ k, k < 18 → w k = nI (N (wm k))) (I : Inv N c) (hP : P < 6) (hp : p < 8) (h0 : 0 < po N p) (ht : t ≤ 4) : s_X0_distanceThinned d w (nI P) (nI p) (nI t) = some (nI (tdn N P p t)) := by
  have hI := I.2.2.2.2.1 P hP
  have q81 : po N p ≤ 81 := I.q (p := p) (by omega)
  have b := tq_b (t := t) q81 (by omega)
  have g := tq_ge N p t
  have n0 := sm4_ge N (qp p) (k := 0) (by omega)
  have n1 := sm4_ge N (qp p) (k := 1) (by omega)
  have n2 := sm4_ge N (qp p) (k := 2) (by omega)
  have l0 := tsn_le N p t (k := 0) (by omega)
  have l1 := tsn_le N p t (k := 1) (by omega)
  have l2 := tsn_le N p t (k := 2) (by omega)
  have e : sm4 N (qp p) = po N p := rfl
  have l := cDT_l (N := N) (p := p) (t := t) (kk := s_X0_distanceThinned_X1 d (nI p) w (nI P)) t 0 (999 - t) (by omega) ht
  rw [show 999 - t + t + 1 = 1000 by omega] at l
  unfold s_X0_distanceThinned
  rw [cl_e (cAll hd (by omega))]
  refine l.trans ?_
  unfold s_X0_distanceThinned_X1
  rw [show (0 : Int32) = nI 0 from rfl, show (1 : Int32) = nI 1 from rfl, show (2 : Int32) = nI 2 from rfl]
  rw [cl_e (cThS (k := 0) hd (by omega) (by omega) (by omega) (by omega) (by omega)), cl_e (cThS (k := 1) hd (by omega) (by omega) (by omega) (by omega) (by omega)), cl_e (cThS (k := 2) hd (by omega) (by omega) (by omega) (by omega) (by omega))]
  show (cl (s_X2_distance w (nI P) (nI (tsn N p t 0)) (nI (tsn N p t 1)) (nI (tsn N p t 2))) fun r8 => some r8) = _
  rw [cl_e (cDist (r := tsn N p t 0) (y := tsn N p t 1) (b := tsn N p t 2) hw hP (by omega) (by omega) (by omega) (by omega) (by omega) (by omega))]
  rfl
theorem mBT_s {f g : Nat → Int32} {N : Nat → Nat} {p a i fu : Nat} {kk : (Nat → Int32) → Option (Int32 × (Nat → Int32))} (hf : RM f N) (hp : p < 8) (hi : i < 3) (h0 : 0 < a) (ha : a < 2 ^ 30) (hN : N (qp p + i) ≤ 81) : s_X5_bestThinning_L2 (nI p) f (nI a) kk (fu + 1) (nI i, g) = s_X5_bestThinning_L2 (nI p) f (nI a) kk fu (nI (i + 1), upd g i (nI (100 * N (qp p + i) / a))) := by
  have hq := qp_lt p
  show s_X5_bestThinning_B2 (nI p) f (nI a) kk (s_X5_bestThinning_L2 (nI p) f (nI a) kk fu) (nI i) g = _
  unfold s_X5_bestThinning_B2
  rw [if_neg (show ¬ (3 : Int32) ≤ nI i from nI_ge (a := i) (b := 3) (by omega) (by omega)), cl_e (mP p hp), nI_add, ld_n (by omega) (by omega), hf _ (by omega), show (100 : Int32) * nI (N (qp p + i)) = nI (100 * N (qp p + i)) from pk_mul 100 _, dv_n (nI_ne0 h0 (by omega)), pk_div (by omega) h0 (by omega), sto_n (by omega) (by omega), nm_e', nI_1]
theorem mBT_in {f : Nat → Int32} {N : Nat → Nat} {c P p t : Nat} (hf : RM f N) (I : Inv N c) (hP : P < 6) (hp : p < 8) (h0 : 0 < po N p) (ht : t ≤ 4) (g : Nat → Int32) : ∃ g', (∀ kk, s_X5_bestThinning_L2 (nI p) f (nI (tq N p t)) kk 1000 (0, g) = kk g') ∧ s_X5_distance f g' (nI P) = some (nI (tdn N P p t)) := by
  have hI := I.2.2.2.2.1 P hP
  have q81 : po N p ≤ 81 := I.q (p := p) (by omega)
  have b := tq_b (t := t) q81 (by omega)
  have ge := tq_ge N p t
  have n0 := sm4_ge N (qp p) (k := 0) (by omega)
  have n1 := sm4_ge N (qp p) (k := 1) (by omega)
  have n2 := sm4_ge N (qp p) (k := 2) (by omega)
  have e : sm4 N (qp p) = po N p := rfl
  have hg : ∀ k, k < 3 → upd (upd (upd g 0 (nI (100 * N (qp p + 0) / tq N p t))) 1 (nI (100 * N (qp p + 1) / tq N p t))) 2 (nI (100 * N (qp p + 2) / tq N p t)) k = nI (tsn N p t k) := fun k hk => by
    rcases (show k = 0 ∨ k = 1 ∨ k = 2 by omega) with rfl | rfl | rfl
    · rw [pk_un (by omega), pk_un (by omega), pk_us]; rfl
    · rw [pk_un (by omega), pk_us]; rfl
    · rw [pk_us]; rfl
  refine ⟨upd (upd (upd g 0 (nI (100 * N (qp p + 0) / tq N p t))) 1 (nI (100 * N (qp p + 1) / tq N p t))) 2 (nI (100 * N (qp p + 2) / tq N p t)), fun kk => ?_, mDist (v := tsn N p t) hg hf hP (fun k hk => by have := tsn_le N p t (k := k) (by omega); omega) (by omega) (by omega) (by omega)⟩
  refine (mBT_s (fu := 999) (i := 0) hf hp (by omega) (by omega) (by omega) (by omega)).trans ?_
  refine (mBT_s (fu := 998) (i := 1) hf hp (by omega) (by omega) (by omega) (by omega)).trans ?_
  refine (mBT_s (fu := 997) (i := 2) hf hp (by omega) (by omega) (by omega) (by omega)).trans ?_
  show s_X5_bestThinning_B2 (nI p) f _ kk _ (nI 3) _ = _
  unfold s_X5_bestThinning_B2
  rw [if_pos (show (3 : Int32) ≤ nI 3 from nI_le (a := 3) (b := 3) (by omega) (by omega))]
def btn (N : Nat → Nat) (P p : Nat) : Nat → Nat × Nat
  | 0 => (0, tdn N P p 0)
  | i + 1 => if (btn N P p i).2 ≤ tdn N P p (i + 1) then btn N P p i else (i + 1, tdn N P p (i + 1))
theorem btn_ok (N : Nat → Nat) (P p : Nat) : ∀ i, (btn N P p i).1 ≤ i ∧ (btn N P p i).2 = tdn N P p (btn N P p i).1
  | 0 => ⟨Nat.le_refl 0, rfl⟩
  | i + 1 => by
    obtain ⟨a, b⟩ := btn_ok N P p i
    unfold btn
    split
    · exact ⟨by omega, b⟩
    · exact ⟨Nat.le_refl _, rfl⟩
theorem btn_loop {d w f : Nat → Int32} {N : Nat → Nat} {c P p : Nat} (hd : RD d N) (hw : ∀ k, k < 18 → w k = nI (N (wm k))) (hf : RM f N) (I : Inv N c) (hP : P < 6) (hp : p < 8) (h0 : 0 < po N p) {kk : Int32 × Int32 × (Nat → Int32) → Option (Int32 × (Nat → Int32))} (fu fm : Nat) : ∀ (n i : Nat) (g : Nat → Int32), i + n = 4 → ∃ (j : Nat) (g' : Nat → Int32), j ≤ 4 ∧ s_X0_bestTimes_L1 d w (nI P) (nI p) s_X0_bestTimes_X1 (fu + n + 1) (nI (btn N P p i).1, nI (btn N P p i).2, nI (tq N p (i + 1)), nI (i + 1)) = some (nI (btn N P p j).1) ∧ s_X5_bestThinning_L1 (nI p) f (nI P) kk (fm + n + 1) (nI (btn N P p i).1, nI (btn N P p i).2, nI (i + 1), nI (tq N p (i + 1)), g) = kk (nI (btn N P p j).1, nI (btn N P p j).2, g')
  | 0, i, g, h => by
    have e : i = 4 := by omega
    subst e
    have q81 : po N p ≤ 81 := I.q (p := p) (by omega)
    have b := tq_b (t := 5) q81 (by omega)
    have b5 := tq_5 h0
    refine ⟨4, g, by omega, ?_, ?_⟩
    · show s_X0_bestTimes_B1 d w (nI P) (nI p) s_X0_bestTimes_X1 (s_X0_bestTimes_L1 d w (nI P) (nI p) s_X0_bestTimes_X1 fu) (nI (btn N P p 4).1) (nI (btn N P p 4).2) (nI (tq N p 5)) (nI 5) = _
      unfold s_X0_bestTimes_B1 s_X0_bestTimes_X1
      rw [if_pos (show (4 : Int32) < nI 5 from nI_lt (a := 4) (b := 5) (by omega) (by omega))]
    · show s_X5_bestThinning_B1 (nI p) f (nI P) kk (s_X5_bestThinning_L1 (nI p) f (nI P) kk fm) (nI (btn N P p 4).1) (nI (btn N P p 4).2) (nI 5) (nI (tq N p 5)) g = _
      unfold s_X5_bestThinning_B1
      rw [if_pos (show (81 : Int32) < nI (tq N p 5) from nI_lt (a := 81) b5 (by omega))]
  | n + 1, i, g, h => by
    have q81 : po N p ≤ 81 := I.q (p := p) (by omega)
    have b := tq_b (t := i + 1) q81 (by omega)
    have hle : (btn N P p i).2 ≤ 300 := by rw [(btn_ok N P p i).2]; exact tdn_le I hP
    have hle2 : tdn N P p (i + 1) ≤ 300 := tdn_le I hP
    have es : btn N P p (i + 1) = if (btn N P p i).2 ≤ tdn N P p (i + 1) then btn N P p i else (i + 1, tdn N P p (i + 1)) := rfl
    by_cases h81 : 81 < tq N p (i + 1)
    · refine ⟨i, g, by omega, ?_, ?_⟩
      · show s_X0_bestTimes_B1 d w (nI P) (nI p) s_X0_bestTimes_X1 (s_X0_bestTimes_L1 d w (nI P) (nI p) s_X0_bestTimes_X1 (fu + (n + 1))) (nI (btn N P p i).1) (nI (btn N P p i).2) (nI (tq N p (i + 1))) (nI (i + 1)) = _
        unfold s_X0_bestTimes_B1 s_X0_bestTimes_X1
        rw [if_neg (show ¬ (4 : Int32) < nI (i + 1) from nI_nlt (a := 4) (b := i + 1) (by omega) (by omega)), if_pos (show (81 : Int32) < nI (tq N p (i + 1)) from nI_lt (a := 81) h81 (by omega))]
      · show s_X5_bestThinning_B1 (nI p) f (nI P) kk (s_X5_bestThinning_L1 (nI p) f (nI P) kk (fm + (n + 1))) (nI (btn N P p i).1) (nI (btn N P p i).2) (nI (i + 1)) (nI (tq N p (i + 1))) g = _
        unfold s_X5_bestThinning_B1
        rw [if_pos (show (81 : Int32) < nI (tq N p (i + 1)) from nI_lt (a := 81) h81 (by omega))]
    · obtain ⟨g1, eg, dg⟩ := mBT_in (t := i + 1) hf I hP hp h0 (by omega) g
      obtain ⟨j, g', hj, ec, em⟩ := btn_loop hd hw hf I hP hp h0 fu fm n (i + 1) g1 (by omega)
      refine ⟨j, g', hj, Eq.trans ?_ ec, Eq.trans ?_ em⟩
      · show s_X0_bestTimes_B1 d w (nI P) (nI p) s_X0_bestTimes_X1 (s_X0_bestTimes_L1 d w (nI P) (nI p) s_X0_bestTimes_X1 (fu + n + 1)) (nI (btn N P p i).1) (nI (btn N P p i).2) (nI (tq N p (i + 1))) (nI (i + 1)) = _
        unfold s_X0_bestTimes_B1
        rw [if_neg (show ¬ (4 : Int32) < nI (i + 1) from nI_nlt (a := 4) (b := i + 1) (by omega) (by omega)), if_neg (show ¬ (81 : Int32) < nI (tq N p (i + 1)) from nI_nlt (a := 81) (by omega) (by omega)), cl_e (cDT hd hw I hP hp h0 (by omega)), es]
        by_cases hl : (btn N P p i).2 ≤ tdn N P p (i + 1)
        · rw [if_pos hl, if_pos (nI_le hl (by omega)), nm_e', nm_e', nI_1, show nI (tq N p (i + 1)) * 3 = nI (tq N p (i + 1 + 1)) from pk_mul _ 3]
        · rw [if_neg hl, if_neg (nI_ge (by omega) (by omega)), nm_e', nm_e', nI_1, show nI (tq N p (i + 1)) * 3 = nI (tq N p (i + 1 + 1)) from pk_mul _ 3]
      · show s_X5_bestThinning_B1 (nI p) f (nI P) kk (s_X5_bestThinning_L1 (nI p) f (nI P) kk (fm + n + 1)) (nI (btn N P p i).1) (nI (btn N P p i).2) (nI (i + 1)) (nI (tq N p (i + 1))) g = _
        unfold s_X5_bestThinning_B1
        rw [if_neg (show ¬ (81 : Int32) < nI (tq N p (i + 1)) from nI_nlt (a := 81) (by omega) (by omega)), eg]
        unfold s_X5_bestThinning_X2
        rw [cl_e dg, es]
        by_cases hl : (btn N P p i).2 ≤ tdn N P p (i + 1)
        · rw [if_pos hl, if_pos (nI_le hl (by omega)), if_pos (nI_le hl (by omega)), nm_e', nm_e', nI_1, show nI (tq N p (i + 1)) * 3 = nI (tq N p (i + 1 + 1)) from pk_mul _ 3]
        · rw [if_neg hl, if_neg (nI_ge (by omega) (by omega)), if_neg (nI_ge (by omega) (by omega)), nm_e', nm_e', nI_1, show nI (tq N p (i + 1)) * 3 = nI (tq N p (i + 1 + 1)) from pk_mul _ 3]
theorem B_bestThinning {σ : Nat → Nat → Int32} {f : Nat → Int32} {N : Nat → Nat} {c : Nat} (h : RS σ N) (hf : RM f N) (I : Inv N c) (x y z : Int32) (g : Nat → Int32) : ∃ (r : Int32) (g' : Nat → Int32), s_X4_bestThinning (σ 1) (σ 3) x y z = some r ∧ s_X5_bestThinning f g x y z = some (r, g') := by
  unfold s_X4_bestThinning s_X5_bestThinning
  rw [wi6, wi8, wi2, isPanel_l, isPot_l]
  rcases in_cases x 0 5 with ⟨hx, -⟩ | ⟨hx, x1, x2⟩
  · exact ⟨-1, g, by rw [cl_e hx]; rfl, by rw [cl_e hx]; rfl⟩
  obtain ⟨P, -, hP, rfl⟩ := rng_n (a := 0) (b := 5) (by omega) (by omega) x1 x2
  have hPp : P < 6 := by omega
  rcases in_cases y 0 7 with ⟨hy, -⟩ | ⟨hy, y1, y2⟩
  · exact ⟨-1, g, by rw [cl_e hx, if_neg one_ne, cl_e hy]; rfl, by rw [cl_e hx, if_neg one_ne, cl_e hy]; rfl⟩
  obtain ⟨p, -, hp, rfl⟩ := rng_n (a := 0) (b := 7) (by omega) (by omega) y1 y2
  have hpp : p < 8 := by omega
  rcases in_cases z 0 1 with ⟨hz, -⟩ | ⟨hz, z1, z2⟩
  · exact ⟨-2, g, by rw [cl_e hx, if_neg one_ne, cl_e hy, if_neg one_ne, cl_e hz]; rfl, by rw [cl_e hx, if_neg one_ne, cl_e hy, if_neg one_ne, cl_e hz]; rfl⟩
  have q81 : po N p ≤ 81 := I.q (p := p) (by omega)
  have hql := qp_lt p
  rw [cl_e hx, if_neg one_ne, cl_e hy, if_neg one_ne, cl_e hz, if_neg one_ne, cl_e (cHP h.2.1 (by omega) q81), cl_e hx, if_neg one_ne, cl_e hy, if_neg one_ne, cl_e hz, if_neg one_ne, cl_e (mP p hpp), cl_e (mAll hf (by omega))]
  rcases Nat.eq_zero_or_pos (po N p) with h0 | h0
  · exact ⟨-5, g, by rw [if_pos h0, if_pos rfl], by rw [if_pos (show nI (sm4 N (qp p)) = 0 by rw [show sm4 N (qp p) = 0 from h0]; rfl)]⟩
  · have n0 : ¬ po N p = 0 := by omega
    have m0 : ¬ nI (sm4 N (qp p)) = 0 := nI_ne0 h0 (Nat.lt_of_le_of_lt q81 (by omega))
    obtain ⟨g1, eg, dg⟩ := mBT_in (t := 0) hf I hPp hpp h0 (by omega) g
    have t300 : tdn N P p 0 ≤ 300 := tdn_le I hPp
    obtain ⟨j, g', hj, ec, em⟩ := btn_loop (kk := s_X5_bestThinning_X1 z) h.2.1 h.2.2.2.1 hf I hPp hpp h0 995 994 4 0 g1 (by omega)
    obtain ⟨o1, o2⟩ := btn_ok N P p j
    have t0 : ¬ (1000 : Int32) ≤ nI (tdn N P p 0) := nI_ge (a := tdn N P p 0) (b := 1000) (by omega) (by omega)
    have eM : s_X5_bestThinning_L1 (nI p) f (nI P) (s_X5_bestThinning_X1 z) 1000 (0, 1000, 0, nI (sm4 N (qp p)), g) = s_X5_bestThinning_X1 z (nI (btn N P p j).1, nI (btn N P p j).2, g') := by
      refine Eq.trans ?_ em
      show s_X5_bestThinning_B1 (nI p) f (nI P) (s_X5_bestThinning_X1 z) (s_X5_bestThinning_L1 (nI p) f (nI P) (s_X5_bestThinning_X1 z) 999) 0 1000 0 (nI (tq N p 0)) g = _
      unfold s_X5_bestThinning_B1
      rw [if_neg (show ¬ (81 : Int32) < nI (tq N p 0) from nI_nlt (a := 81) q81 (by omega)), eg]
      unfold s_X5_bestThinning_X2
      rw [cl_e dg, if_neg t0, if_neg t0, nm_e', nm_e', show nI (tq N p 0) * 3 = nI (tq N p (0 + 1)) from pk_mul _ 3]
      rfl
    have eC : s_X0_bestTimes (σ 1) (σ 3) (nI P) (nI p) = some (nI (btn N P p j).1) := by
      unfold s_X0_bestTimes
      rw [show (0 : Int32) = nI 0 from rfl, cl_e (cDT h.2.1 h.2.2.2.1 I hPp hpp h0 (by omega)), cl_e (cAll h.2.1 (by omega)), nm_e', show nI (sm4 N (qp p)) * 3 = nI (tq N p (0 + 1)) from pk_mul _ 3]
      exact ec
    rw [if_neg n0, if_neg one_ne, cl_e eC, if_neg m0, eM]
    unfold s_X5_bestThinning_X1
    by_cases z0 : z = 0
    · exact ⟨nI (btn N P p j).1, g', by rw [if_pos z0], by rw [if_pos z0]⟩
    · exact ⟨nI (btn N P p j).2, g', by rw [if_neg z0, cl_e (cDT h.2.1 h.2.2.2.1 I hPp hpp h0 (by omega)), o2], by rw [if_neg z0]⟩
