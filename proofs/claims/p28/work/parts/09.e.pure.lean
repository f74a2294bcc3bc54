-- one side: what is asked, told exactly
def potv (N : Nat → Nat) (p k : Nat) : Int32 := if k < 4 then nI (N (qp p + k)) else if k = 4 then nI (sm4 N (qp p)) else if k = 8 then nI (N (11 + 5 * p)) else if sm4 N (qp p) = 0 then -6 else nI (stg N (qp p) (k - 5))
def panelv (N : Nat → Nat) (P k : Nat) : Int32 := if k < 3 then nI (N (51 + 8 * P + k)) else if k = 7 then nI (wl N P) else if k = 8 then nI (N (58 + 8 * P)) else if N (54 + 8 * P) = 0 then -6 else if k = 6 then nI (dst N P (N (55 + 8 * P)) (N (56 + 8 * P)) (N (57 + 8 * P))) else nI (N (55 + 8 * P + (k - 3)))
def countv (N : Nat → Nat) (k : Nat) : Int32 := if k = 0 then nI (N 0) else if k = 1 then nI (N 1) else if k = 2 then nI (N 2) else if k = 3 then nI (su (po N) 8) else if k = 4 then nI (N 3) else if k = 5 then nI (N 4) else if k = 6 then nI (su (pt N) 6) else if k = 7 then nI (su (wl N) 6) else nI (N 5)
def nearv (N : Nat → Nat) (P k : Nat) : Int32 := if ch N P = -6 then -6 else if k = 0 then ch N P else nI (near N P 8).2
def rinsesv (N : Nat → Nat) (P : Nat) : Int32 := if su (po N) 8 = 0 then -6 else nI (su (rn N P) 5)
def orderv (N : Nat → Nat) (k : Nat) : Int32 := if su (po N) 8 = 0 then -6 else nI ((cou (lbf (ch N)) 6 0 []).getD k 0)
theorem V_about {d : Nat → Int32} {N : Nat → Nat} {p k : Nat} (hd : RD d N) (hp : p < 9) (hb : sm4 N (qp p) ≤ 81) (hk : k ≤ 7) : s_X2_aboutPaint d (nI p) (nI k) = some (potv N p k) := by
  have hq := qp_lt p
  have hin : s_X4_isBetween (nI k) 0 7 = some 1 := (bt_l _ _ _).trans (in_n (a := 0) (b := 7) (by omega) (by omega) (by omega))
  have e0 : nI p * 4 = nI (4 * p) := (pk_mul p 4).trans (by rw [Nat.mul_comm])
  have hca := cAll hd hp
  unfold s_X2_aboutPaint s_X2_dropsOf s_X2_hasPaint potv
  rw [cl_e hin, if_neg one_ne]
  by_cases h4 : 4 ≤ k
  · have h4' : (4 : Int32) ≤ nI k := nI_le (a := 4) h4 (by omega)
    rw [if_pos h4', if_neg (show ¬ k < 4 by omega)]
    by_cases k4 : k = 4
    · subst k4
      rw [if_pos (show nI 4 = 4 from rfl), cl_e hca, if_pos rfl]
    · have k4' : ¬ nI k = 4 := fun q => k4 ((nI_eq (a := k) (b := 4) (by omega) (by omega)).mp q)
      rw [if_neg k4', cl_e hca, if_neg k4, if_neg (show ¬ k = 8 by omega)]
      rcases Nat.eq_zero_or_pos (sm4 N (qp p)) with hz | hz
      · rw [if_pos hz, hz]
        rfl
      · have ek : nI k - 5 = nI (k - 5) := pk_sub (b := 5) (by omega)
        rw [if_neg (show ¬ sm4 N (qp p) = 0 by omega), if_neg (show ¬ nI (sm4 N (qp p)) ≤ 0 from nI_ge (a := 0) hz (by omega)), cl_s, if_neg one_ne, ek, cl_e (cStr hd hp (by omega) hz hb)]
  · have h4' : ¬ (4 : Int32) ≤ nI k := nI_ge (b := 4) (by omega) (by omega)
    rw [if_neg h4', if_pos (show k < 4 by omega), e0, nI_add, cl_e (at_n (by omega) (by omega)), cl_s, hd _ (by omega), dm_q hp (by omega)]
theorem V_brush {σ : Nat → Nat → Int32} {N : Nat → Nat} {c k : Nat} (h : RS σ N) (I : Inv N c) (hk : k ≤ 7) : s_X4_brush (σ 1) (nI k) = some (potv N 8 k) := by
  unfold s_X4_brush
  have e1 : s_X2_aboutPaint (σ 1) 8 (nI k) = some (potv N 8 k) := V_about (p := 8) h.2.1 (by omega) (I.q (by omega)) hk
  rw [cl_e e1]
theorem V_pot {σ : Nat → Nat → Int32} {N : Nat → Nat} {c p k : Nat} (h : RS σ N) (I : Inv N c) (hp : p < 8) (hk : k ≤ 8) : s_X4_pot (σ 1) (σ 2) (nI p) (nI k) = some (potv N p k) := by
  unfold s_X4_pot s_X2_timesThinned
  rw [wi8]
  have hx : s_X5_in (nI p) 0 7 = some 1 := in_n (a := 0) (b := 7) (by omega) (by omega) (by omega)
  rw [cl_e hx, if_neg one_ne]
  by_cases k8 : k = 8
  · subst k8
    rw [if_pos (show nI 8 = 8 from rfl), cl_e (at_n (by omega) (by omega)), cl_s, h.2.2.1 p (by omega)]
    unfold potv
    rw [if_neg (by omega), if_neg (by omega), if_pos rfl]
  · have k8' : ¬ nI k = 8 := fun q => k8 ((nI_eq (a := k) (b := 8) (by omega) (by omega)).mp q)
    rw [if_neg k8', cl_e (V_about h.2.1 (by omega) (I.q (by omega)) (by omega))]
theorem V_count {σ : Nat → Nat → Int32} {N : Nat → Nat} {c k : Nat} (h : RS σ N) (I : Inv N c) (hc : c < 2 ^ 30) (hk : k ≤ 8) (L K : Int32) : s_X4_count K (σ 6 0) (σ 7 0) (σ 8 0) (σ 9 0) (σ 0) (σ 1) (σ 3) (σ 4) (σ 5) L (nI k) = some (countv N k) := by
  have hc0 : s_X4_at 2 (σ 0) 0 = some (nI (N 0)) := (at_n (a := 0) (n := 2) (by omega) (by omega)).trans (by rw [h.1 0 (by omega)])
  have hc1 : s_X4_at 2 (σ 0) 1 = some (nI (N 1)) := (at_n (a := 1) (n := 2) (by omega) (by omega)).trans (by rw [h.1 1 (by omega)])
  rcases (show k = 0 ∨ k = 1 ∨ k = 2 ∨ k = 3 ∨ k = 4 ∨ k = 5 ∨ k = 6 ∨ k = 7 ∨ k = 8 by omega) with rfl | rfl | rfl | rfl | rfl | rfl | rfl | rfl | rfl
  · unfold s_X4_count s_X2_account; simp [nI, hc0, cl_s]; rfl
  · unfold s_X4_count s_X2_account; simp [nI, hc1, cl_s]; rfl
  · unfold s_X4_count s_X2_account; simp [nI, h.2.2.2.2.2.2.1, cl_s]; rfl
  · unfold s_X4_count s_X2_account; simp [nI, cInP h.2.1, cl_s]; rfl
  · unfold s_X4_count s_X2_account; simp [nI, h.2.2.2.2.2.2.2.1, cl_s]; rfl
  · unfold s_X4_count s_X2_account; simp [nI, h.2.2.2.2.2.2.2.2.1, cl_s]; rfl
  · unfold s_X4_count s_X2_account; simp [nI, cPP I hc h.2.2.2.2.2.1, cl_s]; rfl
  · unfold s_X4_count s_X2_account; simp [nI, cPW h I hc, cl_s]; rfl
  · unfold s_X4_count s_X2_account; simp [nI, cSk I h.2.2.2.2.2.1, cl_s]; rfl
theorem V_panel {σ : Nat → Nat → Int32} {N : Nat → Nat} {c P k : Nat} (h : RS σ N) (I : Inv N c) (hc : c < 2 ^ 30) (hPp : P < 6) (hk : k ≤ 8) : s_X4_panel (σ 0) (σ 3) (σ 4) (σ 5) (nI P) (nI k) = some (panelv N P k) := by
  unfold s_X4_panel s_X2_aboutPanel panelv
  rw [wi6]
  have hx : s_X5_in (nI P) 0 5 = some 1 := in_n (a := 0) (b := 5) (by omega) (by omega) (by omega)
  have hy : s_X5_in (nI k) 0 8 = some 1 := in_n (a := 0) (b := 8) (by omega) (by omega) (by omega)
  have hI := I.2.2.2.2.1 P hPp
  have p01 : N (54 + 8 * P) = 0 ∨ N (54 + 8 * P) = 1 := by omega
  have e0 : nI P * 3 = nI (3 * P) := (pk_mul P 3).trans (by rw [Nat.mul_comm])
  have cw := cWell h I hc hPp
  have cp := cIsP I hc h.2.2.2.2.2.1 hPp
  have cd := cDistPanel h.2.2.2.1 h.2.2.2.2.1 hPp (by omega) (by omega) (by omega) (by omega) (by omega) (by omega)
  rw [bt_l, cl_e hx, if_neg one_ne, cl_e hy, if_neg one_ne]
  have row : ∀ i, i < 3 → s_X4_at 18 (σ 3) (nI P * 3 + nI i) = some (nI (N (51 + 8 * P + i))) := fun i hi => by
    rw [e0, nI_add, at_n (by omega) (by omega), h.2.2.2.1 _ (by omega), wm_q hi]
  have look : ∀ i, i < 3 → s_X4_at 18 (σ 4) (nI P * 3 + nI (i + 3) - 3) = some (nI (N (55 + 8 * P + i))) := fun i hi => by
    rw [e0, nI_add, show (3 : Int32) = nI 3 from rfl, pk_sub (by omega), show 3 * P + (i + 3) - 3 = 3 * P + i by omega, at_n (by omega) (by omega), h.2.2.2.2.1 _ (by omega), wm_q hi, show 51 + 8 * P + i + 4 = 55 + 8 * P + i by omega]
  have c8 : s_X4_at 6 (σ 5) (nI P) = some (nI (N (58 + 8 * P))) := by rw [at_n hPp (by omega), h.2.2.2.2.2.1 P hPp]
  rcases (show k = 0 ∨ k = 1 ∨ k = 2 ∨ k = 3 ∨ k = 4 ∨ k = 5 ∨ k = 6 ∨ k = 7 ∨ k = 8 by omega) with rfl | rfl | rfl | rfl | rfl | rfl | rfl | rfl | rfl
  · rw [if_neg (show ¬ (3 : Int32) ≤ nI 0 by decide), cl_e (row 0 (by omega)), cl_s]
    rfl
  · rw [if_neg (show ¬ (3 : Int32) ≤ nI 1 by decide), cl_e (row 1 (by omega)), cl_s]
    rfl
  · rw [if_neg (show ¬ (3 : Int32) ≤ nI 2 by decide), cl_e (row 2 (by omega)), cl_s]
    rfl
  · rw [if_pos (show (3 : Int32) ≤ nI 3 by decide)]
    rcases p01 with e | e
    · rw [if_neg (show ¬ nI 3 = 7 by decide), if_neg (show ¬ nI 3 = 8 by decide), cl_e cp, show pt N P = 0 from if_pos e, if_pos nI_0, cl_s, if_neg (by omega), if_neg (by omega), if_neg (by omega), if_pos e]
    · rw [if_neg (show ¬ nI 3 = 7 by decide), if_neg (show ¬ nI 3 = 8 by decide), cl_e cp, show pt N P = 1 from if_neg (by omega), if_neg (show ¬ nI 1 = 0 from one_ne), if_neg (show ¬ nI 3 = 6 by decide), cl_e (look 0 (by omega)), cl_s, if_neg (by omega), if_neg (by omega), if_neg (by omega), if_neg (show ¬ N (54 + 8 * P) = 0 by omega), if_neg (by omega)]
  · rw [if_pos (show (3 : Int32) ≤ nI 4 by decide)]
    rcases p01 with e | e
    · rw [if_neg (show ¬ nI 4 = 7 by decide), if_neg (show ¬ nI 4 = 8 by decide), cl_e cp, show pt N P = 0 from if_pos e, if_pos nI_0, cl_s, if_neg (by omega), if_neg (by omega), if_neg (by omega), if_pos e]
    · rw [if_neg (show ¬ nI 4 = 7 by decide), if_neg (show ¬ nI 4 = 8 by decide), cl_e cp, show pt N P = 1 from if_neg (by omega), if_neg (show ¬ nI 1 = 0 from one_ne), if_neg (show ¬ nI 4 = 6 by decide), cl_e (look 1 (by omega)), cl_s, if_neg (by omega), if_neg (by omega), if_neg (by omega), if_neg (show ¬ N (54 + 8 * P) = 0 by omega), if_neg (by omega)]
  · rw [if_pos (show (3 : Int32) ≤ nI 5 by decide)]
    rcases p01 with e | e
    · rw [if_neg (show ¬ nI 5 = 7 by decide), if_neg (show ¬ nI 5 = 8 by decide), cl_e cp, show pt N P = 0 from if_pos e, if_pos nI_0, cl_s, if_neg (by omega), if_neg (by omega), if_neg (by omega), if_pos e]
    · rw [if_neg (show ¬ nI 5 = 7 by decide), if_neg (show ¬ nI 5 = 8 by decide), cl_e cp, show pt N P = 1 from if_neg (by omega), if_neg (show ¬ nI 1 = 0 from one_ne), if_neg (show ¬ nI 5 = 6 by decide), cl_e (look 2 (by omega)), cl_s, if_neg (by omega), if_neg (by omega), if_neg (by omega), if_neg (show ¬ N (54 + 8 * P) = 0 by omega), if_neg (by omega)]
  · rw [if_pos (show (3 : Int32) ≤ nI 6 by decide)]
    rcases p01 with e | e
    · rw [if_neg (show ¬ nI 6 = 7 by decide), if_neg (show ¬ nI 6 = 8 by decide), cl_e cp, show pt N P = 0 from if_pos e, if_pos nI_0, cl_s, if_neg (by omega), if_neg (by omega), if_neg (by omega), if_pos e]
    · rw [if_neg (show ¬ nI 6 = 7 by decide), if_neg (show ¬ nI 6 = 8 by decide), cl_e cp, show pt N P = 1 from if_neg (by omega), if_neg (show ¬ nI 1 = 0 from one_ne), if_pos (show nI 6 = 6 from rfl), cl_e cd, cl_s, if_neg (by omega), if_neg (by omega), if_neg (by omega), if_neg (show ¬ N (54 + 8 * P) = 0 by omega), if_pos rfl]
  · rw [if_pos (show (3 : Int32) ≤ nI 7 by decide), if_pos (show nI 7 = 7 from rfl), cl_e cw, if_neg (show ¬ 7 < 3 by omega), if_pos (show (7 : Nat) = 7 from rfl)]
    rcases wl_01 N P with e | e
    · rw [e]; rfl
    · rw [e]; rfl
  · rw [if_pos (show (3 : Int32) ≤ nI 8 by decide), if_neg (show ¬ nI 8 = 7 by decide), if_pos (show nI 8 = 8 from rfl), cl_e c8, cl_s, if_neg (by omega), if_neg (by omega), if_pos rfl]
theorem V_nearest {σ : Nat → Nat → Int32} {N : Nat → Nat} {c P k : Nat} (h : RS σ N) (I : Inv N c) (hPp : P < 6) (hk : k < 2) : s_X4_nearest (σ 1) (σ 3) (nI P) (nI k) = some (nearv N P k) := by
  unfold s_X4_nearest nearv
  rw [wi6, wi2]
  have hx : s_X5_in (nI P) 0 5 = some 1 := in_n (a := 0) (b := 5) (by omega) (by omega) (by omega)
  have hy : s_X5_in (nI k) 0 1 = some 1 := in_n (a := 0) (b := 1) (by omega) (by omega) (by omega)
  have hI := I.2.2.2.2.1 P hPp
  have c1 := cNear h.2.1 h.2.2.2.1 I hPp
  obtain ⟨-, ok⟩ := near_ok I hPp 8
  rw [cl_e hx, if_neg one_ne, cl_e hy, if_neg one_ne, cl_e c1]
  have ec : ch N P = (near N P 8).1 := rfl
  rw [ec]
  rcases ok with e | ⟨j, hj, e, h0, e2⟩
  · rw [e, if_pos rfl, if_pos rfl]
  · have hne : ¬ nI j = -6 := fun q => absurd (show nI j < 0 by rw [q]; decide) (nI_pos (by omega))
    rw [e, if_neg hne, if_neg hne]
    rcases (show k = 0 ∨ k = 1 by omega) with rfl | rfl
    · rw [if_pos nI_0, if_pos rfl]
    · have cd : s_X2_distanceOfPaint (σ 1) (σ 3) (nI P) (nI j) = some (nI (dp N P j)) := cDistPaint h.2.1 h.2.2.2.1 hPp (by omega) h0 (I.q (by omega)) (by omega) (by omega) (by omega)
      rw [if_neg (show ¬ nI 1 = 0 from one_ne), cl_e cd, if_neg (by omega), e2]
theorem V_rinses {σ : Nat → Nat → Int32} {N : Nat → Nat} {c P : Nat} (h : RS σ N) (I : Inv N c) (hPp : P < 6) (r : Nat → Int32) : ∃ r' : Nat → Int32, s_X4_rinses (σ 1) (σ 3) r (nI P) = some (rinsesv N P, r') := by
  unfold s_X4_rinses s_X0_rinsesFrom rinsesv
  rw [wi6]
  have hx : s_X5_in (nI P) 0 5 = some 1 := in_n (a := 0) (b := 5) (by omega) (by omega) (by omega)
  obtain ⟨r', ec, hr⟩ := cChoose h.2.1 h.2.2.2.1 I r
  rw [cl_e hx, if_neg one_ne, cl_e ec]
  dsimp only
  by_cases e : su (po N) 8 = 0
  · exact ⟨r', by rw [if_pos e, if_pos rfl, cl_s, if_pos e]⟩
  · rw [if_neg e, if_neg one_ne, if_neg e]
    have d0 := cRn_s (r := (1, r')) (P := P) (kk := s_X0_rinsesFrom_X1 (1, r')) (fu := 999) (i := 0) hr hPp (by omega)
    have d1 := cRn_s (r := (1, r')) (P := P) (kk := s_X0_rinsesFrom_X1 (1, r')) (fu := 998) (i := 1) hr hPp (by omega)
    have d2 := cRn_s (r := (1, r')) (P := P) (kk := s_X0_rinsesFrom_X1 (1, r')) (fu := 997) (i := 2) hr hPp (by omega)
    have d3 := cRn_s (r := (1, r')) (P := P) (kk := s_X0_rinsesFrom_X1 (1, r')) (fu := 996) (i := 3) hr hPp (by omega)
    have d4 := cRn_s (r := (1, r')) (P := P) (kk := s_X0_rinsesFrom_X1 (1, r')) (fu := 995) (i := 4) hr hPp (by omega)
    refine ⟨r', ?_⟩
    have dd : s_X0_rinsesFrom_L1 (nI P) (1, r') (s_X0_rinsesFrom_X1 (1, r')) 1000 (0, 1) = some (nI (su (rn N P) 5), r') := by
      refine d0.trans (d1.trans (d2.trans (d3.trans (d4.trans ?_))))
      show s_X0_rinsesFrom_B1 (nI P) _ _ _ _ (nI 6) = _
      unfold s_X0_rinsesFrom_B1 s_X0_rinsesFrom_X1
      rw [if_pos (show (6 : Int32) ≤ nI 6 from nI_le (a := 6) (b := 6) (by omega) (by omega))]
    rw [cl_e dd]
theorem V_order {σ : Nat → Nat → Int32} {N : Nat → Nat} {c P : Nat} (h : RS σ N) (I : Inv N c) (hPp : P < 6) (r y : Nat → Int32) : ∃ r' y' : Nat → Int32, s_X4_bestOrder (σ 1) (σ 3) r y (nI P) = some (orderv N P, r', y') := by
  unfold s_X4_bestOrder s_X0_panelInOrder orderv
  rw [wi6]
  have hx : s_X5_in (nI P) 0 5 = some 1 := in_n (a := 0) (b := 5) (by omega) (by omega) (by omega)
  obtain ⟨r', ec, hr⟩ := cChoose h.2.1 h.2.2.2.1 I r
  rw [cl_e hx, if_neg one_ne, cl_e ec]
  dsimp only
  by_cases e : su (po N) 8 = 0
  · exact ⟨r', y, by rw [if_pos e, if_pos rfl, cl_s, if_pos e]⟩
  · rw [if_neg e, if_neg one_ne, if_neg e]
    obtain ⟨o6, ok⟩ := lbf_ord (ch N)
    obtain ⟨v, M', ev, em⟩ := ok P hPp
    have oy : OW y [] := fun k v hk => by simp at hk
    obtain ⟨y', hy', ey⟩ := cOu_l (c := ch N) (l := lbf (ch N)) (r := (1, r')) (kk := s_X0_panelInOrder_X1 (nI P) (1, r')) hr (lbf_eq (ch N)) 993 6 0 y [] (by omega) oy (by omega)
    refine ⟨r', y', ?_⟩
    have dd : s_X0_panelInOrder_L1 (1, r') (s_X0_panelInOrder_X1 (nI P) (1, r')) 1000 (0, 0, y) = some (nI v, r', y') := by
      refine Eq.trans ey ?_
      unfold s_X0_panelInOrder_X1
      rw [cl_e (at_n hPp (by omega)), hy' P v ev]
    rw [cl_e dd, List.getD_eq_getElem?_getD, ev]
    rfl
-- the best mixture where no pot has paint
theorem has0 {d : Nat → Int32} {N : Nat → Nat} (hd : RD d N) {p : Nat} (hp : p < 9) (h0 : sm4 N (qp p) = 0) : s_X2_hasPaint d (nI p) = some 0 := by
  unfold s_X2_hasPaint
  rw [cl_e (cAll hd hp), h0]
  rfl
theorem mix_in {d w : Nat → Int32} {N : Nat → Nat} (hd : RD d N) (h0 : ∀ p, p < 8 → sm4 N (qp p) = 0) {i : Nat} (hi : i < 8) {u1 : Int32} {kk : (Nat → Int32) × (Nat → Int32) × (Nat → Int32) → Option (Int32 × (Nat → Int32) × (Nat → Int32) × (Nat → Int32))} {y ya yb : Nat → Int32} (fu : Nat) : ∀ (n j : Nat), j + n = 8 → s_X0_mixture_L2 d (nI i) w u1 kk (fu + n + 1) (nI j, y, ya, yb) = kk (y, ya, yb) := by
  intro n
  induction n with
  | zero =>
    intro j hj
    show s_X0_mixture_B2 d (nI i) w u1 kk _ (nI j) y ya yb = _
    unfold s_X0_mixture_B2
    rw [if_pos (show (8 : Int32) ≤ nI j from nI_le (a := 8) (by omega) (by omega))]
  | succ n ih =>
    intro j hj
    refine Eq.trans ?_ (ih (j + 1) (by omega))
    show s_X0_mixture_B2 d (nI i) w u1 kk (s_X0_mixture_L2 d (nI i) w u1 kk (fu + n + 1)) (nI j) y ya yb = _
    unfold s_X0_mixture_B2
    rw [if_neg (show ¬ (8 : Int32) ≤ nI j from nI_ge (b := 8) (by omega) (by omega)), cl_e (has0 hd (by omega) (h0 i hi)), if_pos rfl, nm_e', nI_1]
theorem mix_out {d w : Nat → Int32} {N : Nat → Nat} (hd : RD d N) (h0 : ∀ p, p < 8 → sm4 N (qp p) = 0) {u1 : Int32} {kk : (Nat → Int32) × (Nat → Int32) × (Nat → Int32) → Option (Int32 × (Nat → Int32) × (Nat → Int32) × (Nat → Int32))} {y ya yb : Nat → Int32} (fu : Nat) : ∀ (n i : Nat), i + n = 8 → s_X0_mixture_L1 d w u1 kk (fu + n + 1) (nI i, y, ya, yb) = kk (y, ya, yb) := by
  intro n
  induction n with
  | zero =>
    intro i hi
    show s_X0_mixture_B1 d w u1 kk _ (nI i) y ya yb = _
    unfold s_X0_mixture_B1
    rw [if_pos (show (8 : Int32) ≤ nI i from nI_le (a := 8) (by omega) (by omega))]
  | succ n ih =>
    intro i hi
    refine Eq.trans ?_ (ih (i + 1) (by omega))
    show s_X0_mixture_B1 d w u1 kk (s_X0_mixture_L1 d w u1 kk (fu + n + 1)) (nI i) y ya yb = _
    unfold s_X0_mixture_B1
    have e1 := mix_in (w := w) (u1 := u1) (kk := s_X0_mixture_X2 (s_X0_mixture_L1 d w u1 kk (fu + n + 1)) (nI i)) (y := y) (ya := ya) (yb := yb) hd h0 (i := i) (by omega) (999 - (8 - (i + 1))) (8 - (i + 1)) (i + 1) (by omega)
    rw [show 999 - (8 - (i + 1)) + (8 - (i + 1)) + 1 = 1000 by omega] at e1
    rw [if_neg (show ¬ (8 : Int32) ≤ nI i from nI_ge (b := 8) (by omega) (by omega)), nm_e', nI_1, e1]
    unfold s_X0_mixture_X2
    rw [nm_e', nI_1]
theorem V_mix0 {σ : Nat → Nat → Int32} {N : Nat → Nat} (h : RS σ N) (h0 : ∀ p, p < 8 → sm4 N (qp p) = 0) (y ya yb : Nat → Int32) : s_X4_bestMixture (σ 1) (σ 3) y ya yb 0 0 = some (-6, upd y 4 1000, ya, yb) := by
  have hw : s_X4_write 5 y 4 1000 = some (upd y 4 1000) := write_n (a := 4) (n := 5) (by omega) (by omega)
  have ha : s_X4_at 5 (upd y 4 1000) 4 = some ((upd y 4 1000) 4) := at_n (a := 4) (n := 5) (by omega) (by omega)
  have e1 := mix_out (w := σ 3) (u1 := 0) (kk := s_X0_mixture_X1 0) (y := upd y 4 1000) (ya := ya) (yb := yb) h.2.1 h0 991 8 0 (by omega)
  have e2 : s_X0_mixture_L1 (σ 1) (σ 3) 0 (s_X0_mixture_X1 0) 1000 (0, upd y 4 1000, ya, yb) = s_X0_mixture_X1 0 (upd y 4 1000, ya, yb) := e1
  unfold s_X4_bestMixture
  rw [cl_e (show s_X4_isWithin 0 6 = some 1 from rfl), if_neg one_ne, cl_e (show s_X4_isWithin 0 5 = some 1 from rfl), if_neg one_ne]
  unfold s_X0_mixture
  rw [cl_e hw, e2]
  unfold s_X0_mixture_X1
  dsimp only
  rw [cl_e ha, if_pos pk_us]
  rfl
