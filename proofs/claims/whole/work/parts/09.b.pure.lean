-- pure: strengths and distances
def ad (a c : Nat) : Nat := if a ≤ c then c - a else a - c
def stg (N : Nat → Nat) (q k : Nat) : Nat := 100 * N (q + k) / sm4 N q
def dst (N : Nat → Nat) (P r y b : Nat) : Nat := ad r (N (51 + 8 * P)) + ad y (N (52 + 8 * P)) + ad b (N (53 + 8 * P))
theorem ad_le {a c m : Nat} (ha : a ≤ m) (hc : c ≤ m) : ad a c ≤ m := by
  unfold ad
  split <;> omega
theorem i_negsub (x y : Int32) : 0 - (x - y) = y - x := by
  rw [Int32.zero_sub, Int32.neg_sub]
theorem abs_c {a c : Nat} (ha : a < 2 ^ 30) (hc : c < 2 ^ 30) : (if 0 ≤ nI a - nI c then nI a - nI c else 0 - (nI a - nI c)) = nI (ad a c) := by
  unfold ad
  rcases Nat.lt_or_ge a c with h | h
  · have h1 := pk_sneg hc h
    have h2 : ¬ (0 : Int32) ≤ nI a - nI c := fun q => absurd (Int32.lt_of_lt_of_le h1 q) Int32.lt_irrefl
    rw [if_neg h2, if_pos (Nat.le_of_lt h), i_negsub, pk_sub (Nat.le_of_lt h)]
  · rw [pk_sub h, if_pos (nI_pos' (by omega))]
    split
    · have : a = c := by omega
      subst this
      rfl
    · rfl
theorem away_m {a c : Nat} (ha : a < 2 ^ 30) (hc : c < 2 ^ 30) : s_X5_away (nI a) (nI c) = some (nI (ad a c)) := by
  unfold s_X5_away ad
  by_cases h : a ≤ c
  · rw [if_pos (nI_le h (by omega)), if_pos h, pk_sub h]
  · rw [if_neg (nI_ge (by omega) (by omega)), if_neg h, pk_sub (by omega)]
theorem div_c {x : Int32} {b : Nat} (h0 : 0 < b) (hb : b < 2 ^ 31) : s_X4_divide x (nI b) = some (x / nI b) := by
  unfold s_X4_divide
  rw [if_pos (show (0 : Int32) < nI b from nI_lt h0 hb), dv_n (nI_ne0 h0 hb)]
theorem div_0 {x : Int32} : s_X4_divide x (nI 0) = some 0 := rfl
theorem rem_c {x : Int32} {b : Nat} (h0 : 0 < b) (hb : b < 2 ^ 31) : s_X4_remainder x (nI b) = some (x - x / nI b * nI b) := by
  unfold s_X4_remainder
  rw [if_pos (show (0 : Int32) < nI b from nI_lt h0 hb), rmd_n (nI_ne0 h0 hb)]
theorem sm4_ge (N : Nat → Nat) (q : Nat) {k : Nat} (hk : k < 4) : N (q + k) ≤ sm4 N q := by
  unfold sm4
  rcases (show k = 0 ∨ k = 1 ∨ k = 2 ∨ k = 3 by omega) with rfl | rfl | rfl | rfl <;> (try simp only [Nat.add_zero]) <;> omega
theorem stg_le (N : Nat → Nat) (q : Nat) {k : Nat} (hk : k < 4) : stg N q k ≤ 100 := by
  unfold stg
  have h := sm4_ge N q hk
  rcases Nat.eq_zero_or_pos (sm4 N q) with h0 | h0
  · rw [h0, Nat.div_zero]; omega
  · exact Nat.div_le_of_le_mul (by rw [Nat.mul_comm]; exact Nat.mul_le_mul_right 100 h)
theorem cStr {d : Nat → Int32} {N : Nat → Nat} (h : RD d N) {p k : Nat} (hp : p < 9) (hk : k < 4) (h0 : 0 < sm4 N (qp p)) (hb : sm4 N (qp p) ≤ 81) : s_X2_strength d (nI p) (nI k) = some (nI (stg N (qp p) k)) := by
  have e0 : nI p * 4 = nI (4 * p) := (pk_mul p 4).trans (by rw [Nat.mul_comm])
  have hle := sm4_ge N (qp p) hk
  unfold s_X2_strength
  rw [e0, nI_add, cl_e (at_n (by omega) (by omega)), cl_e (cAll h hp), h _ (by omega), dm_q hp hk]
  rw [show (100 : Int32) * nI (N (qp p + k)) = nI (100 * N (qp p + k)) from pk_mul 100 _]
  rw [cl_e (div_c h0 (by omega)), pk_div (by omega) h0 (by omega)]
  rfl
theorem mStr {s : Nat → Int32} {N : Nat → Nat} (h : RM s N) {q k : Nat} (hq : q + 3 < 99) (hk : k < 4) (h0 : 0 < sm4 N q) (hb : sm4 N q ≤ 81) : s_X5_strength s (nI q) (nI k) = some (nI (stg N q k)) := by
  have hle := sm4_ge N q hk
  unfold s_X5_strength
  rw [nI_add, ld_n (by omega) (by omega), cl_e (mAll h hq), h _ (by omega)]
  rw [show (100 : Int32) * nI (N (q + k)) = nI (100 * N (q + k)) from pk_mul 100 _]
  rw [dv_n (nI_ne0 h0 (by omega)), pk_div (by omega) h0 (by omega)]
  rfl
theorem cDist {w : Nat → Int32} {N : Nat → Nat} (h : ∀ k, k < 18 → w k = nI (N (wm k))) {P r y b : Nat} (hP : P < 6) (hr : r < 2 ^ 30) (hy : y < 2 ^ 30) (hb : b < 2 ^ 30) (h1 : N (51 + 8 * P) ≤ 100) (h2 : N (52 + 8 * P) ≤ 100) (h3 : N (53 + 8 * P) ≤ 100) : s_X2_distance w (nI P) (nI r) (nI y) (nI b) = some (nI (dst N P r y b)) := by
  have e0 : nI P * 3 = nI (3 * P) := (pk_mul P 3).trans (by rw [Nat.mul_comm])
  have w0 : wm (3 * P) = 51 + 8 * P := wm_q (k := 0) (by omega)
  have w1 : wm (3 * P + 1) = 52 + 8 * P := (wm_q (k := 1) (by omega)).trans (by omega)
  have w2 : wm (3 * P + 2) = 53 + 8 * P := (wm_q (k := 2) (by omega)).trans (by omega)
  unfold s_X2_distance
  rw [nm_e', e0]
  try dsimp only
  rw [show nI (3 * P) + 1 = nI (3 * P + 1) from nI_add _ 1, show nI (3 * P) + 2 = nI (3 * P + 2) from nI_add _ 2]
  rw [cl_e (at_n (by omega) (by omega)), nm_e', cl_e (at_n (by omega) (by omega)), nm_e', cl_e (at_n (by omega) (by omega)), nm_e']
  rw [h _ (by omega), h _ (by omega), h _ (by omega), w0, w1, w2]
  rw [abs_c hr (by omega), abs_c hy (by omega), abs_c hb (by omega), nI_add, nI_add]
  rfl
theorem cDistPaint {d w : Nat → Int32} {N : Nat → Nat} (hd : RD d N) (h : ∀ k, k < 18 → w k = nI (N (wm k))) {P p : Nat} (hP : P < 6) (hp : p < 9) (h0 : 0 < sm4 N (qp p)) (hb : sm4 N (qp p) ≤ 81) (h1 : N (51 + 8 * P) ≤ 100) (h2 : N (52 + 8 * P) ≤ 100) (h3 : N (53 + 8 * P) ≤ 100) : s_X2_distanceOfPaint d w (nI P) (nI p) = some (nI (dst N P (stg N (qp p) 0) (stg N (qp p) 1) (stg N (qp p) 2))) := by
  have l0 := stg_le N (qp p) (k := 0) (by omega)
  have l1 := stg_le N (qp p) (k := 1) (by omega)
  have l2 := stg_le N (qp p) (k := 2) (by omega)
  unfold s_X2_distanceOfPaint
  rw [show (0 : Int32) = nI 0 from rfl, show (1 : Int32) = nI 1 from rfl, show (2 : Int32) = nI 2 from rfl]
  rw [cl_e (cStr hd hp (by omega) h0 hb), cl_e (cStr hd hp (by omega) h0 hb), cl_e (cStr hd hp (by omega) h0 hb)]
  rw [cl_e (cDist h hP (by omega) (by omega) (by omega) h1 h2 h3)]
theorem cDistPanel {w pa : Nat → Int32} {N : Nat → Nat} (h : ∀ k, k < 18 → w k = nI (N (wm k))) (ha : ∀ k, k < 18 → pa k = nI (N (wm k + 4))) {P : Nat} (hP : P < 6) (h1 : N (51 + 8 * P) ≤ 100) (h2 : N (52 + 8 * P) ≤ 100) (h3 : N (53 + 8 * P) ≤ 100) (h4 : N (55 + 8 * P) ≤ 100) (h5 : N (56 + 8 * P) ≤ 100) (h6 : N (57 + 8 * P) ≤ 100) : s_X2_distanceOfPanel w pa (nI P) = some (nI (dst N P (N (55 + 8 * P)) (N (56 + 8 * P)) (N (57 + 8 * P)))) := by
  have e0 : nI P * 3 = nI (3 * P) := (pk_mul P 3).trans (by rw [Nat.mul_comm])
  have w0 : wm (3 * P) + 4 = 55 + 8 * P := by rw [show wm (3 * P) = _ from wm_q (k := 0) (by omega)]; omega
  have w1 : wm (3 * P + 1) + 4 = 56 + 8 * P := by rw [wm_q (by omega)]; omega
  have w2 : wm (3 * P + 2) + 4 = 57 + 8 * P := by rw [wm_q (by omega)]; omega
  unfold s_X2_distanceOfPanel
  rw [nm_e', e0]
  try dsimp only
  rw [show nI (3 * P) + 1 = nI (3 * P + 1) from nI_add _ 1, show nI (3 * P) + 2 = nI (3 * P + 2) from nI_add _ 2]
  rw [cl_e (at_n (by omega) (by omega)), cl_e (at_n (by omega) (by omega)), cl_e (at_n (by omega) (by omega))]
  rw [ha _ (by omega), ha _ (by omega), ha _ (by omega), w0, w1, w2]
  rw [cl_e (cDist h hP (by omega) (by omega) (by omega) h1 h2 h3)]
theorem mDist_s {f7 f1 : Nat → Int32} {N v : Nat → Nat} {kk : Int32 → Option Int32} (hs : ∀ k, k < 3 → f7 k = nI (v k)) (h : RM f1 N) {P i acc n : Nat} (hP : P < 6) (hi : i < 3) (hv : v i < 2 ^ 30) (hN : N (51 + 8 * P + i) < 2 ^ 30) : s_X5_distance_L1 f7 (nI P) f1 kk (n + 1) (nI acc, nI i) = s_X5_distance_L1 f7 (nI P) f1 kk n (nI (acc + ad (v i) (N (51 + 8 * P + i))), nI (i + 1)) := by
  show s_X5_distance_B1 f7 (nI P) f1 kk (s_X5_distance_L1 f7 (nI P) f1 kk n) (nI acc) (nI i) = _
  unfold s_X5_distance_B1
  rw [if_neg (show ¬ (3 : Int32) ≤ nI i from nI_ge (a := i) (b := 3) (by omega) (by omega)), ld_n (by omega) (by omega), cl_e (mN P), nI_add, ld_n (by omega) (by omega), hs i hi, h _ (by omega), cl_e (away_m hv hN), nm_e', nm_e', nI_add, nI_1]
theorem mDist {f7 f1 : Nat → Int32} {N v : Nat → Nat} (hs : ∀ k, k < 3 → f7 k = nI (v k)) (h : RM f1 N) {P : Nat} (hP : P < 6) (hv : ∀ k, k < 3 → v k < 2 ^ 30) (h1 : N (51 + 8 * P) ≤ 100) (h2 : N (52 + 8 * P) ≤ 100) (h3 : N (53 + 8 * P) ≤ 100) : s_X5_distance f1 f7 (nI P) = some (nI (dst N P (v 0) (v 1) (v 2))) := by
  have e1 : 51 + 8 * P + 1 = 52 + 8 * P := by omega
  have e2 : 51 + 8 * P + 2 = 53 + 8 * P := by omega
  unfold s_X5_distance
  refine (mDist_s (n := 999) (acc := 0) (i := 0) hs h hP (by omega) (hv 0 (by omega)) (by rw [Nat.add_zero]; omega)).trans ?_
  refine (mDist_s (n := 998) (i := 1) hs h hP (by omega) (hv 1 (by omega)) (by rw [e1]; omega)).trans ?_
  refine (mDist_s (n := 997) (i := 2) hs h hP (by omega) (hv 2 (by omega)) (by rw [e2]; omega)).trans ?_
  show s_X5_distance_B1 f7 (nI P) f1 _ _ _ (nI 3) = _
  unfold s_X5_distance_B1 s_X5_distance_X1 dst
  rw [if_pos (show (3 : Int32) ≤ nI 3 from nI_le (a := 3) (b := 3) (by omega) (by omega)), e1, e2, Nat.add_zero, Nat.zero_add]
