-- pure: mixtures
def mxu (N : Nat → Nat) (a b r o k : Nat) : Nat := N (qp a + k) * r * po N b + N (qp b + k) * o * po N a
def mxd (N : Nat → Nat) (a b r o : Nat) : Nat := po N a * po N b * (r + o)
def mxs (N : Nat → Nat) (a b r o k : Nat) : Nat := 100 * mxu N a b r o k / mxd N a b r o
def mdn (N : Nat → Nat) (P a b r o : Nat) : Nat := dst N P (mxs N a b r o 0) (mxs N a b r o 1) (mxs N a b r o 2)
theorem mxs_le (N : Nat → Nat) (a b r o : Nat) {k : Nat} (hk : k < 4) : mxs N a b r o k ≤ 100 := by
  have h1 : N (qp a + k) ≤ po N a := sm4_ge N (qp a) hk
  have h2 : N (qp b + k) ≤ po N b := sm4_ge N (qp b) hk
  have h3 : N (qp a + k) * r * po N b ≤ po N a * r * po N b := Nat.mul_le_mul_right _ (Nat.mul_le_mul_right _ h1)
  have h4 : N (qp b + k) * o * po N a ≤ po N b * o * po N a := Nat.mul_le_mul_right _ (Nat.mul_le_mul_right _ h2)
  have h5 : mxd N a b r o = po N a * r * po N b + po N b * o * po N a := by
    unfold mxd
    rw [Nat.mul_add]
    congr 1 <;> ac_rfl
  unfold mxs
  refine Nat.div_le_of_le_mul ?_
  rw [Nat.mul_comm (mxd N a b r o) 100, h5]
  exact Nat.mul_le_mul_left 100 (Nat.add_le_add h3 h4)
theorem mdn_le {N : Nat → Nat} {c P a b r o : Nat} (I : Inv N c) (hP : P < 6) : mdn N P a b r o ≤ 300 := dst_le I hP (mxs_le _ _ _ _ _ (by omega)) (mxs_le _ _ _ _ _ (by omega)) (mxs_le _ _ _ _ _ (by omega))
theorem mxu_b {N : Nat → Nat} {a b r o k : Nat} (hk : k < 4) (ha : po N a ≤ 81) (hb : po N b ≤ 81) (hr : r ≤ 9) (ho : o ≤ 9) : mxu N a b r o k ≤ 118098 := by
  have h1 : N (qp a + k) ≤ 81 := Nat.le_trans (sm4_ge N (qp a) hk) ha
  have h2 : N (qp b + k) ≤ 81 := Nat.le_trans (sm4_ge N (qp b) hk) hb
  have h3 : N (qp a + k) * r * po N b ≤ 81 * 9 * 81 := Nat.mul_le_mul (Nat.mul_le_mul h1 hr) hb
  have h4 : N (qp b + k) * o * po N a ≤ 81 * 9 * 81 := Nat.mul_le_mul (Nat.mul_le_mul h2 ho) ha
  unfold mxu
  omega
theorem mxd_b {N : Nat → Nat} {a b r o : Nat} (ha : po N a ≤ 81) (hb : po N b ≤ 81) (hr : r ≤ 9) (ho : o ≤ 9) : mxd N a b r o ≤ 118098 := by
  have h3 : po N a * po N b * (r + o) ≤ 81 * 81 * 18 := Nat.mul_le_mul (Nat.mul_le_mul ha hb) (by omega)
  unfold mxd
  omega
theorem mxd_0 {N : Nat → Nat} {a b r o : Nat} (ha : 0 < po N a) (hb : 0 < po N b) (hr : 0 < r) : 0 < mxd N a b r o := Nat.mul_pos (Nat.mul_pos ha hb) (by omega)
theorem mxd_i (N : Nat → Nat) (a b r o : Nat) : nI (po N a) * nI (po N b) * (nI r + nI o) = nI (mxd N a b r o) := by
  rw [nI_add, pk_mul, pk_mul]
  rfl
theorem mxu_i (N : Nat → Nat) (a b r o k : Nat) : nI (N (qp a + k)) * nI r * nI (po N b) + nI (N (qp b + k)) * nI o * nI (po N a) = nI (mxu N a b r o k) := by
  rw [pk_mul, pk_mul, pk_mul, pk_mul, nI_add]
  rfl
theorem mMx_s {f g : Nat → Int32} {N : Nat → Nat} {a b r o i fu : Nat} {kk : (Nat → Int32) → Option (Int32 × (Nat → Int32))} (hf : RM f N) (ha : a < 8) (hb : b < 8) (pa : po N a ≤ 81) (pb : po N b ≤ 81) (a0 : 0 < po N a) (b0 : 0 < po N b) (r0 : 0 < r) (hr : r ≤ 9) (ho : o ≤ 9) (hi : i < 3) : s_X5_mixed_L1 (nI a) f (nI b) (nI r) (nI (po N b)) (nI o) (nI (po N a)) kk (fu + 1) (nI i, g) = s_X5_mixed_L1 (nI a) f (nI b) (nI r) (nI (po N b)) (nI o) (nI (po N a)) kk fu (nI (i + 1), upd g i (nI (mxs N a b r o i))) := by
  have qa := qp_lt a
  have qb := qp_lt b
  have u := mxu_b (N := N) (k := i) (by omega) pa pb hr ho
  have d := mxd_b pa pb hr ho
  have d0 := mxd_0 (o := o) a0 b0 r0
  show s_X5_mixed_B1 (nI a) f (nI b) (nI r) (nI (po N b)) (nI o) (nI (po N a)) kk (s_X5_mixed_L1 (nI a) f (nI b) (nI r) (nI (po N b)) (nI o) (nI (po N a)) kk fu) (nI i) g = _
  unfold s_X5_mixed_B1
  rw [if_neg (show ¬ (3 : Int32) ≤ nI i from nI_ge (a := i) (b := 3) (by omega) (by omega)), cl_e (mP a ha), show nI (qp a) + nI i = nI (qp a + i) from nI_add _ _, ld_n (by omega) (by omega), cl_e (mP b hb), show nI (qp b) + nI i = nI (qp b + i) from nI_add _ _, ld_n (by omega) (by omega), hf _ (by omega), hf _ (by omega), nm_e', mxu_i, mxd_i, show (100 : Int32) * nI (mxu N a b r o i) = nI (100 * mxu N a b r o i) from pk_mul 100 _, dv_n (nI_ne0 d0 (by omega)), pk_div (by omega) d0 (by omega), sto_n (by omega) (by omega), nm_e', nI_1]
  rfl
theorem mMx {f : Nat → Int32} {N : Nat → Nat} {c P a b r o : Nat} (hf : RM f N) (I : Inv N c) (hP : P < 6) (ha : a < 8) (hb : b < 8) (a0 : 0 < po N a) (b0 : 0 < po N b) (r0 : 0 < r) (hr : r ≤ 9) (ho : o ≤ 9) (g : Nat → Int32) : ∃ g', s_X5_mixed f g (nI P) (nI a) (nI b) (nI r) (nI o) = some (nI (mdn N P a b r o), g') := by
  have hI := I.2.2.2.2.1 P hP
  have qa := qp_lt a
  have qb := qp_lt b
  have pa : po N a ≤ 81 := I.q (p := a) (by omega)
  have pb : po N b ≤ 81 := I.q (p := b) (by omega)
  have hg : ∀ k, k < 3 → upd (upd (upd g 0 (nI (mxs N a b r o 0))) 1 (nI (mxs N a b r o 1))) 2 (nI (mxs N a b r o 2)) k = nI (mxs N a b r o k) := fun k hk => by
    rcases (show k = 0 ∨ k = 1 ∨ k = 2 by omega) with rfl | rfl | rfl
    · rw [pk_un (by omega), pk_un (by omega), pk_us]
    · rw [pk_un (by omega), pk_us]
    · rw [pk_us]
  have md : s_X5_distance f (upd (upd (upd g 0 (nI (mxs N a b r o 0))) 1 (nI (mxs N a b r o 1))) 2 (nI (mxs N a b r o 2))) (nI P) = some (nI (mdn N P a b r o)) := mDist (v := mxs N a b r o) hg hf hP (fun k hk => by have := mxs_le N a b r o (k := k) (by omega); omega) (by omega) (by omega) (by omega)
  refine ⟨upd (upd (upd g 0 (nI (mxs N a b r o 0))) 1 (nI (mxs N a b r o 1))) 2 (nI (mxs N a b r o 2)), ?_⟩
  unfold s_X5_mixed
  rw [cl_e (mP a ha), cl_e (mAll hf (by omega)), cl_e (mP b hb), cl_e (mAll hf (by omega))]
  refine (mMx_s (fu := 999) (i := 0) hf ha hb pa pb a0 b0 r0 hr ho (by omega)).trans ?_
  refine (mMx_s (fu := 998) (i := 1) hf ha hb pa pb a0 b0 r0 hr ho (by omega)).trans ?_
  refine (mMx_s (fu := 997) (i := 2) hf ha hb pa pb a0 b0 r0 hr ho (by omega)).trans ?_
  show s_X5_mixed_B1 _ f _ _ _ _ _ _ _ (nI 3) _ = _
  unfold s_X5_mixed_B1 s_X5_mixed_X1
  rw [if_pos (show (3 : Int32) ≤ nI 3 from nI_le (a := 3) (b := 3) (by omega) (by omega)), cl_e md]
theorem cMx {fa fb : Nat → Int32} {N : Nat → Nat} {a b r o i : Nat} (pa : po N a ≤ 81) (pb : po N b ≤ 81) (a0 : 0 < po N a) (b0 : 0 < po N b) (r0 : 0 < r) (hr : r ≤ 9) (ho : o ≤ 9) (hi : i < 3) (ea : fa i = nI (100 * N (qp a + i) * po N b)) (eb : fb i = nI (100 * N (qp b + i) * po N a)) : s_X0_mixedStrength fa fb (nI i) (nI r) (nI o) (nI (mxd N a b r o)) = some (nI (mxs N a b r o i)) := by
  have u := mxu_b (N := N) (k := i) (by omega) pa pb hr ho
  have d := mxd_b pa pb hr ho
  have d0 := mxd_0 (o := o) a0 b0 r0
  have e : 100 * N (qp a + i) * po N b * r + 100 * N (qp b + i) * po N a * o = 100 * mxu N a b r o i := by
    unfold mxu
    rw [Nat.mul_add]
    congr 1 <;> ac_rfl
  unfold s_X0_mixedStrength
  rw [cl_e (at_n hi (by omega)), cl_e (at_n hi (by omega)), ea, eb, pk_mul, pk_mul, nI_add, e, cl_e (div_c d0 (by omega)), pk_div (by omega) d0 (by omega)]
  rfl
def mdk (N : Nat → Nat) (P k m : Nat) : Nat := mdn N P (k / 8) (k % 8) (1 + m / 9) (1 + m % 9)
def mxi (N : Nat → Nat) (P k : Nat) (s : Int32 × Nat) : Nat → Int32 × Nat
  | 0 => s
  | m + 1 => if (mxi N P k s m).2 ≤ mdk N P k m then mxi N P k s m else (nI (81 * k + m), mdk N P k m)
def mxo (N : Nat → Nat) (P : Nat) : Nat → Int32 × Nat
  | 0 => (-6, 1000)
  | k + 1 => if k / 8 < k % 8 ∧ 0 < po N (k / 8) ∧ 0 < po N (k % 8) then mxi N P k (mxo N P k) 81 else mxo N P k
def MB (y : Nat → Int32) (s : Int32 × Nat) : Prop := y 4 = nI s.2 ∧ s.2 ≤ 1000 ∧ ((s.1 = -6 ∧ s.2 = 1000) ∨ ∃ k m, k < 64 ∧ m < 81 ∧ s.1 = nI (81 * k + m) ∧ s.2 ≤ 300 ∧ y 0 = nI (k / 8) ∧ y 1 = nI (k % 8) ∧ y 2 = nI (1 + m / 9) ∧ y 3 = nI (1 + m % 9))
theorem MB.le {y : Nat → Int32} {s : Int32 × Nat} (h : MB y s) : s.2 ≤ 1000 := h.2.1
theorem cTP_s {w fa fb y : Nat → Int32} {N : Nat → Nat} {c P k m fu : Nat} {s : Int32 × Nat} {kk : (Nat → Int32) → Option ((Nat → Int32) × (Nat → Int32) × (Nat → Int32))} (hw : ∀ k, k < 18 → w k = nI (N (wm k))) (I : Inv N c) (hP : P < 6) (hk : k < 64) (hm : m < 81) (a0 : 0 < po N (k / 8)) (b0 : 0 < po N (k % 8)) (ea : ∀ i, i < 3 → fa i = nI (100 * N (qp (k / 8) + i) * po N (k % 8))) (eb : ∀ i, i < 3 → fb i = nI (100 * N (qp (k % 8) + i) * po N (k / 8))) (hy : MB y (mxi N P k s m)) : ∃ y', MB y' (mxi N P k s (m + 1)) ∧ s_X0_tryParts_L3 (nI (po N (k / 8))) (nI (po N (k % 8))) (nI (1 + m / 9)) fa fb w (nI P) (nI (k / 8)) (nI (k % 8)) kk (fu + 1) (nI (1 + m % 9), y) = s_X0_tryParts_L3 (nI (po N (k / 8))) (nI (po N (k % 8))) (nI (1 + m / 9)) fa fb w (nI P) (nI (k / 8)) (nI (k % 8)) kk fu (nI (1 + m % 9 + 1), y') := by
  have hI := I.2.2.2.2.1 P hP
  have pa : po N (k / 8) ≤ 81 := I.q (p := k / 8) (by omega)
  have pb : po N (k % 8) ≤ 81 := I.q (p := k % 8) (by omega)
  have l0 := mxs_le N (k / 8) (k % 8) (1 + m / 9) (1 + m % 9) (k := 0) (by omega)
  have l1 := mxs_le N (k / 8) (k % 8) (1 + m / 9) (1 + m % 9) (k := 1) (by omega)
  have l2 := mxs_le N (k / 8) (k % 8) (1 + m / 9) (1 + m % 9) (k := 2) (by omega)
  have md : mdk N P k m ≤ 300 := mdn_le I hP
  have hs := hy.le
  have hd : s_X2_distance w (nI P) (nI (mxs N (k / 8) (k % 8) (1 + m / 9) (1 + m % 9) 0)) (nI (mxs N (k / 8) (k % 8) (1 + m / 9) (1 + m % 9) 1)) (nI (mxs N (k / 8) (k % 8) (1 + m / 9) (1 + m % 9) 2)) = some (nI (mdk N P k m)) := cDist hw hP (by omega) (by omega) (by omega) (by omega) (by omega) (by omega)
  have c0 : s_X0_mixedStrength fa fb 0 (nI (1 + m / 9)) (nI (1 + m % 9)) (nI (mxd N (k / 8) (k % 8) (1 + m / 9) (1 + m % 9))) = _ := cMx (i := 0) pa pb a0 b0 (by omega) (by omega) (by omega) (by omega) (ea 0 (by omega)) (eb 0 (by omega))
  have c1 : s_X0_mixedStrength fa fb 1 (nI (1 + m / 9)) (nI (1 + m % 9)) (nI (mxd N (k / 8) (k % 8) (1 + m / 9) (1 + m % 9))) = _ := cMx (i := 1) pa pb a0 b0 (by omega) (by omega) (by omega) (by omega) (ea 1 (by omega)) (eb 1 (by omega))
  have c2 : s_X0_mixedStrength fa fb 2 (nI (1 + m / 9)) (nI (1 + m % 9)) (nI (mxd N (k / 8) (k % 8) (1 + m / 9) (1 + m % 9))) = _ := cMx (i := 2) pa pb a0 b0 (by omega) (by omega) (by omega) (by omega) (ea 2 (by omega)) (eb 2 (by omega))
  have h4 : s_X4_at 5 y 4 = some (nI (mxi N P k s m).2) := (at_n (a := 4) (n := 5) (by omega) (by omega)).trans (by rw [hy.1])
  have es : mxi N P k s (m + 1) = if (mxi N P k s m).2 ≤ mdk N P k m then mxi N P k s m else (nI (81 * k + m), mdk N P k m) := rfl
  by_cases hl : (mxi N P k s m).2 ≤ mdk N P k m
  · refine ⟨y, by rw [es, if_pos hl]; exact hy, ?_⟩
    show s_X0_tryParts_B3 (nI (po N (k / 8))) (nI (po N (k % 8))) (nI (1 + m / 9)) fa fb w (nI P) (nI (k / 8)) (nI (k % 8)) kk (s_X0_tryParts_L3 (nI (po N (k / 8))) (nI (po N (k % 8))) (nI (1 + m / 9)) fa fb w (nI P) (nI (k / 8)) (nI (k % 8)) kk fu) (nI (1 + m % 9)) y = _
    unfold s_X0_tryParts_B3
    rw [if_neg (show ¬ (9 : Int32) < nI (1 + m % 9) from nI_nlt (a := 9) (by omega) (by omega)), nm_e', mxd_i, cl_e c0, cl_e c1, cl_e c2, cl_e hd, cl_e h4, if_pos (nI_le hl (by omega)), nm_e', nI_1]
  · refine ⟨upd (upd (upd (upd (upd y 0 (nI (k / 8))) 1 (nI (k % 8))) 2 (nI (1 + m / 9))) 3 (nI (1 + m % 9))) 4 (nI (mdk N P k m)), ?_, ?_⟩
    · rw [es, if_neg hl]
      refine ⟨pk_us, by show mdk N P k m ≤ 1000; omega, Or.inr ⟨k, m, hk, hm, rfl, md, ?_, ?_, ?_, ?_⟩⟩
      · rw [pk_un (by omega), pk_un (by omega), pk_un (by omega), pk_un (by omega), pk_us]
      · rw [pk_un (by omega), pk_un (by omega), pk_un (by omega), pk_us]
      · rw [pk_un (by omega), pk_un (by omega), pk_us]
      · rw [pk_un (by omega), pk_us]
    · show s_X0_tryParts_B3 (nI (po N (k / 8))) (nI (po N (k % 8))) (nI (1 + m / 9)) fa fb w (nI P) (nI (k / 8)) (nI (k % 8)) kk (s_X0_tryParts_L3 (nI (po N (k / 8))) (nI (po N (k % 8))) (nI (1 + m / 9)) fa fb w (nI P) (nI (k / 8)) (nI (k % 8)) kk fu) (nI (1 + m % 9)) y = _
      unfold s_X0_tryParts_B3
      have w0 : ∀ (u : Nat → Int32) (v : Int32), s_X4_write 5 u 0 v = some (upd u 0 v) := fun u v => write_n (a := 0) (n := 5) (by omega) (by omega)
      have w1 : ∀ (u : Nat → Int32) (v : Int32), s_X4_write 5 u 1 v = some (upd u 1 v) := fun u v => write_n (a := 1) (n := 5) (by omega) (by omega)
      have w2 : ∀ (u : Nat → Int32) (v : Int32), s_X4_write 5 u 2 v = some (upd u 2 v) := fun u v => write_n (a := 2) (n := 5) (by omega) (by omega)
      have w3 : ∀ (u : Nat → Int32) (v : Int32), s_X4_write 5 u 3 v = some (upd u 3 v) := fun u v => write_n (a := 3) (n := 5) (by omega) (by omega)
      have w4 : ∀ (u : Nat → Int32) (v : Int32), s_X4_write 5 u 4 v = some (upd u 4 v) := fun u v => write_n (a := 4) (n := 5) (by omega) (by omega)
      rw [if_neg (show ¬ (9 : Int32) < nI (1 + m % 9) from nI_nlt (a := 9) (by omega) (by omega)), nm_e', mxd_i, cl_e c0, cl_e c1, cl_e c2, cl_e hd, cl_e h4, if_neg (nI_ge (by omega) (by omega)), cl_e (w0 _ _), cl_e (w1 _ _), cl_e (w2 _ _), cl_e (w3 _ _), cl_e (w4 _ _), nm_e', nI_1]
