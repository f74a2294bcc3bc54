-- pure: which kind gives one drop more
def pkc (v : Nat → Nat) : Nat :=
  if v 3 ≤ v (if v 2 ≤ v (if v 1 ≤ v 0 then 0 else 1) then (if v 1 ≤ v 0 then 0 else 1) else 2) then (if v 2 ≤ v (if v 1 ≤ v 0 then 0 else 1) then (if v 1 ≤ v 0 then 0 else 1) else 2) else 3
theorem pkc_lt (v : Nat → Nat) : pkc v < 4 := by
  unfold pkc
  split <;> split <;> (try split) <;> omega
theorem pkc_max (v : Nat → Nat) : ∀ k, k < 4 → v k ≤ v (pkc v) := by
  intro k hk
  have h : v 0 ≤ v (pkc v) ∧ v 1 ≤ v (pkc v) ∧ v 2 ≤ v (pkc v) ∧ v 3 ≤ v (pkc v) := by
    unfold pkc
    by_cases h1 : v 1 ≤ v 0
    · rw [if_pos h1]
      by_cases h2 : v 2 ≤ v 0
      · rw [if_pos h2]
        by_cases h3 : v 3 ≤ v 0
        · rw [if_pos h3]; omega
        · rw [if_neg h3]; omega
      · rw [if_neg h2]
        by_cases h3 : v 3 ≤ v 2
        · rw [if_pos h3]; omega
        · rw [if_neg h3]; omega
    · rw [if_neg h1]
      by_cases h2 : v 2 ≤ v 1
      · rw [if_pos h2]
        by_cases h3 : v 3 ≤ v 1
        · rw [if_pos h3]; omega
        · rw [if_neg h3]; omega
      · rw [if_neg h2]
        by_cases h3 : v 3 ≤ v 2
        · rw [if_pos h3]; omega
        · rw [if_neg h3]; omega
  rcases (show k = 0 ∨ k = 1 ∨ k = 2 ∨ k = 3 by omega) with rfl | rfl | rfl | rfl
  · exact h.1
  · exact h.2.1
  · exact h.2.2.1
  · exact h.2.2.2
theorem m1_le {a b : Nat} (ha : a < 2 ^ 30) (hb : b < 2 ^ 30) : (nI a - 1 ≤ nI b - 1) ↔ a ≤ b := by
  rw [Int32.le_iff_toInt_le, show (1 : Int32) = nI 1 from rfl, pk_sub_toInt ha (by omega), pk_sub_toInt hb (by omega)]
  omega
theorem ite_lt {c : Prop} [Decidable c] {a b n : Nat} (ha : a < n) (hb : b < n) : (if c then a else b) < n := by
  split
  · exact ha
  · exact hb
theorem kMost_s {lo : Nat → Int32} {v : Nat → Nat} {kk : Int32 → Option Int32} (hl : ∀ k, k < 4 → lo k = nI (v k) - 1) (hv : ∀ k, k < 4 → v k < 2 ^ 30) {a i n : Nat} (ha : a < 4) (hi : i < 4) : s_X2_kindWithMostLeftOver_L1 lo kk (n + 1) (nI a, nI i) = s_X2_kindWithMostLeftOver_L1 lo kk n (nI (if v i ≤ v a then a else i), nI (i + 1)) := by
  show s_X2_kindWithMostLeftOver_B1 lo kk (s_X2_kindWithMostLeftOver_L1 lo kk n) (nI a) (nI i) = _
  unfold s_X2_kindWithMostLeftOver_B1
  rw [if_neg (show ¬ (4 : Int32) ≤ nI i from nI_ge (a := i) (b := 4) (by omega) (by omega)), cl_e (at_n hi (by omega)), cl_e (at_n ha (by omega)), hl i hi, hl a ha]
  by_cases h : v i ≤ v a
  · rw [if_pos h, if_pos ((m1_le (hv i hi) (hv a ha)).mpr h), nm_e', nI_1]
  · rw [if_neg h, if_neg (fun q => h ((m1_le (hv i hi) (hv a ha)).mp q)), nm_e', nI_1]
theorem kMost {lo : Nat → Int32} {v : Nat → Nat} (hl : ∀ k, k < 4 → lo k = nI (v k) - 1) (hv : ∀ k, k < 4 → v k < 2 ^ 30) : s_X2_kindWithMostLeftOver lo = some (nI (pkc v)) := by
  have h1 : (if v 1 ≤ v 0 then 0 else 1) < 4 := ite_lt (by omega) (by omega)
  have h2 : (if v 2 ≤ v (if v 1 ≤ v 0 then 0 else 1) then (if v 1 ≤ v 0 then 0 else 1) else 2) < 4 := ite_lt h1 (by omega)
  unfold s_X2_kindWithMostLeftOver
  refine (kMost_s (n := 999) (a := 0) (i := 1) hl hv (by omega) (by omega)).trans ?_
  refine (kMost_s (n := 998) (i := 2) hl hv h1 (by omega)).trans ?_
  refine (kMost_s (n := 997) (i := 3) hl hv h2 (by omega)).trans ?_
  show s_X2_kindWithMostLeftOver_B1 lo _ _ _ (nI 4) = _
  unfold s_X2_kindWithMostLeftOver_B1 s_X2_kindWithMostLeftOver_X1 pkc
  rw [if_pos (show (4 : Int32) ≤ nI 4 from nI_le (a := 4) (b := 4) (by omega) (by omega))]
theorem bit_k : ∀ M : Fin 16, ∀ k : Fin 4, (((nI M.val >>> (nI k.val &&& 31)) &&& 1) = 0 ↔ M.val.testBit k.val = false) := by decide +kernel
theorem bit_o : ∀ M : Fin 16, ∀ k : Fin 4, nI M.val ||| ((1 : Int32) <<< (nI k.val &&& 31)) = nI (M.val ||| 1 <<< k.val) ∧ (M.val ||| 1 <<< k.val) < 16 := by decide +kernel
theorem bit_t : ∀ M : Fin 16, ∀ k : Fin 4, ∀ j : Fin 4, (M.val ||| 1 <<< k.val).testBit j.val = (decide (j = k) || M.val.testBit j.val) := by decide +kernel
theorem le_m1 {a w : Nat} (ha : a < 2 ^ 30) (hw : w < 2 ^ 30) : (nI a ≤ nI w - 1) ↔ a + 1 ≤ w := by
  rw [Int32.le_iff_toInt_le, show (1 : Int32) = nI 1 from rfl, pk_sub_toInt hw (by omega), nI_toInt (by omega)]
  omega
theorem mMost_s {f : Nat → Int32} {X v : Nat → Nat} {q m n M : Nat} {kk : Int32 → Option Int32} (hf : ∀ k, k < 4 → f (q + k) = nI (X k)) (hq : q + 3 < 99) (hX : ∀ k, k < 4 → X k * m < 2 ^ 30) (hn0 : 0 < n) (hn : n < 2 ^ 30) (hM : M < 16) (hv : ∀ k, k < 4 → v k = if M.testBit k = true then 0 else X k * m % n + 1) {b : Int32} {w i fu : Nat} (hw : w < 2 ^ 30) (hi : i < 4) : s_X5_mostLeft_L1 f (nI q) (nI m) (nI n) (nI M) kk (fu + 1) (b, nI w - 1, nI i) = s_X5_mostLeft_L1 f (nI q) (nI m) (nI n) (nI M) kk fu (if v i ≤ w then b else nI i, nI (if v i ≤ w then w else v i) - 1, nI (i + 1)) := by
  show s_X5_mostLeft_B1 f (nI q) (nI m) (nI n) (nI M) kk (s_X5_mostLeft_L1 f (nI q) (nI m) (nI n) (nI M) kk fu) b (nI w - 1) (nI i) = _
  have hX' := hX i hi
  have hr : X i * m % n < n := Nat.mod_lt _ hn0
  unfold s_X5_mostLeft_B1
  rw [if_neg (show ¬ (4 : Int32) ≤ nI i from nI_ge (a := i) (b := 4) (by omega) (by omega)), nI_add, ld_n (by omega) (by omega), hf i hi, pk_mul, rmd_n (nI_ne0 hn0 (by omega)), pk_rem (by omega) hn0 (by omega)]
  have hb := bit_k ⟨M, hM⟩ ⟨i, hi⟩
  by_cases hbit : M.testBit i = true
  · have h0 : v i = 0 := by rw [hv i hi, if_pos hbit]
    rw [if_neg (fun q => by rw [hb.mp q] at hbit; cases hbit), nm_e', nI_1, h0, if_pos (Nat.zero_le _), if_pos (Nat.zero_le _)]
  · have h0 : v i = X i * m % n + 1 := by rw [hv i hi, if_neg hbit]
    rw [if_pos (hb.mpr (by simpa using hbit)), h0]
    by_cases h : X i * m % n + 1 ≤ w
    · rw [if_pos h, if_pos h, if_pos ((le_m1 (by omega) hw).mpr h), nm_e', nI_1]
    · rw [if_neg h, if_neg h, if_neg (fun z => h ((le_m1 (by omega) hw).mp z)), nm_e', nI_1]
      rw [show nI (X i * m % n + 1) - 1 = nI (X i * m % n) from nI_pred _]
theorem mMost {f : Nat → Int32} {N v : Nat → Nat} {q m M : Nat} (hf : RM f N) (hq : q + 3 < 99) (hX : ∀ k, k < 4 → N (q + k) * m < 2 ^ 30) (hn0 : 0 < sm4 N q) (hn : sm4 N q < 2 ^ 29) (hM : M < 16) (hv : ∀ k, k < 4 → v k = if M.testBit k = true then 0 else N (q + k) * m % sm4 N q + 1) (hp : 0 < v (pkc v)) : s_X5_mostLeft f (nI q) (nI m) (nI M) = some (nI (pkc v)) := by
  have hb : ∀ k, k < 4 → v k < 2 ^ 30 := fun k hk => by
    rw [hv k hk]
    have := Nat.mod_lt (N (q + k) * m) hn0
    split <;> omega
  have hf' : ∀ k, k < 4 → f (q + k) = nI ((fun k => N (q + k)) k) := fun k hk => hf _ (by omega)
  have w1 : (if v 0 ≤ 0 then 0 else v 0) < 2 ^ 30 := ite_lt (by omega) (hb 0 (by omega))
  have w2 : (if v 1 ≤ (if v 0 ≤ 0 then 0 else v 0) then (if v 0 ≤ 0 then 0 else v 0) else v 1) < 2 ^ 30 := ite_lt w1 (hb 1 (by omega))
  have w3 : (if v 2 ≤ (if v 1 ≤ (if v 0 ≤ 0 then 0 else v 0) then (if v 0 ≤ 0 then 0 else v 0) else v 1) then (if v 1 ≤ (if v 0 ≤ 0 then 0 else v 0) then (if v 0 ≤ 0 then 0 else v 0) else v 1) else v 2) < 2 ^ 30 := ite_lt w2 (hb 2 (by omega))
  unfold s_X5_mostLeft
  rw [cl_e (mAll hf hq)]
  refine (mMost_s (fu := 999) (b := -6) (w := 0) (i := 0) hf' hq hX hn0 (by omega) hM hv (by omega) (by omega)).trans ?_
  refine (mMost_s (fu := 998) (i := 1) hf' hq hX hn0 (by omega) hM hv w1 (by omega)).trans ?_
  refine (mMost_s (fu := 997) (i := 2) hf' hq hX hn0 (by omega) hM hv w2 (by omega)).trans ?_
  refine (mMost_s (fu := 996) (i := 3) hf' hq hX hn0 (by omega) hM hv w3 (by omega)).trans ?_
  show s_X5_mostLeft_B1 f (nI q) (nI m) _ (nI M) _ _ _ _ (nI 4) = _
  unfold s_X5_mostLeft_B1 s_X5_mostLeft_X1
  rw [if_pos (show (4 : Int32) ≤ nI 4 from nI_le (a := 4) (b := 4) (by omega) (by omega))]
  refine congrArg some ?_
  clear w1 w2 w3 hb hf' hv hX
  unfold pkc at hp ⊢
  by_cases h0 : v 0 ≤ 0 <;> by_cases h1 : v 1 ≤ 0 <;> by_cases h2 : v 2 ≤ 0 <;> by_cases h3 : v 3 ≤ 0 <;> by_cases a1 : v 1 ≤ v 0 <;> by_cases a2 : v 2 ≤ v 0 <;> by_cases a3 : v 3 ≤ v 0 <;> by_cases b2 : v 2 ≤ v 1 <;> by_cases b3 : v 3 ≤ v 1 <;> by_cases c3 : v 3 ≤ v 2 <;> first
    | (exfalso; omega)
    | (simp only [h0, h1, h2, h3, a1, a2, a3, b2, b3, c3, if_true, if_false]; done)
    | (simp only [h0, h1, h2, h3, a1, a2, a3, b2, b3, c3, if_true, if_false] at hp ⊢; first | rfl | (exfalso; omega))
