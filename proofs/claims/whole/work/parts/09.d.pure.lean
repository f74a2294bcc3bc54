-- pure: drops are taken out of paint
def sv (v : Nat → Nat) : Nat := (v 0 - 1) + (v 1 - 1) + (v 2 - 1) + (v 3 - 1)
def s4 (y : Nat → Nat) : Nat := y 0 + y 1 + y 2 + y 3
theorem four {P : Nat → Prop} (h0 : P 0) (h1 : P 1) (h2 : P 2) (h3 : P 3) : ∀ k, k < 4 → P k := by
  intro k hk
  rcases (show k = 0 ∨ k = 1 ∨ k = 2 ∨ k = 3 by omega) with rfl | rfl | rfl | rfl
  · exact h0
  · exact h1
  · exact h2
  · exact h3
theorem sv_pick {v : Nat → Nat} {c : Nat} (hc : c < 4) : sv (upN v c 0) + (v c - 1) = sv v := by
  unfold sv
  rcases (show c = 0 ∨ c = 1 ∨ c = 2 ∨ c = 3 by omega) with rfl | rfl | rfl | rfl <;> simp only [upN] <;> simp <;> omega
theorem s4_pick {y : Nat → Nat} {c : Nat} (hc : c < 4) : s4 (upN y c (y c + 1)) = s4 y + 1 := by
  unfold s4
  rcases (show c = 0 ∨ c = 1 ∨ c = 2 ∨ c = 3 by omega) with rfl | rfl | rfl | rfl <;> simp only [upN] <;> simp <;> omega
theorem sv_le {v : Nat → Nat} {c : Nat} (h : ∀ k, k < 4 → v k ≤ v c) : sv v ≤ 4 * (v c - 1) := by
  unfold sv
  have h0 := h 0 (by omega)
  have h1 := h 1 (by omega)
  have h2 := h 2 (by omega)
  have h3 := h 3 (by omega)
  omega
theorem ph2 {f : Nat → Int32} {N : Nat → Nat} {q m : Nat} {kc : (Nat → Int32) × (Nat → Int32) → Option ((Nat → Int32) × (Nat → Int32) × (Nat → Int32))} {km : (Nat → Int32) → Option ((Nat → Int32) × (Nat → Int32))} (hf : RM f N) (hq : q + 3 < 99) (hX : ∀ k, k < 4 → N (q + k) * m < 2 ^ 30) (hn0 : 0 < sm4 N q) (hn : sm4 N q < 2 ^ 29) (hm : m < 2 ^ 29) :
    ∀ (g t M : Nat) (tk tm lo : Nat → Int32) (y v : Nat → Nat), t + g ≤ 3 → M < 16 → g ≤ m → (∀ k, k < 4 → v k = if M.testBit k = true then 0 else N (q + k) * m % sm4 N q + 1) → (∀ k, k < 4 → lo k = nI (v k) - 1) → (∀ k, k < 4 → tk k = nI (y k)) → (∀ k, k < 4 → tm k = nI (y k)) → sm4 N q * g ≤ sv v → (∀ k, k < 4 → y k + (if 1 < v k then 1 else 0) ≤ N (q + k)) →
    ∃ (y' : Nat → Nat) (tkc tkm lo' : Nat → Int32), (∀ fu, s_X2_takeOut_L2 kc (fu + g + 1) (nI g, nI t, tk, lo) = kc (tkc, lo')) ∧ (∀ fu, s_X5_takes_L2 (nI m) f (nI q) km (fu + g + 1) (nI (m - g), nI M, tm) = km tkm) ∧ (∀ k, k < 4 → tkc k = nI (y' k)) ∧ (∀ k, k < 4 → tkm k = nI (y' k)) ∧ (∀ k, k < 4 → y' k ≤ N (q + k)) ∧ s4 y' = s4 y + g := by
  intro g
  induction g with
  | zero =>
    intro t M tk tm lo y v ht hM hg hv hlo htk htm hs hy
    refine ⟨y, tk, tm, lo, fun fu => ?_, fun fu => ?_, htk, htm, fun k hk => by have := hy k hk; omega, rfl⟩
    · show s_X2_takeOut_B2 kc (s_X2_takeOut_L2 kc _) (nI 0) (nI t) tk lo = _
      unfold s_X2_takeOut_B2
      rw [if_neg (show ¬ (4 : Int32) ≤ nI t from nI_ge (a := t) (b := 4) (by omega) (by omega)), if_pos (show nI 0 ≤ (0 : Int32) from nI_le (a := 0) (b := 0) (by omega) (by omega))]
    · show s_X5_takes_B2 (nI m) f (nI q) km (s_X5_takes_L2 (nI m) f (nI q) km _) (nI (m - 0)) (nI M) tm = _
      unfold s_X5_takes_B2
      rw [if_pos (nI_le (by omega) (by omega))]
  | succ g ih =>
    intro t M tk tm lo y v ht hM hg hv hlo htk htm hs hy
    have hc := pkc_lt v
    have hmax := pkc_max v
    have hvn : ∀ k, k < 4 → v k ≤ sm4 N q := fun k hk => by
      rw [hv k hk]
      have := Nat.mod_lt (N (q + k) * m) hn0
      split <;> omega
    have hsl := sv_le hmax
    rw [Nat.mul_succ] at hs
    have hbig : 1 < v (pkc v) := by
      rcases Nat.lt_or_ge 1 (v (pkc v)) with h | h
      · exact h
      · exfalso
        have : sv v ≤ 0 := by omega
        omega
    have hsp := sv_pick (v := v) hc
    have hvc := hvn _ hc
    have hyc := hy _ hc
    rw [if_pos hbig] at hyc
    have hXc := hX _ hc
    have hNc : N (q + pkc v) ≤ sm4 N q := sm4_ge N q hc
    obtain ⟨y', tkc, tkm, lo', h1, h2, h3, h4, h5, h6⟩ := ih (t + 1) (M ||| 1 <<< pkc v) (upd tk (pkc v) (nI (y (pkc v) + 1))) (upd tm (pkc v) (nI (y (pkc v) + 1))) (upd lo (pkc v) (-1)) (upN y (pkc v) (y (pkc v) + 1)) (upN v (pkc v) 0) (by omega) (bit_o ⟨M, hM⟩ ⟨pkc v, hc⟩).2 (by omega)
      (fun k hk => by
        have hb := bit_t ⟨M, hM⟩ ⟨pkc v, hc⟩ ⟨k, hk⟩
        rw [hb]
        by_cases e : k = pkc v
        · rw [show upN v (pkc v) 0 k = 0 by rw [e, upN_s]]; simp [Fin.ext_iff, e]
        · rw [upN_n e, hv k hk]
          simp [Fin.ext_iff, e])
      (fun k hk => by
        by_cases e : k = pkc v
        · rw [e, pk_us, upN_s]; rfl
        · rw [pk_un e, upN_n e]; exact hlo k hk)
      (fun k hk => by
        by_cases e : k = pkc v
        · rw [e, pk_us, upN_s]
        · rw [pk_un e, upN_n e]; exact htk k hk)
      (fun k hk => by
        by_cases e : k = pkc v
        · rw [e, pk_us, upN_s]
        · rw [pk_un e, upN_n e]; exact htm k hk)
      (by omega)
      (fun k hk => by
        by_cases e : k = pkc v
        · rw [e, upN_s, upN_s]; simp; omega
        · rw [upN_n e, upN_n e]; exact hy k hk)
    refine ⟨y', tkc, tkm, lo', fun fu => ?_, fun fu => ?_, h3, h4, h5, by rw [h6, s4_pick hc]; omega⟩
    · refine Eq.trans ?_ (h1 fu)
      show s_X2_takeOut_B2 kc (s_X2_takeOut_L2 kc (fu + g + 1)) (nI (g + 1)) (nI t) tk lo = _
      unfold s_X2_takeOut_B2
      rw [if_neg (show ¬ (4 : Int32) ≤ nI t from nI_ge (a := t) (b := 4) (by omega) (by omega)), if_neg (show ¬ nI (g + 1) ≤ (0 : Int32) from nI_ge (a := 0) (b := g + 1) (by omega) (by omega))]
      rw [cl_e (kMost hlo (fun k hk => by have := hvn k hk; omega)), cl_e (add_n hc (by omega)), cl_e (write_n hc (by omega)), nm_e', nm_e', htk _ hc, pk_m1, nI_1, nI_1]
    · refine Eq.trans ?_ (h2 fu)
      show s_X5_takes_B2 (nI m) f (nI q) km (s_X5_takes_L2 (nI m) f (nI q) km (fu + g + 1)) (nI (m - (g + 1))) (nI M) tm = _
      unfold s_X5_takes_B2
      rw [if_neg (nI_ge (by omega) (by omega))]
      rw [cl_e (mMost hf hq hX hn0 hn hM hv (by omega)), ld_n hc (by omega), htm _ hc, nm_e', nI_1, sto_n hc (by omega), nm_e', nm_e', nI_1]
      rw [(bit_o ⟨M, hM⟩ ⟨pkc v, hc⟩).1, show m - (g + 1) + 1 = m - g by omega]
theorem cP1_s {d : Nat → Int32} {N : Nat → Nat} (hd : RD d N) {p m : Nat} (hp : p < 9) (hX : ∀ k, k < 4 → N (qp p + k) * m < 2 ^ 30) (hn0 : 0 < sm4 N (qp p)) (hn : sm4 N (qp p) < 2 ^ 29) {kc : Int32 × (Nat → Int32) × (Nat → Int32) → Option ((Nat → Int32) × (Nat → Int32) × (Nat → Int32))} {ms i fu : Nat} {tk lo : Nat → Int32} (hi : i < 4) (hms : N (qp p + i) * m / sm4 N (qp p) ≤ ms) : s_X2_takeOut_L1 d (nI p) (nI m) (nI (sm4 N (qp p))) kc (fu + 1) (nI ms, nI i, tk, lo) = s_X2_takeOut_L1 d (nI p) (nI m) (nI (sm4 N (qp p))) kc fu (nI (ms - N (qp p + i) * m / sm4 N (qp p)), nI (i + 1), upd tk i (nI (N (qp p + i) * m / sm4 N (qp p))), upd lo i (nI (N (qp p + i) * m % sm4 N (qp p)))) := by
  have hX' := hX i hi
  have e0 : nI p * 4 = nI (4 * p) := (pk_mul p 4).trans (by rw [Nat.mul_comm])
  show s_X2_takeOut_B1 d (nI p) (nI m) (nI (sm4 N (qp p))) kc (s_X2_takeOut_L1 d (nI p) (nI m) (nI (sm4 N (qp p))) kc fu) (nI ms) (nI i) tk lo = _
  unfold s_X2_takeOut_B1
  rw [if_neg (show ¬ (4 : Int32) ≤ nI i from nI_ge (a := i) (b := 4) (by omega) (by omega)), e0, nI_add, cl_e (at_n (by omega) (by omega)), nm_e', hd _ (by omega), dm_q hp hi, pk_mul]
  rw [cl_e (div_c hn0 (by omega)), cl_e (write_n hi (by omega)), cl_e (rem_c hn0 (by omega)), cl_e (write_n hi (by omega)), cl_e (at_n hi (by omega)), pk_us, nm_e', nm_e', nI_1, pk_rem (by omega) hn0 (by omega), pk_div (by omega) hn0 (by omega), pk_sub hms]
theorem mP1_s {f : Nat → Int32} {N : Nat → Nat} (hf : RM f N) {q m : Nat} (hq : q + 3 < 99) (hX : ∀ k, k < 4 → N (q + k) * m < 2 ^ 30) (hn0 : 0 < sm4 N q) (hn : sm4 N q < 2 ^ 29) {km : Int32 × (Nat → Int32) → Option ((Nat → Int32) × (Nat → Int32))} {su i fu : Nat} {tk : Nat → Int32} (hi : i < 4) : s_X5_takes_L1 f (nI q) (nI m) (nI (sm4 N q)) km (fu + 1) (nI su, nI i, tk) = s_X5_takes_L1 f (nI q) (nI m) (nI (sm4 N q)) km fu (nI (su + N (q + i) * m / sm4 N q), nI (i + 1), upd tk i (nI (N (q + i) * m / sm4 N q))) := by
  have hX' := hX i hi
  show s_X5_takes_B1 f (nI q) (nI m) (nI (sm4 N q)) km (s_X5_takes_L1 f (nI q) (nI m) (nI (sm4 N q)) km fu) (nI su) (nI i) tk = _
  unfold s_X5_takes_B1
  rw [if_neg (show ¬ (4 : Int32) ≤ nI i from nI_ge (a := i) (b := 4) (by omega) (by omega)), nI_add, ld_n (by omega) (by omega), hf _ (by omega), pk_mul, dv_n (nI_ne0 hn0 (by omega)), pk_div (by omega) hn0 (by omega), sto_n hi (by omega), ld_n hi (by omega), pk_us, nm_e', nm_e', nI_add, nI_1]
def tkN (N : Nat → Nat) (q : Nat) (y : Nat → Nat) (i : Nat) : Nat → Nat := fun j => if q ≤ j ∧ j < q + i then N j - y (j - q) else N j
theorem tkN_0 (N : Nat → Nat) (q : Nat) (y : Nat → Nat) : tkN N q y 0 = N := by
  funext j
  unfold tkN
  rw [if_neg (by omega)]
theorem tkN_s (N : Nat → Nat) (q : Nat) (y : Nat → Nat) (i : Nat) : upN (tkN N q y i) (q + i) (N (q + i) - y i) = tkN N q y (i + 1) := by
  funext j
  unfold upN tkN
  by_cases e : j = q + i
  · subst e
    rw [if_pos rfl, if_pos (by omega), show q + i - q = i by omega]
  · rw [if_neg e]
    by_cases h : q ≤ j ∧ j < q + i
    · rw [if_pos h, if_pos (by omega)]
    · rw [if_neg h, if_neg (by omega)]
theorem tkN_at (N : Nat → Nat) (q : Nat) (y : Nat → Nat) (i : Nat) : tkN N q y i (q + i) = N (q + i) := by
  unfold tkN
  rw [if_neg (by omega)]
theorem i_addneg (x y : Int32) : x + -y = x - y := (Int32.sub_eq_add_neg x y).symm
theorem cP3_s {tk d : Nat → Int32} {N y : Nat → Nat} {p i fu : Nat} {kc : (Nat → Int32) → Option ((Nat → Int32) × (Nat → Int32) × (Nat → Int32))} (hp : p < 9) (hi : i < 4) (ht : tk i = nI (y i)) (hy : y i ≤ N (qp p + i)) (hd : RD d (tkN N (qp p) y i)) : ∃ d', RD d' (tkN N (qp p) y (i + 1)) ∧ s_X2_takeOut_L3 tk (nI p) kc (fu + 1) (nI i, d) = s_X2_takeOut_L3 tk (nI p) kc fu (nI (i + 1), d') := by
  have e0 : nI p * 4 = nI (4 * p) := (pk_mul p 4).trans (by rw [Nat.mul_comm])
  have h1 := hd.up (k := 4 * p + i) (by omega) (N (qp p + i) - y i)
  rw [dm_q hp hi, tkN_s] at h1
  refine ⟨_, h1, ?_⟩
  show s_X2_takeOut_B3 tk (nI p) kc (s_X2_takeOut_L3 tk (nI p) kc fu) (nI i) d = _
  unfold s_X2_takeOut_B3
  rw [if_neg (show ¬ (4 : Int32) ≤ nI i from nI_ge (a := i) (b := 4) (by omega) (by omega)), e0, nI_add, cl_e (at_n hi (by omega)), cl_e (add_n (by omega) (by omega)), nm_e', nI_1, ht, hd _ (by omega), dm_q hp hi, tkN_at, i_addneg, pk_sub hy]
theorem mP3_s {tk f : Nat → Int32} {N y : Nat → Nat} {q i fu : Nat} {km : (Nat → Int32) → Option ((Nat → Int32) × (Nat → Int32))} (hq : q + 3 < 99) (hi : i < 4) (ht : tk i = nI (y i)) (hy : y i ≤ N (q + i)) (hf : RM f (tkN N q y i)) : ∃ f', RM f' (tkN N q y (i + 1)) ∧ s_X5_takes_L3 (nI q) tk km (fu + 1) (nI i, f) = s_X5_takes_L3 (nI q) tk km fu (nI (i + 1), f') := by
  have h1 := hf.up (q + i) (N (q + i) - y i)
  rw [tkN_s] at h1
  refine ⟨_, h1, ?_⟩
  show s_X5_takes_B3 (nI q) tk km (s_X5_takes_L3 (nI q) tk km fu) (nI i) f = _
  unfold s_X5_takes_B3
  rw [if_neg (show ¬ (4 : Int32) ≤ nI i from nI_ge (a := i) (b := 4) (by omega) (by omega)), nI_add, ld_n (by omega) (by omega), ld_n hi (by omega), nm_e', sto_n (by omega) (by omega), nm_e', nI_1, ht, hf _ (by omega), tkN_at, pk_sub hy]
theorem q_sum {X : Nat → Nat} {n m : Nat} (hn : n = s4 X) (hn0 : 0 < n) : s4 (fun k => X k * m / n) ≤ m ∧ m - s4 (fun k => X k * m / n) ≤ 3 ∧ n * (m - s4 (fun k => X k * m / n)) = s4 (fun k => X k * m % n) := by
  have e : ∀ k, n * (X k * m / n) + X k * m % n = X k * m := fun k => Nat.div_add_mod _ _
  have r : ∀ k, X k * m % n < n := fun k => Nat.mod_lt _ hn0
  have e0 := e 0
  have e1 := e 1
  have e2 := e 2
  have e3 := e 3
  have r0 := r 0
  have r1 := r 1
  have r2 := r 2
  have r3 := r 3
  have hs : n * s4 (fun k => X k * m / n) + s4 (fun k => X k * m % n) = n * m := by
    show n * (X 0 * m / n + X 1 * m / n + X 2 * m / n + X 3 * m / n) + (X 0 * m % n + X 1 * m % n + X 2 * m % n + X 3 * m % n) = n * m
    have : n * m = X 0 * m + X 1 * m + X 2 * m + X 3 * m := by
      rw [hn]
      unfold s4
      rw [Nat.add_mul, Nat.add_mul, Nat.add_mul]
    rw [Nat.mul_add, Nat.mul_add, Nat.mul_add, this]
    omega
  have hr : s4 (fun k => X k * m % n) < n * 4 := by
    show X 0 * m % n + X 1 * m % n + X 2 * m % n + X 3 * m % n < n * 4
    omega
  have hle : s4 (fun k => X k * m / n) ≤ m := by
    rcases Nat.lt_or_ge m (s4 (fun k => X k * m / n)) with h | h
    · exfalso
      have := Nat.mul_le_mul_left n h
      rw [Nat.mul_succ] at this
      omega
    · exact h
  have hd : n * (m - s4 (fun k => X k * m / n)) = s4 (fun k => X k * m % n) := by
    rw [Nat.mul_sub]
    omega
  refine ⟨hle, ?_, hd⟩
  rcases Nat.lt_or_ge 3 (m - s4 (fun k => X k * m / n)) with h | h
  · exfalso
    have := Nat.mul_le_mul_left n h
    omega
  · exact h
theorem q_le {x n m : Nat} (hx : x ≤ n) (hm : m ≤ n) (hn0 : 0 < n) : x * m / n + (if 1 < x * m % n + 1 then 1 else 0) ≤ x := by
  have e : n * (x * m / n) + x * m % n = x * m := Nat.div_add_mod _ _
  have h1 : x * m ≤ x * n := Nat.mul_le_mul_left x hm
  have h2 : x * n = n * x := Nat.mul_comm _ _
  by_cases h : 1 < x * m % n + 1
  · rw [if_pos h]
    rcases Nat.lt_or_ge x (x * m / n + 1) with q | q
    · exfalso
      have h3 : n * x ≤ n * (x * m / n) := Nat.mul_le_mul_left n (by omega)
      omega
    · exact q
  · rw [if_neg h]
    exact Nat.div_le_of_le_mul (by omega)
/-- drops are taken out of paint: both sides take the same -/
theorem takes_b {d f : Nat → Int32} {N : Nat → Nat} (hd : RD d N) (hf : RM f N) {p m : Nat} (hp : p < 9) (hm0 : 0 < m) (hm : m ≤ sm4 N (qp p)) (hn : sm4 N (qp p) ≤ 81) (tk lo tm : Nat → Int32) :
    ∃ (y : Nat → Nat) (d' f' tk' lo' tm' : Nat → Int32), s_X2_takeOut d tk lo (nI p) (nI m) = some (d', tk', lo') ∧ s_X5_takes f tm (nI (qp p)) (nI m) = some (f', tm') ∧ RD d' (tkN N (qp p) y 4) ∧ RM f' (tkN N (qp p) y 4) ∧ (∀ k, k < 4 → tk' k = nI (y k)) ∧ (∀ k, k < 4 → tm' k = nI (y k)) ∧ (∀ k, k < 4 → y k ≤ N (qp p + k)) ∧ s4 y = m := by
  have hq : qp p + 3 < 99 := by
    unfold qp
    split <;> omega
  have hn0 : 0 < sm4 N (qp p) := by omega
  have hle : ∀ k, k < 4 → N (qp p + k) ≤ sm4 N (qp p) := fun k hk => sm4_ge N (qp p) hk
  have hX : ∀ k, k < 4 → N (qp p + k) * m < 2 ^ 30 := fun k hk => by
    have h1 := Nat.mul_le_mul (hle k hk) hm
    have h2 := Nat.mul_le_mul hn hn
    have h3 : sm4 N (qp p) * sm4 N (qp p) ≤ 81 * 81 := h2
    omega
  obtain ⟨g1, g2, g3⟩ := q_sum (X := fun k => N (qp p + k)) (n := sm4 N (qp p)) (m := m) rfl hn0
  have gs : s4 (fun k => N (qp p + k) * m / sm4 N (qp p)) = N (qp p + 0) * m / sm4 N (qp p) + N (qp p + 1) * m / sm4 N (qp p) + N (qp p + 2) * m / sm4 N (qp p) + N (qp p + 3) * m / sm4 N (qp p) := rfl
  have z0 := Nat.zero_le (N (qp p + 0) * m / sm4 N (qp p))
  have z1 := Nat.zero_le (N (qp p + 1) * m / sm4 N (qp p))
  have z2 := Nat.zero_le (N (qp p + 2) * m / sm4 N (qp p))
  have z3 := Nat.zero_le (N (qp p + 3) * m / sm4 N (qp p))
  -- the first loops
  have c1 := fun kc => cP1_s (kc := kc) (fu := 999) (ms := m) (i := 0) (tk := tk) (lo := lo) hd hp hX hn0 (by omega) (by omega) (by omega)
  have c2 := fun kc tk lo => cP1_s (kc := kc) (fu := 998) (ms := m - N (qp p + 0) * m / sm4 N (qp p)) (i := 1) (tk := tk) (lo := lo) hd hp hX hn0 (by omega) (by omega) (by omega)
  have c3 := fun kc tk lo => cP1_s (kc := kc) (fu := 997) (ms := m - N (qp p + 0) * m / sm4 N (qp p) - N (qp p + 1) * m / sm4 N (qp p)) (i := 2) (tk := tk) (lo := lo) hd hp hX hn0 (by omega) (by omega) (by omega)
  have c4 := fun kc tk lo => cP1_s (kc := kc) (fu := 996) (ms := m - N (qp p + 0) * m / sm4 N (qp p) - N (qp p + 1) * m / sm4 N (qp p) - N (qp p + 2) * m / sm4 N (qp p)) (i := 3) (tk := tk) (lo := lo) hd hp hX hn0 (by omega) (by omega) (by omega)
  have d1 := fun km => mP1_s (km := km) (fu := 999) (su := 0) (i := 0) (tk := tm) hf hq hX hn0 (by omega) (by omega)
  have d2 := fun km su tk => mP1_s (km := km) (fu := 998) (su := su) (i := 1) (tk := tk) hf hq hX hn0 (by omega) (by omega)
  have d3 := fun km su tk => mP1_s (km := km) (fu := 997) (su := su) (i := 2) (tk := tk) hf hq hX hn0 (by omega) (by omega)
  have d4 := fun km su tk => mP1_s (km := km) (fu := 996) (su := su) (i := 3) (tk := tk) hf hq hX hn0 (by omega) (by omega)
  -- the second
  obtain ⟨y, tkc, tkm, lo', h1, h2, h3, h4, h5, h6⟩ := ph2 (kc := s_X2_takeOut_X2 (nI p) d) (km := s_X5_takes_X2 (nI (qp p)) f) hf hq hX hn0 (by omega) (by omega : m < 2 ^ 29) (m - s4 (fun k => N (qp p + k) * m / sm4 N (qp p))) 0 0
    (upd (upd (upd (upd tk 0 (nI (N (qp p + 0) * m / sm4 N (qp p)))) 1 (nI (N (qp p + 1) * m / sm4 N (qp p)))) 2 (nI (N (qp p + 2) * m / sm4 N (qp p)))) 3 (nI (N (qp p + 3) * m / sm4 N (qp p))))
    (upd (upd (upd (upd tm 0 (nI (N (qp p + 0) * m / sm4 N (qp p)))) 1 (nI (N (qp p + 1) * m / sm4 N (qp p)))) 2 (nI (N (qp p + 2) * m / sm4 N (qp p)))) 3 (nI (N (qp p + 3) * m / sm4 N (qp p))))
    (upd (upd (upd (upd lo 0 (nI (N (qp p + 0) * m % sm4 N (qp p)))) 1 (nI (N (qp p + 1) * m % sm4 N (qp p)))) 2 (nI (N (qp p + 2) * m % sm4 N (qp p)))) 3 (nI (N (qp p + 3) * m % sm4 N (qp p))))
    (fun k => N (qp p + k) * m / sm4 N (qp p)) (fun k => N (qp p + k) * m % sm4 N (qp p) + 1) (by omega) (by omega) (by omega)
    (fun k hk => by simp)
    (four (by rw [nI_pred]; rfl) (by rw [nI_pred]; rfl) (by rw [nI_pred]; rfl) (by rw [nI_pred]; rfl))
    (four rfl rfl rfl rfl) (four rfl rfl rfl rfl)
    (by rw [g3]; simp only [s4, sv, Nat.add_sub_cancel]; exact Nat.le_refl _)
    (fun k hk => q_le (hle k hk) hm hn0)
  -- the third
  obtain ⟨e1, a1, b1⟩ := cP3_s (kc := s_X2_takeOut_X3 tkc lo') (fu := 999) (i := 0) (N := N) (y := y) hp (by omega) (h3 0 (by omega)) (h5 0 (by omega)) (by rw [tkN_0]; exact hd)
  obtain ⟨e2, a2, b2⟩ := cP3_s (kc := s_X2_takeOut_X3 tkc lo') (fu := 998) (i := 1) (N := N) (y := y) hp (by omega) (h3 1 (by omega)) (h5 1 (by omega)) a1
  obtain ⟨e3, a3, b3⟩ := cP3_s (kc := s_X2_takeOut_X3 tkc lo') (fu := 997) (i := 2) (N := N) (y := y) hp (by omega) (h3 2 (by omega)) (h5 2 (by omega)) a2
  obtain ⟨e4, a4, b4⟩ := cP3_s (kc := s_X2_takeOut_X3 tkc lo') (fu := 996) (i := 3) (N := N) (y := y) hp (by omega) (h3 3 (by omega)) (h5 3 (by omega)) a3
  obtain ⟨k1, l1, m1⟩ := mP3_s (km := s_X5_takes_X3 tkm) (fu := 999) (i := 0) (N := N) (y := y) hq (by omega) (h4 0 (by omega)) (h5 0 (by omega)) (by rw [tkN_0]; exact hf)
  obtain ⟨k2, l2, m2⟩ := mP3_s (km := s_X5_takes_X3 tkm) (fu := 998) (i := 1) (N := N) (y := y) hq (by omega) (h4 1 (by omega)) (h5 1 (by omega)) l1
  obtain ⟨k3, l3, m3⟩ := mP3_s (km := s_X5_takes_X3 tkm) (fu := 997) (i := 2) (N := N) (y := y) hq (by omega) (h4 2 (by omega)) (h5 2 (by omega)) l2
  obtain ⟨k4, l4, m4⟩ := mP3_s (km := s_X5_takes_X3 tkm) (fu := 996) (i := 3) (N := N) (y := y) hq (by omega) (h4 3 (by omega)) (h5 3 (by omega)) l3
  refine ⟨y, e4, k4, tkc, lo', tkm, ?_, ?_, a4, l4, h3, h4, h5, by rw [h6]; omega⟩
  · unfold s_X2_takeOut
    rw [cl_e (cAll hd hp)]
    refine (c1 _).trans ((c2 _ _ _).trans ((c3 _ _ _).trans ((c4 _ _ _).trans ?_)))
    show s_X2_takeOut_B1 d (nI p) (nI m) _ _ _ _ (nI 4) _ _ = _
    unfold s_X2_takeOut_B1 s_X2_takeOut_X1
    rw [if_pos (show (4 : Int32) ≤ nI 4 from nI_le (a := 4) (b := 4) (by omega) (by omega))]
    have eg : m - N (qp p + 0) * m / sm4 N (qp p) - N (qp p + 1) * m / sm4 N (qp p) - N (qp p + 2) * m / sm4 N (qp p) - N (qp p + 3) * m / sm4 N (qp p) = m - s4 (fun k => N (qp p + k) * m / sm4 N (qp p)) := by omega
    have h1' := h1 (999 - (m - s4 (fun k => N (qp p + k) * m / sm4 N (qp p))))
    rw [show 999 - (m - s4 (fun k => N (qp p + k) * m / sm4 N (qp p))) + (m - s4 (fun k => N (qp p + k) * m / sm4 N (qp p))) + 1 = 1000 by omega] at h1'
    rw [eg]
    refine h1'.trans ?_
    unfold s_X2_takeOut_X2
    refine b1.trans (b2.trans (b3.trans (b4.trans ?_)))
    show s_X2_takeOut_B3 tkc (nI p) _ _ (nI 4) _ = _
    unfold s_X2_takeOut_B3 s_X2_takeOut_X3
    rw [if_pos (show (4 : Int32) ≤ nI 4 from nI_le (a := 4) (b := 4) (by omega) (by omega))]
  · unfold s_X5_takes
    rw [cl_e (mAll hf hq)]
    refine (d1 _).trans ((d2 _ _ _).trans ((d3 _ _ _).trans ((d4 _ _ _).trans ?_)))
    show s_X5_takes_B1 f (nI (qp p)) (nI m) _ _ _ _ (nI 4) _ = _
    unfold s_X5_takes_B1 s_X5_takes_X1
    rw [if_pos (show (4 : Int32) ≤ nI 4 from nI_le (a := 4) (b := 4) (by omega) (by omega))]
    have eg : 0 + N (qp p + 0) * m / sm4 N (qp p) + N (qp p + 1) * m / sm4 N (qp p) + N (qp p + 2) * m / sm4 N (qp p) + N (qp p + 3) * m / sm4 N (qp p) = m - (m - s4 (fun k => N (qp p + k) * m / sm4 N (qp p))) := by omega
    have h2' := h2 (999 - (m - s4 (fun k => N (qp p + k) * m / sm4 N (qp p))))
    rw [show 999 - (m - s4 (fun k => N (qp p + k) * m / sm4 N (qp p))) + (m - s4 (fun k => N (qp p + k) * m / sm4 N (qp p))) + 1 = 1000 by omega] at h2'
    rw [eg]
    refine h2'.trans ?_
    unfold s_X5_takes_X2
    refine m1.trans (m2.trans (m3.trans (m4.trans ?_)))
    show s_X5_takes_B3 (nI (qp p)) tkm _ _ (nI 4) _ = _
    unfold s_X5_takes_B3 s_X5_takes_X3
    rw [if_pos (show (4 : Int32) ≤ nI 4 from nI_le (a := 4) (b := 4) (by omega) (by omega))]
