-- pure: from paint to paint
theorem RS.ofX {σ σ' : Nat → Nat → Int32} {N : Nat → Nat} (h : RS σ N) (hs : ∀ j, j < 10 → σ' j = σ j) : RS σ' N := by
  obtain ⟨h0, h1, h2, h3, h4, h5, h6, h7, h8, h9⟩ := h
  refine ⟨by rw [hs 0 (by omega)]; exact h0, by rw [hs 1 (by omega)]; exact h1, by rw [hs 2 (by omega)]; exact h2, by rw [hs 3 (by omega)]; exact h3, by rw [hs 4 (by omega)]; exact h4, by rw [hs 5 (by omega)]; exact h5, by rw [hs 6 (by omega)]; exact h6, by rw [hs 7 (by omega)]; exact h7, by rw [hs 8 (by omega)]; exact h8, by rw [hs 9 (by omega)]; exact h9⟩
def ptN (N : Nat → Nat) (q : Nat) (y : Nat → Nat) (i : Nat) : Nat → Nat := fun j => if q ≤ j ∧ j < q + i then N j + y (j - q) else N j
theorem ptN_0 (N : Nat → Nat) (q : Nat) (y : Nat → Nat) : ptN N q y 0 = N := by
  funext j
  unfold ptN
  rw [if_neg (by omega)]
theorem ptN_s (N : Nat → Nat) (q : Nat) (y : Nat → Nat) (i : Nat) : upN (ptN N q y i) (q + i) (N (q + i) + y i) = ptN N q y (i + 1) := by
  funext j
  unfold upN ptN
  by_cases e : j = q + i
  · subst e
    rw [if_pos rfl, if_pos (by omega), show q + i - q = i by omega]
  · rw [if_neg e]
    by_cases h : q ≤ j ∧ j < q + i
    · rw [if_pos h, if_pos (by omega)]
    · rw [if_neg h, if_neg (by omega)]
theorem ptN_at (N : Nat → Nat) (q : Nat) (y : Nat → Nat) (i : Nat) : ptN N q y i (q + i) = N (q + i) := by
  unfold ptN
  rw [if_neg (by omega)]
theorem tkN_off {N : Nat → Nat} {q : Nat} {y : Nat → Nat} {i j : Nat} (h : j < q ∨ q + i ≤ j) : tkN N q y i j = N j := by
  unfold tkN
  rw [if_neg (by omega)]
theorem ptN_off {N : Nat → Nat} {q : Nat} {y : Nat → Nat} {i j : Nat} (h : j < q ∨ q + i ≤ j) : ptN N q y i j = N j := by
  unfold ptN
  rw [if_neg (by omega)]
theorem sm4_tk {N : Nat → Nat} {q : Nat} {y : Nat → Nat} (h : ∀ k, k < 4 → y k ≤ N (q + k)) : sm4 (tkN N q y 4) q = sm4 N q - s4 y := by
  have h0 := h 0 (by omega)
  have h1 := h 1 (by omega)
  have h2 := h 2 (by omega)
  have h3 := h 3 (by omega)
  unfold sm4 tkN s4
  rw [if_pos (by omega), if_pos (by omega), if_pos (by omega), if_pos (by omega)]
  rw [show q - q = 0 by omega, show q + 1 - q = 1 by omega, show q + 2 - q = 2 by omega, show q + 3 - q = 3 by omega]
  rw [Nat.add_zero] at h0
  omega
theorem sm4_pt {N : Nat → Nat} {q : Nat} {y : Nat → Nat} : sm4 (ptN N q y 4) q = sm4 N q + s4 y := by
  unfold sm4 ptN s4
  rw [if_pos (by omega), if_pos (by omega), if_pos (by omega), if_pos (by omega)]
  rw [show q - q = 0 by omega, show q + 1 - q = 1 by omega, show q + 2 - q = 2 by omega, show q + 3 - q = 3 by omega]
  omega
theorem sm4_eq {N N' : Nat → Nat} {q : Nat} (h : ∀ k, k < 4 → N' (q + k) = N (q + k)) : sm4 N' q = sm4 N q := by
  have h0 := h 0 (by omega)
  have h1 := h 1 (by omega)
  have h2 := h 2 (by omega)
  have h3 := h 3 (by omega)
  rw [Nat.add_zero] at h0
  unfold sm4
  rw [h0, h1, h2, h3]
theorem cPut_s {r : (Nat → Int32) × (Nat → Int32) × (Nat → Int32)} {d : Nat → Int32} {N y : Nat → Nat} {p i fu : Nat} {kc : (Nat → Int32) → Option (Int32 × (Nat → Int32) × (Nat → Int32) × (Nat → Int32))} (hp : p < 9) (hi : i < 4) (ht : r.2.1 i = nI (y i)) (hd : RD d (ptN N (qp p) y i)) : ∃ d', RD d' (ptN N (qp p) y (i + 1)) ∧ s_X2_move_L1 r (nI p) kc (fu + 1) (nI i, d) = s_X2_move_L1 r (nI p) kc fu (nI (i + 1), d') := by
  have e0 : nI p * 4 = nI (4 * p) := (pk_mul p 4).trans (by rw [Nat.mul_comm])
  have h1 := hd.up (k := 4 * p + i) (by omega) (N (qp p + i) + y i)
  rw [dm_q hp hi, ptN_s] at h1
  refine ⟨_, h1, ?_⟩
  show s_X2_move_B1 r (nI p) kc (s_X2_move_L1 r (nI p) kc fu) (nI i) d = _
  unfold s_X2_move_B1
  rw [if_neg (show ¬ (4 : Int32) ≤ nI i from nI_ge (a := i) (b := 4) (by omega) (by omega)), e0, nI_add, cl_e (at_n hi (by omega)), cl_e (add_n (by omega) (by omega)), nm_e', nI_1, ht, hd _ (by omega), dm_q hp hi, ptN_at, nI_add]
theorem mPut_s {tk f : Nat → Int32} {N y : Nat → Nat} {q i fu : Nat} {km : (Nat → Int32) → Option (Nat → Int32)} (hq : q + 3 < 99) (hi : i < 4) (ht : tk i = nI (y i)) (hf : RM f (ptN N q y i)) : ∃ f', RM f' (ptN N q y (i + 1)) ∧ s_X5_puts_L1 (nI q) tk km (fu + 1) (nI i, f) = s_X5_puts_L1 (nI q) tk km fu (nI (i + 1), f') := by
  have h1 := hf.up (q + i) (N (q + i) + y i)
  rw [ptN_s] at h1
  refine ⟨_, h1, ?_⟩
  show s_X5_puts_B1 (nI q) tk km (s_X5_puts_L1 (nI q) tk km fu) (nI i) f = _
  unfold s_X5_puts_B1
  rw [if_neg (show ¬ (4 : Int32) ≤ nI i from nI_ge (a := i) (b := 4) (by omega) (by omega)), nI_add, ld_n (by omega) (by omega), ld_n hi (by omega), nm_e', sto_n (by omega) (by omega), nm_e', nI_1, ht, hf _ (by omega), ptN_at, nI_add]
theorem mPuts {tk f : Nat → Int32} {N y : Nat → Nat} {q : Nat} (hq : q + 3 < 99) (ht : ∀ k, k < 4 → tk k = nI (y k)) (hf : RM f N) : ∃ f', RM f' (ptN N q y 4) ∧ s_X5_puts f tk (nI q) = some f' := by
  obtain ⟨k1, l1, m1⟩ := mPut_s (km := s_X5_puts_X1) (fu := 999) (i := 0) (N := N) (y := y) hq (by omega) (ht 0 (by omega)) (by rw [ptN_0]; exact hf)
  obtain ⟨k2, l2, m2⟩ := mPut_s (km := s_X5_puts_X1) (fu := 998) (i := 1) (N := N) (y := y) hq (by omega) (ht 1 (by omega)) l1
  obtain ⟨k3, l3, m3⟩ := mPut_s (km := s_X5_puts_X1) (fu := 997) (i := 2) (N := N) (y := y) hq (by omega) (ht 2 (by omega)) l2
  obtain ⟨k4, l4, m4⟩ := mPut_s (km := s_X5_puts_X1) (fu := 996) (i := 3) (N := N) (y := y) hq (by omega) (ht 3 (by omega)) l3
  refine ⟨k4, l4, ?_⟩
  unfold s_X5_puts
  refine m1.trans (m2.trans (m3.trans (m4.trans ?_)))
  show s_X5_puts_B1 (nI q) tk _ _ (nI 4) _ = _
  unfold s_X5_puts_B1 s_X5_puts_X1
  rw [if_pos (show (4 : Int32) ≤ nI 4 from nI_le (a := 4) (b := 4) (by omega) (by omega))]
theorem qp_apart {p t : Nat} (hp : p < 9) (ht : t < 9) (h : p ≠ t) : qp p + 4 ≤ qp t ∨ qp t + 4 ≤ qp p := by
  unfold qp
  split <;> split <;> omega
theorem qp_lt (p : Nat) : qp p + 3 < 51 := by
  unfold qp
  split <;> omega
theorem move_b {σ : Nat → Nat → Int32} {f : Nat → Int32} {N : Nat → Nat} {c : Nat} (h : RS σ N) (hf : RM f N) (I : Inv N c) {p t m hold : Nat} (hp : p < 9) (ht : t < 9) (hpt : p ≠ t) (hm0 : 0 < m) (hm : m ≤ sm4 N (qp p)) (hh : sm4 N (qp t) + m ≤ hold) (hH : hold ≤ if t < 8 then 81 else 9) (tm : Nat → Int32) :
    ∃ (σ' : Nat → Nat → Int32) (f1 f' tm' : Nat → Int32) (N' : Nat → Nat), s_X2_move (σ 1) (σ 10) (σ 11) (nI p) (nI t) (nI m) (nI hold) = some (nI (sm4 N (qp t) + m), σ' 1, σ' 10, σ' 11) ∧ s_X5_takes f tm (nI (qp p)) (nI m) = some (f1, tm') ∧ s_X5_puts f1 tm' (nI (qp t)) = some f' ∧ s_X5_drops f' (nI (qp t)) = some (nI (sm4 N (qp t) + m)) ∧ RS σ' N' ∧ RM f' N' ∧ Inv N' c ∧ (∀ j, j ≠ 1 → j ≠ 10 → j ≠ 11 → σ' j = σ j) := by
  have h81 : hold ≤ 81 := by
    split at hH <;> omega
  obtain ⟨y, d1, f1, tk', lo', tm', g1, g2, g3, g4, g5, g6, g7, g8⟩ := takes_b h.2.1 hf hp hm0 hm (I.q hp) (σ 10) (σ 11) tm
  have hap := qp_apart hp ht hpt
  have hql := qp_lt p
  have hqt := qp_lt t
  obtain ⟨f', k1, k2⟩ := mPuts (q := qp t) (by omega) g6 g4
  obtain ⟨e1, a1, b1⟩ := cPut_s (r := (d1, tk', lo')) (kc := s_X2_move_X1 (nI (sm4 N (qp t) + m)) (d1, tk', lo')) (fu := 999) (i := 0) (N := tkN N (qp p) y 4) (y := y) ht (by omega) (g5 0 (by omega)) (by rw [ptN_0]; exact g3)
  obtain ⟨e2, a2, b2⟩ := cPut_s (r := (d1, tk', lo')) (kc := s_X2_move_X1 (nI (sm4 N (qp t) + m)) (d1, tk', lo')) (fu := 998) (i := 1) (N := tkN N (qp p) y 4) (y := y) ht (by omega) (g5 1 (by omega)) a1
  obtain ⟨e3, a3, b3⟩ := cPut_s (r := (d1, tk', lo')) (kc := s_X2_move_X1 (nI (sm4 N (qp t) + m)) (d1, tk', lo')) (fu := 997) (i := 2) (N := tkN N (qp p) y 4) (y := y) ht (by omega) (g5 2 (by omega)) a2
  obtain ⟨e4, a4, b4⟩ := cPut_s (r := (d1, tk', lo')) (kc := s_X2_move_X1 (nI (sm4 N (qp t) + m)) (d1, tk', lo')) (fu := 996) (i := 3) (N := tkN N (qp p) y 4) (y := y) ht (by omega) (g5 3 (by omega)) a3
  have nall : ∀ j, (j < qp p ∨ qp p + 4 ≤ j) → (j < qp t ∨ qp t + 4 ≤ j) → ptN (tkN N (qp p) y 4) (qp t) y 4 j = N j := fun j h1 h2 => by rw [ptN_off h2, tkN_off h1]
  have st : sm4 (ptN (tkN N (qp p) y 4) (qp t) y 4) (qp t) = sm4 N (qp t) + m := by
    rw [sm4_pt, g8, sm4_eq (N := N) (fun k hk => tkN_off (by omega))]
  have sp : sm4 (ptN (tkN N (qp p) y 4) (qp t) y 4) (qp p) = sm4 N (qp p) - m := by
    rw [sm4_eq (N := tkN N (qp p) y 4) (fun k hk => ptN_off (by omega)), sm4_tk g7, g8]
  have hr := h.ofD a4 (fun j hj hd => nall j (by
      rcases Nat.lt_or_ge j (qp p) with q | q
      · exact Or.inl q
      · refine Or.inr (Nat.le_of_not_lt fun z => hd (4 * p + (j - qp p)) (by omega) ?_)
        rw [dm_q hp (by omega)]; omega) (by
      rcases Nat.lt_or_ge j (qp t) with q | q
      · exact Or.inl q
      · refine Or.inr (Nat.le_of_not_lt fun z => hd (4 * t + (j - qp t)) (by omega) ?_)
        rw [dm_q ht (by omega)]; omega))
  refine ⟨va_up (va_up (va_up σ 1 e4) 10 tk') 11 lo', f1, f', tm', ptN (tkN N (qp p) y 4) (qp t) y 4, ?_, g2, k2, ?_, hr.ofX (fun j hj => by rw [va_up_n (by omega), va_up_n (by omega)]), k1, ?_, fun j h1 h10 h11 => by rw [va_up_n h11, va_up_n h10, va_up_n h1]⟩
  · unfold s_X2_move
    rw [cl_e (cAll h.2.1 hp), if_pos (nI_le hm (by have := I.q hp; omega)), cl_e (cAll h.2.1 ht), nm_e', nI_add, if_pos (nI_le hh (by omega)), cl_e g1]
    refine b1.trans (b2.trans (b3.trans (b4.trans ?_)))
    show s_X2_move_B1 _ (nI t) _ _ (nI 4) _ = _
    unfold s_X2_move_B1 s_X2_move_X1
    rw [if_pos (show (4 : Int32) ≤ nI 4 from nI_le (a := 4) (b := 4) (by omega) (by omega))]
    rfl
  · rw [mAll k1 (by omega), st]
  · have q8 : ∀ a, a < 8 → qp a = 7 + 5 * a := fun a ha => if_pos ha
    have q47 : qp 8 = 47 := rfl
    refine I.ofD (fun j hj => nall j (by have : 7 ≤ qp p := by unfold qp; split <;> omega
                                         omega) (by have : 7 ≤ qp t := by unfold qp; split <;> omega
                                                    omega)) (fun a ha => ?_) ?_
    · rw [← q8 a ha]
      by_cases ea : a = p
      · subst ea
        rw [sp]
        have := I.q hp
        omega
      · by_cases eb : a = t
        · subst eb
          rw [st]; omega
        · have x1 := qp_apart (p := a) (by omega) hp ea
          have x2 := qp_apart (p := a) (by omega) ht eb
          rw [sm4_eq (N := N) (fun k hk => nall _ (by omega) (by omega))]
          exact I.q (by omega)
    · rw [← q47]
      by_cases ea : 8 = p
      · subst ea
        rw [sp]
        have := I.2.2.2.1
        rw [q47]
        omega
      · by_cases eb : 8 = t
        · subst eb
          rw [st]
          simp at hH
          omega
        · have x1 := qp_apart (p := 8) (by omega) hp ea
          have x2 := qp_apart (p := 8) (by omega) ht eb
          rw [sm4_eq (N := N) (fun k hk => nall _ (by omega) (by omega))]
          exact I.2.2.2.1
