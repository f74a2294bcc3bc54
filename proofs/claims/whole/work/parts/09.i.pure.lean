-- pure: down the sink
def zrN (N : Nat → Nat) (q i : Nat) : Nat → Nat := fun j => if q ≤ j ∧ j < q + i then 0 else N j
theorem zrN_0 (N : Nat → Nat) (q : Nat) : zrN N q 0 = N := by
  funext j
  unfold zrN
  rw [if_neg (by omega)]
theorem zrN_s (N : Nat → Nat) (q i : Nat) : upN (zrN N q i) (q + i) 0 = zrN N q (i + 1) := by
  funext j
  unfold upN zrN
  by_cases e : j = q + i
  · subst e
    rw [if_pos rfl, if_pos (by omega)]
  · rw [if_neg e]
    by_cases h : q ≤ j ∧ j < q + i
    · rw [if_pos h, if_pos (by omega)]
    · rw [if_neg h, if_neg (by omega)]
theorem zrN_off {N : Nat → Nat} {q i j : Nat} (h : j < q ∨ q + i ≤ j) : zrN N q i j = N j := by
  unfold zrN
  rw [if_neg (by omega)]
theorem sm4_zr {N : Nat → Nat} {q : Nat} : sm4 (zrN N q 4) q = 0 := by
  unfold sm4 zrN
  rw [if_pos (by omega), if_pos (by omega), if_pos (by omega), if_pos (by omega)]
theorem cZr_s {d : Nat → Int32} {N : Nat → Nat} {p i fu : Nat} {kc : (Nat → Int32) → Option (Int32 × Int32 × (Nat → Int32))} (hp : p < 9) (hi : i < 4) (hd : RD d (zrN N (qp p) i)) : ∃ d', RD d' (zrN N (qp p) (i + 1)) ∧ s_X2_sink_L1 (nI p) kc (fu + 1) (nI i, d) = s_X2_sink_L1 (nI p) kc fu (nI (i + 1), d') := by
  have e0 : nI p * 4 = nI (4 * p) := (pk_mul p 4).trans (by rw [Nat.mul_comm])
  have h1 := hd.up (k := 4 * p + i) (by omega) 0
  rw [dm_q hp hi, zrN_s] at h1
  refine ⟨_, h1, ?_⟩
  show s_X2_sink_B1 (nI p) kc (s_X2_sink_L1 (nI p) kc fu) (nI i) d = _
  unfold s_X2_sink_B1
  rw [if_neg (show ¬ (4 : Int32) ≤ nI i from nI_ge (a := i) (b := 4) (by omega) (by omega)), e0, nI_add, cl_e (write_n (by omega) (by omega)), nm_e', nI_1]
  rfl
theorem mZr_s {f : Nat → Int32} {N : Nat → Nat} {q i fu : Nat} {km : (Nat → Int32) → Option (Nat → Int32)} (hq : q + 3 < 99) (hi : i < 4) (hf : RM f (zrN N q i)) : ∃ f', RM f' (zrN N q (i + 1)) ∧ s_X5_clears_L1 (nI q) km (fu + 1) (nI i, f) = s_X5_clears_L1 (nI q) km fu (nI (i + 1), f') := by
  have h1 := hf.up (q + i) 0
  rw [zrN_s] at h1
  refine ⟨_, h1, ?_⟩
  show s_X5_clears_B1 (nI q) km (s_X5_clears_L1 (nI q) km fu) (nI i) f = _
  unfold s_X5_clears_B1
  rw [if_neg (show ¬ (4 : Int32) ≤ nI i from nI_ge (a := i) (b := 4) (by omega) (by omega)), nI_add, sto_n (by omega) (by omega), nm_e', nI_1]
  rfl
theorem mClears {f : Nat → Int32} {N : Nat → Nat} {q : Nat} (hq : q + 3 < 99) (hf : RM f N) : ∃ f', RM f' (zrN N q 4) ∧ s_X5_clears f (nI q) = some f' := by
  obtain ⟨k1, l1, m1⟩ := mZr_s (km := s_X5_clears_X1) (fu := 999) (i := 0) (N := N) hq (by omega) (by rw [zrN_0]; exact hf)
  obtain ⟨k2, l2, m2⟩ := mZr_s (km := s_X5_clears_X1) (fu := 998) (i := 1) (N := N) hq (by omega) l1
  obtain ⟨k3, l3, m3⟩ := mZr_s (km := s_X5_clears_X1) (fu := 997) (i := 2) (N := N) hq (by omega) l2
  obtain ⟨k4, l4, m4⟩ := mZr_s (km := s_X5_clears_X1) (fu := 996) (i := 3) (N := N) hq (by omega) l3
  refine ⟨k4, l4, ?_⟩
  unfold s_X5_clears
  refine m1.trans (m2.trans (m3.trans (m4.trans ?_)))
  show s_X5_clears_B1 (nI q) _ _ (nI 4) _ = _
  unfold s_X5_clears_B1 s_X5_clears_X1
  rw [if_pos (show (4 : Int32) ≤ nI 4 from nI_le (a := 4) (b := 4) (by omega) (by omega))]
def skN (N : Nat → Nat) (p : Nat) : Nat → Nat := upN (zrN N (qp p) 4) 4 (N 4 + sm4 N (qp p))
theorem qp_ge (p : Nat) : 7 ≤ qp p := by
  unfold qp
  split <;> omega
theorem sink_b {σ : Nat → Nat → Int32} {f : Nat → Int32} {N : Nat → Nat} {c : Nat} (h : RS σ N) (hf : RM f N) (I : Inv N c) {p : Nat} (hp : p < 9) : ∃ (σ' : Nat → Nat → Int32) (f1 : Nat → Int32), s_X2_sink (σ 8 0) (σ 1) (nI p) = some (nI (sm4 N (qp p)), σ' 8 0, σ' 1) ∧ s_X5_drops f (nI (qp p)) = some (nI (sm4 N (qp p))) ∧ s_X5_clears f (nI (qp p)) = some f1 ∧ f1 4 = nI (N 4) ∧ RM (upd f1 4 (nI (N 4 + sm4 N (qp p)))) (skN N p) ∧ RS σ' (skN N p) ∧ Inv (skN N p) c ∧ (∀ j, j ≠ 1 → j ≠ 8 → σ' j = σ j) := by
  have hq := qp_lt p
  have hg := qp_ge p
  obtain ⟨f1, k1, k2⟩ := mClears (q := qp p) (by omega) hf
  obtain ⟨e1, a1, b1⟩ := cZr_s (kc := s_X2_sink_X1 (σ 8 0) (nI (sm4 N (qp p)))) (fu := 999) (i := 0) (N := N) (d := σ 1) hp (by omega) (by rw [zrN_0]; exact h.2.1)
  obtain ⟨e2, a2, b2⟩ := cZr_s (kc := s_X2_sink_X1 (σ 8 0) (nI (sm4 N (qp p)))) (fu := 998) (i := 1) (N := N) hp (by omega) a1
  obtain ⟨e3, a3, b3⟩ := cZr_s (kc := s_X2_sink_X1 (σ 8 0) (nI (sm4 N (qp p)))) (fu := 997) (i := 2) (N := N) hp (by omega) a2
  obtain ⟨e4, a4, b4⟩ := cZr_s (kc := s_X2_sink_X1 (σ 8 0) (nI (sm4 N (qp p)))) (fu := 996) (i := 3) (N := N) hp (by omega) a3
  have s1 := h.ofD a4 (fun j hj hd => zrN_off (by
      rcases Nat.lt_or_ge j (qp p) with q | q
      · exact Or.inl q
      · refine Or.inr (Nat.le_of_not_lt fun z => hd (4 * p + (j - qp p)) (by omega) ?_)
        rw [dm_q hp (by omega)]; omega))
  have s2 := s1.ofC 8 4 (N 4 + sm4 N (qp p)) (by omega)
  refine ⟨_, f1, ?_, mAll hf (by omega), k2, ?_, k1.up 4 _, s2, ?_, fun j h1 h8 => by rw [va_up_n h8, va_up_n h1]⟩
  · unfold s_X2_sink
    rw [cl_e (cAll h.2.1 hp)]
    refine b1.trans (b2.trans (b3.trans (b4.trans ?_)))
    show s_X2_sink_B1 (nI p) _ _ (nI 4) _ = _
    unfold s_X2_sink_B1 s_X2_sink_X1
    rw [if_pos (show (4 : Int32) ≤ nI 4 from nI_le (a := 4) (b := 4) (by omega) (by omega)), nm_e', h.2.2.2.2.2.2.2.2.1, nI_add]
    rfl
  · rw [k1 4 (by omega), zrN_off (by omega)]
  · refine I.ofD (fun j hj => by unfold skN; rw [upN_n (by omega), zrN_off (by omega)]) (fun a ha => ?_) ?_
    · rw [show 7 + 5 * a = qp a from (if_pos ha).symm]
      have hga := qp_ge a
      unfold skN
      rw [sm4_off (by omega)]
      by_cases ea : a = p
      · subst ea
        rw [sm4_zr]
        omega
      · have x1 := qp_apart (p := a) (by omega) hp ea
        rw [sm4_eq (N := N) (fun k hk => zrN_off (by omega))]
        exact I.q (by omega)
    · unfold skN
      rw [sm4_off (by omega)]
      by_cases ea : 8 = p
      · subst ea
        have : sm4 (zrN N (qp 8) 4) 47 = 0 := sm4_zr
        rw [this]
        omega
      · have x1 := qp_apart (p := 8) (by omega) hp ea
        have : qp 8 = 47 := rfl
        rw [sm4_eq (N := N) (fun k hk => zrN_off (by omega))]
        exact I.2.2.2.1
theorem B_rinse {σ : Nat → Nat → Int32} {f : Nat → Int32} {N : Nat → Nat} {c : Nat} (h : RS σ N) (hf : RM f N) (I : Inv N c) : ∃ (r : Int32) (σ' : Nat → Nat → Int32) (f' : Nat → Int32) (N' : Nat → Nat), s_X2_rinseBrush (σ 8 0) (σ 9 0) (σ 1) = some (r, σ' 8 0, σ' 9 0, σ' 1) ∧ s_X5_rinsesBrush f = some (r, f') ∧ ¬ r < 0 ∧ RS σ' N' ∧ RM f' N' ∧ Inv N' c ∧ (∀ j, j ≠ 1 → j ≠ 8 → j ≠ 9 → σ' j = σ j) := by
  obtain ⟨σ', f1, g1, g2, g3, g4, g5, g6, g7, g8⟩ := sink_b h hf I (p := 8) (by omega)
  have hb := I.2.2.2.1
  have e8 : qp 8 = 47 := rfl
  have g1' : s_X2_sink (σ 8 0) (σ 1) 8 = _ := g1
  have g2' : s_X5_drops f 47 = _ := g2
  have g3' : s_X5_clears f 47 = _ := g3
  rw [e8] at g1' g2' g5
  have n6 : skN N 8 6 = N 6 := by
    unfold skN
    rw [upN_n (by omega), zrN_off (by omega)]
  have f6 : upd f1 4 (nI (N 4 + sm4 N 47)) 6 = nI (N 6) := by rw [g5 6 (by omega), n6]
  have em : s_X5_rinsesBrush f = if nI (sm4 N 47) ≤ 0 then some (nI (sm4 N 47), upd (upd f1 4 (nI (N 4 + sm4 N 47))) 6 (nI (N 6 + 0))) else some (nI (sm4 N 47), upd (upd f1 4 (nI (N 4 + sm4 N 47))) 6 (nI (N 6 + 1))) := by
    unfold s_X5_rinsesBrush
    rw [cl_e g2', cl_e g3', show (4 : Int32) = nI 4 from rfl, ld_n (by omega) (by omega), nm_e', sto_n (by omega) (by omega), g4, nI_add, show (6 : Int32) = nI 6 from rfl, ld_n (by omega) (by omega), f6, nm_e', nm_e', sto_n (by omega) (by omega), sto_n (by omega) (by omega), show nI (N 6) + 0 = nI (N 6 + 0) from nI_add _ 0, show nI (N 6) + 1 = nI (N 6 + 1) from nI_add _ 1]
  rcases Nat.eq_zero_or_pos (sm4 N 47) with hz | hz
  · have h0 : nI (sm4 N 47) ≤ 0 := by rw [hz]; exact Int32.le_refl _
    refine ⟨nI (sm4 N 47), σ', _, upN (skN N 8) 6 (N 6 + 0), ?_, em.trans (if_pos h0), nI_pos (by omega), ?_, g5.up 6 _, ?_, fun j h1 h8 _ => g8 j h1 h8⟩
    · unfold s_X2_rinseBrush
      rw [cl_e g1']
      dsimp only
      rw [if_pos h0, g8 9 (by omega) (by omega)]
    · refine g6.frame (fun j _ => ?_)
      by_cases e : j = 6
      · subst e; rw [upN_s, n6]; rfl
      · rw [upN_n e]
    · refine g7.ofD (fun j hj => upN_n (by omega)) (fun a ha => ?_) ?_
      · rw [sm4_off (by omega)]; exact g7.2.2.1 a ha
      · rw [sm4_off (by omega)]; exact g7.2.2.2.1
  · have h0 : ¬ nI (sm4 N 47) ≤ 0 := nI_ge (a := 0) hz (by omega)
    have s2 := g6.ofC 9 6 (N 6 + 1) (by omega)
    refine ⟨nI (sm4 N 47), _, _, upN (skN N 8) 6 (N 6 + 1), ?_, em.trans (if_neg h0), nI_pos (by omega), s2, g5.up 6 _, ?_, fun j h1 h8 h9 => by rw [va_up_n h9, g8 j h1 h8]⟩
    · unfold s_X2_rinseBrush
      rw [cl_e g1']
      dsimp only
      rw [if_neg h0, nm_e', h.2.2.2.2.2.2.2.2.2, show nI (N 6) + 1 = nI (N 6 + 1) from nI_add _ 1, va_up_s, va_up_n (by omega), va_up_n (by omega)]
    · refine g7.ofD (fun j hj => upN_n (by omega)) (fun a ha => ?_) ?_
      · rw [sm4_off (by omega)]; exact g7.2.2.1 a ha
      · rw [sm4_off (by omega)]; exact g7.2.2.2.1
