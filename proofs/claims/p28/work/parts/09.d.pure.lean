-- one side: the changes, told exactly
def fillR (N : Nat → Nat) (p k m : Nat) : Int32 × (Nat → Nat) := if sm4 N (qp p) + m ≤ 81 then (nI (sm4 N (qp p) + m), upN (upN N (qp p + k) (N (qp p + k) + m)) 2 (N 2 + m)) else (-4, N)
def thinR (N : Nat → Nat) (p : Nat) : Int32 × (Nat → Nat) := if sm4 N (qp p) = 0 then (-5, N) else if 3 * sm4 N (qp p) ≤ 81 then (nI (3 * sm4 N (qp p)), upN (upN (upN N (qp p + 3) (N (qp p + 3) + 2 * sm4 N (qp p))) 2 (N 2 + 2 * sm4 N (qp p))) (11 + 5 * p) (N (11 + 5 * p) + 1)) else (-4, N)
def moveN (N : Nat → Nat) (p t m : Nat) : Nat → Nat := ptN (tkN N (qp p) (yv N (qp p) m) 4) (qp t) (yv N (qp p) m) 4
def moveR (N : Nat → Nat) (p t m hold : Nat) : Int32 × (Nat → Nat) := if m ≤ sm4 N (qp p) then (if sm4 N (qp t) + m ≤ hold then (nI (sm4 N (qp t) + m), moveN N p t m) else (-4, N)) else (-5, N)
def pourR (N : Nat → Nat) (p t m : Nat) : Int32 × (Nat → Nat) := if p = t then (-2, N) else moveR N p t m 81
def dipR (N : Nat → Nat) (p m : Nat) : Int32 × (Nat → Nat) := moveR N p 8 m 9
def pntN (N : Nat → Nat) (P : Nat) : Nat → Nat := pn6 N P (yv (pn3 N P) 47 (N 0))
def paintR (N : Nat → Nat) (P : Nat) : Int32 × (Nat → Nat) := if N 0 ≤ sm4 N 47 then (nI (dst N P (stg N 47 0) (stg N 47 1) (stg N 47 2)), pntN N P) else (-5, N)
def rinseR (N : Nat → Nat) : Int32 × (Nat → Nat) := (nI (sm4 N 47), upN (skN N 8) 6 (N 6 + (if sm4 N 47 = 0 then 0 else 1)))
def emptyR (N : Nat → Nat) (p : Nat) : Int32 × (Nat → Nat) := (nI (sm4 N (qp p)), skN N p)
def setR (N : Nat → Nat) (i v : Nat) : Int32 × (Nat → Nat) := (nI (N i), upN N i v)
def wantR (N : Nat → Nat) (P a b d : Nat) : Int32 × (Nat → Nat) := (nI (su (wl (wnN N P a b d)) 6), wnN N P a b d)
theorem in_n {x a b : Nat} (hb : b < 2 ^ 31) (h1 : a ≤ x) (h2 : x ≤ b) : s_X5_in (nI x) (nI a) (nI b) = some 1 := by
  rcases in_cases (nI x) (nI a) (nI b) with ⟨-, e⟩ | ⟨e, -⟩
  · rcases e with e | e
    · exact absurd e (nI_nlt h1 (by omega))
    · exact absurd e (nI_nlt h2 (by omega))
  · exact e
theorem V_fill {σ : Nat → Nat → Int32} {N : Nat → Nat} {c : Nat} (h : RS σ N) (I : Inv N c) {p k m : Nat} (hp : p < 8) (hk : k < 4) (hm1 : 1 ≤ m) (hm : m ≤ 81) : ∃ σ' : Nat → Nat → Int32, s_X2_addDrops (σ 6 0) (σ 1) (nI p) (nI k) (nI m) = some ((fillR N p k m).1, σ' 6 0, σ' 1) ∧ RS σ' (fillR N p k m).2 ∧ (∀ j, j ≠ 1 → j ≠ 6 → σ' j = σ j) := by
  unfold s_X2_addDrops fillR
  rw [wi8, wi4, bt_l]
  have hx : s_X5_in (nI p) 0 7 = some 1 := in_n (a := 0) (b := 7) (by omega) (by omega) (by omega)
  have hy : s_X5_in (nI k) 0 3 = some 1 := in_n (a := 0) (b := 3) (by omega) (by omega) (by omega)
  have hz : s_X5_in (nI m) 1 81 = some 1 := in_n (a := 1) (b := 81) (by omega) (by omega) (by omega)
  have hq := I.q (p := p) (by omega)
  have eq : qp p = 7 + 5 * p := if_pos (by omega)
  have e0 : nI p * 4 = nI (4 * p) := (pk_mul p 4).trans (by rw [Nat.mul_comm])
  have hall := cAll h.2.1 (p := p) (by omega)
  by_cases hle : sm4 N (qp p) + m ≤ 81
  · have hle' : nI (sm4 N (qp p) + m) ≤ (81 : Int32) := nI_le (b := 81) hle (by omega)
    have g1 := h.2.1.up (k := 4 * p + k) (by omega) (N (qp p + k) + m)
    rw [dm_q (by omega) (by omega)] at g1
    have s1 := h.ofD g1 (fun j _ hj => upN_n (fun e => hj (4 * p + k) (by omega) (by rw [dm_q (by omega) (by omega)]; exact e.symm)))
    have s2 := s1.ofC 6 2 (N 2 + m) (by omega)
    rw [if_pos hle]
    refine ⟨_, ?_, s2, fun j h1 h6 => by rw [va_up_n h6, va_up_n h1]⟩
    rw [cl_e hx, if_neg one_ne, cl_e hy, if_neg one_ne, cl_e hz, if_neg one_ne, cl_e hall, nm_e', nI_add, if_pos hle', e0, nI_add, cl_e (add_n (by omega) (by omega)), nm_e', h.2.1 _ (by omega), dm_q (by omega) (by omega), nI_add, h.2.2.2.2.2.2.1, nI_add, va_up_s, va_up_n (by omega), va_up_s]
  · have hle' : ¬ nI (sm4 N (qp p) + m) ≤ (81 : Int32) := nI_ge (a := 81) (by omega) (by omega)
    rw [if_neg hle]
    refine ⟨σ, ?_, h, fun _ _ _ => rfl⟩
    rw [cl_e hx, if_neg one_ne, cl_e hy, if_neg one_ne, cl_e hz, if_neg one_ne, cl_e hall, nm_e', nI_add, if_neg hle']
theorem V_thin {σ : Nat → Nat → Int32} {N : Nat → Nat} {c : Nat} (h : RS σ N) (I : Inv N c) {p : Nat} (hp : p < 8) : ∃ σ' : Nat → Nat → Int32, s_X2_thinPot (σ 6 0) (σ 1) (σ 2) (nI p) = some ((thinR N p).1, σ' 6 0, σ' 1, σ' 2) ∧ RS σ' (thinR N p).2 ∧ (∀ j, j ≠ 1 → j ≠ 2 → j ≠ 6 → σ' j = σ j) := by
  unfold s_X2_thinPot thinR
  rw [wi8]
  have hx : s_X5_in (nI p) 0 7 = some 1 := in_n (a := 0) (b := 7) (by omega) (by omega) (by omega)
  have hq := I.q (p := p) (by omega)
  have eq : qp p = 7 + 5 * p := if_pos (by omega)
  have e0 : nI p * 4 = nI (4 * p) := (pk_mul p 4).trans (by rw [Nat.mul_comm])
  have hall := cAll h.2.1 (p := p) (by omega)
  by_cases hz0 : sm4 N (qp p) = 0
  · rw [if_pos hz0]
    rw [hz0] at hall
    refine ⟨σ, ?_, h, fun _ _ _ _ => rfl⟩
    rw [cl_e hx, if_neg one_ne, cl_e hall, if_pos nI_0]
  rw [if_neg hz0]
  have hz : 0 < sm4 N (qp p) := by omega
  have hne : ¬ nI (sm4 N (qp p)) = 0 := nI_ne0 hz (by omega)
  have e3 : nI (sm4 N (qp p)) * 3 = nI (3 * sm4 N (qp p)) := (pk_mul _ 3).trans (by rw [Nat.mul_comm])
  by_cases hle : 3 * sm4 N (qp p) ≤ 81
  · have hle' : nI (3 * sm4 N (qp p)) ≤ (81 : Int32) := nI_le (b := 81) hle (by omega)
    have g1 := h.2.1.up (k := 4 * p + 3) (by omega) (N (qp p + 3) + 2 * sm4 N (qp p))
    rw [dm_q (by omega) (by omega)] at g1
    have s1 := h.ofD g1 (fun j _ hj => upN_n (fun e => hj (4 * p + 3) (by omega) (by rw [dm_q (by omega) (by omega)]; exact e.symm)))
    have s2 := s1.ofC 6 2 (N 2 + 2 * sm4 N (qp p)) (by omega)
    have s3 := s2.of2 (i := p) (by omega) (N (11 + 5 * p) + 1)
    have esub : nI (3 * sm4 N (qp p)) - nI (sm4 N (qp p)) = nI (2 * sm4 N (qp p)) := by rw [pk_sub (by omega)]; congr 1; omega
    rw [if_pos hle]
    refine ⟨_, ?_, s3, fun j h1 h2 h6 => by rw [va_up_n h2, va_up_n h6, va_up_n h1]⟩
    rw [cl_e hx, if_neg one_ne, cl_e hall, if_neg hne, nm_e', e3, if_pos hle', esub, e0, show nI (4 * p) + 3 = nI (4 * p + 3) from nI_add _ 3, cl_e (add_n (by omega) (by omega)), cl_e (add_n (by omega) (by omega)), nm_e', h.2.1 _ (by omega), dm_q (by omega) (by omega), nI_add, h.2.2.1 _ (by omega), nI_1, h.2.2.2.2.2.2.1, nI_add]
    rfl
  · have hle' : ¬ nI (3 * sm4 N (qp p)) ≤ (81 : Int32) := nI_ge (a := 81) (by omega) (by omega)
    rw [if_neg hle]
    refine ⟨σ, ?_, h, fun _ _ _ _ => rfl⟩
    rw [cl_e hx, if_neg one_ne, cl_e hall, if_neg hne, nm_e', e3, if_neg hle']
theorem moveN_off {N : Nat → Nat} {p t m j : Nat} (h1 : j < qp p ∨ qp p + 4 ≤ j) (h2 : j < qp t ∨ qp t + 4 ≤ j) : moveN N p t m j = N j := by
  unfold moveN
  rw [ptN_off h2, tkN_off h1]
theorem V_move {σ : Nat → Nat → Int32} {N : Nat → Nat} {c : Nat} (h : RS σ N) (I : Inv N c) {p t m hold : Nat} (hp : p < 9) (ht : t < 9) (hpt : p ≠ t) (hm0 : 0 < m) (hm9 : m ≤ 81) (hH : hold ≤ 81) : ∃ σ' : Nat → Nat → Int32, s_X2_move (σ 1) (σ 10) (σ 11) (nI p) (nI t) (nI m) (nI hold) = some ((moveR N p t m hold).1, σ' 1, σ' 10, σ' 11) ∧ RS σ' (moveR N p t m hold).2 ∧ (∀ j, j ≠ 1 → j ≠ 10 → j ≠ 11 → σ' j = σ j) := by
  have hql := qp_lt p
  have hqt := qp_lt t
  have Ip := I.q hp
  have It := I.q ht
  unfold moveR
  by_cases hm : m ≤ sm4 N (qp p)
  · rw [if_pos hm]
    by_cases hh : sm4 N (qp t) + m ≤ hold
    · rw [if_pos hh]
      obtain ⟨d1, tk', lo', g1, g3, g5⟩ := takeC h.2.1 hp hm0 hm (I.q hp) (σ 10) (σ 11)
      obtain ⟨e1, a1, b1⟩ := cPut_s (r := (d1, tk', lo')) (kc := s_X2_move_X1 (nI (sm4 N (qp t) + m)) (d1, tk', lo')) (fu := 999) (i := 0) (N := tkN N (qp p) (yv N (qp p) m) 4) (y := yv N (qp p) m) ht (by omega) (g5 0 (by omega)) (by rw [ptN_0]; exact g3)
      obtain ⟨e2, a2, b2⟩ := cPut_s (r := (d1, tk', lo')) (kc := s_X2_move_X1 (nI (sm4 N (qp t) + m)) (d1, tk', lo')) (fu := 998) (i := 1) (N := tkN N (qp p) (yv N (qp p) m) 4) (y := yv N (qp p) m) ht (by omega) (g5 1 (by omega)) a1
      obtain ⟨e3, a3, b3⟩ := cPut_s (r := (d1, tk', lo')) (kc := s_X2_move_X1 (nI (sm4 N (qp t) + m)) (d1, tk', lo')) (fu := 997) (i := 2) (N := tkN N (qp p) (yv N (qp p) m) 4) (y := yv N (qp p) m) ht (by omega) (g5 2 (by omega)) a2
      obtain ⟨e4, a4, b4⟩ := cPut_s (r := (d1, tk', lo')) (kc := s_X2_move_X1 (nI (sm4 N (qp t) + m)) (d1, tk', lo')) (fu := 996) (i := 3) (N := tkN N (qp p) (yv N (qp p) m) 4) (y := yv N (qp p) m) ht (by omega) (g5 3 (by omega)) a3
      have hr := h.ofD (N' := moveN N p t m) a4 (fun j hj hd => moveN_off (by
          rcases Nat.lt_or_ge j (qp p) with q | q
          · exact Or.inl q
          · refine Or.inr (Nat.le_of_not_lt fun z => hd (4 * p + (j - qp p)) (by omega) ?_)
            rw [dm_q hp (by omega)]; omega) (by
          rcases Nat.lt_or_ge j (qp t) with q | q
          · exact Or.inl q
          · refine Or.inr (Nat.le_of_not_lt fun z => hd (4 * t + (j - qp t)) (by omega) ?_)
            rw [dm_q ht (by omega)]; omega))
      refine ⟨va_up (va_up (va_up σ 1 e4) 10 tk') 11 lo', ?_, hr.ofX (fun j hj => by rw [va_up_n (by omega), va_up_n (by omega)]), fun j h1 h10 h11 => by rw [va_up_n h11, va_up_n h10, va_up_n h1]⟩
      unfold s_X2_move
      rw [cl_e (cAll h.2.1 hp), if_pos (nI_le hm (by omega)), cl_e (cAll h.2.1 ht), nm_e', nI_add, if_pos (nI_le hh (by omega)), cl_e g1]
      refine b1.trans (b2.trans (b3.trans (b4.trans ?_)))
      show s_X2_move_B1 _ (nI t) _ _ (nI 4) _ = _
      unfold s_X2_move_B1 s_X2_move_X1
      rw [if_pos (show (4 : Int32) ≤ nI 4 from nI_le (a := 4) (b := 4) (by omega) (by omega))]
      rfl
    · rw [if_neg hh]
      refine ⟨σ, ?_, h, fun _ _ _ _ => rfl⟩
      unfold s_X2_move
      rw [cl_e (cAll h.2.1 hp), if_pos (nI_le hm (by omega)), cl_e (cAll h.2.1 ht), nm_e', nI_add, if_neg (nI_ge (by omega) (by omega))]
  · rw [if_neg hm]
    refine ⟨σ, ?_, h, fun _ _ _ _ => rfl⟩
    unfold s_X2_move
    rw [cl_e (cAll h.2.1 hp), if_neg (nI_ge (by omega) (by omega))]
theorem V_pour {σ : Nat → Nat → Int32} {N : Nat → Nat} {c : Nat} (h : RS σ N) (I : Inv N c) {p t m : Nat} (hp : p < 8) (ht : t < 8) (hm1 : 1 ≤ m) (hm : m ≤ 81) : ∃ σ' : Nat → Nat → Int32, s_X2_pourOver (σ 1) (σ 10) (σ 11) (nI p) (nI t) (nI m) = some ((pourR N p t m).1, σ' 1, σ' 10, σ' 11) ∧ RS σ' (pourR N p t m).2 ∧ (∀ j, j ≠ 1 → j ≠ 10 → j ≠ 11 → σ' j = σ j) := by
  unfold s_X2_pourOver pourR
  rw [wi8, wi8, bt_l]
  have hx : s_X5_in (nI p) 0 7 = some 1 := in_n (a := 0) (b := 7) (by omega) (by omega) (by omega)
  have hy : s_X5_in (nI t) 0 7 = some 1 := in_n (a := 0) (b := 7) (by omega) (by omega) (by omega)
  have hz : s_X5_in (nI m) 1 81 = some 1 := in_n (a := 1) (b := 81) (by omega) (by omega) (by omega)
  by_cases hpt : p = t
  · rw [if_pos hpt]
    have he : nI p = nI t := by rw [hpt]
    exact ⟨σ, by rw [cl_e hx, if_neg one_ne, cl_e hy, if_neg one_ne, if_pos he], h, fun _ _ _ _ => rfl⟩
  rw [if_neg hpt]
  have he : ¬ nI p = nI t := fun q => hpt ((nI_eq (by omega) (by omega)).mp q)
  obtain ⟨σ', g1, g2, g3⟩ := V_move h I (p := p) (t := t) (m := m) (hold := 81) (by omega) (by omega) hpt (by omega) hm (by omega)
  refine ⟨σ', ?_, g2, g3⟩
  rw [cl_e hx, if_neg one_ne, cl_e hy, if_neg one_ne, if_neg he, cl_e hz, if_neg one_ne]
  exact cl_e g1
theorem V_dip {σ : Nat → Nat → Int32} {N : Nat → Nat} {c : Nat} (h : RS σ N) (I : Inv N c) {p m : Nat} (hp : p < 8) (hm1 : 1 ≤ m) (hm : m ≤ 9) : ∃ σ' : Nat → Nat → Int32, s_X2_dipBrush (σ 1) (σ 10) (σ 11) (nI p) (nI m) = some ((dipR N p m).1, σ' 1, σ' 10, σ' 11) ∧ RS σ' (dipR N p m).2 ∧ (∀ j, j ≠ 1 → j ≠ 10 → j ≠ 11 → σ' j = σ j) := by
  unfold s_X2_dipBrush dipR
  rw [wi8, bt_l]
  have hx : s_X5_in (nI p) 0 7 = some 1 := in_n (a := 0) (b := 7) (by omega) (by omega) (by omega)
  have hz : s_X5_in (nI m) 1 9 = some 1 := in_n (a := 1) (b := 9) (by omega) (by omega) (by omega)
  obtain ⟨σ', g1, g2, g3⟩ := V_move h I (p := p) (t := 8) (m := m) (hold := 9) (by omega) (by omega) (by omega) (by omega) (by omega) (by omega)
  have g1' : s_X2_move (σ 1) (σ 10) (σ 11) (nI p) 8 (nI m) 9 = _ := g1
  refine ⟨σ', ?_, g2, g3⟩
  rw [cl_e hx, if_neg one_ne, cl_e hz, if_neg one_ne]
  exact cl_e g1'
theorem sinkC {σ : Nat → Nat → Int32} {N : Nat → Nat} (h : RS σ N) {p : Nat} (hp : p < 9) : ∃ σ' : Nat → Nat → Int32, s_X2_sink (σ 8 0) (σ 1) (nI p) = some (nI (sm4 N (qp p)), σ' 8 0, σ' 1) ∧ RS σ' (skN N p) ∧ (∀ j, j ≠ 1 → j ≠ 8 → σ' j = σ j) := by
  have hq := qp_lt p
  have hg := qp_ge p
  obtain ⟨e1, a1, b1⟩ := cZr_s (kc := s_X2_sink_X1 (σ 8 0) (nI (sm4 N (qp p)))) (fu := 999) (i := 0) (N := N) (d := σ 1) hp (by omega) (by rw [zrN_0]; exact h.2.1)
  obtain ⟨e2, a2, b2⟩ := cZr_s (kc := s_X2_sink_X1 (σ 8 0) (nI (sm4 N (qp p)))) (fu := 998) (i := 1) (N := N) hp (by omega) a1
  obtain ⟨e3, a3, b3⟩ := cZr_s (kc := s_X2_sink_X1 (σ 8 0) (nI (sm4 N (qp p)))) (fu := 997) (i := 2) (N := N) hp (by omega) a2
  obtain ⟨e4, a4, b4⟩ := cZr_s (kc := s_X2_sink_X1 (σ 8 0) (nI (sm4 N (qp p)))) (fu := 996) (i := 3) (N := N) hp (by omega) a3
  have s1 := h.ofD a4 (fun j hj hd => zrN_off (by
      rcases Nat.lt_or_ge j (qp p) with q | q
      · exact Or.inl q
      · refine Or.inr (Nat.le_of_not_lt fun z => hd (4 * p + (j - qp p)) (by omega) ?_)
        rw [dm_q hp (by omega)]; omega))
  have s2 := s1.ofC 8 4 (N 4 + sm4 N (qp p)) (by omega)
  refine ⟨_, ?_, s2, fun j h1 h8 => by rw [va_up_n h8, va_up_n h1]⟩
  unfold s_X2_sink
  rw [cl_e (cAll h.2.1 hp)]
  refine b1.trans (b2.trans (b3.trans (b4.trans ?_)))
  show s_X2_sink_B1 (nI p) _ _ (nI 4) _ = _
  unfold s_X2_sink_B1 s_X2_sink_X1
  rw [if_pos (show (4 : Int32) ≤ nI 4 from nI_le (a := 4) (b := 4) (by omega) (by omega)), nm_e', h.2.2.2.2.2.2.2.2.1, nI_add]
  rfl
theorem skN_6 (N : Nat → Nat) : skN N 8 6 = N 6 := by
  unfold skN
  rw [upN_n (by omega), zrN_off (by have := qp_ge 8; omega)]
theorem V_rinse {σ : Nat → Nat → Int32} {N : Nat → Nat} {c : Nat} (h : RS σ N) (I : Inv N c) : ∃ σ' : Nat → Nat → Int32, s_X2_rinseBrush (σ 8 0) (σ 9 0) (σ 1) = some ((rinseR N).1, σ' 8 0, σ' 9 0, σ' 1) ∧ RS σ' (rinseR N).2 ∧ (∀ j, j ≠ 1 → j ≠ 8 → j ≠ 9 → σ' j = σ j) := by
  obtain ⟨σ', g1, g6, g8⟩ := sinkC h (p := 8) (by omega)
  have hb := I.2.2.2.1
  have e8 : qp 8 = 47 := rfl
  have g1' : s_X2_sink (σ 8 0) (σ 1) 8 = _ := g1
  rw [e8] at g1'
  have n6 := skN_6 N
  unfold rinseR
  rcases Nat.eq_zero_or_pos (sm4 N 47) with hz | hz
  · have h0 : nI (sm4 N 47) ≤ 0 := by rw [hz]; exact Int32.le_refl _
    refine ⟨σ', ?_, ?_, fun j h1 h8 _ => g8 j h1 h8⟩
    · unfold s_X2_rinseBrush
      rw [cl_e g1']
      dsimp only
      rw [if_pos h0, g8 9 (by omega) (by omega)]
    · rw [if_pos hz]
      refine g6.frame (fun j _ => ?_)
      by_cases e : j = 6
      · subst e; show upN (skN N 8) 6 (N 6 + 0) 6 = _; rw [upN_s, n6]; rfl
      · show upN (skN N 8) 6 (N 6 + 0) j = _; rw [upN_n e]
  · have h0 : ¬ nI (sm4 N 47) ≤ 0 := nI_ge (a := 0) hz (by omega)
    have s2 := g6.ofC 9 6 (N 6 + 1) (by omega)
    rw [if_neg (by omega)]
    refine ⟨_, ?_, s2, fun j h1 h8 h9 => by rw [va_up_n h9, g8 j h1 h8]⟩
    unfold s_X2_rinseBrush
    rw [cl_e g1']
    dsimp only
    rw [if_neg h0, nm_e', h.2.2.2.2.2.2.2.2.2, show nI (N 6) + 1 = nI (N 6 + 1) from nI_add _ 1, va_up_s, va_up_n (by omega), va_up_n (by omega)]
theorem V_empty {σ : Nat → Nat → Int32} {N : Nat → Nat} (h : RS σ N) {p : Nat} (hp : p < 8) : ∃ σ' : Nat → Nat → Int32, s_X2_emptyPot (σ 8 0) (σ 1) (nI p) = some ((emptyR N p).1, σ' 8 0, σ' 1) ∧ RS σ' (emptyR N p).2 ∧ (∀ j, j ≠ 1 → j ≠ 8 → σ' j = σ j) := by
  unfold s_X2_emptyPot emptyR
  rw [wi8]
  have hx : s_X5_in (nI p) 0 7 = some 1 := in_n (a := 0) (b := 7) (by omega) (by omega) (by omega)
  obtain ⟨σ', e1, hS, hs⟩ := sinkC h (p := p) (by omega)
  exact ⟨σ', by rw [cl_e hx, if_neg one_ne, cl_e e1], hS, hs⟩
theorem V_set {σ : Nat → Nat → Int32} {N : Nat → Nat} (h : RS σ N) {i v : Nat} (hi : i < 2) (h0 : i = 0 → 1 ≤ v ∧ v ≤ 9) (h1 : i = 1 → v ≤ 60) : ∃ σ' : Nat → Nat → Int32, s_X2_changeSetting (σ 0) (nI i) (nI v) = some ((setR N i v).1, σ' 0) ∧ RS σ' (setR N i v).2 ∧ (∀ j, j ≠ 0 → σ' j = σ j) := by
  have hno1 : ¬ (1 : Int32) = 0 := one_ne
  unfold s_X2_changeSetting setR
  rw [bt_l, bt_l]
  have s1 := h.of0 hi v
  refine ⟨_, ?_, s1, fun j hj => va_up_n hj⟩
  rcases (show i = 0 ∨ i = 1 by omega) with rfl | rfl
  · have hy : s_X5_in (nI v) 1 9 = some 1 := in_n (a := 1) (b := 9) (by omega) (h0 rfl).1 (h0 rfl).2
    rw [if_pos nI_0, cl_e hy, if_neg hno1, cl_e (at_n (by omega) (by omega)), cl_e (write_n (by omega) (by omega)), h.1 0 (by omega), va_up_s]
  · have hy : s_X5_in (nI v) 0 60 = some 1 := in_n (a := 0) (b := 60) (by omega) (by omega) (h1 rfl)
    rw [if_neg (show ¬ nI 1 = 0 from hno1), if_pos (show nI 1 = 1 from rfl), cl_e hy, if_neg hno1, cl_e (at_n (by omega) (by omega)), cl_e (write_n (by omega) (by omega)), h.1 1 (by omega), va_up_s]
theorem V_want {σ : Nat → Nat → Int32} {N : Nat → Nat} {c : Nat} (h : RS σ N) (I : Inv N c) (hc : c < 2 ^ 30) {P a b d : Nat} (hP : P < 6) (ha : a ≤ 100) (hb : b ≤ 100) (hd : d ≤ 100) : ∃ σ' : Nat → Nat → Int32, s_X2_wantShade (σ 0) (σ 3) (σ 4) (σ 5) (nI P) (nI a) (nI b) (nI d) = some ((wantR N P a b d).1, σ' 3) ∧ RS σ' (wantR N P a b d).2 ∧ (∀ j, j ≠ 3 → σ' j = σ j) := by
  have no := one_ne
  unfold s_X2_wantShade wantR
  rw [wi6, isS_l, isS_l, isS_l]
  have hx : s_X5_in (nI P) 0 5 = some 1 := in_n (a := 0) (b := 5) (by omega) (by omega) (by omega)
  have hy : s_X5_in (nI a) 0 100 = some 1 := in_n (a := 0) (b := 100) (by omega) (by omega) (by omega)
  have hz : s_X5_in (nI b) 0 100 = some 1 := in_n (a := 0) (b := 100) (by omega) (by omega) (by omega)
  have hw : s_X5_in (nI d) 0 100 = some 1 := in_n (a := 0) (b := 100) (by omega) (by omega) (by omega)
  have e0 : nI P * 3 = nI (3 * P) := (pk_mul P 3).trans (by rw [Nat.mul_comm])
  have q : ∀ i, i < 3 → wm (3 * P + i) = 51 + 8 * P + i := fun i hi => wm_q hi
  have s1 := h.of3 (i := 3 * P) (by omega) a
  rw [show wm (3 * P) = 51 + 8 * P from wm_q (k := 0) (by omega)] at s1
  have s2 := s1.of3 (i := 3 * P + 1) (by omega) b
  rw [q 1 (by omega), va_up_s] at s2
  have s3 := s2.of3 (i := 3 * P + 2) (by omega) d
  rw [q 2 (by omega), va_up_s] at s3
  have I' := I.wn (P := P) hP ha hb hd
  have cw := cPW (N := wnN N P a b d) s3 I' hc
  have cw' : s_X2_panelsWell (σ 0) (upd (upd (upd (σ 3) (3 * P) (nI a)) (3 * P + 1) (nI b)) (3 * P + 2) (nI d)) (σ 4) (σ 5) = some (nI (su (wl (wnN N P a b d)) 6)) := cw
  refine ⟨_, ?_, s3, fun j hj => by rw [va_up_n hj, va_up_n hj, va_up_n hj]⟩
  rw [cl_e hx, if_neg no, cl_e hy, if_neg no, cl_e hz, if_neg no, cl_e hw, if_neg no, e0, show nI (3 * P) + 1 = nI (3 * P + 1) from nI_add _ 1, show nI (3 * P) + 2 = nI (3 * P + 2) from nI_add _ 2, cl_e (write_n (by omega) (by omega)), cl_e (write_n (by omega) (by omega)), cl_e (write_n (by omega) (by omega)), cl_e cw', va_up_s]
theorem V_paint {σ : Nat → Nat → Int32} {N : Nat → Nat} {c : Nat} (h : RS σ N) (I : Inv N c) {P : Nat} (hP : P < 6) : ∃ σ' : Nat → Nat → Int32, s_X2_paintPanel (σ 7 0) (σ 0) (σ 1) (σ 3) (σ 4) (σ 5) (σ 10) (σ 11) (nI P) = some ((paintR N P).1, σ' 7 0, σ' 1, σ' 4, σ' 5, σ' 10, σ' 11) ∧ RS σ' (paintR N P).2 ∧ (∀ j, j ≠ 1 → j ≠ 4 → j ≠ 5 → j ≠ 7 → j ≠ 10 → j ≠ 11 → σ' j = σ j) := by
  unfold s_X2_paintPanel paintR
  rw [wi6]
  have hx : s_X5_in (nI P) 0 5 = some 1 := in_n (a := 0) (b := 5) (by omega) (by omega) (by omega)
  have e8 : qp 8 = 47 := rfl
  have hac : s_X2_allDrops (σ 1) 8 = some (nI (sm4 N 47)) := cAll h.2.1 (p := 8) (by omega)
  have hat : s_X4_at 2 (σ 0) 0 = some (nI (N 0)) := (at_n (a := 0) (n := 2) (by omega) (by omega)).trans (by rw [h.1 0 (by omega)])
  have hbr := I.2.2.2.1
  have h0a := I.1.1
  have h0b := I.1.2
  by_cases hle : N 0 ≤ sm4 N 47
  · rw [if_pos hle]
    have hle' : nI (N 0) ≤ nI (sm4 N 47) := nI_le hle (by omega)
    have w : ∀ i, i < 3 → wm (3 * P + i) + 4 = 55 + 8 * P + i := fun i hi => by rw [wm_q hi]; omega
    have s1 := h.of4 (i := 3 * P + 0) (by omega) (stg N 47 0)
    rw [w 0 (by omega)] at s1
    have s2 := s1.of4 (i := 3 * P + 1) (by omega) (stg N 47 1)
    rw [w 1 (by omega), va_up_s] at s2
    have s3 := s2.of4 (i := 3 * P + 2) (by omega) (stg N 47 2)
    rw [w 2 (by omega), va_up_s] at s3
    have s4' := s3.of54 hP 1
    have s5 := s4'.ofS hP (N (58 + 8 * P) + 1)
    have hd3 : RD (σ 1) (pn3 N P) := s5.2.1
    have sm3 : sm4 (pn3 N P) 47 = sm4 N 47 := sm4_eq (fun k hk => pn3_n (by omega))
    obtain ⟨d', tk', lo', t1, t3, -⟩ := takeC hd3 (p := 8) (m := N 0) (by omega) (by omega) (by rw [e8, sm3]; exact hle) (by rw [e8, sm3]; omega) (σ 10) (σ 11)
    have t1' : s_X2_takeOut (σ 1) (σ 10) (σ 11) 8 (nI (N 0)) = some (d', tk', lo') := t1
    rw [e8] at t3
    have s6 := s5.ofD t3 (fun j hj hd => tkN_off (by
      rcases Nat.lt_or_ge j 47 with q | q
      · exact Or.inl q
      · refine Or.inr (Nat.le_of_not_lt fun z => hd (4 * 8 + (j - 47)) (by omega) ?_)
        rw [dm_q (by omega) (by omega), e8]; omega))
    have s7 := s6.ofC 7 3 (N 3 + N 0) (by omega)
    have s8 : RS _ (pntN N P) := s7.of5 (N 5 + 1)
    have hI := I.2.2.2.2.1 P hP
    have hv := pn3_v N P
    have l0 := stg_le N 47 (k := 0) (by omega)
    have l1 := stg_le N 47 (k := 1) (by omega)
    have l2 := stg_le N 47 (k := 2) (by omega)
    have dc := cDistPanel (w := σ 3) (pa := upd (upd (upd (σ 4) (3 * P + 0) (nI (stg N 47 0))) (3 * P + 1) (nI (stg N 47 1))) (3 * P + 2) (nI (stg N 47 2))) s5.2.2.2.1 s5.2.2.2.2.1 hP (by show pn3 N P _ ≤ _; rw [pn3_n (by omega)]; omega) (by show pn3 N P _ ≤ _; rw [pn3_n (by omega)]; omega) (by show pn3 N P _ ≤ _; rw [pn3_n (by omega)]; omega) (by show pn3 N P _ ≤ _; rw [hv.2.1]; exact l0) (by show pn3 N P _ ≤ _; rw [hv.2.2.1]; exact l1) (by show pn3 N P _ ≤ _; rw [hv.2.2.2.1]; exact l2)
    have dc' : s_X2_distanceOfPanel (σ 3) (upd (upd (upd (σ 4) (3 * P + 0) (nI (stg N 47 0))) (3 * P + 1) (nI (stg N 47 1))) (3 * P + 2) (nI (stg N 47 2))) (nI P) = some (nI (dst N P (stg N 47 0) (stg N 47 1) (stg N 47 2))) := by
      refine dc.trans ?_
      show some (nI (dst (pn3 N P) P (pn3 N P (55 + 8 * P)) (pn3 N P (56 + 8 * P)) (pn3 N P (57 + 8 * P)))) = _
      rw [hv.2.1, hv.2.2.1, hv.2.2.2.1, dst_eq (pn3_n (by omega)) (pn3_n (by omega)) (pn3_n (by omega))]
    refine ⟨va_up (va_up _ 10 tk') 11 lo', ?_, s8.ofX (fun j hj => by rw [va_up_n (by omega), va_up_n (by omega)]), fun j h1 h4 h5 h7 h10 h11 => by rw [va_up_n h11, va_up_n h10, va_up_n h7, va_up_n h1, va_up_n h5, va_up_n h4, va_up_n h4, va_up_n h4]⟩
    rw [cl_e hx, if_neg one_ne, cl_e hat, cl_e hac, if_pos hle']
    refine (cPn_s (fu := 999) (i := 0) h.2.1 hP (by omega) (by omega) (by omega)).trans ?_
    refine (cPn_s (fu := 998) (i := 1) h.2.1 hP (by omega) (by omega) (by omega)).trans ?_
    refine (cPn_s (fu := 997) (i := 2) h.2.1 hP (by omega) (by omega) (by omega)).trans ?_
    show s_X2_paintPanel_B1 (σ 1) (nI P) _ _ (nI 3) _ = _
    unfold s_X2_paintPanel_B1 s_X2_paintPanel_X1
    rw [if_pos (show (3 : Int32) ≤ nI 3 from nI_le (a := 3) (b := 3) (by omega) (by omega)), cl_e t1', cl_e (add_n (by omega) (by omega)), nm_e', cl_e dc', h.2.2.2.2.2.2.2.1, nI_add, h.2.2.2.2.2.1 P hP, nI_1]
    rfl
  · rw [if_neg hle]
    have hle' : ¬ nI (N 0) ≤ nI (sm4 N 47) := nI_ge (by omega) (by omega)
    refine ⟨σ, ?_, h, fun _ _ _ _ _ _ _ => rfl⟩
    rw [cl_e hx, if_neg one_ne, cl_e hat, cl_e hac, if_neg hle']
