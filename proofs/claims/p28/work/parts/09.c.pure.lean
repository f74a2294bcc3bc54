-- one side: what is taken out of paint, told exactly
def pick : Nat → (Nat → Nat) → (Nat → Nat) → Nat → Nat
  | 0, y, _ => y
  | g + 1, y, v => pick g (upN y (pkc v) (y (pkc v) + 1)) (upN v (pkc v) 0)
def qv (N : Nat → Nat) (q m k : Nat) : Nat := N (q + k) * m / sm4 N q
def yv (N : Nat → Nat) (q m : Nat) : Nat → Nat := pick (m - s4 (qv N q m)) (qv N q m) (fun k => N (q + k) * m % sm4 N q + 1)
theorem pick_step {n g : Nat} {X y v : Nat → Nat} (hn0 : 0 < n) (hv : ∀ k, k < 4 → v k ≤ n) (hs : n * (g + 1) ≤ sv v) (hy : ∀ k, k < 4 → y k + (if 1 < v k then 1 else 0) ≤ X k) :
    1 < v (pkc v) ∧ (∀ k, k < 4 → upN v (pkc v) 0 k ≤ n) ∧ n * g ≤ sv (upN v (pkc v) 0) ∧ (∀ k, k < 4 → upN y (pkc v) (y (pkc v) + 1) k + (if 1 < upN v (pkc v) 0 k then 1 else 0) ≤ X k) := by
  have hc := pkc_lt v
  have hmax := pkc_max v
  have hsl := sv_le hmax
  rw [Nat.mul_succ] at hs
  have hbig : 1 < v (pkc v) := by
    rcases Nat.lt_or_ge 1 (v (pkc v)) with h | h
    · exact h
    · exfalso
      have : sv v ≤ 0 := by omega
      omega
  have hsp := sv_pick (v := v) hc
  have hvc := hv _ hc
  have hyc := hy _ hc
  rw [if_pos hbig] at hyc
  refine ⟨hbig, fun k hk => ?_, by omega, fun k hk => ?_⟩
  · by_cases e : k = pkc v
    · rw [e, upN_s]; omega
    · rw [upN_n e]; exact hv k hk
  · by_cases e : k = pkc v
    · rw [e, upN_s, upN_s]; simp; omega
    · rw [upN_n e, upN_n e]; exact hy k hk
theorem pick_ok {n : Nat} {X : Nat → Nat} (hn0 : 0 < n) : ∀ (g : Nat) (y v : Nat → Nat), (∀ k, k < 4 → v k ≤ n) → n * g ≤ sv v → (∀ k, k < 4 → y k + (if 1 < v k then 1 else 0) ≤ X k) →
    (∀ k, k < 4 → pick g y v k ≤ X k ∧ y k ≤ pick g y v k ∧ pick g y v k ≤ y k + (if 1 < v k then 1 else 0)) ∧ s4 (pick g y v) = s4 y + g := by
  intro g
  induction g with
  | zero =>
    intro y v hv hs hy
    refine ⟨fun k hk => ?_, rfl⟩
    have := hy k hk
    show y k ≤ X k ∧ y k ≤ y k ∧ y k ≤ y k + _
    refine ⟨by omega, Nat.le_refl _, Nat.le_add_right _ _⟩
  | succ g ih =>
    intro y v hv hs hy
    obtain ⟨h1, h2, h3, h4⟩ := pick_step hn0 hv hs hy
    obtain ⟨a, b⟩ := ih _ _ h2 h3 h4
    refine ⟨fun k hk => ?_, ?_⟩
    · obtain ⟨a1, a2, a3⟩ := a k hk
      refine ⟨a1, ?_, ?_⟩
      · refine Nat.le_trans ?_ a2
        by_cases e : k = pkc v
        · rw [e, upN_s]; omega
        · rw [upN_n e]; exact Nat.le_refl _
      · refine Nat.le_trans a3 ?_
        by_cases e : k = pkc v
        · rw [e, upN_s, upN_s, if_pos h1]; simp
        · rw [upN_n e, upN_n e]; exact Nat.le_refl _
    · show s4 (pick g _ _) = _
      rw [b, s4_pick (pkc_lt v)]
      omega
theorem pick_c {n : Nat} {X : Nat → Nat} {kc : (Nat → Int32) × (Nat → Int32) → Option ((Nat → Int32) × (Nat → Int32) × (Nat → Int32))} (hn0 : 0 < n) (hn : n < 2 ^ 29) :
    ∀ (g t : Nat) (tk lo : Nat → Int32) (y v : Nat → Nat), t + g ≤ 3 → (∀ k, k < 4 → v k ≤ n) → (∀ k, k < 4 → lo k = nI (v k) - 1) → (∀ k, k < 4 → tk k = nI (y k)) → n * g ≤ sv v → (∀ k, k < 4 → y k + (if 1 < v k then 1 else 0) ≤ X k) →
    ∃ (tkc lo' : Nat → Int32), (∀ fu, s_X2_takeOut_L2 kc (fu + g + 1) (nI g, nI t, tk, lo) = kc (tkc, lo')) ∧ (∀ k, k < 4 → tkc k = nI (pick g y v k)) := by
  intro g
  induction g with
  | zero =>
    intro t tk lo y v ht hv hlo htk hs hy
    refine ⟨tk, lo, fun fu => ?_, htk⟩
    show s_X2_takeOut_B2 kc (s_X2_takeOut_L2 kc _) (nI 0) (nI t) tk lo = _
    unfold s_X2_takeOut_B2
    rw [if_neg (show ¬ (4 : Int32) ≤ nI t from nI_ge (a := t) (b := 4) (by omega) (by omega)), if_pos (show nI 0 ≤ (0 : Int32) from nI_le (a := 0) (b := 0) (by omega) (by omega))]
  | succ g ih =>
    intro t tk lo y v ht hv hlo htk hs hy
    have hc := pkc_lt v
    obtain ⟨hbig, h2, h3, h4⟩ := pick_step hn0 hv hs hy
    obtain ⟨tkc, lo', e1, e2⟩ := ih (t + 1) (upd tk (pkc v) (nI (y (pkc v) + 1))) (upd lo (pkc v) (-1)) _ _ (by omega) h2
      (fun k hk => by
        by_cases e : k = pkc v
        · rw [e, pk_us, upN_s]; rfl
        · rw [pk_un e, upN_n e]; exact hlo k hk)
      (fun k hk => by
        by_cases e : k = pkc v
        · rw [e, pk_us, upN_s]
        · rw [pk_un e, upN_n e]; exact htk k hk) h3 h4
    refine ⟨tkc, lo', fun fu => ?_, e2⟩
    refine Eq.trans ?_ (e1 fu)
    show s_X2_takeOut_B2 kc (s_X2_takeOut_L2 kc (fu + g + 1)) (nI (g + 1)) (nI t) tk lo = _
    unfold s_X2_takeOut_B2
    rw [if_neg (show ¬ (4 : Int32) ≤ nI t from nI_ge (a := t) (b := 4) (by omega) (by omega)), if_neg (show ¬ nI (g + 1) ≤ (0 : Int32) from nI_ge (a := 0) (b := g + 1) (by omega) (by omega))]
    rw [cl_e (kMost hlo (fun k hk => by have := hv k hk; omega)), cl_e (add_n hc (by omega)), cl_e (write_n hc (by omega)), nm_e', nm_e', htk _ hc, pk_m1, nI_1, nI_1]
theorem yv_pre {N : Nat → Nat} {q m : Nat} (hm : m ≤ sm4 N q) (hn0 : 0 < sm4 N q) : (m - s4 (qv N q m) ≤ 3) ∧ s4 (qv N q m) ≤ m ∧ (∀ k, k < 4 → N (q + k) * m % sm4 N q + 1 ≤ sm4 N q) ∧ sm4 N q * (m - s4 (qv N q m)) ≤ sv (fun k => N (q + k) * m % sm4 N q + 1) ∧ (∀ k, k < 4 → qv N q m k + (if 1 < N (q + k) * m % sm4 N q + 1 then 1 else 0) ≤ N (q + k)) := by
  obtain ⟨g1, g2, g3⟩ := q_sum (X := fun k => N (q + k)) (n := sm4 N q) (m := m) rfl hn0
  refine ⟨g2, g1, fun k hk => Nat.mod_lt _ hn0, ?_, fun k hk => q_le (sm4_ge N q hk) hm hn0⟩
  show sm4 N q * (m - s4 (fun k => N (q + k) * m / sm4 N q)) ≤ _
  rw [g3]
  simp only [s4, sv, Nat.add_sub_cancel]
  exact Nat.le_refl _
theorem yv_ok {N : Nat → Nat} {q m : Nat} (hm : m ≤ sm4 N q) (hn0 : 0 < sm4 N q) : (∀ k, k < 4 → yv N q m k ≤ N (q + k) ∧ N (q + k) * m / sm4 N q ≤ yv N q m k ∧ yv N q m k ≤ N (q + k) * m / sm4 N q + 1) ∧ s4 (yv N q m) = m := by
  obtain ⟨p1, p2, p3, p4, p5⟩ := yv_pre hm hn0
  obtain ⟨a, b⟩ := pick_ok (X := fun k => N (q + k)) hn0 (m - s4 (qv N q m)) (qv N q m) (fun k => N (q + k) * m % sm4 N q + 1) p3 p4 p5
  refine ⟨fun k hk => ?_, ?_⟩
  · obtain ⟨a1, a2, a3⟩ := a k hk
    refine ⟨a1, a2, Nat.le_trans a3 ?_⟩
    show qv N q m k + _ ≤ qv N q m k + 1
    split <;> omega
  · show s4 (pick _ _ _) = m
    rw [b]
    omega
theorem takeC {d : Nat → Int32} {N : Nat → Nat} (hd : RD d N) {p m : Nat} (hp : p < 9) (hm0 : 0 < m) (hm : m ≤ sm4 N (qp p)) (hn : sm4 N (qp p) ≤ 81) (tk lo : Nat → Int32) :
    ∃ (d' tk' lo' : Nat → Int32), s_X2_takeOut d tk lo (nI p) (nI m) = some (d', tk', lo') ∧ RD d' (tkN N (qp p) (yv N (qp p) m) 4) ∧ (∀ k, k < 4 → tk' k = nI (yv N (qp p) m k)) := by
  have hn0 : 0 < sm4 N (qp p) := by omega
  have hle : ∀ k, k < 4 → N (qp p + k) ≤ sm4 N (qp p) := fun k hk => sm4_ge N (qp p) hk
  have hX : ∀ k, k < 4 → N (qp p + k) * m < 2 ^ 30 := fun k hk => by
    have h1 := Nat.mul_le_mul (hle k hk) hm
    have h2 := Nat.mul_le_mul hn hn
    have h3 : sm4 N (qp p) * sm4 N (qp p) ≤ 81 * 81 := h2
    omega
  obtain ⟨p1, p2, p3, p4, p5⟩ := yv_pre hm hn0
  obtain ⟨y1, y2⟩ := yv_ok hm hn0
  have gs : s4 (qv N (qp p) m) = N (qp p + 0) * m / sm4 N (qp p) + N (qp p + 1) * m / sm4 N (qp p) + N (qp p + 2) * m / sm4 N (qp p) + N (qp p + 3) * m / sm4 N (qp p) := rfl
  have z0 := Nat.zero_le (N (qp p + 0) * m / sm4 N (qp p))
  have z1 := Nat.zero_le (N (qp p + 1) * m / sm4 N (qp p))
  have z2 := Nat.zero_le (N (qp p + 2) * m / sm4 N (qp p))
  have z3 := Nat.zero_le (N (qp p + 3) * m / sm4 N (qp p))
  have c1 := fun kc => cP1_s (kc := kc) (fu := 999) (ms := m) (i := 0) (tk := tk) (lo := lo) hd hp hX hn0 (by omega) (by omega) (by omega)
  have c2 := fun kc tk lo => cP1_s (kc := kc) (fu := 998) (ms := m - N (qp p + 0) * m / sm4 N (qp p)) (i := 1) (tk := tk) (lo := lo) hd hp hX hn0 (by omega) (by omega) (by omega)
  have c3 := fun kc tk lo => cP1_s (kc := kc) (fu := 997) (ms := m - N (qp p + 0) * m / sm4 N (qp p) - N (qp p + 1) * m / sm4 N (qp p)) (i := 2) (tk := tk) (lo := lo) hd hp hX hn0 (by omega) (by omega) (by omega)
  have c4 := fun kc tk lo => cP1_s (kc := kc) (fu := 996) (ms := m - N (qp p + 0) * m / sm4 N (qp p) - N (qp p + 1) * m / sm4 N (qp p) - N (qp p + 2) * m / sm4 N (qp p)) (i := 3) (tk := tk) (lo := lo) hd hp hX hn0 (by omega) (by omega) (by omega)
  obtain ⟨tkc, lo', h1, h3⟩ := pick_c (n := sm4 N (qp p)) (X := fun k => N (qp p + k)) (kc := s_X2_takeOut_X2 (nI p) d) hn0 (by omega) (m - s4 (qv N (qp p) m)) 0
    (upd (upd (upd (upd tk 0 (nI (N (qp p + 0) * m / sm4 N (qp p)))) 1 (nI (N (qp p + 1) * m / sm4 N (qp p)))) 2 (nI (N (qp p + 2) * m / sm4 N (qp p)))) 3 (nI (N (qp p + 3) * m / sm4 N (qp p))))
    (upd (upd (upd (upd lo 0 (nI (N (qp p + 0) * m % sm4 N (qp p)))) 1 (nI (N (qp p + 1) * m % sm4 N (qp p)))) 2 (nI (N (qp p + 2) * m % sm4 N (qp p)))) 3 (nI (N (qp p + 3) * m % sm4 N (qp p))))
    (qv N (qp p) m) (fun k => N (qp p + k) * m % sm4 N (qp p) + 1) (by omega) p3
    (four (by rw [nI_pred]; rfl) (by rw [nI_pred]; rfl) (by rw [nI_pred]; rfl) (by rw [nI_pred]; rfl))
    (four rfl rfl rfl rfl) p4 p5
  have h3' : ∀ k, k < 4 → tkc k = nI (yv N (qp p) m k) := h3
  have h5 : ∀ k, k < 4 → yv N (qp p) m k ≤ N (qp p + k) := fun k hk => (y1 k hk).1
  obtain ⟨e1, a1, b1⟩ := cP3_s (kc := s_X2_takeOut_X3 tkc lo') (fu := 999) (i := 0) (N := N) (y := yv N (qp p) m) hp (by omega) (h3' 0 (by omega)) (h5 0 (by omega)) (by rw [tkN_0]; exact hd)
  obtain ⟨e2, a2, b2⟩ := cP3_s (kc := s_X2_takeOut_X3 tkc lo') (fu := 998) (i := 1) (N := N) (y := yv N (qp p) m) hp (by omega) (h3' 1 (by omega)) (h5 1 (by omega)) a1
  obtain ⟨e3, a3, b3⟩ := cP3_s (kc := s_X2_takeOut_X3 tkc lo') (fu := 997) (i := 2) (N := N) (y := yv N (qp p) m) hp (by omega) (h3' 2 (by omega)) (h5 2 (by omega)) a2
  obtain ⟨e4, a4, b4⟩ := cP3_s (kc := s_X2_takeOut_X3 tkc lo') (fu := 996) (i := 3) (N := N) (y := yv N (qp p) m) hp (by omega) (h3' 3 (by omega)) (h5 3 (by omega)) a3
  refine ⟨e4, tkc, lo', ?_, a4, h3'⟩
  unfold s_X2_takeOut
  rw [cl_e (cAll hd hp)]
  refine (c1 _).trans ((c2 _ _ _).trans ((c3 _ _ _).trans ((c4 _ _ _).trans ?_)))
  show s_X2_takeOut_B1 d (nI p) (nI m) _ _ _ _ (nI 4) _ _ = _
  unfold s_X2_takeOut_B1 s_X2_takeOut_X1
  rw [if_pos (show (4 : Int32) ≤ nI 4 from nI_le (a := 4) (b := 4) (by omega) (by omega))]
  have eg : m - N (qp p + 0) * m / sm4 N (qp p) - N (qp p + 1) * m / sm4 N (qp p) - N (qp p + 2) * m / sm4 N (qp p) - N (qp p + 3) * m / sm4 N (qp p) = m - s4 (qv N (qp p) m) := by omega
  have h1' := h1 (999 - (m - s4 (qv N (qp p) m)))
  rw [show 999 - (m - s4 (qv N (qp p) m)) + (m - s4 (qv N (qp p) m)) + 1 = 1000 by omega] at h1'
  rw [eg]
  refine h1'.trans ?_
  unfold s_X2_takeOut_X2
  refine b1.trans (b2.trans (b3.trans (b4.trans ?_)))
  show s_X2_takeOut_B3 tkc (nI p) _ _ (nI 4) _ = _
  unfold s_X2_takeOut_B3 s_X2_takeOut_X3
  rw [if_pos (show (4 : Int32) ≤ nI 4 from nI_le (a := 4) (b := 4) (by omega) (by omega))]
