-- pure: settings and shades
theorem isS_l (x : Int32) : s_X2_isStrength x = s_X5_in x 0 100 := by
  unfold s_X2_isStrength cl
  show (s_X5_in x 0 100).bind some = s_X5_in x 0 100
  cases s_X5_in x 0 100 <;> rfl
theorem B_set {σ : Nat → Nat → Int32} {f : Nat → Int32} {N : Nat → Nat} {c : Nat} (h : RS σ N) (hf : RM f N) (I : Inv N c) (x y g0 : Int32) (f2 f3 : Nat → Int32) : (∃ e : Int32, e < 0 ∧ s_X2_changeSetting (σ 0) x y = some (e, σ 0) ∧ s_X5_set g0 f f2 f3 x y = some (e, g0, f, f2, f3)) ∨ (∃ (r : Int32) (σ' : Nat → Nat → Int32) (f' : Nat → Int32) (N' : Nat → Nat), ¬ r < 0 ∧ s_X2_changeSetting (σ 0) x y = some (r, σ' 0) ∧ (∀ f9 a b d, s_X5_hold f f2 = some f9 → s_X5_recorded g0 f9 f3 r = some (a, b, d) → s_X5_set g0 f f2 f3 x y = some (a, b, f', f9, d)) ∧ RS σ' N' ∧ RM f' N' ∧ Inv N' c ∧ (∀ j, j ≠ 0 → σ' j = σ j)) := by
  have hno1 : ¬ (1 : Int32) = 0 := one_ne
  have hno0 : ¬ (0 : Int32) = 1 := by decide
  have hg : ∀ i v, i < 2 → (i = 0 → 1 ≤ v ∧ v ≤ 9) → (i = 1 → v ≤ 60) → Inv (upN N i v) c := fun i v hi h0 h1 => by
    obtain ⟨a, b, d, e, g, k⟩ := I
    refine ⟨?_, ?_, fun p hp => ?_, ?_, fun p hp => ?_, ?_⟩
    · by_cases ei : i = 0
      · subst ei; rw [upN_s]; exact h0 rfl
      · rw [upN_n (by omega)]; exact a
    · by_cases ei : i = 1
      · subst ei; rw [upN_s]; exact h1 rfl
      · rw [upN_n (by omega)]; exact b
    · rw [sm4_off (by omega)]; exact d p hp
    · rw [sm4_off (by omega)]; exact e
    · rw [upN_n (by omega), upN_n (by omega), upN_n (by omega), upN_n (by omega), upN_n (by omega), upN_n (by omega), upN_n (by omega), upN_n (by omega)]
      exact g p hp
    · unfold sm6 at k ⊢
      rw [upN_n (by omega), upN_n (by omega), upN_n (by omega), upN_n (by omega), upN_n (by omega), upN_n (by omega), upN_n (by omega)]
      exact k
  unfold s_X2_changeSetting s_X5_set
  rw [bt_l, bt_l]
  by_cases hx0 : x = 0
  · subst hx0
    rw [if_pos rfl, if_pos rfl]
    rcases in_cases y 1 9 with ⟨hy, -⟩ | ⟨hy, y1, y2⟩
    · exact Or.inl ⟨-2, by decide, by rw [cl_e hy, if_pos rfl, if_neg hno0], by rw [cl_e hy, if_pos rfl]⟩
    · obtain ⟨m, hm1, hm, rfl⟩ := rng_n (a := 1) (b := 9) (by omega) (by omega) y1 y2
      have s1 := h.of0 (i := 0) (by omega) m
      have f1 := hf.up 0 m
      refine Or.inr ⟨nI (N 0), _, _, _, nI_pos (by have := I.1.2; omega), ?_, fun f9 a b d h9 hr => ?_, s1, f1, hg 0 m (by omega) (fun _ => ⟨hm1, hm⟩) (fun q => absurd q (by omega)), fun j hj => va_up_n hj⟩
      · rw [cl_e hy, if_neg hno1, show (0 : Int32) = nI 0 from rfl, cl_e (at_n (by omega) (by omega)), cl_e (write_n (by omega) (by omega)), h.1 0 (by omega), va_up_s]
      · rw [cl_e hy, if_neg hno1, cl_e h9]
        rw [show (0 : Int32) = nI 0 from rfl, ld_n (by omega) (by omega), sto_n (by omega) (by omega), hf 0 (by omega), cl_e hr]
  · rw [if_neg hx0, if_neg hx0]
    by_cases hx1 : x = 1
    · subst hx1
      rw [if_pos rfl, if_pos rfl]
      rcases in_cases y 0 60 with ⟨hy, -⟩ | ⟨hy, y1, y2⟩
      · exact Or.inl ⟨-2, by decide, by rw [cl_e hy, if_pos rfl], by rw [cl_e hy, if_pos rfl]⟩
      · obtain ⟨m, hm1, hm, rfl⟩ := rng_n (a := 0) (b := 60) (by omega) (by omega) y1 y2
        have s1 := h.of0 (i := 1) (by omega) m
        have f1 := hf.up 1 m
        refine Or.inr ⟨nI (N 1), _, _, _, nI_pos (by have := I.2.1; omega), ?_, fun f9 a b d h9 hr => ?_, s1, f1, hg 1 m (by omega) (fun q => absurd q (by omega)) (fun _ => hm), fun j hj => va_up_n hj⟩
        · rw [cl_e hy, if_neg hno1, show (1 : Int32) = nI 1 from rfl, cl_e (at_n (by omega) (by omega)), cl_e (write_n (by omega) (by omega)), h.1 1 (by omega), va_up_s]
        · rw [cl_e hy, if_neg hno1, cl_e h9]
          rw [show (1 : Int32) = nI 1 from rfl, ld_n (by omega) (by omega), sto_n (by omega) (by omega), hf 1 (by omega), cl_e hr]
    · rw [if_neg hx1, if_neg hx1]
      exact Or.inl ⟨-2, by decide, rfl, rfl⟩
def wnN (N : Nat → Nat) (P a b d : Nat) : Nat → Nat := upN (upN (upN N (51 + 8 * P) a) (51 + 8 * P + 1) b) (51 + 8 * P + 2) d
theorem wnN_n {N : Nat → Nat} {P a b d j : Nat} (h : j < 51 + 8 * P ∨ 54 + 8 * P ≤ j) : wnN N P a b d j = N j := by
  unfold wnN
  rw [upN_n (by omega), upN_n (by omega), upN_n (by omega)]
theorem wnN_v (N : Nat → Nat) (P a b d : Nat) : wnN N P a b d (51 + 8 * P) = a ∧ wnN N P a b d (52 + 8 * P) = b ∧ wnN N P a b d (53 + 8 * P) = d := by
  unfold wnN
  refine ⟨?_, ?_, ?_⟩
  · rw [upN_n (by omega), upN_n (by omega), upN_s]
  · rw [upN_n (by omega), show 52 + 8 * P = 51 + 8 * P + 1 by omega, upN_s]
  · rw [show 53 + 8 * P = 51 + 8 * P + 2 by omega, upN_s]
theorem Inv.wn {N : Nat → Nat} {c P a b d : Nat} (I : Inv N c) (hP : P < 6) (ha : a ≤ 100) (hb : b ≤ 100) (hd : d ≤ 100) : Inv (wnN N P a b d) c := by
  obtain ⟨i0, i1, i2, i3, g, k⟩ := I
  obtain ⟨v1, v2, v3⟩ := wnN_v N P a b d
  refine ⟨by rw [wnN_n (by omega)]; exact i0, by rw [wnN_n (by omega)]; exact i1, fun p hp => ?_, ?_, fun p hp => ?_, ?_⟩
  · rw [sm4_eq (N := N) (fun k hk => wnN_n (by omega))]; exact i2 p hp
  · rw [sm4_eq (N := N) (fun k hk => wnN_n (by omega))]; exact i3
  · obtain ⟨g1, g2, g3, g4, g5, g6, g7, g8, g9⟩ := g p hp
    rw [wnN_n (j := 54 + 8 * p) (by omega), wnN_n (j := 55 + 8 * p) (by omega), wnN_n (j := 56 + 8 * p) (by omega), wnN_n (j := 57 + 8 * p) (by omega), wnN_n (j := 58 + 8 * p) (by omega)]
    by_cases ep : p = P
    · subst ep
      rw [v1, v2, v3]
      exact ⟨ha, hb, hd, g4, g5, g6, g7, g8, g9⟩
    · rw [wnN_n (by omega), wnN_n (by omega), wnN_n (by omega)]
      exact ⟨g1, g2, g3, g4, g5, g6, g7, g8, g9⟩
  · unfold sm6 at k ⊢
    rw [wnN_n (by omega), wnN_n (j := 58) (by omega), wnN_n (j := 58 + 8) (by omega), wnN_n (j := 58 + 16) (by omega), wnN_n (j := 58 + 24) (by omega), wnN_n (j := 58 + 32) (by omega), wnN_n (j := 58 + 40) (by omega)]
    exact k
theorem B_want {σ : Nat → Nat → Int32} {f : Nat → Int32} {N : Nat → Nat} {c : Nat} (h : RS σ N) (hf : RM f N) (I : Inv N c) (hc : c < 2 ^ 30) (x y z w g0 : Int32) (f2 f3 f7 : Nat → Int32) : (∃ e : Int32, e < 0 ∧ s_X2_wantShade (σ 0) (σ 3) (σ 4) (σ 5) x y z w = some (e, σ 3) ∧ s_X5_want g0 f f2 f3 f7 x y z w = some (e, g0, f, f2, f3, f7)) ∨ (∃ (r : Int32) (σ' : Nat → Nat → Int32) (f' g' : Nat → Int32) (N' : Nat → Nat), ¬ r < 0 ∧ s_X2_wantShade (σ 0) (σ 3) (σ 4) (σ 5) x y z w = some (r, σ' 3) ∧ (∀ f9 a b d, s_X5_hold f f2 = some f9 → s_X5_recorded g0 f9 f3 r = some (a, b, d) → s_X5_want g0 f f2 f3 f7 x y z w = some (a, b, f', f9, d, g')) ∧ RS σ' N' ∧ RM f' N' ∧ Inv N' c ∧ (∀ j, j ≠ 3 → σ' j = σ j)) := by
  have no := one_ne
  unfold s_X2_wantShade s_X5_want
  rw [wi6, isPanel_l, isS_l, isS_l, isS_l]
  rcases in_cases x 0 5 with ⟨hx, -⟩ | ⟨hx, x1, x2⟩
  · exact Or.inl ⟨-1, by decide, by rw [cl_e hx]; rfl, by rw [cl_e hx]; rfl⟩
  obtain ⟨P, -, hP, rfl⟩ := rng_n (a := 0) (b := 5) (by omega) (by omega) x1 x2
  rcases in_cases y 0 100 with ⟨hy, -⟩ | ⟨hy, y1, y2⟩
  · exact Or.inl ⟨-2, by decide, by rw [cl_e hx, if_neg no, cl_e hy]; rfl, by rw [cl_e hx, if_neg no, cl_e hy]; rfl⟩
  obtain ⟨a, -, ha, rfl⟩ := rng_n (a := 0) (b := 100) (by omega) (by omega) y1 y2
  rcases in_cases z 0 100 with ⟨hz, -⟩ | ⟨hz, z1, z2⟩
  · exact Or.inl ⟨-2, by decide, by rw [cl_e hx, if_neg no, cl_e hy, if_neg no, cl_e hz]; rfl, by rw [cl_e hx, if_neg no, cl_e hy, if_neg no, cl_e hz]; rfl⟩
  obtain ⟨b, -, hb, rfl⟩ := rng_n (a := 0) (b := 100) (by omega) (by omega) z1 z2
  rcases in_cases w 0 100 with ⟨hw, -⟩ | ⟨hw, w1, w2⟩
  · exact Or.inl ⟨-2, by decide, by rw [cl_e hx, if_neg no, cl_e hy, if_neg no, cl_e hz, if_neg no, cl_e hw]; rfl, by rw [cl_e hx, if_neg no, cl_e hy, if_neg no, cl_e hz, if_neg no, cl_e hw]; rfl⟩
  obtain ⟨d, -, hd, rfl⟩ := rng_n (a := 0) (b := 100) (by omega) (by omega) w1 w2
  have hPp : P < 6 := by omega
  have e0 : nI P * 3 = nI (3 * P) := (pk_mul P 3).trans (by rw [Nat.mul_comm])
  have q : ∀ i, i < 3 → wm (3 * P + i) = 51 + 8 * P + i := fun i hi => wm_q hi
  have s1 := h.of3 (i := 3 * P) (by omega) a
  rw [show wm (3 * P) = 51 + 8 * P from wm_q (k := 0) (by omega)] at s1
  have s2 := s1.of3 (i := 3 * P + 1) (by omega) b
  rw [q 1 (by omega), va_up_s] at s2
  have s3 := s2.of3 (i := 3 * P + 2) (by omega) d
  rw [q 2 (by omega), va_up_s] at s3
  have f1 := (hf.up (51 + 8 * P) a).up (51 + 8 * P + 1) b
  have f3' : RM _ (wnN N P a b d) := f1.up (51 + 8 * P + 2) d
  have I' := I.wn (P := P) hPp ha hb hd
  have cw := cPW (N := wnN N P a b d) s3 I' hc
  obtain ⟨g', mw⟩ := mPW f3' I' f7
  have cw' : s_X2_panelsWell (σ 0) (upd (upd (upd (σ 3) (3 * P) (nI a)) (3 * P + 1) (nI b)) (3 * P + 2) (nI d)) (σ 4) (σ 5) = some (nI (su (wl (wnN N P a b d)) 6)) := cw
  have hs6 := su_le (g := wl (wnN N P a b d)) (b := 1) 6 (fun k _ => by rcases wl_01 (wnN N P a b d) k with e | e <;> omega)
  refine Or.inr ⟨nI (su (wl (wnN N P a b d)) 6), _, _, g', _, nI_pos (by omega), ?_, fun f9 a b d h9 hr => ?_, s3, f3', I', fun j hj => by rw [va_up_n hj, va_up_n hj, va_up_n hj]⟩
  · rw [cl_e hx, if_neg no, cl_e hy, if_neg no, cl_e hz, if_neg no, cl_e hw, if_neg no, e0, show nI (3 * P) + 1 = nI (3 * P + 1) from nI_add _ 1, show nI (3 * P) + 2 = nI (3 * P + 2) from nI_add _ 2, cl_e (write_n (by omega) (by omega)), cl_e (write_n (by omega) (by omega)), cl_e (write_n (by omega) (by omega)), cl_e cw', va_up_s]
  · rw [cl_e hx, if_neg no, cl_e hy, if_neg no, cl_e hz, if_neg no, cl_e hw, if_neg no, cl_e h9, cl_e (mN P), sto_n (by omega) (by omega), cl_e (mN P), show nI (51 + 8 * P) + 1 = nI (51 + 8 * P + 1) from nI_add _ 1, sto_n (by omega) (by omega), cl_e (mN P), show nI (51 + 8 * P) + 2 = nI (51 + 8 * P + 2) from nI_add _ 2, sto_n (by omega) (by omega), cl_e mw]
    dsimp only
    rw [cl_e hr]
