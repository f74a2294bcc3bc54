-- pure: what is asked of paint and counts
theorem about_b {d f : Nat → Int32} {N : Nat → Nat} {p k : Nat} (hd : RD d N) (hf : RM f N) (hp : p < 9) (hb : sm4 N (qp p) ≤ 81) (hk : k ≤ 7) : ∃ r : Int32, s_X2_aboutPaint d (nI p) (nI k) = some r ∧ s_X5_ofPaint f (nI (qp p)) (nI k) = some r := by
  have hq := qp_lt p
  have hin : s_X4_isBetween (nI k) 0 7 = some 1 := by
    rw [bt_l]
    rcases in_cases (nI k) 0 7 with ⟨-, e⟩ | ⟨e, -⟩
    · rcases e with e | e
      · exact absurd e (nI_pos (by omega))
      · exact absurd (show nI 7 < nI k from e) (nI_nlt (by omega) (by omega))
    · exact e
  have e0 : nI p * 4 = nI (4 * p) := (pk_mul p 4).trans (by rw [Nat.mul_comm])
  have hca := cAll hd hp
  have hma := mAll hf (q := qp p) (by omega)
  unfold s_X2_aboutPaint s_X5_ofPaint s_X2_dropsOf s_X2_hasPaint
  rw [cl_e hin, if_neg one_ne]
  by_cases h4 : 4 ≤ k
  · have h4' : (4 : Int32) ≤ nI k := nI_le (a := 4) h4 (by omega)
    rw [if_pos h4', if_pos h4']
    by_cases k4 : k = 4
    · subst k4
      exact ⟨nI (sm4 N (qp p)), by rw [if_pos (show nI 4 = 4 from rfl), cl_e hca], by rw [if_pos (show nI 4 = 4 from rfl), cl_e hma]⟩
    · have k4' : ¬ nI k = 4 := fun q => k4 ((nI_eq (a := k) (b := 4) (by omega) (by omega)).mp q)
      rw [if_neg k4', if_neg k4', cl_e hca, cl_e hma]
      rcases Nat.eq_zero_or_pos (sm4 N (qp p)) with hz | hz
      · exact ⟨-6, by rw [hz]; rfl, by rw [hz]; rfl⟩
      · have ek : nI k - 5 = nI (k - 5) := pk_sub (b := 5) (by omega)
        refine ⟨nI (stg N (qp p) (k - 5)), ?_, ?_⟩
        · rw [if_neg (show ¬ nI (sm4 N (qp p)) ≤ 0 from nI_ge (a := 0) hz (by omega)), cl_s, if_neg one_ne, ek, cl_e (cStr hd hp (by omega) hz hb)]
        · rw [if_neg (nI_ne0 hz (by omega)), ek, cl_e (mStr hf (by omega) (by omega) hz hb)]
  · have h4' : ¬ (4 : Int32) ≤ nI k := nI_ge (b := 4) (by omega) (by omega)
    rw [if_neg h4', if_neg h4']
    refine ⟨nI (N (qp p + k)), ?_, ?_⟩
    · rw [e0, nI_add, cl_e (at_n (by omega) (by omega)), cl_s, hd _ (by omega), dm_q hp (by omega)]
    · rw [nI_add, ld_n (by omega) (by omega), hf _ (by omega)]
theorem about_no {d : Nat → Int32} {x y : Int32} (h : s_X5_in y 0 7 = some 0) : s_X2_aboutPaint d x y = some (-2) := by
  unfold s_X2_aboutPaint
  rw [bt_l, cl_e h, if_pos rfl]
theorem B_brush {σ : Nat → Nat → Int32} {f : Nat → Int32} {N : Nat → Nat} {c : Nat} (h : RS σ N) (hf : RM f N) (I : Inv N c) (y : Int32) : ∃ r : Int32, s_X4_brush (σ 1) y = some r ∧ s_X5_brush f y = some r := by
  unfold s_X4_brush s_X5_brush
  rcases in_cases y 0 7 with ⟨hy, -⟩ | ⟨hy, y1, y2⟩
  · exact ⟨-2, by rw [cl_e (about_no hy)], by rw [cl_e hy, if_pos rfl]⟩
  obtain ⟨k, -, hk, rfl⟩ := rng_n (a := 0) (b := 7) (by omega) (by omega) y1 y2
  obtain ⟨r, e1, e2⟩ := about_b (p := 8) h.2.1 hf (by omega) (by have := I.q (p := 8) (by omega); omega) hk
  have e1' : s_X2_aboutPaint (σ 1) 8 (nI k) = some r := e1
  have e2' : s_X5_ofPaint f 47 (nI k) = some r := e2
  exact ⟨r, by rw [cl_e e1'], by rw [cl_e hy, if_neg one_ne, cl_e e2']⟩
theorem B_pot {σ : Nat → Nat → Int32} {f : Nat → Int32} {N : Nat → Nat} {c : Nat} (h : RS σ N) (hf : RM f N) (I : Inv N c) (x y : Int32) : ∃ r : Int32, s_X4_pot (σ 1) (σ 2) x y = some r ∧ s_X5_pot f x y = some r := by
  unfold s_X4_pot s_X5_pot s_X2_timesThinned
  rw [wi8, isPot_l]
  rcases in_cases x 0 7 with ⟨hx, -⟩ | ⟨hx, x1, x2⟩
  · exact ⟨-1, by rw [cl_e hx]; rfl, by rw [cl_e hx]; rfl⟩
  obtain ⟨p, -, hp, rfl⟩ := rng_n (a := 0) (b := 7) (by omega) (by omega) x1 x2
  have hq := qp_lt p
  have eq : qp p = 7 + 5 * p := if_pos (by omega)
  rw [cl_e hx, if_neg one_ne, cl_e hx, if_neg one_ne]
  rcases in_cases y 0 8 with ⟨hy, hy'⟩ | ⟨hy, y1, y2⟩
  · have hn8 : ¬ y = 8 := fun q => by
      subst q
      rcases hy' with e | e
      · exact absurd e (by decide)
      · exact absurd e (by decide)
    have h7 : s_X5_in y 0 7 = some 0 := by
      rcases hy' with e | e
      · exact in_lt e
      · exact in_gt (Int32.lt_trans (by decide) e)
    exact ⟨-2, by rw [if_neg hn8, cl_e (about_no h7)], by rw [cl_e hy, if_pos rfl]⟩
  obtain ⟨k, -, hk, rfl⟩ := rng_n (a := 0) (b := 8) (by omega) (by omega) y1 y2
  by_cases k8 : k = 8
  · subst k8
    refine ⟨nI (N (11 + 5 * p)), ?_, ?_⟩
    · rw [if_pos (show nI 8 = 8 from rfl), cl_e (at_n (by omega) (by omega)), cl_s, h.2.2.1 p (by omega)]
    · rw [cl_e hy, if_neg one_ne, if_pos (show nI 8 = 8 from rfl), cl_e (mP p (by omega)), show nI (qp p) + 4 = nI (11 + 5 * p) from (nI_add _ 4).trans (by rw [eq]; congr 1; omega), ld_n (by omega) (by omega), hf _ (by omega)]
  · have k8' : ¬ nI k = 8 := fun q => k8 ((nI_eq (a := k) (b := 8) (by omega) (by omega)).mp q)
    obtain ⟨r, e1, e2⟩ := about_b (p := p) h.2.1 hf (by omega) (I.q (by omega)) (k := k) (by omega)
    exact ⟨r, by rw [if_neg k8', cl_e e1], by rw [cl_e hy, if_neg one_ne, if_neg k8', cl_e (mP p (by omega)), cl_e e2]⟩
theorem B_count {σ : Nat → Nat → Int32} {f : Nat → Int32} {N : Nat → Nat} {c : Nat} (h : RS σ N) (hf : RM f N) (I : Inv N c) (hc : c < 2 ^ 30) (L K x : Int32) (g : Nat → Int32) : ∃ (r : Int32) (g' : Nat → Int32), s_X4_count K (σ 6 0) (σ 7 0) (σ 8 0) (σ 9 0) (σ 0) (σ 1) (σ 3) (σ 4) (σ 5) L x = some r ∧ s_X5_count L K f g x = some (r, g') := by
  have hc0 : s_X4_at 2 (σ 0) 0 = some (nI (N 0)) := (at_n (a := 0) (n := 2) (by omega) (by omega)).trans (by rw [h.1 0 (by omega)])
  have hc1 : s_X4_at 2 (σ 0) 1 = some (nI (N 1)) := (at_n (a := 1) (n := 2) (by omega) (by omega)).trans (by rw [h.1 1 (by omega)])
  have hl : ∀ (i : Nat), i < 99 → ∀ {β : Type} (k : Int32 → Option β), ld 99 f (nI i) k = k (nI (N i)) := fun i hi β k => by rw [ld_n hi (by omega), hf i hi]
  obtain ⟨g', hw⟩ := mPW hf I g
  by_cases q0 : x = 0
  · subst q0
    exact ⟨nI (N 0), g, by unfold s_X4_count s_X2_account; simp [hc0, cl_s], by unfold s_X5_count; rw [if_pos rfl]; exact hl 0 (by omega) _⟩
  by_cases q1 : x = 1
  · subst q1
    exact ⟨nI (N 1), g, by unfold s_X4_count s_X2_account; simp [hc1, cl_s], by unfold s_X5_count; rw [if_neg q0, if_pos rfl]; exact hl 1 (by omega) _⟩
  by_cases q2 : x = 2
  · subst q2
    exact ⟨nI (N 2), g, by unfold s_X4_count s_X2_account; simp [h.2.2.2.2.2.2.1, cl_s], by unfold s_X5_count; rw [if_neg q0, if_neg q1, if_pos rfl]; exact hl 2 (by omega) _⟩
  by_cases q3 : x = 3
  · subst q3
    exact ⟨_, g, by unfold s_X4_count s_X2_account; simp [cInP h.2.1, cl_s]; rfl, by unfold s_X5_count; rw [if_neg q0, if_neg q1, if_neg q2, if_pos rfl, cl_e (mInP hf)]⟩
  by_cases q4 : x = 4
  · subst q4
    exact ⟨nI (N 3), g, by unfold s_X4_count s_X2_account; simp [h.2.2.2.2.2.2.2.1, cl_s], by unfold s_X5_count; rw [if_neg q0, if_neg q1, if_neg q2, if_neg q3, if_pos rfl]; exact hl 3 (by omega) _⟩
  by_cases q5 : x = 5
  · subst q5
    exact ⟨nI (N 4), g, by unfold s_X4_count s_X2_account; simp [h.2.2.2.2.2.2.2.2.1, cl_s], by unfold s_X5_count; rw [if_neg q0, if_neg q1, if_neg q2, if_neg q3, if_neg q4, if_pos rfl]; exact hl 4 (by omega) _⟩
  by_cases q6 : x = 6
  · subst q6
    exact ⟨_, g, by unfold s_X4_count s_X2_account; simp [cPP I hc h.2.2.2.2.2.1, cl_s]; rfl, by unfold s_X5_count; rw [if_neg q0, if_neg q1, if_neg q2, if_neg q3, if_neg q4, if_neg q5, if_pos rfl, cl_e (mPP hf I)]⟩
  by_cases q7 : x = 7
  · subst q7
    exact ⟨_, g', by unfold s_X4_count s_X2_account; simp [cPW h I hc, cl_s]; rfl, by unfold s_X5_count; rw [if_neg q0, if_neg q1, if_neg q2, if_neg q3, if_neg q4, if_neg q5, if_neg q6, if_pos rfl, cl_e hw]⟩
  by_cases q8 : x = 8
  · subst q8
    exact ⟨nI (N 5), g, by unfold s_X4_count s_X2_account; simp [cSk I h.2.2.2.2.2.1, cl_s], by unfold s_X5_count; rw [if_neg q0, if_neg q1, if_neg q2, if_neg q3, if_neg q4, if_neg q5, if_neg q6, if_neg q7, if_pos rfl]; exact hl 5 (by omega) _⟩
  by_cases q9 : x = 9
  · subst q9
    exact ⟨nI (N 6), g, by unfold s_X4_count s_X2_account; simp [h.2.2.2.2.2.2.2.2.2, cl_s], by unfold s_X5_count; rw [if_neg q0, if_neg q1, if_neg q2, if_neg q3, if_neg q4, if_neg q5, if_neg q6, if_neg q7, if_neg q8, if_pos rfl]; exact hl 6 (by omega) _⟩
  by_cases qa : x = 10
  · subst qa
    exact ⟨L, g, by unfold s_X4_count s_X1_length; rw [if_pos rfl, cl_s], by unfold s_X5_count; rw [if_neg q0, if_neg q1, if_neg q2, if_neg q3, if_neg q4, if_neg q5, if_neg q6, if_neg q7, if_neg q8, if_neg q9, if_pos rfl]⟩
  by_cases qb : x = 11
  · subst qb
    exact ⟨K, g, by unfold s_X4_count; rw [if_neg qa, if_pos rfl], by unfold s_X5_count; rw [if_neg q0, if_neg q1, if_neg q2, if_neg q3, if_neg q4, if_neg q5, if_neg q6, if_neg q7, if_neg q8, if_neg q9, if_neg qa, if_pos rfl]⟩
  · refine ⟨-2, g, ?_, ?_⟩
    · unfold s_X4_count s_X2_account
      rw [if_neg qa, if_neg qb, if_neg q0, if_neg q1, if_neg q2, if_neg q3, if_neg q4, if_neg q5, if_neg q6, if_neg q7, if_neg q8, if_neg q9]
      rfl
    · unfold s_X5_count
      rw [if_neg q0, if_neg q1, if_neg q2, if_neg q3, if_neg q4, if_neg q5, if_neg q6, if_neg q7, if_neg q8, if_neg q9, if_neg qa, if_neg qb]
