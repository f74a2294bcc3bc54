theorem rgL_le (l : Nat → Nat) (P : Nat) : ∀ k, rgL l P k ≤ k
  | 0 => Nat.le_refl 0
  | k + 1 => by
    have := rgL_le l P k
    unfold rgL
    split <;> omega
theorem rn_rg (N : Nat → Nat) {P : Nat} (hP : P < 6) : ∀ k, su (rn N P) k = rgL (lbf (ch N)) P k
  | 0 => rfl
  | k + 1 => by
    have ih := rn_rg N hP k
    show su (rn N P) k + rn N P k = _
    unfold rgL
    rw [ih]
    have e := lbf_eq (ch N) ((P + (k + 1)) % 6) ((P + k) % 6) (Nat.mod_lt _ (by omega)) (Nat.mod_lt _ (by omega))
    unfold rn
    by_cases h : ch N ((P + (k + 1)) % 6) = ch N ((P + k) % 6)
    · rw [if_pos h, if_pos (e.mp h)]
    · rw [if_neg h, if_neg (fun q => h (e.mpr q))]
theorem near_min {N : Nat → Nat} {c P : Nat} (I : Inv N c) (hP : P < 6) : ∀ i, i ≤ 8 → ∀ q, q < i → 0 < po N q → (near N P i).2 ≤ dp N P q ∧ ∀ j, j < 8 → (near N P i).1 = nI j → dp N P q = (near N P i).2 → j ≤ q
  | 0, _, q, hq, _ => absurd hq (by omega)
  | i + 1, hi, q, hq, h0 => by
    have ih := near_min I hP i (by omega)
    obtain ⟨-, ok⟩ := near_ok I hP i
    unfold near
    by_cases hz : po N i = 0
    · rw [if_pos hz]
      have hne : q ≠ i := fun e => by rw [e] at h0; omega
      exact ih q (by omega) h0
    · rw [if_neg hz]
      by_cases hle : (near N P i).2 ≤ dp N P i
      · rw [if_pos hle]
        by_cases e : q = i
        · subst e
          refine ⟨hle, fun j hj ej _ => ?_⟩
          rcases ok with e1 | ⟨j', hj', e1, -, -⟩
          · exact absurd (show nI j < 0 by rw [← ej, e1]; decide) (nI_pos (by omega))
          · have : j = j' := (nI_eq (by omega) (by omega)).mp (ej.symm.trans e1)
            omega
        · exact ih q (by omega) h0
      · rw [if_neg hle]
        by_cases e : q = i
        · subst e
          refine ⟨Nat.le_refl _, fun j hj ej _ => ?_⟩
          have : q = j := (nI_eq (by omega) (by omega)).mp ej
          omega
        · obtain ⟨a, b⟩ := ih q (by omega) h0
          refine ⟨by show dp N P i ≤ _; omega, fun j hj ej e2 => ?_⟩
          have e3 : dp N P q = dp N P i := e2
          omega
theorem near_j {N : Nat → Nat} {c P : Nat} (I : Inv N c) (hP : P < 6) (h0 : ¬ su (po N) 8 = 0) : ∃ j, j < 8 ∧ ch N P = nI j ∧ 0 < po N j ∧ (near N P 8).2 = dp N P j ∧ ∀ q, q < 8 → 0 < po N q → dp N P j ≤ dp N P q ∧ (dp N P q = dp N P j → j ≤ q) := by
  obtain ⟨e, -⟩ := near_emp I hP 8 (by omega)
  obtain ⟨-, ok⟩ := near_ok I hP 8
  rcases ok with q | ⟨j, hj, e1, h1, e2⟩
  · exact absurd (e.mp q) h0
  · refine ⟨j, hj, e1, h1, e2, fun q hq hq0 => ?_⟩
    obtain ⟨a, b⟩ := near_min I hP 8 (by omega) q hq hq0
    rw [e2] at a b
    exact ⟨a, b j hj e1⟩
theorem n_0 {x : Ab} {c : Nat} (I : Inv x.1 c) (hc : c ≤ 2 ^ 28) {p : Nat} (hp : p < 6) : a_nearest x (nI p) 0 = some (ch x.1 p) := by
  have h := a_nearest_n I hc hp (k := 0) (by omega)
  unfold nearv at h
  by_cases e : ch x.1 p = -6
  · rw [if_pos e] at h
    rw [e]
    exact h
  · rw [if_neg e, if_pos (show (0 : Nat) = 0 from rfl)] at h
    exact h
theorem n_1 {x : Ab} {c : Nat} (I : Inv x.1 c) (hc : c ≤ 2 ^ 28) {p j : Nat} (hp : p < 6) (hj : j < 8) (e : ch x.1 p = nI j) : a_nearest x (nI p) 1 = some (nI (near x.1 p 8).2) := by
  have h := a_nearest_n I hc hp (k := 1) (by omega)
  unfold nearv at h
  rw [if_neg (show ¬ ch x.1 p = -6 from fun q => absurd (show nI j < 0 by rw [← e, q]; decide) (nI_pos (by omega))), if_neg (show ¬ (1 : Nat) = 0 by omega)] at h
  exact h
theorem r_n {x : Ab} {c : Nat} (I : Inv x.1 c) (hc : c ≤ 2 ^ 28) {p : Nat} (hp : p < 6) (h0 : ¬ su (po x.1) 8 = 0) : a_rinses x (nI p) = some (nI (rgL (lbf (ch x.1)) p 5)) := by
  have h := a_rinses_n I hc hp
  unfold rinsesv at h
  rw [if_neg h0, rn_rg x.1 hp 5] at h
  exact h
theorem o_n {x : Ab} {c : Nat} (I : Inv x.1 c) (hc : c ≤ 2 ^ 28) {p : Nat} (hp : p < 6) (h0 : ¬ su (po x.1) 8 = 0) : a_bestOrder x (nI p) = some (nI ((cou (lbf (ch x.1)) 6 0 []).getD p 0)) := by
  have h := a_bestOrder_n I hc hp
  unfold orderv at h
  rw [if_neg h0] at h
  exact h
theorem n5 {x : Ab} {c P j m : Nat} (I : Inv x.1 c) (hc : c ≤ 2 ^ 28) (hP : P < 6) (hj : j < 8) (hm : m ≤ 300) (hmin : ∀ q, q < 8 → 0 < po x.1 q → m ≤ dp x.1 P q ∧ (dp x.1 P q = m → j ≤ q)) {kk : Unit → Option Int32} (fu : Nat) : ∀ (n q : Nat), q + n = 8 → s_L_areNear_L5 x (nI P) (nI m) (nI j) kk (fu + n + 1) (nI q) = kk () := by
  intro n
  induction n with
  | zero =>
    intro q hq
    show s_L_areNear_B5 x (nI P) (nI m) (nI j) kk _ (nI q) = _
    unfold s_L_areNear_B5
    rw [if_pos (show (8 : Int32) ≤ nI q from nI_le (a := 8) (by omega) (by omega))]
  | succ n ih =>
    intro q hq
    have h81 := sm4_81 (p := q) I (by omega)
    have hd := dp_le (p := q) I hP
    refine Eq.trans ?_ (ih (q + 1) (by omega))
    show s_L_areNear_B5 x (nI P) (nI m) (nI j) kk (s_L_areNear_L5 x (nI P) (nI m) (nI j) kk (fu + n + 1)) (nI q) = _
    unfold s_L_areNear_B5
    rw [if_neg (show ¬ (8 : Int32) ≤ nI q from nI_ge (b := 8) (by omega) (by omega)), cl_e (p_4 I hc (by omega))]
    by_cases h0 : sm4 x.1 (qp q) = 0
    · rw [h0, if_pos nI_0, nm_e', nI_1]
    · have hpo : 0 < po x.1 q := by show 0 < sm4 x.1 (qp q); omega
      obtain ⟨a, b⟩ := hmin q (by omega) hpo
      rw [if_neg (nI_ne0 (by omega) (by omega)), cl_e (far_n I hc hP (by omega) hpo)]
      by_cases hlt : m < dp x.1 P q
      · rw [if_pos (nI_lt hlt (by omega)), nm_e', nI_1]
      · have e : dp x.1 P q = m := by omega
        have hjq := b e
        rw [if_neg (nI_nlt (by omega) (by omega)), cl_e (far_n I hc hP (by omega) hpo), e, if_pos (show nI m = nI m from rfl), if_neg (nI_nlt hjq (by omega)), nm_e', nI_1]
theorem n3 {x : Ab} {c : Nat} (I : Inv x.1 c) (hc : c ≤ 2 ^ 28) (h0 : ¬ su (po x.1) 8 = 0) {kk : Int32 × Int32 × Int32 → Option Int32} (fu : Nat) : ∀ (n i : Nat), i + n = 6 → s_L_areNear_L3 x kk (fu + n + 1) (nI (mkW (cou (lbf (ch x.1)) 6 0 []) i), nI (rsL (lbf (ch x.1)) i), nI (bsW (lbf (ch x.1)) (cou (lbf (ch x.1)) 6 0 []) i), nI i) = kk (nI (mkW (cou (lbf (ch x.1)) 6 0 []) 6), nI (rsL (lbf (ch x.1)) 6), nI (bsW (lbf (ch x.1)) (cou (lbf (ch x.1)) 6 0 []) 6)) := by
  obtain ⟨w1, w2, w3, w4, w5⟩ := okW_f (okW_c (ch x.1))
  intro n
  induction n with
  | zero =>
    intro i hi
    have e : i = 6 := by omega
    subst e
    show s_L_areNear_B3 x kk _ _ _ _ (nI 6) = _
    unfold s_L_areNear_B3
    rw [if_pos (show (6 : Int32) ≤ nI 6 from nI_le (a := 6) (by omega) (by omega))]
  | succ n ih =>
    intro i hi
    have h6 : i < 6 := by omega
    obtain ⟨j, hj, ej, hpo, e2, hmin⟩ := near_j I h6 h0
    have h81 := sm4_81 (p := j) I (by omega)
    have hd := dp_le (p := j) I h6
    obtain ⟨wv, wm⟩ := w1 i h6
    have hpo' : 0 < sm4 x.1 (qp j) := hpo
    refine Eq.trans ?_ (ih (i + 1) (by omega))
    show s_L_areNear_B3 x kk (s_L_areNear_L3 x kk (fu + n + 1)) (nI (mkW (cou (lbf (ch x.1)) 6 0 []) i)) (nI (rsL (lbf (ch x.1)) i)) (nI (bsW (lbf (ch x.1)) (cou (lbf (ch x.1)) 6 0 []) i)) (nI i) = _
    unfold s_L_areNear_B3
    rw [if_neg (show ¬ (6 : Int32) ≤ nI i from nI_ge (b := 6) (by omega) (by omega)), cl_e (n_0 I hc h6), cl_e (n_1 I hc h6 hj ej), ej, cl_e (p_4 I hc hj), if_neg (nI_nle hpo' (by omega)), cl_e (far_n I hc h6 hj hpo), e2, if_pos (show nI (dp x.1 i j) = nI (dp x.1 i j) from rfl)]
    refine Eq.trans (n5 I hc h6 hj hd hmin 991 8 0 (by omega)) ?_
    unfold s_L_areNear_X5
    have em : nI (mkW (cou (lbf (ch x.1)) 6 0 []) i) ||| ((1 : Int32) <<< (nI ((cou (lbf (ch x.1)) 6 0 []).getD i 0) &&& 31)) = nI (mkW (cou (lbf (ch x.1)) 6 0 []) (i + 1)) := (bit_o6 ⟨_, wm⟩ ⟨_, wv⟩).1
    rw [cl_e (o_n I hc h6 h0), if_neg (nI_pos (by omega)), if_neg (show ¬ (6 : Int32) ≤ nI ((cou (lbf (ch x.1)) 6 0 []).getD i 0) from nI_ge (b := 6) wv (by omega)), em, nm_e']
    have a0 : ∀ n : Nat, nI n + 0 = nI (n + 0) := fun n => nI_add n 0
    by_cases i0 : i = 0
    · subst i0
      have z1 : rsL (lbf (ch x.1)) (0 + 1) = rsL (lbf (ch x.1)) 0 + 0 := rfl
      have z2 : bsW (lbf (ch x.1)) (cou (lbf (ch x.1)) 6 0 []) (0 + 1) = bsW (lbf (ch x.1)) (cou (lbf (ch x.1)) 6 0 []) 0 + 0 := rfl
      rw [if_pos (show nI 0 ≤ 0 by decide), nm_e', if_pos (show nI 0 ≤ 0 by decide), nm_e', nm_e', nI_1, z1, z2, a0, a0]
    · have hi1 : i - 1 < 6 := by omega
      obtain ⟨wv1, -⟩ := w1 (i - 1) hi1
      have es : nI i - 1 = nI (i - 1) := pk_sub (b := 1) (by omega)
      have q1 := lbf_eq (ch x.1) i (i - 1) h6 hi1
      have q2 := lbf_eq (ch x.1) ((cou (lbf (ch x.1)) 6 0 []).getD i 0) ((cou (lbf (ch x.1)) 6 0 []).getD (i - 1) 0) wv wv1
      have z1 : rsL (lbf (ch x.1)) (i + 1) = rsL (lbf (ch x.1)) i + (if lbf (ch x.1) i = lbf (ch x.1) (i - 1) then 0 else 1) := by
        show rsL (lbf (ch x.1)) i + _ = _
        rw [if_neg i0]
      have z2 : bsW (lbf (ch x.1)) (cou (lbf (ch x.1)) 6 0 []) (i + 1) = bsW (lbf (ch x.1)) (cou (lbf (ch x.1)) 6 0 []) i + (if lbf (ch x.1) ((cou (lbf (ch x.1)) 6 0 []).getD i 0) = lbf (ch x.1) ((cou (lbf (ch x.1)) 6 0 []).getD (i - 1) 0) then 0 else 1) := by
        show bsW (lbf (ch x.1)) (cou (lbf (ch x.1)) 6 0 []) i + _ = _
        rw [if_neg i0]
      have nl : ¬ nI i ≤ 0 := nI_nle (by omega) (by omega)
      rw [z1, z2, if_neg nl, cl_e (n_0 I hc h6), es, cl_e (n_0 I hc hi1)]
      by_cases a1 : ch x.1 i = ch x.1 (i - 1)
      · rw [if_pos a1, if_pos (q1.mp a1), nm_e', if_neg nl, cl_e (n_0 I hc wv), cl_e (o_n I hc hi1 h0), cl_e (n_0 I hc wv1)]
        by_cases a2 : ch x.1 ((cou (lbf (ch x.1)) 6 0 []).getD i 0) = ch x.1 ((cou (lbf (ch x.1)) 6 0 []).getD (i - 1) 0)
        · rw [if_pos a2, if_pos (q2.mp a2), nm_e', nm_e', nI_1, a0, a0]
        · rw [if_neg a2, if_neg (fun q => a2 (q2.mpr q)), nm_e', nm_e', nI_1, nI_1, a0]
      · rw [if_neg a1, if_neg (fun q => a1 (q1.mpr q)), nm_e', if_neg nl, cl_e (n_0 I hc wv), cl_e (o_n I hc hi1 h0), cl_e (n_0 I hc wv1), nI_1]
        by_cases a2 : ch x.1 ((cou (lbf (ch x.1)) 6 0 []).getD i 0) = ch x.1 ((cou (lbf (ch x.1)) 6 0 []).getD (i - 1) 0)
        · rw [if_pos a2, if_pos (q2.mp a2), nm_e', nm_e', nI_1, a0]
        · rw [if_neg a2, if_neg (fun q => a2 (q2.mpr q)), nm_e', nm_e', nI_1, nI_1]
theorem n4 {x : Ab} {c b : Nat} (I : Inv x.1 c) (hc : c ≤ 2 ^ 28) (h0 : ¬ su (po x.1) 8 = 0) (hb : ∀ P, P < 6 → b ≤ rgL (lbf (ch x.1)) P 5) {kk : Unit → Option Int32} (fu : Nat) : ∀ (n P : Nat), P + n = 6 → s_L_areNear_L4 x (nI b) kk (fu + n + 1) (nI P) = kk () := by
  intro n
  induction n with
  | zero =>
    intro P hP
    show s_L_areNear_B4 x (nI b) kk _ (nI P) = _
    unfold s_L_areNear_B4
    rw [if_pos (show (6 : Int32) ≤ nI P from nI_le (a := 6) (by omega) (by omega))]
  | succ n ih =>
    intro P hP
    have h6 : P < 6 := by omega
    have hr := rgL_le (lbf (ch x.1)) P 5
    have hb' := hb P h6
    refine Eq.trans ?_ (ih (P + 1) (by omega))
    show s_L_areNear_B4 x (nI b) kk (s_L_areNear_L4 x (nI b) kk (fu + n + 1)) (nI P) = _
    unfold s_L_areNear_B4
    rw [if_neg (show ¬ (6 : Int32) ≤ nI P from nI_ge (b := 6) (by omega) (by omega)), cl_e (r_n I hc h6 h0), if_neg (nI_nlt hb' (by omega)), cl_e (r_n I hc h6 h0), if_neg (show ¬ (6 : Int32) ≤ nI (rgL (lbf (ch x.1)) P 5) from nI_ge (b := 6) (by omega) (by omega)), nm_e', nI_1]
theorem near_okS {x : Ab} {c : Nat} (I : Inv x.1 c) (hc : c ≤ 2 ^ 28) : s_L_areNear x = some 1 := by
  have hsu := su_le (g := po x.1) (b := 81) 8 (fun k hk => I.q (by omega))
  unfold s_L_areNear
  rw [cl_e (c_3 I hc)]
  by_cases h0 : su (po x.1) 8 = 0
  · have e1 : a_bestOrder x 0 = some (-6) := by
      have h := a_bestOrder_n I hc (p := 0) (by omega)
      unfold orderv at h
      rw [if_pos h0] at h
      exact h
    have e2 : a_rinses x 0 = some (-6) := by
      have h := a_rinses_n I hc (p := 0) (by omega)
      unfold rinsesv at h
      rw [if_pos h0] at h
      exact h
    have e3 : a_nearest x 0 0 = some (-6) := by
      have h := n_0 I hc (p := 0) (by omega)
      have e := (near_emp I (P := 0) (by omega) 8 (by omega)).1.mpr h0
      rw [show ch x.1 0 = -6 from e] at h
      exact h
    rw [h0, if_pos (show nI 0 ≤ 0 by decide), cl_e e1, if_pos (show (-6 : Int32) = -6 from rfl), cl_e e2, if_pos (show (-6 : Int32) = -6 from rfl), cl_e e3, if_pos (show (-6 : Int32) = -6 from rfl)]
    rfl
  · obtain ⟨w1, w2, w3, w4, w5⟩ := okW_f (okW_c (ch x.1))
    rw [if_neg (nI_nle (by omega) (by omega))]
    refine Eq.trans (n3 I hc h0 993 6 0 (by omega)) ?_
    unfold s_L_areNear_X3
    dsimp only
    refine Eq.trans (n4 I hc h0 w4 993 6 0 (by omega)) ?_
    unfold s_L_areNear_X4
    have e1 : a_rinses x 0 = some (nI (rgL (lbf (ch x.1)) 0 5)) := r_n I hc (p := 0) (by omega) h0
    have e2 : a_bestOrder x 0 = some (nI ((cou (lbf (ch x.1)) 6 0 []).getD 0 0)) := o_n I hc (p := 0) (by omega) h0
    rw [w3, if_pos (show nI 63 = 63 from rfl), cl_e e1, w5, if_pos (show nI (rgL (lbf (ch x.1)) 0 5) = nI (rgL (lbf (ch x.1)) 0 5) from rfl), cl_e e2, w2, if_pos nI_0]
