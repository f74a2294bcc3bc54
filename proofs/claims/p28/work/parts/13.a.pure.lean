-- what the law asks, by numbers
theorem p_0 {x : Ab} {c : Nat} (I : Inv x.1 c) (hc : c ≤ 2 ^ 28) {p : Nat} (hp : p < 8) : a_pot x (nI p) 0 = some (nI (x.1 (qp p))) := by
  have h := a_pot_n I hc hp (k := 0) (by omega)
  unfold potv at h
  rw [if_pos (show 0 < 4 by omega)] at h
  exact h
theorem p_1 {x : Ab} {c : Nat} (I : Inv x.1 c) (hc : c ≤ 2 ^ 28) {p : Nat} (hp : p < 8) : a_pot x (nI p) 1 = some (nI (x.1 (qp p + 1))) := by
  have h := a_pot_n I hc hp (k := 1) (by omega)
  unfold potv at h
  rw [if_pos (show 1 < 4 by omega)] at h
  exact h
theorem p_2 {x : Ab} {c : Nat} (I : Inv x.1 c) (hc : c ≤ 2 ^ 28) {p : Nat} (hp : p < 8) : a_pot x (nI p) 2 = some (nI (x.1 (qp p + 2))) := by
  have h := a_pot_n I hc hp (k := 2) (by omega)
  unfold potv at h
  rw [if_pos (show 2 < 4 by omega)] at h
  exact h
theorem p_3 {x : Ab} {c : Nat} (I : Inv x.1 c) (hc : c ≤ 2 ^ 28) {p : Nat} (hp : p < 8) : a_pot x (nI p) 3 = some (nI (x.1 (qp p + 3))) := by
  have h := a_pot_n I hc hp (k := 3) (by omega)
  unfold potv at h
  rw [if_pos (show 3 < 4 by omega)] at h
  exact h
theorem p_k {x : Ab} {c : Nat} (I : Inv x.1 c) (hc : c ≤ 2 ^ 28) {p k : Nat} (hp : p < 8) (hk : k < 4) : a_pot x (nI p) (nI k) = some (nI (x.1 (qp p + k))) := by
  have h := a_pot_n I hc hp (k := k) (by omega)
  unfold potv at h
  rw [if_pos hk] at h
  exact h
theorem p_4 {x : Ab} {c : Nat} (I : Inv x.1 c) (hc : c ≤ 2 ^ 28) {p : Nat} (hp : p < 8) : a_pot x (nI p) 4 = some (nI (sm4 x.1 (qp p))) := by
  have h := a_pot_n I hc hp (k := 4) (by omega)
  unfold potv at h
  rw [if_neg (show ¬ 4 < 4 by omega), if_pos (show (4 : Nat) = 4 from rfl)] at h
  exact h
theorem p_s {x : Ab} {c : Nat} (I : Inv x.1 c) (hc : c ≤ 2 ^ 28) {p k : Nat} (hp : p < 8) (hk : k < 3) : a_pot x (nI p) (nI (5 + k)) = some (if sm4 x.1 (qp p) = 0 then -6 else nI (stg x.1 (qp p) k)) := by
  have h := a_pot_n I hc hp (k := 5 + k) (by omega)
  unfold potv at h
  rw [if_neg (show ¬ 5 + k < 4 by omega), if_neg (show ¬ 5 + k = 4 by omega), if_neg (show ¬ 5 + k = 8 by omega), show 5 + k - 5 = k by omega] at h
  exact h
theorem p_5 {x : Ab} {c : Nat} (I : Inv x.1 c) (hc : c ≤ 2 ^ 28) {p : Nat} (hp : p < 8) (h0 : 0 < sm4 x.1 (qp p)) : a_pot x (nI p) 5 = some (nI (stg x.1 (qp p) 0)) := by
  have h := p_s I hc hp (k := 0) (by omega)
  rw [if_neg (show ¬ sm4 x.1 (qp p) = 0 by omega)] at h
  exact h
theorem p_6 {x : Ab} {c : Nat} (I : Inv x.1 c) (hc : c ≤ 2 ^ 28) {p : Nat} (hp : p < 8) (h0 : 0 < sm4 x.1 (qp p)) : a_pot x (nI p) 6 = some (nI (stg x.1 (qp p) 1)) := by
  have h := p_s I hc hp (k := 1) (by omega)
  rw [if_neg (show ¬ sm4 x.1 (qp p) = 0 by omega)] at h
  exact h
theorem p_7 {x : Ab} {c : Nat} (I : Inv x.1 c) (hc : c ≤ 2 ^ 28) {p : Nat} (hp : p < 8) (h0 : 0 < sm4 x.1 (qp p)) : a_pot x (nI p) 7 = some (nI (stg x.1 (qp p) 2)) := by
  have h := p_s I hc hp (k := 2) (by omega)
  rw [if_neg (show ¬ sm4 x.1 (qp p) = 0 by omega)] at h
  exact h
theorem p_8 {x : Ab} {c : Nat} (I : Inv x.1 c) (hc : c ≤ 2 ^ 28) {p : Nat} (hp : p < 8) : a_pot x (nI p) 8 = some (nI (x.1 (11 + 5 * p))) := by
  have h := a_pot_n I hc hp (k := 8) (by omega)
  unfold potv at h
  rw [if_neg (show ¬ 8 < 4 by omega), if_neg (show ¬ (8 : Nat) = 4 by omega), if_pos (show (8 : Nat) = 8 from rfl)] at h
  exact h
theorem b_0 {x : Ab} {c : Nat} (I : Inv x.1 c) (hc : c ≤ 2 ^ 28) : a_brush x 0 = some (nI (x.1 (47))) := by
  have h := a_brush_n I hc (k := 0) (by omega)
  unfold potv at h
  rw [if_pos (show 0 < 4 by omega)] at h
  exact h
theorem b_1 {x : Ab} {c : Nat} (I : Inv x.1 c) (hc : c ≤ 2 ^ 28) : a_brush x 1 = some (nI (x.1 (47 + 1))) := by
  have h := a_brush_n I hc (k := 1) (by omega)
  unfold potv at h
  rw [if_pos (show 1 < 4 by omega)] at h
  exact h
theorem b_2 {x : Ab} {c : Nat} (I : Inv x.1 c) (hc : c ≤ 2 ^ 28) : a_brush x 2 = some (nI (x.1 (47 + 2))) := by
  have h := a_brush_n I hc (k := 2) (by omega)
  unfold potv at h
  rw [if_pos (show 2 < 4 by omega)] at h
  exact h
theorem b_3 {x : Ab} {c : Nat} (I : Inv x.1 c) (hc : c ≤ 2 ^ 28) : a_brush x 3 = some (nI (x.1 (47 + 3))) := by
  have h := a_brush_n I hc (k := 3) (by omega)
  unfold potv at h
  rw [if_pos (show 3 < 4 by omega)] at h
  exact h
theorem b_4 {x : Ab} {c : Nat} (I : Inv x.1 c) (hc : c ≤ 2 ^ 28) : a_brush x 4 = some (nI (sm4 x.1 47)) := by
  have h := a_brush_n I hc (k := 4) (by omega)
  unfold potv at h
  rw [if_neg (show ¬ 4 < 4 by omega), if_pos (show (4 : Nat) = 4 from rfl)] at h
  exact h
theorem b_5 {x : Ab} {c : Nat} (I : Inv x.1 c) (hc : c ≤ 2 ^ 28) : a_brush x 5 = some (if sm4 x.1 47 = 0 then -6 else nI (stg x.1 47 0)) := by
  have h := a_brush_n I hc (k := 5) (by omega)
  unfold potv at h
  rw [if_neg (show ¬ 5 < 4 by omega), if_neg (show ¬ (5 : Nat) = 4 by omega), if_neg (show ¬ (5 : Nat) = 8 by omega)] at h
  exact h
theorem l_0 {x : Ab} {c : Nat} (I : Inv x.1 c) (hc : c ≤ 2 ^ 28) {p : Nat} (hp : p < 6) : a_panel x (nI p) 0 = some (nI (x.1 (51 + 8 * p))) := by
  have h := a_panel_n I hc hp (k := 0) (by omega)
  unfold panelv at h
  rw [if_pos (show 0 < 3 by omega), show 51 + 8 * p + 0 = 51 + 8 * p by omega] at h
  exact h
theorem l_1 {x : Ab} {c : Nat} (I : Inv x.1 c) (hc : c ≤ 2 ^ 28) {p : Nat} (hp : p < 6) : a_panel x (nI p) 1 = some (nI (x.1 (52 + 8 * p))) := by
  have h := a_panel_n I hc hp (k := 1) (by omega)
  unfold panelv at h
  rw [if_pos (show 1 < 3 by omega), show 51 + 8 * p + 1 = 52 + 8 * p by omega] at h
  exact h
theorem l_2 {x : Ab} {c : Nat} (I : Inv x.1 c) (hc : c ≤ 2 ^ 28) {p : Nat} (hp : p < 6) : a_panel x (nI p) 2 = some (nI (x.1 (53 + 8 * p))) := by
  have h := a_panel_n I hc hp (k := 2) (by omega)
  unfold panelv at h
  rw [if_pos (show 2 < 3 by omega), show 51 + 8 * p + 2 = 53 + 8 * p by omega] at h
  exact h
theorem l_3 {x : Ab} {c : Nat} (I : Inv x.1 c) (hc : c ≤ 2 ^ 28) {p : Nat} (hp : p < 6) : a_panel x (nI p) 3 = some (if x.1 (54 + 8 * p) = 0 then -6 else nI (x.1 (55 + 8 * p))) := by
  have h := a_panel_n I hc hp (k := 3) (by omega)
  unfold panelv at h
  rw [if_neg (show ¬ 3 < 3 by omega), if_neg (show ¬ (3 : Nat) = 7 by omega), if_neg (show ¬ (3 : Nat) = 8 by omega), if_neg (show ¬ (3 : Nat) = 6 by omega), show 55 + 8 * p + (3 - 3) = 55 + 8 * p by omega] at h
  exact h
theorem l_4 {x : Ab} {c : Nat} (I : Inv x.1 c) (hc : c ≤ 2 ^ 28) {p : Nat} (hp : p < 6) : a_panel x (nI p) 4 = some (if x.1 (54 + 8 * p) = 0 then -6 else nI (x.1 (56 + 8 * p))) := by
  have h := a_panel_n I hc hp (k := 4) (by omega)
  unfold panelv at h
  rw [if_neg (show ¬ 4 < 3 by omega), if_neg (show ¬ (4 : Nat) = 7 by omega), if_neg (show ¬ (4 : Nat) = 8 by omega), if_neg (show ¬ (4 : Nat) = 6 by omega), show 55 + 8 * p + (4 - 3) = 56 + 8 * p by omega] at h
  exact h
theorem l_5 {x : Ab} {c : Nat} (I : Inv x.1 c) (hc : c ≤ 2 ^ 28) {p : Nat} (hp : p < 6) : a_panel x (nI p) 5 = some (if x.1 (54 + 8 * p) = 0 then -6 else nI (x.1 (57 + 8 * p))) := by
  have h := a_panel_n I hc hp (k := 5) (by omega)
  unfold panelv at h
  rw [if_neg (show ¬ 5 < 3 by omega), if_neg (show ¬ (5 : Nat) = 7 by omega), if_neg (show ¬ (5 : Nat) = 8 by omega), if_neg (show ¬ (5 : Nat) = 6 by omega), show 55 + 8 * p + (5 - 3) = 57 + 8 * p by omega] at h
  exact h
theorem l_6 {x : Ab} {c : Nat} (I : Inv x.1 c) (hc : c ≤ 2 ^ 28) {p : Nat} (hp : p < 6) : a_panel x (nI p) 6 = some (if x.1 (54 + 8 * p) = 0 then -6 else nI (dst x.1 p (x.1 (55 + 8 * p)) (x.1 (56 + 8 * p)) (x.1 (57 + 8 * p)))) := by
  have h := a_panel_n I hc hp (k := 6) (by omega)
  unfold panelv at h
  rw [if_neg (show ¬ 6 < 3 by omega), if_neg (show ¬ (6 : Nat) = 7 by omega), if_neg (show ¬ (6 : Nat) = 8 by omega), if_pos (show (6 : Nat) = 6 from rfl)] at h
  exact h
theorem l_7 {x : Ab} {c : Nat} (I : Inv x.1 c) (hc : c ≤ 2 ^ 28) {p : Nat} (hp : p < 6) : a_panel x (nI p) 7 = some (nI (wl x.1 p)) := by
  have h := a_panel_n I hc hp (k := 7) (by omega)
  unfold panelv at h
  rw [if_neg (show ¬ 7 < 3 by omega), if_pos (show (7 : Nat) = 7 from rfl)] at h
  exact h
theorem l_8 {x : Ab} {c : Nat} (I : Inv x.1 c) (hc : c ≤ 2 ^ 28) {p : Nat} (hp : p < 6) : a_panel x (nI p) 8 = some (nI (x.1 (58 + 8 * p))) := by
  have h := a_panel_n I hc hp (k := 8) (by omega)
  unfold panelv at h
  rw [if_neg (show ¬ 8 < 3 by omega), if_neg (show ¬ (8 : Nat) = 7 by omega), if_pos (show (8 : Nat) = 8 from rfl)] at h
  exact h
theorem c_0 {x : Ab} {c : Nat} (I : Inv x.1 c) (hc : c ≤ 2 ^ 28) : a_count x 0 = some (nI (x.1 0)) := a_count_n I hc (k := 0) (by omega)
theorem c_1 {x : Ab} {c : Nat} (I : Inv x.1 c) (hc : c ≤ 2 ^ 28) : a_count x 1 = some (nI (x.1 1)) := a_count_n I hc (k := 1) (by omega)
theorem c_2 {x : Ab} {c : Nat} (I : Inv x.1 c) (hc : c ≤ 2 ^ 28) : a_count x 2 = some (nI (x.1 2)) := a_count_n I hc (k := 2) (by omega)
theorem c_3 {x : Ab} {c : Nat} (I : Inv x.1 c) (hc : c ≤ 2 ^ 28) : a_count x 3 = some (nI (su (po x.1) 8)) := a_count_n I hc (k := 3) (by omega)
theorem c_4 {x : Ab} {c : Nat} (I : Inv x.1 c) (hc : c ≤ 2 ^ 28) : a_count x 4 = some (nI (x.1 3)) := a_count_n I hc (k := 4) (by omega)
theorem c_5 {x : Ab} {c : Nat} (I : Inv x.1 c) (hc : c ≤ 2 ^ 28) : a_count x 5 = some (nI (x.1 4)) := a_count_n I hc (k := 5) (by omega)
theorem c_6 {x : Ab} {c : Nat} (I : Inv x.1 c) (hc : c ≤ 2 ^ 28) : a_count x 6 = some (nI (su (pt x.1) 6)) := a_count_n I hc (k := 6) (by omega)
theorem c_7 {x : Ab} {c : Nat} (I : Inv x.1 c) (hc : c ≤ 2 ^ 28) : a_count x 7 = some (nI (su (wl x.1) 6)) := a_count_n I hc (k := 7) (by omega)
theorem c_8 {x : Ab} {c : Nat} (I : Inv x.1 c) (hc : c ≤ 2 ^ 28) : a_count x 8 = some (nI (x.1 5)) := a_count_n I hc (k := 8) (by omega)
theorem away_n {a b : Nat} (ha : a < 2 ^ 30) (hb : b < 2 ^ 30) : s_L_away (nI a) (nI b) = some (nI (ad a b)) := by
  unfold s_L_away ad
  by_cases h : a ≤ b
  · rw [if_pos (nI_le h (by omega)), if_pos h, pk_sub h]
  · rw [if_neg (nI_ge (by omega) (by omega)), if_neg h, pk_sub (by omega)]
theorem far_n {x : Ab} {c : Nat} (I : Inv x.1 c) (hc : c ≤ 2 ^ 28) {p q : Nat} (hp : p < 6) (hq : q < 8) (h0 : 0 < po x.1 q) : s_L_far x (nI p) (nI q) = some (nI (dp x.1 p q)) := by
  have hI := I.2.2.2.2.1 p hp
  have l0 := stg_le x.1 (qp q) (k := 0) (by omega)
  have l1 := stg_le x.1 (qp q) (k := 1) (by omega)
  have l2 := stg_le x.1 (qp q) (k := 2) (by omega)
  unfold s_L_far
  rw [cl_e (p_5 I hc hq h0), cl_e (l_0 I hc hp), cl_e (away_n (by omega) (by omega)), cl_e (p_6 I hc hq h0), cl_e (l_1 I hc hp), cl_e (away_n (by omega) (by omega)), cl_e (p_7 I hc hq h0), cl_e (l_2 I hc hp), cl_e (away_n (by omega) (by omega)), nI_add, nI_add]
  rfl
theorem sm4_81 {N : Nat → Nat} {c p : Nat} (I : Inv N c) (hp : p < 8) : sm4 N (qp p) ≤ 81 := I.q (by omega)
-- drops: the kinds of a pot
theorem dk {x : Ab} {c p : Nat} (I : Inv x.1 c) (hc : c ≤ 2 ^ 28) (hp : p < 8) {kk : Unit → Option Int32} (fu : Nat) : ∀ (n k : Nat), k + n = 3 → s_L_areDrops_L3 x (nI p) (nI (sm4 x.1 (qp p))) kk (fu + n + 1) (nI k) = kk () := by
  intro n
  induction n with
  | zero =>
    intro k hk
    show s_L_areDrops_B3 x (nI p) (nI (sm4 x.1 (qp p))) kk _ (nI k) = _
    unfold s_L_areDrops_B3
    rw [if_pos (show (3 : Int32) ≤ nI k from nI_le (a := 3) (by omega) (by omega))]
  | succ n ih =>
    intro k hk
    have h81 := sm4_81 I hp
    refine Eq.trans ?_ (ih (k + 1) (by omega))
    show s_L_areDrops_B3 x (nI p) (nI (sm4 x.1 (qp p))) kk (s_L_areDrops_L3 x (nI p) (nI (sm4 x.1 (qp p))) kk (fu + n + 1)) (nI k) = _
    unfold s_L_areDrops_B3
    rw [if_neg (show ¬ (3 : Int32) ≤ nI k from nI_ge (b := 3) (by omega) (by omega)), show (5 : Int32) + nI k = nI (5 + k) from nI_add 5 k, cl_e (p_s I hc hp (by omega))]
    by_cases h0 : sm4 x.1 (qp p) = 0
    · have hz : nI (sm4 x.1 (qp p)) = 0 := by rw [h0]; rfl
      rw [if_pos hz, if_pos h0, if_pos (show (-6 : Int32) = -6 from rfl), nm_e', nI_1]
    · have hle := sm4_ge x.1 (qp p) (k := k) (by omega)
      rw [if_neg (nI_ne0 (by omega) (by omega)), if_neg h0, cl_e (p_k I hc hp (by omega)), show (100 : Int32) * nI (x.1 (qp p + k)) = nI (100 * x.1 (qp p + k)) from pk_mul 100 _, dv_n (nI_ne0 (by omega) (by omega)), pk_div (by omega) (by omega) (by omega), if_pos (show nI (stg x.1 (qp p) k) = nI (100 * x.1 (qp p + k) / sm4 x.1 (qp p)) from rfl), nm_e', nI_1]
theorem dpots {x : Ab} {c : Nat} (I : Inv x.1 c) (hc : c ≤ 2 ^ 28) {kk : Int32 → Option Int32} (fu : Nat) : ∀ (n i : Nat), i + n = 8 → s_L_areDrops_L1 x kk (fu + n + 1) (nI (su (po x.1) i), nI i) = kk (nI (su (po x.1) 8)) := by
  intro n
  induction n with
  | zero =>
    intro i hi
    have e : i = 8 := by omega
    subst e
    show s_L_areDrops_B1 x kk _ _ (nI 8) = _
    unfold s_L_areDrops_B1
    rw [if_pos (show (8 : Int32) ≤ nI 8 from nI_le (a := 8) (by omega) (by omega))]
  | succ n ih =>
    intro i hi
    have hi8 : i < 8 := by omega
    have h81 := sm4_81 I hi8
    have es : nI (x.1 (qp i)) + nI (x.1 (qp i + 1)) + nI (x.1 (qp i + 2)) + nI (x.1 (qp i + 3)) = nI (sm4 x.1 (qp i)) := by
      rw [nI_add, nI_add, nI_add]
      rfl
    refine Eq.trans ?_ (ih (i + 1) (by omega))
    show s_L_areDrops_B1 x kk (s_L_areDrops_L1 x kk (fu + n + 1)) (nI (su (po x.1) i)) (nI i) = _
    unfold s_L_areDrops_B1
    rw [if_neg (show ¬ (8 : Int32) ≤ nI i from nI_ge (b := 8) (by omega) (by omega)), cl_e (p_0 I hc hi8), cl_e (p_1 I hc hi8), cl_e (p_2 I hc hi8), cl_e (p_3 I hc hi8), es, nm_e', nI_add, nm_e', cl_e (p_4 I hc hi8), if_pos (show nI (sm4 x.1 (qp i)) = nI (sm4 x.1 (qp i)) from rfl), if_neg (show ¬ (81 : Int32) < nI (sm4 x.1 (qp i)) from nI_nlt (a := 81) h81 (by omega))]
    have e3 : s_L_areDrops_L3 x (nI i) (nI (sm4 x.1 (qp i))) (s_L_areDrops_X3 (s_L_areDrops_L1 x kk (fu + n + 1)) (nI i) (nI (su (po x.1) i + sm4 x.1 (qp i)))) 1000 0 = s_L_areDrops_X3 (s_L_areDrops_L1 x kk (fu + n + 1)) (nI i) (nI (su (po x.1) i + sm4 x.1 (qp i))) () := dk I hc hi8 996 3 0 (by omega)
    rw [e3]
    unfold s_L_areDrops_X3
    rw [nm_e', nI_1]
    rfl
theorem dst_3 {N : Nat → Nat} {c P r y b : Nat} (I : Inv N c) (hP : P < 6) (hr : r ≤ 100) (hy : y ≤ 100) (hb : b ≤ 100) : dst N P r y b ≤ 300 := dst_le I hP hr hy hb
theorem dpans {x : Ab} {c : Nat} (I : Inv x.1 c) (hc : c ≤ 2 ^ 28) {kk : Int32 × Int32 × Int32 → Option Int32} (fu : Nat) : ∀ (n i : Nat), i + n = 6 → s_L_areDrops_L2 x kk (fu + n + 1) (nI (su (wl x.1) i), nI (su (pt x.1) i), nI (su (sk x.1) i), nI i) = kk (nI (su (wl x.1) 6), nI (su (pt x.1) 6), nI (su (sk x.1) 6)) := by
  intro n
  induction n with
  | zero =>
    intro i hi
    have e : i = 6 := by omega
    subst e
    show s_L_areDrops_B2 x kk _ _ _ _ (nI 6) = _
    unfold s_L_areDrops_B2
    rw [if_pos (show (6 : Int32) ≤ nI 6 from nI_le (a := 6) (by omega) (by omega))]
  | succ n ih =>
    intro i hi
    have h6 : i < 6 := by omega
    obtain ⟨g1, g2, g3, g4, g5, g6, g7, g8, g9⟩ := I.2.2.2.2.1 i h6
    have hd := dst_3 I h6 g5 g6 g7
    refine Eq.trans ?_ (ih (i + 1) (by omega))
    show s_L_areDrops_B2 x kk (s_L_areDrops_L2 x kk (fu + n + 1)) (nI (su (wl x.1) i)) (nI (su (pt x.1) i)) (nI (su (sk x.1) i)) (nI i) = _
    unfold s_L_areDrops_B2
    rw [if_neg (show ¬ (6 : Int32) ≤ nI i from nI_ge (b := 6) (by omega) (by omega)), cl_e (l_3 I hc h6)]
    by_cases e : x.1 (54 + 8 * i) = 0
    · have e58 := g9.mp e
      have ew : wl x.1 i = 0 := if_pos e
      have ep : pt x.1 i = 0 := if_pos e
      have z1 : su (wl x.1) (i + 1) = su (wl x.1) i + 0 := by show su (wl x.1) i + wl x.1 i = _; rw [ew]
      have z2 : su (pt x.1) (i + 1) = su (pt x.1) i + 0 := by show su (pt x.1) i + pt x.1 i = _; rw [ep]
      have z3 : su (sk x.1) (i + 1) = su (sk x.1) i + 0 := by show su (sk x.1) i + x.1 (58 + 8 * i) = _; rw [e58]
      rw [if_pos e, if_pos (show (-6 : Int32) < 0 by decide), show nI (su (pt x.1) i) + 0 = nI (su (pt x.1) i + 0) from nI_add _ 0, nm_e', cl_e (l_7 I hc h6), ew, nI_add, nm_e', cl_e (l_8 I hc h6), e58, nI_add, nm_e', cl_e (l_6 I hc h6), if_pos e, if_pos (show (-6 : Int32) = -6 from rfl), cl_e (l_7 I hc h6), ew, if_neg (show ¬ nI 0 = 1 by decide), cl_e (l_8 I hc h6), e58, if_pos (show nI 0 ≤ 0 by decide), nm_e', nI_1, z1, z2, z3]
    · have e54 : x.1 (54 + 8 * i) = 1 := by omega
      have e58 : 0 < x.1 (58 + 8 * i) := by
        rcases Nat.eq_zero_or_pos (x.1 (58 + 8 * i)) with q | q
        · exact absurd (g9.mpr q) e
        · exact q
      have ep : pt x.1 i = 1 := if_neg e
      have z2 : su (pt x.1) (i + 1) = su (pt x.1) i + 1 := by show su (pt x.1) i + pt x.1 i = _; rw [ep]
      have z3 : su (sk x.1) (i + 1) = su (sk x.1) i + x.1 (58 + 8 * i) := rfl
      have z1 : su (wl x.1) (i + 1) = su (wl x.1) i + wl x.1 i := rfl
      have ed : nI (ad (x.1 (55 + 8 * i)) (x.1 (51 + 8 * i))) + nI (ad (x.1 (56 + 8 * i)) (x.1 (52 + 8 * i))) + nI (ad (x.1 (57 + 8 * i)) (x.1 (53 + 8 * i))) = nI (dst x.1 i (x.1 (55 + 8 * i)) (x.1 (56 + 8 * i)) (x.1 (57 + 8 * i))) := by
        rw [nI_add, nI_add]
        rfl
      have q3 := l_3 I hc h6
      have q4 := l_4 I hc h6
      have q5 := l_5 I hc h6
      have q6 := l_6 I hc h6
      rw [if_neg e] at q3 q4 q5 q6
      rw [if_neg e, if_neg (nI_pos (by omega)), cl_e q3, cl_e (l_0 I hc h6), cl_e (away_n (by omega) (by omega)), cl_e q4, cl_e (l_1 I hc h6), cl_e (away_n (by omega) (by omega)), cl_e q5, cl_e (l_2 I hc h6), cl_e (away_n (by omega) (by omega)), ed, nm_e', nI_1, nm_e', cl_e (l_7 I hc h6), nI_add, nm_e', cl_e (l_8 I hc h6), nI_add, nm_e', cl_e q6, if_pos (show nI (dst x.1 i (x.1 (55 + 8 * i)) (x.1 (56 + 8 * i)) (x.1 (57 + 8 * i))) = nI (dst x.1 i (x.1 (55 + 8 * i)) (x.1 (56 + 8 * i)) (x.1 (57 + 8 * i))) from rfl), cl_e (l_7 I hc h6), z1, z2, z3]
      have h1 := I.2.1
      by_cases hw : x.1 1 < dst x.1 i (x.1 (55 + 8 * i)) (x.1 (56 + 8 * i)) (x.1 (57 + 8 * i))
      · have ew : wl x.1 i = 0 := by
          unfold wl
          rw [if_neg e, if_pos hw]
        rw [ew, if_neg (show ¬ nI 0 = 1 by decide), cl_e (c_1 I hc), if_pos (nI_lt hw (by omega)), cl_e (l_8 I hc h6), if_neg (nI_nle e58 (by omega)), nm_e', nI_1]
      · have ew : wl x.1 i = 1 := by
          unfold wl
          rw [if_neg e, if_neg hw]
        rw [ew, if_pos (show nI 1 = 1 from rfl), cl_e (c_1 I hc), if_neg (nI_nlt (by omega) (by omega)), cl_e (l_8 I hc h6), if_neg (nI_nle e58 (by omega)), nm_e', nI_1]
def Bal (N : Nat → Nat) : Prop := N 2 = su (po N) 8 + N 3 + N 4 + sm4 N 47
theorem drops_ok {x : Ab} {c : Nat} (I : Inv x.1 c) (hc : c ≤ 2 ^ 28) (hB : Bal x.1) : s_L_areDrops x = some 1 := by
  have e1 : s_L_areDrops_L1 x (s_L_areDrops_X1 x) 1000 (0, 0) = s_L_areDrops_X1 x (nI (su (po x.1) 8)) := dpots I hc 991 8 0 (by omega)
  have e2 : s_L_areDrops_L2 x (s_L_areDrops_X2 x (nI (su (po x.1) 8))) 1000 (0, 0, 0, 0) = s_L_areDrops_X2 x (nI (su (po x.1) 8)) (nI (su (wl x.1) 6), nI (su (pt x.1) 6), nI (su (sk x.1) 6)) := dpans I hc 993 6 0 (by omega)
  have hb := I.2.2.2.1
  have eb : nI (x.1 47) + nI (x.1 (47 + 1)) + nI (x.1 (47 + 2)) + nI (x.1 (47 + 3)) = nI (sm4 x.1 47) := by
    rw [nI_add, nI_add, nI_add]
    rfl
  have e5 : nI (su (sk x.1) 6) = nI (x.1 5) := by
    have e50 : 0 + x.1 58 + x.1 66 + x.1 74 + x.1 82 + x.1 90 + x.1 98 = x.1 58 + x.1 66 + x.1 74 + x.1 82 + x.1 90 + x.1 98 := by omega
    rw [I.2.2.2.2.2]
    exact congrArg nI e50
  have e9 : nI (x.1 2) = nI (su (po x.1) 8) + nI (x.1 3) + nI (x.1 4) + nI (sm4 x.1 47) := by
    rw [nI_add, nI_add, nI_add]
    exact congrArg nI hB
  unfold s_L_areDrops
  rw [e1]
  unfold s_L_areDrops_X1
  rw [e2]
  unfold s_L_areDrops_X2
  dsimp only
  rw [cl_e (b_0 I hc), cl_e (b_1 I hc), cl_e (b_2 I hc), cl_e (b_3 I hc), eb, nm_e', cl_e (b_4 I hc), if_pos (show nI (sm4 x.1 47) = nI (sm4 x.1 47) from rfl), if_neg (show ¬ (9 : Int32) < nI (sm4 x.1 47) from nI_nlt (a := 9) hb (by omega)), cl_e (c_3 I hc), if_pos (show nI (su (po x.1) 8) = nI (su (po x.1) 8) from rfl), cl_e (c_6 I hc), if_pos (show nI (su (pt x.1) 6) = nI (su (pt x.1) 6) from rfl), cl_e (c_7 I hc), if_pos (show nI (su (wl x.1) 6) = nI (su (wl x.1) 6) from rfl), cl_e (c_8 I hc), if_pos e5, cl_e (c_2 I hc), cl_e (c_3 I hc), cl_e (c_4 I hc), cl_e (c_5 I hc), if_pos e9]
