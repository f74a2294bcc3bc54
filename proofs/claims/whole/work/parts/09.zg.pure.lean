-- pure: states kept and recorded
theorem cpR {n : Nat} (hn : n < 2 ^ 31) (f g : Nat → Int32) : ∃ h, s_X4_copyRow n f n g = some h ∧ ∀ k, k < n → h k = f k := by
  refine ⟨va_cpy f g 0 0 n, ?_, fun k hk => ?_⟩
  · have e : (Int32.ofNat n).toNatClampNeg = n := nI_clamp hn
    have q : ¬ (Int32.ofNat n < 0 ∨ n < n ∨ n < n) := fun q => by
      rcases q with q | q | q
      · exact nI_pos hn q
      · omega
      · omega
    unfold s_X4_copyRow
    rw [nm_e', ite_self]
    unfold cpy
    rw [e, if_neg q]
  · unfold va_cpy
    rw [if_pos ⟨Nat.zero_le _, by omega⟩, Nat.zero_add, Nat.sub_zero]
theorem cpS {σ : Nat → Nat → Int32} {N : Nat → Nat} (h : RS σ N) (τ : Nat → Nat → Int32) : ∃ τ' : Nat → Nat → Int32, s_X2_copyFrom (τ 0) (τ 1) (τ 2) (τ 3) (τ 4) (τ 5) (σ 6 0) (σ 7 0) (σ 8 0) (σ 9 0) (σ 0) (σ 1) (σ 2) (σ 3) (σ 4) (σ 5) = some (τ' 6 0, τ' 7 0, τ' 8 0, τ' 9 0, τ' 0, τ' 1, τ' 2, τ' 3, τ' 4, τ' 5) ∧ RS τ' N ∧ ∀ j, 10 ≤ j → τ' j = τ j := by
  obtain ⟨r0, e0, h0⟩ := cpR (n := 2) (by omega) (σ 0) (τ 0)
  obtain ⟨r1, e1, h1⟩ := cpR (n := 36) (by omega) (σ 1) (τ 1)
  obtain ⟨r2, e2, h2⟩ := cpR (n := 8) (by omega) (σ 2) (τ 2)
  obtain ⟨r3, e3, h3⟩ := cpR (n := 18) (by omega) (σ 3) (τ 3)
  obtain ⟨r4, e4, h4⟩ := cpR (n := 18) (by omega) (σ 4) (τ 4)
  obtain ⟨r5, e5, h5⟩ := cpR (n := 6) (by omega) (σ 5) (τ 5)
  refine ⟨fun j => if j = 0 then r0 else if j = 1 then r1 else if j = 2 then r2 else if j = 3 then r3 else if j = 4 then r4 else if j = 5 then r5 else if j < 10 then σ j else τ j, ?_, ?_, fun j hj => ?_⟩
  · unfold s_X2_copyFrom
    rw [cl_e e0, cl_e e1, cl_e e2, cl_e e3, cl_e e4, cl_e e5]
    rfl
  · exact ⟨fun k hk => (h0 k hk).trans (h.1 k hk), fun k hk => (h1 k hk).trans (h.2.1 k hk), fun k hk => (h2 k hk).trans (h.2.2.1 k hk), fun k hk => (h3 k hk).trans (h.2.2.2.1 k hk), fun k hk => (h4 k hk).trans (h.2.2.2.2.1 k hk), fun k hk => (h5 k hk).trans (h.2.2.2.2.2.1 k hk), h.2.2.2.2.2.2.1, h.2.2.2.2.2.2.2.1, h.2.2.2.2.2.2.2.2.1, h.2.2.2.2.2.2.2.2.2⟩
  · show (if j = 0 then r0 else if j = 1 then r1 else if j = 2 then r2 else if j = 3 then r3 else if j = 4 then r4 else if j = 5 then r5 else if j < 10 then σ j else τ j) = τ j
    rw [if_neg (by omega), if_neg (by omega), if_neg (by omega), if_neg (by omega), if_neg (by omega), if_neg (by omega), if_neg (by omega)]
def RG (τ : Nat → Nat → Nat → Int32) (B : Nat → Int32) (np kp c : Nat) : Prop := ∀ j, j < kp → ∃ M : Nat → Nat, RS (τ ((np + 7 - kp + j) % 7)) M ∧ (∀ k, k < 99 → B (99 * j + k) = nI (M k)) ∧ Inv M c
def upT (τ : Nat → Nat → Nat → Int32) (p : Nat) (x : Nat → Nat → Int32) : Nat → Nat → Nat → Int32 := fun q => if q = p then x else τ q
theorem upT_s {τ : Nat → Nat → Nat → Int32} {p : Nat} {x : Nat → Nat → Int32} : upT τ p x p = x := if_pos rfl
theorem upT_n {τ : Nat → Nat → Nat → Int32} {p q : Nat} {x : Nat → Nat → Int32} (h : q ≠ p) : upT τ p x q = τ q := if_neg h
theorem RG.mono {τ : Nat → Nat → Nat → Int32} {B : Nat → Int32} {np kp c c' : Nat} (h : RG τ B np kp c) (hc : c ≤ c') : RG τ B np kp c' := fun j hj => by
  obtain ⟨M, a, b, d⟩ := h j hj
  exact ⟨M, a, b, d.mono hc⟩
theorem RG.fail {τ : Nat → Nat → Nat → Int32} {B : Nat → Int32} {np kp c : Nat} (h : RG τ B np kp c) (hn : np < 7) (hk : kp ≤ 6) (x : Nat → Nat → Int32) : RG (upT τ np x) B np kp c := fun j hj => by
  rw [upT_n (show (np + 7 - kp + j) % 7 ≠ np by omega)]
  exact h j hj
theorem RG.off {τ : Nat → Nat → Nat → Int32} {B : Nat → Int32} {np kp c p : Nat} (h : RG τ B np kp c) (hp : 7 ≤ p) (x : Nat → Nat → Int32) : RG (upT τ p x) B np kp c := fun j hj => by
  rw [upT_n (show (np + 7 - kp + j) % 7 ≠ p by omega)]
  exact h j hj
theorem cRec {np kp : Nat} {r : Int32} (hn : np < 7) (hk : kp ≤ 6) (hr : ¬ r < 0) : s_X4_recorded (nI np) (nI kp) r = some (r, nI ((np + 1) % 7), nI (if kp = 6 then 6 else kp + 1)) := by
  have hm : (if 6 < nI kp + 1 then 6 else nI kp + 1) = nI (if kp = 6 then 6 else kp + 1) := by
    rw [nI_1]
    by_cases h : kp = 6
    · rw [if_pos h, if_pos (show (6 : Int32) < nI (kp + 1) from nI_lt (a := 6) (by omega) (by omega))]
      rfl
    · rw [if_neg h, if_neg (show ¬ (6 : Int32) < nI (kp + 1) from nI_nlt (a := 6) (by omega) (by omega))]
  unfold s_X4_recorded
  rw [if_neg hr, hm]
  by_cases h : np < 6
  · rw [if_pos (show nI np < 6 from nI_lt (b := 6) h (by omega)), nm_e', nm_e', nI_1, show (np + 1) % 7 = np + 1 by omega]
  · rw [if_neg (show ¬ nI np < 6 from nI_nlt (b := 6) (by omega) (by omega)), nm_e', show (np + 1) % 7 = 0 by omega]
    rfl
theorem cRecN {a b r : Int32} (hr : r < 0) : s_X4_recorded a b r = some (r, a, b) := if_pos hr
theorem mRecN {K r : Int32} {F B : Nat → Int32} (hr : r < 0) : s_X5_recorded K F B r = some (r, K, B) := if_pos hr
theorem mRec_1 {F Y : Nat → Int32} {q : Nat} {kk : (Nat → Int32) → Option (Int32 × Int32 × (Nat → Int32))} (hq : q ≤ 5) (fu : Nat) : ∀ (m i : Nat) (y : Nat → Int32), i + m = 99 → (∀ k, k < i → y (99 * q + k) = F k) → (∀ k, (k < 99 * q ∨ 99 * q + 99 ≤ k) → y k = Y k) → ∃ y', s_X5_recorded_L1 F (nI q) kk (fu + m + 1) (nI i, y) = kk y' ∧ (∀ k, k < 99 → y' (99 * q + k) = F k) ∧ (∀ k, (k < 99 * q ∨ 99 * q + 99 ≤ k) → y' k = Y k)
  | 0, i, y, h, h1, h2 => by
    refine ⟨y, ?_, fun k hk => h1 k (by omega), h2⟩
    show s_X5_recorded_B1 F (nI q) kk _ (nI i) y = _
    unfold s_X5_recorded_B1
    rw [if_pos (show (99 : Int32) ≤ nI i from nI_le (a := 99) (b := i) (by omega) (by omega))]
  | m + 1, i, y, h, h1, h2 => by
    obtain ⟨y', e, a, b⟩ := mRec_1 (F := F) (Y := Y) (kk := kk) hq fu m (i + 1) (upd y (99 * q + i) (F i)) (by omega) (fun k hk => by
      by_cases e : k = i
      · subst e; rw [pk_us]
      · rw [pk_un (by omega)]; exact h1 k (by omega)) (fun k hk => by rw [pk_un (by omega)]; exact h2 k hk)
    refine ⟨y', Eq.trans ?_ e, a, b⟩
    show s_X5_recorded_B1 F (nI q) kk (s_X5_recorded_L1 F (nI q) kk (fu + m + 1)) (nI i) y = _
    unfold s_X5_recorded_B1
    rw [if_neg (show ¬ (99 : Int32) ≤ nI i from nI_ge (a := i) (b := 99) (by omega) (by omega)), ld_n (by omega) (by omega), show (99 : Int32) * nI q = nI (99 * q) from pk_mul 99 q, nI_add, sto_n (by omega) (by omega), nm_e', nI_1]
theorem mRec_3 {F Y : Nat → Int32} {q : Nat} {kk : (Nat → Int32) → Option (Int32 × Int32 × (Nat → Int32))} (hq : q ≤ 5) (fu : Nat) : ∀ (m i : Nat) (y : Nat → Int32), i + m = 99 → (∀ k, k < i → y (99 * q + k) = F k) → (∀ k, (k < 99 * q ∨ 99 * q + 99 ≤ k) → y k = Y k) → ∃ y', s_X5_recorded_L3 F (nI q) kk (fu + m + 1) (nI i, y) = kk y' ∧ (∀ k, k < 99 → y' (99 * q + k) = F k) ∧ (∀ k, (k < 99 * q ∨ 99 * q + 99 ≤ k) → y' k = Y k)
  | 0, i, y, h, h1, h2 => by
    refine ⟨y, ?_, fun k hk => h1 k (by omega), h2⟩
    show s_X5_recorded_B3 F (nI q) kk _ (nI i) y = _
    unfold s_X5_recorded_B3
    rw [if_pos (show (99 : Int32) ≤ nI i from nI_le (a := 99) (b := i) (by omega) (by omega))]
  | m + 1, i, y, h, h1, h2 => by
    obtain ⟨y', e, a, b⟩ := mRec_3 (F := F) (Y := Y) (kk := kk) hq fu m (i + 1) (upd y (99 * q + i) (F i)) (by omega) (fun k hk => by
      by_cases e : k = i
      · subst e; rw [pk_us]
      · rw [pk_un (by omega)]; exact h1 k (by omega)) (fun k hk => by rw [pk_un (by omega)]; exact h2 k hk)
    refine ⟨y', Eq.trans ?_ e, a, b⟩
    show s_X5_recorded_B3 F (nI q) kk (s_X5_recorded_L3 F (nI q) kk (fu + m + 1)) (nI i) y = _
    unfold s_X5_recorded_B3
    rw [if_neg (show ¬ (99 : Int32) ≤ nI i from nI_ge (a := i) (b := 99) (by omega) (by omega)), ld_n (by omega) (by omega), show (99 : Int32) * nI q = nI (99 * q) from pk_mul 99 q, nI_add, sto_n (by omega) (by omega), nm_e', nI_1]
theorem mRec_2 {Y : Nat → Int32} {kk : (Nat → Int32) → Option (Int32 × Int32 × (Nat → Int32))} (fu : Nat) : ∀ (m i : Nat) (y : Nat → Int32), i + m = 495 → (∀ k, k < i → y k = Y (99 + k)) → (∀ k, i ≤ k → y k = Y k) → ∃ y', s_X5_recorded_L2 kk (fu + m + 1) (nI i, y) = kk y' ∧ ∀ k, k < 495 → y' k = Y (99 + k)
  | 0, i, y, h, h1, h2 => by
    refine ⟨y, ?_, fun k hk => h1 k (by omega)⟩
    show s_X5_recorded_B2 kk _ (nI i) y = _
    unfold s_X5_recorded_B2
    rw [if_pos (show (495 : Int32) ≤ nI i from nI_le (a := 495) (b := i) (by omega) (by omega))]
  | m + 1, i, y, h, h1, h2 => by
    obtain ⟨y', e, a⟩ := mRec_2 (Y := Y) (kk := kk) fu m (i + 1) (upd y i (y (99 + i))) (by omega) (fun k hk => by
      by_cases e : k = i
      · subst e; rw [pk_us]; exact h2 _ (by omega)
      · rw [pk_un e]; exact h1 k (by omega)) (fun k hk => by rw [pk_un (by omega)]; exact h2 k (by omega))
    refine ⟨y', Eq.trans ?_ e, a⟩
    show s_X5_recorded_B2 kk (s_X5_recorded_L2 kk (fu + m + 1)) (nI i) y = _
    unfold s_X5_recorded_B2
    rw [if_neg (show ¬ (495 : Int32) ≤ nI i from nI_ge (a := i) (b := 495) (by omega) (by omega)), show (99 : Int32) + nI i = nI (99 + i) from nI_add 99 i, ld_n (by omega) (by omega), sto_n (by omega) (by omega), nm_e', nI_1]
theorem mRec {F B : Nat → Int32} {kp : Nat} {r : Int32} (hk : kp ≤ 6) (hr : ¬ r < 0) : ∃ B', s_X5_recorded (nI kp) F B r = some (r, nI (if kp = 6 then 6 else kp + 1), B') ∧ ((kp < 6 ∧ (∀ k, k < 99 → B' (99 * kp + k) = F k) ∧ (∀ k, k < 99 * kp → B' k = B k)) ∨ (kp = 6 ∧ (∀ k, k < 99 → B' (495 + k) = F k) ∧ (∀ k, k < 495 → B' k = B (99 + k)))) := by
  unfold s_X5_recorded
  rw [if_neg hr]
  by_cases h : kp = 6
  · subst h
    obtain ⟨y1, e1, h1⟩ := mRec_2 (Y := B) (kk := s_X5_recorded_X2 (nI 6) F r) 504 495 0 B (by omega) (fun k hk => absurd hk (by omega)) (fun k _ => rfl)
    obtain ⟨y2, e2, h2, h3⟩ := mRec_3 (F := F) (Y := y1) (q := 5) (kk := s_X5_recorded_X3 (nI 5) r) (by omega) 900 99 0 y1 (by omega) (fun k hk => absurd hk (by omega)) (fun k _ => rfl)
    refine ⟨y2, ?_, Or.inr ⟨rfl, h2, fun k hk => (h3 k (Or.inl hk)).trans (h1 k hk)⟩⟩
    rw [if_pos (show nI 6 = 6 from rfl), if_pos rfl]
    refine Eq.trans e1 ?_
    unfold s_X5_recorded_X2
    rw [show nI 6 - 1 = nI 5 by decide, nm_e']
    refine Eq.trans e2 ?_
    unfold s_X5_recorded_X3
    rw [nm_e', nI_1]
  · obtain ⟨y2, e2, h2, h3⟩ := mRec_1 (F := F) (Y := B) (q := kp) (kk := s_X5_recorded_X1 (nI kp) r) (by omega) 900 99 0 B (by omega) (fun k hk => absurd hk (by omega)) (fun k _ => rfl)
    refine ⟨y2, ?_, Or.inl ⟨by omega, h2, fun k hk => h3 k (Or.inl hk)⟩⟩
    rw [if_neg (show ¬ nI kp = 6 from fun q => h ((nI_eq (a := kp) (b := 6) (by omega) (by omega)).mp q)), if_neg h]
    refine Eq.trans e2 ?_
    unfold s_X5_recorded_X1
    rw [nm_e', nI_1]
theorem RG.rec {τ : Nat → Nat → Nat → Int32} {B B' F : Nat → Int32} {np kp c : Nat} {x : Nat → Nat → Int32} {N : Nat → Nat} (h : RG τ B np kp c) (hn : np < 7) (hk : kp ≤ 6) (hx : RS x N) (I : Inv N c) (hF : ∀ k, k < 99 → F k = nI (N k)) (hB : (kp < 6 ∧ (∀ k, k < 99 → B' (99 * kp + k) = F k) ∧ (∀ k, k < 99 * kp → B' k = B k)) ∨ (kp = 6 ∧ (∀ k, k < 99 → B' (495 + k) = F k) ∧ (∀ k, k < 495 → B' k = B (99 + k)))) : RG (upT τ np x) B' ((np + 1) % 7) (if kp = 6 then 6 else kp + 1) c := by
  intro j hj
  rcases hB with ⟨k6, b1, b2⟩ | ⟨k6, b1, b2⟩
  · rw [if_neg (by omega)] at hj ⊢
    by_cases e : j = kp
    · subst e
      refine ⟨N, ?_, fun k hk => (b1 k hk).trans (hF k hk), I⟩
      rw [show ((np + 1) % 7 + 7 - (j + 1) + j) % 7 = np by omega, upT_s]
      exact hx
    · obtain ⟨M, m1, m2, m3⟩ := h j (by omega)
      refine ⟨M, ?_, fun k hk => (b2 _ (by omega)).trans (m2 k hk), m3⟩
      rw [show ((np + 1) % 7 + 7 - (kp + 1) + j) % 7 = (np + 7 - kp + j) % 7 by omega, upT_n (by omega)]
      exact m1
  · rw [if_pos k6] at hj ⊢
    subst k6
    by_cases e : j = 5
    · subst e
      refine ⟨N, ?_, fun k hk => (b1 k hk).trans (hF k hk), I⟩
      rw [show ((np + 1) % 7 + 7 - 6 + 5) % 7 = np by omega, upT_s]
      exact hx
    · obtain ⟨M, m1, m2, m3⟩ := h (j + 1) (by omega)
      refine ⟨M, ?_, fun k hk => ?_, m3⟩
      · rw [show ((np + 1) % 7 + 7 - 6 + j) % 7 = (np + 7 - 6 + (j + 1)) % 7 by omega, upT_n (by omega)]
        exact m1
      · rw [b2 _ (by omega), show 99 + (99 * j + k) = 99 * (j + 1) + k by omega]
        exact m2 k hk
theorem kept_b {σ : Nat → Nat → Int32} {τ : Nat → Nat → Nat → Int32} {f B : Nat → Int32} {N : Nat → Nat} {np kp c : Nat} {hist : Nat → Option Nat} {ad : Nat} (h : RS σ N) (hf : RM f N) (I : Inv N c) (hG : RG τ B np kp c) (hn : np < 7) (hk : kp ≤ 6) (hh : s_X4_studioAt 7 hist (nI np) = some (some ad)) (F0 : Nat → Int32) : ∃ (x : Nat → Nat → Int32) (F : Nat → Int32), s_X4_keepState (nI np) (σ 6 0) (σ 7 0) (σ 8 0) (σ 9 0) (σ 0) (σ 1) (σ 2) (σ 3) (σ 4) (σ 5) hist (τ np 0) (τ np 1) (τ np 2) (τ np 3) (τ np 4) (τ np 5) = some (x 6 0, x 7 0, x 8 0, x 9 0, x 0, x 1, x 2, x 3, x 4, x 5) ∧ RS x N ∧ (∀ j, 10 ≤ j → x j = τ np j) ∧ s_X5_hold f F0 = some F ∧ RG (upT τ np x) B np kp c ∧ ∀ r : Int32, ∃ (np' kp' : Nat) (B' : Nat → Int32), np' < 7 ∧ kp' ≤ 6 ∧ s_X4_recorded (nI np) (nI kp) r = some (r, nI np', nI kp') ∧ s_X5_recorded (nI kp) F B r = some (r, nI kp', B') ∧ RG (upT τ np x) B' np' kp' c := by
  obtain ⟨x, ex, hx, hx2⟩ := cpS h (τ np)
  obtain ⟨F, eF, hF⟩ := mHold f F0
  refine ⟨x, F, ?_, hx, hx2, eF, hG.fail hn hk x, fun r => ?_⟩
  · unfold s_X4_keepState
    rw [cl_e hh, cl_e ex]
  · by_cases hr : r < 0
    · exact ⟨np, kp, B, hn, hk, cRecN hr, mRecN hr, hG.fail hn hk x⟩
    · obtain ⟨B', eB, hB⟩ := mRec (F := F) (B := B) hk hr
      refine ⟨(np + 1) % 7, if kp = 6 then 6 else kp + 1, B', by omega, by split <;> omega, cRec hn hk hr, eB, hG.rec hn hk hx I (fun k hk => (hF k hk).trans (hf k hk)) hB⟩
