-- pure: undo, save, restore
theorem mUn_l {B : Nat → Int32} {q : Nat} {kk : (Nat → Int32) → Option (Int32 × Int32 × (Nat → Int32))} (hq : q ≤ 5) (fu : Nat) : ∀ (m i : Nat) (y : Nat → Int32), i + m = 99 → (∀ k, k < i → y k = B (99 * q + k)) → ∃ y', s_X5_undo_L1 B (nI q) kk (fu + m + 1) (nI i, y) = kk y' ∧ ∀ k, k < 99 → y' k = B (99 * q + k)
  | 0, i, y, h, h1 => by
    refine ⟨y, ?_, fun k hk => h1 k (by omega)⟩
    show s_X5_undo_B1 B (nI q) kk _ (nI i) y = _
    unfold s_X5_undo_B1
    rw [if_pos (show (99 : Int32) ≤ nI i from nI_le (a := 99) (b := i) (by omega) (by omega))]
  | m + 1, i, y, h, h1 => by
    obtain ⟨y', e, a⟩ := mUn_l (B := B) (kk := kk) hq fu m (i + 1) (upd y i (B (99 * q + i))) (by omega) (fun k hk => by
      by_cases e : k = i
      · subst e; rw [pk_us]
      · rw [pk_un e]; exact h1 k (by omega))
    refine ⟨y', Eq.trans ?_ e, a⟩
    show s_X5_undo_B1 B (nI q) kk (s_X5_undo_L1 B (nI q) kk (fu + m + 1)) (nI i) y = _
    unfold s_X5_undo_B1
    rw [if_neg (show ¬ (99 : Int32) ≤ nI i from nI_ge (a := i) (b := 99) (by omega) (by omega)), show (99 : Int32) * nI q = nI (99 * q) from pk_mul 99 q, nI_add, ld_n (by omega) (by omega), sto_n (by omega) (by omega), nm_e', nI_1]
theorem mRs_l {B : Nat → Int32} {q : Nat} {kk : (Nat → Int32) → Option (Int32 × Int32 × (Nat → Int32) × (Nat → Int32) × (Nat → Int32))} (hq : q ≤ 1) (fu : Nat) : ∀ (m i : Nat) (y : Nat → Int32), i + m = 99 → (∀ k, k < i → y k = B (99 * q + k)) → ∃ y', s_X5_restore_L1 B (nI q) kk (fu + m + 1) (nI i, y) = kk y' ∧ ∀ k, k < 99 → y' k = B (99 * q + k)
  | 0, i, y, h, h1 => by
    refine ⟨y, ?_, fun k hk => h1 k (by omega)⟩
    show s_X5_restore_B1 B (nI q) kk _ (nI i) y = _
    unfold s_X5_restore_B1
    rw [if_pos (show (99 : Int32) ≤ nI i from nI_le (a := 99) (b := i) (by omega) (by omega))]
  | m + 1, i, y, h, h1 => by
    obtain ⟨y', e, a⟩ := mRs_l (B := B) (kk := kk) hq fu m (i + 1) (upd y i (B (99 * q + i))) (by omega) (fun k hk => by
      by_cases e : k = i
      · subst e; rw [pk_us]
      · rw [pk_un e]; exact h1 k (by omega))
    refine ⟨y', Eq.trans ?_ e, a⟩
    show s_X5_restore_B1 B (nI q) kk (s_X5_restore_L1 B (nI q) kk (fu + m + 1)) (nI i) y = _
    unfold s_X5_restore_B1
    rw [if_neg (show ¬ (99 : Int32) ≤ nI i from nI_ge (a := i) (b := 99) (by omega) (by omega)), show (99 : Int32) * nI q = nI (99 * q) from pk_mul 99 q, nI_add, ld_n (by omega) (by omega), sto_n (by omega) (by omega), nm_e', nI_1]
theorem mSv_l {f Y : Nat → Int32} {q : Nat} {kk : (Nat → Int32) → Option (Int32 × (Nat → Int32) × (Nat → Int32))} (hq : q ≤ 1) (fu : Nat) : ∀ (m i : Nat) (y : Nat → Int32), i + m = 99 → (∀ k, k < i → y (99 * q + k) = f k) → (∀ k, (k < 99 * q ∨ 99 * q + 99 ≤ k) → y k = Y k) → ∃ y', s_X5_save_L1 f (nI q) kk (fu + m + 1) (nI i, y) = kk y' ∧ (∀ k, k < 99 → y' (99 * q + k) = f k) ∧ (∀ k, (k < 99 * q ∨ 99 * q + 99 ≤ k) → y' k = Y k)
  | 0, i, y, h, h1, h2 => by
    refine ⟨y, ?_, fun k hk => h1 k (by omega), h2⟩
    show s_X5_save_B1 f (nI q) kk _ (nI i) y = _
    unfold s_X5_save_B1
    rw [if_pos (show (99 : Int32) ≤ nI i from nI_le (a := 99) (b := i) (by omega) (by omega))]
  | m + 1, i, y, h, h1, h2 => by
    obtain ⟨y', e, a, b⟩ := mSv_l (f := f) (Y := Y) (kk := kk) hq fu m (i + 1) (upd y (99 * q + i) (f i)) (by omega) (fun k hk => by
      by_cases e : k = i
      · subst e; rw [pk_us]
      · rw [pk_un (by omega)]; exact h1 k (by omega)) (fun k hk => by rw [pk_un (by omega)]; exact h2 k hk)
    refine ⟨y', Eq.trans ?_ e, a, b⟩
    show s_X5_save_B1 f (nI q) kk (s_X5_save_L1 f (nI q) kk (fu + m + 1)) (nI i) y = _
    unfold s_X5_save_B1
    rw [if_neg (show ¬ (99 : Int32) ≤ nI i from nI_ge (a := i) (b := 99) (by omega) (by omega)), ld_n (by omega) (by omega), show (99 : Int32) * nI q = nI (99 * q) from pk_mul 99 q, nI_add, sto_n (by omega) (by omega), nm_e', nI_1]
theorem B_undo {σ : Nat → Nat → Int32} {τ : Nat → Nat → Nat → Int32} {f B : Nat → Int32} {N : Nat → Nat} {np kp c : Nat} {hist : Nat → Option Nat} {ad : Nat} (h : RS σ N) (hf : RM f N) (I : Inv N c) (hG : RG τ B np kp c) (hn : np < 7) (hk : kp ≤ 6) (hh : s_X4_studioAt 7 hist (nI ((np + 6) % 7)) = some (some ad)) : ∃ (r : Int32) (σ' : Nat → Nat → Int32) (f' : Nat → Int32) (N' : Nat → Nat) (np' kp' : Nat), s_X4_undo (nI np) (nI kp) (σ 6 0) (σ 7 0) (σ 8 0) (σ 9 0) (σ 0) (σ 1) (σ 2) (σ 3) (σ 4) (σ 5) hist (τ ((np + 6) % 7) 6 0) (τ ((np + 6) % 7) 7 0) (τ ((np + 6) % 7) 8 0) (τ ((np + 6) % 7) 9 0) (τ ((np + 6) % 7) 0) (τ ((np + 6) % 7) 1) (τ ((np + 6) % 7) 2) (τ ((np + 6) % 7) 3) (τ ((np + 6) % 7) 4) (τ ((np + 6) % 7) 5) = some (r, nI np', nI kp', σ' 6 0, σ' 7 0, σ' 8 0, σ' 9 0, σ' 0, σ' 1, σ' 2, σ' 3, σ' 4, σ' 5) ∧ s_X5_undo (nI kp) f B = some (r, nI kp', f') ∧ RS σ' N' ∧ RM f' N' ∧ Inv N' c ∧ RG τ B np' kp' c ∧ np' < 7 ∧ kp' ≤ 6 ∧ ∀ j, 10 ≤ j → σ' j = σ j := by
  unfold s_X4_undo s_X5_undo
  by_cases k0 : kp = 0
  · subst k0
    refine ⟨-5, σ, f, N, np, 0, ?_, ?_, h, hf, I, hG, hn, by omega, fun _ _ => rfl⟩
    · rw [if_pos nI_0]
    · rw [if_pos nI_0]
  · have kn : ¬ nI kp = 0 := nI_ne0 (by omega) (by omega)
    have k1 : nI kp - 1 = nI (kp - 1) := pk_sub (b := 1) (by omega)
    obtain ⟨M, m1, m2, m3⟩ := hG (kp - 1) (by omega)
    rw [show (np + 7 - kp + (kp - 1)) % 7 = (np + 6) % 7 by omega] at m1
    obtain ⟨σ', ex, hx, hx2⟩ := cpS m1 σ
    obtain ⟨f', ef, hf'⟩ := mUn_l (B := B) (q := kp - 1) (kk := s_X5_undo_X1 (nI (kp - 1))) (by omega) 900 99 0 f (by omega) (fun k hk => absurd hk (by omega))
    have hG' : RG τ B ((np + 6) % 7) (kp - 1) c := fun j hj => by
      obtain ⟨M2, a1, a2, a3⟩ := hG j (by omega)
      exact ⟨M2, by rw [show ((np + 6) % 7 + 7 - (kp - 1) + j) % 7 = (np + 7 - kp + j) % 7 by omega]; exact a1, a2, a3⟩
    refine ⟨nI (kp - 1), σ', f', M, (np + 6) % 7, kp - 1, ?_, ?_, hx, fun k hk => (hf' k hk).trans (m2 k hk), m3, hG', by omega, by omega, hx2⟩
    · rw [if_neg kn, k1, nm_e']
      by_cases n0 : np = 0
      · subst n0
        rw [if_pos nI_0, cl_e (show s_X4_studioAt 7 hist 6 = some (some ad) from hh), cl_e ex]
        rfl
      · have e1 : nI np - 1 = nI ((np + 6) % 7) := by rw [show (np + 6) % 7 = np - 1 by omega]; exact pk_sub (b := 1) (by omega)
        rw [if_neg (nI_ne0 (by omega) (by omega)), nm_e', e1, cl_e hh, cl_e ex]
    · rw [if_neg kn, k1, nm_e']
      exact ef
def SL (τ : Nat → Nat → Nat → Int32) (Sv Is : Nat → Int32) (sl : Nat → Option Nat) (ad : Nat → Nat) (c : Nat) : Prop := ∀ s, s < 2 → (Is s = 0 ∧ sl s = none) ∨ (Is s = 1 ∧ sl s = some (ad (7 + s)) ∧ ∃ M : Nat → Nat, RS (τ (7 + s)) M ∧ (∀ k, k < 99 → Sv (99 * s + k) = nI (M k)) ∧ Inv M c)
theorem SL.mono {τ : Nat → Nat → Nat → Int32} {Sv Is : Nat → Int32} {sl : Nat → Option Nat} {ad : Nat → Nat} {c c' : Nat} (h : SL τ Sv Is sl ad c) (hc : c ≤ c') : SL τ Sv Is sl ad c' := fun s hs => by
  rcases h s hs with a | ⟨a, b, M, d, e, g⟩
  · exact Or.inl a
  · exact Or.inr ⟨a, b, M, d, e, g.mono hc⟩
theorem SL.off {τ : Nat → Nat → Nat → Int32} {Sv Is : Nat → Int32} {sl : Nat → Option Nat} {ad : Nat → Nat} {c p : Nat} (h : SL τ Sv Is sl ad c) (hp : p < 7) (x : Nat → Nat → Int32) : SL (upT τ p x) Sv Is sl ad c := fun s hs => by
  rw [upT_n (show 7 + s ≠ p by omega)]
  exact h s hs
theorem nar1 : vp_nar .boolean 1 = 1 := by decide
theorem B_save {σ : Nat → Nat → Int32} {τ : Nat → Nat → Nat → Int32} {f Sv Is : Nat → Int32} {N : Nat → Nat} {c s : Nat} (h : RS σ N) (hf : RM f N) (I : Inv N c) (hs : s < 2) : ∃ (Sv' : Nat → Int32), s_X5_save f Sv Is (nI s) = some (nI (su (po N) 8), Sv', upd Is s 1) ∧ s_X2_dropsInPots (σ 1) = some (nI (su (po N) 8)) ∧ (∀ k, k < 99 → Sv' (99 * s + k) = nI (N k)) ∧ (∀ k, (k < 99 * s ∨ 99 * s + 99 ≤ k) → Sv' k = Sv k) := by
  obtain ⟨y', e, a, b⟩ := mSv_l (f := f) (Y := Sv) (q := s) (kk := s_X5_save_X1 Is (nI s) f) (by omega) 900 99 0 Sv (by omega) (fun k hk => absurd hk (by omega)) (fun _ _ => rfl)
  have hin : s_X5_in (nI s) 0 1 = some 1 := by
    rcases in_cases (nI s) 0 1 with ⟨-, q | q⟩ | ⟨q, -⟩
    · exact absurd q (nI_pos (by omega))
    · exact absurd (show nI 1 < nI s from q) (nI_nlt (by omega) (by omega))
    · exact q
  refine ⟨y', ?_, cInP h.2.1, fun k hk => (a k hk).trans (hf k hk), b⟩
  unfold s_X5_save
  rw [cl_e hin, if_neg one_ne]
  refine Eq.trans e ?_
  unfold s_X5_save_X1
  rw [nar1, sto_n (by omega) (by omega), cl_e (mInP hf)]
theorem SL.save {σ : Nat → Nat → Int32} {τ : Nat → Nat → Nat → Int32} {Sv Sv' Is : Nat → Int32} {sl sl' : Nat → Option Nat} {ad ad' : Nat → Nat} {N : Nat → Nat} {c s : Nat} {x : Nat → Nat → Int32} (hS : SL τ Sv Is sl ad c) (I : Inv N c) (hs : s < 2) (hx : RS x N) (a : ∀ k, k < 99 → Sv' (99 * s + k) = nI (N k)) (b : ∀ k, (k < 99 * s ∨ 99 * s + 99 ≤ k) → Sv' k = Sv k) (h1 : sl' s = some (ad' (7 + s))) (h2 : ∀ k, k < 2 → k ≠ s → sl' k = sl k ∧ ad' (7 + k) = ad (7 + k)) : SL (upT τ (7 + s) x) Sv' (upd Is s 1) sl' ad' c := fun q hq => by
  by_cases e : q = s
  · subst e
    exact Or.inr ⟨pk_us, h1, N, by rw [upT_s]; exact hx, a, I⟩
  · obtain ⟨e1, e2⟩ := h2 q hq e
    rw [pk_un e, e1, e2, upT_n (show 7 + q ≠ 7 + s by omega)]
    rcases hS q hq with h | ⟨h3, h4, M, d, g, i⟩
    · exact Or.inl h
    · exact Or.inr ⟨h3, h4, M, d, fun k hk => (b _ (by omega)).trans (g k hk), i⟩
theorem cInit : ∃ r4 : Nat → Int32, s_X2_init = some r4 := by
  refine ⟨upd (upd (fun _ => 0) 0 3) 1 15, ?_⟩
  unfold s_X2_init
  rw [cl_e (show s_X4_write 2 (fun _ => 0) 0 3 = some (upd (fun _ => 0) 0 3) from write_n (a := 0) (n := 2) (by omega) (by omega)), cl_e (show s_X4_write 2 (upd (fun _ => 0) 0 3) 1 15 = some (upd (upd (fun _ => 0) 0 3) 1 15) from write_n (a := 1) (n := 2) (by omega) (by omega))]
theorem B_empty {σ : Nat → Nat → Int32} {f : Nat → Int32} {N : Nat → Nat} {c : Nat} (h : RS σ N) (hf : RM f N) (I : Inv N c) (x : Int32) : (s_X2_emptyPot (σ 8 0) (σ 1) x = some (-1, σ 8 0, σ 1) ∧ ∀ K F0 B, s_X5_empty K f F0 B x = some (-1, K, f, F0, B)) ∨ ∃ (r : Int32) (σ' : Nat → Nat → Int32) (f' : Nat → Int32) (N' : Nat → Nat), s_X2_emptyPot (σ 8 0) (σ 1) x = some (r, σ' 8 0, σ' 1) ∧ (∀ K F0 B F K' B', s_X5_hold f F0 = some F → s_X5_recorded K F B r = some (r, K', B') → s_X5_empty K f F0 B x = some (r, K', f', F, B')) ∧ RS σ' N' ∧ RM f' N' ∧ Inv N' c ∧ (∀ j, j ≠ 1 → j ≠ 8 → σ' j = σ j) := by
  unfold s_X2_emptyPot s_X5_empty
  rw [wi8]
  rcases in_cases x 0 7 with ⟨hx, -⟩ | ⟨hx, x1, x2⟩
  · refine Or.inl ⟨by rw [cl_e hx]; rfl, fun K F0 B => ?_⟩
    rw [isPot_l, cl_e hx]
    rfl
  obtain ⟨p, -, hp, rfl⟩ := rng_n (a := 0) (b := 7) (by omega) (by omega) x1 x2
  obtain ⟨σ', f1, e1, e2, e3, e4, hM, hS, I', hs⟩ := sink_b h hf I (p := p) (by omega)
  refine Or.inr ⟨nI (sm4 N (qp p)), σ', upd f1 4 (nI (N 4 + sm4 N (qp p))), skN N p, ?_, fun K F0 B F K' B' hF hr => ?_, hS, hM, I', hs⟩
  · rw [cl_e hx, if_neg one_ne, cl_e e1]
  · rw [isPot_l, cl_e hx, if_neg one_ne, cl_e hF, cl_e (mP p (by omega)), cl_e e2, cl_e (mP p (by omega)), cl_e e3, show (4 : Int32) = nI 4 from rfl, ld_n (by omega) (by omega), e4, nI_add, nm_e', sto_n (by omega) (by omega), cl_e hr]
theorem B_restore {σ : Nat → Nat → Int32} {f Sv Is F0 B : Nat → Int32} {K : Int32} {M : Nat → Nat} {s : Nat} (τs : Nat → Nat → Int32) (hs : s < 2) (h1 : Is s = 1) (hτ : RS τs M) (hSv : ∀ k, k < 99 → Sv (99 * s + k) = nI (M k)) : ∃ (σ' : Nat → Nat → Int32) (f' : Nat → Int32), s_X2_copyFrom (σ 0) (σ 1) (σ 2) (σ 3) (σ 4) (σ 5) (τs 6 0) (τs 7 0) (τs 8 0) (τs 9 0) (τs 0) (τs 1) (τs 2) (τs 3) (τs 4) (τs 5) = some (σ' 6 0, σ' 7 0, σ' 8 0, σ' 9 0, σ' 0, σ' 1, σ' 2, σ' 3, σ' 4, σ' 5) ∧ s_X2_dropsInPots (σ' 1) = some (nI (su (po M) 8)) ∧ RS σ' M ∧ RM f' M ∧ (∀ j, 10 ≤ j → σ' j = σ j) ∧ ∀ F K' B', s_X5_hold f F0 = some F → s_X5_recorded K F B (nI (su (po M) 8)) = some (nI (su (po M) 8), K', B') → s_X5_restore K f F0 B Sv Is (nI s) = some (nI (su (po M) 8), K', f', F, B') := by
  obtain ⟨σ', ex, hx, hx2⟩ := cpS hτ σ
  have hin : s_X5_in (nI s) 0 1 = some 1 := by
    rcases in_cases (nI s) 0 1 with ⟨-, q | q⟩ | ⟨q, -⟩
    · exact absurd q (nI_pos (by omega))
    · exact absurd (show nI 1 < nI s from q) (nI_nlt (by omega) (by omega))
    · exact q
  have base : ∃ f' : Nat → Int32, RM f' M ∧ ∀ kk, s_X5_restore_L1 Sv (nI s) kk 1000 (0, f) = kk f' := by
    refine ⟨fun k => if k < 99 then Sv (99 * s + k) else f k, fun k hk => by show (if k < 99 then Sv (99 * s + k) else f k) = _; rw [if_pos hk]; exact hSv k hk, fun kk => ?_⟩
    have G : ∀ (m i : Nat), i + m = 99 → s_X5_restore_L1 Sv (nI s) kk (900 + m + 1) (nI i, fun k => if k < i then Sv (99 * s + k) else f k) = kk (fun k => if k < 99 then Sv (99 * s + k) else f k) := by
      intro m
      induction m with
      | zero =>
        intro i hi
        have e : i = 99 := by omega
        subst e
        show s_X5_restore_B1 Sv (nI s) kk _ (nI 99) _ = _
        unfold s_X5_restore_B1
        rw [if_pos (show (99 : Int32) ≤ nI 99 from nI_le (a := 99) (b := 99) (by omega) (by omega))]
      | succ m ih =>
        intro i hi
        refine Eq.trans ?_ (ih (i + 1) (by omega))
        show s_X5_restore_B1 Sv (nI s) kk (s_X5_restore_L1 Sv (nI s) kk (900 + m + 1)) (nI i) _ = _
        unfold s_X5_restore_B1
        rw [if_neg (show ¬ (99 : Int32) ≤ nI i from nI_ge (a := i) (b := 99) (by omega) (by omega)), show (99 : Int32) * nI s = nI (99 * s) from pk_mul 99 s, nI_add, ld_n (by omega) (by omega), sto_n (by omega) (by omega), nm_e', nI_1]
        congr 2
        funext k
        unfold upd
        by_cases e : k = i
        · subst e
          rw [if_pos rfl, if_pos (by omega)]
        · rw [if_neg e]
          show (if k < i then Sv (99 * s + k) else f k) = (if k < i + 1 then Sv (99 * s + k) else f k)
          by_cases e2 : k < i
          · rw [if_pos e2, if_pos (by omega)]
          · rw [if_neg e2, if_neg (by omega)]
    have g0 := G 99 0 (by omega)
    rw [show (fun k => if k < 0 then Sv (99 * s + k) else f k) = f from funext fun k => if_neg (by omega)] at g0
    exact g0
  obtain ⟨f', hf', ef⟩ := base
  refine ⟨σ', f', ex, cInP hx.2.1, hx, hf', hx2, fun F K' B' hF hr => ?_⟩
  unfold s_X5_restore
  rw [cl_e hin, if_neg one_ne, ld_n hs (by omega), h1, if_neg one_ne, cl_e hF, ef]
  unfold s_X5_restore_X1
  rw [cl_e (mInP hf'), cl_e hr]
