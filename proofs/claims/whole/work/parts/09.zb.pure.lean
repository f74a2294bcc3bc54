-- pure: what is put into a pot, read
theorem num_n {S Pd : Nat → Int32} {t : Nat → Nat} {L i : Nat} (hR : RT S Pd t) (hL : L ≤ 60) (hi : i ≤ L) (h : ¬ (49 ≤ sg t L i ∧ sg t L i ≤ 57)) : s_X1_readNumber (nI L) (nI i) S = some (-1, nI i) := by
  have hs := sg_lt (i := i) hR hL
  have c1 : s_X1_readDigit (nI L) (nI i) S 1 9 = some (-1, nI i) := cDig_n hR hL (by omega) (by rw [d19 _ hs, if_neg h])
  unfold s_X1_readNumber
  rw [cl_e c1]
  dsimp only
  rw [if_pos (show (-1 : Int32) < 0 by decide)]
theorem zck1 {β : Type} {o : Option β} : zck 1 o = o := if_pos (Or.inr rfl)
theorem zck0 {β : Type} {o : Option β} : zck 0 o = o := if_pos (Or.inl rfl)
theorem fil_X2 {R : Nat → Int32} {w : Nat} {m : Int32} {x : Int32} (hw : w ≤ 31) (hm : m = 0 ∨ m = 1) : s_X5_filling_X2 (nI (6 * w)) (m, x, R) = some (m, x, upd R (6 * w) (nI 43)) := by
  unfold s_X5_filling_X2
  dsimp only
  rw [sto_n (by omega) (by omega)]
  rcases hm with rfl | rfl
  · rw [zck0]
    rfl
  · rw [zck1]
    rfl
theorem fil_0 {Pd R : Nat → Int32} {L w i fm : Nat} {x : Int32} (hw : w ≤ 31) : s_X5_filling_L2 (nI L) (nI w) Pd (nI (6 * w)) (s_X5_filling_X2 (nI (6 * w))) (fm + 1) (x, 0, nI i, R) = some (0, nI i, upd R (6 * w) (nI 43)) := by
  show s_X5_filling_B2 (nI L) (nI w) Pd (nI (6 * w)) (s_X5_filling_X2 (nI (6 * w))) (s_X5_filling_L2 (nI L) (nI w) Pd (nI (6 * w)) (s_X5_filling_X2 (nI (6 * w))) fm) x 0 (nI i) R = _
  unfold s_X5_filling_B2
  rw [if_pos rfl, fil_X2 hw (Or.inl rfl)]
def tailC (S f3 : Nat → Int32) (L i lo p : Nat) (bk : Int32 × Int32 × Int32 × (Nat → Int32) → Option (Int32 × Int32 × (Nat → Int32))) : Option (Int32 × Int32 × (Nat → Int32)) := cl (s_X1_readNumber (nI L) (nI i) S) fun r10 => if 0 ≤ r10.1 then (cl (s_X1_readKind (nI L) r10.2 S (nI lo - 1 + 1)) fun r12 => if 0 ≤ r12.1 then (cl (s_X4_write 4 f3 r12.1 r10.1) fun r14 => nm (nI p + 1) fun x15 => bk (r12.1, x15, r12.2, r14)) else (some (0, r12.2, f3))) else (some (0, r10.2, f3))
def tailM (Pd R : Nat → Int32) (L w i lo : Nat) (bk : Int32 × Int32 × Int32 × (Nat → Int32) → Option (Int32 × Int32 × (Nat → Int32))) : Option (Int32 × Int32 × (Nat → Int32)) := cl (s_X5_number (nI L) (nI w) (nI i) R Pd 0) fun r16 => ld 192 r16.2.2 (nI (6 * w)) fun x17 => if r16.1 = 0 then (bk (nI lo - 1, 0, r16.2.1, r16.2.2)) else (cl (s_X5_kind (nI L) r16.2.1 Pd (nI lo - 1)) fun r19 => if r19.1 = (-6) then (bk (nI lo - 1, 0, r19.2, r16.2.2)) else (sto 192 r16.2.2 ((nI (6 * w) + 2) + r19.1) x17 fun y21 => bk (r19.1, 1, r19.2, y21)))
def filP (S Pd R : Nat → Int32) (t : Nat → Nat) (L w i lo : Nat) (M : Option (Int32 × Int32 × (Nat → Int32))) (C : (Nat → Int32) → Option (Int32 × Int32 × (Nat → Int32))) : Prop := ∃ (c m : Int32) (i' : Nat) (R' : Nat → Int32), M = some (m, nI i', R') ∧ (∀ k, (k < 6 * w ∨ 6 * w + 6 ≤ k ∨ k = 6 * w + 1) → R' k = R k) ∧ R' (6 * w) = nI 43 ∧ i ≤ i' ∧ i' ≤ L ∧ ((c = 1 ∧ m = 1 ∧ (lo = 0 → i < i')) ∨ (c = 0 ∧ m = 0) ∨ (c = 0 ∧ m = 1 ∧ i' < L ∧ ¬ sg t L i' = 59)) ∧ ∀ f3 : Nat → Int32, (∀ k, k < 4 → f3 k = R (6 * w + 2 + k)) → ∃ f3' : Nat → Int32, C f3 = some (c, nI i', f3') ∧ (c = 1 → ∀ k, k < 4 → f3' k = R' (6 * w + 2 + k))
theorem fil_stop {S Pd R : Nat → Int32} {t : Nat → Nat} {L w i lo : Nat} (hw : w ≤ 31) (hi : i ≤ L) (h0 : ¬ lo = 0) : filP S Pd R t L w i lo (s_X5_filling_X2 (nI (6 * w)) (1, nI i, R)) (fun f3 => s_X1_readKinds_X1 (nI i, f3)) := by
  refine ⟨1, 1, i, upd R (6 * w) (nI 43), fil_X2 hw (Or.inr rfl), fun k hk => pk_un (by omega), pk_us, Nat.le_refl _, hi, Or.inl ⟨rfl, rfl, fun q => absurd q h0⟩, fun f3 hf => ⟨f3, rfl, fun _ k hk => ?_⟩⟩
  rw [pk_un (by omega)]
  exact hf k hk
theorem fil_tail {S Pd R : Nat → Int32} {t : Nat → Nat} {L w i lo p n fu fm : Nat} (hR : RT S Pd t) (hL : L ≤ 60) (hw : w ≤ 31) (hi : i ≤ L) (hlo : lo ≤ 3) (hp : p ≤ lo) (IH : ∀ (lo p i : Nat) (R : Nat → Int32), 4 ≤ lo + n → lo ≤ 4 → p ≤ lo → (p = 0 ↔ lo = 0) → i ≤ L → filP S Pd R t L w i lo (s_X5_filling_L2 (nI L) (nI w) Pd (nI (6 * w)) (s_X5_filling_X2 (nI (6 * w))) (fm + n + 1) (nI lo - 1, 1, nI i, R)) (fun f3 => s_X1_readKinds_L1 (nI L) S s_X1_readKinds_X1 (fu + n + 1) (nI lo - 1, nI p, nI i, f3))) (hn : 4 ≤ lo + (n + 1)) : filP S Pd R t L w i lo (tailM Pd R L w i lo (s_X5_filling_L2 (nI L) (nI w) Pd (nI (6 * w)) (s_X5_filling_X2 (nI (6 * w))) (fm + n + 1))) (fun f3 => tailC S f3 L i lo p (s_X1_readKinds_L1 (nI L) S s_X1_readKinds_X1 (fu + n + 1))) := by
  obtain ⟨cn, mn, v, i1, R1, en, em, off, hi1, hle, hc⟩ := num_b (R := R) (w := w) (u := 0) hR hL hi (by omega)
  have em' : s_X5_number (nI L) (nI w) (nI i) R Pd 0 = some (mn, nI i1, R1) := em
  have hsub : nI lo - 1 + 1 = nI lo := Int32.sub_add_cancel _ _
  have ld0 : ∀ {β : Type} (k : Int32 → Option β), ld 192 R1 (nI (6 * w)) k = k (R1 (6 * w)) := fun k => ld_n (by omega) (by omega)
  have fr : ∀ k, (k < 6 * w ∨ 6 * w + 6 ≤ k ∨ k = 6 * w + 1) → upd R1 (6 * w) (nI 43) k = R k := fun k hk => (pk_un (by omega)).trans (off k (by omega))
  have bad : ∀ x : Int32, s_X5_filling_L2 (nI L) (nI w) Pd (nI (6 * w)) (s_X5_filling_X2 (nI (6 * w))) (fm + n + 1) (x, 0, nI i1, R1) = some (0, nI i1, upd R1 (6 * w) (nI 43)) := fun x => fil_0 hw
  have n01 : ¬ (0 : Int32) = 1 := by decide
  rcases hc with ⟨rfl, rfl⟩ | ⟨rfl, rfl, hlt, hv, v1, v81⟩ | ⟨rfl, rfl, hlt, hi1L, g1, g2⟩
  · refine ⟨0, 0, i1, upd R1 (6 * w) (nI 43), ?_, fr, pk_us, hle, hi1, Or.inr (Or.inl ⟨rfl, rfl⟩), fun f3 hf => ⟨f3, ?_, fun q => absurd q n01⟩⟩
    · unfold tailM
      rw [cl_e em']
      dsimp only
      rw [ld0, if_pos rfl, bad]
    · show tailC S f3 L i lo p _ = _
      unfold tailC
      rw [cl_e en]
      dsimp only
      rw [if_neg (show ¬ (0 : Int32) ≤ -1 by decide)]
  · obtain ⟨ck, mk, κ, i2, ek, ekm, hi2, hk⟩ := kind_b (lo := lo) hR hL hi1 hlo
    have ek' : s_X1_readKind (nI L) (nI i1) S (nI lo - 1 + 1) = some (ck, nI i2) := by rw [hsub]; exact ek
    rcases hk with ⟨rfl, rfl, rfl⟩ | ⟨rfl, rfl, k1, k3, rfl, -, hi1L⟩
    · refine ⟨0, 0, i2, upd R1 (6 * w) (nI 43), ?_, fr, pk_us, hle, hi1, Or.inr (Or.inl ⟨rfl, rfl⟩), fun f3 hf => ⟨f3, ?_, fun q => absurd q n01⟩⟩
      · unfold tailM
        rw [cl_e em']
        dsimp only
        rw [ld0, if_neg one_ne, cl_e ekm]
        dsimp only
        rw [if_pos rfl, bad]
      · show tailC S f3 L i lo p _ = _
        unfold tailC
        rw [cl_e en]
        dsimp only
        rw [if_pos (show (0 : Int32) ≤ nI v from nI_pos' (by omega)), cl_e ek']
        dsimp only
        rw [if_neg (show ¬ (0 : Int32) ≤ -1 by decide)]
    · obtain ⟨c, m, i', R', eM, fM, zM, l1, l2, hcm, hC⟩ := IH (κ + 1) (p + 1) (i1 + 1) (upd R1 (6 * w + 2 + κ) (nI v)) (by omega) (by omega) (by omega) (by omega) (by omega)
      have k6 : ¬ nI κ = -6 := fun z => absurd (show nI κ < 0 by rw [z]; decide) (nI_pos (by omega))
      refine ⟨c, m, i', R', ?_, fun k hk => ?_, zM, by omega, l2, ?_, fun f3 hf => ?_⟩
      · unfold tailM
        rw [cl_e em']
        dsimp only
        rw [ld0, if_neg one_ne, cl_e ekm]
        dsimp only
        rw [if_neg k6, show nI (6 * w) + 2 = nI (6 * w + 2) from nI_add _ 2, nI_add, show R1 (6 * w) = nI v from hv, sto_n (by omega) (by omega)]
        rw [nI_pred] at eM
        exact eM
      · rw [fM k hk, pk_un (by omega)]
        exact off k (by omega)
      · rcases hcm with ⟨a, b, -⟩ | h | h
        · exact Or.inl ⟨a, b, fun _ => by omega⟩
        · exact Or.inr (Or.inl h)
        · exact Or.inr (Or.inr h)
      · obtain ⟨f3', eC, mC⟩ := hC (upd f3 κ (nI v)) (fun k hk => by
          by_cases e : k = κ
          · subst e; rw [pk_us, pk_us]
          · rw [pk_un e, pk_un (by omega), off _ (by omega)]; exact hf k hk)
        refine ⟨f3', ?_, mC⟩
        show tailC S f3 L i lo p _ = _
        unfold tailC
        rw [cl_e en]
        dsimp only
        rw [if_pos (show (0 : Int32) ≤ nI v from nI_pos' (by omega)), cl_e ek']
        dsimp only
        rw [if_pos (show (0 : Int32) ≤ nI κ from nI_pos' (by omega)), cl_e (write_n (by omega) (by omega)), nm_e', nI_1]
        have eC' : s_X1_readKinds_L1 (nI L) S s_X1_readKinds_X1 (fu + n + 1) (nI (κ + 1) - 1, nI (p + 1), nI (i1 + 1), upd f3 κ (nI v)) = some (c, nI i', f3') := eC
        rw [nI_pred] at eC'
        exact eC'
  · obtain ⟨ck, mk, κ, i2, ek, ekm, hi2, hk⟩ := kind_b (lo := lo) hR hL hi1 hlo
    rcases hk with ⟨rfl, rfl, rfl⟩ | ⟨-, -, -, -, -, k98, -⟩
    · refine ⟨0, 0, i2, upd R1 (6 * w) (nI 43), ?_, fr, pk_us, hle, hi1, Or.inr (Or.inl ⟨rfl, rfl⟩), fun f3 hf => ⟨f3, ?_, fun q => absurd q n01⟩⟩
      · unfold tailM
        rw [cl_e em']
        dsimp only
        rw [ld0, if_neg one_ne, cl_e ekm]
        dsimp only
        rw [if_pos rfl, bad]
      · show tailC S f3 L i lo p _ = _
        unfold tailC
        rw [cl_e en]
        dsimp only
        rw [if_neg (show ¬ (0 : Int32) ≤ -1 by decide)]
    · exact absurd k98 (by omega)
theorem cEnd {S Pd : Nat → Int32} {t : Nat → Nat} {L i : Nat} (hR : RT S Pd t) (hL : L ≤ 60) (hi : i ≤ L) : s_X1_isAtEndOfWork (nI L) (nI i) S = some (if L ≤ i ∨ sg t L i = 59 then 1 else 0) := by
  have hs := sg_lt (i := i) hR hL
  unfold s_X1_isAtEndOfWork
  by_cases h : L ≤ i
  · rw [if_pos (nI_le h (by omega)), if_pos (Or.inl h)]
  · rw [if_neg (nI_ge (by omega) (by omega)), cl_e (cSign hR hL (by omega))]
    by_cases h2 : sg t L i = 59
    · rw [h2, if_pos (show nI 59 = 59 from rfl), if_pos (Or.inr rfl)]
    · rw [if_neg (show ¬ nI (sg t L i) = 59 from fun q => h2 ((nI_eq (a := sg t L i) (b := 59) (by omega) (by omega)).mp q)), if_neg (fun q => q.elim h h2)]
theorem fil_l {S Pd : Nat → Int32} {t : Nat → Nat} {L w : Nat} (hR : RT S Pd t) (hL : L ≤ 60) (hw : w ≤ 31) (fu fm : Nat) : ∀ (n lo p i : Nat) (R : Nat → Int32), 4 ≤ lo + n → lo ≤ 4 → p ≤ lo → (p = 0 ↔ lo = 0) → i ≤ L → filP S Pd R t L w i lo (s_X5_filling_L2 (nI L) (nI w) Pd (nI (6 * w)) (s_X5_filling_X2 (nI (6 * w))) (fm + n + 1) (nI lo - 1, 1, nI i, R)) (fun f3 => s_X1_readKinds_L1 (nI L) S s_X1_readKinds_X1 (fu + n + 1) (nI lo - 1, nI p, nI i, f3)) := by
  intro n
  have stop4 : ∀ (x y p i : Nat) (R : Nat → Int32), p ≤ 4 → i ≤ L → filP S Pd R t L w i 4 (s_X5_filling_L2 (nI L) (nI w) Pd (nI (6 * w)) (s_X5_filling_X2 (nI (6 * w))) (x + 1) (nI 4 - 1, 1, nI i, R)) (fun f3 => s_X1_readKinds_L1 (nI L) S s_X1_readKinds_X1 (y + 1) (nI 4 - 1, nI p, nI i, f3)) := fun x y p i R hp hi => by
    have eM : s_X5_filling_L2 (nI L) (nI w) Pd (nI (6 * w)) (s_X5_filling_X2 (nI (6 * w))) (x + 1) (nI 4 - 1, 1, nI i, R) = s_X5_filling_X2 (nI (6 * w)) (1, nI i, R) := by
      show s_X5_filling_B2 (nI L) (nI w) Pd (nI (6 * w)) _ _ (nI 4 - 1) 1 (nI i) R = _
      unfold s_X5_filling_B2
      rw [if_neg one_ne, if_neg (show ¬ nI 4 - 1 < 0 by decide), if_pos (show (3 : Int32) ≤ nI 4 - 1 by decide)]
    have eC : (fun f3 => s_X1_readKinds_L1 (nI L) S s_X1_readKinds_X1 (y + 1) (nI 4 - 1, nI p, nI i, f3)) = fun f3 => s_X1_readKinds_X1 (nI i, f3) := by
      funext f3
      show s_X1_readKinds_B1 (nI L) S _ _ (nI 4 - 1) (nI p) (nI i) f3 = _
      unfold s_X1_readKinds_B1
      by_cases h : p = 4
      · rw [if_pos (show (4 : Int32) ≤ nI p by rw [h]; decide)]
      · rw [if_neg (show ¬ (4 : Int32) ≤ nI p from nI_ge (a := p) (b := 4) (by omega) (by omega)), if_pos (show (3 : Int32) ≤ nI 4 - 1 by decide)]
    rw [eM, eC]
    exact fil_stop hw hi (by omega)
  induction n with
  | zero =>
    intro lo p i R h1 h2 h3 h4 h5
    have e : lo = 4 := by omega
    subst e
    exact stop4 fm fu p i R h3 h5
  | succ n ih =>
    intro lo p i R h1 h2 h3 h4 h5
    by_cases e4 : lo = 4
    · subst e4
      exact stop4 (fm + (n + 1)) (fu + (n + 1)) p i R h3 h5
    have hlo : lo ≤ 3 := by omega
    have T := fil_tail (R := R) (fu := fu) (fm := fm) hR hL hw h5 hlo h3 ih h1
    have x3 : ¬ (3 : Int32) ≤ nI lo - 1 := by
      rcases (show lo = 0 ∨ lo = 1 ∨ lo = 2 ∨ lo = 3 by omega) with rfl | rfl | rfl | rfl <;> decide
    have p4 : ¬ (4 : Int32) ≤ nI p := nI_ge (a := p) (b := 4) (by omega) (by omega)
    have M0 : s_X5_filling_L2 (nI L) (nI w) Pd (nI (6 * w)) (s_X5_filling_X2 (nI (6 * w))) (fm + (n + 1) + 1) (nI lo - 1, 1, nI i, R) = s_X5_filling_B2 (nI L) (nI w) Pd (nI (6 * w)) (s_X5_filling_X2 (nI (6 * w))) (s_X5_filling_L2 (nI L) (nI w) Pd (nI (6 * w)) (s_X5_filling_X2 (nI (6 * w))) (fm + n + 1)) (nI lo - 1) 1 (nI i) R := rfl
    have C0 : ∀ f3, s_X1_readKinds_L1 (nI L) S s_X1_readKinds_X1 (fu + (n + 1) + 1) (nI lo - 1, nI p, nI i, f3) = s_X1_readKinds_B1 (nI L) S s_X1_readKinds_X1 (s_X1_readKinds_L1 (nI L) S s_X1_readKinds_X1 (fu + n + 1)) (nI lo - 1) (nI p) (nI i) f3 := fun f3 => rfl
    by_cases e0 : lo = 0
    · have p0 : p = 0 := h4.mpr e0
      have eM : s_X5_filling_B2 (nI L) (nI w) Pd (nI (6 * w)) (s_X5_filling_X2 (nI (6 * w))) (s_X5_filling_L2 (nI L) (nI w) Pd (nI (6 * w)) (s_X5_filling_X2 (nI (6 * w))) (fm + n + 1)) (nI lo - 1) 1 (nI i) R = tailM Pd R L w i lo (s_X5_filling_L2 (nI L) (nI w) Pd (nI (6 * w)) (s_X5_filling_X2 (nI (6 * w))) (fm + n + 1)) := by
        unfold s_X5_filling_B2
        rw [if_neg one_ne, if_pos (show nI lo - 1 < 0 by rw [e0]; decide)]
        rfl
      have eC : ∀ f3, s_X1_readKinds_B1 (nI L) S s_X1_readKinds_X1 (s_X1_readKinds_L1 (nI L) S s_X1_readKinds_X1 (fu + n + 1)) (nI lo - 1) (nI p) (nI i) f3 = tailC S f3 L i lo p (s_X1_readKinds_L1 (nI L) S s_X1_readKinds_X1 (fu + n + 1)) := fun f3 => by
        unfold s_X1_readKinds_B1
        rw [if_neg p4, if_neg x3, if_pos (show nI p = 0 by rw [p0]; rfl)]
        rfl
      rw [M0, eM, show (fun f3 => s_X1_readKinds_L1 (nI L) S s_X1_readKinds_X1 (fu + (n + 1) + 1) (nI lo - 1, nI p, nI i, f3)) = fun f3 => tailC S f3 L i lo p (s_X1_readKinds_L1 (nI L) S s_X1_readKinds_X1 (fu + n + 1)) from funext fun f3 => (C0 f3).trans (eC f3)]
      exact T
    · have pn : ¬ nI p = 0 := nI_ne0 (by omega) (by omega)
      have ln : ¬ nI lo - 1 < 0 := by
        rcases (show lo = 1 ∨ lo = 2 ∨ lo = 3 by omega) with rfl | rfl | rfl <;> decide
      have ce := cEnd (i := i) hR hL h5
      by_cases hd : 48 ≤ sg t L i ∧ sg t L i ≤ 57
      · obtain ⟨hiL, -⟩ := sg_in (t := t) (L := L) (i := i) (by omega)
        have ms : s_X5_isSign (nI L) (nI i) Pd 48 57 = some 1 := mSign_y (a := 48) (b := 57) hR hL (by omega) hd.1 hd.2 (by omega)
        have eM : s_X5_filling_B2 (nI L) (nI w) Pd (nI (6 * w)) (s_X5_filling_X2 (nI (6 * w))) (s_X5_filling_L2 (nI L) (nI w) Pd (nI (6 * w)) (s_X5_filling_X2 (nI (6 * w))) (fm + n + 1)) (nI lo - 1) 1 (nI i) R = tailM Pd R L w i lo (s_X5_filling_L2 (nI L) (nI w) Pd (nI (6 * w)) (s_X5_filling_X2 (nI (6 * w))) (fm + n + 1)) := by
          unfold s_X5_filling_B2
          rw [if_neg one_ne, if_neg ln, if_neg x3, cl_e ms, if_neg one_ne]
          rfl
        have eC : ∀ f3, s_X1_readKinds_B1 (nI L) S s_X1_readKinds_X1 (s_X1_readKinds_L1 (nI L) S s_X1_readKinds_X1 (fu + n + 1)) (nI lo - 1) (nI p) (nI i) f3 = tailC S f3 L i lo p (s_X1_readKinds_L1 (nI L) S s_X1_readKinds_X1 (fu + n + 1)) := fun f3 => by
          unfold s_X1_readKinds_B1
          rw [if_neg p4, if_neg x3, if_neg pn, cl_e ce, if_neg (show ¬ (L ≤ i ∨ sg t L i = 59) by omega), if_pos rfl]
          rfl
        rw [M0, eM, show (fun f3 => s_X1_readKinds_L1 (nI L) S s_X1_readKinds_X1 (fu + (n + 1) + 1) (nI lo - 1, nI p, nI i, f3)) = fun f3 => tailC S f3 L i lo p (s_X1_readKinds_L1 (nI L) S s_X1_readKinds_X1 (fu + n + 1)) from funext fun f3 => (C0 f3).trans (eC f3)]
        exact T
      · have ms : s_X5_isSign (nI L) (nI i) Pd 48 57 = some 0 := mSign_n' (a := 48) (b := 57) hR hL (by omega) hd (by omega) (by omega)
        have eM : s_X5_filling_B2 (nI L) (nI w) Pd (nI (6 * w)) (s_X5_filling_X2 (nI (6 * w))) (s_X5_filling_L2 (nI L) (nI w) Pd (nI (6 * w)) (s_X5_filling_X2 (nI (6 * w))) (fm + n + 1)) (nI lo - 1) 1 (nI i) R = s_X5_filling_X2 (nI (6 * w)) (1, nI i, R) := by
          unfold s_X5_filling_B2
          rw [if_neg one_ne, if_neg ln, if_neg x3, cl_e ms, if_pos rfl]
        by_cases he : L ≤ i ∨ sg t L i = 59
        · have eC : ∀ f3, s_X1_readKinds_B1 (nI L) S s_X1_readKinds_X1 (s_X1_readKinds_L1 (nI L) S s_X1_readKinds_X1 (fu + n + 1)) (nI lo - 1) (nI p) (nI i) f3 = s_X1_readKinds_X1 (nI i, f3) := fun f3 => by
            unfold s_X1_readKinds_B1
            rw [if_neg p4, if_neg x3, if_neg pn, cl_e ce, if_pos he, if_neg one_ne]
          rw [M0, eM, show (fun f3 => s_X1_readKinds_L1 (nI L) S s_X1_readKinds_X1 (fu + (n + 1) + 1) (nI lo - 1, nI p, nI i, f3)) = fun f3 => s_X1_readKinds_X1 (nI i, f3) from funext fun f3 => (C0 f3).trans (eC f3)]
          exact fil_stop hw h5 e0
        · have eC : ∀ f3, s_X1_readKinds_B1 (nI L) S s_X1_readKinds_X1 (s_X1_readKinds_L1 (nI L) S s_X1_readKinds_X1 (fu + n + 1)) (nI lo - 1) (nI p) (nI i) f3 = some (0, nI i, f3) := fun f3 => by
            unfold s_X1_readKinds_B1
            rw [if_neg p4, if_neg x3, if_neg pn, cl_e ce, if_neg he, if_pos rfl, cl_e (num_n hR hL h5 (by omega))]
            dsimp only
            rw [if_neg (show ¬ (0 : Int32) ≤ -1 by decide)]
          rw [M0, eM]
          refine ⟨0, 1, i, upd R (6 * w) (nI 43), fil_X2 hw (Or.inr rfl), fun k hk => pk_un (by omega), pk_us, Nat.le_refl _, h5, Or.inr (Or.inr ⟨rfl, rfl, by omega, fun q => he (Or.inr q)⟩), fun f3 hf => ⟨f3, (C0 f3).trans (eC f3), fun q => absurd q (by decide)⟩⟩
theorem mFz_s {R : Nat → Int32} {w k fu : Nat} {kk : (Nat → Int32) → Option (Int32 × Int32 × (Nat → Int32))} (hw : w ≤ 31) (hk : k < 4) : s_X5_filling_L1 (nI (6 * w)) kk (fu + 1) (nI k, R) = s_X5_filling_L1 (nI (6 * w)) kk fu (nI (k + 1), upd R (6 * w + 2 + k) 0) := by
  show s_X5_filling_B1 (nI (6 * w)) kk (s_X5_filling_L1 (nI (6 * w)) kk fu) (nI k) R = _
  unfold s_X5_filling_B1
  rw [if_neg (show ¬ (4 : Int32) ≤ nI k from nI_ge (a := k) (b := 4) (by omega) (by omega)), show nI (6 * w) + 2 = nI (6 * w + 2) from nI_add _ 2, nI_add, sto_n (by omega) (by omega), nm_e', nI_1]
theorem fil_b {S Pd : Nat → Int32} {t : Nat → Nat} {L w i : Nat} (hR : RT S Pd t) (hL : L ≤ 60) (hw : w ≤ 31) (hi : i ≤ L) (R : Nat → Int32) : ∃ (c m : Int32) (i' : Nat) (R' : Nat → Int32), s_X5_filling (nI L) (nI w) (nI i) R Pd = some (m, nI i', R') ∧ (∀ k, (k < 6 * w ∨ 6 * w + 6 ≤ k ∨ k = 6 * w + 1) → R' k = R k) ∧ R' (6 * w) = nI 43 ∧ i ≤ i' ∧ i' ≤ L ∧ ((c = 1 ∧ m = 1 ∧ i < i') ∨ (c = 0 ∧ m = 0) ∨ (c = 0 ∧ m = 1 ∧ i' < L ∧ ¬ sg t L i' = 59)) ∧ ∀ f3 : Nat → Int32, (∀ k, k < 4 → f3 k = 0) → ∃ f3' : Nat → Int32, s_X1_readKinds (nI L) (nI i) S f3 = some (c, nI i', f3') ∧ (c = 1 → ∀ k, k < 4 → f3' k = R' (6 * w + 2 + k)) := by
  have hz : ∀ k, k < 4 → upd (upd (upd (upd R (6 * w + 2 + 0) 0) (6 * w + 2 + 1) 0) (6 * w + 2 + 2) 0) (6 * w + 2 + 3) 0 (6 * w + 2 + k) = 0 := fun k hk => by
    rcases (show k = 0 ∨ k = 1 ∨ k = 2 ∨ k = 3 by omega) with rfl | rfl | rfl | rfl
    · rw [pk_un (by omega), pk_un (by omega), pk_un (by omega), pk_us]
    · rw [pk_un (by omega), pk_un (by omega), pk_us]
    · rw [pk_un (by omega), pk_us]
    · rw [pk_us]
  obtain ⟨c, m, i', R', eM, fM, zM, l1, l2, hcm, hC⟩ := fil_l hR hL hw 995 995 4 0 0 i (upd (upd (upd (upd R (6 * w + 2 + 0) 0) (6 * w + 2 + 1) 0) (6 * w + 2 + 2) 0) (6 * w + 2 + 3) 0) (by omega) (by omega) (by omega) (by omega) hi
  refine ⟨c, m, i', R', ?_, fun k hk => ?_, zM, l1, l2, ?_, fun f3 hf => ?_⟩
  · unfold s_X5_filling
    rw [nm_e', show (6 : Int32) * nI w = nI (6 * w) from pk_mul 6 w]
    refine (mFz_s (fu := 999) (k := 0) hw (by omega)).trans ?_
    refine (mFz_s (fu := 998) (k := 1) hw (by omega)).trans ?_
    refine (mFz_s (fu := 997) (k := 2) hw (by omega)).trans ?_
    refine (mFz_s (fu := 996) (k := 3) hw (by omega)).trans ?_
    show s_X5_filling_B1 _ _ _ (nI 4) _ = _
    unfold s_X5_filling_B1 s_X5_filling_X1
    rw [if_pos (show (4 : Int32) ≤ nI 4 by decide), show (-1 : Int32) = nI 0 - 1 by decide]
    exact eM
  · rw [fM k hk, pk_un (by omega), pk_un (by omega), pk_un (by omega), pk_un (by omega)]
  · rcases hcm with ⟨a, b, d⟩ | h | h
    · exact Or.inl ⟨a, b, d rfl⟩
    · exact Or.inr (Or.inl h)
    · exact Or.inr (Or.inr h)
  · obtain ⟨f3', eC, mC⟩ := hC f3 (fun k hk => by rw [hz k hk, hf k hk])
    refine ⟨f3', ?_, mC⟩
    unfold s_X1_readKinds
    rw [show (-1 : Int32) = nI 0 - 1 by decide]
    exact eC
