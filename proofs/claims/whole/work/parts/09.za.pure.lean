-- pure: reading signs, digits, numbers, kinds
def sg (t : Nat → Nat) (L i : Nat) : Nat := if i < L then t i else 0
theorem sg_lt {S Pd : Nat → Int32} {t : Nat → Nat} {L i : Nat} (hR : RT S Pd t) (hL : L ≤ 60) : sg t L i < 256 := by
  unfold sg
  split
  · exact (hR i (by omega)).2.2
  · omega
theorem sg_in {t : Nat → Nat} {L i : Nat} (h : 0 < sg t L i) : i < L ∧ sg t L i = t i := by
  unfold sg at h ⊢
  split at h
  · rename_i q
    exact ⟨q, if_pos q⟩
  · omega
theorem cSign {S Pd : Nat → Int32} {t : Nat → Nat} {L i : Nat} (hR : RT S Pd t) (hL : L ≤ 60) (hi : i ≤ 60) : s_X1_sign (nI L) (nI i) S = some (nI (sg t L i)) := by
  unfold s_X1_sign sg
  rw [if_neg (nI_pos (by omega))]
  by_cases h : i < L
  · rw [if_neg (show ¬ nI L ≤ nI i from nI_ge h (by omega)), if_pos (show nI i < (60 : Int32) from nI_lt (b := 60) (by omega) (by omega)), ld_n (by omega) (by omega), (hR i (by omega)).1, if_pos h]
  · rw [if_pos (show nI L ≤ nI i from nI_le (by omega) (by omega)), if_neg h]
    try rfl
theorem mSign_y {S Pd : Nat → Int32} {t : Nat → Nat} {L i a b : Nat} (hR : RT S Pd t) (hL : L ≤ 60) (a0 : 0 < a) (h1 : a ≤ sg t L i) (h2 : sg t L i ≤ b) (hb : b < 256) : s_X5_isSign (nI L) (nI i) Pd (nI a) (nI b) = some 1 := by
  obtain ⟨hi, e⟩ := sg_in (t := t) (L := L) (i := i) (by omega)
  have h3 := (hR i (by omega)).2.2
  unfold s_X5_isSign
  rw [if_neg (show ¬ nI L ≤ nI i from nI_ge hi (by omega)), ld_n (by omega) (by omega), (hR i (by omega)).2.1, if_neg (nI_nlt (by omega) (by omega)), ld_n (by omega) (by omega), (hR i (by omega)).2.1, if_neg (nI_nlt (by omega) (by omega))]
theorem mSign_n {S Pd : Nat → Int32} {t : Nat → Nat} {L i a b : Nat} (hR : RT S Pd t) (hL : L ≤ 60) (h : ¬ (a ≤ sg t L i ∧ sg t L i ≤ b)) (ha : a < 256) (hb : b < 256) : s_X5_isSign (nI L) (nI i) Pd (nI a) (nI b) = some 0 ∨ L ≤ i := by
  by_cases hi : i < L
  · refine Or.inl ?_
    have e : sg t L i = t i := if_pos hi
    have h3 := (hR i (by omega)).2.2
    rw [e] at h
    unfold s_X5_isSign
    rw [if_neg (show ¬ nI L ≤ nI i from nI_ge hi (by omega)), ld_n (by omega) (by omega), (hR i (by omega)).2.1]
    by_cases q : t i < a
    · rw [if_pos (nI_lt q (by omega))]
    · rw [if_neg (nI_nlt (by omega) (by omega)), ld_n (by omega) (by omega), (hR i (by omega)).2.1, if_pos (nI_lt (by omega) (by omega))]
  · exact Or.inr (by omega)
theorem mSign_e {Pd : Nat → Int32} {L i : Nat} {x y : Int32} (hL : L ≤ i) (hi : i ≤ 60) : s_X5_isSign (nI L) (nI i) Pd x y = some 0 := by
  unfold s_X5_isSign
  rw [if_pos (show nI L ≤ nI i from nI_le hL (by omega))]
theorem mSign_n' {S Pd : Nat → Int32} {t : Nat → Nat} {L i a b : Nat} (hR : RT S Pd t) (hL : L ≤ 60) (hi : i ≤ 60) (h : ¬ (a ≤ sg t L i ∧ sg t L i ≤ b)) (ha : a < 256) (hb : b < 256) : s_X5_isSign (nI L) (nI i) Pd (nI a) (nI b) = some 0 := (mSign_n hR hL h ha hb).elim id (fun q => mSign_e q hi)
theorem mAcc_y {S Pd : Nat → Int32} {t : Nat → Nat} {L i a : Nat} (hR : RT S Pd t) (hL : L ≤ 60) (a0 : 0 < a) (ha : a < 256) (h : sg t L i = a) : s_X5_accepts (nI L) (nI i) Pd (nI a) = some (1, nI (i + 1)) := by
  unfold s_X5_accepts
  rw [cl_e (mSign_y hR hL a0 (by omega) (by omega) ha), if_neg one_ne, nm_e', nI_1]
theorem mAcc_n {S Pd : Nat → Int32} {t : Nat → Nat} {L i a : Nat} (hR : RT S Pd t) (hL : L ≤ 60) (hi : i ≤ 60) (ha : a < 256) (h : ¬ sg t L i = a) : s_X5_accepts (nI L) (nI i) Pd (nI a) = some (0, nI i) := by
  unfold s_X5_accepts
  rw [cl_e (mSign_n' hR hL hi (by omega) ha ha), if_pos rfl, nm_e', show nI i + 0 = nI i from nI_add i 0]
theorem mDig_y {S Pd R : Nat → Int32} {t : Nat → Nat} {L i a b w u : Nat} (hR : RT S Pd t) (hL : L ≤ 60) (a0 : 48 ≤ a) (h1 : a ≤ sg t L i) (h2 : sg t L i ≤ b) (hb : b < 256) (hw : 6 * w + u < 192) : s_X5_digit (nI L) (nI w) (nI i) R Pd (nI u) (nI a) (nI b) = some (1, nI (i + 1), upd R (6 * w + u) (nI (sg t L i - 48))) := by
  obtain ⟨hi, e⟩ := sg_in (t := t) (L := L) (i := i) (by omega)
  unfold s_X5_digit
  rw [cl_e (mSign_y hR hL (by omega) h1 h2 hb), if_neg one_ne, ld_n (by omega) (by omega), (hR i (by omega)).2.1, nm_e', show nI (t i) - 48 = nI (t i - 48) from pk_sub (b := 48) (by omega), show (6 : Int32) * nI w = nI (6 * w) from pk_mul 6 w, nI_add, sto_n (by omega) (by omega), if_neg one_ne, nm_e', nI_1, e]
theorem mDig_n {S Pd R : Nat → Int32} {t : Nat → Nat} {L i a b w u : Nat} (hR : RT S Pd t) (hL : L ≤ 60) (hi : i ≤ 60) (h : ¬ (a ≤ sg t L i ∧ sg t L i ≤ b)) (ha : a < 256) (hb : b < 256) (hw : 6 * w + u < 192) : s_X5_digit (nI L) (nI w) (nI i) R Pd (nI u) (nI a) (nI b) = some (0, nI i, upd R (6 * w + u) 0) := by
  unfold s_X5_digit
  rw [cl_e (mSign_n' hR hL hi h ha hb), if_pos rfl, show (6 : Int32) * nI w = nI (6 * w) from pk_mul 6 w, nI_add, sto_n (by omega) (by omega), if_pos rfl, nm_e', show nI i + 0 = nI i from nI_add i 0]
theorem cDig_y {S Pd : Nat → Int32} {t : Nat → Nat} {L i : Nat} {x y : Int32} (hR : RT S Pd t) (hL : L ≤ 60) (hi : i ≤ 60) (h : s_X5_in (nI (sg t L i) - 48) x y = some 1) (h48 : 48 ≤ sg t L i) : s_X1_readDigit (nI L) (nI i) S x y = some (nI (sg t L i - 48), nI (i + 1)) := by
  unfold s_X1_readDigit
  rw [cl_e (cSign hR hL hi), nm_e', bt_l, cl_e h, if_neg one_ne, nm_e', nI_1, show nI (sg t L i) - 48 = nI (sg t L i - 48) from pk_sub (b := 48) h48]
theorem cDig_n {S Pd : Nat → Int32} {t : Nat → Nat} {L i : Nat} {x y : Int32} (hR : RT S Pd t) (hL : L ≤ 60) (hi : i ≤ 60) (h : s_X5_in (nI (sg t L i) - 48) x y = some 0) : s_X1_readDigit (nI L) (nI i) S x y = some (-1, nI i) := by
  unfold s_X1_readDigit
  rw [cl_e (cSign hR hL hi), nm_e', bt_l, cl_e h, if_pos rfl]
theorem d07 : ∀ s, s < 256 → s_X5_in (nI s - 48) 0 7 = some (if 48 ≤ s ∧ s ≤ 55 then 1 else 0) := by decide +kernel
theorem d05 : ∀ s, s < 256 → s_X5_in (nI s - 48) 0 5 = some (if 48 ≤ s ∧ s ≤ 53 then 1 else 0) := by decide +kernel
theorem d19 : ∀ s, s < 256 → s_X5_in (nI s - 48) 1 9 = some (if 49 ≤ s ∧ s ≤ 57 then 1 else 0) := by decide +kernel
theorem s09 : ∀ s, s < 256 → s_X5_in (nI s) 48 57 = some (if 48 ≤ s ∧ s ≤ 57 then 1 else 0) := by decide +kernel
theorem lim_ok : ∀ d, d < 10 → 1 ≤ d → ∀ s, s < 58 → 48 ≤ s → s_X5_in (nI s - 48) 0 (if 81 - 10 * nI d < 9 then 81 - 10 * nI d else 9) = some (if 10 * d + s ≤ 129 then 1 else 0) := by decide +kernel
theorem num_b {S Pd R : Nat → Int32} {t : Nat → Nat} {L i w u : Nat} (hR : RT S Pd t) (hL : L ≤ 60) (hi : i ≤ L) (hw : 6 * w + u < 192) : ∃ (c m : Int32) (v i' : Nat) (R' : Nat → Int32), s_X1_readNumber (nI L) (nI i) S = some (c, nI i') ∧ s_X5_number (nI L) (nI w) (nI i) R Pd (nI u) = some (m, nI i', R') ∧ (∀ k, k ≠ 6 * w + u → R' k = R k) ∧ i' ≤ L ∧ i ≤ i' ∧ ((c = -1 ∧ m = 0) ∨ (c = nI v ∧ m = 1 ∧ i < i' ∧ R' (6 * w + u) = nI v ∧ 1 ≤ v ∧ v ≤ 81) ∨ (c = -1 ∧ m = 1 ∧ i < i' ∧ i' < L ∧ 48 ≤ sg t L i' ∧ sg t L i' ≤ 57)) := by
  have hs := sg_lt (i := i) hR hL
  have hs1 := sg_lt (i := i + 1) hR hL
  have ew : (6 : Int32) * nI w + nI u = nI (6 * w + u) := by rw [show (6 : Int32) * nI w = nI (6 * w) from pk_mul 6 w, nI_add]
  unfold s_X1_readNumber s_X5_number
  by_cases h1 : 49 ≤ sg t L i ∧ sg t L i ≤ 57
  · obtain ⟨hiL, -⟩ := sg_in (t := t) (L := L) (i := i) (by omega)
    have c1 : s_X1_readDigit (nI L) (nI i) S 1 9 = some (nI (sg t L i - 48), nI (i + 1)) := cDig_y hR hL (by omega) (by rw [d19 _ hs, if_pos h1]) (by omega)
    have m1 : s_X5_digit (nI L) (nI w) (nI i) R Pd (nI u) 49 57 = some (1, nI (i + 1), upd R (6 * w + u) (nI (sg t L i - 48))) := mDig_y (a := 49) (b := 57) hR hL (by omega) h1.1 h1.2 (by omega) hw
    have nn : ¬ nI (sg t L i - 48) < 0 := nI_pos (by omega)
    have cs := cSign hR hL (i := i + 1) (by omega)
    have off : ∀ k, k ≠ 6 * w + u → upd R (6 * w + u) (nI (sg t L i - 48)) k = R k := fun k hk => pk_un hk
    rw [cl_e c1, cl_e m1]
    dsimp only
    rw [if_neg nn, if_neg one_ne, cl_e cs, bt_l, cl_e (s09 _ hs1), ew, ld_n (by omega) (by omega), pk_us]
    by_cases h2 : 48 ≤ sg t L (i + 1) ∧ sg t L (i + 1) ≤ 57
    · obtain ⟨hi2, e2⟩ := sg_in (t := t) (L := L) (i := i + 1) (by omega)
      have ms : s_X5_isSign (nI L) (nI (i + 1)) Pd 48 57 = some 1 := mSign_y (a := 48) (b := 57) hR hL (by omega) h2.1 h2.2 (by omega)
      have lim := lim_ok (sg t L i - 48) (by omega) (by omega) (sg t L (i + 1)) (by omega) (by omega)
      have es : ∀ x : Int32, x = nI (t (i + 1)) → (10 : Int32) * nI (sg t L i - 48) + x - 48 = nI (10 * (sg t L i - 48) + sg t L (i + 1) - 48) := fun x hx => by
        rw [hx, show (10 : Int32) * nI (sg t L i - 48) = nI (10 * (sg t L i - 48)) from pk_mul 10 _, nI_add, e2]
        exact pk_sub (b := 48) (by omega)
      rw [if_pos h2, if_neg one_ne, nm_e', cl_e ms, if_neg one_ne, ld_n (by omega) (by omega), es _ (hR (i + 1) (by omega)).2.1]
      by_cases h3 : 10 * (sg t L i - 48) + sg t L (i + 1) ≤ 129
      · have c2 := cDig_y (i := i + 1) hR hL (by omega) (lim.trans (by rw [if_pos h3])) (by omega)
        refine ⟨nI (10 * (sg t L i - 48) + sg t L (i + 1) - 48), 1, 10 * (sg t L i - 48) + sg t L (i + 1) - 48, i + 2, upd (upd R (6 * w + u) (nI (sg t L i - 48))) (6 * w + u) (nI (10 * (sg t L i - 48) + sg t L (i + 1) - 48)), ?_, ?_, fun k hk => (pk_un hk).trans (off k hk), by omega, by omega, Or.inr (Or.inl ⟨rfl, rfl, by omega, pk_us, by omega, by omega⟩)⟩
        · rw [cl_e c2]
          dsimp only
          rw [if_pos (show (0 : Int32) ≤ nI (sg t L (i + 1) - 48) from nI_pos' (by omega)), show (10 : Int32) * nI (sg t L i - 48) = nI (10 * (sg t L i - 48)) from pk_mul 10 _, nI_add, show 10 * (sg t L i - 48) + (sg t L (i + 1) - 48) = 10 * (sg t L i - 48) + sg t L (i + 1) - 48 by omega]
        · rw [if_neg (show ¬ (81 : Int32) < nI (10 * (sg t L i - 48) + sg t L (i + 1) - 48) from nI_nlt (a := 81) (by omega) (by omega)), ld_n (by omega) (by omega), es _ (hR (i + 1) (by omega)).2.1, nm_e', sto_n (by omega) (by omega), nm_e', nI_1]
      · have c2 := cDig_n (i := i + 1) hR hL (by omega) (lim.trans (by rw [if_neg h3]))
        refine ⟨-1, 1, 0, i + 1, upd R (6 * w + u) (nI (sg t L i - 48)), ?_, ?_, off, by omega, by omega, Or.inr (Or.inr ⟨rfl, rfl, by omega, by omega, h2.1, h2.2⟩)⟩
        · rw [cl_e c2]
          dsimp only
          rw [if_neg (show ¬ (0 : Int32) ≤ -1 by decide)]
        · rw [if_pos (show (81 : Int32) < nI (10 * (sg t L i - 48) + sg t L (i + 1) - 48) from nI_lt (a := 81) (by omega) (by omega))]
    · have ms : s_X5_isSign (nI L) (nI (i + 1)) Pd 48 57 = some 0 := mSign_n' (a := 48) (b := 57) hR hL (by omega) h2 (by omega) (by omega)
      refine ⟨nI (sg t L i - 48), 1, sg t L i - 48, i + 1, upd R (6 * w + u) (nI (sg t L i - 48)), ?_, ?_, off, by omega, by omega, Or.inr (Or.inl ⟨rfl, rfl, by omega, pk_us, by omega, by omega⟩)⟩
      · rw [if_neg h2, if_pos rfl]
      · rw [cl_e ms, if_pos rfl]
  · have c1 : s_X1_readDigit (nI L) (nI i) S 1 9 = some (-1, nI i) := cDig_n hR hL (by omega) (by rw [d19 _ hs, if_neg h1])
    have m1 : s_X5_digit (nI L) (nI w) (nI i) R Pd (nI u) 49 57 = some (0, nI i, upd R (6 * w + u) 0) := mDig_n (a := 49) (b := 57) hR hL (by omega) h1 (by omega) (by omega) hw
    refine ⟨-1, 0, 0, i, upd R (6 * w + u) 0, ?_, ?_, fun k hk => pk_un hk, hi, by omega, Or.inl ⟨rfl, rfl⟩⟩
    · rw [cl_e c1]
      dsimp only
      rw [if_pos (show (-1 : Int32) < 0 by decide)]
    · rw [cl_e m1]
      dsimp only
      rw [if_pos rfl]
theorem ko_n : ∀ s, s < 256 → ¬ s = 114 → ¬ s = 121 → ¬ s = 98 → ¬ s = 116 → s_X1_kindOf (nI s) = some (-1) := fun s hs n114 n121 n98 n116 => by
  have ne : ∀ n, n < 256 → ¬ s = n → ¬ nI s = nI n := fun n hn h q => h ((nI_eq (by omega) (by omega)).mp q)
  unfold s_X1_kindOf
  rw [if_neg (show ¬ nI s = 98 from ne 98 (by omega) n98), if_neg (show ¬ nI s = 114 from ne 114 (by omega) n114), if_neg (show ¬ nI s = 116 from ne 116 (by omega) n116), if_neg (show ¬ nI s = 121 from ne 121 (by omega) n121)]
theorem kind_b {S Pd : Nat → Int32} {t : Nat → Nat} {L i lo : Nat} (hR : RT S Pd t) (hL : L ≤ 60) (hi : i ≤ L) (hlo : lo ≤ 3) : ∃ (c m : Int32) (κ i' : Nat), s_X1_readKind (nI L) (nI i) S (nI lo) = some (c, nI i') ∧ s_X5_kind (nI L) (nI i) Pd (nI lo - 1) = some (m, nI i') ∧ i' ≤ L ∧ ((c = -1 ∧ m = -6 ∧ i' = i) ∨ (c = nI κ ∧ m = nI κ ∧ lo ≤ κ ∧ κ ≤ 3 ∧ i' = i + 1 ∧ 98 ≤ sg t L i ∧ i < L)) := by
  have hs := sg_lt (i := i) hR hL
  have cs := cSign hR hL (i := i) (by omega)
  have z0 : nI (i + 1) - 0 = nI (i + 1) := Int32.sub_zero _
  unfold s_X1_readKind s_X5_kind
  by_cases h114 : sg t L i = 114
  · obtain ⟨hiL, -⟩ := sg_in (t := t) (L := L) (i := i) (by omega)
    have ko : s_X1_kindOf (nI 114) = some 0 := by decide
    rw [cl_e cs, h114, cl_e ko]
    have mA : s_X5_accepts (nI L) (nI i) Pd 114 = some (1, nI (i + 1)) := mAcc_y (a := 114) hR hL (by omega) (by omega) h114
    rw [cl_e mA]
    dsimp only
    rw [if_neg one_ne]
    rcases (show lo = 0 ∨ lo = 1 ∨ lo = 2 ∨ lo = 3 by omega) with rfl | rfl | rfl | rfl
    · refine ⟨nI 0, nI 0, 0, i + 1, ?_, ?_, by omega, Or.inr ⟨rfl, rfl, by omega, by omega, rfl, by omega, hiL⟩⟩
      · rw [if_pos (show nI 0 ≤ (0 : Int32) by decide), nm_e', nI_1]
        try rfl
      · rw [if_pos (show nI 0 - 1 < (0 : Int32) by decide), nm_e', if_pos (show nI 0 - 1 < (0 : Int32) by decide), z0]
        try rfl
    · refine ⟨-1, -6, 0, i, ?_, ?_, by omega, Or.inl ⟨rfl, rfl, rfl⟩⟩
      · rw [if_neg (show ¬ nI 1 ≤ (0 : Int32) by decide)]
      · rw [if_neg (show ¬ nI 1 - 1 < (0 : Int32) by decide), nm_e', if_neg (show ¬ nI 1 - 1 < (0 : Int32) by decide), nI_pred]
    · refine ⟨-1, -6, 0, i, ?_, ?_, by omega, Or.inl ⟨rfl, rfl, rfl⟩⟩
      · rw [if_neg (show ¬ nI 2 ≤ (0 : Int32) by decide)]
      · rw [if_neg (show ¬ nI 2 - 1 < (0 : Int32) by decide), nm_e', if_neg (show ¬ nI 2 - 1 < (0 : Int32) by decide), nI_pred]
    · refine ⟨-1, -6, 0, i, ?_, ?_, by omega, Or.inl ⟨rfl, rfl, rfl⟩⟩
      · rw [if_neg (show ¬ nI 3 ≤ (0 : Int32) by decide)]
      · rw [if_neg (show ¬ nI 3 - 1 < (0 : Int32) by decide), nm_e', if_neg (show ¬ nI 3 - 1 < (0 : Int32) by decide), nI_pred]
  by_cases h121 : sg t L i = 121
  · obtain ⟨hiL, -⟩ := sg_in (t := t) (L := L) (i := i) (by omega)
    have ko : s_X1_kindOf (nI 121) = some 1 := by decide
    rw [cl_e cs, h121, cl_e ko]
    have mA : s_X5_accepts (nI L) (nI i) Pd 121 = some (1, nI (i + 1)) := mAcc_y (a := 121) hR hL (by omega) (by omega) h121
    rw [cl_e (show s_X5_accepts (nI L) (nI i) Pd 114 = some (0, nI i) from mAcc_n (a := 114) hR hL (by omega) (by omega) h114)]
    dsimp only
    rw [if_pos rfl]
    rw [cl_e mA]
    dsimp only
    rw [if_neg one_ne]
    rcases (show lo = 0 ∨ lo = 1 ∨ lo = 2 ∨ lo = 3 by omega) with rfl | rfl | rfl | rfl
    · refine ⟨nI 1, nI 1, 1, i + 1, ?_, ?_, by omega, Or.inr ⟨rfl, rfl, by omega, by omega, rfl, by omega, hiL⟩⟩
      · rw [if_pos (show nI 0 ≤ (1 : Int32) by decide), nm_e', nI_1]
        try rfl
      · rw [if_pos (show nI 0 - 1 < (1 : Int32) by decide), nm_e', if_pos (show nI 0 - 1 < (1 : Int32) by decide), z0]
        try rfl
    · refine ⟨nI 1, nI 1, 1, i + 1, ?_, ?_, by omega, Or.inr ⟨rfl, rfl, by omega, by omega, rfl, by omega, hiL⟩⟩
      · rw [if_pos (show nI 1 ≤ (1 : Int32) by decide), nm_e', nI_1]
        try rfl
      · rw [if_pos (show nI 1 - 1 < (1 : Int32) by decide), nm_e', if_pos (show nI 1 - 1 < (1 : Int32) by decide), z0]
        try rfl
    · refine ⟨-1, -6, 0, i, ?_, ?_, by omega, Or.inl ⟨rfl, rfl, rfl⟩⟩
      · rw [if_neg (show ¬ nI 2 ≤ (1 : Int32) by decide)]
      · rw [if_neg (show ¬ nI 2 - 1 < (1 : Int32) by decide), nm_e', if_neg (show ¬ nI 2 - 1 < (1 : Int32) by decide), nI_pred]
    · refine ⟨-1, -6, 0, i, ?_, ?_, by omega, Or.inl ⟨rfl, rfl, rfl⟩⟩
      · rw [if_neg (show ¬ nI 3 ≤ (1 : Int32) by decide)]
      · rw [if_neg (show ¬ nI 3 - 1 < (1 : Int32) by decide), nm_e', if_neg (show ¬ nI 3 - 1 < (1 : Int32) by decide), nI_pred]
  by_cases h98 : sg t L i = 98
  · obtain ⟨hiL, -⟩ := sg_in (t := t) (L := L) (i := i) (by omega)
    have ko : s_X1_kindOf (nI 98) = some 2 := by decide
    rw [cl_e cs, h98, cl_e ko]
    have mA : s_X5_accepts (nI L) (nI i) Pd 98 = some (1, nI (i + 1)) := mAcc_y (a := 98) hR hL (by omega) (by omega) h98
    rw [cl_e (show s_X5_accepts (nI L) (nI i) Pd 114 = some (0, nI i) from mAcc_n (a := 114) hR hL (by omega) (by omega) h114)]
    dsimp only
    rw [if_pos rfl]
    rw [cl_e (show s_X5_accepts (nI L) (nI i) Pd 121 = some (0, nI i) from mAcc_n (a := 121) hR hL (by omega) (by omega) h121)]
    dsimp only
    rw [if_pos rfl]
    rw [cl_e mA]
    dsimp only
    rw [if_neg one_ne]
    rcases (show lo = 0 ∨ lo = 1 ∨ lo = 2 ∨ lo = 3 by omega) with rfl | rfl | rfl | rfl
    · refine ⟨nI 2, nI 2, 2, i + 1, ?_, ?_, by omega, Or.inr ⟨rfl, rfl, by omega, by omega, rfl, by omega, hiL⟩⟩
      · rw [if_pos (show nI 0 ≤ (2 : Int32) by decide), nm_e', nI_1]
        try rfl
      · rw [if_pos (show nI 0 - 1 < (2 : Int32) by decide), nm_e', if_pos (show nI 0 - 1 < (2 : Int32) by decide), z0]
        try rfl
    · refine ⟨nI 2, nI 2, 2, i + 1, ?_, ?_, by omega, Or.inr ⟨rfl, rfl, by omega, by omega, rfl, by omega, hiL⟩⟩
      · rw [if_pos (show nI 1 ≤ (2 : Int32) by decide), nm_e', nI_1]
        try rfl
      · rw [if_pos (show nI 1 - 1 < (2 : Int32) by decide), nm_e', if_pos (show nI 1 - 1 < (2 : Int32) by decide), z0]
        try rfl
    · refine ⟨nI 2, nI 2, 2, i + 1, ?_, ?_, by omega, Or.inr ⟨rfl, rfl, by omega, by omega, rfl, by omega, hiL⟩⟩
      · rw [if_pos (show nI 2 ≤ (2 : Int32) by decide), nm_e', nI_1]
        try rfl
      · rw [if_pos (show nI 2 - 1 < (2 : Int32) by decide), nm_e', if_pos (show nI 2 - 1 < (2 : Int32) by decide), z0]
        try rfl
    · refine ⟨-1, -6, 0, i, ?_, ?_, by omega, Or.inl ⟨rfl, rfl, rfl⟩⟩
      · rw [if_neg (show ¬ nI 3 ≤ (2 : Int32) by decide)]
      · rw [if_neg (show ¬ nI 3 - 1 < (2 : Int32) by decide), nm_e', if_neg (show ¬ nI 3 - 1 < (2 : Int32) by decide), nI_pred]
  by_cases h116 : sg t L i = 116
  · obtain ⟨hiL, -⟩ := sg_in (t := t) (L := L) (i := i) (by omega)
    have ko : s_X1_kindOf (nI 116) = some 3 := by decide
    rw [cl_e cs, h116, cl_e ko]
    have mA : s_X5_accepts (nI L) (nI i) Pd 116 = some (1, nI (i + 1)) := mAcc_y (a := 116) hR hL (by omega) (by omega) h116
    rw [cl_e (show s_X5_accepts (nI L) (nI i) Pd 114 = some (0, nI i) from mAcc_n (a := 114) hR hL (by omega) (by omega) h114)]
    dsimp only
    rw [if_pos rfl]
    rw [cl_e (show s_X5_accepts (nI L) (nI i) Pd 121 = some (0, nI i) from mAcc_n (a := 121) hR hL (by omega) (by omega) h121)]
    dsimp only
    rw [if_pos rfl]
    rw [cl_e (show s_X5_accepts (nI L) (nI i) Pd 98 = some (0, nI i) from mAcc_n (a := 98) hR hL (by omega) (by omega) h98)]
    dsimp only
    rw [if_pos rfl]
    rw [cl_e mA]
    dsimp only
    rw [if_neg one_ne]
    rcases (show lo = 0 ∨ lo = 1 ∨ lo = 2 ∨ lo = 3 by omega) with rfl | rfl | rfl | rfl
    · refine ⟨nI 3, nI 3, 3, i + 1, ?_, ?_, by omega, Or.inr ⟨rfl, rfl, by omega, by omega, rfl, by omega, hiL⟩⟩
      · rw [if_pos (show nI 0 ≤ (3 : Int32) by decide), nm_e', nI_1]
        try rfl
      · rw [if_pos (show nI 0 - 1 < (3 : Int32) by decide), nm_e', if_pos (show nI 0 - 1 < (3 : Int32) by decide), z0]
        try rfl
    · refine ⟨nI 3, nI 3, 3, i + 1, ?_, ?_, by omega, Or.inr ⟨rfl, rfl, by omega, by omega, rfl, by omega, hiL⟩⟩
      · rw [if_pos (show nI 1 ≤ (3 : Int32) by decide), nm_e', nI_1]
        try rfl
      · rw [if_pos (show nI 1 - 1 < (3 : Int32) by decide), nm_e', if_pos (show nI 1 - 1 < (3 : Int32) by decide), z0]
        try rfl
    · refine ⟨nI 3, nI 3, 3, i + 1, ?_, ?_, by omega, Or.inr ⟨rfl, rfl, by omega, by omega, rfl, by omega, hiL⟩⟩
      · rw [if_pos (show nI 2 ≤ (3 : Int32) by decide), nm_e', nI_1]
        try rfl
      · rw [if_pos (show nI 2 - 1 < (3 : Int32) by decide), nm_e', if_pos (show nI 2 - 1 < (3 : Int32) by decide), z0]
        try rfl
    · refine ⟨nI 3, nI 3, 3, i + 1, ?_, ?_, by omega, Or.inr ⟨rfl, rfl, by omega, by omega, rfl, by omega, hiL⟩⟩
      · rw [if_pos (show nI 3 ≤ (3 : Int32) by decide), nm_e', nI_1]
        try rfl
      · rw [if_pos (show nI 3 - 1 < (3 : Int32) by decide), nm_e', if_pos (show nI 3 - 1 < (3 : Int32) by decide), z0]
        try rfl
  rw [cl_e cs, cl_e (ko_n _ hs h114 h121 h98 h116)]
  rw [cl_e (show s_X5_accepts (nI L) (nI i) Pd 114 = some (0, nI i) from mAcc_n (a := 114) hR hL (by omega) (by omega) h114)]
  dsimp only
  rw [if_pos rfl]
  rw [cl_e (show s_X5_accepts (nI L) (nI i) Pd 121 = some (0, nI i) from mAcc_n (a := 121) hR hL (by omega) (by omega) h121)]
  dsimp only
  rw [if_pos rfl]
  rw [cl_e (show s_X5_accepts (nI L) (nI i) Pd 98 = some (0, nI i) from mAcc_n (a := 98) hR hL (by omega) (by omega) h98)]
  dsimp only
  rw [if_pos rfl]
  rw [cl_e (show s_X5_accepts (nI L) (nI i) Pd 116 = some (0, nI i) from mAcc_n (a := 116) hR hL (by omega) (by omega) h116)]
  dsimp only
  rw [if_pos rfl]
  refine ⟨-1, -6, 0, i, ?_, ?_, by omega, Or.inl ⟨rfl, rfl, rfl⟩⟩
  · rw [if_neg (show ¬ nI lo ≤ (-1 : Int32) from fun q => absurd (Int32.lt_of_le_of_lt q (show (-1 : Int32) < 0 by decide)) (nI_pos (by omega)))]
  · rw [nm_e', ite_self, Int32.sub_zero]
