-- pure: a work, read
theorem cW_43 {S f3 z : Nat → Int32} {L : Nat} {g02 a b g0 g1 g2 g3 : Int32} (h1 : s_X1_readDigit (nI L) g02 S 0 7 = some (a, b)) (hs : s_X1_sign (nI L) b S = some 43) (ha : ¬ a < 0) (hb : s_X3_begin f3 43 a = some (43, a, 0, 0, z)) : s_X1_readWork (nI L) g02 S g0 g1 g2 g3 f3 = cl (s_X1_readKinds (nI L) (b + 1) S z) fun r => some (r.1, r.2.1, 43, a, 0, 0, r.2.2) := by
  unfold s_X1_readWork
  rw [cl_e h1]
  dsimp only
  rw [cl_e hs, if_pos (show (43 : Int32) = 43 from rfl), if_neg (show ¬ (43 : Int32) = 100 by decide), if_neg (show ¬ (43 : Int32) = 112 by decide), if_neg (show ¬ (43 : Int32) = 114 by decide), if_neg ha, nm_e', cl_e hb]
  dsimp only
  rw [if_pos (show (43 : Int32) = 43 from rfl)]
theorem cW_33 {S f3 z : Nat → Int32} {L : Nat} {g02 a b g0 g1 g2 g3 : Int32} (h1 : s_X1_readDigit (nI L) g02 S 0 7 = some (a, b)) (hs : s_X1_sign (nI L) b S = some 33) (ha : ¬ a < 0) (hb : s_X3_begin f3 33 a = some (33, a, 0, 0, z)) : s_X1_readWork (nI L) g02 S g0 g1 g2 g3 f3 = some (1, b + 1, 33, a, 0, 0, z) := by
  unfold s_X1_readWork
  rw [cl_e h1]
  dsimp only
  rw [cl_e hs, if_neg (show ¬ (33 : Int32) = 43 by decide), if_pos (show (33 : Int32) = 33 from rfl), if_neg (show ¬ (33 : Int32) = 100 by decide), if_neg (show ¬ (33 : Int32) = 112 by decide), if_neg (show ¬ (33 : Int32) = 114 by decide), if_neg ha, nm_e', cl_e hb]
  dsimp only
  rw [if_neg (show ¬ (33 : Int32) = 43 by decide), if_neg (show ¬ (33 : Int32) = 62 by decide), if_neg (show ¬ (33 : Int32) = 100 by decide), if_neg (show ¬ (33 : Int32) = 112 by decide)]
theorem cW_62 {S f3 z : Nat → Int32} {L : Nat} {g02 a b g0 g1 g2 g3 : Int32} (h1 : s_X1_readDigit (nI L) g02 S 0 7 = some (a, b)) (hs : s_X1_sign (nI L) b S = some 62) (ha : ¬ a < 0) (hb : s_X3_begin f3 62 a = some (62, a, 0, 0, z)) : s_X1_readWork (nI L) g02 S g0 g1 g2 g3 f3 = cl (s_X1_readOther (nI L) (b + 1) S) fun r500 => if r500.1 = 0 then (some (0, r500.2.1, 62, a, r500.2.2, 0, z)) else (cl (s_X1_readSign (nI L) r500.2.1 S 58) fun r502 => if r502.1 = 0 then (some (0, r502.2, 62, a, r500.2.2, 0, z)) else (cl (s_X1_readNumber (nI L) r502.2 S) fun r504 => cl (s_X1_readDrops r504.1) fun r505 => if r505.1 = 0 then (some (0, r504.2, 62, a, r500.2.2, r505.2, z)) else (some (1, r504.2, 62, a, r500.2.2, r505.2, z)))) := by
  unfold s_X1_readWork
  rw [cl_e h1]
  dsimp only
  rw [cl_e hs, if_neg (show ¬ (62 : Int32) = 43 by decide), if_neg (show ¬ (62 : Int32) = 33 by decide), if_pos (show (62 : Int32) = 62 from rfl), if_neg (show ¬ (62 : Int32) = 100 by decide), if_neg (show ¬ (62 : Int32) = 112 by decide), if_neg (show ¬ (62 : Int32) = 114 by decide), if_neg ha, nm_e', cl_e hb]
  dsimp only
  rw [if_neg (show ¬ (62 : Int32) = 43 by decide), if_pos (show (62 : Int32) = 62 from rfl)]
theorem cW_100 {S f3 z : Nat → Int32} {L : Nat} {g02 a b g0 g1 g2 g3 : Int32} (h1 : s_X1_readDigit (nI L) g02 S 0 7 = some (a, b)) (hs : s_X1_sign (nI L) b S = some 100) (ha : a < 0) (hb : s_X3_begin f3 100 a = some (100, a, 0, 0, z)) : s_X1_readWork (nI L) g02 S g0 g1 g2 g3 f3 = cl (s_X1_readTarget (nI L) (b + 1) S 8) fun r343 => if r343.1 = 0 then (some (0, r343.2.1, 100, r343.2.2, 0, 0, z)) else (cl (s_X1_readSign (nI L) r343.2.1 S 58) fun r345 => if r345.1 = 0 then (some (0, r345.2, 100, r343.2.2, 0, 0, z)) else (cl (s_X1_readDigit (nI L) r345.2 S 1 9) fun r347 => cl (s_X1_readDrops r347.1) fun r348 => if r348.1 = 0 then (some (0, r347.2, 100, r343.2.2, 0, r348.2, z)) else (some (1, r347.2, 100, r343.2.2, 0, r348.2, z)))) := by
  unfold s_X1_readWork
  rw [cl_e h1]
  dsimp only
  rw [cl_e hs, if_neg (show ¬ (100 : Int32) = 43 by decide), if_neg (show ¬ (100 : Int32) = 33 by decide), if_neg (show ¬ (100 : Int32) = 62 by decide), if_pos (show (100 : Int32) = 100 from rfl), if_pos ha, nm_e', cl_e hb]
  dsimp only
  rw [if_neg (show ¬ (100 : Int32) = 43 by decide), if_neg (show ¬ (100 : Int32) = 62 by decide), if_pos (show (100 : Int32) = 100 from rfl)]
theorem cW_112 {S f3 z : Nat → Int32} {L : Nat} {g02 a b g0 g1 g2 g3 : Int32} (h1 : s_X1_readDigit (nI L) g02 S 0 7 = some (a, b)) (hs : s_X1_sign (nI L) b S = some 112) (ha : a < 0) (hb : s_X3_begin f3 112 a = some (112, a, 0, 0, z)) : s_X1_readWork (nI L) g02 S g0 g1 g2 g3 f3 = cl (s_X1_readTarget (nI L) (b + 1) S 6) fun r375 => some (r375.1, r375.2.1, 112, r375.2.2, 0, 0, z) := by
  unfold s_X1_readWork
  rw [cl_e h1]
  dsimp only
  rw [cl_e hs, if_neg (show ¬ (112 : Int32) = 43 by decide), if_neg (show ¬ (112 : Int32) = 33 by decide), if_neg (show ¬ (112 : Int32) = 62 by decide), if_neg (show ¬ (112 : Int32) = 100 by decide), if_pos (show (112 : Int32) = 112 from rfl), if_pos ha, nm_e', cl_e hb]
  dsimp only
  rw [if_neg (show ¬ (112 : Int32) = 43 by decide), if_neg (show ¬ (112 : Int32) = 62 by decide), if_neg (show ¬ (112 : Int32) = 100 by decide), if_pos (show (112 : Int32) = 112 from rfl)]
theorem cW_114 {S f3 z : Nat → Int32} {L : Nat} {g02 a b g0 g1 g2 g3 : Int32} (h1 : s_X1_readDigit (nI L) g02 S 0 7 = some (a, b)) (hs : s_X1_sign (nI L) b S = some 114) (ha : a < 0) (hb : s_X3_begin f3 114 a = some (114, a, 0, 0, z)) : s_X1_readWork (nI L) g02 S g0 g1 g2 g3 f3 = some (1, b + 1, 114, a, 0, 0, z) := by
  unfold s_X1_readWork
  rw [cl_e h1]
  dsimp only
  rw [cl_e hs, if_neg (show ¬ (114 : Int32) = 43 by decide), if_neg (show ¬ (114 : Int32) = 33 by decide), if_neg (show ¬ (114 : Int32) = 62 by decide), if_neg (show ¬ (114 : Int32) = 100 by decide), if_neg (show ¬ (114 : Int32) = 112 by decide), if_pos (show (114 : Int32) = 114 from rfl), if_pos ha, nm_e', cl_e hb]
  dsimp only
  rw [if_neg (show ¬ (114 : Int32) = 43 by decide), if_neg (show ¬ (114 : Int32) = 62 by decide), if_neg (show ¬ (114 : Int32) = 100 by decide), if_neg (show ¬ (114 : Int32) = 112 by decide)]
theorem cW_y {S f3 : Nat → Int32} {L : Nat} {g02 a b s g0 g1 g2 g3 : Int32} (h1 : s_X1_readDigit (nI L) g02 S 0 7 = some (a, b)) (hs : s_X1_sign (nI L) b S = some s) (ha : ¬ a < 0) (n43 : ¬ s = 43) (n33 : ¬ s = 33) (n62 : ¬ s = 62) : s_X1_readWork (nI L) g02 S g0 g1 g2 g3 f3 = some (0, b, g0, g1, g2, g3, f3) := by
  unfold s_X1_readWork
  rw [cl_e h1]
  dsimp only
  rw [cl_e hs]
  by_cases n100 : s = 100
  · rw [n100, if_neg (show ¬ (100 : Int32) = 43 by decide), if_neg (show ¬ (100 : Int32) = 33 by decide), if_neg (show ¬ (100 : Int32) = 62 by decide), if_pos (show (100 : Int32) = 100 from rfl), if_neg ha]
  by_cases n112 : s = 112
  · rw [n112, if_neg (show ¬ (112 : Int32) = 43 by decide), if_neg (show ¬ (112 : Int32) = 33 by decide), if_neg (show ¬ (112 : Int32) = 62 by decide), if_neg (show ¬ (112 : Int32) = 100 by decide), if_pos (show (112 : Int32) = 112 from rfl), if_neg ha]
  by_cases n114 : s = 114
  · rw [n114, if_neg (show ¬ (114 : Int32) = 43 by decide), if_neg (show ¬ (114 : Int32) = 33 by decide), if_neg (show ¬ (114 : Int32) = 62 by decide), if_neg (show ¬ (114 : Int32) = 100 by decide), if_neg (show ¬ (114 : Int32) = 112 by decide), if_pos (show (114 : Int32) = 114 from rfl), if_neg ha]
  rw [if_neg n43, if_neg n33, if_neg n62, if_neg n100, if_neg n112, if_neg n114, if_neg ha]
theorem cW_n {S f3 : Nat → Int32} {L : Nat} {g02 a b s g0 g1 g2 g3 : Int32} (h1 : s_X1_readDigit (nI L) g02 S 0 7 = some (a, b)) (hs : s_X1_sign (nI L) b S = some s) (ha : a < 0) (n100 : ¬ s = 100) (n112 : ¬ s = 112) (n114 : ¬ s = 114) : s_X1_readWork (nI L) g02 S g0 g1 g2 g3 f3 = some (0, b, g0, g1, g2, g3, f3) := by
  unfold s_X1_readWork
  rw [cl_e h1]
  dsimp only
  rw [cl_e hs]
  by_cases n43 : s = 43
  · rw [n43, if_pos (show (43 : Int32) = 43 from rfl), if_neg (show ¬ (43 : Int32) = 100 by decide), if_neg (show ¬ (43 : Int32) = 112 by decide), if_neg (show ¬ (43 : Int32) = 114 by decide), if_pos ha]
  by_cases n33 : s = 33
  · rw [n33, if_neg (show ¬ (33 : Int32) = 43 by decide), if_pos (show (33 : Int32) = 33 from rfl), if_neg (show ¬ (33 : Int32) = 100 by decide), if_neg (show ¬ (33 : Int32) = 112 by decide), if_neg (show ¬ (33 : Int32) = 114 by decide), if_pos ha]
  by_cases n62 : s = 62
  · rw [n62, if_neg (show ¬ (62 : Int32) = 43 by decide), if_neg (show ¬ (62 : Int32) = 33 by decide), if_pos (show (62 : Int32) = 62 from rfl), if_neg (show ¬ (62 : Int32) = 100 by decide), if_neg (show ¬ (62 : Int32) = 112 by decide), if_neg (show ¬ (62 : Int32) = 114 by decide), if_pos ha]
  rw [if_neg n43, if_neg n33, if_neg n62, if_neg n100, if_neg n112, if_neg n114, if_pos ha]
theorem cBeg_s {y : Nat → Int32} {i fu : Nat} {kk : (Nat → Int32) → Option (Int32 × Int32 × Int32 × Int32 × (Nat → Int32))} (hi : i < 4) : s_X3_begin_L1 kk (fu + 1) (nI i, y) = s_X3_begin_L1 kk fu (nI (i + 1), upd y i 0) := by
  show s_X3_begin_B1 kk (s_X3_begin_L1 kk fu) (nI i) y = _
  unfold s_X3_begin_B1
  rw [if_neg (show ¬ (4 : Int32) ≤ nI i from nI_ge (a := i) (b := 4) (by omega) (by omega)), cl_e (write_n hi (by omega)), nm_e', nI_1]
theorem cBeg (f3 : Nat → Int32) (a b : Int32) : ∃ z : Nat → Int32, s_X3_begin f3 a b = some (a, b, 0, 0, z) ∧ ∀ k, k < 4 → z k = 0 := by
  refine ⟨upd (upd (upd (upd f3 0 0) 1 0) 2 0) 3 0, ?_, fun k hk => ?_⟩
  · unfold s_X3_begin
    refine (cBeg_s (fu := 999) (i := 0) (by omega)).trans ?_
    refine (cBeg_s (fu := 998) (i := 1) (by omega)).trans ?_
    refine (cBeg_s (fu := 997) (i := 2) (by omega)).trans ?_
    refine (cBeg_s (fu := 996) (i := 3) (by omega)).trans ?_
    show s_X3_begin_B1 _ _ (nI 4) _ = _
    unfold s_X3_begin_B1 s_X3_begin_X1
    rw [if_pos (show (4 : Int32) ≤ nI 4 by decide)]
  · rcases (show k = 0 ∨ k = 1 ∨ k = 2 ∨ k = 3 by omega) with rfl | rfl | rfl | rfl
    · rw [pk_un (by omega), pk_un (by omega), pk_un (by omega), pk_us]
    · rw [pk_un (by omega), pk_un (by omega), pk_us]
    · rw [pk_un (by omega), pk_us]
    · rw [pk_us]
theorem cRs_y {S Pd : Nat → Int32} {t : Nat → Nat} {L i a : Nat} (hR : RT S Pd t) (hL : L ≤ 60) (hi : i ≤ 60) (h : sg t L i = a) : s_X1_readSign (nI L) (nI i) S (nI a) = some (1, nI (i + 1)) := by
  unfold s_X1_readSign
  rw [cl_e (cSign hR hL hi), h, if_pos rfl, nm_e', nI_1]
theorem cRs_n {S Pd : Nat → Int32} {t : Nat → Nat} {L i a : Nat} (hR : RT S Pd t) (hL : L ≤ 60) (hi : i ≤ 60) (ha : a < 256) (h : ¬ sg t L i = a) : s_X1_readSign (nI L) (nI i) S (nI a) = some (0, nI i) := by
  have hs := sg_lt (i := i) hR hL
  unfold s_X1_readSign
  rw [cl_e (cSign hR hL hi), if_neg (fun q => h ((nI_eq (by omega) (by omega)).mp q))]
def WK (g0 g1 g2 g3 : Int32) (f3 R : Nat → Int32) (q : Nat) : Prop := (g0 = 43 ∧ R q = 43 ∧ g1 = R (q + 1) ∧ ∀ k, k < 4 → f3 k = R (q + 2 + k)) ∨ (g0 = 33 ∧ R q = 33 ∧ g1 = R (q + 1)) ∨ (g0 = 62 ∧ R q = 62 ∧ g1 = R (q + 1) ∧ g2 = R (q + 2) ∧ g3 = R (q + 3)) ∨ (g0 = 100 ∧ R q = 100 ∧ g1 = R (q + 1) ∧ g3 = R (q + 2)) ∨ (g0 = 112 ∧ R q = 112 ∧ g1 = R (q + 1)) ∨ (g0 = 114 ∧ R q = 114)
def PWP (S Pd : Nat → Int32) (t : Nat → Nat) (L w i : Nat) (R : Nat → Int32) : Prop := ∃ (c m : Int32) (e : Nat) (i' : Nat) (R' : Nat → Int32), s_X5_readsWork (nI L) (nI w) (nI i) R Pd = some (m, nI (w + e), nI i', R') ∧ (∀ k, (k < 6 * w ∨ 6 * w + 6 ≤ k) → R' k = R k) ∧ i ≤ i' ∧ i' ≤ L ∧ ((c = 1 ∧ m = 1 ∧ e = 1 ∧ i < i') ∨ (c = 0 ∧ m = 0 ∧ e = 0) ∨ (c = 0 ∧ m = 1 ∧ e = 1 ∧ i' < L ∧ ¬ sg t L i' = 59)) ∧ ∀ (g0 g1 g2 g3 : Int32) (f3 : Nat → Int32), ∃ (g0' g1' g2' g3' : Int32) (f3' : Nat → Int32), s_X1_readWork (nI L) (nI i) S g0 g1 g2 g3 f3 = some (c, nI i', g0', g1', g2', g3', f3') ∧ (c = 1 → WK g0' g1' g2' g3' f3' R' (6 * w))
theorem n01 : ¬ (0 : Int32) = 1 := by decide
theorem mW_pot {S Pd R : Nat → Int32} {t : Nat → Nat} {L w i : Nat} (hR : RT S Pd t) (hL : L ≤ 60) (hw : w ≤ 31) (hi : i ≤ L) (h1 : 48 ≤ sg t L i ∧ sg t L i ≤ 55) : s_X5_readsWork (nI L) (nI w) (nI i) R Pd = cl (s_X5_ofPot (nI L) (nI w) (nI (i + 1)) (upd R (6 * w + 1) (nI (sg t L i - 48))) Pd) fun r11 => if r11.1 = 0 then (nm (nI w + 0) fun x13 => some (0, x13, r11.2.1, r11.2.2)) else (nm (nI w + 1) fun x14 => some (1, x14, r11.2.1, r11.2.2)) := by
  have m1 : s_X5_digit (nI L) (nI w) (nI i) R Pd 1 48 55 = some (1, nI (i + 1), upd R (6 * w + 1) (nI (sg t L i - 48))) := mDig_y (u := 1) (a := 48) (b := 55) hR hL (by omega) h1.1 h1.2 (by omega) (by omega)
  unfold s_X5_readsWork
  rw [nm_e']
  rw [cl_e (show s_X5_accepts (nI L) (nI i) Pd 100 = some (0, nI i) from mAcc_n (a := 100) hR hL (by omega) (by omega) (by omega))]
  dsimp only
  rw [if_pos rfl]
  rw [cl_e (show s_X5_accepts (nI L) (nI i) Pd 112 = some (0, nI i) from mAcc_n (a := 112) hR hL (by omega) (by omega) (by omega))]
  dsimp only
  rw [if_pos rfl]
  rw [cl_e (show s_X5_accepts (nI L) (nI i) Pd 114 = some (0, nI i) from mAcc_n (a := 114) hR hL (by omega) (by omega) (by omega))]
  dsimp only
  rw [if_pos rfl]
  rw [cl_e m1]
  dsimp only
  rw [if_neg one_ne]
theorem w_0 (w : Nat) : nI w + 0 = nI (w + 0) := nI_add w 0
theorem w_1 (w : Nat) : nI w + 1 = nI (w + 1) := nI_1 w
theorem PW_43 {S Pd : Nat → Int32} {t : Nat → Nat} {L w i : Nat} (hR : RT S Pd t) (hL : L ≤ 60) (hw : w ≤ 31) (hi : i ≤ L) (R : Nat → Int32) (h1 : 48 ≤ sg t L i ∧ sg t L i ≤ 55) (h2 : sg t L (i + 1) = 43) : PWP S Pd t L w i R := by
  have hs := sg_lt (i := i) hR hL
  obtain ⟨hi2, -⟩ := sg_in (t := t) (L := L) (i := i + 1) (by omega)
  obtain ⟨c, m, i', R', eM, fM, zM, l1, l2, hcm, hC⟩ := fil_b (i := i + 2) hR hL hw (by omega) (upd R (6 * w + 1) (nI (sg t L i - 48)))
  have r1 : R' (6 * w + 1) = nI (sg t L i - 48) := by rw [fM _ (by omega), pk_us]
  have fr : ∀ k, (k < 6 * w ∨ 6 * w + 6 ≤ k) → R' k = R k := fun k hk => by rw [fM k (by omega), pk_un (by omega)]
  have cA : s_X5_accepts (nI L) (nI (i + 1)) Pd 43 = some (1, nI (i + 1 + 1)) := mAcc_y (a := 43) hR hL (by omega) (by omega) h2
  have eP : s_X5_ofPot (nI L) (nI w) (nI (i + 1)) (upd R (6 * w + 1) (nI (sg t L i - 48))) Pd = some (m, nI i', R') := by
    unfold s_X5_ofPot
    rw [nm_e', cl_e cA]
    dsimp only
    rw [if_neg one_ne, cl_e eM]
  have cls : ∀ (g0 g1 g2 g3 : Int32) (f3 : Nat → Int32), ∃ f3', s_X1_readWork (nI L) (nI i) S g0 g1 g2 g3 f3 = some (c, nI i', 43, nI (sg t L i - 48), 0, 0, f3') ∧ (c = 1 → ∀ k, k < 4 → f3' k = R' (6 * w + 2 + k)) := fun g0 g1 g2 g3 f3 => by
    obtain ⟨z, hz, z0⟩ := cBeg f3 43 (nI (sg t L i - 48))
    obtain ⟨f3', eC, mC⟩ := hC z z0
    refine ⟨f3', ?_, mC⟩
    rw [cW_43 (cDig_y hR hL (by omega) (by rw [d07 _ hs, if_pos h1]) h1.1) ((cSign hR hL (by omega)).trans (by rw [h2]; rfl)) (nI_pos (by omega)) hz, nI_1, cl_e eC]
  rcases hcm with ⟨rfl, rfl, hlt⟩ | ⟨rfl, rfl⟩ | ⟨rfl, rfl, a, b⟩
  · refine ⟨1, 1, 1, i', R', ?_, fr, by omega, l2, Or.inl ⟨rfl, rfl, rfl, by omega⟩, fun g0 g1 g2 g3 f3 => ?_⟩
    · rw [mW_pot hR hL hw hi h1, cl_e eP]
      dsimp only
      rw [if_neg one_ne, nm_e', w_1]
    · obtain ⟨f3', e1, e2⟩ := cls g0 g1 g2 g3 f3
      exact ⟨43, nI (sg t L i - 48), 0, 0, f3', e1, fun q => Or.inl ⟨rfl, zM, r1.symm, e2 q⟩⟩
  · refine ⟨0, 0, 0, i', R', ?_, fr, by omega, l2, Or.inr (Or.inl ⟨rfl, rfl, rfl⟩), fun g0 g1 g2 g3 f3 => ?_⟩
    · rw [mW_pot hR hL hw hi h1, cl_e eP]
      dsimp only
      rw [if_pos rfl, nm_e', w_0]
    · obtain ⟨f3', e1, e2⟩ := cls g0 g1 g2 g3 f3
      exact ⟨43, nI (sg t L i - 48), 0, 0, f3', e1, fun q => absurd q n01⟩
  · refine ⟨0, 1, 1, i', R', ?_, fr, by omega, l2, Or.inr (Or.inr ⟨rfl, rfl, rfl, a, b⟩), fun g0 g1 g2 g3 f3 => ?_⟩
    · rw [mW_pot hR hL hw hi h1, cl_e eP]
      dsimp only
      rw [if_neg one_ne, nm_e', w_1]
    · obtain ⟨f3', e1, e2⟩ := cls g0 g1 g2 g3 f3
      exact ⟨43, nI (sg t L i - 48), 0, 0, f3', e1, fun q => absurd q n01⟩
theorem PW_33 {S Pd : Nat → Int32} {t : Nat → Nat} {L w i : Nat} (hR : RT S Pd t) (hL : L ≤ 60) (hw : w ≤ 31) (hi : i ≤ L) (R : Nat → Int32) (h1 : 48 ≤ sg t L i ∧ sg t L i ≤ 55) (h2 : sg t L (i + 1) = 33) : PWP S Pd t L w i R := by
  have hs := sg_lt (i := i) hR hL
  obtain ⟨hi2, -⟩ := sg_in (t := t) (L := L) (i := i + 1) (by omega)
  have q0 : ∀ v : Int32, (upd (upd R (6 * w + 1) (nI (sg t L i - 48))) (6 * w) v) (6 * w) = v := fun v => pk_us
  have q1 : ∀ v : Int32, (upd (upd R (6 * w + 1) (nI (sg t L i - 48))) (6 * w) v) (6 * w + 1) = nI (sg t L i - 48) := fun v => by rw [pk_un (by omega), pk_us]
  refine ⟨1, 1, 1, i + 2, upd (upd R (6 * w + 1) (nI (sg t L i - 48))) (6 * w) 33, ?_, fun k hk => by rw [pk_un (by omega), pk_un (by omega)], by omega, by omega, Or.inl ⟨rfl, rfl, rfl, by omega⟩, fun g0 g1 g2 g3 f3 => ?_⟩
  · have eP : s_X5_ofPot (nI L) (nI w) (nI (i + 1)) (upd R (6 * w + 1) (nI (sg t L i - 48))) Pd = some (1, nI (i + 1 + 1), upd (upd R (6 * w + 1) (nI (sg t L i - 48))) (6 * w) 33) := by
      unfold s_X5_ofPot
      rw [nm_e']
      rw [cl_e (show s_X5_accepts (nI L) (nI (i + 1)) Pd 43 = some (0, nI (i + 1)) from mAcc_n (a := 43) hR hL (by omega) (by omega) (by omega))]
      dsimp only
      rw [if_pos rfl]
      rw [cl_e (show s_X5_accepts (nI L) (nI (i + 1)) Pd 33 = some (1, nI (i + 1 + 1)) from mAcc_y (a := 33) hR hL (by omega) (by omega) h2)]
      dsimp only
      rw [if_neg one_ne]
      rw [show (6 : Int32) * nI w = nI (6 * w) from pk_mul 6 w, sto_n (by omega) (by omega)]
    rw [mW_pot hR hL hw hi h1, cl_e eP]
    dsimp only
    rw [if_neg one_ne, nm_e', w_1]
  · obtain ⟨z, hz, z0⟩ := cBeg f3 33 (nI (sg t L i - 48))
    refine ⟨33, nI (sg t L i - 48), 0, 0, z, ?_, fun _ => Or.inr (Or.inl ⟨rfl, q0 _, (q1 _).symm⟩)⟩
    rw [cW_33 (cDig_y hR hL (by omega) (by rw [d07 _ hs, if_pos h1]) h1.1) ((cSign hR hL (by omega)).trans (by rw [h2]; rfl)) (nI_pos (by omega)) hz, nI_1]
theorem PW_A {S Pd : Nat → Int32} {t : Nat → Nat} {L w i : Nat} (hR : RT S Pd t) (hL : L ≤ 60) (hw : w ≤ 31) (hi : i ≤ L) (R : Nat → Int32) (h1 : 48 ≤ sg t L i ∧ sg t L i ≤ 55) (n43 : ¬ sg t L (i + 1) = 43) (n33 : ¬ sg t L (i + 1) = 33) (n62 : ¬ sg t L (i + 1) = 62) : PWP S Pd t L w i R := by
  have hs := sg_lt (i := i) hR hL
  have hs2 := sg_lt (i := i + 1) hR hL
  obtain ⟨hi1, -⟩ := sg_in (t := t) (L := L) (i := i) (by omega)
  refine ⟨0, 0, 0, i + 1, upd (upd R (6 * w + 1) (nI (sg t L i - 48))) (6 * w) 62, ?_, fun k hk => by rw [pk_un (by omega), pk_un (by omega)], by omega, by omega, Or.inr (Or.inl ⟨rfl, rfl, rfl⟩), fun g0 g1 g2 g3 f3 => ?_⟩
  · have eP : s_X5_ofPot (nI L) (nI w) (nI (i + 1)) (upd R (6 * w + 1) (nI (sg t L i - 48))) Pd = some (0, nI (i + 1), upd (upd R (6 * w + 1) (nI (sg t L i - 48))) (6 * w) 62) := by
      unfold s_X5_ofPot
      rw [nm_e']
      rw [cl_e (show s_X5_accepts (nI L) (nI (i + 1)) Pd 43 = some (0, nI (i + 1)) from mAcc_n (a := 43) hR hL (by omega) (by omega) (by omega))]
      dsimp only
      rw [if_pos rfl]
      rw [cl_e (show s_X5_accepts (nI L) (nI (i + 1)) Pd 33 = some (0, nI (i + 1)) from mAcc_n (a := 33) hR hL (by omega) (by omega) (by omega))]
      dsimp only
      rw [if_pos rfl]
      rw [cl_e (show s_X5_accepts (nI L) (nI (i + 1)) Pd 62 = some (0, nI (i + 1)) from mAcc_n (a := 62) hR hL (by omega) (by omega) (by omega))]
      dsimp only
      rw [if_pos rfl]
      rw [show (6 : Int32) * nI w = nI (6 * w) from pk_mul 6 w, sto_n (by omega) (by omega)]
    rw [mW_pot hR hL hw hi h1, cl_e eP]
    dsimp only
    rw [if_pos rfl, nm_e', w_0]
  · refine ⟨g0, g1, g2, g3, f3, ?_, fun q => absurd q n01⟩
    have ne : ∀ n, n < 256 → ¬ sg t L (i + 1) = n → ¬ nI (sg t L (i + 1)) = nI n := fun n hn h q => h ((nI_eq (by omega) (by omega)).mp q)
    exact cW_y (cDig_y hR hL (by omega) (by rw [d07 _ hs, if_pos h1]) h1.1) (cSign hR hL (by omega)) (nI_pos (by omega)) (ne 43 (by omega) n43) (ne 33 (by omega) n33) (ne 62 (by omega) n62)
theorem PW_62 {S Pd : Nat → Int32} {t : Nat → Nat} {L w i : Nat} (hR : RT S Pd t) (hL : L ≤ 60) (hw : w ≤ 31) (hi : i ≤ L) (R : Nat → Int32) (h1 : 48 ≤ sg t L i ∧ sg t L i ≤ 55) (h2 : sg t L (i + 1) = 62) : PWP S Pd t L w i R := by
  have hs := sg_lt (i := i) hR hL
  have hs2 := sg_lt (i := i + 2) hR hL
  obtain ⟨hi2, -⟩ := sg_in (t := t) (L := L) (i := i + 1) (by omega)
  have e6 : (6 : Int32) * nI w = nI (6 * w) := pk_mul 6 w
  have c0 : s_X1_readDigit (nI L) (nI i) S 0 7 = some (nI (sg t L i - 48), nI (i + 1)) := cDig_y hR hL (by omega) (by rw [d07 _ hs, if_pos h1]) h1.1
  have c1 : s_X1_sign (nI L) (nI (i + 1)) S = some 62 := (cSign hR hL (by omega)).trans (by rw [h2]; rfl)
  by_cases h3 : 48 ≤ sg t L (i + 2) ∧ sg t L (i + 2) ≤ 55
  · obtain ⟨hi3, -⟩ := sg_in (t := t) (L := L) (i := i + 2) (by omega)
    have cO : s_X1_readOther (nI L) (nI (i + 1) + 1) S = some (1, nI (i + 3), nI (sg t L (i + 2) - 48)) := by
      unfold s_X1_readOther
      rw [nI_1, cl_e (cDig_y (i := i + 2) hR hL (by omega) (by rw [d07 _ hs2, if_pos h3]) h3.1)]
      dsimp only
      rw [if_neg (nI_pos (by omega))]
    have mD : s_X5_digit (nI L) (nI w) (nI (i + 1 + 1)) (upd R (6 * w + 1) (nI (sg t L i - 48))) Pd 2 48 55 = some (1, nI (i + 3), upd (upd R (6 * w + 1) (nI (sg t L i - 48))) (6 * w + 2) (nI (sg t L (i + 2) - 48))) := mDig_y (u := 2) (a := 48) (b := 55) (i := i + 2) hR hL (by omega) h3.1 h3.2 (by omega) (by omega)
    by_cases h4 : sg t L (i + 3) = 58
    · obtain ⟨hi4, -⟩ := sg_in (t := t) (L := L) (i := i + 3) (by omega)
      have cS : s_X1_readSign (nI L) (nI (i + 3)) S 58 = some (1, nI (i + 4)) := cRs_y (a := 58) hR hL (by omega) h4
      have mS : s_X5_accepts (nI L) (nI (i + 3)) Pd 58 = some (1, nI (i + 4)) := mAcc_y (a := 58) hR hL (by omega) (by omega) h4
      obtain ⟨cn, mn, v, i1, R1, en, em, off, hi1, hle, hc⟩ := num_b (i := i + 4) (R := upd (upd R (6 * w + 1) (nI (sg t L i - 48))) (6 * w + 2) (nI (sg t L (i + 2) - 48))) (w := w) (u := 3) hR hL (by omega) (by omega)
      have em' : s_X5_number (nI L) (nI w) (nI (i + 4)) (upd (upd R (6 * w + 1) (nI (sg t L i - 48))) (6 * w + 2) (nI (sg t L (i + 2) - 48))) Pd 3 = some (mn, nI i1, R1) := em
      have fr : ∀ k, (k < 6 * w ∨ 6 * w + 6 ≤ k) → upd R1 (6 * w) 62 k = R k := fun k hk => by rw [pk_un (by omega), off k (by omega), pk_un (by omega), pk_un (by omega)]
      have q1 : upd R1 (6 * w) 62 (6 * w + 1) = nI (sg t L i - 48) := by rw [pk_un (by omega), off _ (by omega), pk_un (by omega), pk_us]
      have q2 : upd R1 (6 * w) 62 (6 * w + 2) = nI (sg t L (i + 2) - 48) := by rw [pk_un (by omega), off _ (by omega), pk_us]
      have eP : s_X5_ofPot (nI L) (nI w) (nI (i + 1)) (upd R (6 * w + 1) (nI (sg t L i - 48))) Pd = if mn = 0 then some (0, nI i1, upd R1 (6 * w) 62) else some (1, nI i1, upd R1 (6 * w) 62) := by
        unfold s_X5_ofPot
        rw [nm_e', e6]
        rw [cl_e (show s_X5_accepts (nI L) (nI (i + 1)) Pd 43 = some (0, nI (i + 1)) from mAcc_n (a := 43) hR hL (by omega) (by omega) (by omega))]
        dsimp only
        rw [if_pos rfl]
        rw [cl_e (show s_X5_accepts (nI L) (nI (i + 1)) Pd 33 = some (0, nI (i + 1)) from mAcc_n (a := 33) hR hL (by omega) (by omega) (by omega))]
        dsimp only
        rw [if_pos rfl]
        rw [cl_e (show s_X5_accepts (nI L) (nI (i + 1)) Pd 62 = some (1, nI (i + 1 + 1)) from mAcc_y (a := 62) hR hL (by omega) (by omega) h2)]
        dsimp only
        rw [if_neg one_ne]
        rw [cl_e mD]
        dsimp only
        rw [if_neg one_ne, cl_e mS]
        dsimp only
        rw [if_neg one_ne, cl_e em']
        dsimp only
        rw [sto_n (by omega) (by omega), sto_n (by omega) (by omega)]
      have cls : ∀ (g0 g1 g2 g3 : Int32) (f3 : Nat → Int32), ∃ (f3' : Nat → Int32), s_X1_readWork (nI L) (nI i) S g0 g1 g2 g3 f3 = if cn < 0 then some (0, nI i1, 62, nI (sg t L i - 48), nI (sg t L (i + 2) - 48), cn, f3') else some (1, nI i1, 62, nI (sg t L i - 48), nI (sg t L (i + 2) - 48), cn, f3') := fun g0 g1 g2 g3 f3 => by
        obtain ⟨z, hz, z0⟩ := cBeg f3 62 (nI (sg t L i - 48))
        refine ⟨z, ?_⟩
        rw [cW_62 c0 c1 (nI_pos (by omega)) hz, cl_e cO]
        dsimp only
        rw [if_neg one_ne, cl_e cS]
        dsimp only
        rw [if_neg one_ne, cl_e en]
        dsimp only
        unfold s_X1_readDrops
        by_cases q : cn < 0
        · rw [if_pos q, if_pos q, cl_s]
          dsimp only
          rw [if_pos rfl]
        · rw [if_neg q, if_neg q, cl_s]
          dsimp only
          rw [if_neg one_ne]
      rcases hc with ⟨rfl, rfl⟩ | ⟨rfl, rfl, hlt, hv, v1, v81⟩ | ⟨rfl, rfl, hlt, hi1L, b1, b2⟩
      · refine ⟨0, 0, 0, i1, upd R1 (6 * w) 62, ?_, fr, by omega, hi1, Or.inr (Or.inl ⟨rfl, rfl, rfl⟩), fun g0 g1 g2 g3 f3 => ?_⟩
        · rw [mW_pot hR hL hw hi h1, eP, if_pos rfl, cl_s]
          dsimp only
          rw [if_pos rfl, nm_e', w_0]
        · obtain ⟨f3', ec⟩ := cls g0 g1 g2 g3 f3
          rw [if_pos (show (-1 : Int32) < 0 by decide)] at ec
          exact ⟨62, nI (sg t L i - 48), nI (sg t L (i + 2) - 48), -1, f3', ec, fun q => absurd q n01⟩
      · refine ⟨1, 1, 1, i1, upd R1 (6 * w) 62, ?_, fr, by omega, hi1, Or.inl ⟨rfl, rfl, rfl, by omega⟩, fun g0 g1 g2 g3 f3 => ?_⟩
        · rw [mW_pot hR hL hw hi h1, eP, if_neg one_ne, cl_s]
          dsimp only
          rw [if_neg one_ne, nm_e', w_1]
        · obtain ⟨f3', ec⟩ := cls g0 g1 g2 g3 f3
          rw [if_neg (nI_pos (by omega))] at ec
          exact ⟨62, nI (sg t L i - 48), nI (sg t L (i + 2) - 48), nI v, f3', ec, fun _ => Or.inr (Or.inr (Or.inl ⟨rfl, pk_us, q1.symm, q2.symm, by rw [pk_un (by omega)]; exact hv.symm⟩))⟩
      · refine ⟨0, 1, 1, i1, upd R1 (6 * w) 62, ?_, fr, by omega, hi1, Or.inr (Or.inr ⟨rfl, rfl, rfl, hi1L, by omega⟩), fun g0 g1 g2 g3 f3 => ?_⟩
        · rw [mW_pot hR hL hw hi h1, eP, if_neg one_ne, cl_s]
          dsimp only
          rw [if_neg one_ne, nm_e', w_1]
        · obtain ⟨f3', ec⟩ := cls g0 g1 g2 g3 f3
          rw [if_pos (show (-1 : Int32) < 0 by decide)] at ec
          exact ⟨62, nI (sg t L i - 48), nI (sg t L (i + 2) - 48), -1, f3', ec, fun q => absurd q n01⟩
    · refine ⟨0, 0, 0, i + 3, upd (upd (upd R (6 * w + 1) (nI (sg t L i - 48))) (6 * w + 2) (nI (sg t L (i + 2) - 48))) (6 * w) 62, ?_, fun k hk => by rw [pk_un (by omega), pk_un (by omega), pk_un (by omega)], by omega, by omega, Or.inr (Or.inl ⟨rfl, rfl, rfl⟩), fun g0 g1 g2 g3 f3 => ?_⟩
      · have eP : s_X5_ofPot (nI L) (nI w) (nI (i + 1)) (upd R (6 * w + 1) (nI (sg t L i - 48))) Pd = some (0, nI (i + 3), upd (upd (upd R (6 * w + 1) (nI (sg t L i - 48))) (6 * w + 2) (nI (sg t L (i + 2) - 48))) (6 * w) 62) := by
          unfold s_X5_ofPot
          rw [nm_e', e6]
          rw [cl_e (show s_X5_accepts (nI L) (nI (i + 1)) Pd 43 = some (0, nI (i + 1)) from mAcc_n (a := 43) hR hL (by omega) (by omega) (by omega))]
          dsimp only
          rw [if_pos rfl]
          rw [cl_e (show s_X5_accepts (nI L) (nI (i + 1)) Pd 33 = some (0, nI (i + 1)) from mAcc_n (a := 33) hR hL (by omega) (by omega) (by omega))]
          dsimp only
          rw [if_pos rfl]
          rw [cl_e (show s_X5_accepts (nI L) (nI (i + 1)) Pd 62 = some (1, nI (i + 1 + 1)) from mAcc_y (a := 62) hR hL (by omega) (by omega) h2)]
          dsimp only
          rw [if_neg one_ne]
          rw [cl_e mD]
          dsimp only
          rw [if_neg one_ne]
          rw [cl_e (show s_X5_accepts (nI L) (nI (i + 3)) Pd 58 = some (0, nI (i + 3)) from mAcc_n (a := 58) hR hL (by omega) (by omega) (by omega))]
          dsimp only
          rw [if_pos rfl]
          rw [sto_n (by omega) (by omega)]
        rw [mW_pot hR hL hw hi h1, cl_e eP]
        dsimp only
        rw [if_pos rfl, nm_e', w_0]
      · obtain ⟨z, hz, z0⟩ := cBeg f3 62 (nI (sg t L i - 48))
        refine ⟨62, nI (sg t L i - 48), nI (sg t L (i + 2) - 48), 0, z, ?_, fun q => absurd q n01⟩
        rw [cW_62 c0 c1 (nI_pos (by omega)) hz, cl_e cO]
        dsimp only
        rw [if_neg one_ne, cl_e (show s_X1_readSign (nI L) (nI (i + 3)) S 58 = some (0, nI (i + 3)) from cRs_n (a := 58) hR hL (by omega) (by omega) h4)]
        dsimp only
        rw [if_pos rfl]
  · have mD : s_X5_digit (nI L) (nI w) (nI (i + 1 + 1)) (upd R (6 * w + 1) (nI (sg t L i - 48))) Pd 2 48 55 = some (0, nI (i + 2), upd (upd R (6 * w + 1) (nI (sg t L i - 48))) (6 * w + 2) 0) := mDig_n (u := 2) (a := 48) (b := 55) (i := i + 2) hR hL (by omega) h3 (by omega) (by omega) (by omega)
    have cO : s_X1_readOther (nI L) (nI (i + 1) + 1) S = some (0, nI (i + 2), -1) := by
      unfold s_X1_readOther
      rw [nI_1, cl_e (cDig_n (i := i + 2) hR hL (by omega) (by rw [d07 _ hs2, if_neg h3]))]
      dsimp only
      rw [if_pos (show (-1 : Int32) < 0 by decide)]
    refine ⟨0, 0, 0, i + 2, upd (upd (upd R (6 * w + 1) (nI (sg t L i - 48))) (6 * w + 2) 0) (6 * w) 62, ?_, fun k hk => by rw [pk_un (by omega), pk_un (by omega), pk_un (by omega)], by omega, by omega, Or.inr (Or.inl ⟨rfl, rfl, rfl⟩), fun g0 g1 g2 g3 f3 => ?_⟩
    · have eP : s_X5_ofPot (nI L) (nI w) (nI (i + 1)) (upd R (6 * w + 1) (nI (sg t L i - 48))) Pd = some (0, nI (i + 2), upd (upd (upd R (6 * w + 1) (nI (sg t L i - 48))) (6 * w + 2) 0) (6 * w) 62) := by
        unfold s_X5_ofPot
        rw [nm_e', e6]
        rw [cl_e (show s_X5_accepts (nI L) (nI (i + 1)) Pd 43 = some (0, nI (i + 1)) from mAcc_n (a := 43) hR hL (by omega) (by omega) (by omega))]
        dsimp only
        rw [if_pos rfl]
        rw [cl_e (show s_X5_accepts (nI L) (nI (i + 1)) Pd 33 = some (0, nI (i + 1)) from mAcc_n (a := 33) hR hL (by omega) (by omega) (by omega))]
        dsimp only
        rw [if_pos rfl]
        rw [cl_e (show s_X5_accepts (nI L) (nI (i + 1)) Pd 62 = some (1, nI (i + 1 + 1)) from mAcc_y (a := 62) hR hL (by omega) (by omega) h2)]
        dsimp only
        rw [if_neg one_ne]
        rw [cl_e mD]
        dsimp only
        rw [if_pos rfl, sto_n (by omega) (by omega)]
      rw [mW_pot hR hL hw hi h1, cl_e eP]
      dsimp only
      rw [if_pos rfl, nm_e', w_0]
    · obtain ⟨z, hz, z0⟩ := cBeg f3 62 (nI (sg t L i - 48))
      refine ⟨62, nI (sg t L i - 48), -1, 0, z, ?_, fun q => absurd q n01⟩
      rw [cW_62 c0 c1 (nI_pos (by omega)) hz, cl_e cO]
      dsimp only
      rw [if_pos rfl]
theorem PW_B {S Pd : Nat → Int32} {t : Nat → Nat} {L w i : Nat} (hR : RT S Pd t) (hL : L ≤ 60) (hw : w ≤ 31) (hi : i ≤ L) (R : Nat → Int32) (h1 : ¬ (48 ≤ sg t L i ∧ sg t L i ≤ 55)) (n100 : ¬ sg t L i = 100) (n112 : ¬ sg t L i = 112) (n114 : ¬ sg t L i = 114) : PWP S Pd t L w i R := by
  have hs := sg_lt (i := i) hR hL
  have m1 : s_X5_digit (nI L) (nI w) (nI i) R Pd 1 48 55 = some (0, nI i, upd R (6 * w + 1) 0) := mDig_n (u := 1) (a := 48) (b := 55) hR hL (by omega) h1 (by omega) (by omega) (by omega)
  refine ⟨0, 0, 0, i, upd R (6 * w + 1) 0, ?_, fun k hk => pk_un (by omega), Nat.le_refl _, hi, Or.inr (Or.inl ⟨rfl, rfl, rfl⟩), fun g0 g1 g2 g3 f3 => ?_⟩
  · unfold s_X5_readsWork
    rw [nm_e']
    rw [cl_e (show s_X5_accepts (nI L) (nI i) Pd 100 = some (0, nI i) from mAcc_n (a := 100) hR hL (by omega) (by omega) (by omega))]
    dsimp only
    rw [if_pos rfl]
    rw [cl_e (show s_X5_accepts (nI L) (nI i) Pd 112 = some (0, nI i) from mAcc_n (a := 112) hR hL (by omega) (by omega) (by omega))]
    dsimp only
    rw [if_pos rfl]
    rw [cl_e (show s_X5_accepts (nI L) (nI i) Pd 114 = some (0, nI i) from mAcc_n (a := 114) hR hL (by omega) (by omega) (by omega))]
    dsimp only
    rw [if_pos rfl]
    rw [cl_e m1]
    dsimp only
    rw [if_pos rfl, nm_e', w_0]
  · refine ⟨g0, g1, g2, g3, f3, ?_, fun q => absurd q n01⟩
    have ne : ∀ n, n < 256 → ¬ sg t L i = n → ¬ nI (sg t L i) = nI n := fun n hn h q => h ((nI_eq (by omega) (by omega)).mp q)
    exact cW_n (cDig_n hR hL (by omega) (by rw [d07 _ hs, if_neg h1])) (cSign hR hL (by omega)) (by decide) (ne 100 (by omega) n100) (ne 112 (by omega) n112) (ne 114 (by omega) n114)
theorem PW_114 {S Pd : Nat → Int32} {t : Nat → Nat} {L w i : Nat} (hR : RT S Pd t) (hL : L ≤ 60) (hw : w ≤ 31) (hi : i ≤ L) (R : Nat → Int32) (h1 : sg t L i = 114) : PWP S Pd t L w i R := by
  have hs := sg_lt (i := i) hR hL
  obtain ⟨hi1, -⟩ := sg_in (t := t) (L := L) (i := i) (by omega)
  refine ⟨1, 1, 1, i + 1, upd R (6 * w) 114, ?_, fun k hk => pk_un (by omega), by omega, by omega, Or.inl ⟨rfl, rfl, rfl, by omega⟩, fun g0 g1 g2 g3 f3 => ?_⟩
  · unfold s_X5_readsWork
    rw [nm_e']
    rw [cl_e (show s_X5_accepts (nI L) (nI i) Pd 100 = some (0, nI i) from mAcc_n (a := 100) hR hL (by omega) (by omega) (by omega))]
    dsimp only
    rw [if_pos rfl]
    rw [cl_e (show s_X5_accepts (nI L) (nI i) Pd 112 = some (0, nI i) from mAcc_n (a := 112) hR hL (by omega) (by omega) (by omega))]
    dsimp only
    rw [if_pos rfl]
    rw [cl_e (show s_X5_accepts (nI L) (nI (i)) Pd 114 = some (1, nI (i + 1)) from mAcc_y (a := 114) hR hL (by omega) (by omega) h1)]
    dsimp only
    rw [if_neg one_ne]
    rw [show (6 : Int32) * nI w = nI (6 * w) from pk_mul 6 w, sto_n (by omega) (by omega), nm_e', w_1]
  · obtain ⟨z, hz, z0⟩ := cBeg f3 114 (-1)
    refine ⟨114, -1, 0, 0, z, ?_, fun _ => Or.inr (Or.inr (Or.inr (Or.inr (Or.inr ⟨rfl, pk_us⟩))))⟩
    rw [cW_114 (cDig_n hR hL (by omega) (by rw [d07 _ hs, if_neg (by omega)])) ((cSign hR hL (by omega)).trans (by rw [h1]; rfl)) (by decide) hz, nI_1]
theorem PW_112 {S Pd : Nat → Int32} {t : Nat → Nat} {L w i : Nat} (hR : RT S Pd t) (hL : L ≤ 60) (hw : w ≤ 31) (hi : i ≤ L) (R : Nat → Int32) (h1 : sg t L i = 112) : PWP S Pd t L w i R := by
  have hs := sg_lt (i := i) hR hL
  have hs1 := sg_lt (i := i + 1) hR hL
  obtain ⟨hi1, -⟩ := sg_in (t := t) (L := L) (i := i) (by omega)
  have e6 : (6 : Int32) * nI w = nI (6 * w) := pk_mul 6 w
  have m5 : (6 : Int32) - 1 = 5 := by decide
  by_cases h2 : 48 ≤ sg t L (i + 1) ∧ sg t L (i + 1) ≤ 53
  · obtain ⟨hi2, -⟩ := sg_in (t := t) (L := L) (i := i + 1) (by omega)
    have mD : s_X5_digit (nI L) (nI w) (nI (i + 1)) R Pd 1 48 53 = some (1, nI (i + 2), upd R (6 * w + 1) (nI (sg t L (i + 1) - 48))) := mDig_y (u := 1) (a := 48) (b := 53) (i := i + 1) hR hL (by omega) h2.1 h2.2 (by omega) (by omega)
    have cT : s_X1_readTarget (nI L) (nI i + 1) S 6 = some (1, nI (i + 2), nI (sg t L (i + 1) - 48)) := by
      unfold s_X1_readTarget
      rw [nI_1, m5, cl_e (cDig_y (i := i + 1) hR hL (by omega) (by rw [d05 _ hs1, if_pos h2]) h2.1)]
      dsimp only
      rw [if_neg (nI_pos (by omega))]
    refine ⟨1, 1, 1, i + 2, upd (upd R (6 * w + 1) (nI (sg t L (i + 1) - 48))) (6 * w) 112, ?_, fun k hk => by rw [pk_un (by omega), pk_un (by omega)], by omega, by omega, Or.inl ⟨rfl, rfl, rfl, by omega⟩, fun g0 g1 g2 g3 f3 => ?_⟩
    · unfold s_X5_readsWork
      rw [nm_e', e6]
      rw [cl_e (show s_X5_accepts (nI L) (nI i) Pd 100 = some (0, nI i) from mAcc_n (a := 100) hR hL (by omega) (by omega) (by omega))]
      dsimp only
      rw [if_pos rfl]
      rw [cl_e (show s_X5_accepts (nI L) (nI (i)) Pd 112 = some (1, nI (i + 1)) from mAcc_y (a := 112) hR hL (by omega) (by omega) h1)]
      dsimp only
      rw [if_neg one_ne]
      rw [cl_e mD]
      dsimp only
      rw [sto_n (by omega) (by omega), if_neg one_ne, nm_e', w_1]
    · obtain ⟨z, hz, z0⟩ := cBeg f3 112 (-1)
      refine ⟨112, nI (sg t L (i + 1) - 48), 0, 0, z, ?_, fun _ => Or.inr (Or.inr (Or.inr (Or.inr (Or.inl ⟨rfl, pk_us, by rw [pk_un (by omega), pk_us]⟩))))⟩
      rw [cW_112 (cDig_n hR hL (by omega) (by rw [d07 _ hs, if_neg (by omega)])) ((cSign hR hL (by omega)).trans (by rw [h1]; rfl)) (by decide) hz, cl_e cT]
  · have mD : s_X5_digit (nI L) (nI w) (nI (i + 1)) R Pd 1 48 53 = some (0, nI (i + 1), upd R (6 * w + 1) 0) := mDig_n (u := 1) (a := 48) (b := 53) (i := i + 1) hR hL (by omega) h2 (by omega) (by omega) (by omega)
    have cT : s_X1_readTarget (nI L) (nI i + 1) S 6 = some (0, nI (i + 1), -1) := by
      unfold s_X1_readTarget
      rw [nI_1, m5, cl_e (cDig_n (i := i + 1) hR hL (by omega) (by rw [d05 _ hs1, if_neg h2]))]
      dsimp only
      rw [if_pos (show (-1 : Int32) < 0 by decide)]
    refine ⟨0, 0, 0, i + 1, upd (upd R (6 * w + 1) 0) (6 * w) 112, ?_, fun k hk => by rw [pk_un (by omega), pk_un (by omega)], by omega, by omega, Or.inr (Or.inl ⟨rfl, rfl, rfl⟩), fun g0 g1 g2 g3 f3 => ?_⟩
    · unfold s_X5_readsWork
      rw [nm_e', e6]
      rw [cl_e (show s_X5_accepts (nI L) (nI i) Pd 100 = some (0, nI i) from mAcc_n (a := 100) hR hL (by omega) (by omega) (by omega))]
      dsimp only
      rw [if_pos rfl]
      rw [cl_e (show s_X5_accepts (nI L) (nI (i)) Pd 112 = some (1, nI (i + 1)) from mAcc_y (a := 112) hR hL (by omega) (by omega) h1)]
      dsimp only
      rw [if_neg one_ne]
      rw [cl_e mD]
      dsimp only
      rw [sto_n (by omega) (by omega), if_pos rfl, nm_e', w_0]
    · obtain ⟨z, hz, z0⟩ := cBeg f3 112 (-1)
      refine ⟨112, -1, 0, 0, z, ?_, fun q => absurd q n01⟩
      rw [cW_112 (cDig_n hR hL (by omega) (by rw [d07 _ hs, if_neg (by omega)])) ((cSign hR hL (by omega)).trans (by rw [h1]; rfl)) (by decide) hz, cl_e cT]
theorem PW_100 {S Pd : Nat → Int32} {t : Nat → Nat} {L w i : Nat} (hR : RT S Pd t) (hL : L ≤ 60) (hw : w ≤ 31) (hi : i ≤ L) (R : Nat → Int32) (h1 : sg t L i = 100) : PWP S Pd t L w i R := by
  have hs := sg_lt (i := i) hR hL
  have hs1 := sg_lt (i := i + 1) hR hL
  have hs3 := sg_lt (i := i + 3) hR hL
  obtain ⟨hi1, -⟩ := sg_in (t := t) (L := L) (i := i) (by omega)
  have e6 : (6 : Int32) * nI w = nI (6 * w) := pk_mul 6 w
  have m7 : (8 : Int32) - 1 = 7 := by decide
  have c0 : s_X1_readDigit (nI L) (nI i) S 0 7 = some (-1, nI i) := cDig_n hR hL (by omega) (by rw [d07 _ hs, if_neg (by omega)])
  have c1 : s_X1_sign (nI L) (nI i) S = some 100 := (cSign hR hL (by omega)).trans (by rw [h1]; rfl)
  have ng : (-1 : Int32) < 0 := by decide
  by_cases h2 : 48 ≤ sg t L (i + 1) ∧ sg t L (i + 1) ≤ 55
  · obtain ⟨hi2, -⟩ := sg_in (t := t) (L := L) (i := i + 1) (by omega)
    have mD : s_X5_digit (nI L) (nI w) (nI (i + 1)) R Pd 1 48 55 = some (1, nI (i + 2), upd R (6 * w + 1) (nI (sg t L (i + 1) - 48))) := mDig_y (u := 1) (a := 48) (b := 55) (i := i + 1) hR hL (by omega) h2.1 h2.2 (by omega) (by omega)
    have cT : s_X1_readTarget (nI L) (nI i + 1) S 8 = some (1, nI (i + 2), nI (sg t L (i + 1) - 48)) := by
      unfold s_X1_readTarget
      rw [nI_1, m7, cl_e (cDig_y (i := i + 1) hR hL (by omega) (by rw [d07 _ hs1, if_pos h2]) h2.1)]
      dsimp only
      rw [if_neg (nI_pos (by omega))]
    by_cases h3 : sg t L (i + 2) = 58
    · obtain ⟨hi3, -⟩ := sg_in (t := t) (L := L) (i := i + 2) (by omega)
      have cS : s_X1_readSign (nI L) (nI (i + 2)) S 58 = some (1, nI (i + 3)) := cRs_y (a := 58) hR hL (by omega) h3
      have mS : s_X5_accepts (nI L) (nI (i + 2)) Pd 58 = some (1, nI (i + 3)) := mAcc_y (a := 58) hR hL (by omega) (by omega) h3
      by_cases h4 : 49 ≤ sg t L (i + 3) ∧ sg t L (i + 3) ≤ 57
      · obtain ⟨hi4, -⟩ := sg_in (t := t) (L := L) (i := i + 3) (by omega)
        have mE : s_X5_digit (nI L) (nI w) (nI (i + 3)) (upd R (6 * w + 1) (nI (sg t L (i + 1) - 48))) Pd 2 49 57 = some (1, nI (i + 4), upd (upd R (6 * w + 1) (nI (sg t L (i + 1) - 48))) (6 * w + 2) (nI (sg t L (i + 3) - 48))) := mDig_y (u := 2) (a := 49) (b := 57) (i := i + 3) hR hL (by omega) h4.1 h4.2 (by omega) (by omega)
        have cE : s_X1_readDigit (nI L) (nI (i + 3)) S 1 9 = some (nI (sg t L (i + 3) - 48), nI (i + 4)) := cDig_y (i := i + 3) hR hL (by omega) (by rw [d19 _ hs3, if_pos h4]) (by omega)
        have cR : s_X1_readDrops (nI (sg t L (i + 3) - 48)) = some (1, nI (sg t L (i + 3) - 48)) := if_neg (nI_pos (by omega))
        refine ⟨1, 1, 1, i + 4, upd (upd (upd R (6 * w + 1) (nI (sg t L (i + 1) - 48))) (6 * w + 2) (nI (sg t L (i + 3) - 48))) (6 * w) 100, ?_, fun k hk => by rw [pk_un (by omega), pk_un (by omega), pk_un (by omega)], by omega, by omega, Or.inl ⟨rfl, rfl, rfl, by omega⟩, fun g0 g1 g2 g3 f3 => ?_⟩
        · unfold s_X5_readsWork
          rw [nm_e', e6]
          rw [cl_e (show s_X5_accepts (nI L) (nI (i)) Pd 100 = some (1, nI (i + 1)) from mAcc_y (a := 100) hR hL (by omega) (by omega) h1)]
          dsimp only
          rw [if_neg one_ne]
          rw [cl_e mD]
          dsimp only
          rw [if_neg one_ne, cl_e mS]
          dsimp only
          rw [if_neg one_ne, cl_e mE]
          dsimp only
          rw [if_neg one_ne, sto_n (by omega) (by omega), nm_e', w_1]
        · obtain ⟨z, hz, z0⟩ := cBeg f3 100 (-1)
          refine ⟨100, nI (sg t L (i + 1) - 48), 0, nI (sg t L (i + 3) - 48), z, ?_, fun _ => Or.inr (Or.inr (Or.inr (Or.inl ⟨rfl, pk_us, by rw [pk_un (by omega), pk_un (by omega), pk_us], by rw [pk_un (by omega), pk_us]⟩)))⟩
          rw [cW_100 c0 c1 ng hz, cl_e cT]
          dsimp only
          rw [if_neg one_ne, cl_e cS]
          dsimp only
          rw [if_neg one_ne, cl_e cE]
          dsimp only
          rw [cl_e cR]
          dsimp only
          rw [if_neg one_ne]
      · have mE : s_X5_digit (nI L) (nI w) (nI (i + 3)) (upd R (6 * w + 1) (nI (sg t L (i + 1) - 48))) Pd 2 49 57 = some (0, nI (i + 3), upd (upd R (6 * w + 1) (nI (sg t L (i + 1) - 48))) (6 * w + 2) 0) := mDig_n (u := 2) (a := 49) (b := 57) (i := i + 3) hR hL (by omega) h4 (by omega) (by omega) (by omega)
        have cE : s_X1_readDigit (nI L) (nI (i + 3)) S 1 9 = some (-1, nI (i + 3)) := cDig_n (i := i + 3) hR hL (by omega) (by rw [d19 _ hs3, if_neg h4])
        have cR : s_X1_readDrops (-1) = some (0, -1) := if_pos ng
        refine ⟨0, 0, 0, i + 3, upd (upd (upd R (6 * w + 1) (nI (sg t L (i + 1) - 48))) (6 * w + 2) 0) (6 * w) 100, ?_, fun k hk => by rw [pk_un (by omega), pk_un (by omega), pk_un (by omega)], by omega, by omega, Or.inr (Or.inl ⟨rfl, rfl, rfl⟩), fun g0 g1 g2 g3 f3 => ?_⟩
        · unfold s_X5_readsWork
          rw [nm_e', e6]
          rw [cl_e (show s_X5_accepts (nI L) (nI (i)) Pd 100 = some (1, nI (i + 1)) from mAcc_y (a := 100) hR hL (by omega) (by omega) h1)]
          dsimp only
          rw [if_neg one_ne]
          rw [cl_e mD]
          dsimp only
          rw [if_neg one_ne, cl_e mS]
          dsimp only
          rw [if_neg one_ne, cl_e mE]
          dsimp only
          rw [if_pos rfl, sto_n (by omega) (by omega), nm_e', w_0]
        · obtain ⟨z, hz, z0⟩ := cBeg f3 100 (-1)
          refine ⟨100, nI (sg t L (i + 1) - 48), 0, -1, z, ?_, fun q => absurd q n01⟩
          rw [cW_100 c0 c1 ng hz, cl_e cT]
          dsimp only
          rw [if_neg one_ne, cl_e cS]
          dsimp only
          rw [if_neg one_ne, cl_e cE]
          dsimp only
          rw [cl_e cR]
          dsimp only
          rw [if_pos rfl]
    · refine ⟨0, 0, 0, i + 2, upd (upd R (6 * w + 1) (nI (sg t L (i + 1) - 48))) (6 * w) 100, ?_, fun k hk => by rw [pk_un (by omega), pk_un (by omega)], by omega, by omega, Or.inr (Or.inl ⟨rfl, rfl, rfl⟩), fun g0 g1 g2 g3 f3 => ?_⟩
      · unfold s_X5_readsWork
        rw [nm_e', e6]
        rw [cl_e (show s_X5_accepts (nI L) (nI (i)) Pd 100 = some (1, nI (i + 1)) from mAcc_y (a := 100) hR hL (by omega) (by omega) h1)]
        dsimp only
        rw [if_neg one_ne]
        rw [cl_e mD]
        dsimp only
        rw [if_neg one_ne]
        rw [cl_e (show s_X5_accepts (nI L) (nI (i + 2)) Pd 58 = some (0, nI (i + 2)) from mAcc_n (a := 58) hR hL (by omega) (by omega) (by omega))]
        dsimp only
        rw [if_pos rfl]
        rw [sto_n (by omega) (by omega), nm_e', w_0]
      · obtain ⟨z, hz, z0⟩ := cBeg f3 100 (-1)
        refine ⟨100, nI (sg t L (i + 1) - 48), 0, 0, z, ?_, fun q => absurd q n01⟩
        rw [cW_100 c0 c1 ng hz, cl_e cT]
        dsimp only
        rw [if_neg one_ne, cl_e (show s_X1_readSign (nI L) (nI (i + 2)) S 58 = some (0, nI (i + 2)) from cRs_n (a := 58) hR hL (by omega) (by omega) h3)]
        dsimp only
        rw [if_pos rfl]
  · have mD : s_X5_digit (nI L) (nI w) (nI (i + 1)) R Pd 1 48 55 = some (0, nI (i + 1), upd R (6 * w + 1) 0) := mDig_n (u := 1) (a := 48) (b := 55) (i := i + 1) hR hL (by omega) h2 (by omega) (by omega) (by omega)
    have cT : s_X1_readTarget (nI L) (nI i + 1) S 8 = some (0, nI (i + 1), -1) := by
      unfold s_X1_readTarget
      rw [nI_1, m7, cl_e (cDig_n (i := i + 1) hR hL (by omega) (by rw [d07 _ hs1, if_neg h2]))]
      dsimp only
      rw [if_pos ng]
    refine ⟨0, 0, 0, i + 1, upd (upd R (6 * w + 1) 0) (6 * w) 100, ?_, fun k hk => by rw [pk_un (by omega), pk_un (by omega)], by omega, by omega, Or.inr (Or.inl ⟨rfl, rfl, rfl⟩), fun g0 g1 g2 g3 f3 => ?_⟩
    · unfold s_X5_readsWork
      rw [nm_e', e6]
      rw [cl_e (show s_X5_accepts (nI L) (nI (i)) Pd 100 = some (1, nI (i + 1)) from mAcc_y (a := 100) hR hL (by omega) (by omega) h1)]
      dsimp only
      rw [if_neg one_ne]
      rw [cl_e mD]
      dsimp only
      rw [if_pos rfl, sto_n (by omega) (by omega), nm_e', w_0]
    · obtain ⟨z, hz, z0⟩ := cBeg f3 100 (-1)
      refine ⟨100, -1, 0, 0, z, ?_, fun q => absurd q n01⟩
      rw [cW_100 c0 c1 ng hz, cl_e cT]
      dsimp only
      rw [if_pos rfl]
theorem PW_b {S Pd : Nat → Int32} {t : Nat → Nat} {L w i : Nat} (hR : RT S Pd t) (hL : L ≤ 60) (hw : w ≤ 31) (hi : i ≤ L) (R : Nat → Int32) : PWP S Pd t L w i R := by
  by_cases h1 : 48 ≤ sg t L i ∧ sg t L i ≤ 55
  · by_cases h43 : sg t L (i + 1) = 43
    · exact PW_43 hR hL hw hi R h1 h43
    by_cases h33 : sg t L (i + 1) = 33
    · exact PW_33 hR hL hw hi R h1 h33
    by_cases h62 : sg t L (i + 1) = 62
    · exact PW_62 hR hL hw hi R h1 h62
    exact PW_A hR hL hw hi R h1 h43 h33 h62
  · by_cases h100 : sg t L i = 100
    · exact PW_100 hR hL hw hi R h100
    by_cases h112 : sg t L i = 112
    · exact PW_112 hR hL hw hi R h112
    by_cases h114 : sg t L i = 114
    · exact PW_114 hR hL hw hi R h114
    exact PW_B hR hL hw hi R h1 h100 h112 h114
