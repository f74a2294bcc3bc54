-- pure: the pad; rows of words of 64 bits begin as the kit's pasted ones
theorem wb_tb (n : Nat) : (lN n).toBitVec = BitVec.ofNat 64 n := rfl
theorem wb_inj {a b : Int64} (h : a.toBitVec = b.toBitVec) : a = b := Int64.toBitVec_inj.mp h
theorem wb_tn {n : Nat} (h : n < 2 ^ 64) : (lN n).toBitVec.toNat = n := by rw [wb_tb, BitVec.toNat_ofNat, Nat.mod_eq_of_lt h]
theorem wb_of (x : Int64) : ∃ n, n < 2 ^ 64 ∧ x = lN n := ⟨x.toBitVec.toNat, x.toBitVec.isLt, wb_inj (by rw [wb_tb]; simp)⟩
theorem wb_cu : ∀ k, k < 64 → ((nI k).toInt64.toUInt64 &&& Int64.toUInt64 63) = UInt64.ofNat k := by decide +kernel
theorem wb_lt2 {a b : Nat} (h : a < b) : 2 ^ a < 2 ^ b := Nat.pow_lt_pow_right (by decide) h
theorem wb_shr {n k : Nat} (hn : n < 2 ^ 64) (hk : k < 64) : ((lN n).toUInt64 >>> ((nI k).toInt64.toUInt64 &&& Int64.toUInt64 63)).toInt64 = lN (n / 2 ^ k) := by
  rw [wb_cu k hk]
  apply wb_inj
  apply BitVec.eq_of_toNat_eq
  show ((lN n).toUInt64 >>> UInt64.ofNat k).toNat = (BitVec.ofNat 64 _).toNat
  have h1 : (UInt64.ofNat k).toNat = k := by
    show (BitVec.ofNat 64 k).toNat = k
    rw [BitVec.toNat_ofNat, Nat.mod_eq_of_lt (by omega)]
  have h2 : (lN n).toUInt64.toNat = n := wb_tn hn
  rw [UInt64.toNat_shiftRight, h1, h2, Nat.mod_eq_of_lt hk, Nat.shiftRight_eq_div_pow, BitVec.toNat_ofNat, Nat.mod_eq_of_lt (Nat.lt_of_le_of_lt (Nat.div_le_self _ _) hn)]
theorem wb_and {a b : Nat} (ha : a < 2 ^ 64) (hb : b < 2 ^ 64) : lN a &&& lN b = lN (a &&& b) := by
  apply wb_inj
  rw [Int64.toBitVec_and, wb_tb, wb_tb, wb_tb]
  apply BitVec.eq_of_toNat_eq
  rw [BitVec.toNat_and, BitVec.toNat_ofNat, BitVec.toNat_ofNat, BitVec.toNat_ofNat, Nat.mod_eq_of_lt ha, Nat.mod_eq_of_lt hb, Nat.mod_eq_of_lt (Nat.and_lt_two_pow _ hb)]
theorem wb_mask {n k : Nat} (hn : n < 2 ^ 64) (hk : k < 64) : lN n &&& lN (2 ^ k - 1) = lN (n % 2 ^ k) := by
  rw [wb_and hn (by have := wb_lt2 hk; omega), Nat.and_two_pow_sub_one_eq_mod]
def RT (S Pd : Nat → Int32) (t : Nat → Nat) : Prop := ∀ k, k < 60 → S k = nI (t k) ∧ Pd k = nI (t k) ∧ t k < 256
theorem RT.up {S Pd : Nat → Int32} {t : Nat → Nat} (h : RT S Pd t) (L : Nat) {d : Nat} (hd : d < 256) : RT (upd S L (nI d)) (upd Pd L (nI d)) (upN t L d) := by
  intro k hk
  unfold upN
  by_cases e : k = L
  · subst e
    rw [pk_us, pk_us, if_pos rfl]
    exact ⟨rfl, rfl, hd⟩
  · rw [pk_un e, pk_un e, if_neg e]
    exact h k hk
def dgt (n i : Nat) : Nat := n / 2 ^ (8 * i) % 256
theorem dgt_lt (n i : Nat) : dgt n i < 256 := Nat.mod_lt _ (by omega)
theorem shr8 {n i : Nat} (hn : n < 2 ^ 64) (hi : i < 8) : ((lN n).toUInt64 >>> ((8 * nI i).toInt64.toUInt64 &&& Int64.toUInt64 63)).toInt64 = lN (n / 2 ^ (8 * i)) := by
  rw [show (8 : Int32) * nI i = nI (8 * i) from pk_mul 8 i]
  exact wb_shr hn (by omega)
theorem code_e {n i : Nat} (hn : n < 2 ^ 64) (hi : i < 8) : ((((lN n).toUInt64 >>> ((8 * nI i).toInt64.toUInt64 &&& Int64.toUInt64 63)).toInt64) &&& 255).toInt32 = nI (dgt n i) := by
  rw [shr8 hn hi, show lN (n / 2 ^ (8 * i)) &&& 255 = lN (n / 2 ^ (8 * i) % 256) from wb_mask (k := 8) (Nat.lt_of_le_of_lt (Nat.div_le_self _ _) hn) (by omega), lN_i]
  rfl
theorem cCode {n i : Nat} (hn : n < 2 ^ 64) (hi : i < 8) : s_X1_code (lN n) (nI i) = some (nI (dgt n i)) := by
  unfold s_X1_code
  rw [code_e hn hi]
theorem lz {n : Nat} (hn : n < 2 ^ 64) : lg_cmp (lN n) 0 = 0 ↔ n = 0 := by
  rw [lg_cmp_eq]
  constructor
  · intro h
    have e := congrArg (fun x : Int64 => x.toBitVec.toNat) h
    have e2 : (lN n).toBitVec.toNat = (lN 0).toBitVec.toNat := e
    rw [wb_tn hn, wb_tn (by omega)] at e2
    exact e2
  · intro h
    subst h
    rfl
theorem sh_s {n i : Nat} (hn : n < 2 ^ 64) : ((lN (n / 2 ^ (8 * i))).toUInt64 >>> ((8 : Int32).toInt64.toUInt64 &&& Int64.toUInt64 63)).toInt64 = lN (n / 2 ^ (8 * (i + 1))) := by
  have h := wb_shr (n := n / 2 ^ (8 * i)) (k := 8) (Nat.lt_of_le_of_lt (Nat.div_le_self _ _) hn) (by omega)
  rw [show (8 : Int32) = nI 8 from rfl, h, Nat.div_div_eq_div_mul, ← Nat.pow_add]
  rfl
theorem c_cnt {n : Nat} {g : Int32} {f : Nat → Int32} (hn : n < 2 ^ 64) (u : Int64) (fu fm : Nat) : ∀ m i, i + m = 8 → (s_X1_charactersIn_L1 (lN n) (s_X1_charactersIn_X1 (lN n)) (fu + m + 1) (nI i) = some (-2) ∧ s_X5_put_L1 g f (s_X5_put_X1 g f u) (fm + m + 1) (nI i, lN (n / 2 ^ (8 * i))) = some (-2, g, f)) ∨ (∃ j, 0 < j ∧ j ≤ 8 ∧ s_X1_charactersIn_L1 (lN n) (s_X1_charactersIn_X1 (lN n)) (fu + m + 1) (nI i) = some (nI j) ∧ s_X5_put_L1 g f (s_X5_put_X1 g f u) (fm + m + 1) (nI i, lN (n / 2 ^ (8 * i))) = s_X5_put_X1 g f u (nI j))
  | 0, i, h => by
    have e : i = 8 := by omega
    subst e
    refine Or.inr ⟨8, by omega, by omega, ?_, ?_⟩
    · show s_X1_charactersIn_B1 (lN n) (s_X1_charactersIn_X1 (lN n)) _ (nI 8) = _
      unfold s_X1_charactersIn_B1 s_X1_charactersIn_X1
      rw [if_pos (show (8 : Int32) ≤ nI 8 by decide), if_pos (show (8 : Int32) ≤ nI 8 by decide), if_neg (show ¬ nI 8 = 0 by decide)]
    · show s_X5_put_B1 g f (s_X5_put_X1 g f u) _ (nI 8) _ = _
      unfold s_X5_put_B1
      rw [if_pos (show (8 : Int32) ≤ nI 8 by decide)]
  | m + 1, i, h => by
    have hd := dgt_lt n i
    have hq : n / 2 ^ (8 * i) < 2 ^ 64 := Nat.lt_of_le_of_lt (Nat.div_le_self _ _) hn
    have h8 : ¬ (8 : Int32) ≤ nI i := nI_ge (a := i) (b := 8) (by omega) (by omega)
    have hc := cCode hn (i := i) (by omega)
    have hm : lN (n / 2 ^ (8 * i)) &&& 255 = lN (dgt n i) := wb_mask (k := 8) hq (by omega)
    have C : s_X1_charactersIn_L1 (lN n) (s_X1_charactersIn_X1 (lN n)) (fu + (m + 1) + 1) (nI i) = s_X1_charactersIn_B1 (lN n) (s_X1_charactersIn_X1 (lN n)) (s_X1_charactersIn_L1 (lN n) (s_X1_charactersIn_X1 (lN n)) (fu + m + 1)) (nI i) := rfl
    have M : s_X5_put_L1 g f (s_X5_put_X1 g f u) (fm + (m + 1) + 1) (nI i, lN (n / 2 ^ (8 * i))) = s_X5_put_B1 g f (s_X5_put_X1 g f u) (s_X5_put_L1 g f (s_X5_put_X1 g f u) (fm + m + 1)) (nI i) (lN (n / 2 ^ (8 * i))) := rfl
    have X0 : dgt n i = 0 → s_X1_charactersIn_B1 (lN n) (s_X1_charactersIn_X1 (lN n)) (s_X1_charactersIn_L1 (lN n) (s_X1_charactersIn_X1 (lN n)) (fu + m + 1)) (nI i) = if n / 2 ^ (8 * i) = 0 then (if i = 0 then some (-2) else some (nI i)) else some (-2) := fun hz => by
      unfold s_X1_charactersIn_B1 s_X1_charactersIn_X1
      rw [if_neg h8, cl_e hc, hz, if_pos (show nI 0 = 0 from rfl), if_neg h8, shr8 hn (by omega)]
      by_cases z : n / 2 ^ (8 * i) = 0
      · rw [if_pos z, if_pos ((lz hq).mpr z)]
        by_cases z2 : i = 0
        · rw [if_pos z2, if_pos (show nI i = 0 by rw [z2]; rfl)]
        · rw [if_neg z2, if_neg (nI_ne0 (by omega) (by omega))]
      · rw [if_neg z, if_neg (fun q => z ((lz hq).mp q)), ite_self]
    rw [C, M]
    by_cases z : n / 2 ^ (8 * i) = 0
    · have hz : dgt n i = 0 := by unfold dgt; rw [z]
      have em : s_X5_put_B1 g f (s_X5_put_X1 g f u) (s_X5_put_L1 g f (s_X5_put_X1 g f u) (fm + m + 1)) (nI i) (lN (n / 2 ^ (8 * i))) = s_X5_put_X1 g f u (nI i) := by
        unfold s_X5_put_B1
        rw [if_neg h8, if_pos ((lz hq).mpr z)]
      rw [X0 hz, if_pos z, em]
      by_cases z2 : i = 0
      · refine Or.inl ⟨by rw [if_pos z2], ?_⟩
        unfold s_X5_put_X1
        rw [if_pos (show nI i = 0 by rw [z2]; rfl)]
      · exact Or.inr ⟨i, by omega, by omega, by rw [if_neg z2], rfl⟩
    · have zc : ¬ lg_cmp (lN (n / 2 ^ (8 * i))) 0 = 0 := fun q => z ((lz hq).mp q)
      by_cases hz : dgt n i = 0
      · refine Or.inl ⟨by rw [X0 hz, if_neg z], ?_⟩
        unfold s_X5_put_B1
        rw [if_neg h8, if_neg zc, nm_e', hm, hz, if_pos (show lg_cmp (lN 0) 33 < 0 by decide)]
      · have hz' : ¬ nI (dgt n i) = 0 := nI_ne0 (by omega) (by omega)
        by_cases l33 : dgt n i < 33
        · refine Or.inl ⟨?_, ?_⟩
          · unfold s_X1_charactersIn_B1
            rw [if_neg h8, cl_e hc, if_neg hz', cl_e hc, bt_l, cl_e (in_lt (show nI (dgt n i) < 33 from nI_lt (b := 33) l33 (by omega))), if_pos rfl]
          · unfold s_X5_put_B1
            rw [if_neg h8, if_neg zc, nm_e', hm, if_pos (show lg_cmp (lN (dgt n i)) 33 < 0 from (lg_cmp_lt _ _).mpr (show lN (dgt n i) < lN 33 from (lN_lt (by omega) (by omega)).mpr l33))]
        · have nl : ¬ lg_cmp (lN (dgt n i)) 33 < 0 := fun q => l33 ((lN_lt (a := dgt n i) (b := 33) (by omega) (by omega)).mp ((lg_cmp_lt _ _).mp q))
          by_cases l126 : dgt n i ≤ 126
          · have hin : s_X5_in (nI (dgt n i)) 33 126 = some 1 := by
              rcases in_cases (nI (dgt n i)) 33 126 with ⟨-, q | q⟩ | ⟨q, -⟩
              · exact absurd (show nI (dgt n i) < nI 33 from q) (nI_nlt (by omega) (by omega))
              · exact absurd (show nI 126 < nI (dgt n i) from q) (nI_nlt (by omega) (by omega))
              · exact q
            have ec : s_X1_charactersIn_B1 (lN n) (s_X1_charactersIn_X1 (lN n)) (s_X1_charactersIn_L1 (lN n) (s_X1_charactersIn_X1 (lN n)) (fu + m + 1)) (nI i) = s_X1_charactersIn_L1 (lN n) (s_X1_charactersIn_X1 (lN n)) (fu + m + 1) (nI (i + 1)) := by
              rw [show s_X1_charactersIn_B1 (lN n) (s_X1_charactersIn_X1 (lN n)) (s_X1_charactersIn_L1 (lN n) (s_X1_charactersIn_X1 (lN n)) (fu + m + 1)) (nI i) = if 8 ≤ nI i then (s_X1_charactersIn_X1 (lN n) (nI i)) else (cl (s_X1_code (lN n) (nI i)) fun r9 => if r9 = 0 then (s_X1_charactersIn_X1 (lN n) (nI i)) else (cl (s_X1_code (lN n) (nI i)) fun r11 => cl (s_X4_isBetween r11 33 126) fun r12 => if r12 = 0 then (some (-2)) else (nm (nI i + 1) fun x14 => s_X1_charactersIn_L1 (lN n) (s_X1_charactersIn_X1 (lN n)) (fu + m + 1) x14))) from rfl]
              rw [if_neg h8, cl_e hc, if_neg hz', cl_e hc, bt_l, cl_e hin, if_neg one_ne, nm_e', nI_1]
            have em : s_X5_put_B1 g f (s_X5_put_X1 g f u) (s_X5_put_L1 g f (s_X5_put_X1 g f u) (fm + m + 1)) (nI i) (lN (n / 2 ^ (8 * i))) = s_X5_put_L1 g f (s_X5_put_X1 g f u) (fm + m + 1) (nI (i + 1), lN (n / 2 ^ (8 * (i + 1)))) := by
              unfold s_X5_put_B1
              rw [if_neg h8, if_neg zc, nm_e', hm, if_neg nl, if_pos (show lg_cmp (lN (dgt n i)) 126 ≤ 0 from (lg_cmp_le _ _).mpr (show lN (dgt n i) ≤ lN 126 from (lN_le (by omega) (by omega)).mpr l126)), sh_s hn, nm_e', nm_e', nI_1]
            rw [ec, em]
            exact c_cnt hn u fu fm m (i + 1) (by omega)
          · refine Or.inl ⟨?_, ?_⟩
            · unfold s_X1_charactersIn_B1
              rw [if_neg h8, cl_e hc, if_neg hz', cl_e hc, bt_l, cl_e (in_gt (show (126 : Int32) < nI (dgt n i) from nI_lt (a := 126) (by omega) (by omega))), if_pos rfl]
            · unfold s_X5_put_B1
              rw [if_neg h8, if_neg zc, nm_e', hm, if_neg nl, if_neg (show ¬ lg_cmp (lN (dgt n i)) 126 ≤ 0 from fun q => l126 ((lN_le (a := dgt n i) (b := 126) (by omega) (by omega)).mp ((lg_cmp_le _ _).mp q)))]
theorem chr_n : ∀ d, d < 256 → ((nI d).toUInt32 % 65536).toInt32 = nI d ∧ vp_nar .char (nI d) = nI d := by decide +kernel
theorem c_wr {n : Nat} {kc : Int32 × (Nat → Int32) → Option (Int32 × Int32 × (Nat → Int32))} {km : Int32 × (Nat → Int32) → Option (Int32 × Int32 × (Nat → Int32))} (hn : n < 2 ^ 64) (fu fm : Nat) : ∀ (m L : Nat) (S Pd : Nat → Int32) (t : Nat → Nat), m ≤ 8 → L + m ≤ 60 → RT S Pd t → ∃ S' Pd' t', RT S' Pd' t' ∧ s_X1_append_L1 (lN n) kc (fu + m + 1) (nI m - 1, nI L, S) = kc (nI (L + m), S') ∧ s_X5_put_L2 (lN n) km (fm + m + 1) (nI m - 1, nI L, Pd) = km (nI (L + m), Pd')
  | 0, L, S, Pd, t, hm, hL, hR => by
    refine ⟨S, Pd, t, hR, ?_, ?_⟩
    · show s_X1_append_B1 (lN n) kc _ (nI 0 - 1) (nI L) S = _
      unfold s_X1_append_B1
      rw [if_pos (show nI 0 - 1 < 0 by decide)]
      rfl
    · show s_X5_put_B2 (lN n) km _ (nI 0 - 1) (nI L) Pd = _
      unfold s_X5_put_B2
      rw [if_pos (show nI 0 - 1 < 0 by decide)]
      rfl
  | m + 1, L, S, Pd, t, hm, hL, hR => by
    have hd := dgt_lt n m
    obtain ⟨ch1, ch2⟩ := chr_n (dgt n m) hd
    obtain ⟨S', Pd', t', hR', ec, em⟩ := c_wr (kc := kc) (km := km) hn fu fm m (L + 1) (upd S L (nI (dgt n m))) (upd Pd L (nI (dgt n m))) (upN t L (dgt n m)) (by omega) (by omega) (hR.up L hd)
    rw [show L + 1 + m = L + (m + 1) by omega] at ec em
    refine ⟨S', Pd', t', hR', ?_, ?_⟩
    · rw [nI_pred]
      show s_X1_append_B1 (lN n) kc (s_X1_append_L1 (lN n) kc (fu + m + 1)) (nI m) (nI L) S = _
      unfold s_X1_append_B1
      rw [if_neg (nI_pos (by omega)), cl_e (cCode hn (by omega)), cl_e (write_n (by omega) (by omega)), nm_e', nm_e', nI_1, ← Int32.sub_eq_add_neg]
      exact ec
    · rw [nI_pred]
      show s_X5_put_B2 (lN n) km (s_X5_put_L2 (lN n) km (fm + m + 1)) (nI m) (nI L) Pd = _
      unfold s_X5_put_B2
      rw [if_neg (nI_pos (by omega)), code_e hn (by omega), ch1, nm_e', ch2, sto_n (by omega) (by omega), nm_e', nm_e', nI_1, ← Int32.sub_eq_add_neg]
      exact em
theorem B_put {S Pd : Nat → Int32} {t : Nat → Nat} {L : Nat} (hR : RT S Pd t) (hL : L ≤ 60) (u : Int64) : ∃ (v : Int32) (S' Pd' : Nat → Int32) (t' : Nat → Nat) (L' : Nat), L' ≤ 60 ∧ RT S' Pd' t' ∧ s_X4_put (nI L) S u = some (v, nI L', S') ∧ s_X5_put (nI L) Pd u = some (v, nI L', Pd') := by
  obtain ⟨n, hn, rfl⟩ := wb_of u
  have h0 : lN n = lN (n / 2 ^ (8 * 0)) := by rw [Nat.mul_zero, Nat.pow_zero, Nat.div_one]
  unfold s_X4_put s_X1_append s_X5_put s_X1_charactersIn
  rcases c_cnt (g := nI L) (f := Pd) hn (lN n) 991 991 8 0 (by omega) with ⟨ec, em⟩ | ⟨j, j0, j8, ec, em⟩
  · rw [← h0] at em
    refine ⟨-2, S, Pd, t, L, hL, hR, ?_, em⟩
    rw [cl_e (o := s_X1_charactersIn_L1 (lN n) (s_X1_charactersIn_X1 (lN n)) 1000 0) ec, if_pos rfl, cl_s]
  · rw [← h0] at em
    have n2 : ¬ nI j = -2 := fun z => absurd (show nI j < 0 by rw [z]; decide) (nI_pos (by omega))
    have em' : s_X5_put_L1 (nI L) Pd (s_X5_put_X1 (nI L) Pd (lN n)) 1000 (0, lN n) = s_X5_put_X1 (nI L) Pd (lN n) (nI j) := em
    rw [cl_e (o := s_X1_charactersIn_L1 (lN n) (s_X1_charactersIn_X1 (lN n)) 1000 0) ec, if_neg n2, em', nI_add]
    unfold s_X5_put_X1
    rw [if_neg (nI_ne0 j0 (by omega)), nI_add]
    by_cases h60 : L + j ≤ 60
    · obtain ⟨S', Pd', t', hR', ew, ev⟩ := c_wr (kc := s_X1_append_X1) (km := s_X5_put_X2) hn (999 - j) (999 - j) j L S Pd t j8 h60 hR
      rw [show 999 - j + j + 1 = 1000 by omega] at ew ev
      refine ⟨nI (L + j), S', Pd', t', L + j, h60, hR', ?_, ?_⟩
      · rw [if_pos (show nI (L + j) ≤ 60 from nI_le (b := 60) h60 (by omega)), nm_e', ew]
        rfl
      · rw [if_pos (show nI (L + j) ≤ 60 from nI_le (b := 60) h60 (by omega)), nm_e', ev]
        rfl
    · refine ⟨-4, S, Pd, t, L, hL, hR, ?_, ?_⟩
      · rw [if_neg (show ¬ nI (L + j) ≤ 60 from nI_ge (a := 60) (by omega) (by omega)), cl_s]
      · rw [if_neg (show ¬ nI (L + j) ≤ 60 from nI_ge (a := 60) (by omega) (by omega))]
