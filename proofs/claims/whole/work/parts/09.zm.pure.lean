-- the law's cases over its world: undo, slots
theorem G_undo {p : Program} {l : Launch} {e : Env} {s : State} {m : MethodId} {below : List Frame} {meth : Method} {c : Code} {b0 L : Nat} {xs : Nat → Int32} {D : va_G} {cI cZ cC cS : ClassId} {ce sl : Nat} (hx : p.tables.exec = Jvm.exec) (hb : c.code = cL_law) (hml : c.maxLocals = 4) (hown : s.vm.findClass RL = some m.cls) (hts : ∀ w ∈ wsL_law, w.before #[Value.ref b0] s = true) (hX : va_X b0 L xs s s.heap) (hbl : b0 < s.heap.size) (hKU : KU D cI cZ cC cS s) (hce : ce + 9 ≤ room_1.cells) (hsl : sl + 108 ≤ room_1.slots) {a : Nat → Nat} {i cn : Nat} (hLs : L < 2 ^ 31) (hi : i + 5 ≤ L) (hcn : cn < 2 ^ 29) (hend : ∀ (ce2 sl2 : Nat) (H : Heap) (locs : List Loc), ce2 ≤ ce + 9 → sl2 ≤ sl + 108 → LI D cI cZ cC cS a s (cn + 60) H locs → ∀ ls : Array Slot, lv_has ls 4 [(0, .ref b0), (1, .ref (a 0)), (2, .ref (a 22)), (3, .int (nI i))] → W p l e room_1 s m #[Value.ref b0] below meth c H locs ce2 sl2 (lw_Z below #[Value.ref b0] s) (F0 m 853 ls [])) : ∀ (H : Heap) (locs : List Loc), LI D cI cZ cC cS a s cn H locs → ∀ ls : Array Slot, lv_has ls 4 [(0, .ref b0), (1, .ref (a 0)), (2, .ref (a 22)), (3, .int (nI i))] → W p l e room_1 s m #[Value.ref b0] below meth c H locs ce sl (lw_Z below #[Value.ref b0] s) (F0 m 794 ls []) := by
  intro H locs hI ls hl
  obtain ⟨σ, τ, pa, f20, f21, N, t, np, kp, Lp, f11, f12, f13, f14, f15, p2, f17, w0, w1, w2, w3, f19, m11, m12, f23, f24, f25, f26, f27, f28, f29, f30, f31, h, hf, I, hG, hn, hk, h20, hS2, hR, hL, hP, hD, hS⟩ := hI
  have hm : (np + 6) % 7 < 7 := Nat.mod_lt _ (by omega)
  have hq0 := st7 h20 hm
  have hq : ∀ j : Int32, (nI np = 0 → j = 6) → (¬ nI np = 0 → j = nI np - 1) → s_X4_studioAt 7 f20 j = some (some (pa ((np + 6) % 7) 0)) := fun j j1 j2 => by
    by_cases z : np = 0
    · rw [j1 (by rw [z]; rfl)]
      rw [z] at hq0 ⊢
      exact hq0
    · rw [j2 (nI_ne0 (by omega) (by omega)), show nI np - 1 = nI ((np + 6) % 7) by rw [show (np + 6) % 7 = np - 1 by omega]; exact pk_sub (b := 1) (by omega)]
      exact hq0
  obtain ⟨l', hp', hnd, hin, hperm⟩ := fl_sp (L9_mem (show (np + 6) % 7 < 9 by omega)) L9_nd
  have pm := hperm (PL cI pa f21 τ)
  rw [PL_lt hm] at pm
  obtain ⟨σ', f', N', np', kp', eL, h', hf', I', hG', n7, k6, hs⟩ := S_undo h hf I hG hn hk hq0 L xs
  refine c_L_undo hx hb hml hown hts hX hbl hKU (Nat.le_trans (Nat.le_add_right ce 9) hce) (Nat.le_trans (Nat.le_add_right sl 108) hsl) (a 0) (a 1) (a 2) (a 3) (a 4) (a 5) (a 6) (a 7) (a 8) (a 9) (a 10) (a 11) (a 12) (a 13) (a 14) (a 15) (a 16) (a 17) (a 18) (a 19) (a 20) (a 21) (a 22) (a 23) (a 24) (a 25) (a 26) (a 27) (a 28) (a 29) (a 30) (a 31) (pa (((np + 6) % 7)) 0) (pa (((np + 6) % 7)) 1) (pa (((np + 6) % 7)) 2) (pa (((np + 6) % 7)) 3) (pa (((np + 6) % 7)) 4) (pa (((np + 6) % 7)) 5) (pa (((np + 6) % 7)) 6) (pa (((np + 6) % 7)) 7) (pa (((np + 6) % 7)) 8) (nI np) (nI kp) (σ 6 0) (σ 7 0) (σ 8 0) (σ 9 0) (σ 0) (σ 1) (σ 2) (σ 3) (σ 4) (σ 5) (σ 10) (σ 11) f11 f12 f13 f14 f15 (nI Lp) p2 f17 w0 w1 w2 w3 f19 f20 f21 (nI Lp) (nI kp) m11 m12 f23 f24 f25 f26 f27 f28 f29 f30 f31 (τ (((np + 6) % 7)) 6 0) (τ (((np + 6) % 7)) 7 0) (τ (((np + 6) % 7)) 8 0) (τ (((np + 6) % 7)) 9 0) (τ (((np + 6) % 7)) 0) (τ (((np + 6) % 7)) 1) (τ (((np + 6) % 7)) 2) (τ (((np + 6) % 7)) 3) (τ (((np + 6) % 7)) 4) (τ (((np + 6) % 7)) 5) (τ (((np + 6) % 7)) 10) (τ (((np + 6) % 7)) 11) (nI i) hq (nI np', nI kp', σ' 6 0, σ' 7 0, σ' 8 0, σ' 9 0, σ' 0, σ' 1, σ' 2, σ' 3, σ' 4, σ' 5, nI kp', f') eL (fun H1 locs1 P2 D2 S2 ls1 hl1 => hend ce sl H1 locs1 (Nat.le_add_right _ _) (Nat.le_add_right _ _) ⟨σ', τ, pa, f20, f21, N', t, np', kp', Lp, f11, f12, f13, f14, f15, p2, f17, w0, w1, w2, w3, f19, m11, m12, f', f24, f25, f26, f27, f28, f29, f30, f31, h', hf', I'.mono (by omega), hG'.mono (by omega), n7, k6, h20, hS2.mono (by omega), hR, hL, P_perm (ws := GB cI cZ cC cS a σ' (nI np') (nI kp') f11 f12 f13 f14 f15 (nI Lp) p2 f17 w0 w1 w2 w3 f19 f20 f21 (nI Lp) (nI kp') m11 m12 f' f24 f25 f26 f27 f28 f29 f30 f31 ++ (stu cI (pa ((np + 6) % 7)) (τ ((np + 6) % 7)) ++ flt (PL cI pa f21 τ) l')) ?_ (pm.symm.append_left _), D_perm (ws := GB cI cZ cC cS a σ' (nI np') (nI kp') f11 f12 f13 f14 f15 (nI Lp) p2 f17 w0 w1 w2 w3 f19 f20 f21 (nI Lp) (nI kp') m11 m12 f' f24 f25 f26 f27 f28 f29 f30 f31 ++ (stu cI (pa ((np + 6) % 7)) (τ ((np + 6) % 7)) ++ flt (PL cI pa f21 τ) l')) ?_ (pm.symm.append_left _), S2⟩ ls1 hl1) H locs (P_perm hP (pm.append_left _)) (D_perm hD (pm.append_left _)) hS ls hl
  · unfold GB stu
    rw [hs 10 (by omega), hs 11 (by omega)]
    exact P2
  · unfold GB stu
    rw [hs 10 (by omega), hs 11 (by omega)]
    exact D2
theorem xs_1 {xs : Nat → Int32} {i L : Nat} (hi : i + 5 ≤ L) (hL : L < 2 ^ 31) : xs (nI i + 1).toNatClampNeg = xs (i + 1) := by
  rw [nI_1, nI_clamp (by omega)]
theorem in01 {x : Int32} : s_X5_in x 0 1 = some 0 ∨ ∃ s, s < 2 ∧ x = nI s := by
  rcases in_cases x 0 1 with ⟨h, -⟩ | ⟨-, h1, h2⟩
  · exact Or.inl h
  · obtain ⟨s, -, hs, rfl⟩ := rng_n (a := 0) (b := 1) (by omega) (by omega) h1 h2
    exact Or.inr ⟨s, by omega, rfl⟩
theorem bad_x {x : Int32} (hb : s_X5_in x 0 1 = some 0) : x < 0 ∨ ¬ x < 2 := by
  rcases pk_ix x (n := 2) (by omega) with y | y | ⟨j, hj, rfl⟩
  · exact Or.inl y
  · exact Or.inr (fun z => absurd (Int32.lt_of_lt_of_le z y) Int32.lt_irrefl)
  · rcases in_cases (nI j) 0 1 with ⟨-, q | q⟩ | ⟨q, -⟩
    · exact Or.inl q
    · exact absurd (show nI 1 < nI j from q) (nI_nlt (by omega) (by omega))
    · rw [q] at hb; cases hb
theorem G_save {p : Program} {l : Launch} {e : Env} {s : State} {m : MethodId} {below : List Frame} {meth : Method} {c : Code} {b0 L : Nat} {xs : Nat → Int32} {D : va_G} {cI cZ cC cS : ClassId} {ce sl : Nat} (hx : p.tables.exec = Jvm.exec) (hb : c.code = cL_law) (hml : c.maxLocals = 4) (hown : s.vm.findClass RL = some m.cls) (hts : ∀ w ∈ wsL_law, w.before #[Value.ref b0] s = true) (hX : va_X b0 L xs s s.heap) (hbl : b0 < s.heap.size) (hKU : KU D cI cZ cC cS s) (hce : ce + 9 ≤ room_1.cells) (hsl : sl + 108 ≤ room_1.slots) {a : Nat → Nat} {i cn : Nat} (hLs : L < 2 ^ 31) (hi : i + 5 ≤ L) (hcn : cn < 2 ^ 29) (hend : ∀ (ce2 sl2 : Nat) (H : Heap) (locs : List Loc), ce2 ≤ ce + 9 → sl2 ≤ sl + 108 → LI D cI cZ cC cS a s (cn + 60) H locs → ∀ ls : Array Slot, lv_has ls 4 [(0, .ref b0), (1, .ref (a 0)), (2, .ref (a 22)), (3, .int (nI i))] → W p l e room_1 s m #[Value.ref b0] below meth c H locs ce2 sl2 (lw_Z below #[Value.ref b0] s) (F0 m 853 ls [])) : ∀ (H : Heap) (locs : List Loc), LI D cI cZ cC cS a s cn H locs → ∀ ls : Array Slot, lv_has ls 4 [(0, .ref b0), (1, .ref (a 0)), (2, .ref (a 22)), (3, .int (nI i))] → W p l e room_1 s m #[Value.ref b0] below meth c H locs ce sl (lw_Z below #[Value.ref b0] s) (F0 m 807 ls []) := by
  intro H locs hI ls hl
  obtain ⟨σ, τ, pa, f20, f21, N, t, np, kp, Lp, f11, f12, f13, f14, f15, p2, f17, w0, w1, w2, w3, f19, m11, m12, f23, f24, f25, f26, f27, f28, f29, f30, f31, h, hf, I, hG, hn, hk, h20, hS2, hR, hL, hP, hD, hS⟩ := hI
  have hx1 := xs_1 (xs := xs) hi hLs
  rcases in01 (x := xs (i + 1)) with hbad | ⟨sl1, hs1, hxs⟩
  · have eL := S_save_b hi hLs f23 f26 f27 hbad
    exact c_L_save_b hx hb hml hown hts hX hbl hKU (Nat.le_trans (Nat.le_add_right ce 9) hce) (Nat.le_trans (Nat.le_add_right sl 108) hsl) (a 0) (a 1) (a 2) (a 3) (a 4) (a 5) (a 6) (a 7) (a 8) (a 9) (a 10) (a 11) (a 12) (a 13) (a 14) (a 15) (a 16) (a 17) (a 18) (a 19) (a 20) (a 21) (a 22) (a 23) (a 24) (a 25) (a 26) (a 27) (a 28) (a 29) (a 30) (a 31) (nI np) (nI kp) (σ 6 0) (σ 7 0) (σ 8 0) (σ 9 0) (σ 0) (σ 1) (σ 2) (σ 3) (σ 4) (σ 5) (σ 10) (σ 11) f11 f12 f13 f14 f15 (nI Lp) p2 f17 w0 w1 w2 w3 f19 f20 f21 (nI Lp) (nI kp) m11 m12 f23 f24 f25 f26 f27 f28 f29 f30 f31 (nI i) (fun x ex h0 h2 => by rw [hx1] at ex; subst ex; exact (bad_x hbad).elim h0 (fun z => z h2)) (f26, f27) eL (fun H1 locs1 P2 D2 S2 ls1 hl1 => hend ce sl H1 locs1 (Nat.le_add_right _ _) (Nat.le_add_right _ _) ⟨σ, τ, pa, f20, f21, N, t, np, kp, Lp, f11, f12, f13, f14, f15, p2, f17, w0, w1, w2, w3, f19, m11, m12, f23, f24, f25, f26, f27, f28, f29, f30, f31, h, hf, I.mono (by omega), hG.mono (by omega), hn, hk, h20, hS2.mono (by omega), hR, hL, P2, D2, S2⟩ ls1 hl1) H locs hP hD hS ls hl
  · rcases hS2 sl1 hs1 with ⟨i0, s0⟩ | ⟨i1, s1, M, m1, m2, m3⟩
    · obtain ⟨x, Sv', eL, hX2, x10, x11, sa, sb⟩ := S_save_n (f21 := f21) (f26 := f26) (f27 := f27) h hf I hs1 hi hLs hxs
      have hslx : ∀ x : Int32, x = xs (nI i + 1).toNatClampNeg → f21 x.toNatClampNeg = none := fun x ex => by rw [hx1, hxs] at ex; subst ex; rw [nI_clamp (by omega)]; exact s0
      have hgood : ∀ x : Int32, x = xs (nI i + 1).toNatClampNeg → ¬ x < 0 ∧ x < 2 := fun x ex => by rw [hx1, hxs] at ex; subst ex; exact ⟨nI_pos (by omega), nI_lt (b := 2) hs1 (by omega)⟩
      have ei : (xs (nI i + 1).toNatClampNeg).toNatClampNeg = sl1 := by rw [hx1, hxs, nI_clamp (by omega)]
      obtain ⟨l', hp', hnd, hin, hperm⟩ := fl_sp (L9_mem (show 7 + sl1 < 9 by omega)) L9_nd
      have pm := hperm (PL cI pa f21 τ)
      rw [PL_no s0, List.nil_append] at pm
      refine c_L_save_n hx hb hml hown hts hX hbl hKU hce hsl hce hsl (a 0) (a 1) (a 2) (a 3) (a 4) (a 5) (a 6) (a 7) (a 8) (a 9) (a 10) (a 11) (a 12) (a 13) (a 14) (a 15) (a 16) (a 17) (a 18) (a 19) (a 20) (a 21) (a 22) (a 23) (a 24) (a 25) (a 26) (a 27) (a 28) (a 29) (a 30) (a 31) (nI np) (nI kp) (σ 6 0) (σ 7 0) (σ 8 0) (σ 9 0) (σ 0) (σ 1) (σ 2) (σ 3) (σ 4) (σ 5) (σ 10) (σ 11) f11 f12 f13 f14 f15 (nI Lp) p2 f17 w0 w1 w2 w3 f19 f20 f21 (nI Lp) (nI kp) m11 m12 f23 f24 f25 f26 f27 f28 f29 f30 f31 (nI i) hgood hslx (σ 6 0, σ 7 0, σ 8 0, σ 9 0, Sv', upd f27 sl1 1, x 6 0, x 7 0, x 8 0, x 9 0, x 0, x 1, x 2, x 3, x 4, x 5) eL (fun bz H1 locs1 P2 D2 S2 ls1 hl1 => ?_) H locs hP hD hS ls hl
      rw [ei] at P2 D2
      have hp2 := hperm (PL cI (fun q => if q = 7 + sl1 then bz else pa q) (va_up f21 sl1 (some (bz 0))) (upT τ (7 + sl1) x))
      have e1 : PL cI (fun q => if q = 7 + sl1 then bz else pa q) (va_up f21 sl1 (some (bz 0))) (upT τ (7 + sl1) x) (7 + sl1) = stu cI bz x := by
        rw [PL_sl (b := bz 0) (if_pos rfl), upT_s, if_pos rfl]
      have e2 : flt (PL cI (fun q => if q = 7 + sl1 then bz else pa q) (va_up f21 sl1 (some (bz 0))) (upT τ (7 + sl1) x)) l' = flt (PL cI pa f21 τ) l' := flt_congr (l := l') (fun q hq' => by
        have hne : q ≠ 7 + sl1 := fun z => hp' (by rw [← z]; exact hq')
        rw [PL_up hne]
        have e9 : (fun q => if q = 7 + sl1 then bz else pa q) q = pa q := if_neg hne
        unfold PL
        rw [e9]
        by_cases q7 : q < 7
        · rw [if_pos q7, if_pos q7]
        · rw [if_neg q7, if_neg q7, show va_up f21 sl1 (some (bz 0)) (q - 7) = f21 (q - 7) from if_neg (by omega)])
      rw [e1, e2] at hp2
      have pw : (GB cI cZ cC cS a σ (nI np) (nI kp) f11 f12 f13 f14 f15 (nI Lp) p2 f17 w0 w1 w2 w3 f19 f20 (va_up f21 sl1 (some (bz 0))) (nI Lp) (nI kp) m11 m12 f23 f24 f25 Sv' (upd f27 sl1 1) f28 f29 f30 f31 ++ (flt (PL cI pa f21 τ) l' ++ stu cI bz x)).Perm (GB cI cZ cC cS a σ (nI np) (nI kp) f11 f12 f13 f14 f15 (nI Lp) p2 f17 w0 w1 w2 w3 f19 f20 (va_up f21 sl1 (some (bz 0))) (nI Lp) (nI kp) m11 m12 f23 f24 f25 Sv' (upd f27 sl1 1) f28 f29 f30 f31 ++ flt (PL cI (fun q => if q = 7 + sl1 then bz else pa q) (va_up f21 sl1 (some (bz 0))) (upT τ (7 + sl1) x)) L9) := (List.perm_append_comm.trans hp2.symm).append_left _
      have pz : (GB cI cZ cC cS a σ (nI np) (nI kp) f11 f12 f13 f14 f15 (nI Lp) p2 f17 w0 w1 w2 w3 f19 f20 (va_up f21 sl1 (some (bz 0))) (nI Lp) (nI kp) m11 m12 f23 f24 f25 Sv' (upd f27 sl1 1) f28 f29 f30 f31 ++ (flt (PL cI pa f21 τ) L9 ++ stu cI bz x)).Perm (GB cI cZ cC cS a σ (nI np) (nI kp) f11 f12 f13 f14 f15 (nI Lp) p2 f17 w0 w1 w2 w3 f19 f20 (va_up f21 sl1 (some (bz 0))) (nI Lp) (nI kp) m11 m12 f23 f24 f25 Sv' (upd f27 sl1 1) f28 f29 f30 f31 ++ (flt (PL cI pa f21 τ) l' ++ stu cI bz x)) := (pm.append_right _).append_left _
      refine hend (ce + 9) (sl + 108) H1 locs1 (Nat.le_refl _) (Nat.le_refl _) ⟨σ, upT τ (7 + sl1) x, (fun q => if q = 7 + sl1 then bz else pa q), f20, va_up f21 sl1 (some (bz 0)), N, t, np, kp, Lp, f11, f12, f13, f14, f15, p2, f17, w0, w1, w2, w3, f19, m11, m12, f23, f24, f25, Sv', upd f27 sl1 1, f28, f29, f30, f31, h, hf, I.mono (by omega), (hG.off (by omega) x).mono (by omega), hn, hk, fun q hq' => ?_, SL.mono (SL.save (σ := σ) (ad := fun p => pa p 0) hS2 I hs1 hX2 sa sb ?_ (fun k hk' hne => ⟨?_, ?_⟩)) (by omega), hR, hL, P_perm (P_perm ?_ pz) pw, D_perm (D_perm ?_ pz) pw, S2⟩ ls1 hl1
      · show f20 q = some ((if q = 7 + sl1 then bz else pa q) 0)
        rw [if_neg (by omega)]
        exact h20 q hq'
      · show va_up f21 sl1 (some (bz 0)) sl1 = some ((if 7 + sl1 = 7 + sl1 then bz else pa (7 + sl1)) 0)
        rw [if_pos rfl]
        exact if_pos rfl
      · exact if_neg hne
      · show (if 7 + k = 7 + sl1 then bz else pa (7 + k)) 0 = pa (7 + k) 0
        rw [if_neg (by omega)]
      · rw [← List.append_assoc]
        unfold GB
        unfold stu
        rw [x10, x11]
        exact P2
      · rw [← List.append_assoc]
        unfold GB
        unfold stu
        rw [x10, x11]
        exact D2
    · obtain ⟨x, Sv', eL, hX2, hx2, sa, sb⟩ := S_save_s (τ := τ) (f21 := f21) (f26 := f26) (f27 := f27) h hf I hs1 hi hLs hxs
      have hslx : ∀ x : Int32, x = xs (nI i + 1).toNatClampNeg → f21 x.toNatClampNeg = some (pa (7 + sl1) 0) := fun x ex => by rw [hx1, hxs] at ex; subst ex; rw [nI_clamp (by omega)]; exact s1
      obtain ⟨l', hp', hnd, hin, hperm⟩ := fl_sp (L9_mem (show 7 + sl1 < 9 by omega)) L9_nd
      have pm := hperm (PL cI pa f21 τ)
      rw [PL_sl s1] at pm
      have hp2 := hperm (PL cI pa f21 (upT τ (7 + sl1) x))
      rw [PL_sl s1, upT_s, flt_congr (l := l') (fun q hq' => PL_up (fun z => hp' (by rw [← z]; exact hq')))] at hp2
      refine c_L_save_s hx hb hml hown hts hX hbl hKU (Nat.le_trans (Nat.le_add_right ce 9) hce) (Nat.le_trans (Nat.le_add_right sl 108) hsl) (a 0) (a 1) (a 2) (a 3) (a 4) (a 5) (a 6) (a 7) (a 8) (a 9) (a 10) (a 11) (a 12) (a 13) (a 14) (a 15) (a 16) (a 17) (a 18) (a 19) (a 20) (a 21) (a 22) (a 23) (a 24) (a 25) (a 26) (a 27) (a 28) (a 29) (a 30) (a 31) (pa (7 + sl1) 0) (pa (7 + sl1) 1) (pa (7 + sl1) 2) (pa (7 + sl1) 3) (pa (7 + sl1) 4) (pa (7 + sl1) 5) (pa (7 + sl1) 6) (pa (7 + sl1) 7) (pa (7 + sl1) 8) (nI np) (nI kp) (σ 6 0) (σ 7 0) (σ 8 0) (σ 9 0) (σ 0) (σ 1) (σ 2) (σ 3) (σ 4) (σ 5) (σ 10) (σ 11) f11 f12 f13 f14 f15 (nI Lp) p2 f17 w0 w1 w2 w3 f19 f20 f21 (nI Lp) (nI kp) m11 m12 f23 f24 f25 f26 f27 f28 f29 f30 f31 (τ (7 + sl1) 6 0) (τ (7 + sl1) 7 0) (τ (7 + sl1) 8 0) (τ (7 + sl1) 9 0) (τ (7 + sl1) 0) (τ (7 + sl1) 1) (τ (7 + sl1) 2) (τ (7 + sl1) 3) (τ (7 + sl1) 4) (τ (7 + sl1) 5) (τ (7 + sl1) 10) (τ (7 + sl1) 11) (nI i) hslx (Sv', upd f27 sl1 1, x 6 0, x 7 0, x 8 0, x 9 0, x 0, x 1, x 2, x 3, x 4, x 5) eL (fun H1 locs1 P2 D2 S2 ls1 hl1 => hend ce sl H1 locs1 (Nat.le_add_right _ _) (Nat.le_add_right _ _) ⟨σ, upT τ (7 + sl1) x, pa, f20, f21, N, t, np, kp, Lp, f11, f12, f13, f14, f15, p2, f17, w0, w1, w2, w3, f19, m11, m12, f23, f24, f25, Sv', upd f27 sl1 1, f28, f29, f30, f31, h, hf, I.mono (by omega), (hG.off (by omega) x).mono (by omega), hn, hk, h20, SL.mono (SL.save (σ := σ) (ad := fun p => pa p 0) hS2 I hs1 hX2 sa sb s1 (fun k hk' hne => ⟨rfl, rfl⟩)) (by omega), hR, hL, P_perm (ws := GB cI cZ cC cS a σ (nI np) (nI kp) f11 f12 f13 f14 f15 (nI Lp) p2 f17 w0 w1 w2 w3 f19 f20 f21 (nI Lp) (nI kp) m11 m12 f23 f24 f25 Sv' (upd f27 sl1 1) f28 f29 f30 f31 ++ (stu cI (pa (7 + sl1)) x ++ flt (PL cI pa f21 τ) l')) ?_ (hp2.symm.append_left _), D_perm (ws := GB cI cZ cC cS a σ (nI np) (nI kp) f11 f12 f13 f14 f15 (nI Lp) p2 f17 w0 w1 w2 w3 f19 f20 f21 (nI Lp) (nI kp) m11 m12 f23 f24 f25 Sv' (upd f27 sl1 1) f28 f29 f30 f31 ++ (stu cI (pa (7 + sl1)) x ++ flt (PL cI pa f21 τ) l')) ?_ (hp2.symm.append_left _), S2⟩ ls1 hl1) H locs (P_perm hP (pm.append_left _)) (D_perm hD (pm.append_left _)) hS ls hl
      · unfold GB stu
        rw [hx2 10 (by omega), hx2 11 (by omega)]
        exact P2
      · unfold GB stu
        rw [hx2 10 (by omega), hx2 11 (by omega)]
        exact D2
theorem G_restore {p : Program} {l : Launch} {e : Env} {s : State} {m : MethodId} {below : List Frame} {meth : Method} {c : Code} {b0 L : Nat} {xs : Nat → Int32} {D : va_G} {cI cZ cC cS : ClassId} {ce sl : Nat} (hx : p.tables.exec = Jvm.exec) (hb : c.code = cL_law) (hml : c.maxLocals = 4) (hown : s.vm.findClass RL = some m.cls) (hts : ∀ w ∈ wsL_law, w.before #[Value.ref b0] s = true) (hX : va_X b0 L xs s s.heap) (hbl : b0 < s.heap.size) (hKU : KU D cI cZ cC cS s) (hce : ce + 9 ≤ room_1.cells) (hsl : sl + 108 ≤ room_1.slots) {a : Nat → Nat} {i cn : Nat} (hLs : L < 2 ^ 31) (hi : i + 5 ≤ L) (hcn : cn < 2 ^ 29) (hend : ∀ (ce2 sl2 : Nat) (H : Heap) (locs : List Loc), ce2 ≤ ce + 9 → sl2 ≤ sl + 108 → LI D cI cZ cC cS a s (cn + 60) H locs → ∀ ls : Array Slot, lv_has ls 4 [(0, .ref b0), (1, .ref (a 0)), (2, .ref (a 22)), (3, .int (nI i))] → W p l e room_1 s m #[Value.ref b0] below meth c H locs ce2 sl2 (lw_Z below #[Value.ref b0] s) (F0 m 853 ls [])) : ∀ (H : Heap) (locs : List Loc), LI D cI cZ cC cS a s cn H locs → ∀ ls : Array Slot, lv_has ls 4 [(0, .ref b0), (1, .ref (a 0)), (2, .ref (a 22)), (3, .int (nI i))] → W p l e room_1 s m #[Value.ref b0] below meth c H locs ce sl (lw_Z below #[Value.ref b0] s) (F0 m 830 ls []) := by
  intro H locs hI ls hl
  obtain ⟨σ, τ, pa, f20, f21, N, t, np, kp, Lp, f11, f12, f13, f14, f15, p2, f17, w0, w1, w2, w3, f19, m11, m12, f23, f24, f25, f26, f27, f28, f29, f30, f31, h, hf, I, hG, hn, hk, h20, hS2, hR, hL, hP, hD, hS⟩ := hI
  have hx1 := xs_1 (xs := xs) hi hLs
  have hno : (s_X5_in (xs (i + 1)) 0 1 = some 0 ∨ ∃ s, s < 2 ∧ xs (i + 1) = nI s ∧ f21 s = none ∧ f27 s = 0) → W p l e room_1 s m #[Value.ref b0] below meth c H locs ce sl (lw_Z below #[Value.ref b0] s) (F0 m 830 ls []) := fun hbad => by
    have eL := S_restore_n (kp := kp) hi hLs f21 f23 f24 f25 f26 f27 hbad
    have hslx : ∀ x : Int32, x = xs (nI i + 1).toNatClampNeg → s_X4_studioAt 2 f21 x = some none := fun x ex => by
      rw [hx1] at ex
      subst ex
      rcases hbad with hbad | ⟨s, hs, e1, e2, -⟩
      · unfold s_X4_studioAt
        rcases bad_x hbad with z | z
        · rw [if_pos z]
        · by_cases z0 : xs (i + 1) < 0
          · rw [if_pos z0]
          · rw [if_neg z0, if_neg (show ¬ xs (i + 1) < Int32.ofNat 2 from z)]
      · rw [e1, st2 hs, e2]
    exact c_L_restore_n hx hb hml hown hts hX hbl hKU (Nat.le_trans (Nat.le_add_right ce 9) hce) (Nat.le_trans (Nat.le_add_right sl 108) hsl) (a 0) (a 1) (a 2) (a 3) (a 4) (a 5) (a 6) (a 7) (a 8) (a 9) (a 10) (a 11) (a 12) (a 13) (a 14) (a 15) (a 16) (a 17) (a 18) (a 19) (a 20) (a 21) (a 22) (a 23) (a 24) (a 25) (a 26) (a 27) (a 28) (a 29) (a 30) (a 31) (nI np) (nI kp) (σ 6 0) (σ 7 0) (σ 8 0) (σ 9 0) (σ 0) (σ 1) (σ 2) (σ 3) (σ 4) (σ 5) (σ 10) (σ 11) f11 f12 f13 f14 f15 (nI Lp) p2 f17 w0 w1 w2 w3 f19 f20 f21 (nI Lp) (nI kp) m11 m12 f23 f24 f25 f26 f27 f28 f29 f30 f31 (nI i) hslx (nI kp, f23, f24, f25) eL (fun H1 locs1 P2 D2 S2 ls1 hl1 => hend ce sl H1 locs1 (Nat.le_add_right _ _) (Nat.le_add_right _ _) ⟨σ, τ, pa, f20, f21, N, t, np, kp, Lp, f11, f12, f13, f14, f15, p2, f17, w0, w1, w2, w3, f19, m11, m12, f23, f24, f25, f26, f27, f28, f29, f30, f31, h, hf, I.mono (by omega), hG.mono (by omega), hn, hk, h20, hS2.mono (by omega), hR, hL, P2, D2, S2⟩ ls1 hl1) H locs hP hD hS ls hl
  rcases in01 (x := xs (i + 1)) with hbad | ⟨sl1, hs1, hxs⟩
  · exact hno (Or.inl hbad)
  · rcases hS2 sl1 hs1 with ⟨i0, s0⟩ | ⟨i1, s1, M, m1, m2, m3⟩
    · exact hno (Or.inr ⟨sl1, hs1, hxs, s0, i0⟩)
    · have hq := st7 h20 hn
      have hst : s_X4_studioAt 2 f21 (nI sl1) = some (some (pa (7 + sl1) 0)) := by rw [st2 hs1, s1]
      have hslx : ∀ x : Int32, x = xs (nI i + 1).toNatClampNeg → s_X4_studioAt 2 f21 x = some (some (pa (7 + sl1) 0)) := fun x ex => by rw [hx1, hxs] at ex; subst ex; exact hst
      obtain ⟨l', hp', hnd, hin, hperm⟩ := fl_sp (L9_mem (show np < 9 by omega)) L9_nd
      obtain ⟨l2, hp'', hnd2, hin2, hperm2⟩ := fl_sp (hin (7 + sl1) (L9_mem (by omega)) (by omega)) hnd
      have pm : (flt (PL cI pa f21 τ) L9).Perm (stu cI (pa np) (τ np) ++ (stu cI (pa (7 + sl1)) (τ (7 + sl1)) ++ flt (PL cI pa f21 τ) l2)) := by
        have a1 := hperm (PL cI pa f21 τ)
        have a2 := hperm2 (PL cI pa f21 τ)
        rw [PL_lt hn] at a1
        rw [PL_sl s1] at a2
        exact a1.trans (a2.append_left _)
      obtain ⟨x, σ', F, f', B', np', kp', eL, h', hf', hx2, hG', n7, k6, hs⟩ := S_restore_s (f24 := f24) h hf I hG hn hk hq hi hLs hs1 hxs hst i1 m1 m2
      have hp2 : (flt (PL cI pa f21 (upT τ np x)) L9).Perm (stu cI (pa np) x ++ (stu cI (pa (7 + sl1)) (τ (7 + sl1)) ++ flt (PL cI pa f21 τ) l2)) := by
        have a1 := hperm (PL cI pa f21 (upT τ np x))
        have a2 := hperm2 (PL cI pa f21 τ)
        rw [PL_lt hn, upT_s, flt_congr (l := l') (fun q hq' => PL_up (fun z => hp' (by rw [← z]; exact hq')))] at a1
        rw [PL_sl s1] at a2
        exact a1.trans (a2.append_left _)
      refine c_L_restore_s hx hb hml hown hts hX hbl hKU (Nat.le_trans (Nat.le_add_right ce 9) hce) (Nat.le_trans (Nat.le_add_right sl 108) hsl) (a 0) (a 1) (a 2) (a 3) (a 4) (a 5) (a 6) (a 7) (a 8) (a 9) (a 10) (a 11) (a 12) (a 13) (a 14) (a 15) (a 16) (a 17) (a 18) (a 19) (a 20) (a 21) (a 22) (a 23) (a 24) (a 25) (a 26) (a 27) (a 28) (a 29) (a 30) (a 31) (pa np 0) (pa np 1) (pa np 2) (pa np 3) (pa np 4) (pa np 5) (pa np 6) (pa np 7) (pa np 8) (pa (7 + sl1) 0) (pa (7 + sl1) 1) (pa (7 + sl1) 2) (pa (7 + sl1) 3) (pa (7 + sl1) 4) (pa (7 + sl1) 5) (pa (7 + sl1) 6) (pa (7 + sl1) 7) (pa (7 + sl1) 8) (nI np) (nI kp) (σ 6 0) (σ 7 0) (σ 8 0) (σ 9 0) (σ 0) (σ 1) (σ 2) (σ 3) (σ 4) (σ 5) (σ 10) (σ 11) f11 f12 f13 f14 f15 (nI Lp) p2 f17 w0 w1 w2 w3 f19 f20 f21 (nI Lp) (nI kp) m11 m12 f23 f24 f25 f26 f27 f28 f29 f30 f31 (τ np 6 0) (τ np 7 0) (τ np 8 0) (τ np 9 0) (τ np 0) (τ np 1) (τ np 2) (τ np 3) (τ np 4) (τ np 5) (τ np 10) (τ np 11) (τ (7 + sl1) 6 0) (τ (7 + sl1) 7 0) (τ (7 + sl1) 8 0) (τ (7 + sl1) 9 0) (τ (7 + sl1) 0) (τ (7 + sl1) 1) (τ (7 + sl1) 2) (τ (7 + sl1) 3) (τ (7 + sl1) 4) (τ (7 + sl1) 5) (τ (7 + sl1) 10) (τ (7 + sl1) 11) (nI i) hslx hq (nI np', nI kp', σ' 6 0, σ' 7 0, σ' 8 0, σ' 9 0, σ' 0, σ' 1, σ' 2, σ' 3, σ' 4, σ' 5, nI kp', f', F, B', x 6 0, x 7 0, x 8 0, x 9 0, x 0, x 1, x 2, x 3, x 4, x 5) eL (fun H1 locs1 P2 D2 S2 ls1 hl1 => hend ce sl H1 locs1 (Nat.le_add_right _ _) (Nat.le_add_right _ _) ⟨σ', upT τ np x, pa, f20, f21, M, t, np', kp', Lp, f11, f12, f13, f14, f15, p2, f17, w0, w1, w2, w3, f19, m11, m12, f', F, B', f26, f27, f28, f29, f30, f31, h', hf', m3.mono (by omega), hG'.mono (by omega), n7, k6, h20, (hS2.off hn x).mono (by omega), hR, hL, P_perm (ws := GB cI cZ cC cS a σ' (nI np') (nI kp') f11 f12 f13 f14 f15 (nI Lp) p2 f17 w0 w1 w2 w3 f19 f20 f21 (nI Lp) (nI kp') m11 m12 f' F B' f26 f27 f28 f29 f30 f31 ++ (stu cI (pa np) x ++ (stu cI (pa (7 + sl1)) (τ (7 + sl1)) ++ flt (PL cI pa f21 τ) l2))) ?_ (hp2.symm.append_left _), D_perm (ws := GB cI cZ cC cS a σ' (nI np') (nI kp') f11 f12 f13 f14 f15 (nI Lp) p2 f17 w0 w1 w2 w3 f19 f20 f21 (nI Lp) (nI kp') m11 m12 f' F B' f26 f27 f28 f29 f30 f31 ++ (stu cI (pa np) x ++ (stu cI (pa (7 + sl1)) (τ (7 + sl1)) ++ flt (PL cI pa f21 τ) l2))) ?_ (hp2.symm.append_left _), S2⟩ ls1 hl1) H locs (P_perm hP (pm.append_left _)) (D_perm hD (pm.append_left _)) hS ls hl
      · unfold GB stu
        rw [hx2 10 (by omega), hx2 11 (by omega), hs 10 (by omega), hs 11 (by omega)]
        exact P2
      · unfold GB stu
        rw [hx2 10 (by omega), hx2 11 (by omega), hs 10 (by omega), hs 11 (by omega)]
        exact D2
