-- the law's loop
theorem LI.mono {D : va_G} {cI cZ cC cS : ClassId} {a : Nat → Nat} {s : State} {cn cn' : Nat} {H : Heap} {locs : List Loc} (hI : LI D cI cZ cC cS a s cn H locs) (hc : cn ≤ cn') : LI D cI cZ cC cS a s cn' H locs := by
  obtain ⟨σ, τ, pa, f20, f21, N, t, np, kp, Lp, f11, f12, f13, f14, f15, p2, f17, w0, w1, w2, w3, f19, m11, m12, f23, f24, f25, f26, f27, f28, f29, f30, f31, h, hf, I, hG, hn, hk, h20, hS2, hR, hL, hP, hD, hS⟩ := hI
  exact ⟨σ, τ, pa, f20, f21, N, t, np, kp, Lp, f11, f12, f13, f14, f15, p2, f17, w0, w1, w2, w3, f19, m11, m12, f23, f24, f25, f26, f27, f28, f29, f30, f31, h, hf, I.mono hc, hG.mono hc, hn, hk, h20, hS2.mono hc, hR, hL, hP, hD, hS⟩
theorem and31 (x : Int32) : ∃ v, v < 32 ∧ x &&& 31 = nI v := by
  have key : ∀ y : Int32, y = nI y.toBitVec.toNat := fun y => Int32.toBitVec_inj.mp (by show _ = BitVec.ofNat 32 _; simp)
  refine ⟨(x &&& 31).toBitVec.toNat, ?_, key _⟩
  rw [Int32.toBitVec_and, BitVec.toNat_and]
  exact Nat.and_lt_two_pow _ (show (31 : Int32).toBitVec.toNat < 2 ^ 5 by decide)
theorem cmpL {L i : Nat} (hL : L < 2 ^ 20) (hi : i < 2 ^ 20) : nI L - 5 < nI i ↔ L < i + 5 := by
  rw [Int32.lt_iff_toInt_lt, show (5 : Int32) = nI 5 from rfl, pk_sub_toInt (by omega) (by omega), nI_toInt (by omega)]
  omega
set_option maxHeartbeats 4000000 in
set_option maxRecDepth 100000 in
theorem law_loop {p : Program} {l : Launch} {e : Env} {s : State} {m : MethodId} {below : List Frame} {meth : Method} {c : Code} {b0 L : Nat} {xs : Nat → Int32} {D : va_G} {cI cZ cC cS : ClassId} (hx : p.tables.exec = Jvm.exec) (hb : c.code = cL_law) (hr : meth.sig.returnType = ret) (hlocks : meth.locks = false) (hml : c.maxLocals = 4) (hown : s.vm.findClass RL = some m.cls) (hts : ∀ w ∈ wsL_law, w.before #[Value.ref b0] s = true) (hX : va_X b0 L xs s s.heap) (hbl : b0 < s.heap.size) (hKU : KU D cI cZ cC cS s) {a : Nat → Nat} (hL : L ≤ 2560) : ∀ (n i cn ce sl : Nat) (H : Heap) (locs : List Loc) (ls : Array Slot), L ≤ i + 5 * n + 4 → i ≤ 2600 → cn + 60 * n ≤ 2 ^ 20 → ce + 9 * n ≤ 500000 → sl + 108 * n ≤ 5000000 → LI D cI cZ cC cS a s cn H locs → lv_has ls 4 [(0, .ref b0), (1, .ref (a 0)), (2, .ref (a 22)), (3, .int (nI i))] → W p l e room_1 s m #[Value.ref b0] below meth c H locs ce sl (lw_Z below #[Value.ref b0] s) (F0 m 18 ls []) := by
  have hbA : ¬ (fun q : Nat => s.heap.size ≤ q) b0 := Nat.not_le.mpr hbl
  intro n
  induction n with
  | zero =>
    intro i cn ce sl H locs ls h1 h2 h3 h4 h5 hI hl
    have hSS : va_S (fun q : Nat => s.heap.size ≤ q) s.heap H locs := by
      obtain ⟨σ, τ, pa, f20, f21, N, t, np, kp, Lp, f11, f12, f13, f14, f15, p2, f17, w0, w1, w2, w3, f19, m11, m12, f23, f24, f25, f26, f27, f28, f29, f30, f31, h, hf, I, hG, hn, hk, h20, hS2, hR, hL, hP, hD, hS⟩ := hI
      exact hS
    refine lv_iload_n hx hb dL_law_18 rfl (lv_at hl 3 rfl) ?_
    refine lv_aload_n hx hb dL_law_19 rfl (lv_at hl 0 rfl) ?_
    refine va_slen hx hb hX hbl hbA hSS dL_law_20 ?_
    refine lv_iconst (v := 5) hx hb dL_law_21 (by decide) ?_
    refine lv_isub hx hb dL_law_22 ?_
    refine lv_icmp_gt (tgt := 859) hx hb dL_law_23 (by decide) (fun hc => ?_) (fun hc => ?_)
    · refine lv_iconst (v := 1) hx hb dL_law_859 (by decide) ?_
      refine va_forget (fun q hq => hSS.2.2 q hq) ?_
      refine W.widen (k := 600000) (n := 7302250) (by omega) (by omega) ?_
      exact lw_ret hx hb hr hlocks dL_law_860
    · exact absurd ((cmpL (by omega) (by omega)).mpr (by omega)) hc
  | succ n ih =>
    intro i cn ce sl H locs ls h1 h2 h3 h4 h5 hI hl
    have hSS : va_S (fun q : Nat => s.heap.size ≤ q) s.heap H locs := by
      obtain ⟨σ, τ, pa, f20, f21, N, t, np, kp, Lp, f11, f12, f13, f14, f15, p2, f17, w0, w1, w2, w3, f19, m11, m12, f23, f24, f25, f26, f27, f28, f29, f30, f31, h, hf, I, hG, hn, hk, h20, hS2, hR, hL, hP, hD, hS⟩ := hI
      exact hS
    refine lv_iload_n hx hb dL_law_18 rfl (lv_at hl 3 rfl) ?_
    refine lv_aload_n hx hb dL_law_19 rfl (lv_at hl 0 rfl) ?_
    refine va_slen hx hb hX hbl hbA hSS dL_law_20 ?_
    refine lv_iconst (v := 5) hx hb dL_law_21 (by decide) ?_
    refine lv_isub hx hb dL_law_22 ?_
    refine lv_icmp_gt (tgt := 859) hx hb dL_law_23 (by decide) (fun hc => ?_) (fun hc => ?_)
    · refine lv_iconst (v := 1) hx hb dL_law_859 (by decide) ?_
      refine va_forget (fun q hq => hSS.2.2 q hq) ?_
      refine W.widen (k := 600000) (n := 7302250) (by omega) (by omega) ?_
      exact lw_ret hx hb hr hlocks dL_law_860
    · have hi : i + 5 ≤ L := by
        rcases Nat.lt_or_ge L (i + 5) with z | z
        · exact absurd ((cmpL (by omega) (by omega)).mpr z) hc
        · exact z
      have step : ∀ (ce2 sl2 : Nat) (H : Heap) (locs : List Loc), ce2 ≤ ce + 9 → sl2 ≤ sl + 108 → LI D cI cZ cC cS a s (cn + 60) H locs → ∀ ls : Array Slot, lv_has ls 4 [(0, .ref b0), (1, .ref (a 0)), (2, .ref (a 22)), (3, .int (nI i))] → W p l e room_1 s m #[Value.ref b0] below meth c H locs ce2 sl2 (lw_Z below #[Value.ref b0] s) (F0 m 853 ls []) := fun ce2 sl2 H locs k1 k2 hI2 ls hl => by
        refine lv_iinc (k := 3) (lv' := [(3, .int (nI (i + 5))), (0, .ref b0), (1, .ref (a 0)), (2, .ref (a 22))]) hx hb dL_law_853 hl rfl (by rw [show Int32.ofInt 5 = nI 5 from rfl, nI_add]) (by decide) rfl (fun ls hl => ?_)
        refine lv_goto (tgt := 18) hx hb dL_law_856 (by decide) ?_
        exact ih (i + 5) (cn + 60) ce2 sl2 H locs ls (by omega) (by omega) (by omega) (by omega) (by omega) hI2 (lv_sub hl [1, 2, 3, 0] rfl)
      have hce : ce + 9 ≤ room_1.cells := by
        show ce + 9 ≤ 600000
        omega
      have hsl : sl + 108 ≤ room_1.slots := by
        show sl + 108 ≤ 7302250
        omega
      have hLs : L < 2 ^ 31 := by omega
      have hcn : cn < 2 ^ 29 := by omega
      refine lv_aload_n hx hb dL_law_26 rfl (lv_at hl 0 rfl) ?_
      refine lv_iload_n hx hb dL_law_27 rfl (lv_at hl 3 rfl) ?_
      refine va_sld hx hb hX hbl hbA hSS (nI_in (by omega) hLs) dL_law_28 ?_
      refine lv_bipush (v := 31) hx hb dL_law_29 (by decide) ?_
      refine lv_iand hx hb dL_law_31 ?_
      obtain ⟨v, hv, ev⟩ := and31 (xs (nI i).toNatClampNeg)
      rw [ev]
      by_cases v25 : v < 25
      · rcases (show v = 0 ∨ v = 1 ∨ v = 2 ∨ v = 3 ∨ v = 4 ∨ v = 5 ∨ v = 6 ∨ v = 7 ∨ v = 8 ∨ v = 9 ∨ v = 10 ∨ v = 11 ∨ v = 12 ∨ v = 13 ∨ v = 14 ∨ v = 15 ∨ v = 16 ∨ v = 17 ∨ v = 18 ∨ v = 19 ∨ v = 20 ∨ v = 21 ∨ v = 22 ∨ v = 23 ∨ v = 24 by omega) with rfl | rfl | rfl | rfl | rfl | rfl | rfl | rfl | rfl | rfl | rfl | rfl | rfl | rfl | rfl | rfl | rfl | rfl | rfl | rfl | rfl | rfl | rfl | rfl | rfl
        · refine lv_tableIn (off := 116) (tgt := 148) hx hb dL_law_32 (by decide) (by decide) (by decide) (by decide) ?_
          exact G_set hx hb hml hown hts hX hbl hKU hce hsl hLs hi hcn step H locs hI ls hl
        · refine lv_tableIn (off := 149) (tgt := 181) hx hb dL_law_32 (by decide) (by decide) (by decide) (by decide) ?_
          exact G_fill hx hb hml hown hts hX hbl hKU hce hsl hLs hi hcn step H locs hI ls hl
        · refine lv_tableIn (off := 192) (tgt := 224) hx hb dL_law_32 (by decide) (by decide) (by decide) (by decide) ?_
          exact G_thin hx hb hml hown hts hX hbl hKU hce hsl hLs hi hcn step H locs hI ls hl
        · refine lv_tableIn (off := 215) (tgt := 247) hx hb dL_law_32 (by decide) (by decide) (by decide) (by decide) ?_
          exact G_pour hx hb hml hown hts hX hbl hKU hce hsl hLs hi hcn step H locs hI ls hl
        · refine lv_tableIn (off := 258) (tgt := 290) hx hb dL_law_32 (by decide) (by decide) (by decide) (by decide) ?_
          exact G_empty hx hb hml hown hts hX hbl hKU hce hsl hLs hi hcn step H locs hI ls hl
        · refine lv_tableIn (off := 281) (tgt := 313) hx hb dL_law_32 (by decide) (by decide) (by decide) (by decide) ?_
          exact G_dip hx hb hml hown hts hX hbl hKU hce hsl hLs hi hcn step H locs hI ls hl
        · refine lv_tableIn (off := 314) (tgt := 346) hx hb dL_law_32 (by decide) (by decide) (by decide) (by decide) ?_
          exact G_paint hx hb hml hown hts hX hbl hKU hce hsl hLs hi hcn step H locs hI ls hl
        · refine lv_tableIn (off := 337) (tgt := 369) hx hb dL_law_32 (by decide) (by decide) (by decide) (by decide) ?_
          exact G_rinse hx hb hml hown hts hX hbl hKU hce hsl hLs hi hcn step H locs hI ls hl
        · refine lv_tableIn (off := 350) (tgt := 382) hx hb dL_law_32 (by decide) (by decide) (by decide) (by decide) ?_
          exact G_want hx hb hml hown hts hX hbl hKU hce hsl hLs hi hcn step H locs hI ls hl
        · refine lv_tableIn (off := 403) (tgt := 435) hx hb dL_law_32 (by decide) (by decide) (by decide) (by decide) ?_
          exact G_run hx hb hml hown hts hX hbl hKU hce hsl hLs hi hcn step H locs hI ls hl
        · refine lv_tableIn (off := 416) (tgt := 448) hx hb dL_law_32 (by decide) (by decide) (by decide) (by decide) ?_
          exact G_pot hx hb hml hown hts hX hbl hKU hce hsl hLs hi hcn step H locs hI ls hl
        · refine lv_tableIn (off := 449) (tgt := 481) hx hb dL_law_32 (by decide) (by decide) (by decide) (by decide) ?_
          exact G_brush hx hb hml hown hts hX hbl hKU hce hsl hLs hi hcn step H locs hI ls hl
        · refine lv_tableIn (off := 472) (tgt := 504) hx hb dL_law_32 (by decide) (by decide) (by decide) (by decide) ?_
          exact G_panel hx hb hml hown hts hX hbl hKU hce hsl hLs hi hcn step H locs hI ls hl
        · refine lv_tableIn (off := 505) (tgt := 537) hx hb dL_law_32 (by decide) (by decide) (by decide) (by decide) ?_
          exact G_count hx hb hml hown hts hX hbl hKU hce hsl hLs hi hcn step H locs hI ls hl
        · refine lv_tableIn (off := 528) (tgt := 560) hx hb dL_law_32 (by decide) (by decide) (by decide) (by decide) ?_
          exact G_nearest hx hb hml hown hts hX hbl hKU hce hsl hLs hi hcn step H locs hI ls hl
        · refine lv_tableIn (off := 561) (tgt := 593) hx hb dL_law_32 (by decide) (by decide) (by decide) (by decide) ?_
          exact G_bestThinning hx hb hml hown hts hX hbl hKU hce hsl hLs hi hcn step H locs hI ls hl
        · refine lv_tableIn (off := 604) (tgt := 636) hx hb dL_law_32 (by decide) (by decide) (by decide) (by decide) ?_
          exact G_bestMixture hx hb hml hown hts hX hbl hKU hce hsl hLs hi hcn step H locs hI ls hl
        · refine lv_tableIn (off := 637) (tgt := 669) hx hb dL_law_32 (by decide) (by decide) (by decide) (by decide) ?_
          exact G_rinses hx hb hml hown hts hX hbl hKU hce hsl hLs hi hcn step H locs hI ls hl
        · refine lv_tableIn (off := 660) (tgt := 692) hx hb dL_law_32 (by decide) (by decide) (by decide) (by decide) ?_
          exact G_bestOrder hx hb hml hown hts hX hbl hKU hce hsl hLs hi hcn step H locs hI ls hl
        · refine lv_tableIn (off := 683) (tgt := 715) hx hb dL_law_32 (by decide) (by decide) (by decide) (by decide) ?_
          exact G_put hx hb hml hown hts hX hbl hKU hce hsl hLs hi hcn step H locs hI ls hl
        · refine lv_tableIn (off := 736) (tgt := 768) hx hb dL_law_32 (by decide) (by decide) (by decide) (by decide) ?_
          exact G_wipe hx hb hml hown hts hX hbl hKU hce hsl hLs hi hcn step H locs hI ls hl
        · refine lv_tableIn (off := 749) (tgt := 781) hx hb dL_law_32 (by decide) (by decide) (by decide) (by decide) ?_
          exact G_fault hx hb hml hown hts hX hbl hKU hce hsl hLs hi hcn step H locs hI ls hl
        · refine lv_tableIn (off := 762) (tgt := 794) hx hb dL_law_32 (by decide) (by decide) (by decide) (by decide) ?_
          exact G_undo hx hb hml hown hts hX hbl hKU hce hsl hLs hi hcn step H locs hI ls hl
        · refine lv_tableIn (off := 775) (tgt := 807) hx hb dL_law_32 (by decide) (by decide) (by decide) (by decide) ?_
          exact G_save hx hb hml hown hts hX hbl hKU hce hsl hLs hi hcn step H locs hI ls hl
        · refine lv_tableIn (off := 798) (tgt := 830) hx hb dL_law_32 (by decide) (by decide) (by decide) (by decide) ?_
          exact G_restore hx hb hml hown hts hX hbl hKU hce hsl hLs hi hcn step H locs hI ls hl
      · refine lv_tableOut (tgt := 853) hx hb dL_law_32 (Or.inr ?_) (by decide) ?_
        · rw [nI_toInt (by omega)]
          omega
        · exact step ce sl H locs (by omega) (by omega) (hI.mono (by omega)) ls hl
