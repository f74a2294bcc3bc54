theorem nd_L_areDrops : yL_areDrops.cls = RL ∧ yL_areDrops.cls ≠ "java/lang/invoke/MethodHandle" ∧ yL_areDrops.cls ≠ "java/lang/invoke/VarHandle" ∧ (parseMethodDescriptor yL_areDrops.desc).map (fun d => d.parameters.length) = some 1 := by decide +kernel
set_option maxHeartbeats 8000000 in
set_option maxRecDepth 100000 in
theorem k_L_areDrops (l : Launch) (D : va_G) (cI cZ cC cS : ClassId) (sz : Nat) (w : va_W) (oa : Nat) (f0 : Ab) (hO : OKW cI cS oa f0 w)  (res : Int32) (hsp : s_L_areDrops f0 = some res) : Met l yL_areDrops wsL_areDrops ({ frames := 7, cells := 0, slots := 0, locals := 156 }) (va_Pc [.ref oa] (PB D cI cZ cC cS w sz)) (va_Qi (fun r (_ : Unit) => r = res ∧ (res = 0 ∨ res = 1)) (fun _ t => WD D cI cS (va_A w sz) oa f0 t.heap) (va_A w sz)) 0 0 (va_A w sz) := by
  refine Met.ofW (cc := cL_areDrops) (maxL := 9) (ret := (some .boolean)) (by decide) rfl ?_
  intro p e s m args below meth c s₁ B hml hv
  obtain ⟨rfl, hsz, hP, hD0, hKU⟩ := hv
  have hx := B.exec
  have hb := B.bytes
  have hr := B.returns
  have hts := atoms_spec (ws := wsL_areDrops) B.pre
  have hown : s.vm.findClass RL = some m.cls := findClass_of_methodNamed B.named
  have hlocks := B.notSynchronized
  subst hsz
  have hD := hD0.self (sz := s.heap.size)
  have hAA : ∀ q : Nat, s.heap.size ≤ q → va_A w s.heap.size q := fun q h => Or.inr h
  generalize hAe : va_A w s.heap.size = A at hD hAA ⊢
  have hA : ∀ q : Nat, s.heap.size ≤ q → A q := hAA
  have hW : WD D cI cS A oa f0 s.heap := ⟨w, hO, hP, hD⟩
  generalize hHe : s.heap = H at hW ⊢
  have hS : va_S A s.heap H [] := by rw [hHe]; exact va_S.rf
  have hl := lv_entry ([.ref oa]) (n := 9) (Nat.le_of_ble_eq_true rfl)
  rw [lg_entry_eq]
  generalize (lg_sl ([.ref oa]) ++ List.replicate (9 - (lg_sl ([.ref oa])).length) Slot.unset).toArray = ls at hl ⊢
  have hl : lv_has ls 9 [(0, .ref oa)] := hl
  unfold s_L_areDrops at hsp
  refine lv_iconst (v := 0) hx hb dL_areDrops_0 (by decide) ?_
  refine lv_istore_n (lv' := [(1, .int 0), (0, .ref oa)]) hx hb dL_areDrops_1 rfl hl (by decide) rfl (fun ls hl => ?_)
  refine lv_iconst (v := 0) hx hb dL_areDrops_2 (by decide) ?_
  refine lv_istore_n (lv' := [(2, .int 0), (1, .int 0), (0, .ref oa)]) hx hb dL_areDrops_3 rfl hl (by decide) rfl (fun ls hl => ?_)
  refine lv_iconst (v := 0) hx hb dL_areDrops_4 (by decide) ?_
  refine lv_istore_n (lv' := [(3, .int 0), (2, .int 0), (1, .int 0), (0, .ref oa)]) hx hb dL_areDrops_5 rfl hl (by decide) rfl (fun ls hl => ?_)
  refine lv_iconst (v := 0) hx hb dL_areDrops_6 (by decide) ?_
  refine lv_istore (lv' := [(4, .int 0), (3, .int 0), (2, .int 0), (1, .int 0), (0, .ref oa)]) hx hb dL_areDrops_7 hl (by decide) rfl (fun ls hl => ?_)
  refine lv_iconst (v := 1) hx hb dL_areDrops_9 (by decide) ?_
  refine lv_istore (lv' := [(5, .int 1), (4, .int 0), (3, .int 0), (2, .int 0), (1, .int 0), (0, .ref oa)]) hx hb dL_areDrops_10 hl (by decide) rfl (fun ls hl => ?_)
  refine lv_iconst (v := 0) hx hb dL_areDrops_12 (by decide) ?_
  refine lv_istore (lv' := [(6, .int 0), (5, .int 1), (4, .int 0), (3, .int 0), (2, .int 0), (1, .int 0), (0, .ref oa)]) hx hb dL_areDrops_13 hl (by decide) rfl (fun ls hl => ?_)
  refine ex_o (K := s_L_areDrops_X1 f0) (PH := fun (t1 : Int32) => WD D cI cS A oa (f0)) (L := fun (t1 : Int32) => [(0, .ref oa), (1, .int t1), (2, .int 0), (3, .int 0), (4, .int 0), (5, .int 1)]) (nL := 9) (pcx := 161) (res := res) (A := A) (H0 := s.heap) ?_ (fun hx1 => ?_)
  · intro t1 H locs hsp hW hS ls hl
    obtain ⟨x3, rfl⟩ : ∃ z, z = t1 := ⟨_, rfl⟩
    unfold s_L_areDrops_X1 at hsp; try dsimp only at hsp
    have hW : WD D cI cS A oa f0 H := hW
    have hl : lv_has ls 9 [(0, .ref oa), (1, .int x3), (2, .int 0), (3, .int 0), (4, .int 0), (5, .int 1)] := hl
    refine lv_iconst (v := 0) hx hb dL_areDrops_161 (by decide) ?_
    refine lv_istore (lv' := [(6, .int 0), (0, .ref oa), (1, .int x3), (2, .int 0), (3, .int 0), (4, .int 0), (5, .int 1)]) hx hb dL_areDrops_162 hl (by decide) rfl (fun ls hl => ?_)
    refine ex_o (K := s_L_areDrops_X2 f0 x3) (PH := fun (t2 : Int32 × Int32 × Int32) => WD D cI cS A oa (f0)) (L := fun (t2 : Int32 × Int32 × Int32) => [(0, .ref oa), (1, .int x3), (2, .int t2.1), (3, .int t2.2.1), (4, .int t2.2.2), (5, .int 1)]) (nL := 9) (pcx := 382) (res := res) (A := A) (H0 := s.heap) ?_ (fun hx2 => ?_)
    · intro t2 H locs hsp hW hS ls hl
      obtain ⟨x8, x9, x10⟩ := t2
      unfold s_L_areDrops_X2 at hsp; try dsimp only at hsp
      have hW : WD D cI cS A oa f0 H := hW
      have hl : lv_has ls 9 [(0, .ref oa), (1, .int x3), (2, .int x8), (3, .int x9), (4, .int x10), (5, .int 1)] := hl
      refine lv_aload_n hx hb dL_areDrops_382 rfl (lv_at hl 0 rfl) ?_
      refine lv_iconst (v := 0) hx hb dL_areDrops_383 (by decide) ?_
      obtain ⟨r11, hcr11, hsp⟩ := clE hsp
      refine call_o (As := [.int 0]) (rest := []) (KO_brush (l := l) (D := D) (cI := cI) (cZ := cZ) (cC := cC) (cS := cS) (oa := oa) hcr11) hKU hW hS hA ⟨hx, hb, hml, hown, hts⟩ (cwV 1 hts gL_areDrops_X4_brush rfl rfl rfl nd_X4_brush ⟨Nat.le_of_ble_eq_true rfl, Nat.le_of_ble_eq_true rfl⟩) rfl hl.1 rfl (Nat.le_of_ble_eq_true rfl) dL_areDrops_384 ⟨Nat.le_of_ble_eq_true rfl, Nat.le_of_ble_eq_true rfl⟩ (fun H locs hW hS => ?_)
      refine lv_aload_n hx hb dL_areDrops_387 rfl (lv_at hl 0 rfl) ?_
      refine lv_iconst (v := 1) hx hb dL_areDrops_388 (by decide) ?_
      obtain ⟨r12, hcr12, hsp⟩ := clE hsp
      refine call_o (As := [.int 1]) (rest := [.int r11]) (KO_brush (l := l) (D := D) (cI := cI) (cZ := cZ) (cC := cC) (cS := cS) (oa := oa) hcr12) hKU hW hS hA ⟨hx, hb, hml, hown, hts⟩ (cwV 1 hts gL_areDrops_X4_brush rfl rfl rfl nd_X4_brush ⟨Nat.le_of_ble_eq_true rfl, Nat.le_of_ble_eq_true rfl⟩) rfl hl.1 rfl (Nat.le_of_ble_eq_true rfl) dL_areDrops_389 ⟨Nat.le_of_ble_eq_true rfl, Nat.le_of_ble_eq_true rfl⟩ (fun H locs hW hS => ?_)
      refine lv_iadd hx hb dL_areDrops_392 ?_
      refine lv_aload_n hx hb dL_areDrops_393 rfl (lv_at hl 0 rfl) ?_
      refine lv_iconst (v := 2) hx hb dL_areDrops_394 (by decide) ?_
      obtain ⟨r13, hcr13, hsp⟩ := clE hsp
      refine call_o (As := [.int 2]) (rest := [.int (r11 + r12)]) (KO_brush (l := l) (D := D) (cI := cI) (cZ := cZ) (cC := cC) (cS := cS) (oa := oa) hcr13) hKU hW hS hA ⟨hx, hb, hml, hown, hts⟩ (cwV 1 hts gL_areDrops_X4_brush rfl rfl rfl nd_X4_brush ⟨Nat.le_of_ble_eq_true rfl, Nat.le_of_ble_eq_true rfl⟩) rfl hl.1 rfl (Nat.le_of_ble_eq_true rfl) dL_areDrops_395 ⟨Nat.le_of_ble_eq_true rfl, Nat.le_of_ble_eq_true rfl⟩ (fun H locs hW hS => ?_)
      refine lv_iadd hx hb dL_areDrops_398 ?_
      refine lv_aload_n hx hb dL_areDrops_399 rfl (lv_at hl 0 rfl) ?_
      refine lv_iconst (v := 3) hx hb dL_areDrops_400 (by decide) ?_
      obtain ⟨r14, hcr14, hsp⟩ := clE hsp
      refine call_o (As := [.int 3]) (rest := [.int ((r11 + r12) + r13)]) (KO_brush (l := l) (D := D) (cI := cI) (cZ := cZ) (cC := cC) (cS := cS) (oa := oa) hcr14) hKU hW hS hA ⟨hx, hb, hml, hown, hts⟩ (cwV 1 hts gL_areDrops_X4_brush rfl rfl rfl nd_X4_brush ⟨Nat.le_of_ble_eq_true rfl, Nat.le_of_ble_eq_true rfl⟩) rfl hl.1 rfl (Nat.le_of_ble_eq_true rfl) dL_areDrops_401 ⟨Nat.le_of_ble_eq_true rfl, Nat.le_of_ble_eq_true rfl⟩ (fun H locs hW hS => ?_)
      refine lv_iadd hx hb dL_areDrops_404 ?_
      obtain ⟨x15, ex15, hsp⟩ := nmE hsp
      refine r_top ex15 ?_
      refine lv_istore (lv' := [(6, .int x15), (0, .ref oa), (1, .int x3), (2, .int x8), (3, .int x9), (4, .int x10), (5, .int 1)]) hx hb dL_areDrops_405 hl (by decide) rfl (fun ls hl => ?_)
      refine lv_iload hx hb dL_areDrops_407 (lv_at hl 6 rfl) ?_
      refine lv_if_eq (tgt := 501) hx hb dL_areDrops_409 (by decide) (fun hc => absurd hc (by decide)) (fun _ => ?_)
      refine lv_iload hx hb dL_areDrops_412 (lv_at hl 0 rfl) ?_
      refine lv_aload_n hx hb dL_areDrops_414 rfl (lv_at hl 1 rfl) ?_
      refine lv_iconst (v := 4) hx hb dL_areDrops_415 (by decide) ?_
      obtain ⟨r16, hcr16, hsp⟩ := clE hsp
      refine call_o (As := [.int 4]) (rest := [.int x15]) (KO_brush (l := l) (D := D) (cI := cI) (cZ := cZ) (cC := cC) (cS := cS) (oa := oa) hcr16) hKU hW hS hA ⟨hx, hb, hml, hown, hts⟩ (cwV 1 hts gL_areDrops_X4_brush rfl rfl rfl nd_X4_brush ⟨Nat.le_of_ble_eq_true rfl, Nat.le_of_ble_eq_true rfl⟩) rfl hl.1 rfl (Nat.le_of_ble_eq_true rfl) dL_areDrops_416 ⟨Nat.le_of_ble_eq_true rfl, Nat.le_of_ble_eq_true rfl⟩ (fun H locs hW hS => ?_)
      refine lv_icmp_ne (tgt := 501) hx hb dL_areDrops_419 (by decide) (fun c17 => ?_) (fun c17 => ?_)
      · have hsp := itF hsp c17
        cases hsp
      have hsp := itT hsp c17
      refine lv_iload hx hb dL_areDrops_422 (lv_at hl 0 rfl) ?_
      refine lv_bipush (v := 9) hx hb dL_areDrops_424 (by decide) ?_
      refine lv_icmp_gt (tgt := 501) hx hb dL_areDrops_426 (by decide) (fun c18 => ?_) (fun c18 => ?_)
      · have hsp := itT hsp c18
        cases hsp
      have hsp := itF hsp c18
      refine lv_iload_n hx hb dL_areDrops_429 rfl (lv_at hl 2 rfl) ?_
      refine lv_aload_n hx hb dL_areDrops_430 rfl (lv_at hl 1 rfl) ?_
      refine lv_iconst (v := 3) hx hb dL_areDrops_431 (by decide) ?_
      obtain ⟨r19, hcr19, hsp⟩ := clE hsp
      refine call_o (As := [.int 3]) (rest := [.int x3]) (KO_count (l := l) (D := D) (cI := cI) (cZ := cZ) (cC := cC) (cS := cS) (oa := oa) hcr19) hKU hW hS hA ⟨hx, hb, hml, hown, hts⟩ (cwV 1 hts gL_areDrops_X4_count rfl rfl rfl nd_X4_count ⟨Nat.le_of_ble_eq_true rfl, Nat.le_of_ble_eq_true rfl⟩) rfl hl.1 rfl (Nat.le_of_ble_eq_true rfl) dL_areDrops_432 ⟨Nat.le_of_ble_eq_true rfl, Nat.le_of_ble_eq_true rfl⟩ (fun H locs hW hS => ?_)
      refine lv_icmp_ne (tgt := 501) hx hb dL_areDrops_435 (by decide) (fun c20 => ?_) (fun c20 => ?_)
      · have hsp := itF hsp c20
        cases hsp
      have hsp := itT hsp c20
      refine lv_iload_n hx hb dL_areDrops_438 rfl (lv_at hl 4 rfl) ?_
      refine lv_aload_n hx hb dL_areDrops_439 rfl (lv_at hl 1 rfl) ?_
      refine lv_bipush (v := 6) hx hb dL_areDrops_440 (by decide) ?_
      obtain ⟨r21, hcr21, hsp⟩ := clE hsp
      refine call_o (As := [.int 6]) (rest := [.int x9]) (KO_count (l := l) (D := D) (cI := cI) (cZ := cZ) (cC := cC) (cS := cS) (oa := oa) hcr21) hKU hW hS hA ⟨hx, hb, hml, hown, hts⟩ (cwV 1 hts gL_areDrops_X4_count rfl rfl rfl nd_X4_count ⟨Nat.le_of_ble_eq_true rfl, Nat.le_of_ble_eq_true rfl⟩) rfl hl.1 rfl (Nat.le_of_ble_eq_true rfl) dL_areDrops_442 ⟨Nat.le_of_ble_eq_true rfl, Nat.le_of_ble_eq_true rfl⟩ (fun H locs hW hS => ?_)
      refine lv_icmp_ne (tgt := 501) hx hb dL_areDrops_445 (by decide) (fun c22 => ?_) (fun c22 => ?_)
      · have hsp := itF hsp c22
        cases hsp
      have hsp := itT hsp c22
      refine lv_iload_n hx hb dL_areDrops_448 rfl (lv_at hl 3 rfl) ?_
      refine lv_aload_n hx hb dL_areDrops_449 rfl (lv_at hl 1 rfl) ?_
      refine lv_bipush (v := 7) hx hb dL_areDrops_450 (by decide) ?_
      obtain ⟨r23, hcr23, hsp⟩ := clE hsp
      refine call_o (As := [.int 7]) (rest := [.int x8]) (KO_count (l := l) (D := D) (cI := cI) (cZ := cZ) (cC := cC) (cS := cS) (oa := oa) hcr23) hKU hW hS hA ⟨hx, hb, hml, hown, hts⟩ (cwV 1 hts gL_areDrops_X4_count rfl rfl rfl nd_X4_count ⟨Nat.le_of_ble_eq_true rfl, Nat.le_of_ble_eq_true rfl⟩) rfl hl.1 rfl (Nat.le_of_ble_eq_true rfl) dL_areDrops_452 ⟨Nat.le_of_ble_eq_true rfl, Nat.le_of_ble_eq_true rfl⟩ (fun H locs hW hS => ?_)
      refine lv_icmp_ne (tgt := 501) hx hb dL_areDrops_455 (by decide) (fun c24 => ?_) (fun c24 => ?_)
      · have hsp := itF hsp c24
        cases hsp
      have hsp := itT hsp c24
      refine lv_iload hx hb dL_areDrops_458 (lv_at hl 5 rfl) ?_
      refine lv_aload_n hx hb dL_areDrops_460 rfl (lv_at hl 1 rfl) ?_
      refine lv_bipush (v := 8) hx hb dL_areDrops_461 (by decide) ?_
      obtain ⟨r25, hcr25, hsp⟩ := clE hsp
      refine call_o (As := [.int 8]) (rest := [.int x10]) (KO_count (l := l) (D := D) (cI := cI) (cZ := cZ) (cC := cC) (cS := cS) (oa := oa) hcr25) hKU hW hS hA ⟨hx, hb, hml, hown, hts⟩ (cwV 1 hts gL_areDrops_X4_count rfl rfl rfl nd_X4_count ⟨Nat.le_of_ble_eq_true rfl, Nat.le_of_ble_eq_true rfl⟩) rfl hl.1 rfl (Nat.le_of_ble_eq_true rfl) dL_areDrops_463 ⟨Nat.le_of_ble_eq_true rfl, Nat.le_of_ble_eq_true rfl⟩ (fun H locs hW hS => ?_)
      refine lv_icmp_ne (tgt := 501) hx hb dL_areDrops_466 (by decide) (fun c26 => ?_) (fun c26 => ?_)
      · have hsp := itF hsp c26
        cases hsp
      have hsp := itT hsp c26
      refine lv_aload_n hx hb dL_areDrops_469 rfl (lv_at hl 1 rfl) ?_
      refine lv_iconst (v := 2) hx hb dL_areDrops_470 (by decide) ?_
      obtain ⟨r27, hcr27, hsp⟩ := clE hsp
      refine call_o (As := [.int 2]) (rest := []) (KO_count (l := l) (D := D) (cI := cI) (cZ := cZ) (cC := cC) (cS := cS) (oa := oa) hcr27) hKU hW hS hA ⟨hx, hb, hml, hown, hts⟩ (cwV 1 hts gL_areDrops_X4_count rfl rfl rfl nd_X4_count ⟨Nat.le_of_ble_eq_true rfl, Nat.le_of_ble_eq_true rfl⟩) rfl hl.1 rfl (Nat.le_of_ble_eq_true rfl) dL_areDrops_471 ⟨Nat.le_of_ble_eq_true rfl, Nat.le_of_ble_eq_true rfl⟩ (fun H locs hW hS => ?_)
      refine lv_aload_n hx hb dL_areDrops_474 rfl (lv_at hl 1 rfl) ?_
      refine lv_iconst (v := 3) hx hb dL_areDrops_475 (by decide) ?_
      obtain ⟨r28, hcr28, hsp⟩ := clE hsp
      refine call_o (As := [.int 3]) (rest := [.int r27]) (KO_count (l := l) (D := D) (cI := cI) (cZ := cZ) (cC := cC) (cS := cS) (oa := oa) hcr28) hKU hW hS hA ⟨hx, hb, hml, hown, hts⟩ (cwV 1 hts gL_areDrops_X4_count rfl rfl rfl nd_X4_count ⟨Nat.le_of_ble_eq_true rfl, Nat.le_of_ble_eq_true rfl⟩) rfl hl.1 rfl (Nat.le_of_ble_eq_true rfl) dL_areDrops_476 ⟨Nat.le_of_ble_eq_true rfl, Nat.le_of_ble_eq_true rfl⟩ (fun H locs hW hS => ?_)
      refine lv_aload_n hx hb dL_areDrops_479 rfl (lv_at hl 1 rfl) ?_
      refine lv_iconst (v := 4) hx hb dL_areDrops_480 (by decide) ?_
      obtain ⟨r29, hcr29, hsp⟩ := clE hsp
      refine call_o (As := [.int 4]) (rest := [.int r28, .int r27]) (KO_count (l := l) (D := D) (cI := cI) (cZ := cZ) (cC := cC) (cS := cS) (oa := oa) hcr29) hKU hW hS hA ⟨hx, hb, hml, hown, hts⟩ (cwV 1 hts gL_areDrops_X4_count rfl rfl rfl nd_X4_count ⟨Nat.le_of_ble_eq_true rfl, Nat.le_of_ble_eq_true rfl⟩) rfl hl.1 rfl (Nat.le_of_ble_eq_true rfl) dL_areDrops_481 ⟨Nat.le_of_ble_eq_true rfl, Nat.le_of_ble_eq_true rfl⟩ (fun H locs hW hS => ?_)
      refine lv_iadd hx hb dL_areDrops_484 ?_
      refine lv_aload_n hx hb dL_areDrops_485 rfl (lv_at hl 1 rfl) ?_
      refine lv_iconst (v := 5) hx hb dL_areDrops_486 (by decide) ?_
      obtain ⟨r30, hcr30, hsp⟩ := clE hsp
      refine call_o (As := [.int 5]) (rest := [.int (r28 + r29), .int r27]) (KO_count (l := l) (D := D) (cI := cI) (cZ := cZ) (cC := cC) (cS := cS) (oa := oa) hcr30) hKU hW hS hA ⟨hx, hb, hml, hown, hts⟩ (cwV 1 hts gL_areDrops_X4_count rfl rfl rfl nd_X4_count ⟨Nat.le_of_ble_eq_true rfl, Nat.le_of_ble_eq_true rfl⟩) rfl hl.1 rfl (Nat.le_of_ble_eq_true rfl) dL_areDrops_487 ⟨Nat.le_of_ble_eq_true rfl, Nat.le_of_ble_eq_true rfl⟩ (fun H locs hW hS => ?_)
      refine lv_iadd hx hb dL_areDrops_490 ?_
      refine lv_iload hx hb dL_areDrops_491 (lv_at hl 0 rfl) ?_
      refine lv_iadd hx hb dL_areDrops_493 ?_
      refine lv_icmp_ne (tgt := 501) hx hb dL_areDrops_494 (by decide) (fun c31 => ?_) (fun c31 => ?_)
      · have hsp := itF hsp c31
        cases hsp
      have hsp := itT hsp c31
      refine lv_iconst (v := 1) hx hb dL_areDrops_497 (by decide) ?_
      refine lv_goto (tgt := 502) hx hb dL_areDrops_498 (by decide) ?_
      have hres := Option.some.inj hsp
      subst hres
      exact W.zret (v := 1) hx hb hr (zE (Or.inr rfl)) (fun t ht _ => ⟨⟨1, (), rfl, ⟨rfl, (Or.inr rfl)⟩, W_at ht hW⟩, hS.F ht⟩) hS.2.2 dL_areDrops_502
    have hl := lv_sub hl (l' := [(0, .ref oa), (1, .int x3), (2, .int 0), (3, .int 0), (4, .int 0), (5, .int 1), (6, .int 0)]) [1, 2, 3, 4, 5, 6, 0] rfl
    refine lp_o (F := s_L_areDrops_L2 f0 (s_L_areDrops_X2 f0 x3)) (PH := fun (tv : Int32 × Int32 × Int32 × Int32) => WD D cI cS A oa (f0)) (L := fun (tv : Int32 × Int32 × Int32 × Int32) => [(0, .ref oa), (1, .int x3), (2, .int tv.1), (3, .int tv.2.1), (4, .int tv.2.2.1), (5, .int 1), (6, .int tv.2.2.2)]) (nL := 9) (res := res) (A := A) (H0 := s.heap) (fun _ => rfl) ?_ 1000 (0, 0, 0, 0) _ _ hsp hW hS _ hl
    · intro n2 ih2 tv H locs hsp hW hS ls hl
      obtain ⟨x4, x5, x6, x7⟩ := tv
      have hsp : s_L_areDrops_B2  f0 (s_L_areDrops_X2 f0 x3) (s_L_areDrops_L2 f0 (s_L_areDrops_X2 f0 x3) n2) x4 x5 x6 x7 = some res := hsp
      unfold s_L_areDrops_B2 at hsp
      have hW : WD D cI cS A oa f0 H := hW
      have hl : lv_has ls 9 [(0, .ref oa), (1, .int x3), (2, .int x4), (3, .int x5), (4, .int x6), (5, .int 1), (6, .int x7)] := hl
      refine lv_iload hx hb dL_areDrops_164 (lv_at hl 6 rfl) ?_
      refine lv_bipush (v := 6) hx hb dL_areDrops_166 (by decide) ?_
      refine lv_icmp_ge (tgt := 382) hx hb dL_areDrops_168 (by decide) (fun c32 => ?_) (fun c32 => ?_)
      · have hsp := itT hsp c32
        exact hx2 (x4, x5, x6) _ _ hsp hW hS _ (lv_sub hl [0, 1, 2, 3, 4, 5] rfl)
      have hsp := itF hsp c32
      refine lv_iload hx hb dL_areDrops_171 (lv_at hl 5 rfl) ?_
      refine lv_if_eq (tgt := 382) hx hb dL_areDrops_173 (by decide) (fun hc => absurd hc (by decide)) (fun _ => ?_)
      refine lv_aload_n hx hb dL_areDrops_176 rfl (lv_at hl 0 rfl) ?_
      refine lv_iload hx hb dL_areDrops_177 (lv_at hl 6 rfl) ?_
      refine lv_iconst (v := 3) hx hb dL_areDrops_179 (by decide) ?_
      obtain ⟨r33, hcr33, hsp⟩ := clE hsp
      refine call_o (As := [.int x7, .int 3]) (rest := []) (KO_panel (l := l) (D := D) (cI := cI) (cZ := cZ) (cC := cC) (cS := cS) (oa := oa) hcr33) hKU hW hS hA ⟨hx, hb, hml, hown, hts⟩ (cwV 2 hts gL_areDrops_X4_panel rfl rfl rfl nd_X4_panel ⟨Nat.le_of_ble_eq_true rfl, Nat.le_of_ble_eq_true rfl⟩) rfl hl.1 rfl (Nat.le_of_ble_eq_true rfl) dL_areDrops_180 ⟨Nat.le_of_ble_eq_true rfl, Nat.le_of_ble_eq_true rfl⟩ (fun H locs hW hS => ?_)
      refine lv_if_lt (tgt := 190) hx hb dL_areDrops_183 (by decide) (fun c34 => ?_) (fun c34 => ?_)
      · have hsp := itT hsp c34
        refine lv_iconst (v := 0) hx hb dL_areDrops_190 (by decide) ?_
        refine lv_istore (lv' := [(7, .int 0), (0, .ref oa), (1, .int x3), (2, .int x4), (3, .int x5), (4, .int x6), (5, .int 1), (6, .int x7)]) hx hb dL_areDrops_191 hl (by decide) rfl (fun ls hl => ?_)
        refine lv_iload hx hb dL_areDrops_193 (lv_at hl 0 rfl) ?_
        refine lv_if_eq (tgt := 254) hx hb dL_areDrops_195 (by decide) (fun _ => ?_) (fun hc => absurd hc (by decide))
        refine lv_bipush (v := (-6)) hx hb dL_areDrops_254 (by decide) ?_
        refine lv_istore (lv' := [(8, .int (-6)), (7, .int 0), (0, .ref oa), (1, .int x3), (2, .int x4), (3, .int x5), (4, .int x6), (5, .int 1), (6, .int x7)]) hx hb dL_areDrops_256 hl (by decide) rfl (fun ls hl => ?_)
        refine lv_iload_n hx hb dL_areDrops_258 rfl (lv_at hl 5 rfl) ?_
        refine lv_iload hx hb dL_areDrops_259 (lv_at hl 1 rfl) ?_
        refine lv_if_eq (tgt := 268) hx hb dL_areDrops_261 (by decide) (fun _ => ?_) (fun hc => absurd hc (by decide))
        refine lv_iconst (v := 0) hx hb dL_areDrops_268 (by decide) ?_
        refine lv_iadd hx hb dL_areDrops_269 ?_
        obtain ⟨x35, ex35, hsp⟩ := nmE hsp
        refine r_top ex35 ?_
        refine lv_istore_n (lv' := [(3, .int x35), (8, .int (-6)), (7, .int 0), (0, .ref oa), (1, .int x3), (2, .int x4), (4, .int x6), (5, .int 1), (6, .int x7)]) hx hb dL_areDrops_270 rfl hl (by decide) rfl (fun ls hl => ?_)
        refine lv_iload_n hx hb dL_areDrops_271 rfl (lv_at hl 5 rfl) ?_
        refine lv_aload_n hx hb dL_areDrops_272 rfl (lv_at hl 3 rfl) ?_
        refine lv_iload hx hb dL_areDrops_273 (lv_at hl 8 rfl) ?_
        refine lv_bipush (v := 7) hx hb dL_areDrops_275 (by decide) ?_
        obtain ⟨r36, hcr36, hsp⟩ := clE hsp
        refine call_o (As := [.int x7, .int 7]) (rest := [.int x4]) (KO_panel (l := l) (D := D) (cI := cI) (cZ := cZ) (cC := cC) (cS := cS) (oa := oa) hcr36) hKU hW hS hA ⟨hx, hb, hml, hown, hts⟩ (cwV 2 hts gL_areDrops_X4_panel rfl rfl rfl nd_X4_panel ⟨Nat.le_of_ble_eq_true rfl, Nat.le_of_ble_eq_true rfl⟩) rfl hl.1 rfl (Nat.le_of_ble_eq_true rfl) dL_areDrops_277 ⟨Nat.le_of_ble_eq_true rfl, Nat.le_of_ble_eq_true rfl⟩ (fun H locs hW hS => ?_)
        refine lv_iadd hx hb dL_areDrops_280 ?_
        obtain ⟨x37, ex37, hsp⟩ := nmE hsp
        refine r_top ex37 ?_
        refine lv_istore_n (lv' := [(2, .int x37), (3, .int x35), (8, .int (-6)), (7, .int 0), (0, .ref oa), (1, .int x3), (4, .int x6), (5, .int 1), (6, .int x7)]) hx hb dL_areDrops_281 rfl hl (by decide) rfl (fun ls hl => ?_)
        refine lv_iload hx hb dL_areDrops_282 (lv_at hl 6 rfl) ?_
        refine lv_aload_n hx hb dL_areDrops_284 rfl (lv_at hl 4 rfl) ?_
        refine lv_iload hx hb dL_areDrops_285 (lv_at hl 8 rfl) ?_
        refine lv_bipush (v := 8) hx hb dL_areDrops_287 (by decide) ?_
        obtain ⟨r38, hcr38, hsp⟩ := clE hsp
        refine call_o (As := [.int x7, .int 8]) (rest := [.int x6]) (KO_panel (l := l) (D := D) (cI := cI) (cZ := cZ) (cC := cC) (cS := cS) (oa := oa) hcr38) hKU hW hS hA ⟨hx, hb, hml, hown, hts⟩ (cwV 2 hts gL_areDrops_X4_panel rfl rfl rfl nd_X4_panel ⟨Nat.le_of_ble_eq_true rfl, Nat.le_of_ble_eq_true rfl⟩) rfl hl.1 rfl (Nat.le_of_ble_eq_true rfl) dL_areDrops_289 ⟨Nat.le_of_ble_eq_true rfl, Nat.le_of_ble_eq_true rfl⟩ (fun H locs hW hS => ?_)
        refine lv_iadd hx hb dL_areDrops_292 ?_
        obtain ⟨x39, ex39, hsp⟩ := nmE hsp
        refine r_top ex39 ?_
        refine lv_istore (lv' := [(4, .int x39), (2, .int x37), (3, .int x35), (8, .int (-6)), (7, .int 0), (0, .ref oa), (1, .int x3), (5, .int 1), (6, .int x7)]) hx hb dL_areDrops_293 hl (by decide) rfl (fun ls hl => ?_)
        refine lv_aload_n hx hb dL_areDrops_295 rfl (lv_at hl 5 rfl) ?_
        refine lv_iload hx hb dL_areDrops_296 (lv_at hl 8 rfl) ?_
        refine lv_bipush (v := 6) hx hb dL_areDrops_298 (by decide) ?_
        obtain ⟨r40, hcr40, hsp⟩ := clE hsp
        refine call_o (As := [.int x7, .int 6]) (rest := []) (KO_panel (l := l) (D := D) (cI := cI) (cZ := cZ) (cC := cC) (cS := cS) (oa := oa) hcr40) hKU hW hS hA ⟨hx, hb, hml, hown, hts⟩ (cwV 2 hts gL_areDrops_X4_panel rfl rfl rfl nd_X4_panel ⟨Nat.le_of_ble_eq_true rfl, Nat.le_of_ble_eq_true rfl⟩) rfl hl.1 rfl (Nat.le_of_ble_eq_true rfl) dL_areDrops_300 ⟨Nat.le_of_ble_eq_true rfl, Nat.le_of_ble_eq_true rfl⟩ (fun H locs hW hS => ?_)
        refine lv_iload hx hb dL_areDrops_303 (lv_at hl 3 rfl) ?_
        refine lv_icmp_ne (tgt := 373) hx hb dL_areDrops_305 (by decide) (fun c41 => ?_) (fun c41 => ?_)
        · have hsp := itF hsp c41
          cases hsp
        have hsp := itT hsp c41
        refine lv_aload_n hx hb dL_areDrops_308 rfl (lv_at hl 5 rfl) ?_
        refine lv_iload hx hb dL_areDrops_309 (lv_at hl 8 rfl) ?_
        refine lv_bipush (v := 7) hx hb dL_areDrops_311 (by decide) ?_
        obtain ⟨r42, hcr42, hsp⟩ := clE hsp
        refine call_o (As := [.int x7, .int 7]) (rest := []) (KO_panel (l := l) (D := D) (cI := cI) (cZ := cZ) (cC := cC) (cS := cS) (oa := oa) hcr42) hKU hW hS hA ⟨hx, hb, hml, hown, hts⟩ (cwV 2 hts gL_areDrops_X4_panel rfl rfl rfl nd_X4_panel ⟨Nat.le_of_ble_eq_true rfl, Nat.le_of_ble_eq_true rfl⟩) rfl hl.1 rfl (Nat.le_of_ble_eq_true rfl) dL_areDrops_313 ⟨Nat.le_of_ble_eq_true rfl, Nat.le_of_ble_eq_true rfl⟩ (fun H locs hW hS => ?_)
        refine lv_iconst (v := 1) hx hb dL_areDrops_316 (by decide) ?_
        refine lv_icmp_ne (tgt := 324) hx hb dL_areDrops_317 (by decide) (fun c43 => ?_) (fun c43 => ?_)
        · have hsp := itF hsp c43
          refine lv_iconst (v := 0) hx hb dL_areDrops_324 (by decide) ?_
          refine lv_iload hx hb dL_areDrops_325 (lv_at hl 4 rfl) ?_
          refine lv_if_eq (tgt := 344) hx hb dL_areDrops_327 (by decide) (fun _ => ?_) (fun hc => absurd hc (by decide))
          refine lv_iconst (v := 0) hx hb dL_areDrops_344 (by decide) ?_
          refine lv_icmp_ne (tgt := 373) hx hb dL_areDrops_345 (by decide) (fun hc => absurd hc (by decide)) (fun _ => ?_)
          refine lv_iload hx hb dL_areDrops_348 (lv_at hl 4 rfl) ?_
          refine lv_aload_n hx hb dL_areDrops_350 rfl (lv_at hl 5 rfl) ?_
          refine lv_iload hx hb dL_areDrops_351 (lv_at hl 8 rfl) ?_
          refine lv_bipush (v := 8) hx hb dL_areDrops_353 (by decide) ?_
          obtain ⟨r44, hcr44, hsp⟩ := clE hsp
          refine call_o (As := [.int x7, .int 8]) (rest := [.int 0]) (KO_panel (l := l) (D := D) (cI := cI) (cZ := cZ) (cC := cC) (cS := cS) (oa := oa) hcr44) hKU hW hS hA ⟨hx, hb, hml, hown, hts⟩ (cwV 2 hts gL_areDrops_X4_panel rfl rfl rfl nd_X4_panel ⟨Nat.le_of_ble_eq_true rfl, Nat.le_of_ble_eq_true rfl⟩) rfl hl.1 rfl (Nat.le_of_ble_eq_true rfl) dL_areDrops_355 ⟨Nat.le_of_ble_eq_true rfl, Nat.le_of_ble_eq_true rfl⟩ (fun H locs hW hS => ?_)
          refine lv_if_le (tgt := 365) hx hb dL_areDrops_358 (by decide) (fun c45 => ?_) (fun c45 => ?_)
          · have hsp := itT hsp c45
            refine lv_iconst (v := 0) hx hb dL_areDrops_365 (by decide) ?_
            refine lv_icmp_ne (tgt := 373) hx hb dL_areDrops_366 (by decide) (fun hc => absurd hc (by decide)) (fun _ => ?_)
            refine lv_iconst (v := 1) hx hb dL_areDrops_369 (by decide) ?_
            refine lv_goto (tgt := 374) hx hb dL_areDrops_370 (by decide) ?_
            refine lv_istore (lv' := [(5, .int 1), (4, .int x39), (2, .int x37), (3, .int x35), (8, .int (-6)), (7, .int 0), (0, .ref oa), (1, .int x3), (6, .int x7)]) hx hb dL_areDrops_374 hl (by decide) rfl (fun ls hl => ?_)
            obtain ⟨x46, ex46, hsp⟩ := nmE hsp
            refine lv_iinc (k := 8) (v := x46) (lv' := [(6, .int x46), (5, .int 1), (4, .int x39), (2, .int x37), (3, .int x35), (8, .int (-6)), (7, .int 0), (0, .ref oa), (1, .int x3)]) hx hb dL_areDrops_376 hl rfl (by rw [ex46]; rfl) (by decide) rfl (fun ls hl => ?_)
            refine lv_goto (tgt := 164) hx hb dL_areDrops_379 (by decide) ?_
            exact ih2 (x37, x35, x39, x46) _ _ hsp hW hS _ (lv_sub hl [7, 8, 3, 4, 2, 1, 0] rfl)
          have hsp := itF hsp c45
          refine lv_iconst (v := 1) hx hb dL_areDrops_361 (by decide) ?_
          refine lv_goto (tgt := 366) hx hb dL_areDrops_362 (by decide) ?_
          refine lv_icmp_ne (tgt := 373) hx hb dL_areDrops_366 (by decide) (fun _ => ?_) (fun hc => absurd hc (by decide))
          cases hsp
        have hsp := itT hsp c43
        refine lv_iconst (v := 1) hx hb dL_areDrops_320 (by decide) ?_
        refine lv_goto (tgt := 325) hx hb dL_areDrops_321 (by decide) ?_
        refine lv_iload hx hb dL_areDrops_325 (lv_at hl 4 rfl) ?_
        refine lv_if_eq (tgt := 344) hx hb dL_areDrops_327 (by decide) (fun _ => ?_) (fun hc => absurd hc (by decide))
        refine lv_iconst (v := 0) hx hb dL_areDrops_344 (by decide) ?_
        refine lv_icmp_ne (tgt := 373) hx hb dL_areDrops_345 (by decide) (fun _ => ?_) (fun hc => absurd hc (by decide))
        cases hsp
      have hsp := itF hsp c34
      refine lv_iconst (v := 1) hx hb dL_areDrops_186 (by decide) ?_
      refine lv_goto (tgt := 191) hx hb dL_areDrops_187 (by decide) ?_
      refine lv_istore (lv' := [(7, .int 1), (0, .ref oa), (1, .int x3), (2, .int x4), (3, .int x5), (4, .int x6), (5, .int 1), (6, .int x7)]) hx hb dL_areDrops_191 hl (by decide) rfl (fun ls hl => ?_)
      refine lv_iload hx hb dL_areDrops_193 (lv_at hl 0 rfl) ?_
      refine lv_if_eq (tgt := 254) hx hb dL_areDrops_195 (by decide) (fun hc => absurd hc (by decide)) (fun _ => ?_)
      refine lv_aload_n hx hb dL_areDrops_198 rfl (lv_at hl 1 rfl) ?_
      refine lv_iload hx hb dL_areDrops_199 (lv_at hl 7 rfl) ?_
      refine lv_iconst (v := 3) hx hb dL_areDrops_201 (by decide) ?_
      obtain ⟨r47, hcr47, hsp⟩ := clE hsp
      refine call_o (As := [.int x7, .int 3]) (rest := []) (KO_panel (l := l) (D := D) (cI := cI) (cZ := cZ) (cC := cC) (cS := cS) (oa := oa) hcr47) hKU hW hS hA ⟨hx, hb, hml, hown, hts⟩ (cwV 2 hts gL_areDrops_X4_panel rfl rfl rfl nd_X4_panel ⟨Nat.le_of_ble_eq_true rfl, Nat.le_of_ble_eq_true rfl⟩) rfl hl.1 rfl (Nat.le_of_ble_eq_true rfl) dL_areDrops_202 ⟨Nat.le_of_ble_eq_true rfl, Nat.le_of_ble_eq_true rfl⟩ (fun H locs hW hS => ?_)
      refine lv_aload_n hx hb dL_areDrops_205 rfl (lv_at hl 1 rfl) ?_
      refine lv_iload hx hb dL_areDrops_206 (lv_at hl 7 rfl) ?_
      refine lv_iconst (v := 0) hx hb dL_areDrops_208 (by decide) ?_
      obtain ⟨r48, hcr48, hsp⟩ := clE hsp
      refine call_o (As := [.int x7, .int 0]) (rest := [.int r47]) (KO_panel (l := l) (D := D) (cI := cI) (cZ := cZ) (cC := cC) (cS := cS) (oa := oa) hcr48) hKU hW hS hA ⟨hx, hb, hml, hown, hts⟩ (cwV 2 hts gL_areDrops_X4_panel rfl rfl rfl nd_X4_panel ⟨Nat.le_of_ble_eq_true rfl, Nat.le_of_ble_eq_true rfl⟩) rfl hl.1 rfl (Nat.le_of_ble_eq_true rfl) dL_areDrops_209 ⟨Nat.le_of_ble_eq_true rfl, Nat.le_of_ble_eq_true rfl⟩ (fun H locs hW hS => ?_)
      obtain ⟨r49, hcr49, hsp⟩ := clE hsp
      refine call_w (va_runS (As := [.int r47, .int r48]) (rest := []) ⟨hx, hb, hml, hown, hts⟩ (k_L_away l D cI cZ cC cS H.size r47 r48 r49 hcr49) (va_cwS 2 hts gL_areDrops_L_away rfl rfl rfl nd_L_away.2 ⟨Nat.le_of_ble_eq_true rfl, Nat.le_of_ble_eq_true rfl⟩) (PB.preS (ws := []) (A := A) hKU P_nil D_nil [] rfl rfl) rfl rfl hl.1 rfl (lv_room (Nat.le_of_ble_eq_true rfl)) dL_areDrops_212 ⟨Nat.le_of_ble_eq_true rfl, Nat.le_of_ble_eq_true rfl⟩) hW hS hA (fun H locs hW hS => ?_)
      refine lv_aload_n hx hb dL_areDrops_215 rfl (lv_at hl 1 rfl) ?_
      refine lv_iload hx hb dL_areDrops_216 (lv_at hl 7 rfl) ?_
      refine lv_iconst (v := 4) hx hb dL_areDrops_218 (by decide) ?_
      obtain ⟨r50, hcr50, hsp⟩ := clE hsp
      refine call_o (As := [.int x7, .int 4]) (rest := [.int r49]) (KO_panel (l := l) (D := D) (cI := cI) (cZ := cZ) (cC := cC) (cS := cS) (oa := oa) hcr50) hKU hW hS hA ⟨hx, hb, hml, hown, hts⟩ (cwV 2 hts gL_areDrops_X4_panel rfl rfl rfl nd_X4_panel ⟨Nat.le_of_ble_eq_true rfl, Nat.le_of_ble_eq_true rfl⟩) rfl hl.1 rfl (Nat.le_of_ble_eq_true rfl) dL_areDrops_219 ⟨Nat.le_of_ble_eq_true rfl, Nat.le_of_ble_eq_true rfl⟩ (fun H locs hW hS => ?_)
      refine lv_aload_n hx hb dL_areDrops_222 rfl (lv_at hl 1 rfl) ?_
      refine lv_iload hx hb dL_areDrops_223 (lv_at hl 7 rfl) ?_
      refine lv_iconst (v := 1) hx hb dL_areDrops_225 (by decide) ?_
      obtain ⟨r51, hcr51, hsp⟩ := clE hsp
      refine call_o (As := [.int x7, .int 1]) (rest := [.int r50, .int r49]) (KO_panel (l := l) (D := D) (cI := cI) (cZ := cZ) (cC := cC) (cS := cS) (oa := oa) hcr51) hKU hW hS hA ⟨hx, hb, hml, hown, hts⟩ (cwV 2 hts gL_areDrops_X4_panel rfl rfl rfl nd_X4_panel ⟨Nat.le_of_ble_eq_true rfl, Nat.le_of_ble_eq_true rfl⟩) rfl hl.1 rfl (Nat.le_of_ble_eq_true rfl) dL_areDrops_226 ⟨Nat.le_of_ble_eq_true rfl, Nat.le_of_ble_eq_true rfl⟩ (fun H locs hW hS => ?_)
      obtain ⟨r52, hcr52, hsp⟩ := clE hsp
      refine call_w (va_runS (As := [.int r50, .int r51]) (rest := [.int r49]) ⟨hx, hb, hml, hown, hts⟩ (k_L_away l D cI cZ cC cS H.size r50 r51 r52 hcr52) (va_cwS 2 hts gL_areDrops_L_away rfl rfl rfl nd_L_away.2 ⟨Nat.le_of_ble_eq_true rfl, Nat.le_of_ble_eq_true rfl⟩) (PB.preS (ws := []) (A := A) hKU P_nil D_nil [] rfl rfl) rfl rfl hl.1 rfl (lv_room (Nat.le_of_ble_eq_true rfl)) dL_areDrops_229 ⟨Nat.le_of_ble_eq_true rfl, Nat.le_of_ble_eq_true rfl⟩) hW hS hA (fun H locs hW hS => ?_)
      refine lv_iadd hx hb dL_areDrops_232 ?_
      refine lv_aload_n hx hb dL_areDrops_233 rfl (lv_at hl 1 rfl) ?_
      refine lv_iload hx hb dL_areDrops_234 (lv_at hl 7 rfl) ?_
      refine lv_iconst (v := 5) hx hb dL_areDrops_236 (by decide) ?_
      obtain ⟨r53, hcr53, hsp⟩ := clE hsp
      refine call_o (As := [.int x7, .int 5]) (rest := [.int (r49 + r52)]) (KO_panel (l := l) (D := D) (cI := cI) (cZ := cZ) (cC := cC) (cS := cS) (oa := oa) hcr53) hKU hW hS hA ⟨hx, hb, hml, hown, hts⟩ (cwV 2 hts gL_areDrops_X4_panel rfl rfl rfl nd_X4_panel ⟨Nat.le_of_ble_eq_true rfl, Nat.le_of_ble_eq_true rfl⟩) rfl hl.1 rfl (Nat.le_of_ble_eq_true rfl) dL_areDrops_237 ⟨Nat.le_of_ble_eq_true rfl, Nat.le_of_ble_eq_true rfl⟩ (fun H locs hW hS => ?_)
      refine lv_aload_n hx hb dL_areDrops_240 rfl (lv_at hl 1 rfl) ?_
      refine lv_iload hx hb dL_areDrops_241 (lv_at hl 7 rfl) ?_
      refine lv_iconst (v := 2) hx hb dL_areDrops_243 (by decide) ?_
      obtain ⟨r54, hcr54, hsp⟩ := clE hsp
      refine call_o (As := [.int x7, .int 2]) (rest := [.int r53, .int (r49 + r52)]) (KO_panel (l := l) (D := D) (cI := cI) (cZ := cZ) (cC := cC) (cS := cS) (oa := oa) hcr54) hKU hW hS hA ⟨hx, hb, hml, hown, hts⟩ (cwV 2 hts gL_areDrops_X4_panel rfl rfl rfl nd_X4_panel ⟨Nat.le_of_ble_eq_true rfl, Nat.le_of_ble_eq_true rfl⟩) rfl hl.1 rfl (Nat.le_of_ble_eq_true rfl) dL_areDrops_244 ⟨Nat.le_of_ble_eq_true rfl, Nat.le_of_ble_eq_true rfl⟩ (fun H locs hW hS => ?_)
      obtain ⟨r55, hcr55, hsp⟩ := clE hsp
      refine call_w (va_runS (As := [.int r53, .int r54]) (rest := [.int (r49 + r52)]) ⟨hx, hb, hml, hown, hts⟩ (k_L_away l D cI cZ cC cS H.size r53 r54 r55 hcr55) (va_cwS 2 hts gL_areDrops_L_away rfl rfl rfl nd_L_away.2 ⟨Nat.le_of_ble_eq_true rfl, Nat.le_of_ble_eq_true rfl⟩) (PB.preS (ws := []) (A := A) hKU P_nil D_nil [] rfl rfl) rfl rfl hl.1 rfl (lv_room (Nat.le_of_ble_eq_true rfl)) dL_areDrops_247 ⟨Nat.le_of_ble_eq_true rfl, Nat.le_of_ble_eq_true rfl⟩) hW hS hA (fun H locs hW hS => ?_)
      refine lv_iadd hx hb dL_areDrops_250 ?_
      refine lv_goto (tgt := 256) hx hb dL_areDrops_251 (by decide) ?_
      obtain ⟨x56, ex56, hsp⟩ := nmE hsp
      refine r_top ex56 ?_
      refine lv_istore (lv' := [(8, .int x56), (7, .int 1), (0, .ref oa), (1, .int x3), (2, .int x4), (3, .int x5), (4, .int x6), (5, .int 1), (6, .int x7)]) hx hb dL_areDrops_256 hl (by decide) rfl (fun ls hl => ?_)
      refine lv_iload_n hx hb dL_areDrops_258 rfl (lv_at hl 5 rfl) ?_
      refine lv_iload hx hb dL_areDrops_259 (lv_at hl 1 rfl) ?_
      refine lv_if_eq (tgt := 268) hx hb dL_areDrops_261 (by decide) (fun hc => absurd hc (by decide)) (fun _ => ?_)
      refine lv_iconst (v := 1) hx hb dL_areDrops_264 (by decide) ?_
      refine lv_goto (tgt := 269) hx hb dL_areDrops_265 (by decide) ?_
      refine lv_iadd hx hb dL_areDrops_269 ?_
      obtain ⟨x57, ex57, hsp⟩ := nmE hsp
      refine r_top ex57 ?_
      refine lv_istore_n (lv' := [(3, .int x57), (8, .int x56), (7, .int 1), (0, .ref oa), (1, .int x3), (2, .int x4), (4, .int x6), (5, .int 1), (6, .int x7)]) hx hb dL_areDrops_270 rfl hl (by decide) rfl (fun ls hl => ?_)
      refine lv_iload_n hx hb dL_areDrops_271 rfl (lv_at hl 5 rfl) ?_
      refine lv_aload_n hx hb dL_areDrops_272 rfl (lv_at hl 3 rfl) ?_
      refine lv_iload hx hb dL_areDrops_273 (lv_at hl 8 rfl) ?_
      refine lv_bipush (v := 7) hx hb dL_areDrops_275 (by decide) ?_
      obtain ⟨r58, hcr58, hsp⟩ := clE hsp
      refine call_o (As := [.int x7, .int 7]) (rest := [.int x4]) (KO_panel (l := l) (D := D) (cI := cI) (cZ := cZ) (cC := cC) (cS := cS) (oa := oa) hcr58) hKU hW hS hA ⟨hx, hb, hml, hown, hts⟩ (cwV 2 hts gL_areDrops_X4_panel rfl rfl rfl nd_X4_panel ⟨Nat.le_of_ble_eq_true rfl, Nat.le_of_ble_eq_true rfl⟩) rfl hl.1 rfl (Nat.le_of_ble_eq_true rfl) dL_areDrops_277 ⟨Nat.le_of_ble_eq_true rfl, Nat.le_of_ble_eq_true rfl⟩ (fun H locs hW hS => ?_)
      refine lv_iadd hx hb dL_areDrops_280 ?_
      obtain ⟨x59, ex59, hsp⟩ := nmE hsp
      refine r_top ex59 ?_
      refine lv_istore_n (lv' := [(2, .int x59), (3, .int x57), (8, .int x56), (7, .int 1), (0, .ref oa), (1, .int x3), (4, .int x6), (5, .int 1), (6, .int x7)]) hx hb dL_areDrops_281 rfl hl (by decide) rfl (fun ls hl => ?_)
      refine lv_iload hx hb dL_areDrops_282 (lv_at hl 6 rfl) ?_
      refine lv_aload_n hx hb dL_areDrops_284 rfl (lv_at hl 4 rfl) ?_
      refine lv_iload hx hb dL_areDrops_285 (lv_at hl 8 rfl) ?_
      refine lv_bipush (v := 8) hx hb dL_areDrops_287 (by decide) ?_
      obtain ⟨r60, hcr60, hsp⟩ := clE hsp
      refine call_o (As := [.int x7, .int 8]) (rest := [.int x6]) (KO_panel (l := l) (D := D) (cI := cI) (cZ := cZ) (cC := cC) (cS := cS) (oa := oa) hcr60) hKU hW hS hA ⟨hx, hb, hml, hown, hts⟩ (cwV 2 hts gL_areDrops_X4_panel rfl rfl rfl nd_X4_panel ⟨Nat.le_of_ble_eq_true rfl, Nat.le_of_ble_eq_true rfl⟩) rfl hl.1 rfl (Nat.le_of_ble_eq_true rfl) dL_areDrops_289 ⟨Nat.le_of_ble_eq_true rfl, Nat.le_of_ble_eq_true rfl⟩ (fun H locs hW hS => ?_)
      refine lv_iadd hx hb dL_areDrops_292 ?_
      obtain ⟨x61, ex61, hsp⟩ := nmE hsp
      refine r_top ex61 ?_
      refine lv_istore (lv' := [(4, .int x61), (2, .int x59), (3, .int x57), (8, .int x56), (7, .int 1), (0, .ref oa), (1, .int x3), (5, .int 1), (6, .int x7)]) hx hb dL_areDrops_293 hl (by decide) rfl (fun ls hl => ?_)
      refine lv_aload_n hx hb dL_areDrops_295 rfl (lv_at hl 5 rfl) ?_
      refine lv_iload hx hb dL_areDrops_296 (lv_at hl 8 rfl) ?_
      refine lv_bipush (v := 6) hx hb dL_areDrops_298 (by decide) ?_
      obtain ⟨r62, hcr62, hsp⟩ := clE hsp
      refine call_o (As := [.int x7, .int 6]) (rest := []) (KO_panel (l := l) (D := D) (cI := cI) (cZ := cZ) (cC := cC) (cS := cS) (oa := oa) hcr62) hKU hW hS hA ⟨hx, hb, hml, hown, hts⟩ (cwV 2 hts gL_areDrops_X4_panel rfl rfl rfl nd_X4_panel ⟨Nat.le_of_ble_eq_true rfl, Nat.le_of_ble_eq_true rfl⟩) rfl hl.1 rfl (Nat.le_of_ble_eq_true rfl) dL_areDrops_300 ⟨Nat.le_of_ble_eq_true rfl, Nat.le_of_ble_eq_true rfl⟩ (fun H locs hW hS => ?_)
      refine lv_iload hx hb dL_areDrops_303 (lv_at hl 3 rfl) ?_
      refine lv_icmp_ne (tgt := 373) hx hb dL_areDrops_305 (by decide) (fun c63 => ?_) (fun c63 => ?_)
      · have hsp := itF hsp c63
        cases hsp
      have hsp := itT hsp c63
      refine lv_aload_n hx hb dL_areDrops_308 rfl (lv_at hl 5 rfl) ?_
      refine lv_iload hx hb dL_areDrops_309 (lv_at hl 8 rfl) ?_
      refine lv_bipush (v := 7) hx hb dL_areDrops_311 (by decide) ?_
      obtain ⟨r64, hcr64, hsp⟩ := clE hsp
      refine call_o (As := [.int x7, .int 7]) (rest := []) (KO_panel (l := l) (D := D) (cI := cI) (cZ := cZ) (cC := cC) (cS := cS) (oa := oa) hcr64) hKU hW hS hA ⟨hx, hb, hml, hown, hts⟩ (cwV 2 hts gL_areDrops_X4_panel rfl rfl rfl nd_X4_panel ⟨Nat.le_of_ble_eq_true rfl, Nat.le_of_ble_eq_true rfl⟩) rfl hl.1 rfl (Nat.le_of_ble_eq_true rfl) dL_areDrops_313 ⟨Nat.le_of_ble_eq_true rfl, Nat.le_of_ble_eq_true rfl⟩ (fun H locs hW hS => ?_)
      refine lv_iconst (v := 1) hx hb dL_areDrops_316 (by decide) ?_
      refine lv_icmp_ne (tgt := 324) hx hb dL_areDrops_317 (by decide) (fun c65 => ?_) (fun c65 => ?_)
      · have hsp := itF hsp c65
        refine lv_iconst (v := 0) hx hb dL_areDrops_324 (by decide) ?_
        refine lv_iload hx hb dL_areDrops_325 (lv_at hl 4 rfl) ?_
        refine lv_if_eq (tgt := 344) hx hb dL_areDrops_327 (by decide) (fun hc => absurd hc (by decide)) (fun _ => ?_)
        refine lv_iload hx hb dL_areDrops_330 (lv_at hl 3 rfl) ?_
        refine lv_aload_n hx hb dL_areDrops_332 rfl (lv_at hl 5 rfl) ?_
        refine lv_iconst (v := 1) hx hb dL_areDrops_333 (by decide) ?_
        obtain ⟨r66, hcr66, hsp⟩ := clE hsp
        refine call_o (As := [.int 1]) (rest := [.int x56, .int 0]) (KO_count (l := l) (D := D) (cI := cI) (cZ := cZ) (cC := cC) (cS := cS) (oa := oa) hcr66) hKU hW hS hA ⟨hx, hb, hml, hown, hts⟩ (cwV 1 hts gL_areDrops_X4_count rfl rfl rfl nd_X4_count ⟨Nat.le_of_ble_eq_true rfl, Nat.le_of_ble_eq_true rfl⟩) rfl hl.1 rfl (Nat.le_of_ble_eq_true rfl) dL_areDrops_334 ⟨Nat.le_of_ble_eq_true rfl, Nat.le_of_ble_eq_true rfl⟩ (fun H locs hW hS => ?_)
        refine lv_icmp_gt (tgt := 344) hx hb dL_areDrops_337 (by decide) (fun c67 => ?_) (fun c67 => ?_)
        · have hsp := itT hsp c67
          refine lv_iconst (v := 0) hx hb dL_areDrops_344 (by decide) ?_
          refine lv_icmp_ne (tgt := 373) hx hb dL_areDrops_345 (by decide) (fun hc => absurd hc (by decide)) (fun _ => ?_)
          refine lv_iload hx hb dL_areDrops_348 (lv_at hl 4 rfl) ?_
          refine lv_aload_n hx hb dL_areDrops_350 rfl (lv_at hl 5 rfl) ?_
          refine lv_iload hx hb dL_areDrops_351 (lv_at hl 8 rfl) ?_
          refine lv_bipush (v := 8) hx hb dL_areDrops_353 (by decide) ?_
          obtain ⟨r68, hcr68, hsp⟩ := clE hsp
          refine call_o (As := [.int x7, .int 8]) (rest := [.int 1]) (KO_panel (l := l) (D := D) (cI := cI) (cZ := cZ) (cC := cC) (cS := cS) (oa := oa) hcr68) hKU hW hS hA ⟨hx, hb, hml, hown, hts⟩ (cwV 2 hts gL_areDrops_X4_panel rfl rfl rfl nd_X4_panel ⟨Nat.le_of_ble_eq_true rfl, Nat.le_of_ble_eq_true rfl⟩) rfl hl.1 rfl (Nat.le_of_ble_eq_true rfl) dL_areDrops_355 ⟨Nat.le_of_ble_eq_true rfl, Nat.le_of_ble_eq_true rfl⟩ (fun H locs hW hS => ?_)
          refine lv_if_le (tgt := 365) hx hb dL_areDrops_358 (by decide) (fun c69 => ?_) (fun c69 => ?_)
          · have hsp := itT hsp c69
            refine lv_iconst (v := 0) hx hb dL_areDrops_365 (by decide) ?_
            refine lv_icmp_ne (tgt := 373) hx hb dL_areDrops_366 (by decide) (fun _ => ?_) (fun hc => absurd hc (by decide))
            cases hsp
          have hsp := itF hsp c69
          refine lv_iconst (v := 1) hx hb dL_areDrops_361 (by decide) ?_
          refine lv_goto (tgt := 366) hx hb dL_areDrops_362 (by decide) ?_
          refine lv_icmp_ne (tgt := 373) hx hb dL_areDrops_366 (by decide) (fun hc => absurd hc (by decide)) (fun _ => ?_)
          refine lv_iconst (v := 1) hx hb dL_areDrops_369 (by decide) ?_
          refine lv_goto (tgt := 374) hx hb dL_areDrops_370 (by decide) ?_
          refine lv_istore (lv' := [(5, .int 1), (4, .int x61), (2, .int x59), (3, .int x57), (8, .int x56), (7, .int 1), (0, .ref oa), (1, .int x3), (6, .int x7)]) hx hb dL_areDrops_374 hl (by decide) rfl (fun ls hl => ?_)
          obtain ⟨x70, ex70, hsp⟩ := nmE hsp
          refine lv_iinc (k := 8) (v := x70) (lv' := [(6, .int x70), (5, .int 1), (4, .int x61), (2, .int x59), (3, .int x57), (8, .int x56), (7, .int 1), (0, .ref oa), (1, .int x3)]) hx hb dL_areDrops_376 hl rfl (by rw [ex70]; rfl) (by decide) rfl (fun ls hl => ?_)
          refine lv_goto (tgt := 164) hx hb dL_areDrops_379 (by decide) ?_
          exact ih2 (x59, x57, x61, x70) _ _ hsp hW hS _ (lv_sub hl [7, 8, 3, 4, 2, 1, 0] rfl)
        have hsp := itF hsp c67
        refine lv_iconst (v := 1) hx hb dL_areDrops_340 (by decide) ?_
        refine lv_goto (tgt := 345) hx hb dL_areDrops_341 (by decide) ?_
        refine lv_icmp_ne (tgt := 373) hx hb dL_areDrops_345 (by decide) (fun _ => ?_) (fun hc => absurd hc (by decide))
        cases hsp
      have hsp := itT hsp c65
      refine lv_iconst (v := 1) hx hb dL_areDrops_320 (by decide) ?_
      refine lv_goto (tgt := 325) hx hb dL_areDrops_321 (by decide) ?_
      refine lv_iload hx hb dL_areDrops_325 (lv_at hl 4 rfl) ?_
      refine lv_if_eq (tgt := 344) hx hb dL_areDrops_327 (by decide) (fun hc => absurd hc (by decide)) (fun _ => ?_)
      refine lv_iload hx hb dL_areDrops_330 (lv_at hl 3 rfl) ?_
      refine lv_aload_n hx hb dL_areDrops_332 rfl (lv_at hl 5 rfl) ?_
      refine lv_iconst (v := 1) hx hb dL_areDrops_333 (by decide) ?_
      obtain ⟨r71, hcr71, hsp⟩ := clE hsp
      refine call_o (As := [.int 1]) (rest := [.int x56, .int 1]) (KO_count (l := l) (D := D) (cI := cI) (cZ := cZ) (cC := cC) (cS := cS) (oa := oa) hcr71) hKU hW hS hA ⟨hx, hb, hml, hown, hts⟩ (cwV 1 hts gL_areDrops_X4_count rfl rfl rfl nd_X4_count ⟨Nat.le_of_ble_eq_true rfl, Nat.le_of_ble_eq_true rfl⟩) rfl hl.1 rfl (Nat.le_of_ble_eq_true rfl) dL_areDrops_334 ⟨Nat.le_of_ble_eq_true rfl, Nat.le_of_ble_eq_true rfl⟩ (fun H locs hW hS => ?_)
      refine lv_icmp_gt (tgt := 344) hx hb dL_areDrops_337 (by decide) (fun c72 => ?_) (fun c72 => ?_)
      · have hsp := itT hsp c72
        refine lv_iconst (v := 0) hx hb dL_areDrops_344 (by decide) ?_
        refine lv_icmp_ne (tgt := 373) hx hb dL_areDrops_345 (by decide) (fun _ => ?_) (fun hc => absurd hc (by decide))
        cases hsp
      have hsp := itF hsp c72
      refine lv_iconst (v := 1) hx hb dL_areDrops_340 (by decide) ?_
      refine lv_goto (tgt := 345) hx hb dL_areDrops_341 (by decide) ?_
      refine lv_icmp_ne (tgt := 373) hx hb dL_areDrops_345 (by decide) (fun hc => absurd hc (by decide)) (fun _ => ?_)
      refine lv_iload hx hb dL_areDrops_348 (lv_at hl 4 rfl) ?_
      refine lv_aload_n hx hb dL_areDrops_350 rfl (lv_at hl 5 rfl) ?_
      refine lv_iload hx hb dL_areDrops_351 (lv_at hl 8 rfl) ?_
      refine lv_bipush (v := 8) hx hb dL_areDrops_353 (by decide) ?_
      obtain ⟨r73, hcr73, hsp⟩ := clE hsp
      refine call_o (As := [.int x7, .int 8]) (rest := [.int 1]) (KO_panel (l := l) (D := D) (cI := cI) (cZ := cZ) (cC := cC) (cS := cS) (oa := oa) hcr73) hKU hW hS hA ⟨hx, hb, hml, hown, hts⟩ (cwV 2 hts gL_areDrops_X4_panel rfl rfl rfl nd_X4_panel ⟨Nat.le_of_ble_eq_true rfl, Nat.le_of_ble_eq_true rfl⟩) rfl hl.1 rfl (Nat.le_of_ble_eq_true rfl) dL_areDrops_355 ⟨Nat.le_of_ble_eq_true rfl, Nat.le_of_ble_eq_true rfl⟩ (fun H locs hW hS => ?_)
      refine lv_if_le (tgt := 365) hx hb dL_areDrops_358 (by decide) (fun c74 => ?_) (fun c74 => ?_)
      · have hsp := itT hsp c74
        refine lv_iconst (v := 0) hx hb dL_areDrops_365 (by decide) ?_
        refine lv_icmp_ne (tgt := 373) hx hb dL_areDrops_366 (by decide) (fun _ => ?_) (fun hc => absurd hc (by decide))
        cases hsp
      have hsp := itF hsp c74
      refine lv_iconst (v := 1) hx hb dL_areDrops_361 (by decide) ?_
      refine lv_goto (tgt := 366) hx hb dL_areDrops_362 (by decide) ?_
      refine lv_icmp_ne (tgt := 373) hx hb dL_areDrops_366 (by decide) (fun hc => absurd hc (by decide)) (fun _ => ?_)
      refine lv_iconst (v := 1) hx hb dL_areDrops_369 (by decide) ?_
      refine lv_goto (tgt := 374) hx hb dL_areDrops_370 (by decide) ?_
      refine lv_istore (lv' := [(5, .int 1), (4, .int x61), (2, .int x59), (3, .int x57), (8, .int x56), (7, .int 1), (0, .ref oa), (1, .int x3), (6, .int x7)]) hx hb dL_areDrops_374 hl (by decide) rfl (fun ls hl => ?_)
      obtain ⟨x75, ex75, hsp⟩ := nmE hsp
      refine lv_iinc (k := 8) (v := x75) (lv' := [(6, .int x75), (5, .int 1), (4, .int x61), (2, .int x59), (3, .int x57), (8, .int x56), (7, .int 1), (0, .ref oa), (1, .int x3)]) hx hb dL_areDrops_376 hl rfl (by rw [ex75]; rfl) (by decide) rfl (fun ls hl => ?_)
      refine lv_goto (tgt := 164) hx hb dL_areDrops_379 (by decide) ?_
      exact ih2 (x59, x57, x61, x75) _ _ hsp hW hS _ (lv_sub hl [7, 8, 3, 4, 2, 1, 0] rfl)
  have hl := lv_sub hl (l' := [(0, .ref oa), (1, .int 0), (2, .int 0), (3, .int 0), (4, .int 0), (5, .int 1), (6, .int 0)]) [6, 5, 4, 3, 2, 1, 0] rfl
  refine lp_o (F := s_L_areDrops_L1 f0 (s_L_areDrops_X1 f0)) (PH := fun (tv : Int32 × Int32) => WD D cI cS A oa (f0)) (L := fun (tv : Int32 × Int32) => [(0, .ref oa), (1, .int tv.1), (2, .int 0), (3, .int 0), (4, .int 0), (5, .int 1), (6, .int tv.2)]) (nL := 9) (res := res) (A := A) (H0 := s.heap) (fun _ => rfl) ?_ 1000 (0, 0) _ _ hsp hW hS _ hl
  · intro n1 ih1 tv H locs hsp hW hS ls hl
    obtain ⟨x1, x2⟩ := tv
    have hsp : s_L_areDrops_B1  f0 (s_L_areDrops_X1 f0) (s_L_areDrops_L1 f0 (s_L_areDrops_X1 f0) n1) x1 x2 = some res := hsp
    unfold s_L_areDrops_B1 at hsp
    have hW : WD D cI cS A oa f0 H := hW
    have hl : lv_has ls 9 [(0, .ref oa), (1, .int x1), (2, .int 0), (3, .int 0), (4, .int 0), (5, .int 1), (6, .int x2)] := hl
    refine lv_iload hx hb dL_areDrops_15 (lv_at hl 6 rfl) ?_
    refine lv_bipush (v := 8) hx hb dL_areDrops_17 (by decide) ?_
    refine lv_icmp_ge (tgt := 161) hx hb dL_areDrops_19 (by decide) (fun c76 => ?_) (fun c76 => ?_)
    · have hsp := itT hsp c76
      exact hx1 x1 _ _ hsp hW hS _ (lv_sub hl [0, 1, 2, 3, 4, 5] rfl)
    have hsp := itF hsp c76
    refine lv_iload hx hb dL_areDrops_22 (lv_at hl 5 rfl) ?_
    refine lv_if_eq (tgt := 161) hx hb dL_areDrops_24 (by decide) (fun hc => absurd hc (by decide)) (fun _ => ?_)
    refine lv_aload_n hx hb dL_areDrops_27 rfl (lv_at hl 0 rfl) ?_
    refine lv_iload hx hb dL_areDrops_28 (lv_at hl 6 rfl) ?_
    refine lv_iconst (v := 0) hx hb dL_areDrops_30 (by decide) ?_
    obtain ⟨r77, hcr77, hsp⟩ := clE hsp
    refine call_o (As := [.int x2, .int 0]) (rest := []) (KO_pot (l := l) (D := D) (cI := cI) (cZ := cZ) (cC := cC) (cS := cS) (oa := oa) hcr77) hKU hW hS hA ⟨hx, hb, hml, hown, hts⟩ (cwV 2 hts gL_areDrops_X4_pot rfl rfl rfl nd_X4_pot ⟨Nat.le_of_ble_eq_true rfl, Nat.le_of_ble_eq_true rfl⟩) rfl hl.1 rfl (Nat.le_of_ble_eq_true rfl) dL_areDrops_31 ⟨Nat.le_of_ble_eq_true rfl, Nat.le_of_ble_eq_true rfl⟩ (fun H locs hW hS => ?_)
    refine lv_aload_n hx hb dL_areDrops_34 rfl (lv_at hl 0 rfl) ?_
    refine lv_iload hx hb dL_areDrops_35 (lv_at hl 6 rfl) ?_
    refine lv_iconst (v := 1) hx hb dL_areDrops_37 (by decide) ?_
    obtain ⟨r78, hcr78, hsp⟩ := clE hsp
    refine call_o (As := [.int x2, .int 1]) (rest := [.int r77]) (KO_pot (l := l) (D := D) (cI := cI) (cZ := cZ) (cC := cC) (cS := cS) (oa := oa) hcr78) hKU hW hS hA ⟨hx, hb, hml, hown, hts⟩ (cwV 2 hts gL_areDrops_X4_pot rfl rfl rfl nd_X4_pot ⟨Nat.le_of_ble_eq_true rfl, Nat.le_of_ble_eq_true rfl⟩) rfl hl.1 rfl (Nat.le_of_ble_eq_true rfl) dL_areDrops_38 ⟨Nat.le_of_ble_eq_true rfl, Nat.le_of_ble_eq_true rfl⟩ (fun H locs hW hS => ?_)
    refine lv_iadd hx hb dL_areDrops_41 ?_
    refine lv_aload_n hx hb dL_areDrops_42 rfl (lv_at hl 0 rfl) ?_
    refine lv_iload hx hb dL_areDrops_43 (lv_at hl 6 rfl) ?_
    refine lv_iconst (v := 2) hx hb dL_areDrops_45 (by decide) ?_
    obtain ⟨r79, hcr79, hsp⟩ := clE hsp
    refine call_o (As := [.int x2, .int 2]) (rest := [.int (r77 + r78)]) (KO_pot (l := l) (D := D) (cI := cI) (cZ := cZ) (cC := cC) (cS := cS) (oa := oa) hcr79) hKU hW hS hA ⟨hx, hb, hml, hown, hts⟩ (cwV 2 hts gL_areDrops_X4_pot rfl rfl rfl nd_X4_pot ⟨Nat.le_of_ble_eq_true rfl, Nat.le_of_ble_eq_true rfl⟩) rfl hl.1 rfl (Nat.le_of_ble_eq_true rfl) dL_areDrops_46 ⟨Nat.le_of_ble_eq_true rfl, Nat.le_of_ble_eq_true rfl⟩ (fun H locs hW hS => ?_)
    refine lv_iadd hx hb dL_areDrops_49 ?_
    refine lv_aload_n hx hb dL_areDrops_50 rfl (lv_at hl 0 rfl) ?_
    refine lv_iload hx hb dL_areDrops_51 (lv_at hl 6 rfl) ?_
    refine lv_iconst (v := 3) hx hb dL_areDrops_53 (by decide) ?_
    obtain ⟨r80, hcr80, hsp⟩ := clE hsp
    refine call_o (As := [.int x2, .int 3]) (rest := [.int ((r77 + r78) + r79)]) (KO_pot (l := l) (D := D) (cI := cI) (cZ := cZ) (cC := cC) (cS := cS) (oa := oa) hcr80) hKU hW hS hA ⟨hx, hb, hml, hown, hts⟩ (cwV 2 hts gL_areDrops_X4_pot rfl rfl rfl nd_X4_pot ⟨Nat.le_of_ble_eq_true rfl, Nat.le_of_ble_eq_true rfl⟩) rfl hl.1 rfl (Nat.le_of_ble_eq_true rfl) dL_areDrops_54 ⟨Nat.le_of_ble_eq_true rfl, Nat.le_of_ble_eq_true rfl⟩ (fun H locs hW hS => ?_)
    refine lv_iadd hx hb dL_areDrops_57 ?_
    obtain ⟨x81, ex81, hsp⟩ := nmE hsp
    refine r_top ex81 ?_
    refine lv_istore (lv' := [(7, .int x81), (0, .ref oa), (1, .int x1), (2, .int 0), (3, .int 0), (4, .int 0), (5, .int 1), (6, .int x2)]) hx hb dL_areDrops_58 hl (by decide) rfl (fun ls hl => ?_)
    refine lv_iload_n hx hb dL_areDrops_60 rfl (lv_at hl 2 rfl) ?_
    refine lv_iload hx hb dL_areDrops_61 (lv_at hl 0 rfl) ?_
    refine lv_iadd hx hb dL_areDrops_63 ?_
    obtain ⟨x82, ex82, hsp⟩ := nmE hsp
    refine r_top ex82 ?_
    refine lv_istore_n (lv' := [(1, .int x82), (7, .int x81), (0, .ref oa), (2, .int 0), (3, .int 0), (4, .int 0), (5, .int 1), (6, .int x2)]) hx hb dL_areDrops_64 rfl hl (by decide) rfl (fun ls hl => ?_)
    refine lv_iload hx hb dL_areDrops_65 (lv_at hl 1 rfl) ?_
    refine lv_aload_n hx hb dL_areDrops_67 rfl (lv_at hl 2 rfl) ?_
    refine lv_iload hx hb dL_areDrops_68 (lv_at hl 7 rfl) ?_
    refine lv_iconst (v := 4) hx hb dL_areDrops_70 (by decide) ?_
    obtain ⟨r83, hcr83, hsp⟩ := clE hsp
    refine call_o (As := [.int x2, .int 4]) (rest := [.int x81]) (KO_pot (l := l) (D := D) (cI := cI) (cZ := cZ) (cC := cC) (cS := cS) (oa := oa) hcr83) hKU hW hS hA ⟨hx, hb, hml, hown, hts⟩ (cwV 2 hts gL_areDrops_X4_pot rfl rfl rfl nd_X4_pot ⟨Nat.le_of_ble_eq_true rfl, Nat.le_of_ble_eq_true rfl⟩) rfl hl.1 rfl (Nat.le_of_ble_eq_true rfl) dL_areDrops_71 ⟨Nat.le_of_ble_eq_true rfl, Nat.le_of_ble_eq_true rfl⟩ (fun H locs hW hS => ?_)
    refine lv_icmp_ne (tgt := 88) hx hb dL_areDrops_74 (by decide) (fun c84 => ?_) (fun c84 => ?_)
    · have hsp := itF hsp c84
      cases hsp
    have hsp := itT hsp c84
    refine lv_iload hx hb dL_areDrops_77 (lv_at hl 1 rfl) ?_
    refine lv_bipush (v := 81) hx hb dL_areDrops_79 (by decide) ?_
    refine lv_icmp_gt (tgt := 88) hx hb dL_areDrops_81 (by decide) (fun c85 => ?_) (fun c85 => ?_)
    · have hsp := itT hsp c85
      cases hsp
    have hsp := itF hsp c85
    refine lv_iconst (v := 1) hx hb dL_areDrops_84 (by decide) ?_
    refine lv_goto (tgt := 89) hx hb dL_areDrops_85 (by decide) ?_
    refine lv_istore (lv' := [(5, .int 1), (1, .int x82), (7, .int x81), (0, .ref oa), (2, .int 0), (3, .int 0), (4, .int 0), (6, .int x2)]) hx hb dL_areDrops_89 hl (by decide) rfl (fun ls hl => ?_)
    refine lv_iconst (v := 0) hx hb dL_areDrops_91 (by decide) ?_
    refine lv_istore (lv' := [(8, .int 0), (5, .int 1), (1, .int x82), (7, .int x81), (0, .ref oa), (2, .int 0), (3, .int 0), (4, .int 0), (6, .int x2)]) hx hb dL_areDrops_92 hl (by decide) rfl (fun ls hl => ?_)
    refine ex_o (K := s_L_areDrops_X3 (s_L_areDrops_L1 f0 (s_L_areDrops_X1 f0) n1) x2 x82) (PH := fun (t3 : Unit) => WD D cI cS A oa (f0)) (L := fun (t3 : Unit) => [(0, .ref oa), (1, .int x82), (2, .int 0), (3, .int 0), (4, .int 0), (5, .int 1), (6, .int x2)]) (nL := 9) (pcx := 155) (res := res) (A := A) (H0 := s.heap) ?_ (fun hx3 => ?_)
    · intro t3 H locs hsp hW hS ls hl
      unfold s_L_areDrops_X3 at hsp; try dsimp only at hsp
      have hW : WD D cI cS A oa f0 H := hW
      have hl : lv_has ls 9 [(0, .ref oa), (1, .int x82), (2, .int 0), (3, .int 0), (4, .int 0), (5, .int 1), (6, .int x2)] := hl
      obtain ⟨x87, ex87, hsp⟩ := nmE hsp
      refine lv_iinc (k := 6) (v := x87) (lv' := [(6, .int x87), (0, .ref oa), (1, .int x82), (2, .int 0), (3, .int 0), (4, .int 0), (5, .int 1)]) hx hb dL_areDrops_155 hl rfl (by rw [ex87]; rfl) (by decide) rfl (fun ls hl => ?_)
      refine lv_goto (tgt := 15) hx hb dL_areDrops_158 (by decide) ?_
      exact ih1 (x82, x87) _ _ hsp hW hS _ (lv_sub hl [1, 2, 3, 4, 5, 6, 0] rfl)
    have hl := lv_sub hl (l' := [(0, .ref oa), (1, .int x82), (2, .int 0), (3, .int 0), (4, .int 0), (5, .int 1), (6, .int x2), (7, .int x81), (8, .int 0)]) [4, 2, 5, 6, 7, 1, 8, 3, 0] rfl
    refine lp_o (F := s_L_areDrops_L3 f0 x2 x81 (s_L_areDrops_X3 (s_L_areDrops_L1 f0 (s_L_areDrops_X1 f0) n1) x2 x82)) (PH := fun (tv : Int32) => WD D cI cS A oa (f0)) (L := fun (tv : Int32) => [(0, .ref oa), (1, .int x82), (2, .int 0), (3, .int 0), (4, .int 0), (5, .int 1), (6, .int x2), (7, .int x81), (8, .int tv)]) (nL := 9) (res := res) (A := A) (H0 := s.heap) (fun _ => rfl) ?_ 1000 0 _ _ hsp hW hS _ hl
    · intro n3 ih3 tv H locs hsp hW hS ls hl
      obtain ⟨x86, rfl⟩ : ∃ z, z = tv := ⟨_, rfl⟩
      have hsp : s_L_areDrops_B3  f0 x2 x81 (s_L_areDrops_X3 (s_L_areDrops_L1 f0 (s_L_areDrops_X1 f0) n1) x2 x82) (s_L_areDrops_L3 f0 x2 x81 (s_L_areDrops_X3 (s_L_areDrops_L1 f0 (s_L_areDrops_X1 f0) n1) x2 x82) n3) x86 = some res := hsp
      unfold s_L_areDrops_B3 at hsp
      have hW : WD D cI cS A oa f0 H := hW
      have hl : lv_has ls 9 [(0, .ref oa), (1, .int x82), (2, .int 0), (3, .int 0), (4, .int 0), (5, .int 1), (6, .int x2), (7, .int x81), (8, .int x86)] := hl
      refine lv_iload hx hb dL_areDrops_94 (lv_at hl 8 rfl) ?_
      refine lv_iconst (v := 3) hx hb dL_areDrops_96 (by decide) ?_
      refine lv_icmp_ge (tgt := 155) hx hb dL_areDrops_97 (by decide) (fun c88 => ?_) (fun c88 => ?_)
      · have hsp := itT hsp c88
        exact hx3 () _ _ hsp hW hS _ (lv_sub hl [0, 1, 2, 3, 4, 5, 6] rfl)
      have hsp := itF hsp c88
      refine lv_iload hx hb dL_areDrops_100 (lv_at hl 5 rfl) ?_
      refine lv_if_eq (tgt := 155) hx hb dL_areDrops_102 (by decide) (fun hc => absurd hc (by decide)) (fun _ => ?_)
      refine lv_aload_n hx hb dL_areDrops_105 rfl (lv_at hl 0 rfl) ?_
      refine lv_iload hx hb dL_areDrops_106 (lv_at hl 6 rfl) ?_
      refine lv_iconst (v := 5) hx hb dL_areDrops_108 (by decide) ?_
      refine lv_iload hx hb dL_areDrops_109 (lv_at hl 8 rfl) ?_
      refine lv_iadd hx hb dL_areDrops_111 ?_
      obtain ⟨r89, hcr89, hsp⟩ := clE hsp
      refine call_o (As := [.int x2, .int (5 + x86)]) (rest := []) (KO_pot (l := l) (D := D) (cI := cI) (cZ := cZ) (cC := cC) (cS := cS) (oa := oa) hcr89) hKU hW hS hA ⟨hx, hb, hml, hown, hts⟩ (cwV 2 hts gL_areDrops_X4_pot rfl rfl rfl nd_X4_pot ⟨Nat.le_of_ble_eq_true rfl, Nat.le_of_ble_eq_true rfl⟩) rfl hl.1 rfl (Nat.le_of_ble_eq_true rfl) dL_areDrops_112 ⟨Nat.le_of_ble_eq_true rfl, Nat.le_of_ble_eq_true rfl⟩ (fun H locs hW hS => ?_)
      refine lv_iload hx hb dL_areDrops_115 (lv_at hl 7 rfl) ?_
      refine lv_if_ne (tgt := 125) hx hb dL_areDrops_117 (by decide) (fun c90 => ?_) (fun c90 => ?_)
      · have hsp := itF hsp c90
        refine lv_bipush (v := 100) hx hb dL_areDrops_125 (by decide) ?_
        refine lv_aload_n hx hb dL_areDrops_127 rfl (lv_at hl 0 rfl) ?_
        refine lv_iload hx hb dL_areDrops_128 (lv_at hl 6 rfl) ?_
        refine lv_iload hx hb dL_areDrops_130 (lv_at hl 8 rfl) ?_
        obtain ⟨r91, hcr91, hsp⟩ := clE hsp
        refine call_o (As := [.int x2, .int x86]) (rest := [.int 100, .int r89]) (KO_pot (l := l) (D := D) (cI := cI) (cZ := cZ) (cC := cC) (cS := cS) (oa := oa) hcr91) hKU hW hS hA ⟨hx, hb, hml, hown, hts⟩ (cwV 2 hts gL_areDrops_X4_pot rfl rfl rfl nd_X4_pot ⟨Nat.le_of_ble_eq_true rfl, Nat.le_of_ble_eq_true rfl⟩) rfl hl.1 rfl (Nat.le_of_ble_eq_true rfl) dL_areDrops_132 ⟨Nat.le_of_ble_eq_true rfl, Nat.le_of_ble_eq_true rfl⟩ (fun H locs hW hS => ?_)
        refine lv_imul hx hb dL_areDrops_135 ?_
        refine lv_iload hx hb dL_areDrops_136 (lv_at hl 7 rfl) ?_
        obtain ⟨x92, ex92, hnx92, hsp⟩ := dvE hsp
        refine lv_idiv hx hb dL_areDrops_138 hnx92 ?_
        refine r_top ex92 ?_
        refine lv_icmp_ne (tgt := 146) hx hb dL_areDrops_139 (by decide) (fun c93 => ?_) (fun c93 => ?_)
        · have hsp := itF hsp c93
          cases hsp
        have hsp := itT hsp c93
        refine lv_iconst (v := 1) hx hb dL_areDrops_142 (by decide) ?_
        refine lv_goto (tgt := 147) hx hb dL_areDrops_143 (by decide) ?_
        refine lv_istore (lv' := [(5, .int 1), (0, .ref oa), (1, .int x82), (2, .int 0), (3, .int 0), (4, .int 0), (6, .int x2), (7, .int x81), (8, .int x86)]) hx hb dL_areDrops_147 hl (by decide) rfl (fun ls hl => ?_)
        obtain ⟨x94, ex94, hsp⟩ := nmE hsp
        refine lv_iinc (k := 8) (v := x94) (lv' := [(8, .int x94), (5, .int 1), (0, .ref oa), (1, .int x82), (2, .int 0), (3, .int 0), (4, .int 0), (6, .int x2), (7, .int x81)]) hx hb dL_areDrops_149 hl rfl (by rw [ex94]; rfl) (by decide) rfl (fun ls hl => ?_)
        refine lv_goto (tgt := 94) hx hb dL_areDrops_152 (by decide) ?_
        exact ih3 x94 _ _ hsp hW hS _ (lv_sub hl [2, 3, 4, 5, 6, 1, 7, 8, 0] rfl)
      have hsp := itT hsp c90
      refine lv_bipush (v := (-6)) hx hb dL_areDrops_120 (by decide) ?_
      refine lv_goto (tgt := 139) hx hb dL_areDrops_122 (by decide) ?_
      refine lv_icmp_ne (tgt := 146) hx hb dL_areDrops_139 (by decide) (fun c95 => ?_) (fun c95 => ?_)
      · have hsp := itF hsp c95
        cases hsp
      have hsp := itT hsp c95
      refine lv_iconst (v := 1) hx hb dL_areDrops_142 (by decide) ?_
      refine lv_goto (tgt := 147) hx hb dL_areDrops_143 (by decide) ?_
      refine lv_istore (lv' := [(5, .int 1), (0, .ref oa), (1, .int x82), (2, .int 0), (3, .int 0), (4, .int 0), (6, .int x2), (7, .int x81), (8, .int x86)]) hx hb dL_areDrops_147 hl (by decide) rfl (fun ls hl => ?_)
      obtain ⟨x96, ex96, hsp⟩ := nmE hsp
      refine lv_iinc (k := 8) (v := x96) (lv' := [(8, .int x96), (5, .int 1), (0, .ref oa), (1, .int x82), (2, .int 0), (3, .int 0), (4, .int 0), (6, .int x2), (7, .int x81)]) hx hb dL_areDrops_149 hl rfl (by rw [ex96]; rfl) (by decide) rfl (fun ls hl => ?_)
      refine lv_goto (tgt := 94) hx hb dL_areDrops_152 (by decide) ?_
      exact ih3 x96 _ _ hsp hW hS _ (lv_sub hl [2, 3, 4, 5, 6, 1, 7, 8, 0] rfl)
