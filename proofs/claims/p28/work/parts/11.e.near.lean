theorem nd_L_areNear : yL_areNear.cls = RL ∧ yL_areNear.cls ≠ "java/lang/invoke/MethodHandle" ∧ yL_areNear.cls ≠ "java/lang/invoke/VarHandle" ∧ (parseMethodDescriptor yL_areNear.desc).map (fun d => d.parameters.length) = some 1 := by decide +kernel
set_option maxHeartbeats 8000000 in
set_option maxRecDepth 100000 in
theorem k_L_areNear (l : Launch) (D : va_G) (cI cZ cC cS : ClassId) (sz : Nat) (w : va_W) (oa : Nat) (f0 : Ab) (hO : OKW cI cS oa f0 w)  (res : Int32) (hsp : s_L_areNear f0 = some res) : Met l yL_areNear wsL_areNear ({ frames := 7, cells := 0, slots := 0, locals := 163 }) (va_Pc [.ref oa] (PB D cI cZ cC cS w sz)) (va_Qi (fun r (_ : Unit) => r = res ∧ (res = 0 ∨ res = 1)) (fun _ t => WD D cI cS (va_A w sz) oa f0 t.heap) (va_A w sz)) 0 0 (va_A w sz) := by
  refine Met.ofW (cc := cL_areNear) (maxL := 10) (ret := (some .boolean)) (by decide) rfl ?_
  intro p e s m args below meth c s₁ B hml hv
  obtain ⟨rfl, hsz, hP, hD0, hKU⟩ := hv
  have hx := B.exec
  have hb := B.bytes
  have hr := B.returns
  have hts := atoms_spec (ws := wsL_areNear) B.pre
  have hown : s.vm.findClass RL = some m.cls := findClass_of_methodNamed B.named
  have hlocks := B.notSynchronized
  subst hsz
  have hD := hD0.self (sz := s.heap.size)
  have hAA : ∀ q : Nat, s.heap.size ≤ q → va_A w s.heap.size q := fun q h => Or.inr h
  generalize hAe : va_A w s.heap.size = A at hD hAA ⊢
  have hA : ∀ q : Nat, s.heap.size ≤ q → A q := hAA
  have hW : WD D cI cS A oa f0 s.heap := ⟨w, hO, hP, hD⟩
  generalize hHe : s.heap = H at hW ⊢
  have hS : va_S A s.heap H [] := by rw [hHe]; exact va_S.rf
  have hl := lv_entry ([.ref oa]) (n := 10) (Nat.le_of_ble_eq_true rfl)
  rw [lg_entry_eq]
  generalize (lg_sl ([.ref oa]) ++ List.replicate (10 - (lg_sl ([.ref oa])).length) Slot.unset).toArray = ls at hl ⊢
  have hl : lv_has ls 10 [(0, .ref oa)] := hl
  unfold s_L_areNear at hsp
  refine lv_iconst (v := 0) hx hb dL_areNear_0 (by decide) ?_
  refine lv_istore_n (lv' := [(1, .int 0), (0, .ref oa)]) hx hb dL_areNear_1 rfl hl (by decide) rfl (fun ls hl => ?_)
  refine lv_iconst (v := 0) hx hb dL_areNear_2 (by decide) ?_
  refine lv_istore_n (lv' := [(2, .int 0), (1, .int 0), (0, .ref oa)]) hx hb dL_areNear_3 rfl hl (by decide) rfl (fun ls hl => ?_)
  refine lv_iconst (v := 0) hx hb dL_areNear_4 (by decide) ?_
  refine lv_istore_n (lv' := [(3, .int 0), (2, .int 0), (1, .int 0), (0, .ref oa)]) hx hb dL_areNear_5 rfl hl (by decide) rfl (fun ls hl => ?_)
  refine lv_aload_n hx hb dL_areNear_6 rfl (lv_at hl 3 rfl) ?_
  refine lv_iconst (v := 3) hx hb dL_areNear_7 (by decide) ?_
  obtain ⟨r1, hcr1, hsp⟩ := clE hsp
  refine call_o (As := [.int 3]) (rest := []) (KO_count (l := l) (D := D) (cI := cI) (cZ := cZ) (cC := cC) (cS := cS) (oa := oa) hcr1) hKU hW hS hA ⟨hx, hb, hml, hown, hts⟩ (cwV 1 hts gL_areNear_X4_count rfl rfl rfl nd_X4_count ⟨Nat.le_of_ble_eq_true rfl, Nat.le_of_ble_eq_true rfl⟩) rfl hl.1 rfl (Nat.le_of_ble_eq_true rfl) dL_areNear_8 ⟨Nat.le_of_ble_eq_true rfl, Nat.le_of_ble_eq_true rfl⟩ (fun H locs hW hS => ?_)
  refine lv_if_le (tgt := 18) hx hb dL_areNear_11 (by decide) (fun c2 => ?_) (fun c2 => ?_)
  · have hsp := itT hsp c2
    refine lv_iconst (v := 0) hx hb dL_areNear_18 (by decide) ?_
    refine lv_istore (lv' := [(4, .int 0), (3, .int 0), (2, .int 0), (1, .int 0), (0, .ref oa)]) hx hb dL_areNear_19 hl (by decide) rfl (fun ls hl => ?_)
    refine lv_iload hx hb dL_areNear_21 (lv_at hl 0 rfl) ?_
    refine lv_if_ne (tgt := 57) hx hb dL_areNear_23 (by decide) (fun hc => absurd hc (by decide)) (fun _ => ?_)
    refine lv_aload_n hx hb dL_areNear_26 rfl (lv_at hl 4 rfl) ?_
    refine lv_iconst (v := 0) hx hb dL_areNear_27 (by decide) ?_
    obtain ⟨r3, hcr3, hsp⟩ := clE hsp
    refine call_o (As := [.int 0]) (rest := []) (KO_bestOrder (l := l) (D := D) (cI := cI) (cZ := cZ) (cC := cC) (cS := cS) (oa := oa) hcr3) hKU hW hS hA ⟨hx, hb, hml, hown, hts⟩ (cwV 1 hts gL_areNear_X4_bestOrder rfl rfl rfl nd_X4_bestOrder ⟨Nat.le_of_ble_eq_true rfl, Nat.le_of_ble_eq_true rfl⟩) rfl hl.1 rfl (Nat.le_of_ble_eq_true rfl) dL_areNear_28 ⟨Nat.le_of_ble_eq_true rfl, Nat.le_of_ble_eq_true rfl⟩ (fun H locs hW hS => ?_)
    refine lv_bipush (v := (-6)) hx hb dL_areNear_31 (by decide) ?_
    refine lv_icmp_ne (tgt := 61) hx hb dL_areNear_33 (by decide) (fun c4 => ?_) (fun c4 => ?_)
    · have hsp := itF hsp c4
      cases hsp
    have hsp := itT hsp c4
    refine lv_aload_n hx hb dL_areNear_36 rfl (lv_at hl 4 rfl) ?_
    refine lv_iconst (v := 0) hx hb dL_areNear_37 (by decide) ?_
    obtain ⟨r5, hcr5, hsp⟩ := clE hsp
    refine call_o (As := [.int 0]) (rest := []) (KO_rinses (l := l) (D := D) (cI := cI) (cZ := cZ) (cC := cC) (cS := cS) (oa := oa) hcr5) hKU hW hS hA ⟨hx, hb, hml, hown, hts⟩ (cwV 1 hts gL_areNear_X4_rinses rfl rfl rfl nd_X4_rinses ⟨Nat.le_of_ble_eq_true rfl, Nat.le_of_ble_eq_true rfl⟩) rfl hl.1 rfl (Nat.le_of_ble_eq_true rfl) dL_areNear_38 ⟨Nat.le_of_ble_eq_true rfl, Nat.le_of_ble_eq_true rfl⟩ (fun H locs hW hS => ?_)
    refine lv_bipush (v := (-6)) hx hb dL_areNear_41 (by decide) ?_
    refine lv_icmp_ne (tgt := 61) hx hb dL_areNear_43 (by decide) (fun c6 => ?_) (fun c6 => ?_)
    · have hsp := itF hsp c6
      cases hsp
    have hsp := itT hsp c6
    refine lv_aload_n hx hb dL_areNear_46 rfl (lv_at hl 4 rfl) ?_
    refine lv_iconst (v := 0) hx hb dL_areNear_47 (by decide) ?_
    refine lv_iconst (v := 0) hx hb dL_areNear_48 (by decide) ?_
    obtain ⟨r7, hcr7, hsp⟩ := clE hsp
    refine call_o (As := [.int 0, .int 0]) (rest := []) (KO_nearest (l := l) (D := D) (cI := cI) (cZ := cZ) (cC := cC) (cS := cS) (oa := oa) hcr7) hKU hW hS hA ⟨hx, hb, hml, hown, hts⟩ (cwV 2 hts gL_areNear_X4_nearest rfl rfl rfl nd_X4_nearest ⟨Nat.le_of_ble_eq_true rfl, Nat.le_of_ble_eq_true rfl⟩) rfl hl.1 rfl (Nat.le_of_ble_eq_true rfl) dL_areNear_49 ⟨Nat.le_of_ble_eq_true rfl, Nat.le_of_ble_eq_true rfl⟩ (fun H locs hW hS => ?_)
    refine lv_bipush (v := (-6)) hx hb dL_areNear_52 (by decide) ?_
    refine lv_icmp_ne (tgt := 61) hx hb dL_areNear_54 (by decide) (fun c8 => ?_) (fun c8 => ?_)
    · have hsp := itF hsp c8
      cases hsp
    have hsp := itT hsp c8
    refine lv_iconst (v := 1) hx hb dL_areNear_57 (by decide) ?_
    refine lv_goto (tgt := 62) hx hb dL_areNear_58 (by decide) ?_
    refine lv_istore (lv' := [(5, .int 1), (4, .int 0), (3, .int 0), (2, .int 0), (1, .int 0), (0, .ref oa)]) hx hb dL_areNear_62 hl (by decide) rfl (fun ls hl => ?_)
    refine lv_iconst (v := 0) hx hb dL_areNear_64 (by decide) ?_
    refine lv_istore (lv' := [(6, .int 0), (5, .int 1), (4, .int 0), (3, .int 0), (2, .int 0), (1, .int 0), (0, .ref oa)]) hx hb dL_areNear_65 hl (by decide) rfl (fun ls hl => ?_)
    refine ex_o (K := s_L_areNear_X1) (PH := fun (t1 : Int32 × Int32 × Int32) => WD D cI cS A oa (f0)) (L := fun (t1 : Int32 × Int32 × Int32) => [(0, .ref oa), (1, .int t1.1), (2, .int t1.2.1), (3, .int t1.2.2), (4, .int 0), (5, .int 1)]) (nL := 10) (pcx := 308) (res := res) (A := A) (H0 := s.heap) ?_ (fun hx1 => ?_)
    · intro t1 H locs hsp hW hS ls hl
      obtain ⟨x13, x14, x15⟩ := t1
      unfold s_L_areNear_X1 at hsp; try dsimp only at hsp
      have hW : WD D cI cS A oa f0 H := hW
      have hl : lv_has ls 10 [(0, .ref oa), (1, .int x13), (2, .int x14), (3, .int x15), (4, .int 0), (5, .int 1)] := hl
      refine lv_iconst (v := 0) hx hb dL_areNear_308 (by decide) ?_
      refine lv_istore (lv' := [(6, .int 0), (0, .ref oa), (1, .int x13), (2, .int x14), (3, .int x15), (4, .int 0), (5, .int 1)]) hx hb dL_areNear_309 hl (by decide) rfl (fun ls hl => ?_)
      refine ex_o (K := s_L_areNear_X2) (PH := fun (t2 : Unit) => WD D cI cS A oa (f0)) (L := fun (t2 : Unit) => [(0, .ref oa), (1, .int x13), (2, .int x14), (4, .int 0), (5, .int 1)]) (nL := 10) (pcx := 362) (res := res) (A := A) (H0 := s.heap) ?_ (fun hx2 => ?_)
      · intro t2 H locs hsp hW hS ls hl
        unfold s_L_areNear_X2 at hsp; try dsimp only at hsp
        have hW : WD D cI cS A oa f0 H := hW
        have hl : lv_has ls 10 [(0, .ref oa), (1, .int x13), (2, .int x14), (4, .int 0), (5, .int 1)] := hl
        refine lv_iload hx hb dL_areNear_362 (lv_at hl 4 rfl) ?_
        refine lv_if_eq (tgt := 399) hx hb dL_areNear_364 (by decide) (fun hc => absurd hc (by decide)) (fun _ => ?_)
        refine lv_iload hx hb dL_areNear_367 (lv_at hl 3 rfl) ?_
        refine lv_if_eq (tgt := 395) hx hb dL_areNear_369 (by decide) (fun _ => ?_) (fun hc => absurd hc (by decide))
        refine lv_iconst (v := 1) hx hb dL_areNear_395 (by decide) ?_
        refine lv_goto (tgt := 400) hx hb dL_areNear_396 (by decide) ?_
        have hres := Option.some.inj hsp
        subst hres
        exact W.zret (v := 1) hx hb hr (zE (Or.inr rfl)) (fun t ht _ => ⟨⟨1, (), rfl, ⟨rfl, (Or.inr rfl)⟩, W_at ht hW⟩, hS.F ht⟩) hS.2.2 dL_areNear_400
      have hl := lv_sub hl (l' := [(0, .ref oa), (1, .int x13), (2, .int x14), (3, .int x15), (4, .int 0), (5, .int 1), (6, .int 0)]) [1, 2, 3, 4, 5, 6, 0] rfl
      refine lp_o (F := s_L_areNear_L2 (s_L_areNear_X2)) (PH := fun (tv : Int32) => WD D cI cS A oa (f0)) (L := fun (tv : Int32) => [(0, .ref oa), (1, .int x13), (2, .int x14), (3, .int x15), (4, .int 0), (5, .int 1), (6, .int tv)]) (nL := 10) (res := res) (A := A) (H0 := s.heap) (fun _ => rfl) ?_ 1000 0 _ _ hsp hW hS _ hl
      · intro n2 ih2 tv H locs hsp hW hS ls hl
        obtain ⟨x16, rfl⟩ : ∃ z, z = tv := ⟨_, rfl⟩
        have hsp : s_L_areNear_B2   (s_L_areNear_X2) (s_L_areNear_L2 (s_L_areNear_X2) n2) x16 = some res := hsp
        unfold s_L_areNear_B2 at hsp
        have hW : WD D cI cS A oa f0 H := hW
        have hl : lv_has ls 10 [(0, .ref oa), (1, .int x13), (2, .int x14), (3, .int x15), (4, .int 0), (5, .int 1), (6, .int x16)] := hl
        refine lv_iload hx hb dL_areNear_311 (lv_at hl 6 rfl) ?_
        refine lv_bipush (v := 6) hx hb dL_areNear_313 (by decide) ?_
        refine lv_icmp_ge (tgt := 362) hx hb dL_areNear_315 (by decide) (fun c17 => ?_) (fun c17 => ?_)
        · have hsp := itT hsp c17
          exact hx2 () _ _ hsp hW hS _ (lv_sub hl [0, 1, 2, 4, 5] rfl)
        have hsp := itF hsp c17
        refine lv_iload hx hb dL_areNear_318 (lv_at hl 5 rfl) ?_
        refine lv_if_eq (tgt := 362) hx hb dL_areNear_320 (by decide) (fun hc => absurd hc (by decide)) (fun _ => ?_)
        refine lv_iload hx hb dL_areNear_323 (lv_at hl 4 rfl) ?_
        refine lv_if_eq (tgt := 362) hx hb dL_areNear_325 (by decide) (fun _ => ?_) (fun hc => absurd hc (by decide))
        exact hx2 () _ _ hsp hW hS _ (lv_sub hl [0, 1, 2, 4, 5] rfl)
    have hl := lv_sub hl (l' := [(0, .ref oa), (1, .int 0), (2, .int 0), (3, .int 0), (4, .int 0), (5, .int 1), (6, .int 0)]) [6, 5, 4, 3, 2, 1, 0] rfl
    refine lp_o (F := s_L_areNear_L1 (s_L_areNear_X1)) (PH := fun (tv : Int32 × Int32 × Int32 × Int32) => WD D cI cS A oa (f0)) (L := fun (tv : Int32 × Int32 × Int32 × Int32) => [(0, .ref oa), (1, .int tv.1), (2, .int tv.2.1), (3, .int tv.2.2.1), (4, .int 0), (5, .int 1), (6, .int tv.2.2.2)]) (nL := 10) (res := res) (A := A) (H0 := s.heap) (fun _ => rfl) ?_ 1000 (0, 0, 0, 0) _ _ hsp hW hS _ hl
    · intro n1 ih1 tv H locs hsp hW hS ls hl
      obtain ⟨x9, x10, x11, x12⟩ := tv
      have hsp : s_L_areNear_B1   (s_L_areNear_X1) (s_L_areNear_L1 (s_L_areNear_X1) n1) x9 x10 x11 x12 = some res := hsp
      unfold s_L_areNear_B1 at hsp
      have hW : WD D cI cS A oa f0 H := hW
      have hl : lv_has ls 10 [(0, .ref oa), (1, .int x9), (2, .int x10), (3, .int x11), (4, .int 0), (5, .int 1), (6, .int x12)] := hl
      refine lv_iload hx hb dL_areNear_67 (lv_at hl 6 rfl) ?_
      refine lv_bipush (v := 6) hx hb dL_areNear_69 (by decide) ?_
      refine lv_icmp_ge (tgt := 308) hx hb dL_areNear_71 (by decide) (fun c18 => ?_) (fun c18 => ?_)
      · have hsp := itT hsp c18
        exact hx1 (x9, x10, x11) _ _ hsp hW hS _ (lv_sub hl [0, 1, 2, 3, 4, 5] rfl)
      have hsp := itF hsp c18
      refine lv_iload hx hb dL_areNear_74 (lv_at hl 5 rfl) ?_
      refine lv_if_eq (tgt := 308) hx hb dL_areNear_76 (by decide) (fun hc => absurd hc (by decide)) (fun _ => ?_)
      refine lv_iload hx hb dL_areNear_79 (lv_at hl 4 rfl) ?_
      refine lv_if_eq (tgt := 308) hx hb dL_areNear_81 (by decide) (fun _ => ?_) (fun hc => absurd hc (by decide))
      exact hx1 (x9, x10, x11) _ _ hsp hW hS _ (lv_sub hl [0, 1, 2, 3, 4, 5] rfl)
  have hsp := itF hsp c2
  refine lv_iconst (v := 1) hx hb dL_areNear_14 (by decide) ?_
  refine lv_goto (tgt := 19) hx hb dL_areNear_15 (by decide) ?_
  refine lv_istore (lv' := [(4, .int 1), (3, .int 0), (2, .int 0), (1, .int 0), (0, .ref oa)]) hx hb dL_areNear_19 hl (by decide) rfl (fun ls hl => ?_)
  refine lv_iload hx hb dL_areNear_21 (lv_at hl 0 rfl) ?_
  refine lv_if_ne (tgt := 57) hx hb dL_areNear_23 (by decide) (fun _ => ?_) (fun hc => absurd hc (by decide))
  refine lv_iconst (v := 1) hx hb dL_areNear_57 (by decide) ?_
  refine lv_goto (tgt := 62) hx hb dL_areNear_58 (by decide) ?_
  refine lv_istore (lv' := [(5, .int 1), (4, .int 1), (3, .int 0), (2, .int 0), (1, .int 0), (0, .ref oa)]) hx hb dL_areNear_62 hl (by decide) rfl (fun ls hl => ?_)
  refine lv_iconst (v := 0) hx hb dL_areNear_64 (by decide) ?_
  refine lv_istore (lv' := [(6, .int 0), (5, .int 1), (4, .int 1), (3, .int 0), (2, .int 0), (1, .int 0), (0, .ref oa)]) hx hb dL_areNear_65 hl (by decide) rfl (fun ls hl => ?_)
  refine ex_o (K := s_L_areNear_X3 f0) (PH := fun (t3 : Int32 × Int32 × Int32) => WD D cI cS A oa (f0)) (L := fun (t3 : Int32 × Int32 × Int32) => [(0, .ref oa), (1, .int t3.1), (2, .int t3.2.1), (3, .int t3.2.2), (4, .int 1), (5, .int 1)]) (nL := 10) (pcx := 308) (res := res) (A := A) (H0 := s.heap) ?_ (fun hx3 => ?_)
  · intro t3 H locs hsp hW hS ls hl
    obtain ⟨x23, x24, x25⟩ := t3
    unfold s_L_areNear_X3 at hsp; try dsimp only at hsp
    have hW : WD D cI cS A oa f0 H := hW
    have hl : lv_has ls 10 [(0, .ref oa), (1, .int x23), (2, .int x24), (3, .int x25), (4, .int 1), (5, .int 1)] := hl
    refine lv_iconst (v := 0) hx hb dL_areNear_308 (by decide) ?_
    refine lv_istore (lv' := [(6, .int 0), (0, .ref oa), (1, .int x23), (2, .int x24), (3, .int x25), (4, .int 1), (5, .int 1)]) hx hb dL_areNear_309 hl (by decide) rfl (fun ls hl => ?_)
    refine ex_o (K := s_L_areNear_X4 x23 f0 x24) (PH := fun (t4 : Unit) => WD D cI cS A oa (f0)) (L := fun (t4 : Unit) => [(0, .ref oa), (1, .int x23), (2, .int x24), (4, .int 1), (5, .int 1)]) (nL := 10) (pcx := 362) (res := res) (A := A) (H0 := s.heap) ?_ (fun hx4 => ?_)
    · intro t4 H locs hsp hW hS ls hl
      unfold s_L_areNear_X4 at hsp; try dsimp only at hsp
      have hW : WD D cI cS A oa f0 H := hW
      have hl : lv_has ls 10 [(0, .ref oa), (1, .int x23), (2, .int x24), (4, .int 1), (5, .int 1)] := hl
      refine lv_iload hx hb dL_areNear_362 (lv_at hl 4 rfl) ?_
      refine lv_if_eq (tgt := 399) hx hb dL_areNear_364 (by decide) (fun hc => absurd hc (by decide)) (fun _ => ?_)
      refine lv_iload hx hb dL_areNear_367 (lv_at hl 3 rfl) ?_
      refine lv_if_eq (tgt := 395) hx hb dL_areNear_369 (by decide) (fun hc => absurd hc (by decide)) (fun _ => ?_)
      refine lv_iload_n hx hb dL_areNear_372 rfl (lv_at hl 1 rfl) ?_
      refine lv_bipush (v := 63) hx hb dL_areNear_373 (by decide) ?_
      refine lv_icmp_ne (tgt := 399) hx hb dL_areNear_375 (by decide) (fun c27 => ?_) (fun c27 => ?_)
      · have hsp := itF hsp c27
        cases hsp
      have hsp := itT hsp c27
      refine lv_aload_n hx hb dL_areNear_378 rfl (lv_at hl 0 rfl) ?_
      refine lv_iconst (v := 0) hx hb dL_areNear_379 (by decide) ?_
      obtain ⟨r28, hcr28, hsp⟩ := clE hsp
      refine call_o (As := [.int 0]) (rest := []) (KO_rinses (l := l) (D := D) (cI := cI) (cZ := cZ) (cC := cC) (cS := cS) (oa := oa) hcr28) hKU hW hS hA ⟨hx, hb, hml, hown, hts⟩ (cwV 1 hts gL_areNear_X4_rinses rfl rfl rfl nd_X4_rinses ⟨Nat.le_of_ble_eq_true rfl, Nat.le_of_ble_eq_true rfl⟩) rfl hl.1 rfl (Nat.le_of_ble_eq_true rfl) dL_areNear_380 ⟨Nat.le_of_ble_eq_true rfl, Nat.le_of_ble_eq_true rfl⟩ (fun H locs hW hS => ?_)
      refine lv_iload_n hx hb dL_areNear_383 rfl (lv_at hl 2 rfl) ?_
      refine lv_icmp_ne (tgt := 399) hx hb dL_areNear_384 (by decide) (fun c29 => ?_) (fun c29 => ?_)
      · have hsp := itF hsp c29
        cases hsp
      have hsp := itT hsp c29
      refine lv_aload_n hx hb dL_areNear_387 rfl (lv_at hl 0 rfl) ?_
      refine lv_iconst (v := 0) hx hb dL_areNear_388 (by decide) ?_
      obtain ⟨r30, hcr30, hsp⟩ := clE hsp
      refine call_o (As := [.int 0]) (rest := []) (KO_bestOrder (l := l) (D := D) (cI := cI) (cZ := cZ) (cC := cC) (cS := cS) (oa := oa) hcr30) hKU hW hS hA ⟨hx, hb, hml, hown, hts⟩ (cwV 1 hts gL_areNear_X4_bestOrder rfl rfl rfl nd_X4_bestOrder ⟨Nat.le_of_ble_eq_true rfl, Nat.le_of_ble_eq_true rfl⟩) rfl hl.1 rfl (Nat.le_of_ble_eq_true rfl) dL_areNear_389 ⟨Nat.le_of_ble_eq_true rfl, Nat.le_of_ble_eq_true rfl⟩ (fun H locs hW hS => ?_)
      refine lv_if_ne (tgt := 399) hx hb dL_areNear_392 (by decide) (fun c31 => ?_) (fun c31 => ?_)
      · have hsp := itF hsp c31
        cases hsp
      have hsp := itT hsp c31
      refine lv_iconst (v := 1) hx hb dL_areNear_395 (by decide) ?_
      refine lv_goto (tgt := 400) hx hb dL_areNear_396 (by decide) ?_
      have hres := Option.some.inj hsp
      subst hres
      exact W.zret (v := 1) hx hb hr (zE (Or.inr rfl)) (fun t ht _ => ⟨⟨1, (), rfl, ⟨rfl, (Or.inr rfl)⟩, W_at ht hW⟩, hS.F ht⟩) hS.2.2 dL_areNear_400
    have hl := lv_sub hl (l' := [(0, .ref oa), (1, .int x23), (2, .int x24), (3, .int x25), (4, .int 1), (5, .int 1), (6, .int 0)]) [1, 2, 3, 4, 5, 6, 0] rfl
    refine lp_o (F := s_L_areNear_L4 f0 x25 (s_L_areNear_X4 x23 f0 x24)) (PH := fun (tv : Int32) => WD D cI cS A oa (f0)) (L := fun (tv : Int32) => [(0, .ref oa), (1, .int x23), (2, .int x24), (3, .int x25), (4, .int 1), (5, .int 1), (6, .int tv)]) (nL := 10) (res := res) (A := A) (H0 := s.heap) (fun _ => rfl) ?_ 1000 0 _ _ hsp hW hS _ hl
    · intro n4 ih4 tv H locs hsp hW hS ls hl
      obtain ⟨x26, rfl⟩ : ∃ z, z = tv := ⟨_, rfl⟩
      have hsp : s_L_areNear_B4  f0 x25 (s_L_areNear_X4 x23 f0 x24) (s_L_areNear_L4 f0 x25 (s_L_areNear_X4 x23 f0 x24) n4) x26 = some res := hsp
      unfold s_L_areNear_B4 at hsp
      have hW : WD D cI cS A oa f0 H := hW
      have hl : lv_has ls 10 [(0, .ref oa), (1, .int x23), (2, .int x24), (3, .int x25), (4, .int 1), (5, .int 1), (6, .int x26)] := hl
      refine lv_iload hx hb dL_areNear_311 (lv_at hl 6 rfl) ?_
      refine lv_bipush (v := 6) hx hb dL_areNear_313 (by decide) ?_
      refine lv_icmp_ge (tgt := 362) hx hb dL_areNear_315 (by decide) (fun c32 => ?_) (fun c32 => ?_)
      · have hsp := itT hsp c32
        exact hx4 () _ _ hsp hW hS _ (lv_sub hl [0, 1, 2, 4, 5] rfl)
      have hsp := itF hsp c32
      refine lv_iload hx hb dL_areNear_318 (lv_at hl 5 rfl) ?_
      refine lv_if_eq (tgt := 362) hx hb dL_areNear_320 (by decide) (fun hc => absurd hc (by decide)) (fun _ => ?_)
      refine lv_iload hx hb dL_areNear_323 (lv_at hl 4 rfl) ?_
      refine lv_if_eq (tgt := 362) hx hb dL_areNear_325 (by decide) (fun hc => absurd hc (by decide)) (fun _ => ?_)
      refine lv_aload_n hx hb dL_areNear_328 rfl (lv_at hl 0 rfl) ?_
      refine lv_iload hx hb dL_areNear_329 (lv_at hl 6 rfl) ?_
      obtain ⟨r33, hcr33, hsp⟩ := clE hsp
      refine call_o (As := [.int x26]) (rest := []) (KO_rinses (l := l) (D := D) (cI := cI) (cZ := cZ) (cC := cC) (cS := cS) (oa := oa) hcr33) hKU hW hS hA ⟨hx, hb, hml, hown, hts⟩ (cwV 1 hts gL_areNear_X4_rinses rfl rfl rfl nd_X4_rinses ⟨Nat.le_of_ble_eq_true rfl, Nat.le_of_ble_eq_true rfl⟩) rfl hl.1 rfl (Nat.le_of_ble_eq_true rfl) dL_areNear_331 ⟨Nat.le_of_ble_eq_true rfl, Nat.le_of_ble_eq_true rfl⟩ (fun H locs hW hS => ?_)
      refine lv_iload_n hx hb dL_areNear_334 rfl (lv_at hl 3 rfl) ?_
      refine lv_icmp_lt (tgt := 353) hx hb dL_areNear_335 (by decide) (fun c34 => ?_) (fun c34 => ?_)
      · have hsp := itT hsp c34
        cases hsp
      have hsp := itF hsp c34
      refine lv_aload_n hx hb dL_areNear_338 rfl (lv_at hl 0 rfl) ?_
      refine lv_iload hx hb dL_areNear_339 (lv_at hl 6 rfl) ?_
      obtain ⟨r35, hcr35, hsp⟩ := clE hsp
      refine call_o (As := [.int x26]) (rest := []) (KO_rinses (l := l) (D := D) (cI := cI) (cZ := cZ) (cC := cC) (cS := cS) (oa := oa) hcr35) hKU hW hS hA ⟨hx, hb, hml, hown, hts⟩ (cwV 1 hts gL_areNear_X4_rinses rfl rfl rfl nd_X4_rinses ⟨Nat.le_of_ble_eq_true rfl, Nat.le_of_ble_eq_true rfl⟩) rfl hl.1 rfl (Nat.le_of_ble_eq_true rfl) dL_areNear_341 ⟨Nat.le_of_ble_eq_true rfl, Nat.le_of_ble_eq_true rfl⟩ (fun H locs hW hS => ?_)
      refine lv_bipush (v := 6) hx hb dL_areNear_344 (by decide) ?_
      refine lv_icmp_ge (tgt := 353) hx hb dL_areNear_346 (by decide) (fun c36 => ?_) (fun c36 => ?_)
      · have hsp := itT hsp c36
        cases hsp
      have hsp := itF hsp c36
      refine lv_iconst (v := 1) hx hb dL_areNear_349 (by decide) ?_
      refine lv_goto (tgt := 354) hx hb dL_areNear_350 (by decide) ?_
      refine lv_istore (lv' := [(5, .int 1), (0, .ref oa), (1, .int x23), (2, .int x24), (3, .int x25), (4, .int 1), (6, .int x26)]) hx hb dL_areNear_354 hl (by decide) rfl (fun ls hl => ?_)
      obtain ⟨x37, ex37, hsp⟩ := nmE hsp
      refine lv_iinc (k := 6) (v := x37) (lv' := [(6, .int x37), (5, .int 1), (0, .ref oa), (1, .int x23), (2, .int x24), (3, .int x25), (4, .int 1)]) hx hb dL_areNear_356 hl rfl (by rw [ex37]; rfl) (by decide) rfl (fun ls hl => ?_)
      refine lv_goto (tgt := 311) hx hb dL_areNear_359 (by decide) ?_
      exact ih4 x37 _ _ hsp hW hS _ (lv_sub hl [2, 3, 4, 5, 6, 1, 0] rfl)
  have hl := lv_sub hl (l' := [(0, .ref oa), (1, .int 0), (2, .int 0), (3, .int 0), (4, .int 1), (5, .int 1), (6, .int 0)]) [6, 5, 4, 3, 2, 1, 0] rfl
  refine lp_o (F := s_L_areNear_L3 f0 (s_L_areNear_X3 f0)) (PH := fun (tv : Int32 × Int32 × Int32 × Int32) => WD D cI cS A oa (f0)) (L := fun (tv : Int32 × Int32 × Int32 × Int32) => [(0, .ref oa), (1, .int tv.1), (2, .int tv.2.1), (3, .int tv.2.2.1), (4, .int 1), (5, .int 1), (6, .int tv.2.2.2)]) (nL := 10) (res := res) (A := A) (H0 := s.heap) (fun _ => rfl) ?_ 1000 (0, 0, 0, 0) _ _ hsp hW hS _ hl
  · intro n3 ih3 tv H locs hsp hW hS ls hl
    obtain ⟨x19, x20, x21, x22⟩ := tv
    have hsp : s_L_areNear_B3  f0 (s_L_areNear_X3 f0) (s_L_areNear_L3 f0 (s_L_areNear_X3 f0) n3) x19 x20 x21 x22 = some res := hsp
    unfold s_L_areNear_B3 at hsp
    have hW : WD D cI cS A oa f0 H := hW
    have hl : lv_has ls 10 [(0, .ref oa), (1, .int x19), (2, .int x20), (3, .int x21), (4, .int 1), (5, .int 1), (6, .int x22)] := hl
    refine lv_iload hx hb dL_areNear_67 (lv_at hl 6 rfl) ?_
    refine lv_bipush (v := 6) hx hb dL_areNear_69 (by decide) ?_
    refine lv_icmp_ge (tgt := 308) hx hb dL_areNear_71 (by decide) (fun c38 => ?_) (fun c38 => ?_)
    · have hsp := itT hsp c38
      exact hx3 (x19, x20, x21) _ _ hsp hW hS _ (lv_sub hl [0, 1, 2, 3, 4, 5] rfl)
    have hsp := itF hsp c38
    refine lv_iload hx hb dL_areNear_74 (lv_at hl 5 rfl) ?_
    refine lv_if_eq (tgt := 308) hx hb dL_areNear_76 (by decide) (fun hc => absurd hc (by decide)) (fun _ => ?_)
    refine lv_iload hx hb dL_areNear_79 (lv_at hl 4 rfl) ?_
    refine lv_if_eq (tgt := 308) hx hb dL_areNear_81 (by decide) (fun hc => absurd hc (by decide)) (fun _ => ?_)
    refine lv_aload_n hx hb dL_areNear_84 rfl (lv_at hl 0 rfl) ?_
    refine lv_iload hx hb dL_areNear_85 (lv_at hl 6 rfl) ?_
    refine lv_iconst (v := 0) hx hb dL_areNear_87 (by decide) ?_
    obtain ⟨r39, hcr39, hsp⟩ := clE hsp
    refine call_o (As := [.int x22, .int 0]) (rest := []) (KO_nearest (l := l) (D := D) (cI := cI) (cZ := cZ) (cC := cC) (cS := cS) (oa := oa) hcr39) hKU hW hS hA ⟨hx, hb, hml, hown, hts⟩ (cwV 2 hts gL_areNear_X4_nearest rfl rfl rfl nd_X4_nearest ⟨Nat.le_of_ble_eq_true rfl, Nat.le_of_ble_eq_true rfl⟩) rfl hl.1 rfl (Nat.le_of_ble_eq_true rfl) dL_areNear_88 ⟨Nat.le_of_ble_eq_true rfl, Nat.le_of_ble_eq_true rfl⟩ (fun H locs hW hS => ?_)
    refine lv_istore (lv' := [(7, .int r39), (0, .ref oa), (1, .int x19), (2, .int x20), (3, .int x21), (4, .int 1), (5, .int 1), (6, .int x22)]) hx hb dL_areNear_91 hl (by decide) rfl (fun ls hl => ?_)
    refine lv_aload_n hx hb dL_areNear_93 rfl (lv_at hl 1 rfl) ?_
    refine lv_iload hx hb dL_areNear_94 (lv_at hl 7 rfl) ?_
    refine lv_iconst (v := 1) hx hb dL_areNear_96 (by decide) ?_
    obtain ⟨r40, hcr40, hsp⟩ := clE hsp
    refine call_o (As := [.int x22, .int 1]) (rest := []) (KO_nearest (l := l) (D := D) (cI := cI) (cZ := cZ) (cC := cC) (cS := cS) (oa := oa) hcr40) hKU hW hS hA ⟨hx, hb, hml, hown, hts⟩ (cwV 2 hts gL_areNear_X4_nearest rfl rfl rfl nd_X4_nearest ⟨Nat.le_of_ble_eq_true rfl, Nat.le_of_ble_eq_true rfl⟩) rfl hl.1 rfl (Nat.le_of_ble_eq_true rfl) dL_areNear_97 ⟨Nat.le_of_ble_eq_true rfl, Nat.le_of_ble_eq_true rfl⟩ (fun H locs hW hS => ?_)
    refine lv_istore (lv' := [(8, .int r40), (7, .int r39), (0, .ref oa), (1, .int x19), (2, .int x20), (3, .int x21), (4, .int 1), (5, .int 1), (6, .int x22)]) hx hb dL_areNear_100 hl (by decide) rfl (fun ls hl => ?_)
    refine lv_aload_n hx hb dL_areNear_102 rfl (lv_at hl 2 rfl) ?_
    refine lv_iload hx hb dL_areNear_103 (lv_at hl 1 rfl) ?_
    refine lv_iconst (v := 4) hx hb dL_areNear_105 (by decide) ?_
    obtain ⟨r41, hcr41, hsp⟩ := clE hsp
    refine call_o (As := [.int r39, .int 4]) (rest := []) (KO_pot (l := l) (D := D) (cI := cI) (cZ := cZ) (cC := cC) (cS := cS) (oa := oa) hcr41) hKU hW hS hA ⟨hx, hb, hml, hown, hts⟩ (cwV 2 hts gL_areNear_X4_pot rfl rfl rfl nd_X4_pot ⟨Nat.le_of_ble_eq_true rfl, Nat.le_of_ble_eq_true rfl⟩) rfl hl.1 rfl (Nat.le_of_ble_eq_true rfl) dL_areNear_106 ⟨Nat.le_of_ble_eq_true rfl, Nat.le_of_ble_eq_true rfl⟩ (fun H locs hW hS => ?_)
    refine lv_if_le (tgt := 129) hx hb dL_areNear_109 (by decide) (fun c42 => ?_) (fun c42 => ?_)
    · have hsp := itT hsp c42
      cases hsp
    have hsp := itF hsp c42
    refine lv_aload_n hx hb dL_areNear_112 rfl (lv_at hl 2 rfl) ?_
    refine lv_iload hx hb dL_areNear_113 (lv_at hl 8 rfl) ?_
    refine lv_iload hx hb dL_areNear_115 (lv_at hl 1 rfl) ?_
    obtain ⟨r43, hcr43, hsp⟩ := clE hsp
    refine call_s (x' := f0) (res := r43) (As := [.int x22, .int r39]) (rest := []) (Pz := True) (fun w sz hO => k_L_far l D cI cZ cC cS sz w oa f0 hO x22 r39 r43 hcr43) hKU hW hS hA ⟨hx, hb, hml, hown, hts⟩ (va_cwS 3 hts gL_areNear_L_far rfl rfl rfl nd_L_far.2 ⟨Nat.le_of_ble_eq_true rfl, Nat.le_of_ble_eq_true rfl⟩) rfl hl.1 rfl (Nat.le_of_ble_eq_true rfl) dL_areNear_117 ⟨Nat.le_of_ble_eq_true rfl, Nat.le_of_ble_eq_true rfl⟩ (fun H locs hW hS hzr43 => ?_)
    have hW : WD D cI cS A oa f0 H := hW
    refine lv_iload hx hb dL_areNear_120 (lv_at hl 0 rfl) ?_
    refine lv_icmp_ne (tgt := 129) hx hb dL_areNear_122 (by decide) (fun c44 => ?_) (fun c44 => ?_)
    · have hsp := itF hsp c44
      cases hsp
    have hsp := itT hsp c44
    refine lv_iconst (v := 1) hx hb dL_areNear_125 (by decide) ?_
    refine lv_goto (tgt := 130) hx hb dL_areNear_126 (by decide) ?_
    refine lv_istore (lv' := [(5, .int 1), (8, .int r40), (7, .int r39), (0, .ref oa), (1, .int x19), (2, .int x20), (3, .int x21), (4, .int 1), (6, .int x22)]) hx hb dL_areNear_130 hl (by decide) rfl (fun ls hl => ?_)
    refine lv_iconst (v := 0) hx hb dL_areNear_132 (by decide) ?_
    refine lv_istore (lv' := [(9, .int 0), (5, .int 1), (8, .int r40), (7, .int r39), (0, .ref oa), (1, .int x19), (2, .int x20), (3, .int x21), (4, .int 1), (6, .int x22)]) hx hb dL_areNear_133 hl (by decide) rfl (fun ls hl => ?_)
    refine ex_o (K := s_L_areNear_X5 (s_L_areNear_L3 f0 (s_L_areNear_X3 f0) n3) f0 x22 x19 x20 x21) (PH := fun (t5 : Unit) => WD D cI cS A oa (f0)) (L := fun (t5 : Unit) => [(0, .ref oa), (1, .int x19), (2, .int x20), (3, .int x21), (4, .int 1), (5, .int 1), (6, .int x22)]) (nL := 10) (pcx := 203) (res := res) (A := A) (H0 := s.heap) ?_ (fun hx5 => ?_)
    · intro t5 H locs hsp hW hS ls hl
      unfold s_L_areNear_X5 at hsp; try dsimp only at hsp
      have hW : WD D cI cS A oa f0 H := hW
      have hl : lv_has ls 10 [(0, .ref oa), (1, .int x19), (2, .int x20), (3, .int x21), (4, .int 1), (5, .int 1), (6, .int x22)] := hl
      refine lv_aload_n hx hb dL_areNear_203 rfl (lv_at hl 0 rfl) ?_
      refine lv_iload hx hb dL_areNear_204 (lv_at hl 6 rfl) ?_
      obtain ⟨r46, hcr46, hsp⟩ := clE hsp
      refine call_o (As := [.int x22]) (rest := []) (KO_bestOrder (l := l) (D := D) (cI := cI) (cZ := cZ) (cC := cC) (cS := cS) (oa := oa) hcr46) hKU hW hS hA ⟨hx, hb, hml, hown, hts⟩ (cwV 1 hts gL_areNear_X4_bestOrder rfl rfl rfl nd_X4_bestOrder ⟨Nat.le_of_ble_eq_true rfl, Nat.le_of_ble_eq_true rfl⟩) rfl hl.1 rfl (Nat.le_of_ble_eq_true rfl) dL_areNear_206 ⟨Nat.le_of_ble_eq_true rfl, Nat.le_of_ble_eq_true rfl⟩ (fun H locs hW hS => ?_)
      refine lv_istore (lv' := [(9, .int r46), (0, .ref oa), (1, .int x19), (2, .int x20), (3, .int x21), (4, .int 1), (5, .int 1), (6, .int x22)]) hx hb dL_areNear_209 hl (by decide) rfl (fun ls hl => ?_)
      refine lv_iload_n hx hb dL_areNear_211 rfl (lv_at hl 2 rfl) ?_
      refine lv_iload hx hb dL_areNear_212 (lv_at hl 0 rfl) ?_
      refine lv_if_lt (tgt := 231) hx hb dL_areNear_214 (by decide) (fun c47 => ?_) (fun c47 => ?_)
      · have hsp := itT hsp c47
        cases hsp
      have hsp := itF hsp c47
      refine lv_iload hx hb dL_areNear_217 (lv_at hl 0 rfl) ?_
      refine lv_bipush (v := 6) hx hb dL_areNear_219 (by decide) ?_
      refine lv_icmp_ge (tgt := 231) hx hb dL_areNear_221 (by decide) (fun c48 => ?_) (fun c48 => ?_)
      · have hsp := itT hsp c48
        cases hsp
      have hsp := itF hsp c48
      refine lv_iconst (v := 1) hx hb dL_areNear_224 (by decide) ?_
      refine lv_iload hx hb dL_areNear_225 (lv_at hl 0 rfl) ?_
      refine lv_ishl hx hb dL_areNear_227 ?_
      refine lv_goto (tgt := 232) hx hb dL_areNear_228 (by decide) ?_
      refine lv_ior hx hb dL_areNear_232 ?_
      obtain ⟨x49, ex49, hsp⟩ := nmE hsp
      refine r_top ex49 ?_
      refine lv_istore_n (lv' := [(1, .int x49), (9, .int r46), (0, .ref oa), (2, .int x20), (3, .int x21), (4, .int 1), (5, .int 1), (6, .int x22)]) hx hb dL_areNear_233 rfl hl (by decide) rfl (fun ls hl => ?_)
      refine lv_iload_n hx hb dL_areNear_234 rfl (lv_at hl 3 rfl) ?_
      refine lv_iload hx hb dL_areNear_235 (lv_at hl 7 rfl) ?_
      refine lv_if_le (tgt := 263) hx hb dL_areNear_237 (by decide) (fun c50 => ?_) (fun c50 => ?_)
      · have hsp := itT hsp c50
        refine lv_iconst (v := 0) hx hb dL_areNear_263 (by decide) ?_
        refine lv_iadd hx hb dL_areNear_264 ?_
        obtain ⟨x51, ex51, hsp⟩ := nmE hsp
        refine r_top ex51 ?_
        refine lv_istore_n (lv' := [(2, .int x51), (1, .int x49), (9, .int r46), (0, .ref oa), (3, .int x21), (4, .int 1), (5, .int 1), (6, .int x22)]) hx hb dL_areNear_265 rfl hl (by decide) rfl (fun ls hl => ?_)
        refine lv_iload_n hx hb dL_areNear_266 rfl (lv_at hl 4 rfl) ?_
        refine lv_iload hx hb dL_areNear_267 (lv_at hl 7 rfl) ?_
        refine lv_if_le (tgt := 299) hx hb dL_areNear_269 (by decide) (fun c52 => ?_) (fun c52 => ?_)
        · have hsp := itT hsp c52
          refine lv_iconst (v := 0) hx hb dL_areNear_299 (by decide) ?_
          refine lv_iadd hx hb dL_areNear_300 ?_
          obtain ⟨x53, ex53, hsp⟩ := nmE hsp
          refine r_top ex53 ?_
          refine lv_istore_n (lv' := [(3, .int x53), (2, .int x51), (1, .int x49), (9, .int r46), (0, .ref oa), (4, .int 1), (5, .int 1), (6, .int x22)]) hx hb dL_areNear_301 rfl hl (by decide) rfl (fun ls hl => ?_)
          obtain ⟨x54, ex54, hsp⟩ := nmE hsp
          refine lv_iinc (k := 7) (v := x54) (lv' := [(6, .int x54), (3, .int x53), (2, .int x51), (1, .int x49), (9, .int r46), (0, .ref oa), (4, .int 1), (5, .int 1)]) hx hb dL_areNear_302 hl rfl (by rw [ex54]; rfl) (by decide) rfl (fun ls hl => ?_)
          refine lv_goto (tgt := 67) hx hb dL_areNear_305 (by decide) ?_
          exact ih3 (x49, x51, x53, x54) _ _ hsp hW hS _ (lv_sub hl [5, 3, 2, 1, 6, 7, 0] rfl)
        have hsp := itF hsp c52
        refine lv_aload_n hx hb dL_areNear_272 rfl (lv_at hl 3 rfl) ?_
        refine lv_iload hx hb dL_areNear_273 (lv_at hl 2 rfl) ?_
        refine lv_iconst (v := 0) hx hb dL_areNear_275 (by decide) ?_
        obtain ⟨r55, hcr55, hsp⟩ := clE hsp
        refine call_o (As := [.int r46, .int 0]) (rest := [.int x21]) (KO_nearest (l := l) (D := D) (cI := cI) (cZ := cZ) (cC := cC) (cS := cS) (oa := oa) hcr55) hKU hW hS hA ⟨hx, hb, hml, hown, hts⟩ (cwV 2 hts gL_areNear_X4_nearest rfl rfl rfl nd_X4_nearest ⟨Nat.le_of_ble_eq_true rfl, Nat.le_of_ble_eq_true rfl⟩) rfl hl.1 rfl (Nat.le_of_ble_eq_true rfl) dL_areNear_276 ⟨Nat.le_of_ble_eq_true rfl, Nat.le_of_ble_eq_true rfl⟩ (fun H locs hW hS => ?_)
        refine lv_aload_n hx hb dL_areNear_279 rfl (lv_at hl 3 rfl) ?_
        refine lv_aload_n hx hb dL_areNear_280 rfl (lv_at hl 3 rfl) ?_
        refine lv_iload hx hb dL_areNear_281 (lv_at hl 7 rfl) ?_
        refine lv_iconst (v := 1) hx hb dL_areNear_283 (by decide) ?_
        refine lv_isub hx hb dL_areNear_284 ?_
        obtain ⟨r56, hcr56, hsp⟩ := clE hsp
        refine call_o (As := [.int (x22 - 1)]) (rest := [.ref oa, .int r55, .int x21]) (KO_bestOrder (l := l) (D := D) (cI := cI) (cZ := cZ) (cC := cC) (cS := cS) (oa := oa) hcr56) hKU hW hS hA ⟨hx, hb, hml, hown, hts⟩ (cwV 1 hts gL_areNear_X4_bestOrder rfl rfl rfl nd_X4_bestOrder ⟨Nat.le_of_ble_eq_true rfl, Nat.le_of_ble_eq_true rfl⟩) rfl hl.1 rfl (Nat.le_of_ble_eq_true rfl) dL_areNear_285 ⟨Nat.le_of_ble_eq_true rfl, Nat.le_of_ble_eq_true rfl⟩ (fun H locs hW hS => ?_)
        refine lv_iconst (v := 0) hx hb dL_areNear_288 (by decide) ?_
        obtain ⟨r57, hcr57, hsp⟩ := clE hsp
        refine call_o (As := [.int r56, .int 0]) (rest := [.int r55, .int x21]) (KO_nearest (l := l) (D := D) (cI := cI) (cZ := cZ) (cC := cC) (cS := cS) (oa := oa) hcr57) hKU hW hS hA ⟨hx, hb, hml, hown, hts⟩ (cwV 2 hts gL_areNear_X4_nearest rfl rfl rfl nd_X4_nearest ⟨Nat.le_of_ble_eq_true rfl, Nat.le_of_ble_eq_true rfl⟩) rfl hl.1 rfl (Nat.le_of_ble_eq_true rfl) dL_areNear_289 ⟨Nat.le_of_ble_eq_true rfl, Nat.le_of_ble_eq_true rfl⟩ (fun H locs hW hS => ?_)
        refine lv_icmp_eq (tgt := 299) hx hb dL_areNear_292 (by decide) (fun c58 => ?_) (fun c58 => ?_)
        · have hsp := itT hsp c58
          refine lv_iconst (v := 0) hx hb dL_areNear_299 (by decide) ?_
          refine lv_iadd hx hb dL_areNear_300 ?_
          obtain ⟨x59, ex59, hsp⟩ := nmE hsp
          refine r_top ex59 ?_
          refine lv_istore_n (lv' := [(3, .int x59), (2, .int x51), (1, .int x49), (9, .int r46), (0, .ref oa), (4, .int 1), (5, .int 1), (6, .int x22)]) hx hb dL_areNear_301 rfl hl (by decide) rfl (fun ls hl => ?_)
          obtain ⟨x60, ex60, hsp⟩ := nmE hsp
          refine lv_iinc (k := 7) (v := x60) (lv' := [(6, .int x60), (3, .int x59), (2, .int x51), (1, .int x49), (9, .int r46), (0, .ref oa), (4, .int 1), (5, .int 1)]) hx hb dL_areNear_302 hl rfl (by rw [ex60]; rfl) (by decide) rfl (fun ls hl => ?_)
          refine lv_goto (tgt := 67) hx hb dL_areNear_305 (by decide) ?_
          exact ih3 (x49, x51, x59, x60) _ _ hsp hW hS _ (lv_sub hl [5, 3, 2, 1, 6, 7, 0] rfl)
        have hsp := itF hsp c58
        refine lv_iconst (v := 1) hx hb dL_areNear_295 (by decide) ?_
        refine lv_goto (tgt := 300) hx hb dL_areNear_296 (by decide) ?_
        refine lv_iadd hx hb dL_areNear_300 ?_
        obtain ⟨x61, ex61, hsp⟩ := nmE hsp
        refine r_top ex61 ?_
        refine lv_istore_n (lv' := [(3, .int x61), (2, .int x51), (1, .int x49), (9, .int r46), (0, .ref oa), (4, .int 1), (5, .int 1), (6, .int x22)]) hx hb dL_areNear_301 rfl hl (by decide) rfl (fun ls hl => ?_)
        obtain ⟨x62, ex62, hsp⟩ := nmE hsp
        refine lv_iinc (k := 7) (v := x62) (lv' := [(6, .int x62), (3, .int x61), (2, .int x51), (1, .int x49), (9, .int r46), (0, .ref oa), (4, .int 1), (5, .int 1)]) hx hb dL_areNear_302 hl rfl (by rw [ex62]; rfl) (by decide) rfl (fun ls hl => ?_)
        refine lv_goto (tgt := 67) hx hb dL_areNear_305 (by decide) ?_
        exact ih3 (x49, x51, x61, x62) _ _ hsp hW hS _ (lv_sub hl [5, 3, 2, 1, 6, 7, 0] rfl)
      have hsp := itF hsp c50
      refine lv_aload_n hx hb dL_areNear_240 rfl (lv_at hl 2 rfl) ?_
      refine lv_iload hx hb dL_areNear_241 (lv_at hl 7 rfl) ?_
      refine lv_iconst (v := 0) hx hb dL_areNear_243 (by decide) ?_
      obtain ⟨r63, hcr63, hsp⟩ := clE hsp
      refine call_o (As := [.int x22, .int 0]) (rest := [.int x20]) (KO_nearest (l := l) (D := D) (cI := cI) (cZ := cZ) (cC := cC) (cS := cS) (oa := oa) hcr63) hKU hW hS hA ⟨hx, hb, hml, hown, hts⟩ (cwV 2 hts gL_areNear_X4_nearest rfl rfl rfl nd_X4_nearest ⟨Nat.le_of_ble_eq_true rfl, Nat.le_of_ble_eq_true rfl⟩) rfl hl.1 rfl (Nat.le_of_ble_eq_true rfl) dL_areNear_244 ⟨Nat.le_of_ble_eq_true rfl, Nat.le_of_ble_eq_true rfl⟩ (fun H locs hW hS => ?_)
      refine lv_aload_n hx hb dL_areNear_247 rfl (lv_at hl 2 rfl) ?_
      refine lv_iload hx hb dL_areNear_248 (lv_at hl 7 rfl) ?_
      refine lv_iconst (v := 1) hx hb dL_areNear_250 (by decide) ?_
      refine lv_isub hx hb dL_areNear_251 ?_
      refine lv_iconst (v := 0) hx hb dL_areNear_252 (by decide) ?_
      obtain ⟨r64, hcr64, hsp⟩ := clE hsp
      refine call_o (As := [.int (x22 - 1), .int 0]) (rest := [.int r63, .int x20]) (KO_nearest (l := l) (D := D) (cI := cI) (cZ := cZ) (cC := cC) (cS := cS) (oa := oa) hcr64) hKU hW hS hA ⟨hx, hb, hml, hown, hts⟩ (cwV 2 hts gL_areNear_X4_nearest rfl rfl rfl nd_X4_nearest ⟨Nat.le_of_ble_eq_true rfl, Nat.le_of_ble_eq_true rfl⟩) rfl hl.1 rfl (Nat.le_of_ble_eq_true rfl) dL_areNear_253 ⟨Nat.le_of_ble_eq_true rfl, Nat.le_of_ble_eq_true rfl⟩ (fun H locs hW hS => ?_)
      refine lv_icmp_eq (tgt := 263) hx hb dL_areNear_256 (by decide) (fun c65 => ?_) (fun c65 => ?_)
      · have hsp := itT hsp c65
        refine lv_iconst (v := 0) hx hb dL_areNear_263 (by decide) ?_
        refine lv_iadd hx hb dL_areNear_264 ?_
        obtain ⟨x66, ex66, hsp⟩ := nmE hsp
        refine r_top ex66 ?_
        refine lv_istore_n (lv' := [(2, .int x66), (1, .int x49), (9, .int r46), (0, .ref oa), (3, .int x21), (4, .int 1), (5, .int 1), (6, .int x22)]) hx hb dL_areNear_265 rfl hl (by decide) rfl (fun ls hl => ?_)
        refine lv_iload_n hx hb dL_areNear_266 rfl (lv_at hl 4 rfl) ?_
        refine lv_iload hx hb dL_areNear_267 (lv_at hl 7 rfl) ?_
        refine lv_if_le (tgt := 299) hx hb dL_areNear_269 (by decide) (fun c67 => ?_) (fun c67 => ?_)
        · have hsp := itT hsp c67
          refine lv_iconst (v := 0) hx hb dL_areNear_299 (by decide) ?_
          refine lv_iadd hx hb dL_areNear_300 ?_
          obtain ⟨x68, ex68, hsp⟩ := nmE hsp
          refine r_top ex68 ?_
          refine lv_istore_n (lv' := [(3, .int x68), (2, .int x66), (1, .int x49), (9, .int r46), (0, .ref oa), (4, .int 1), (5, .int 1), (6, .int x22)]) hx hb dL_areNear_301 rfl hl (by decide) rfl (fun ls hl => ?_)
          obtain ⟨x69, ex69, hsp⟩ := nmE hsp
          refine lv_iinc (k := 7) (v := x69) (lv' := [(6, .int x69), (3, .int x68), (2, .int x66), (1, .int x49), (9, .int r46), (0, .ref oa), (4, .int 1), (5, .int 1)]) hx hb dL_areNear_302 hl rfl (by rw [ex69]; rfl) (by decide) rfl (fun ls hl => ?_)
          refine lv_goto (tgt := 67) hx hb dL_areNear_305 (by decide) ?_
          exact ih3 (x49, x66, x68, x69) _ _ hsp hW hS _ (lv_sub hl [5, 3, 2, 1, 6, 7, 0] rfl)
        have hsp := itF hsp c67
        refine lv_aload_n hx hb dL_areNear_272 rfl (lv_at hl 3 rfl) ?_
        refine lv_iload hx hb dL_areNear_273 (lv_at hl 2 rfl) ?_
        refine lv_iconst (v := 0) hx hb dL_areNear_275 (by decide) ?_
        obtain ⟨r70, hcr70, hsp⟩ := clE hsp
        refine call_o (As := [.int r46, .int 0]) (rest := [.int x21]) (KO_nearest (l := l) (D := D) (cI := cI) (cZ := cZ) (cC := cC) (cS := cS) (oa := oa) hcr70) hKU hW hS hA ⟨hx, hb, hml, hown, hts⟩ (cwV 2 hts gL_areNear_X4_nearest rfl rfl rfl nd_X4_nearest ⟨Nat.le_of_ble_eq_true rfl, Nat.le_of_ble_eq_true rfl⟩) rfl hl.1 rfl (Nat.le_of_ble_eq_true rfl) dL_areNear_276 ⟨Nat.le_of_ble_eq_true rfl, Nat.le_of_ble_eq_true rfl⟩ (fun H locs hW hS => ?_)
        refine lv_aload_n hx hb dL_areNear_279 rfl (lv_at hl 3 rfl) ?_
        refine lv_aload_n hx hb dL_areNear_280 rfl (lv_at hl 3 rfl) ?_
        refine lv_iload hx hb dL_areNear_281 (lv_at hl 7 rfl) ?_
        refine lv_iconst (v := 1) hx hb dL_areNear_283 (by decide) ?_
        refine lv_isub hx hb dL_areNear_284 ?_
        obtain ⟨r71, hcr71, hsp⟩ := clE hsp
        refine call_o (As := [.int (x22 - 1)]) (rest := [.ref oa, .int r70, .int x21]) (KO_bestOrder (l := l) (D := D) (cI := cI) (cZ := cZ) (cC := cC) (cS := cS) (oa := oa) hcr71) hKU hW hS hA ⟨hx, hb, hml, hown, hts⟩ (cwV 1 hts gL_areNear_X4_bestOrder rfl rfl rfl nd_X4_bestOrder ⟨Nat.le_of_ble_eq_true rfl, Nat.le_of_ble_eq_true rfl⟩) rfl hl.1 rfl (Nat.le_of_ble_eq_true rfl) dL_areNear_285 ⟨Nat.le_of_ble_eq_true rfl, Nat.le_of_ble_eq_true rfl⟩ (fun H locs hW hS => ?_)
        refine lv_iconst (v := 0) hx hb dL_areNear_288 (by decide) ?_
        obtain ⟨r72, hcr72, hsp⟩ := clE hsp
        refine call_o (As := [.int r71, .int 0]) (rest := [.int r70, .int x21]) (KO_nearest (l := l) (D := D) (cI := cI) (cZ := cZ) (cC := cC) (cS := cS) (oa := oa) hcr72) hKU hW hS hA ⟨hx, hb, hml, hown, hts⟩ (cwV 2 hts gL_areNear_X4_nearest rfl rfl rfl nd_X4_nearest ⟨Nat.le_of_ble_eq_true rfl, Nat.le_of_ble_eq_true rfl⟩) rfl hl.1 rfl (Nat.le_of_ble_eq_true rfl) dL_areNear_289 ⟨Nat.le_of_ble_eq_true rfl, Nat.le_of_ble_eq_true rfl⟩ (fun H locs hW hS => ?_)
        refine lv_icmp_eq (tgt := 299) hx hb dL_areNear_292 (by decide) (fun c73 => ?_) (fun c73 => ?_)
        · have hsp := itT hsp c73
          refine lv_iconst (v := 0) hx hb dL_areNear_299 (by decide) ?_
          refine lv_iadd hx hb dL_areNear_300 ?_
          obtain ⟨x74, ex74, hsp⟩ := nmE hsp
          refine r_top ex74 ?_
          refine lv_istore_n (lv' := [(3, .int x74), (2, .int x66), (1, .int x49), (9, .int r46), (0, .ref oa), (4, .int 1), (5, .int 1), (6, .int x22)]) hx hb dL_areNear_301 rfl hl (by decide) rfl (fun ls hl => ?_)
          obtain ⟨x75, ex75, hsp⟩ := nmE hsp
          refine lv_iinc (k := 7) (v := x75) (lv' := [(6, .int x75), (3, .int x74), (2, .int x66), (1, .int x49), (9, .int r46), (0, .ref oa), (4, .int 1), (5, .int 1)]) hx hb dL_areNear_302 hl rfl (by rw [ex75]; rfl) (by decide) rfl (fun ls hl => ?_)
          refine lv_goto (tgt := 67) hx hb dL_areNear_305 (by decide) ?_
          exact ih3 (x49, x66, x74, x75) _ _ hsp hW hS _ (lv_sub hl [5, 3, 2, 1, 6, 7, 0] rfl)
        have hsp := itF hsp c73
        refine lv_iconst (v := 1) hx hb dL_areNear_295 (by decide) ?_
        refine lv_goto (tgt := 300) hx hb dL_areNear_296 (by decide) ?_
        refine lv_iadd hx hb dL_areNear_300 ?_
        obtain ⟨x76, ex76, hsp⟩ := nmE hsp
        refine r_top ex76 ?_
        refine lv_istore_n (lv' := [(3, .int x76), (2, .int x66), (1, .int x49), (9, .int r46), (0, .ref oa), (4, .int 1), (5, .int 1), (6, .int x22)]) hx hb dL_areNear_301 rfl hl (by decide) rfl (fun ls hl => ?_)
        obtain ⟨x77, ex77, hsp⟩ := nmE hsp
        refine lv_iinc (k := 7) (v := x77) (lv' := [(6, .int x77), (3, .int x76), (2, .int x66), (1, .int x49), (9, .int r46), (0, .ref oa), (4, .int 1), (5, .int 1)]) hx hb dL_areNear_302 hl rfl (by rw [ex77]; rfl) (by decide) rfl (fun ls hl => ?_)
        refine lv_goto (tgt := 67) hx hb dL_areNear_305 (by decide) ?_
        exact ih3 (x49, x66, x76, x77) _ _ hsp hW hS _ (lv_sub hl [5, 3, 2, 1, 6, 7, 0] rfl)
      have hsp := itF hsp c65
      refine lv_iconst (v := 1) hx hb dL_areNear_259 (by decide) ?_
      refine lv_goto (tgt := 264) hx hb dL_areNear_260 (by decide) ?_
      refine lv_iadd hx hb dL_areNear_264 ?_
      obtain ⟨x78, ex78, hsp⟩ := nmE hsp
      refine r_top ex78 ?_
      refine lv_istore_n (lv' := [(2, .int x78), (1, .int x49), (9, .int r46), (0, .ref oa), (3, .int x21), (4, .int 1), (5, .int 1), (6, .int x22)]) hx hb dL_areNear_265 rfl hl (by decide) rfl (fun ls hl => ?_)
      refine lv_iload_n hx hb dL_areNear_266 rfl (lv_at hl 4 rfl) ?_
      refine lv_iload hx hb dL_areNear_267 (lv_at hl 7 rfl) ?_
      refine lv_if_le (tgt := 299) hx hb dL_areNear_269 (by decide) (fun c79 => ?_) (fun c79 => ?_)
      · have hsp := itT hsp c79
        refine lv_iconst (v := 0) hx hb dL_areNear_299 (by decide) ?_
        refine lv_iadd hx hb dL_areNear_300 ?_
        obtain ⟨x80, ex80, hsp⟩ := nmE hsp
        refine r_top ex80 ?_
        refine lv_istore_n (lv' := [(3, .int x80), (2, .int x78), (1, .int x49), (9, .int r46), (0, .ref oa), (4, .int 1), (5, .int 1), (6, .int x22)]) hx hb dL_areNear_301 rfl hl (by decide) rfl (fun ls hl => ?_)
        obtain ⟨x81, ex81, hsp⟩ := nmE hsp
        refine lv_iinc (k := 7) (v := x81) (lv' := [(6, .int x81), (3, .int x80), (2, .int x78), (1, .int x49), (9, .int r46), (0, .ref oa), (4, .int 1), (5, .int 1)]) hx hb dL_areNear_302 hl rfl (by rw [ex81]; rfl) (by decide) rfl (fun ls hl => ?_)
        refine lv_goto (tgt := 67) hx hb dL_areNear_305 (by decide) ?_
        exact ih3 (x49, x78, x80, x81) _ _ hsp hW hS _ (lv_sub hl [5, 3, 2, 1, 6, 7, 0] rfl)
      have hsp := itF hsp c79
      refine lv_aload_n hx hb dL_areNear_272 rfl (lv_at hl 3 rfl) ?_
      refine lv_iload hx hb dL_areNear_273 (lv_at hl 2 rfl) ?_
      refine lv_iconst (v := 0) hx hb dL_areNear_275 (by decide) ?_
      obtain ⟨r82, hcr82, hsp⟩ := clE hsp
      refine call_o (As := [.int r46, .int 0]) (rest := [.int x21]) (KO_nearest (l := l) (D := D) (cI := cI) (cZ := cZ) (cC := cC) (cS := cS) (oa := oa) hcr82) hKU hW hS hA ⟨hx, hb, hml, hown, hts⟩ (cwV 2 hts gL_areNear_X4_nearest rfl rfl rfl nd_X4_nearest ⟨Nat.le_of_ble_eq_true rfl, Nat.le_of_ble_eq_true rfl⟩) rfl hl.1 rfl (Nat.le_of_ble_eq_true rfl) dL_areNear_276 ⟨Nat.le_of_ble_eq_true rfl, Nat.le_of_ble_eq_true rfl⟩ (fun H locs hW hS => ?_)
      refine lv_aload_n hx hb dL_areNear_279 rfl (lv_at hl 3 rfl) ?_
      refine lv_aload_n hx hb dL_areNear_280 rfl (lv_at hl 3 rfl) ?_
      refine lv_iload hx hb dL_areNear_281 (lv_at hl 7 rfl) ?_
      refine lv_iconst (v := 1) hx hb dL_areNear_283 (by decide) ?_
      refine lv_isub hx hb dL_areNear_284 ?_
      obtain ⟨r83, hcr83, hsp⟩ := clE hsp
      refine call_o (As := [.int (x22 - 1)]) (rest := [.ref oa, .int r82, .int x21]) (KO_bestOrder (l := l) (D := D) (cI := cI) (cZ := cZ) (cC := cC) (cS := cS) (oa := oa) hcr83) hKU hW hS hA ⟨hx, hb, hml, hown, hts⟩ (cwV 1 hts gL_areNear_X4_bestOrder rfl rfl rfl nd_X4_bestOrder ⟨Nat.le_of_ble_eq_true rfl, Nat.le_of_ble_eq_true rfl⟩) rfl hl.1 rfl (Nat.le_of_ble_eq_true rfl) dL_areNear_285 ⟨Nat.le_of_ble_eq_true rfl, Nat.le_of_ble_eq_true rfl⟩ (fun H locs hW hS => ?_)
      refine lv_iconst (v := 0) hx hb dL_areNear_288 (by decide) ?_
      obtain ⟨r84, hcr84, hsp⟩ := clE hsp
      refine call_o (As := [.int r83, .int 0]) (rest := [.int r82, .int x21]) (KO_nearest (l := l) (D := D) (cI := cI) (cZ := cZ) (cC := cC) (cS := cS) (oa := oa) hcr84) hKU hW hS hA ⟨hx, hb, hml, hown, hts⟩ (cwV 2 hts gL_areNear_X4_nearest rfl rfl rfl nd_X4_nearest ⟨Nat.le_of_ble_eq_true rfl, Nat.le_of_ble_eq_true rfl⟩) rfl hl.1 rfl (Nat.le_of_ble_eq_true rfl) dL_areNear_289 ⟨Nat.le_of_ble_eq_true rfl, Nat.le_of_ble_eq_true rfl⟩ (fun H locs hW hS => ?_)
      refine lv_icmp_eq (tgt := 299) hx hb dL_areNear_292 (by decide) (fun c85 => ?_) (fun c85 => ?_)
      · have hsp := itT hsp c85
        refine lv_iconst (v := 0) hx hb dL_areNear_299 (by decide) ?_
        refine lv_iadd hx hb dL_areNear_300 ?_
        obtain ⟨x86, ex86, hsp⟩ := nmE hsp
        refine r_top ex86 ?_
        refine lv_istore_n (lv' := [(3, .int x86), (2, .int x78), (1, .int x49), (9, .int r46), (0, .ref oa), (4, .int 1), (5, .int 1), (6, .int x22)]) hx hb dL_areNear_301 rfl hl (by decide) rfl (fun ls hl => ?_)
        obtain ⟨x87, ex87, hsp⟩ := nmE hsp
        refine lv_iinc (k := 7) (v := x87) (lv' := [(6, .int x87), (3, .int x86), (2, .int x78), (1, .int x49), (9, .int r46), (0, .ref oa), (4, .int 1), (5, .int 1)]) hx hb dL_areNear_302 hl rfl (by rw [ex87]; rfl) (by decide) rfl (fun ls hl => ?_)
        refine lv_goto (tgt := 67) hx hb dL_areNear_305 (by decide) ?_
        exact ih3 (x49, x78, x86, x87) _ _ hsp hW hS _ (lv_sub hl [5, 3, 2, 1, 6, 7, 0] rfl)
      have hsp := itF hsp c85
      refine lv_iconst (v := 1) hx hb dL_areNear_295 (by decide) ?_
      refine lv_goto (tgt := 300) hx hb dL_areNear_296 (by decide) ?_
      refine lv_iadd hx hb dL_areNear_300 ?_
      obtain ⟨x88, ex88, hsp⟩ := nmE hsp
      refine r_top ex88 ?_
      refine lv_istore_n (lv' := [(3, .int x88), (2, .int x78), (1, .int x49), (9, .int r46), (0, .ref oa), (4, .int 1), (5, .int 1), (6, .int x22)]) hx hb dL_areNear_301 rfl hl (by decide) rfl (fun ls hl => ?_)
      obtain ⟨x89, ex89, hsp⟩ := nmE hsp
      refine lv_iinc (k := 7) (v := x89) (lv' := [(6, .int x89), (3, .int x88), (2, .int x78), (1, .int x49), (9, .int r46), (0, .ref oa), (4, .int 1), (5, .int 1)]) hx hb dL_areNear_302 hl rfl (by rw [ex89]; rfl) (by decide) rfl (fun ls hl => ?_)
      refine lv_goto (tgt := 67) hx hb dL_areNear_305 (by decide) ?_
      exact ih3 (x49, x78, x88, x89) _ _ hsp hW hS _ (lv_sub hl [5, 3, 2, 1, 6, 7, 0] rfl)
    have hl := lv_sub hl (l' := [(0, .ref oa), (1, .int x19), (2, .int x20), (3, .int x21), (4, .int 1), (5, .int 1), (6, .int x22), (7, .int r39), (8, .int r40), (9, .int 0)]) [4, 5, 6, 7, 8, 1, 9, 3, 2, 0] rfl
    refine lp_o (F := s_L_areNear_L5 f0 x22 r40 r39 (s_L_areNear_X5 (s_L_areNear_L3 f0 (s_L_areNear_X3 f0) n3) f0 x22 x19 x20 x21)) (PH := fun (tv : Int32) => WD D cI cS A oa (f0)) (L := fun (tv : Int32) => [(0, .ref oa), (1, .int x19), (2, .int x20), (3, .int x21), (4, .int 1), (5, .int 1), (6, .int x22), (7, .int r39), (8, .int r40), (9, .int tv)]) (nL := 10) (res := res) (A := A) (H0 := s.heap) (fun _ => rfl) ?_ 1000 0 _ _ hsp hW hS _ hl
    · intro n5 ih5 tv H locs hsp hW hS ls hl
      obtain ⟨x45, rfl⟩ : ∃ z, z = tv := ⟨_, rfl⟩
      have hsp : s_L_areNear_B5  f0 x22 r40 r39 (s_L_areNear_X5 (s_L_areNear_L3 f0 (s_L_areNear_X3 f0) n3) f0 x22 x19 x20 x21) (s_L_areNear_L5 f0 x22 r40 r39 (s_L_areNear_X5 (s_L_areNear_L3 f0 (s_L_areNear_X3 f0) n3) f0 x22 x19 x20 x21) n5) x45 = some res := hsp
      unfold s_L_areNear_B5 at hsp
      have hW : WD D cI cS A oa f0 H := hW
      have hl : lv_has ls 10 [(0, .ref oa), (1, .int x19), (2, .int x20), (3, .int x21), (4, .int 1), (5, .int 1), (6, .int x22), (7, .int r39), (8, .int r40), (9, .int x45)] := hl
      refine lv_iload hx hb dL_areNear_135 (lv_at hl 9 rfl) ?_
      refine lv_bipush (v := 8) hx hb dL_areNear_137 (by decide) ?_
      refine lv_icmp_ge (tgt := 203) hx hb dL_areNear_139 (by decide) (fun c90 => ?_) (fun c90 => ?_)
      · have hsp := itT hsp c90
        exact hx5 () _ _ hsp hW hS _ (lv_sub hl [0, 1, 2, 3, 4, 5, 6] rfl)
      have hsp := itF hsp c90
      refine lv_iload hx hb dL_areNear_142 (lv_at hl 5 rfl) ?_
      refine lv_if_eq (tgt := 203) hx hb dL_areNear_144 (by decide) (fun hc => absurd hc (by decide)) (fun _ => ?_)
      refine lv_aload_n hx hb dL_areNear_147 rfl (lv_at hl 0 rfl) ?_
      refine lv_iload hx hb dL_areNear_148 (lv_at hl 9 rfl) ?_
      refine lv_iconst (v := 4) hx hb dL_areNear_150 (by decide) ?_
      obtain ⟨r91, hcr91, hsp⟩ := clE hsp
      refine call_o (As := [.int x45, .int 4]) (rest := []) (KO_pot (l := l) (D := D) (cI := cI) (cZ := cZ) (cC := cC) (cS := cS) (oa := oa) hcr91) hKU hW hS hA ⟨hx, hb, hml, hown, hts⟩ (cwV 2 hts gL_areNear_X4_pot rfl rfl rfl nd_X4_pot ⟨Nat.le_of_ble_eq_true rfl, Nat.le_of_ble_eq_true rfl⟩) rfl hl.1 rfl (Nat.le_of_ble_eq_true rfl) dL_areNear_151 ⟨Nat.le_of_ble_eq_true rfl, Nat.le_of_ble_eq_true rfl⟩ (fun H locs hW hS => ?_)
      refine lv_if_eq (tgt := 190) hx hb dL_areNear_154 (by decide) (fun c92 => ?_) (fun c92 => ?_)
      · have hsp := itT hsp c92
        refine lv_iconst (v := 1) hx hb dL_areNear_190 (by decide) ?_
        refine lv_goto (tgt := 195) hx hb dL_areNear_191 (by decide) ?_
        refine lv_istore (lv' := [(5, .int 1), (0, .ref oa), (1, .int x19), (2, .int x20), (3, .int x21), (4, .int 1), (6, .int x22), (7, .int r39), (8, .int r40), (9, .int x45)]) hx hb dL_areNear_195 hl (by decide) rfl (fun ls hl => ?_)
        obtain ⟨x93, ex93, hsp⟩ := nmE hsp
        refine lv_iinc (k := 9) (v := x93) (lv' := [(9, .int x93), (5, .int 1), (0, .ref oa), (1, .int x19), (2, .int x20), (3, .int x21), (4, .int 1), (6, .int x22), (7, .int r39), (8, .int r40)]) hx hb dL_areNear_197 hl rfl (by rw [ex93]; rfl) (by decide) rfl (fun ls hl => ?_)
        refine lv_goto (tgt := 135) hx hb dL_areNear_200 (by decide) ?_
        exact ih5 x93 _ _ hsp hW hS _ (lv_sub hl [2, 3, 4, 5, 6, 1, 7, 8, 9, 0] rfl)
      have hsp := itF hsp c92
      refine lv_aload_n hx hb dL_areNear_157 rfl (lv_at hl 0 rfl) ?_
      refine lv_iload hx hb dL_areNear_158 (lv_at hl 6 rfl) ?_
      refine lv_iload hx hb dL_areNear_160 (lv_at hl 9 rfl) ?_
      obtain ⟨r94, hcr94, hsp⟩ := clE hsp
      refine call_s (x' := f0) (res := r94) (As := [.int x22, .int x45]) (rest := []) (Pz := True) (fun w sz hO => k_L_far l D cI cZ cC cS sz w oa f0 hO x22 x45 r94 hcr94) hKU hW hS hA ⟨hx, hb, hml, hown, hts⟩ (va_cwS 3 hts gL_areNear_L_far rfl rfl rfl nd_L_far.2 ⟨Nat.le_of_ble_eq_true rfl, Nat.le_of_ble_eq_true rfl⟩) rfl hl.1 rfl (Nat.le_of_ble_eq_true rfl) dL_areNear_162 ⟨Nat.le_of_ble_eq_true rfl, Nat.le_of_ble_eq_true rfl⟩ (fun H locs hW hS hzr94 => ?_)
      have hW : WD D cI cS A oa f0 H := hW
      refine lv_iload hx hb dL_areNear_165 (lv_at hl 8 rfl) ?_
      refine lv_icmp_gt (tgt := 190) hx hb dL_areNear_167 (by decide) (fun c95 => ?_) (fun c95 => ?_)
      · have hsp := itT hsp c95
        refine lv_iconst (v := 1) hx hb dL_areNear_190 (by decide) ?_
        refine lv_goto (tgt := 195) hx hb dL_areNear_191 (by decide) ?_
        refine lv_istore (lv' := [(5, .int 1), (0, .ref oa), (1, .int x19), (2, .int x20), (3, .int x21), (4, .int 1), (6, .int x22), (7, .int r39), (8, .int r40), (9, .int x45)]) hx hb dL_areNear_195 hl (by decide) rfl (fun ls hl => ?_)
        obtain ⟨x96, ex96, hsp⟩ := nmE hsp
        refine lv_iinc (k := 9) (v := x96) (lv' := [(9, .int x96), (5, .int 1), (0, .ref oa), (1, .int x19), (2, .int x20), (3, .int x21), (4, .int 1), (6, .int x22), (7, .int r39), (8, .int r40)]) hx hb dL_areNear_197 hl rfl (by rw [ex96]; rfl) (by decide) rfl (fun ls hl => ?_)
        refine lv_goto (tgt := 135) hx hb dL_areNear_200 (by decide) ?_
        exact ih5 x96 _ _ hsp hW hS _ (lv_sub hl [2, 3, 4, 5, 6, 1, 7, 8, 9, 0] rfl)
      have hsp := itF hsp c95
      refine lv_aload_n hx hb dL_areNear_170 rfl (lv_at hl 0 rfl) ?_
      refine lv_iload hx hb dL_areNear_171 (lv_at hl 6 rfl) ?_
      refine lv_iload hx hb dL_areNear_173 (lv_at hl 9 rfl) ?_
      obtain ⟨r97, hcr97, hsp⟩ := clE hsp
      refine call_s (x' := f0) (res := r97) (As := [.int x22, .int x45]) (rest := []) (Pz := True) (fun w sz hO => k_L_far l D cI cZ cC cS sz w oa f0 hO x22 x45 r97 hcr97) hKU hW hS hA ⟨hx, hb, hml, hown, hts⟩ (va_cwS 3 hts gL_areNear_L_far rfl rfl rfl nd_L_far.2 ⟨Nat.le_of_ble_eq_true rfl, Nat.le_of_ble_eq_true rfl⟩) rfl hl.1 rfl (Nat.le_of_ble_eq_true rfl) dL_areNear_175 ⟨Nat.le_of_ble_eq_true rfl, Nat.le_of_ble_eq_true rfl⟩ (fun H locs hW hS hzr97 => ?_)
      have hW : WD D cI cS A oa f0 H := hW
      refine lv_iload hx hb dL_areNear_178 (lv_at hl 8 rfl) ?_
      refine lv_icmp_ne (tgt := 194) hx hb dL_areNear_180 (by decide) (fun c98 => ?_) (fun c98 => ?_)
      · have hsp := itF hsp c98
        cases hsp
      have hsp := itT hsp c98
      refine lv_iload hx hb dL_areNear_183 (lv_at hl 9 rfl) ?_
      refine lv_iload hx hb dL_areNear_185 (lv_at hl 7 rfl) ?_
      refine lv_icmp_lt (tgt := 194) hx hb dL_areNear_187 (by decide) (fun c99 => ?_) (fun c99 => ?_)
      · have hsp := itT hsp c99
        cases hsp
      have hsp := itF hsp c99
      refine lv_iconst (v := 1) hx hb dL_areNear_190 (by decide) ?_
      refine lv_goto (tgt := 195) hx hb dL_areNear_191 (by decide) ?_
      refine lv_istore (lv' := [(5, .int 1), (0, .ref oa), (1, .int x19), (2, .int x20), (3, .int x21), (4, .int 1), (6, .int x22), (7, .int r39), (8, .int r40), (9, .int x45)]) hx hb dL_areNear_195 hl (by decide) rfl (fun ls hl => ?_)
      obtain ⟨x100, ex100, hsp⟩ := nmE hsp
      refine lv_iinc (k := 9) (v := x100) (lv' := [(9, .int x100), (5, .int 1), (0, .ref oa), (1, .int x19), (2, .int x20), (3, .int x21), (4, .int 1), (6, .int x22), (7, .int r39), (8, .int r40)]) hx hb dL_areNear_197 hl rfl (by rw [ex100]; rfl) (by decide) rfl (fun ls hl => ?_)
      refine lv_goto (tgt := 135) hx hb dL_areNear_200 (by decide) ?_
      exact ih5 x100 _ _ hsp hW hS _ (lv_sub hl [2, 3, 4, 5, 6, 1, 7, 8, 9, 0] rfl)
