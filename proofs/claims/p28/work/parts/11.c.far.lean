theorem nd_L_far : yL_far.cls = RL ∧ yL_far.cls ≠ "java/lang/invoke/MethodHandle" ∧ yL_far.cls ≠ "java/lang/invoke/VarHandle" ∧ (parseMethodDescriptor yL_far.desc).map (fun d => d.parameters.length) = some 3 := by decide +kernel
set_option maxHeartbeats 8000000 in
set_option maxRecDepth 100000 in
theorem k_L_far (l : Launch) (D : va_G) (cI cZ cC cS : ClassId) (sz : Nat) (w : va_W) (oa : Nat) (f0 : Ab) (hO : OKW cI cS oa f0 w) (u1 : Int32) (u2 : Int32) (res : Int32) (hsp : s_L_far f0 u1 u2 = some res) : Met l yL_far wsL_far ({ frames := 6, cells := 0, slots := 0, locals := 136 }) (va_Pc [.ref oa, .int u1, .int u2] (PB D cI cZ cC cS w sz)) (va_Qi (fun r (_ : Unit) => r = res ∧ True) (fun _ t => WD D cI cS (va_A w sz) oa f0 t.heap) (va_A w sz)) 0 0 (va_A w sz) := by
  refine Met.ofW (cc := cL_far) (maxL := 3) (ret := (some .int)) (by decide) rfl ?_
  intro p e s m args below meth c s₁ B hml hv
  obtain ⟨rfl, hsz, hP, hD0, hKU⟩ := hv
  have hx := B.exec
  have hb := B.bytes
  have hr := B.returns
  have hts := atoms_spec (ws := wsL_far) B.pre
  have hown : s.vm.findClass RL = some m.cls := findClass_of_methodNamed B.named
  have hlocks := B.notSynchronized
  subst hsz
  have hD := hD0.self (sz := s.heap.size)
  have hAA : ∀ q : Nat, s.heap.size ≤ q → va_A w s.heap.size q := fun q h => Or.inr h
  generalize hAe : va_A w s.heap.size = A at hD hAA ⊢
  have hA : ∀ q : Nat, s.heap.size ≤ q → A q := hAA
  have hW : WD D cI cS A oa f0 s.heap := ⟨w, hO, hP, hD⟩
  generalize hHe : s.heap = H at hW ⊢
  have hS : va_S A s.heap H [] := by rw [hHe]; exact va_S.rf
  have hl := lv_entry ([.ref oa, .int u1, .int u2]) (n := 3) (Nat.le_of_ble_eq_true rfl)
  rw [lg_entry_eq]
  generalize (lg_sl ([.ref oa, .int u1, .int u2]) ++ List.replicate (3 - (lg_sl ([.ref oa, .int u1, .int u2])).length) Slot.unset).toArray = ls at hl ⊢
  have hl : lv_has ls 3 [(0, .ref oa), (1, .int u1), (2, .int u2)] := hl
  unfold s_L_far at hsp
  refine lv_aload_n hx hb dL_far_0 rfl (lv_at hl 0 rfl) ?_
  refine lv_iload_n hx hb dL_far_1 rfl (lv_at hl 2 rfl) ?_
  refine lv_iconst (v := 5) hx hb dL_far_2 (by decide) ?_
  obtain ⟨r1, hcr1, hsp⟩ := clE hsp
  refine call_o (As := [.int u2, .int 5]) (rest := []) (KO_pot (l := l) (D := D) (cI := cI) (cZ := cZ) (cC := cC) (cS := cS) (oa := oa) hcr1) hKU hW hS hA ⟨hx, hb, hml, hown, hts⟩ (cwV 2 hts gL_far_X4_pot rfl rfl rfl nd_X4_pot ⟨Nat.le_of_ble_eq_true rfl, Nat.le_of_ble_eq_true rfl⟩) rfl hl.1 rfl (Nat.le_of_ble_eq_true rfl) dL_far_3 ⟨Nat.le_of_ble_eq_true rfl, Nat.le_of_ble_eq_true rfl⟩ (fun H locs hW hS => ?_)
  refine lv_aload_n hx hb dL_far_6 rfl (lv_at hl 0 rfl) ?_
  refine lv_iload_n hx hb dL_far_7 rfl (lv_at hl 1 rfl) ?_
  refine lv_iconst (v := 0) hx hb dL_far_8 (by decide) ?_
  obtain ⟨r2, hcr2, hsp⟩ := clE hsp
  refine call_o (As := [.int u1, .int 0]) (rest := [.int r1]) (KO_panel (l := l) (D := D) (cI := cI) (cZ := cZ) (cC := cC) (cS := cS) (oa := oa) hcr2) hKU hW hS hA ⟨hx, hb, hml, hown, hts⟩ (cwV 2 hts gL_far_X4_panel rfl rfl rfl nd_X4_panel ⟨Nat.le_of_ble_eq_true rfl, Nat.le_of_ble_eq_true rfl⟩) rfl hl.1 rfl (Nat.le_of_ble_eq_true rfl) dL_far_9 ⟨Nat.le_of_ble_eq_true rfl, Nat.le_of_ble_eq_true rfl⟩ (fun H locs hW hS => ?_)
  obtain ⟨r3, hcr3, hsp⟩ := clE hsp
  refine call_w (va_runS (As := [.int r1, .int r2]) (rest := []) ⟨hx, hb, hml, hown, hts⟩ (k_L_away l D cI cZ cC cS H.size r1 r2 r3 hcr3) (va_cwS 2 hts gL_far_L_away rfl rfl rfl nd_L_away.2 ⟨Nat.le_of_ble_eq_true rfl, Nat.le_of_ble_eq_true rfl⟩) (PB.preS (ws := []) (A := A) hKU P_nil D_nil [] rfl rfl) rfl rfl hl.1 rfl (lv_room (Nat.le_of_ble_eq_true rfl)) dL_far_12 ⟨Nat.le_of_ble_eq_true rfl, Nat.le_of_ble_eq_true rfl⟩) hW hS hA (fun H locs hW hS => ?_)
  refine lv_aload_n hx hb dL_far_15 rfl (lv_at hl 0 rfl) ?_
  refine lv_iload_n hx hb dL_far_16 rfl (lv_at hl 2 rfl) ?_
  refine lv_bipush (v := 6) hx hb dL_far_17 (by decide) ?_
  obtain ⟨r4, hcr4, hsp⟩ := clE hsp
  refine call_o (As := [.int u2, .int 6]) (rest := [.int r3]) (KO_pot (l := l) (D := D) (cI := cI) (cZ := cZ) (cC := cC) (cS := cS) (oa := oa) hcr4) hKU hW hS hA ⟨hx, hb, hml, hown, hts⟩ (cwV 2 hts gL_far_X4_pot rfl rfl rfl nd_X4_pot ⟨Nat.le_of_ble_eq_true rfl, Nat.le_of_ble_eq_true rfl⟩) rfl hl.1 rfl (Nat.le_of_ble_eq_true rfl) dL_far_19 ⟨Nat.le_of_ble_eq_true rfl, Nat.le_of_ble_eq_true rfl⟩ (fun H locs hW hS => ?_)
  refine lv_aload_n hx hb dL_far_22 rfl (lv_at hl 0 rfl) ?_
  refine lv_iload_n hx hb dL_far_23 rfl (lv_at hl 1 rfl) ?_
  refine lv_iconst (v := 1) hx hb dL_far_24 (by decide) ?_
  obtain ⟨r5, hcr5, hsp⟩ := clE hsp
  refine call_o (As := [.int u1, .int 1]) (rest := [.int r4, .int r3]) (KO_panel (l := l) (D := D) (cI := cI) (cZ := cZ) (cC := cC) (cS := cS) (oa := oa) hcr5) hKU hW hS hA ⟨hx, hb, hml, hown, hts⟩ (cwV 2 hts gL_far_X4_panel rfl rfl rfl nd_X4_panel ⟨Nat.le_of_ble_eq_true rfl, Nat.le_of_ble_eq_true rfl⟩) rfl hl.1 rfl (Nat.le_of_ble_eq_true rfl) dL_far_25 ⟨Nat.le_of_ble_eq_true rfl, Nat.le_of_ble_eq_true rfl⟩ (fun H locs hW hS => ?_)
  obtain ⟨r6, hcr6, hsp⟩ := clE hsp
  refine call_w (va_runS (As := [.int r4, .int r5]) (rest := [.int r3]) ⟨hx, hb, hml, hown, hts⟩ (k_L_away l D cI cZ cC cS H.size r4 r5 r6 hcr6) (va_cwS 2 hts gL_far_L_away rfl rfl rfl nd_L_away.2 ⟨Nat.le_of_ble_eq_true rfl, Nat.le_of_ble_eq_true rfl⟩) (PB.preS (ws := []) (A := A) hKU P_nil D_nil [] rfl rfl) rfl rfl hl.1 rfl (lv_room (Nat.le_of_ble_eq_true rfl)) dL_far_28 ⟨Nat.le_of_ble_eq_true rfl, Nat.le_of_ble_eq_true rfl⟩) hW hS hA (fun H locs hW hS => ?_)
  refine lv_iadd hx hb dL_far_31 ?_
  refine lv_aload_n hx hb dL_far_32 rfl (lv_at hl 0 rfl) ?_
  refine lv_iload_n hx hb dL_far_33 rfl (lv_at hl 2 rfl) ?_
  refine lv_bipush (v := 7) hx hb dL_far_34 (by decide) ?_
  obtain ⟨r7, hcr7, hsp⟩ := clE hsp
  refine call_o (As := [.int u2, .int 7]) (rest := [.int (r3 + r6)]) (KO_pot (l := l) (D := D) (cI := cI) (cZ := cZ) (cC := cC) (cS := cS) (oa := oa) hcr7) hKU hW hS hA ⟨hx, hb, hml, hown, hts⟩ (cwV 2 hts gL_far_X4_pot rfl rfl rfl nd_X4_pot ⟨Nat.le_of_ble_eq_true rfl, Nat.le_of_ble_eq_true rfl⟩) rfl hl.1 rfl (Nat.le_of_ble_eq_true rfl) dL_far_36 ⟨Nat.le_of_ble_eq_true rfl, Nat.le_of_ble_eq_true rfl⟩ (fun H locs hW hS => ?_)
  refine lv_aload_n hx hb dL_far_39 rfl (lv_at hl 0 rfl) ?_
  refine lv_iload_n hx hb dL_far_40 rfl (lv_at hl 1 rfl) ?_
  refine lv_iconst (v := 2) hx hb dL_far_41 (by decide) ?_
  obtain ⟨r8, hcr8, hsp⟩ := clE hsp
  refine call_o (As := [.int u1, .int 2]) (rest := [.int r7, .int (r3 + r6)]) (KO_panel (l := l) (D := D) (cI := cI) (cZ := cZ) (cC := cC) (cS := cS) (oa := oa) hcr8) hKU hW hS hA ⟨hx, hb, hml, hown, hts⟩ (cwV 2 hts gL_far_X4_panel rfl rfl rfl nd_X4_panel ⟨Nat.le_of_ble_eq_true rfl, Nat.le_of_ble_eq_true rfl⟩) rfl hl.1 rfl (Nat.le_of_ble_eq_true rfl) dL_far_42 ⟨Nat.le_of_ble_eq_true rfl, Nat.le_of_ble_eq_true rfl⟩ (fun H locs hW hS => ?_)
  obtain ⟨r9, hcr9, hsp⟩ := clE hsp
  refine call_w (va_runS (As := [.int r7, .int r8]) (rest := [.int (r3 + r6)]) ⟨hx, hb, hml, hown, hts⟩ (k_L_away l D cI cZ cC cS H.size r7 r8 r9 hcr9) (va_cwS 2 hts gL_far_L_away rfl rfl rfl nd_L_away.2 ⟨Nat.le_of_ble_eq_true rfl, Nat.le_of_ble_eq_true rfl⟩) (PB.preS (ws := []) (A := A) hKU P_nil D_nil [] rfl rfl) rfl rfl hl.1 rfl (lv_room (Nat.le_of_ble_eq_true rfl)) dL_far_45 ⟨Nat.le_of_ble_eq_true rfl, Nat.le_of_ble_eq_true rfl⟩) hW hS hA (fun H locs hW hS => ?_)
  refine lv_iadd hx hb dL_far_48 ?_
  have hres := Option.some.inj hsp
  subst hres
  exact W.iret (v := (r3 + r6) + r9) hx hb hr (fun t ht _ => ⟨⟨(r3 + r6) + r9, (), rfl, ⟨rfl, trivial⟩, W_at ht hW⟩, hS.F ht⟩) hS.2.2 dL_far_49
