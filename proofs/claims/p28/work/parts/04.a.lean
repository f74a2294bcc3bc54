theorem nd_X2_allDrops : yX2_allDrops.cls = RX2 ∧ yX2_allDrops.cls ≠ "java/lang/invoke/MethodHandle" ∧ yX2_allDrops.cls ≠ "java/lang/invoke/VarHandle" ∧ (parseMethodDescriptor yX2_allDrops.desc).map (fun d => d.parameters.length) = some 1 := by decide +kernel
set_option maxHeartbeats 8000000 in
set_option maxRecDepth 100000 in
theorem k_X2_allDrops (l : Launch) (D : va_G) (cI cZ cC cS : ClassId) (sz : Nat) (a0 a2 : Nat) (w0_0 : Value) (w0_2 : Value) (w0_3 : Value) (w0_4 : Value) (w0_5 : Value) (w0_6 : Value) (w0_7 : Value) (w0_8 : Value) (w0_9 : Value) (w0_10 : Value) (w0_11 : Value) (f2 : Nat → Int32) (u1 : Int32) (res : Int32) (hsp : s_X2_allDrops f2 u1 = some res) : Met l yX2_allDrops wsX2_allDrops ({ frames := 0, cells := 0, slots := 0, locals := 0 }) (va_Pc [.ref a0, .int u1] (PB D cI cZ cC cS [(a0, .inr (2, [w0_0, .ref a2, w0_2, w0_3, w0_4, w0_5, w0_6, w0_7, w0_8, w0_9, w0_10, w0_11])), (a2, .inl (cI, 36, .inl f2))] sz)) (va_Qi (fun r (_ : Unit) => r = res) (fun _ t => va_P D vwCl [(a0, .inr (2, [w0_0, .ref a2, w0_2, w0_3, w0_4, w0_5, w0_6, w0_7, w0_8, w0_9, w0_10, w0_11])), (a2, .inl (cI, 36, .inl f2))] t.heap) (va_A [(a0, .inr (2, [w0_0, .ref a2, w0_2, w0_3, w0_4, w0_5, w0_6, w0_7, w0_8, w0_9, w0_10, w0_11])), (a2, .inl (cI, 36, .inl f2))] sz)) 0 0 (va_A [(a0, .inr (2, [w0_0, .ref a2, w0_2, w0_3, w0_4, w0_5, w0_6, w0_7, w0_8, w0_9, w0_10, w0_11])), (a2, .inl (cI, 36, .inl f2))] sz) := by
  refine Met.ofW (cc := cX2_allDrops) (maxL := 3) (ret := (some .int)) (by decide) rfl ?_
  intro p e s m args below meth c s₁ B hml hv
  obtain ⟨rfl, hsz, hP, hD0, hKU⟩ := hv
  have hx := B.exec
  have hb := B.bytes
  have hr := B.returns
  have hts := atoms_spec (ws := wsX2_allDrops) B.pre
  have hown : s.vm.findClass RX2 = some m.cls := findClass_of_methodNamed B.named
  have hlocks := B.notSynchronized
  have hK := hKU.1
  have hf_19 := hts (.fieldLink RX2 19 "ThinnedPots$Studio" "drops" "[I") (by decide +kernel)
  have hi_X2 : ∀ w ∈ u_ws RX2 TX2 12, w ∈ wsX2_allDrops := by decide +kernel
  subst hsz
  have hD := hD0.self (sz := s.heap.size)
  generalize hAe : va_A [(a0, .inr (2, [w0_0, .ref a2, w0_2, w0_3, w0_4, w0_5, w0_6, w0_7, w0_8, w0_9, w0_10, w0_11])), (a2, .inl (cI, 36, .inl f2))] s.heap.size = A at hD ⊢
  have hA : ∀ q : Nat, s.heap.size ≤ q → A q := fun q h => by rw [← hAe]; exact Or.inr h
  have hP : va_P D vwCl [(a0, .inr (2, [w0_0, .ref a2, w0_2, w0_3, w0_4, w0_5, w0_6, w0_7, w0_8, w0_9, w0_10, w0_11])), (a2, .inl (cI, 36, .inl f2))] s.heap := hP
  generalize hHe : s.heap = H at hP ⊢
  have hS : va_S A s.heap H [] := by rw [hHe]; exact va_S.rf
  have hl := lv_entry ([.ref a0, .int u1]) (n := 3) (Nat.le_of_ble_eq_true rfl)
  rw [lg_entry_eq]
  generalize (lg_sl ([.ref a0, .int u1]) ++ List.replicate (3 - (lg_sl ([.ref a0, .int u1])).length) Slot.unset).toArray = ls at hl ⊢
  have hl : lv_has ls 3 [(0, .ref a0), (1, .int u1)] := hl
  unfold s_X2_allDrops at hsp
  refine lv_iload_n hx hb dX2_allDrops_0 rfl (lv_at hl 1 rfl) ?_
  refine lv_iconst (v := 4) hx hb dX2_allDrops_1 (by decide) ?_
  refine lv_imul hx hb dX2_allDrops_2 ?_
  obtain ⟨x1, ex1, hsp⟩ := nmE hsp
  refine r_top ex1 ?_
  refine lv_istore_n (lv' := [(2, .int x1), (0, .ref a0), (1, .int u1)]) hx hb dX2_allDrops_3 rfl hl (by decide) rfl (fun ls hl => ?_)
  refine lv_iload_n hx hb dX2_allDrops_4 rfl (lv_at hl 0 rfl) ?_
  refine lv_if_lt (tgt := 19) hx hb dX2_allDrops_5 (by decide) (fun c2 => ?_) (fun c2 => ?_)
  · have hsp := itT hsp c2
    refine lv_iconst (v := 0) hx hb dX2_allDrops_19 (by decide) ?_
    have hres := Option.some.inj hsp
    subst hres
    exact W.iret (v := 0) hx hb hr (fun t ht hW => ⟨⟨0, (), rfl, rfl, P_at ht hP⟩, hS.F ht⟩) hS.2.2 dX2_allDrops_20
  have hsp := itF hsp c2
  refine lv_iload_n hx hb dX2_allDrops_8 rfl (lv_at hl 0 rfl) ?_
  refine lv_aload_n hx hb dX2_allDrops_9 rfl (lv_at hl 1 rfl) ?_
  refine va_get (D := D) (ci := 2) (v := .ref a2) (C := RX2) (T := TX2) (N := 12) hx hb hts hi_X2 hown hK hP 0 rfl rfl 1 (by decide) hf_19 (fun _ h9 => h9) rfl dX2_allDrops_10 ?_
  refine va_alen (v := 36) hx hb hK hP 1 0 rfl rfl rfl dX2_allDrops_13 ?_
  refine lv_iconst (v := 4) hx hb dX2_allDrops_14 (by decide) ?_
  refine lv_isub hx hb dX2_allDrops_15 ?_
  refine r_top (v := 32) (by decide) ?_
  refine lv_icmp_le (tgt := 21) hx hb dX2_allDrops_16 (by decide) (fun c3 => ?_) (fun c3 => ?_)
  · have hsp := itT hsp c3
    refine lv_aload_n hx hb dX2_allDrops_21 rfl (lv_at hl 1 rfl) ?_
    refine va_get (D := D) (ci := 2) (v := .ref a2) (C := RX2) (T := TX2) (N := 12) hx hb hts hi_X2 hown hK hP 0 rfl rfl 1 (by decide) hf_19 (fun _ h9 => h9) rfl dX2_allDrops_22 ?_
    refine lv_iload_n hx hb dX2_allDrops_25 rfl (lv_at hl 0 rfl) ?_
    obtain ⟨x4, ex4, hnx4, hsp⟩ := ldE hsp
    refine r_iald hx hb hK hP 1 0 rfl rfl ex4 hnx4 dX2_allDrops_26 ?_
    refine lv_aload_n hx hb dX2_allDrops_27 rfl (lv_at hl 1 rfl) ?_
    refine va_get (D := D) (ci := 2) (v := .ref a2) (C := RX2) (T := TX2) (N := 12) hx hb hts hi_X2 hown hK hP 0 rfl rfl 1 (by decide) hf_19 (fun _ h9 => h9) rfl dX2_allDrops_28 ?_
    refine lv_iload_n hx hb dX2_allDrops_31 rfl (lv_at hl 0 rfl) ?_
    refine lv_iconst (v := 1) hx hb dX2_allDrops_32 (by decide) ?_
    refine lv_iadd hx hb dX2_allDrops_33 ?_
    obtain ⟨x5, ex5, hnx5, hsp⟩ := ldE hsp
    refine r_iald hx hb hK hP 1 0 rfl rfl ex5 hnx5 dX2_allDrops_34 ?_
    refine lv_iadd hx hb dX2_allDrops_35 ?_
    refine lv_aload_n hx hb dX2_allDrops_36 rfl (lv_at hl 1 rfl) ?_
    refine va_get (D := D) (ci := 2) (v := .ref a2) (C := RX2) (T := TX2) (N := 12) hx hb hts hi_X2 hown hK hP 0 rfl rfl 1 (by decide) hf_19 (fun _ h9 => h9) rfl dX2_allDrops_37 ?_
    refine lv_iload_n hx hb dX2_allDrops_40 rfl (lv_at hl 0 rfl) ?_
    refine lv_iconst (v := 2) hx hb dX2_allDrops_41 (by decide) ?_
    refine lv_iadd hx hb dX2_allDrops_42 ?_
    obtain ⟨x6, ex6, hnx6, hsp⟩ := ldE hsp
    refine r_iald hx hb hK hP 1 0 rfl rfl ex6 hnx6 dX2_allDrops_43 ?_
    refine lv_iadd hx hb dX2_allDrops_44 ?_
    refine lv_aload_n hx hb dX2_allDrops_45 rfl (lv_at hl 1 rfl) ?_
    refine va_get (D := D) (ci := 2) (v := .ref a2) (C := RX2) (T := TX2) (N := 12) hx hb hts hi_X2 hown hK hP 0 rfl rfl 1 (by decide) hf_19 (fun _ h9 => h9) rfl dX2_allDrops_46 ?_
    refine lv_iload_n hx hb dX2_allDrops_49 rfl (lv_at hl 0 rfl) ?_
    refine lv_iconst (v := 3) hx hb dX2_allDrops_50 (by decide) ?_
    refine lv_iadd hx hb dX2_allDrops_51 ?_
    obtain ⟨x7, ex7, hnx7, hsp⟩ := ldE hsp
    refine r_iald hx hb hK hP 1 0 rfl rfl ex7 hnx7 dX2_allDrops_52 ?_
    refine lv_iadd hx hb dX2_allDrops_53 ?_
    have hres := Option.some.inj hsp
    subst hres
    exact W.iret (v := ((x4 + x5) + x6) + x7) hx hb hr (fun t ht hW => ⟨⟨((x4 + x5) + x6) + x7, (), rfl, rfl, P_at ht hP⟩, hS.F ht⟩) hS.2.2 dX2_allDrops_54
  have hsp := itF hsp c3
  refine lv_iconst (v := 0) hx hb dX2_allDrops_19 (by decide) ?_
  have hres := Option.some.inj hsp
  subst hres
  exact W.iret (v := 0) hx hb hr (fun t ht hW => ⟨⟨0, (), rfl, rfl, P_at ht hP⟩, hS.F ht⟩) hS.2.2 dX2_allDrops_20

theorem nd_X2_hasPaint : yX2_hasPaint.cls = RX2 ∧ yX2_hasPaint.cls ≠ "java/lang/invoke/MethodHandle" ∧ yX2_hasPaint.cls ≠ "java/lang/invoke/VarHandle" ∧ (parseMethodDescriptor yX2_hasPaint.desc).map (fun d => d.parameters.length) = some 1 := by decide +kernel
set_option maxHeartbeats 8000000 in
set_option maxRecDepth 100000 in
theorem k_X2_hasPaint (l : Launch) (D : va_G) (cI cZ cC cS : ClassId) (sz : Nat) (a0 a2 : Nat) (w0_0 : Value) (w0_2 : Value) (w0_3 : Value) (w0_4 : Value) (w0_5 : Value) (w0_6 : Value) (w0_7 : Value) (w0_8 : Value) (w0_9 : Value) (w0_10 : Value) (w0_11 : Value) (f2 : Nat → Int32) (u1 : Int32) (res : Int32) (hsp : s_X2_hasPaint f2 u1 = some res) : Met l yX2_hasPaint wsX2_hasPaint ({ frames := 1, cells := 0, slots := 0, locals := 22 }) (va_Pc [.ref a0, .int u1] (PB D cI cZ cC cS [(a0, .inr (2, [w0_0, .ref a2, w0_2, w0_3, w0_4, w0_5, w0_6, w0_7, w0_8, w0_9, w0_10, w0_11])), (a2, .inl (cI, 36, .inl f2))] sz)) (va_Qi (fun r (_ : Unit) => r = res ∧ (res = 0 ∨ res = 1)) (fun _ t => va_P D vwCl [(a0, .inr (2, [w0_0, .ref a2, w0_2, w0_3, w0_4, w0_5, w0_6, w0_7, w0_8, w0_9, w0_10, w0_11])), (a2, .inl (cI, 36, .inl f2))] t.heap) (va_A [(a0, .inr (2, [w0_0, .ref a2, w0_2, w0_3, w0_4, w0_5, w0_6, w0_7, w0_8, w0_9, w0_10, w0_11])), (a2, .inl (cI, 36, .inl f2))] sz)) 0 0 (va_A [(a0, .inr (2, [w0_0, .ref a2, w0_2, w0_3, w0_4, w0_5, w0_6, w0_7, w0_8, w0_9, w0_10, w0_11])), (a2, .inl (cI, 36, .inl f2))] sz) := by
  refine Met.ofW (cc := cX2_hasPaint) (maxL := 2) (ret := (some .boolean)) (by decide) rfl ?_
  intro p e s m args below meth c s₁ B hml hv
  obtain ⟨rfl, hsz, hP, hD0, hKU⟩ := hv
  have hx := B.exec
  have hb := B.bytes
  have hr := B.returns
  have hts := atoms_spec (ws := wsX2_hasPaint) B.pre
  have hown : s.vm.findClass RX2 = some m.cls := findClass_of_methodNamed B.named
  have hlocks := B.notSynchronized
  have hK := hKU.1
  subst hsz
  have hD := hD0.self (sz := s.heap.size)
  generalize hAe : va_A [(a0, .inr (2, [w0_0, .ref a2, w0_2, w0_3, w0_4, w0_5, w0_6, w0_7, w0_8, w0_9, w0_10, w0_11])), (a2, .inl (cI, 36, .inl f2))] s.heap.size = A at hD ⊢
  have hA : ∀ q : Nat, s.heap.size ≤ q → A q := fun q h => by rw [← hAe]; exact Or.inr h
  have hP : va_P D vwCl [(a0, .inr (2, [w0_0, .ref a2, w0_2, w0_3, w0_4, w0_5, w0_6, w0_7, w0_8, w0_9, w0_10, w0_11])), (a2, .inl (cI, 36, .inl f2))] s.heap := hP
  generalize hHe : s.heap = H at hP ⊢
  have hS : va_S A s.heap H [] := by rw [hHe]; exact va_S.rf
  have hl := lv_entry ([.ref a0, .int u1]) (n := 2) (Nat.le_of_ble_eq_true rfl)
  rw [lg_entry_eq]
  generalize (lg_sl ([.ref a0, .int u1]) ++ List.replicate (2 - (lg_sl ([.ref a0, .int u1])).length) Slot.unset).toArray = ls at hl ⊢
  have hl : lv_has ls 2 [(0, .ref a0), (1, .int u1)] := hl
  unfold s_X2_hasPaint at hsp
  refine lv_aload_n hx hb dX2_hasPaint_0 rfl (lv_at hl 0 rfl) ?_
  refine lv_iload_n hx hb dX2_hasPaint_1 rfl (lv_at hl 1 rfl) ?_
  obtain ⟨r1, hcr1, hsp⟩ := clE hsp
  refine call_i (w1 := [(a0, .inr (2, [w0_0, .ref a2, w0_2, w0_3, w0_4, w0_5, w0_6, w0_7, w0_8, w0_9, w0_10, w0_11])), (a2, .inl (cI, 36, .inl f2))]) (ws' := [(a0, .inr (2, [w0_0, .ref a2, w0_2, w0_3, w0_4, w0_5, w0_6, w0_7, w0_8, w0_9, w0_10, w0_11])), (a2, .inl (cI, 36, .inl f2))]) (va_runV (As := [.int u1]) (rest := []) ⟨hx, hb, hml, hown, hts⟩ (k_X2_allDrops l D cI cZ cC cS H.size a0 a2 (w0_0) (w0_2) (w0_3) (w0_4) (w0_5) (w0_6) (w0_7) (w0_8) (w0_9) (w0_10) (w0_11) f2 u1 r1 hcr1) (cwV 1 hts gX2_hasPaint_X2_allDrops rfl rfl rfl nd_X2_allDrops ⟨Nat.le_of_ble_eq_true rfl, Nat.le_of_ble_eq_true rfl⟩) (PB.preV (ci := 2) (q0 := 0) hKU hP hD [0, 1] rfl rfl rfl rfl) rfl rfl hl.1 rfl (lv_room (Nat.le_of_ble_eq_true rfl)) dX2_hasPaint_2 ⟨Nat.zero_le _, Nat.zero_le _⟩) hS hP hD hA [0, 1] rfl rfl (by first | (simp only [wset, List.set_cons_zero, List.set_cons_succ]; done) | rfl) rfl (fun H locs hP hD hS => ?_)
  refine lv_if_le (tgt := 12) hx hb dX2_hasPaint_5 (by decide) (fun c2 => ?_) (fun c2 => ?_)
  · have hsp := itT hsp c2
    refine lv_iconst (v := 0) hx hb dX2_hasPaint_12 (by decide) ?_
    have hres := Option.some.inj hsp
    subst hres
    exact W.zret (v := 0) hx hb hr (zE (Or.inl rfl)) (fun t ht hW => ⟨⟨0, (), rfl, ⟨rfl, (Or.inl rfl)⟩, P_at ht hP⟩, hS.F ht⟩) hS.2.2 dX2_hasPaint_13
  have hsp := itF hsp c2
  refine lv_iconst (v := 1) hx hb dX2_hasPaint_8 (by decide) ?_
  refine lv_goto (tgt := 13) hx hb dX2_hasPaint_9 (by decide) ?_
  have hres := Option.some.inj hsp
  subst hres
  exact W.zret (v := 1) hx hb hr (zE (Or.inr rfl)) (fun t ht hW => ⟨⟨1, (), rfl, ⟨rfl, (Or.inr rfl)⟩, P_at ht hP⟩, hS.F ht⟩) hS.2.2 dX2_hasPaint_13

theorem nd_X4_at : yX4_at.cls = RX4 ∧ yX4_at.cls ≠ "java/lang/invoke/MethodHandle" ∧ yX4_at.cls ≠ "java/lang/invoke/VarHandle" ∧ (parseMethodDescriptor yX4_at.desc).map (fun d => d.parameters.length) = some 2 := by decide +kernel
set_option maxHeartbeats 8000000 in
set_option maxRecDepth 100000 in
theorem k_X4_at (l : Launch) (D : va_G) (cI cZ cC cS : ClassId) (sz : Nat) (a0 : Nat) (n0 : Nat) (f0 : Nat → Int32) (u1 : Int32) (res : Int32) (hsp : s_X4_at n0 f0 u1 = some res) : Met l yX4_at wsX4_at ({ frames := 0, cells := 0, slots := 0, locals := 0 }) (va_Pc [.ref a0, .int u1] (PB D cI cZ cC cS [(a0, .inl (cI, n0, .inl f0))] sz)) (va_Qi (fun r (_ : Unit) => r = res) (fun _ t => va_P D vwCl [(a0, .inl (cI, n0, .inl f0))] t.heap) (va_A [(a0, .inl (cI, n0, .inl f0))] sz)) 0 0 (va_A [(a0, .inl (cI, n0, .inl f0))] sz) := by
  refine Met.ofW (cc := cX4_at) (maxL := 2) (ret := (some .int)) (by decide) rfl ?_
  intro p e s m args below meth c s₁ B hml hv
  obtain ⟨rfl, hsz, hP, hD0, hKU⟩ := hv
  have hx := B.exec
  have hb := B.bytes
  have hr := B.returns
  have hts := atoms_spec (ws := wsX4_at) B.pre
  have hown : s.vm.findClass RX4 = some m.cls := findClass_of_methodNamed B.named
  have hlocks := B.notSynchronized
  have hK := hKU.1
  subst hsz
  have hD := hD0.self (sz := s.heap.size)
  generalize hAe : va_A [(a0, .inl (cI, n0, .inl f0))] s.heap.size = A at hD ⊢
  have hA : ∀ q : Nat, s.heap.size ≤ q → A q := fun q h => by rw [← hAe]; exact Or.inr h
  have hP : va_P D vwCl [(a0, .inl (cI, n0, .inl f0))] s.heap := hP
  generalize hHe : s.heap = H at hP ⊢
  have hS : va_S A s.heap H [] := by rw [hHe]; exact va_S.rf
  have hl := lv_entry ([.ref a0, .int u1]) (n := 2) (Nat.le_of_ble_eq_true rfl)
  rw [lg_entry_eq]
  generalize (lg_sl ([.ref a0, .int u1]) ++ List.replicate (2 - (lg_sl ([.ref a0, .int u1])).length) Slot.unset).toArray = ls at hl ⊢
  have hl : lv_has ls 2 [(0, .ref a0), (1, .int u1)] := hl
  unfold s_X4_at at hsp
  refine lv_aload_n hx hb dX4_at_0 rfl (lv_at hl 0 rfl) ?_
  refine lv_ifnull hx hb dX4_at_1 ?_
  refine lv_iload_n hx hb dX4_at_4 rfl (lv_at hl 1 rfl) ?_
  refine lv_if_lt (tgt := 14) hx hb dX4_at_5 (by decide) (fun c1 => ?_) (fun c1 => ?_)
  · have hsp := itT hsp c1
    refine lv_iconst (v := 0) hx hb dX4_at_14 (by decide) ?_
    have hres := Option.some.inj hsp
    subst hres
    exact W.iret (v := 0) hx hb hr (fun t ht hW => ⟨⟨0, (), rfl, rfl, P_at ht hP⟩, hS.F ht⟩) hS.2.2 dX4_at_15
  have hsp := itF hsp c1
  refine lv_iload_n hx hb dX4_at_8 rfl (lv_at hl 1 rfl) ?_
  refine lv_aload_n hx hb dX4_at_9 rfl (lv_at hl 0 rfl) ?_
  refine va_alen (v := Int32.ofNat n0) hx hb hK hP 0 0 rfl rfl rfl dX4_at_10 ?_
  refine lv_icmp_lt (tgt := 16) hx hb dX4_at_11 (by decide) (fun c2 => ?_) (fun c2 => ?_)
  · have hsp := itT hsp c2
    refine lv_aload_n hx hb dX4_at_16 rfl (lv_at hl 0 rfl) ?_
    refine lv_iload_n hx hb dX4_at_17 rfl (lv_at hl 1 rfl) ?_
    obtain ⟨x3, ex3, hnx3, hsp⟩ := ldE hsp
    refine r_iald hx hb hK hP 0 0 rfl rfl ex3 hnx3 dX4_at_18 ?_
    have hres := Option.some.inj hsp
    subst hres
    exact W.iret (v := x3) hx hb hr (fun t ht hW => ⟨⟨x3, (), rfl, rfl, P_at ht hP⟩, hS.F ht⟩) hS.2.2 dX4_at_19
  have hsp := itF hsp c2
  refine lv_iconst (v := 0) hx hb dX4_at_14 (by decide) ?_
  have hres := Option.some.inj hsp
  subst hres
  exact W.iret (v := 0) hx hb hr (fun t ht hW => ⟨⟨0, (), rfl, rfl, P_at ht hP⟩, hS.F ht⟩) hS.2.2 dX4_at_15

theorem nd_X4_divide : yX4_divide.cls = RX4 ∧ yX4_divide.cls ≠ "java/lang/invoke/MethodHandle" ∧ yX4_divide.cls ≠ "java/lang/invoke/VarHandle" ∧ (parseMethodDescriptor yX4_divide.desc).map (fun d => d.parameters.length) = some 2 := by decide +kernel
set_option maxHeartbeats 8000000 in
set_option maxRecDepth 100000 in
theorem k_X4_divide (l : Launch) (D : va_G) (cI cZ cC cS : ClassId) (sz : Nat) (u0 : Int32) (u1 : Int32) (res : Int32) (hsp : s_X4_divide u0 u1 = some res) : Met l yX4_divide wsX4_divide ({ frames := 0, cells := 0, slots := 0, locals := 0 }) (va_Pc [.int u0, .int u1] (PB D cI cZ cC cS [] sz)) (va_Qi (fun r (_ : Unit) => r = res) (fun _ t => va_P D vwCl [] t.heap) (va_A [] sz)) 0 0 (va_A [] sz) := by
  refine Met.ofW (cc := cX4_divide) (maxL := 2) (ret := (some .int)) (by decide) rfl ?_
  intro p e s m args below meth c s₁ B hml hv
  obtain ⟨rfl, hsz, hP, hD0, hKU⟩ := hv
  have hx := B.exec
  have hb := B.bytes
  have hr := B.returns
  have hts := atoms_spec (ws := wsX4_divide) B.pre
  have hown : s.vm.findClass RX4 = some m.cls := findClass_of_methodNamed B.named
  have hlocks := B.notSynchronized
  have hK := hKU.1
  subst hsz
  have hD := hD0.self (sz := s.heap.size)
  generalize hAe : va_A [] s.heap.size = A at hD ⊢
  have hA : ∀ q : Nat, s.heap.size ≤ q → A q := fun q h => by rw [← hAe]; exact Or.inr h
  have hP : va_P D vwCl [] s.heap := hP
  generalize hHe : s.heap = H at hP ⊢
  have hS : va_S A s.heap H [] := by rw [hHe]; exact va_S.rf
  have hl := lv_entry ([.int u0, .int u1]) (n := 2) (Nat.le_of_ble_eq_true rfl)
  rw [lg_entry_eq]
  generalize (lg_sl ([.int u0, .int u1]) ++ List.replicate (2 - (lg_sl ([.int u0, .int u1])).length) Slot.unset).toArray = ls at hl ⊢
  have hl : lv_has ls 2 [(0, .int u0), (1, .int u1)] := hl
  unfold s_X4_divide at hsp
  refine lv_iload_n hx hb dX4_divide_0 rfl (lv_at hl 1 rfl) ?_
  refine lv_if_gt (tgt := 8) hx hb dX4_divide_1 (by decide) (fun c1 => ?_) (fun c1 => ?_)
  · have hsp := itT hsp c1
    refine lv_iload_n hx hb dX4_divide_8 rfl (lv_at hl 0 rfl) ?_
    refine lv_iload_n hx hb dX4_divide_9 rfl (lv_at hl 1 rfl) ?_
    obtain ⟨x2, ex2, hnx2, hsp⟩ := dvE hsp
    refine lv_idiv hx hb dX4_divide_10 hnx2 ?_
    refine r_top ex2 ?_
    have hres := Option.some.inj hsp
    subst hres
    exact W.iret (v := x2) hx hb hr (fun t ht hW => ⟨⟨x2, (), rfl, rfl, P_at ht hP⟩, hS.F ht⟩) hS.2.2 dX4_divide_11
  have hsp := itF hsp c1
  refine lv_iconst (v := 0) hx hb dX4_divide_4 (by decide) ?_
  refine lv_goto (tgt := 11) hx hb dX4_divide_5 (by decide) ?_
  have hres := Option.some.inj hsp
  subst hres
  exact W.iret (v := 0) hx hb hr (fun t ht hW => ⟨⟨0, (), rfl, rfl, P_at ht hP⟩, hS.F ht⟩) hS.2.2 dX4_divide_11

theorem nd_X2_strength : yX2_strength.cls = RX2 ∧ yX2_strength.cls ≠ "java/lang/invoke/MethodHandle" ∧ yX2_strength.cls ≠ "java/lang/invoke/VarHandle" ∧ (parseMethodDescriptor yX2_strength.desc).map (fun d => d.parameters.length) = some 2 := by decide +kernel
set_option maxHeartbeats 8000000 in
set_option maxRecDepth 100000 in
theorem k_X2_strength (l : Launch) (D : va_G) (cI cZ cC cS : ClassId) (sz : Nat) (a0 a2 : Nat) (w0_0 : Value) (w0_2 : Value) (w0_3 : Value) (w0_4 : Value) (w0_5 : Value) (w0_6 : Value) (w0_7 : Value) (w0_8 : Value) (w0_9 : Value) (w0_10 : Value) (w0_11 : Value) (f2 : Nat → Int32) (u1 : Int32) (u2 : Int32) (res : Int32) (hsp : s_X2_strength f2 u1 u2 = some res) : Met l yX2_strength wsX2_strength ({ frames := 1, cells := 0, slots := 0, locals := 22 }) (va_Pc [.ref a0, .int u1, .int u2] (PB D cI cZ cC cS [(a0, .inr (2, [w0_0, .ref a2, w0_2, w0_3, w0_4, w0_5, w0_6, w0_7, w0_8, w0_9, w0_10, w0_11])), (a2, .inl (cI, 36, .inl f2))] sz)) (va_Qi (fun r (_ : Unit) => r = res) (fun _ t => va_P D vwCl [(a0, .inr (2, [w0_0, .ref a2, w0_2, w0_3, w0_4, w0_5, w0_6, w0_7, w0_8, w0_9, w0_10, w0_11])), (a2, .inl (cI, 36, .inl f2))] t.heap) (va_A [(a0, .inr (2, [w0_0, .ref a2, w0_2, w0_3, w0_4, w0_5, w0_6, w0_7, w0_8, w0_9, w0_10, w0_11])), (a2, .inl (cI, 36, .inl f2))] sz)) 0 0 (va_A [(a0, .inr (2, [w0_0, .ref a2, w0_2, w0_3, w0_4, w0_5, w0_6, w0_7, w0_8, w0_9, w0_10, w0_11])), (a2, .inl (cI, 36, .inl f2))] sz) := by
  refine Met.ofW (cc := cX2_strength) (maxL := 3) (ret := (some .int)) (by decide) rfl ?_
  intro p e s m args below meth c s₁ B hml hv
  obtain ⟨rfl, hsz, hP, hD0, hKU⟩ := hv
  have hx := B.exec
  have hb := B.bytes
  have hr := B.returns
  have hts := atoms_spec (ws := wsX2_strength) B.pre
  have hown : s.vm.findClass RX2 = some m.cls := findClass_of_methodNamed B.named
  have hlocks := B.notSynchronized
  have hK := hKU.1
  have hf_19 := hts (.fieldLink RX2 19 "ThinnedPots$Studio" "drops" "[I") (by decide +kernel)
  have hi_X2 : ∀ w ∈ u_ws RX2 TX2 12, w ∈ wsX2_strength := by decide +kernel
  have hst_X4_at := hts (.static yX4_at) (by decide +kernel)
  have hin_X4 := hts (.initialized RX4) (by decide +kernel)
  have hst_X4_divide := hts (.static yX4_divide) (by decide +kernel)
  subst hsz
  have hD := hD0.self (sz := s.heap.size)
  generalize hAe : va_A [(a0, .inr (2, [w0_0, .ref a2, w0_2, w0_3, w0_4, w0_5, w0_6, w0_7, w0_8, w0_9, w0_10, w0_11])), (a2, .inl (cI, 36, .inl f2))] s.heap.size = A at hD ⊢
  have hA : ∀ q : Nat, s.heap.size ≤ q → A q := fun q h => by rw [← hAe]; exact Or.inr h
  have hP : va_P D vwCl [(a0, .inr (2, [w0_0, .ref a2, w0_2, w0_3, w0_4, w0_5, w0_6, w0_7, w0_8, w0_9, w0_10, w0_11])), (a2, .inl (cI, 36, .inl f2))] s.heap := hP
  generalize hHe : s.heap = H at hP ⊢
  have hS : va_S A s.heap H [] := by rw [hHe]; exact va_S.rf
  have hl := lv_entry ([.ref a0, .int u1, .int u2]) (n := 3) (Nat.le_of_ble_eq_true rfl)
  rw [lg_entry_eq]
  generalize (lg_sl ([.ref a0, .int u1, .int u2]) ++ List.replicate (3 - (lg_sl ([.ref a0, .int u1, .int u2])).length) Slot.unset).toArray = ls at hl ⊢
  have hl : lv_has ls 3 [(0, .ref a0), (1, .int u1), (2, .int u2)] := hl
  unfold s_X2_strength at hsp
  refine lv_bipush (v := 100) hx hb dX2_strength_0 (by decide) ?_
  refine lv_aload_n hx hb dX2_strength_2 rfl (lv_at hl 0 rfl) ?_
  refine va_get (D := D) (ci := 2) (v := .ref a2) (C := RX2) (T := TX2) (N := 12) hx hb hts hi_X2 hown hK hP 0 rfl rfl 1 (by decide) hf_19 (fun _ h9 => h9) rfl dX2_strength_3 ?_
  refine lv_iload_n hx hb dX2_strength_6 rfl (lv_at hl 1 rfl) ?_
  refine lv_iconst (v := 4) hx hb dX2_strength_7 (by decide) ?_
  refine lv_imul hx hb dX2_strength_8 ?_
  refine lv_iload_n hx hb dX2_strength_9 rfl (lv_at hl 2 rfl) ?_
  refine lv_iadd hx hb dX2_strength_10 ?_
  obtain ⟨r1, hcr1, hsp⟩ := clE hsp
  refine call_i (w1 := [(a2, .inl (cI, 36, .inl f2))]) (ws' := [(a0, .inr (2, [w0_0, .ref a2, w0_2, w0_3, w0_4, w0_5, w0_6, w0_7, w0_8, w0_9, w0_10, w0_11])), (a2, .inl (cI, 36, .inl f2))]) (va_runSN (As := [.ref a2, .int ((u1 * 4) + u2)]) (rest := [.int 100]) ⟨hx, hb, hml, hown, hts⟩ (k_X4_at l D cI cZ cC cS H.size a2 36 f2 ((u1 * 4) + u2) r1 hcr1) ⟨va_cnB 2 hts gX2_strength_X4_at_n61 rfl rfl rfl (mn_Studio_61 hKU.2.2) hin_X4 nd_X4_at.2 ⟨Nat.le_of_ble_eq_true rfl, Nat.le_of_ble_eq_true rfl⟩, hst_X4_at, trivial⟩ (PB.preS hKU hP hD [1] rfl rfl) rfl rfl hl.1 rfl (lv_room (Nat.le_of_ble_eq_true rfl)) dX2_strength_11 ⟨Nat.zero_le _, Nat.zero_le _⟩) hS hP hD hA [1] rfl rfl (by first | (simp only [wset, List.set_cons_zero, List.set_cons_succ]; done) | rfl) rfl (fun H locs hP hD hS => ?_)
  refine lv_imul hx hb dX2_strength_14 ?_
  refine lv_aload_n hx hb dX2_strength_15 rfl (lv_at hl 0 rfl) ?_
  refine lv_iload_n hx hb dX2_strength_16 rfl (lv_at hl 1 rfl) ?_
  obtain ⟨r2, hcr2, hsp⟩ := clE hsp
  refine call_i (w1 := [(a0, .inr (2, [w0_0, .ref a2, w0_2, w0_3, w0_4, w0_5, w0_6, w0_7, w0_8, w0_9, w0_10, w0_11])), (a2, .inl (cI, 36, .inl f2))]) (ws' := [(a0, .inr (2, [w0_0, .ref a2, w0_2, w0_3, w0_4, w0_5, w0_6, w0_7, w0_8, w0_9, w0_10, w0_11])), (a2, .inl (cI, 36, .inl f2))]) (va_runV (As := [.int u1]) (rest := [.int (100 * r1)]) ⟨hx, hb, hml, hown, hts⟩ (k_X2_allDrops l D cI cZ cC cS H.size a0 a2 (w0_0) (w0_2) (w0_3) (w0_4) (w0_5) (w0_6) (w0_7) (w0_8) (w0_9) (w0_10) (w0_11) f2 u1 r2 hcr2) (cwV 1 hts gX2_strength_X2_allDrops rfl rfl rfl nd_X2_allDrops ⟨Nat.le_of_ble_eq_true rfl, Nat.le_of_ble_eq_true rfl⟩) (PB.preV (ci := 2) (q0 := 0) hKU hP hD [0, 1] rfl rfl rfl rfl) rfl rfl hl.1 rfl (lv_room (Nat.le_of_ble_eq_true rfl)) dX2_strength_17 ⟨Nat.zero_le _, Nat.zero_le _⟩) hS hP hD hA [0, 1] rfl rfl (by first | (simp only [wset, List.set_cons_zero, List.set_cons_succ]; done) | rfl) rfl (fun H locs hP hD hS => ?_)
  obtain ⟨r3, hcr3, hsp⟩ := clE hsp
  refine call_i (w1 := []) (ws' := [(a0, .inr (2, [w0_0, .ref a2, w0_2, w0_3, w0_4, w0_5, w0_6, w0_7, w0_8, w0_9, w0_10, w0_11])), (a2, .inl (cI, 36, .inl f2))]) (va_runSN (As := [.int (100 * r1), .int r2]) (rest := []) ⟨hx, hb, hml, hown, hts⟩ (k_X4_divide l D cI cZ cC cS H.size (100 * r1) r2 r3 hcr3) ⟨va_cnB 2 hts gX2_strength_X4_divide_n131 rfl rfl rfl (mn_Studio_131 hKU.2.2) hin_X4 nd_X4_divide.2 ⟨Nat.le_of_ble_eq_true rfl, Nat.le_of_ble_eq_true rfl⟩, hst_X4_divide, trivial⟩ (PB.preS hKU hP hD [] rfl rfl) rfl rfl hl.1 rfl (lv_room (Nat.le_of_ble_eq_true rfl)) dX2_strength_20 ⟨Nat.zero_le _, Nat.zero_le _⟩) hS hP hD hA [] rfl rfl (by first | (simp only [wset, List.set_cons_zero, List.set_cons_succ]; done) | rfl) rfl (fun H locs hP hD hS => ?_)
  have hres := Option.some.inj hsp
  subst hres
  exact W.iret (v := r3) hx hb hr (fun t ht hW => ⟨⟨r3, (), rfl, rfl, P_at ht hP⟩, hS.F ht⟩) hS.2.2 dX2_strength_23

theorem nd_X2_distance : yX2_distance.cls = RX2 ∧ yX2_distance.cls ≠ "java/lang/invoke/MethodHandle" ∧ yX2_distance.cls ≠ "java/lang/invoke/VarHandle" ∧ (parseMethodDescriptor yX2_distance.desc).map (fun d => d.parameters.length) = some 4 := by decide +kernel
set_option maxHeartbeats 8000000 in
set_option maxRecDepth 100000 in
theorem k_X2_distance (l : Launch) (D : va_G) (cI cZ cC cS : ClassId) (sz : Nat) (a0 a4 : Nat) (w0_0 : Value) (w0_1 : Value) (w0_2 : Value) (w0_4 : Value) (w0_5 : Value) (w0_6 : Value) (w0_7 : Value) (w0_8 : Value) (w0_9 : Value) (w0_10 : Value) (w0_11 : Value) (f4 : Nat → Int32) (u1 : Int32) (u2 : Int32) (u3 : Int32) (u4 : Int32) (res : Int32) (hsp : s_X2_distance f4 u1 u2 u3 u4 = some res) : Met l yX2_distance wsX2_distance ({ frames := 1, cells := 0, slots := 0, locals := 24 }) (va_Pc [.ref a0, .int u1, .int u2, .int u3, .int u4] (PB D cI cZ cC cS [(a0, .inr (2, [w0_0, w0_1, w0_2, .ref a4, w0_4, w0_5, w0_6, w0_7, w0_8, w0_9, w0_10, w0_11])), (a4, .inl (cI, 18, .inl f4))] sz)) (va_Qi (fun r (_ : Unit) => r = res) (fun _ t => va_P D vwCl [(a0, .inr (2, [w0_0, w0_1, w0_2, .ref a4, w0_4, w0_5, w0_6, w0_7, w0_8, w0_9, w0_10, w0_11])), (a4, .inl (cI, 18, .inl f4))] t.heap) (va_A [(a0, .inr (2, [w0_0, w0_1, w0_2, .ref a4, w0_4, w0_5, w0_6, w0_7, w0_8, w0_9, w0_10, w0_11])), (a4, .inl (cI, 18, .inl f4))] sz)) 0 0 (va_A [(a0, .inr (2, [w0_0, w0_1, w0_2, .ref a4, w0_4, w0_5, w0_6, w0_7, w0_8, w0_9, w0_10, w0_11])), (a4, .inl (cI, 18, .inl f4))] sz) := by
  refine Met.ofW (cc := cX2_distance) (maxL := 6) (ret := (some .int)) (by decide) rfl ?_
  intro p e s m args below meth c s₁ B hml hv
  obtain ⟨rfl, hsz, hP, hD0, hKU⟩ := hv
  have hx := B.exec
  have hb := B.bytes
  have hr := B.returns
  have hts := atoms_spec (ws := wsX2_distance) B.pre
  have hown : s.vm.findClass RX2 = some m.cls := findClass_of_methodNamed B.named
  have hlocks := B.notSynchronized
  have hK := hKU.1
  have hf_25 := hts (.fieldLink RX2 25 "ThinnedPots$Studio" "wanted" "[I") (by decide +kernel)
  have hi_X2 : ∀ w ∈ u_ws RX2 TX2 12, w ∈ wsX2_distance := by decide +kernel
  have hst_X4_at := hts (.static yX4_at) (by decide +kernel)
  have hin_X4 := hts (.initialized RX4) (by decide +kernel)
  have hm_l126 := hts (.methodLink RX2 126 Lib.Math.abs.name) (by decide +kernel)
  have hm_s_abs := hts (.static Lib.Math.abs.name) (by decide +kernel)
  have hm_i := hts (.initialized "java/lang/Math") (by decide +kernel)
  have hm_c_abs := hts (.code Lib.Math.abs.name Lib.Math.abs.code 1 (some .int)) (by decide +kernel)
  subst hsz
  have hD := hD0.self (sz := s.heap.size)
  generalize hAe : va_A [(a0, .inr (2, [w0_0, w0_1, w0_2, .ref a4, w0_4, w0_5, w0_6, w0_7, w0_8, w0_9, w0_10, w0_11])), (a4, .inl (cI, 18, .inl f4))] s.heap.size = A at hD ⊢
  have hA : ∀ q : Nat, s.heap.size ≤ q → A q := fun q h => by rw [← hAe]; exact Or.inr h
  have hP : va_P D vwCl [(a0, .inr (2, [w0_0, w0_1, w0_2, .ref a4, w0_4, w0_5, w0_6, w0_7, w0_8, w0_9, w0_10, w0_11])), (a4, .inl (cI, 18, .inl f4))] s.heap := hP
  generalize hHe : s.heap = H at hP ⊢
  have hS : va_S A s.heap H [] := by rw [hHe]; exact va_S.rf
  have hl := lv_entry ([.ref a0, .int u1, .int u2, .int u3, .int u4]) (n := 6) (Nat.le_of_ble_eq_true rfl)
  rw [lg_entry_eq]
  generalize (lg_sl ([.ref a0, .int u1, .int u2, .int u3, .int u4]) ++ List.replicate (6 - (lg_sl ([.ref a0, .int u1, .int u2, .int u3, .int u4])).length) Slot.unset).toArray = ls at hl ⊢
  have hl : lv_has ls 6 [(0, .ref a0), (1, .int u1), (2, .int u2), (3, .int u3), (4, .int u4)] := hl
  unfold s_X2_distance at hsp
  refine lv_iload_n hx hb dX2_distance_0 rfl (lv_at hl 1 rfl) ?_
  refine lv_iconst (v := 3) hx hb dX2_distance_1 (by decide) ?_
  refine lv_imul hx hb dX2_distance_2 ?_
  obtain ⟨x1, ex1, hsp⟩ := nmE hsp
  refine r_top ex1 ?_
  refine lv_istore (lv' := [(5, .int x1), (0, .ref a0), (1, .int u1), (2, .int u2), (3, .int u3), (4, .int u4)]) hx hb dX2_distance_3 hl (by decide) rfl (fun ls hl => ?_)
  refine lv_iload_n hx hb dX2_distance_5 rfl (lv_at hl 3 rfl) ?_
  refine lv_aload_n hx hb dX2_distance_6 rfl (lv_at hl 1 rfl) ?_
  refine va_get (D := D) (ci := 2) (v := .ref a4) (C := RX2) (T := TX2) (N := 12) hx hb hts hi_X2 hown hK hP 0 rfl rfl 3 (by decide) hf_25 (fun _ h9 => h9) rfl dX2_distance_7 ?_
  refine lv_iload hx hb dX2_distance_10 (lv_at hl 0 rfl) ?_
  obtain ⟨r2, hcr2, hsp⟩ := clE hsp
  refine call_i (w1 := [(a4, .inl (cI, 18, .inl f4))]) (ws' := [(a0, .inr (2, [w0_0, w0_1, w0_2, .ref a4, w0_4, w0_5, w0_6, w0_7, w0_8, w0_9, w0_10, w0_11])), (a4, .inl (cI, 18, .inl f4))]) (va_runSN (As := [.ref a4, .int x1]) (rest := [.int u2]) ⟨hx, hb, hml, hown, hts⟩ (k_X4_at l D cI cZ cC cS H.size a4 18 f4 x1 r2 hcr2) ⟨va_cnB 2 hts gX2_distance_X4_at_n61 rfl rfl rfl (mn_Studio_61 hKU.2.2) hin_X4 nd_X4_at.2 ⟨Nat.le_of_ble_eq_true rfl, Nat.le_of_ble_eq_true rfl⟩, hst_X4_at, trivial⟩ (PB.preS hKU hP hD [1] rfl rfl) rfl rfl hl.1 rfl (lv_room (Nat.le_of_ble_eq_true rfl)) dX2_distance_12 ⟨Nat.zero_le _, Nat.zero_le _⟩) hS hP hD hA [1] rfl rfl (by first | (simp only [wset, List.set_cons_zero, List.set_cons_succ]; done) | rfl) rfl (fun H locs hP hD hS => ?_)
  refine lv_isub hx hb dX2_distance_15 ?_
  refine va_mabs hx hb (by rw [hml]; exact hl.1.symm) hown hm_l126 hm_s_abs hm_i hm_c_abs (Nat.le_of_ble_eq_true rfl) (Nat.le_of_ble_eq_true rfl) (Nat.zero_le _) (Nat.zero_le _) dX2_distance_16 ?_
  obtain ⟨x3, ex3, hsp⟩ := nmE hsp
  refine r_top ex3 ?_
  refine lv_iload_n hx hb dX2_distance_19 rfl (lv_at hl 4 rfl) ?_
  refine lv_aload_n hx hb dX2_distance_20 rfl (lv_at hl 1 rfl) ?_
  refine va_get (D := D) (ci := 2) (v := .ref a4) (C := RX2) (T := TX2) (N := 12) hx hb hts hi_X2 hown hK hP 0 rfl rfl 3 (by decide) hf_25 (fun _ h9 => h9) rfl dX2_distance_21 ?_
  refine lv_iload hx hb dX2_distance_24 (lv_at hl 0 rfl) ?_
  refine lv_iconst (v := 1) hx hb dX2_distance_26 (by decide) ?_
  refine lv_iadd hx hb dX2_distance_27 ?_
  obtain ⟨r4, hcr4, hsp⟩ := clE hsp
  refine call_i (w1 := [(a4, .inl (cI, 18, .inl f4))]) (ws' := [(a0, .inr (2, [w0_0, w0_1, w0_2, .ref a4, w0_4, w0_5, w0_6, w0_7, w0_8, w0_9, w0_10, w0_11])), (a4, .inl (cI, 18, .inl f4))]) (va_runSN (As := [.ref a4, .int (x1 + 1)]) (rest := [.int u3, .int x3]) ⟨hx, hb, hml, hown, hts⟩ (k_X4_at l D cI cZ cC cS H.size a4 18 f4 (x1 + 1) r4 hcr4) ⟨va_cnB 2 hts gX2_distance_X4_at_n61 rfl rfl rfl (mn_Studio_61 hKU.2.2) hin_X4 nd_X4_at.2 ⟨Nat.le_of_ble_eq_true rfl, Nat.le_of_ble_eq_true rfl⟩, hst_X4_at, trivial⟩ (PB.preS hKU hP hD [1] rfl rfl) rfl rfl hl.1 rfl (lv_room (Nat.le_of_ble_eq_true rfl)) dX2_distance_28 ⟨Nat.zero_le _, Nat.zero_le _⟩) hS hP hD hA [1] rfl rfl (by first | (simp only [wset, List.set_cons_zero, List.set_cons_succ]; done) | rfl) rfl (fun H locs hP hD hS => ?_)
  refine lv_isub hx hb dX2_distance_31 ?_
  refine va_mabs hx hb (by rw [hml]; exact hl.1.symm) hown hm_l126 hm_s_abs hm_i hm_c_abs (Nat.le_of_ble_eq_true rfl) (Nat.le_of_ble_eq_true rfl) (Nat.zero_le _) (Nat.zero_le _) dX2_distance_32 ?_
  obtain ⟨x5, ex5, hsp⟩ := nmE hsp
  refine r_top ex5 ?_
  refine lv_iadd hx hb dX2_distance_35 ?_
  refine lv_iload hx hb dX2_distance_36 (lv_at hl 5 rfl) ?_
  refine lv_aload_n hx hb dX2_distance_38 rfl (lv_at hl 1 rfl) ?_
  refine va_get (D := D) (ci := 2) (v := .ref a4) (C := RX2) (T := TX2) (N := 12) hx hb hts hi_X2 hown hK hP 0 rfl rfl 3 (by decide) hf_25 (fun _ h9 => h9) rfl dX2_distance_39 ?_
  refine lv_iload hx hb dX2_distance_42 (lv_at hl 0 rfl) ?_
  refine lv_iconst (v := 2) hx hb dX2_distance_44 (by decide) ?_
  refine lv_iadd hx hb dX2_distance_45 ?_
  obtain ⟨r6, hcr6, hsp⟩ := clE hsp
  refine call_i (w1 := [(a4, .inl (cI, 18, .inl f4))]) (ws' := [(a0, .inr (2, [w0_0, w0_1, w0_2, .ref a4, w0_4, w0_5, w0_6, w0_7, w0_8, w0_9, w0_10, w0_11])), (a4, .inl (cI, 18, .inl f4))]) (va_runSN (As := [.ref a4, .int (x1 + 2)]) (rest := [.int u4, .int (x3 + x5)]) ⟨hx, hb, hml, hown, hts⟩ (k_X4_at l D cI cZ cC cS H.size a4 18 f4 (x1 + 2) r6 hcr6) ⟨va_cnB 2 hts gX2_distance_X4_at_n61 rfl rfl rfl (mn_Studio_61 hKU.2.2) hin_X4 nd_X4_at.2 ⟨Nat.le_of_ble_eq_true rfl, Nat.le_of_ble_eq_true rfl⟩, hst_X4_at, trivial⟩ (PB.preS hKU hP hD [1] rfl rfl) rfl rfl hl.1 rfl (lv_room (Nat.le_of_ble_eq_true rfl)) dX2_distance_46 ⟨Nat.zero_le _, Nat.zero_le _⟩) hS hP hD hA [1] rfl rfl (by first | (simp only [wset, List.set_cons_zero, List.set_cons_succ]; done) | rfl) rfl (fun H locs hP hD hS => ?_)
  refine lv_isub hx hb dX2_distance_49 ?_
  refine va_mabs hx hb (by rw [hml]; exact hl.1.symm) hown hm_l126 hm_s_abs hm_i hm_c_abs (Nat.le_of_ble_eq_true rfl) (Nat.le_of_ble_eq_true rfl) (Nat.zero_le _) (Nat.zero_le _) dX2_distance_50 ?_
  obtain ⟨x7, ex7, hsp⟩ := nmE hsp
  refine r_top ex7 ?_
  refine lv_iadd hx hb dX2_distance_53 ?_
  have hres := Option.some.inj hsp
  subst hres
  exact W.iret (v := (x3 + x5) + x7) hx hb hr (fun t ht hW => ⟨⟨(x3 + x5) + x7, (), rfl, rfl, P_at ht hP⟩, hS.F ht⟩) hS.2.2 dX2_distance_54

theorem nd_X2_distanceOfPaint : yX2_distanceOfPaint.cls = RX2 ∧ yX2_distanceOfPaint.cls ≠ "java/lang/invoke/MethodHandle" ∧ yX2_distanceOfPaint.cls ≠ "java/lang/invoke/VarHandle" ∧ (parseMethodDescriptor yX2_distanceOfPaint.desc).map (fun d => d.parameters.length) = some 2 := by decide +kernel
set_option maxHeartbeats 8000000 in
set_option maxRecDepth 100000 in
theorem k_X2_distanceOfPaint (l : Launch) (D : va_G) (cI cZ cC cS : ClassId) (sz : Nat) (a0 a2 a4 : Nat) (w0_0 : Value) (w0_2 : Value) (w0_4 : Value) (w0_5 : Value) (w0_6 : Value) (w0_7 : Value) (w0_8 : Value) (w0_9 : Value) (w0_10 : Value) (w0_11 : Value) (f2 : Nat → Int32) (f4 : Nat → Int32) (u1 : Int32) (u2 : Int32) (res : Int32) (hsp : s_X2_distanceOfPaint f2 f4 u1 u2 = some res) : Met l yX2_distanceOfPaint wsX2_distanceOfPaint ({ frames := 2, cells := 0, slots := 0, locals := 49 }) (va_Pc [.ref a0, .int u1, .int u2] (PB D cI cZ cC cS [(a0, .inr (2, [w0_0, .ref a2, w0_2, .ref a4, w0_4, w0_5, w0_6, w0_7, w0_8, w0_9, w0_10, w0_11])), (a2, .inl (cI, 36, .inl f2)), (a4, .inl (cI, 18, .inl f4))] sz)) (va_Qi (fun r (_ : Unit) => r = res) (fun _ t => va_P D vwCl [(a0, .inr (2, [w0_0, .ref a2, w0_2, .ref a4, w0_4, w0_5, w0_6, w0_7, w0_8, w0_9, w0_10, w0_11])), (a2, .inl (cI, 36, .inl f2)), (a4, .inl (cI, 18, .inl f4))] t.heap) (va_A [(a0, .inr (2, [w0_0, .ref a2, w0_2, .ref a4, w0_4, w0_5, w0_6, w0_7, w0_8, w0_9, w0_10, w0_11])), (a2, .inl (cI, 36, .inl f2)), (a4, .inl (cI, 18, .inl f4))] sz)) 0 0 (va_A [(a0, .inr (2, [w0_0, .ref a2, w0_2, .ref a4, w0_4, w0_5, w0_6, w0_7, w0_8, w0_9, w0_10, w0_11])), (a2, .inl (cI, 36, .inl f2)), (a4, .inl (cI, 18, .inl f4))] sz) := by
  refine Met.ofW (cc := cX2_distanceOfPaint) (maxL := 3) (ret := (some .int)) (by decide) rfl ?_
  intro p e s m args below meth c s₁ B hml hv
  obtain ⟨rfl, hsz, hP, hD0, hKU⟩ := hv
  have hx := B.exec
  have hb := B.bytes
  have hr := B.returns
  have hts := atoms_spec (ws := wsX2_distanceOfPaint) B.pre
  have hown : s.vm.findClass RX2 = some m.cls := findClass_of_methodNamed B.named
  have hlocks := B.notSynchronized
  have hK := hKU.1
  subst hsz
  have hD := hD0.self (sz := s.heap.size)
  generalize hAe : va_A [(a0, .inr (2, [w0_0, .ref a2, w0_2, .ref a4, w0_4, w0_5, w0_6, w0_7, w0_8, w0_9, w0_10, w0_11])), (a2, .inl (cI, 36, .inl f2)), (a4, .inl (cI, 18, .inl f4))] s.heap.size = A at hD ⊢
  have hA : ∀ q : Nat, s.heap.size ≤ q → A q := fun q h => by rw [← hAe]; exact Or.inr h
  have hP : va_P D vwCl [(a0, .inr (2, [w0_0, .ref a2, w0_2, .ref a4, w0_4, w0_5, w0_6, w0_7, w0_8, w0_9, w0_10, w0_11])), (a2, .inl (cI, 36, .inl f2)), (a4, .inl (cI, 18, .inl f4))] s.heap := hP
  generalize hHe : s.heap = H at hP ⊢
  have hS : va_S A s.heap H [] := by rw [hHe]; exact va_S.rf
  have hl := lv_entry ([.ref a0, .int u1, .int u2]) (n := 3) (Nat.le_of_ble_eq_true rfl)
  rw [lg_entry_eq]
  generalize (lg_sl ([.ref a0, .int u1, .int u2]) ++ List.replicate (3 - (lg_sl ([.ref a0, .int u1, .int u2])).length) Slot.unset).toArray = ls at hl ⊢
  have hl : lv_has ls 3 [(0, .ref a0), (1, .int u1), (2, .int u2)] := hl
  unfold s_X2_distanceOfPaint at hsp
  refine lv_aload_n hx hb dX2_distanceOfPaint_0 rfl (lv_at hl 0 rfl) ?_
  refine lv_iload_n hx hb dX2_distanceOfPaint_1 rfl (lv_at hl 1 rfl) ?_
  refine lv_aload_n hx hb dX2_distanceOfPaint_2 rfl (lv_at hl 0 rfl) ?_
  refine lv_iload_n hx hb dX2_distanceOfPaint_3 rfl (lv_at hl 2 rfl) ?_
  refine lv_iconst (v := 0) hx hb dX2_distanceOfPaint_4 (by decide) ?_
  obtain ⟨r1, hcr1, hsp⟩ := clE hsp
  refine call_i (w1 := [(a0, .inr (2, [w0_0, .ref a2, w0_2, .ref a4, w0_4, w0_5, w0_6, w0_7, w0_8, w0_9, w0_10, w0_11])), (a2, .inl (cI, 36, .inl f2))]) (ws' := [(a0, .inr (2, [w0_0, .ref a2, w0_2, .ref a4, w0_4, w0_5, w0_6, w0_7, w0_8, w0_9, w0_10, w0_11])), (a2, .inl (cI, 36, .inl f2)), (a4, .inl (cI, 18, .inl f4))]) (va_runV (As := [.int u2, .int 0]) (rest := [.int u1, .ref a0]) ⟨hx, hb, hml, hown, hts⟩ (k_X2_strength l D cI cZ cC cS H.size a0 a2 (w0_0) (w0_2) (.ref a4) (w0_4) (w0_5) (w0_6) (w0_7) (w0_8) (w0_9) (w0_10) (w0_11) f2 u2 0 r1 hcr1) (cwV 2 hts gX2_distanceOfPaint_X2_strength rfl rfl rfl nd_X2_strength ⟨Nat.le_of_ble_eq_true rfl, Nat.le_of_ble_eq_true rfl⟩) (PB.preV (ci := 2) (q0 := 0) hKU hP hD [0, 1] rfl rfl rfl rfl) rfl rfl hl.1 rfl (lv_room (Nat.le_of_ble_eq_true rfl)) dX2_distanceOfPaint_5 ⟨Nat.zero_le _, Nat.zero_le _⟩) hS hP hD hA [0, 1] rfl rfl (by first | (simp only [wset, List.set_cons_zero, List.set_cons_succ]; done) | rfl) rfl (fun H locs hP hD hS => ?_)
  refine lv_aload_n hx hb dX2_distanceOfPaint_8 rfl (lv_at hl 0 rfl) ?_
  refine lv_iload_n hx hb dX2_distanceOfPaint_9 rfl (lv_at hl 2 rfl) ?_
  refine lv_iconst (v := 1) hx hb dX2_distanceOfPaint_10 (by decide) ?_
  obtain ⟨r2, hcr2, hsp⟩ := clE hsp
  refine call_i (w1 := [(a0, .inr (2, [w0_0, .ref a2, w0_2, .ref a4, w0_4, w0_5, w0_6, w0_7, w0_8, w0_9, w0_10, w0_11])), (a2, .inl (cI, 36, .inl f2))]) (ws' := [(a0, .inr (2, [w0_0, .ref a2, w0_2, .ref a4, w0_4, w0_5, w0_6, w0_7, w0_8, w0_9, w0_10, w0_11])), (a2, .inl (cI, 36, .inl f2)), (a4, .inl (cI, 18, .inl f4))]) (va_runV (As := [.int u2, .int 1]) (rest := [.int r1, .int u1, .ref a0]) ⟨hx, hb, hml, hown, hts⟩ (k_X2_strength l D cI cZ cC cS H.size a0 a2 (w0_0) (w0_2) (.ref a4) (w0_4) (w0_5) (w0_6) (w0_7) (w0_8) (w0_9) (w0_10) (w0_11) f2 u2 1 r2 hcr2) (cwV 2 hts gX2_distanceOfPaint_X2_strength rfl rfl rfl nd_X2_strength ⟨Nat.le_of_ble_eq_true rfl, Nat.le_of_ble_eq_true rfl⟩) (PB.preV (ci := 2) (q0 := 0) hKU hP hD [0, 1] rfl rfl rfl rfl) rfl rfl hl.1 rfl (lv_room (Nat.le_of_ble_eq_true rfl)) dX2_distanceOfPaint_11 ⟨Nat.zero_le _, Nat.zero_le _⟩) hS hP hD hA [0, 1] rfl rfl (by first | (simp only [wset, List.set_cons_zero, List.set_cons_succ]; done) | rfl) rfl (fun H locs hP hD hS => ?_)
  refine lv_aload_n hx hb dX2_distanceOfPaint_14 rfl (lv_at hl 0 rfl) ?_
  refine lv_iload_n hx hb dX2_distanceOfPaint_15 rfl (lv_at hl 2 rfl) ?_
  refine lv_iconst (v := 2) hx hb dX2_distanceOfPaint_16 (by decide) ?_
  obtain ⟨r3, hcr3, hsp⟩ := clE hsp
  refine call_i (w1 := [(a0, .inr (2, [w0_0, .ref a2, w0_2, .ref a4, w0_4, w0_5, w0_6, w0_7, w0_8, w0_9, w0_10, w0_11])), (a2, .inl (cI, 36, .inl f2))]) (ws' := [(a0, .inr (2, [w0_0, .ref a2, w0_2, .ref a4, w0_4, w0_5, w0_6, w0_7, w0_8, w0_9, w0_10, w0_11])), (a2, .inl (cI, 36, .inl f2)), (a4, .inl (cI, 18, .inl f4))]) (va_runV (As := [.int u2, .int 2]) (rest := [.int r2, .int r1, .int u1, .ref a0]) ⟨hx, hb, hml, hown, hts⟩ (k_X2_strength l D cI cZ cC cS H.size a0 a2 (w0_0) (w0_2) (.ref a4) (w0_4) (w0_5) (w0_6) (w0_7) (w0_8) (w0_9) (w0_10) (w0_11) f2 u2 2 r3 hcr3) (cwV 2 hts gX2_distanceOfPaint_X2_strength rfl rfl rfl nd_X2_strength ⟨Nat.le_of_ble_eq_true rfl, Nat.le_of_ble_eq_true rfl⟩) (PB.preV (ci := 2) (q0 := 0) hKU hP hD [0, 1] rfl rfl rfl rfl) rfl rfl hl.1 rfl (lv_room (Nat.le_of_ble_eq_true rfl)) dX2_distanceOfPaint_17 ⟨Nat.zero_le _, Nat.zero_le _⟩) hS hP hD hA [0, 1] rfl rfl (by first | (simp only [wset, List.set_cons_zero, List.set_cons_succ]; done) | rfl) rfl (fun H locs hP hD hS => ?_)
  obtain ⟨r4, hcr4, hsp⟩ := clE hsp
  refine call_i (w1 := [(a0, .inr (2, [w0_0, .ref a2, w0_2, .ref a4, w0_4, w0_5, w0_6, w0_7, w0_8, w0_9, w0_10, w0_11])), (a4, .inl (cI, 18, .inl f4))]) (ws' := [(a0, .inr (2, [w0_0, .ref a2, w0_2, .ref a4, w0_4, w0_5, w0_6, w0_7, w0_8, w0_9, w0_10, w0_11])), (a2, .inl (cI, 36, .inl f2)), (a4, .inl (cI, 18, .inl f4))]) (va_runV (As := [.int u1, .int r1, .int r2, .int r3]) (rest := []) ⟨hx, hb, hml, hown, hts⟩ (k_X2_distance l D cI cZ cC cS H.size a0 a4 (w0_0) (.ref a2) (w0_2) (w0_4) (w0_5) (w0_6) (w0_7) (w0_8) (w0_9) (w0_10) (w0_11) f4 u1 r1 r2 r3 r4 hcr4) (cwV 4 hts gX2_distanceOfPaint_X2_distance rfl rfl rfl nd_X2_distance ⟨Nat.le_of_ble_eq_true rfl, Nat.le_of_ble_eq_true rfl⟩) (PB.preV (ci := 2) (q0 := 0) hKU hP hD [0, 2] rfl rfl rfl rfl) rfl rfl hl.1 rfl (lv_room (Nat.le_of_ble_eq_true rfl)) dX2_distanceOfPaint_20 ⟨Nat.zero_le _, Nat.zero_le _⟩) hS hP hD hA [0, 2] rfl rfl (by first | (simp only [wset, List.set_cons_zero, List.set_cons_succ]; done) | rfl) rfl (fun H locs hP hD hS => ?_)
  have hres := Option.some.inj hsp
  subst hres
  exact W.iret (v := r4) hx hb hr (fun t ht hW => ⟨⟨r4, (), rfl, rfl, P_at ht hP⟩, hS.F ht⟩) hS.2.2 dX2_distanceOfPaint_23

theorem nd_X0_nearestPot : yX0_nearestPot.cls = RX0 ∧ yX0_nearestPot.cls ≠ "java/lang/invoke/MethodHandle" ∧ yX0_nearestPot.cls ≠ "java/lang/invoke/VarHandle" ∧ (parseMethodDescriptor yX0_nearestPot.desc).map (fun d => d.parameters.length) = some 1 := by decide +kernel
set_option maxHeartbeats 8000000 in
set_option maxRecDepth 100000 in
theorem k_X0_nearestPot (l : Launch) (D : va_G) (cI cZ cC cS : ClassId) (sz : Nat) (a0 a1 a3 a5 : Nat) (w0_1 : Value) (w0_2 : Value) (w0_3 : Value) (w0_4 : Value) (w0_5 : Value) (w1_0 : Value) (w1_2 : Value) (w1_4 : Value) (w1_5 : Value) (w1_6 : Value) (w1_7 : Value) (w1_8 : Value) (w1_9 : Value) (w1_10 : Value) (w1_11 : Value) (f3 : Nat → Int32) (f5 : Nat → Int32) (u1 : Int32) (res : Int32) (hsp : s_X0_nearestPot f3 f5 u1 = some res) : Met l yX0_nearestPot wsX0_nearestPot ({ frames := 3, cells := 0, slots := 0, locals := 71 }) (va_Pc [.ref a0, .int u1] (PB D cI cZ cC cS [(a0, .inr (0, [.ref a1, w0_1, w0_2, w0_3, w0_4, w0_5])), (a1, .inr (2, [w1_0, .ref a3, w1_2, .ref a5, w1_4, w1_5, w1_6, w1_7, w1_8, w1_9, w1_10, w1_11])), (a3, .inl (cI, 36, .inl f3)), (a5, .inl (cI, 18, .inl f5))] sz)) (va_Qi (fun r (_ : Unit) => r = res) (fun _ t => va_P D vwCl [(a0, .inr (0, [.ref a1, w0_1, w0_2, w0_3, w0_4, w0_5])), (a1, .inr (2, [w1_0, .ref a3, w1_2, .ref a5, w1_4, w1_5, w1_6, w1_7, w1_8, w1_9, w1_10, w1_11])), (a3, .inl (cI, 36, .inl f3)), (a5, .inl (cI, 18, .inl f5))] t.heap) (va_A [(a0, .inr (0, [.ref a1, w0_1, w0_2, w0_3, w0_4, w0_5])), (a1, .inr (2, [w1_0, .ref a3, w1_2, .ref a5, w1_4, w1_5, w1_6, w1_7, w1_8, w1_9, w1_10, w1_11])), (a3, .inl (cI, 36, .inl f3)), (a5, .inl (cI, 18, .inl f5))] sz)) 0 0 (va_A [(a0, .inr (0, [.ref a1, w0_1, w0_2, w0_3, w0_4, w0_5])), (a1, .inr (2, [w1_0, .ref a3, w1_2, .ref a5, w1_4, w1_5, w1_6, w1_7, w1_8, w1_9, w1_10, w1_11])), (a3, .inl (cI, 36, .inl f3)), (a5, .inl (cI, 18, .inl f5))] sz) := by
  refine Met.ofW (cc := cX0_nearestPot) (maxL := 6) (ret := (some .int)) (by decide) rfl ?_
  intro p e s m args below meth c s₁ B hml hv
  obtain ⟨rfl, hsz, hP, hD0, hKU⟩ := hv
  have hx := B.exec
  have hb := B.bytes
  have hr := B.returns
  have hts := atoms_spec (ws := wsX0_nearestPot) B.pre
  have hown : s.vm.findClass RX0 = some m.cls := findClass_of_methodNamed B.named
  have hlocks := B.notSynchronized
  have hK := hKU.1
  have hf_9 := hts (.fieldLink RX0 9 "ThinnedPots$Advice" "studio" "LThinnedPots$Studio;") (by decide +kernel)
  have hi_X0 : ∀ w ∈ u_ws RX0 TX0 6, w ∈ wsX0_nearestPot := by decide +kernel
  subst hsz
  have hD := hD0.self (sz := s.heap.size)
  generalize hAe : va_A [(a0, .inr (0, [.ref a1, w0_1, w0_2, w0_3, w0_4, w0_5])), (a1, .inr (2, [w1_0, .ref a3, w1_2, .ref a5, w1_4, w1_5, w1_6, w1_7, w1_8, w1_9, w1_10, w1_11])), (a3, .inl (cI, 36, .inl f3)), (a5, .inl (cI, 18, .inl f5))] s.heap.size = A at hD ⊢
  have hA : ∀ q : Nat, s.heap.size ≤ q → A q := fun q h => by rw [← hAe]; exact Or.inr h
  have hP : va_P D vwCl [(a0, .inr (0, [.ref a1, w0_1, w0_2, w0_3, w0_4, w0_5])), (a1, .inr (2, [w1_0, .ref a3, w1_2, .ref a5, w1_4, w1_5, w1_6, w1_7, w1_8, w1_9, w1_10, w1_11])), (a3, .inl (cI, 36, .inl f3)), (a5, .inl (cI, 18, .inl f5))] s.heap := hP
  generalize hHe : s.heap = H at hP ⊢
  have hS : va_S A s.heap H [] := by rw [hHe]; exact va_S.rf
  have hl := lv_entry ([.ref a0, .int u1]) (n := 6) (Nat.le_of_ble_eq_true rfl)
  rw [lg_entry_eq]
  generalize (lg_sl ([.ref a0, .int u1]) ++ List.replicate (6 - (lg_sl ([.ref a0, .int u1])).length) Slot.unset).toArray = ls at hl ⊢
  have hl : lv_has ls 6 [(0, .ref a0), (1, .int u1)] := hl
  unfold s_X0_nearestPot at hsp
  refine lv_bipush (v := (-6)) hx hb dX0_nearestPot_0 (by decide) ?_
  refine lv_istore_n (lv' := [(2, .int (-6)), (0, .ref a0), (1, .int u1)]) hx hb dX0_nearestPot_2 rfl hl (by decide) rfl (fun ls hl => ?_)
  refine lv_sipush (v := 1000) hx hb dX0_nearestPot_3 (by decide) ?_
  refine lv_istore_n (lv' := [(3, .int 1000), (2, .int (-6)), (0, .ref a0), (1, .int u1)]) hx hb dX0_nearestPot_6 rfl hl (by decide) rfl (fun ls hl => ?_)
  refine lv_iconst (v := 0) hx hb dX0_nearestPot_7 (by decide) ?_
  refine lv_istore (lv' := [(4, .int 0), (3, .int 1000), (2, .int (-6)), (0, .ref a0), (1, .int u1)]) hx hb dX0_nearestPot_8 hl (by decide) rfl (fun ls hl => ?_)
  refine ex_rule (D := D) (K := s_X0_nearestPot_X1) (P := fun (t1 : Int32) => [(a0, .inr (0, [.ref a1, w0_1, w0_2, w0_3, w0_4, w0_5])), (a1, .inr (2, [w1_0, .ref a3, w1_2, .ref a5, w1_4, w1_5, w1_6, w1_7, w1_8, w1_9, w1_10, w1_11])), (a3, .inl (cI, 36, .inl f3)), (a5, .inl (cI, 18, .inl f5))]) (L := fun (t1 : Int32) => [(2, .int t1)]) (nL := 6) (pcx := 59) (res := res) (A := A) (H0 := s.heap) ?_ (fun hx1 => ?_)
  · intro t1 H locs hsp hP hD hS ls hl
    obtain ⟨x4, rfl⟩ : ∃ z, z = t1 := ⟨_, rfl⟩
    unfold s_X0_nearestPot_X1 at hsp; try dsimp only at hsp
    have hP : va_P D vwCl [(a0, .inr (0, [.ref a1, w0_1, w0_2, w0_3, w0_4, w0_5])), (a1, .inr (2, [w1_0, .ref a3, w1_2, .ref a5, w1_4, w1_5, w1_6, w1_7, w1_8, w1_9, w1_10, w1_11])), (a3, .inl (cI, 36, .inl f3)), (a5, .inl (cI, 18, .inl f5))] H := hP
    have hD : va_D A [(a0, .inr (0, [.ref a1, w0_1, w0_2, w0_3, w0_4, w0_5])), (a1, .inr (2, [w1_0, .ref a3, w1_2, .ref a5, w1_4, w1_5, w1_6, w1_7, w1_8, w1_9, w1_10, w1_11])), (a3, .inl (cI, 36, .inl f3)), (a5, .inl (cI, 18, .inl f5))] := hD
    have hl : lv_has ls 6 [(2, .int x4)] := hl
    refine lv_iload_n hx hb dX0_nearestPot_59 rfl (lv_at hl 0 rfl) ?_
    have hres := Option.some.inj hsp
    subst hres
    exact W.iret (v := x4) hx hb hr (fun t ht hW => ⟨⟨x4, (), rfl, rfl, P_at ht hP⟩, hS.F ht⟩) hS.2.2 dX0_nearestPot_60
  have hl := lv_sub hl (l' := [(0, .ref a0), (1, .int u1), (2, .int (-6)), (3, .int 1000), (4, .int 0)]) [3, 4, 2, 1, 0] rfl
  refine lp_rule (D := D) (F := s_X0_nearestPot_L1 f3 f5 u1 (s_X0_nearestPot_X1)) (P := fun (tv : Int32 × Int32 × Int32) => [(a0, .inr (0, [.ref a1, w0_1, w0_2, w0_3, w0_4, w0_5])), (a1, .inr (2, [w1_0, .ref a3, w1_2, .ref a5, w1_4, w1_5, w1_6, w1_7, w1_8, w1_9, w1_10, w1_11])), (a3, .inl (cI, 36, .inl f3)), (a5, .inl (cI, 18, .inl f5))]) (L := fun (tv : Int32 × Int32 × Int32) => [(0, .ref a0), (1, .int u1), (2, .int tv.1), (3, .int tv.2.1), (4, .int tv.2.2)]) (nL := 6) (res := res) (A := A) (H0 := s.heap) (fun _ => rfl) ?_ 1000 ((-6), 1000, 0) _ _ hsp hP hD hS _ hl
  · intro n1 ih1 tv H locs hsp hP hD hS ls hl
    obtain ⟨x1, x2, x3⟩ := tv
    have hsp : s_X0_nearestPot_B1  f3 f5 u1 (s_X0_nearestPot_X1) (s_X0_nearestPot_L1 f3 f5 u1 (s_X0_nearestPot_X1) n1) x1 x2 x3 = some res := hsp
    unfold s_X0_nearestPot_B1 at hsp
    have hP : va_P D vwCl [(a0, .inr (0, [.ref a1, w0_1, w0_2, w0_3, w0_4, w0_5])), (a1, .inr (2, [w1_0, .ref a3, w1_2, .ref a5, w1_4, w1_5, w1_6, w1_7, w1_8, w1_9, w1_10, w1_11])), (a3, .inl (cI, 36, .inl f3)), (a5, .inl (cI, 18, .inl f5))] H := hP
    have hD : va_D A [(a0, .inr (0, [.ref a1, w0_1, w0_2, w0_3, w0_4, w0_5])), (a1, .inr (2, [w1_0, .ref a3, w1_2, .ref a5, w1_4, w1_5, w1_6, w1_7, w1_8, w1_9, w1_10, w1_11])), (a3, .inl (cI, 36, .inl f3)), (a5, .inl (cI, 18, .inl f5))] := hD
    have hl : lv_has ls 6 [(0, .ref a0), (1, .int u1), (2, .int x1), (3, .int x2), (4, .int x3)] := hl
    refine lv_iload hx hb dX0_nearestPot_10 (lv_at hl 4 rfl) ?_
    refine lv_bipush (v := 8) hx hb dX0_nearestPot_12 (by decide) ?_
    refine lv_icmp_ge (tgt := 59) hx hb dX0_nearestPot_14 (by decide) (fun c5 => ?_) (fun c5 => ?_)
    · have hsp := itT hsp c5
      exact hx1 x1 _ _ hsp hP hD hS _ (lv_sub hl [2] rfl)
    have hsp := itF hsp c5
    refine lv_aload_n hx hb dX0_nearestPot_17 rfl (lv_at hl 0 rfl) ?_
    refine va_get (D := D) (ci := 0) (v := .ref a1) (C := RX0) (T := TX0) (N := 6) hx hb hts hi_X0 hown hK hP 0 rfl rfl 0 (by decide) hf_9 (fun _ h9 => h9) rfl dX0_nearestPot_18 ?_
    refine lv_iload hx hb dX0_nearestPot_21 (lv_at hl 4 rfl) ?_
    obtain ⟨r6, hcr6, hsp⟩ := clE hsp
    refine call_z (w1 := [(a1, .inr (2, [w1_0, .ref a3, w1_2, .ref a5, w1_4, w1_5, w1_6, w1_7, w1_8, w1_9, w1_10, w1_11])), (a3, .inl (cI, 36, .inl f3))]) (ws' := [(a0, .inr (0, [.ref a1, w0_1, w0_2, w0_3, w0_4, w0_5])), (a1, .inr (2, [w1_0, .ref a3, w1_2, .ref a5, w1_4, w1_5, w1_6, w1_7, w1_8, w1_9, w1_10, w1_11])), (a3, .inl (cI, 36, .inl f3)), (a5, .inl (cI, 18, .inl f5))]) (va_runV (As := [.int x3]) (rest := []) ⟨hx, hb, hml, hown, hts⟩ (k_X2_hasPaint l D cI cZ cC cS H.size a1 a3 (w1_0) (w1_2) (.ref a5) (w1_4) (w1_5) (w1_6) (w1_7) (w1_8) (w1_9) (w1_10) (w1_11) f3 x3 r6 hcr6) (cwV 1 hts gX0_nearestPot_X2_hasPaint rfl rfl rfl nd_X2_hasPaint ⟨Nat.le_of_ble_eq_true rfl, Nat.le_of_ble_eq_true rfl⟩) (PB.preV (ci := 2) (q0 := 1) hKU hP hD [1, 2] rfl rfl rfl rfl) rfl rfl hl.1 rfl (lv_room (Nat.le_of_ble_eq_true rfl)) dX0_nearestPot_23 ⟨Nat.zero_le _, Nat.zero_le _⟩) hS hP hD hA [1, 2] rfl rfl (by first | (simp only [wset, List.set_cons_zero, List.set_cons_succ]; done) | rfl) rfl (fun H locs hP hD hS hzr6 => ?_)
    refine lv_if_eq (tgt := 53) hx hb dX0_nearestPot_26 (by decide) (fun c7 => ?_) (fun c7 => ?_)
    · have hsp := itT hsp c7
      obtain ⟨x8, ex8, hsp⟩ := nmE hsp
      refine lv_iinc (k := 4) (v := x8) (lv' := [(4, .int x8), (0, .ref a0), (1, .int u1), (2, .int x1), (3, .int x2)]) hx hb dX0_nearestPot_53 hl rfl (by rw [ex8]; rfl) (by decide) rfl (fun ls hl => ?_)
      refine lv_goto (tgt := 10) hx hb dX0_nearestPot_56 (by decide) ?_
      exact ih1 (x1, x2, x8) _ _ hsp hP hD hS _ (lv_sub hl [1, 2, 3, 4, 0] rfl)
    have hsp := itF hsp c7
    refine lv_aload_n hx hb dX0_nearestPot_29 rfl (lv_at hl 0 rfl) ?_
    refine va_get (D := D) (ci := 0) (v := .ref a1) (C := RX0) (T := TX0) (N := 6) hx hb hts hi_X0 hown hK hP 0 rfl rfl 0 (by decide) hf_9 (fun _ h9 => h9) rfl dX0_nearestPot_30 ?_
    refine lv_iload_n hx hb dX0_nearestPot_33 rfl (lv_at hl 1 rfl) ?_
    refine lv_iload hx hb dX0_nearestPot_34 (lv_at hl 4 rfl) ?_
    obtain ⟨r9, hcr9, hsp⟩ := clE hsp
    refine call_i (w1 := [(a1, .inr (2, [w1_0, .ref a3, w1_2, .ref a5, w1_4, w1_5, w1_6, w1_7, w1_8, w1_9, w1_10, w1_11])), (a3, .inl (cI, 36, .inl f3)), (a5, .inl (cI, 18, .inl f5))]) (ws' := [(a0, .inr (0, [.ref a1, w0_1, w0_2, w0_3, w0_4, w0_5])), (a1, .inr (2, [w1_0, .ref a3, w1_2, .ref a5, w1_4, w1_5, w1_6, w1_7, w1_8, w1_9, w1_10, w1_11])), (a3, .inl (cI, 36, .inl f3)), (a5, .inl (cI, 18, .inl f5))]) (va_runV (As := [.int u1, .int x3]) (rest := []) ⟨hx, hb, hml, hown, hts⟩ (k_X2_distanceOfPaint l D cI cZ cC cS H.size a1 a3 a5 (w1_0) (w1_2) (w1_4) (w1_5) (w1_6) (w1_7) (w1_8) (w1_9) (w1_10) (w1_11) f3 f5 u1 x3 r9 hcr9) (cwV 2 hts gX0_nearestPot_X2_distanceOfPaint rfl rfl rfl nd_X2_distanceOfPaint ⟨Nat.le_of_ble_eq_true rfl, Nat.le_of_ble_eq_true rfl⟩) (PB.preV (ci := 2) (q0 := 1) hKU hP hD [1, 2, 3] rfl rfl rfl rfl) rfl rfl hl.1 rfl (lv_room (Nat.le_of_ble_eq_true rfl)) dX0_nearestPot_36 ⟨Nat.zero_le _, Nat.zero_le _⟩) hS hP hD hA [1, 2, 3] rfl rfl (by first | (simp only [wset, List.set_cons_zero, List.set_cons_succ]; done) | rfl) rfl (fun H locs hP hD hS => ?_)
    refine lv_istore (lv' := [(5, .int r9), (0, .ref a0), (1, .int u1), (2, .int x1), (3, .int x2), (4, .int x3)]) hx hb dX0_nearestPot_39 hl (by decide) rfl (fun ls hl => ?_)
    refine lv_iload hx hb dX0_nearestPot_41 (lv_at hl 0 rfl) ?_
    refine lv_iload_n hx hb dX0_nearestPot_43 rfl (lv_at hl 4 rfl) ?_
    refine lv_icmp_ge (tgt := 53) hx hb dX0_nearestPot_44 (by decide) (fun c10 => ?_) (fun c10 => ?_)
    · have hsp := itT hsp c10
      obtain ⟨x11, ex11, hsp⟩ := nmE hsp
      refine lv_iinc (k := 5) (v := x11) (lv' := [(4, .int x11), (5, .int r9), (0, .ref a0), (1, .int u1), (2, .int x1), (3, .int x2)]) hx hb dX0_nearestPot_53 hl rfl (by rw [ex11]; rfl) (by decide) rfl (fun ls hl => ?_)
      refine lv_goto (tgt := 10) hx hb dX0_nearestPot_56 (by decide) ?_
      exact ih1 (x1, x2, x11) _ _ hsp hP hD hS _ (lv_sub hl [2, 3, 4, 5, 0] rfl)
    have hsp := itF hsp c10
    refine lv_iload hx hb dX0_nearestPot_47 (lv_at hl 0 rfl) ?_
    refine lv_istore_n (lv' := [(3, .int r9), (5, .int r9), (0, .ref a0), (1, .int u1), (2, .int x1), (4, .int x3)]) hx hb dX0_nearestPot_49 rfl hl (by decide) rfl (fun ls hl => ?_)
    refine lv_iload hx hb dX0_nearestPot_50 (lv_at hl 5 rfl) ?_
    refine lv_istore_n (lv' := [(2, .int x3), (3, .int r9), (5, .int r9), (0, .ref a0), (1, .int u1), (4, .int x3)]) hx hb dX0_nearestPot_52 rfl hl (by decide) rfl (fun ls hl => ?_)
    obtain ⟨x12, ex12, hsp⟩ := nmE hsp
    refine lv_iinc (k := 5) (v := x12) (lv' := [(4, .int x12), (2, .int x3), (3, .int r9), (5, .int r9), (0, .ref a0), (1, .int u1)]) hx hb dX0_nearestPot_53 hl rfl (by rw [ex12]; rfl) (by decide) rfl (fun ls hl => ?_)
    refine lv_goto (tgt := 10) hx hb dX0_nearestPot_56 (by decide) ?_
    exact ih1 (x3, r9, x12) _ _ hsp hP hD hS _ (lv_sub hl [4, 5, 1, 2, 0] rfl)

theorem nd_X4_write : yX4_write.cls = RX4 ∧ yX4_write.cls ≠ "java/lang/invoke/MethodHandle" ∧ yX4_write.cls ≠ "java/lang/invoke/VarHandle" ∧ (parseMethodDescriptor yX4_write.desc).map (fun d => d.parameters.length) = some 3 := by decide +kernel
set_option maxHeartbeats 8000000 in
set_option maxRecDepth 100000 in
theorem k_X4_write (l : Launch) (D : va_G) (cI cZ cC cS : ClassId) (sz : Nat) (a0 : Nat) (n0 : Nat) (f0 : Nat → Int32) (u1 : Int32) (u2 : Int32) (res : (Nat → Int32)) (hsp : s_X4_write n0 f0 u1 u2 = some res) : Met l yX4_write wsX4_write ({ frames := 0, cells := 0, slots := 0, locals := 0 }) (va_Pc [.ref a0, .int u1, .int u2] (PB D cI cZ cC cS [(a0, .inl (cI, n0, .inl f0))] sz)) (va_Qv (fun (_ : Unit) => True) (fun _ t => va_P D vwCl [(a0, .inl (cI, n0, .inl res))] t.heap) (va_A [(a0, .inl (cI, n0, .inl f0))] sz)) 0 0 (va_A [(a0, .inl (cI, n0, .inl f0))] sz) := by
  refine Met.ofW (cc := cX4_write) (maxL := 3) (ret := none) (by decide) rfl ?_
  intro p e s m args below meth c s₁ B hml hv
  obtain ⟨rfl, hsz, hP, hD0, hKU⟩ := hv
  have hx := B.exec
  have hb := B.bytes
  have hr := B.returns
  have hts := atoms_spec (ws := wsX4_write) B.pre
  have hown : s.vm.findClass RX4 = some m.cls := findClass_of_methodNamed B.named
  have hlocks := B.notSynchronized
  have hK := hKU.1
  subst hsz
  have hD := hD0.self (sz := s.heap.size)
  generalize hAe : va_A [(a0, .inl (cI, n0, .inl f0))] s.heap.size = A at hD ⊢
  have hA : ∀ q : Nat, s.heap.size ≤ q → A q := fun q h => by rw [← hAe]; exact Or.inr h
  have hP : va_P D vwCl [(a0, .inl (cI, n0, .inl f0))] s.heap := hP
  generalize hHe : s.heap = H at hP ⊢
  have hS : va_S A s.heap H [] := by rw [hHe]; exact va_S.rf
  have hl := lv_entry ([.ref a0, .int u1, .int u2]) (n := 3) (Nat.le_of_ble_eq_true rfl)
  rw [lg_entry_eq]
  generalize (lg_sl ([.ref a0, .int u1, .int u2]) ++ List.replicate (3 - (lg_sl ([.ref a0, .int u1, .int u2])).length) Slot.unset).toArray = ls at hl ⊢
  have hl : lv_has ls 3 [(0, .ref a0), (1, .int u1), (2, .int u2)] := hl
  unfold s_X4_write at hsp
  refine lv_aload_n hx hb dX4_write_0 rfl (lv_at hl 0 rfl) ?_
  refine lv_ifnull hx hb dX4_write_1 ?_
  refine lv_iload_n hx hb dX4_write_4 rfl (lv_at hl 1 rfl) ?_
  refine lv_if_lt (tgt := 18) hx hb dX4_write_5 (by decide) (fun c1 => ?_) (fun c1 => ?_)
  · have hsp := itT hsp c1
    have hres := Option.some.inj hsp
    subst hres
    exact W.vret hx hb hr (fun t ht hW => ⟨⟨(), rfl, trivial, P_at ht hP⟩, hS.F ht⟩) hS.2.2 dX4_write_18
  have hsp := itF hsp c1
  refine lv_iload_n hx hb dX4_write_8 rfl (lv_at hl 1 rfl) ?_
  refine lv_aload_n hx hb dX4_write_9 rfl (lv_at hl 0 rfl) ?_
  refine va_alen (v := Int32.ofNat n0) hx hb hK hP 0 0 rfl rfl rfl dX4_write_10 ?_
  refine lv_icmp_ge (tgt := 18) hx hb dX4_write_11 (by decide) (fun c2 => ?_) (fun c2 => ?_)
  · have hsp := itT hsp c2
    have hres := Option.some.inj hsp
    subst hres
    exact W.vret hx hb hr (fun t ht hW => ⟨⟨(), rfl, trivial, P_at ht hP⟩, hS.F ht⟩) hS.2.2 dX4_write_18
  have hsp := itF hsp c2
  refine lv_aload_n hx hb dX4_write_14 rfl (lv_at hl 0 rfl) ?_
  refine lv_iload_n hx hb dX4_write_15 rfl (lv_at hl 1 rfl) ?_
  refine lv_iload_n hx hb dX4_write_16 rfl (lv_at hl 2 rfl) ?_
  obtain ⟨y3, ey3, hny3, hsp⟩ := stoE hsp
  refine r_iast (ws' := [(a0, .inl (cI, n0, .inl y3))]) hx hb hK hP hD hS 0 0 rfl rfl ey3 hny3 rfl dX4_write_17 (fun H locs hP hD hS => ?_)
  have hres := Option.some.inj hsp
  subst hres
  exact W.vret hx hb hr (fun t ht hW => ⟨⟨(), rfl, trivial, P_at ht hP⟩, hS.F ht⟩) hS.2.2 dX4_write_18

theorem nd_X0_choosePots : yX0_choosePots.cls = RX0 ∧ yX0_choosePots.cls ≠ "java/lang/invoke/MethodHandle" ∧ yX0_choosePots.cls ≠ "java/lang/invoke/VarHandle" ∧ (parseMethodDescriptor yX0_choosePots.desc).map (fun d => d.parameters.length) = some 0 := by decide +kernel
set_option maxHeartbeats 8000000 in
set_option maxRecDepth 100000 in
theorem k_X0_choosePots (l : Launch) (D : va_G) (cI cZ cC cS : ClassId) (sz : Nat) (a0 a1 a3 a5 a13 : Nat) (w0_1 : Value) (w0_2 : Value) (w0_3 : Value) (w0_5 : Value) (w1_0 : Value) (w1_2 : Value) (w1_4 : Value) (w1_5 : Value) (w1_6 : Value) (w1_7 : Value) (w1_8 : Value) (w1_9 : Value) (w1_10 : Value) (w1_11 : Value) (f3 : Nat → Int32) (f5 : Nat → Int32) (f13 : Nat → Int32) (res : Int32 × (Nat → Int32)) (hsp : s_X0_choosePots f3 f5 f13 = some res) : Met l yX0_choosePots wsX0_choosePots ({ frames := 4, cells := 0, slots := 0, locals := 96 }) (va_Pc [.ref a0] (PB D cI cZ cC cS [(a0, .inr (0, [.ref a1, w0_1, w0_2, w0_3, .ref a13, w0_5])), (a1, .inr (2, [w1_0, .ref a3, w1_2, .ref a5, w1_4, w1_5, w1_6, w1_7, w1_8, w1_9, w1_10, w1_11])), (a3, .inl (cI, 36, .inl f3)), (a5, .inl (cI, 18, .inl f5)), (a13, .inl (cI, 6, .inl f13))] sz)) (va_Qi (fun r (_ : Unit) => r = res.1 ∧ (res.1 = 0 ∨ res.1 = 1)) (fun _ t => va_P D vwCl [(a0, .inr (0, [.ref a1, w0_1, w0_2, w0_3, .ref a13, w0_5])), (a1, .inr (2, [w1_0, .ref a3, w1_2, .ref a5, w1_4, w1_5, w1_6, w1_7, w1_8, w1_9, w1_10, w1_11])), (a3, .inl (cI, 36, .inl f3)), (a5, .inl (cI, 18, .inl f5)), (a13, .inl (cI, 6, .inl res.2))] t.heap) (va_A [(a0, .inr (0, [.ref a1, w0_1, w0_2, w0_3, .ref a13, w0_5])), (a1, .inr (2, [w1_0, .ref a3, w1_2, .ref a5, w1_4, w1_5, w1_6, w1_7, w1_8, w1_9, w1_10, w1_11])), (a3, .inl (cI, 36, .inl f3)), (a5, .inl (cI, 18, .inl f5)), (a13, .inl (cI, 6, .inl f13))] sz)) 0 0 (va_A [(a0, .inr (0, [.ref a1, w0_1, w0_2, w0_3, .ref a13, w0_5])), (a1, .inr (2, [w1_0, .ref a3, w1_2, .ref a5, w1_4, w1_5, w1_6, w1_7, w1_8, w1_9, w1_10, w1_11])), (a3, .inl (cI, 36, .inl f3)), (a5, .inl (cI, 18, .inl f5)), (a13, .inl (cI, 6, .inl f13))] sz) := by
  refine Met.ofW (cc := cX0_choosePots) (maxL := 2) (ret := (some .boolean)) (by decide) rfl ?_
  intro p e s m args below meth c s₁ B hml hv
  obtain ⟨rfl, hsz, hP, hD0, hKU⟩ := hv
  have hx := B.exec
  have hb := B.bytes
  have hr := B.returns
  have hts := atoms_spec (ws := wsX0_choosePots) B.pre
  have hown : s.vm.findClass RX0 = some m.cls := findClass_of_methodNamed B.named
  have hlocks := B.notSynchronized
  have hK := hKU.1
  have hf_25 := hts (.fieldLink RX0 25 "ThinnedPots$Advice" "potFor" "[I") (by decide +kernel)
  have hi_X0 : ∀ w ∈ u_ws RX0 TX0 6, w ∈ wsX0_choosePots := by decide +kernel
  have hst_X4_at := hts (.static yX4_at) (by decide +kernel)
  have hin_X4 := hts (.initialized RX4) (by decide +kernel)
  have hst_X4_write := hts (.static yX4_write) (by decide +kernel)
  subst hsz
  have hD := hD0.self (sz := s.heap.size)
  generalize hAe : va_A [(a0, .inr (0, [.ref a1, w0_1, w0_2, w0_3, .ref a13, w0_5])), (a1, .inr (2, [w1_0, .ref a3, w1_2, .ref a5, w1_4, w1_5, w1_6, w1_7, w1_8, w1_9, w1_10, w1_11])), (a3, .inl (cI, 36, .inl f3)), (a5, .inl (cI, 18, .inl f5)), (a13, .inl (cI, 6, .inl f13))] s.heap.size = A at hD ⊢
  have hA : ∀ q : Nat, s.heap.size ≤ q → A q := fun q h => by rw [← hAe]; exact Or.inr h
  have hP : va_P D vwCl [(a0, .inr (0, [.ref a1, w0_1, w0_2, w0_3, .ref a13, w0_5])), (a1, .inr (2, [w1_0, .ref a3, w1_2, .ref a5, w1_4, w1_5, w1_6, w1_7, w1_8, w1_9, w1_10, w1_11])), (a3, .inl (cI, 36, .inl f3)), (a5, .inl (cI, 18, .inl f5)), (a13, .inl (cI, 6, .inl f13))] s.heap := hP
  generalize hHe : s.heap = H at hP ⊢
  have hS : va_S A s.heap H [] := by rw [hHe]; exact va_S.rf
  have hl := lv_entry ([.ref a0]) (n := 2) (Nat.le_of_ble_eq_true rfl)
  rw [lg_entry_eq]
  generalize (lg_sl ([.ref a0]) ++ List.replicate (2 - (lg_sl ([.ref a0])).length) Slot.unset).toArray = ls at hl ⊢
  have hl : lv_has ls 2 [(0, .ref a0)] := hl
  unfold s_X0_choosePots at hsp
  refine lv_iconst (v := 0) hx hb dX0_choosePots_0 (by decide) ?_
  refine lv_istore_n (lv' := [(1, .int 0), (0, .ref a0)]) hx hb dX0_choosePots_1 rfl hl (by decide) rfl (fun ls hl => ?_)
  refine ex_rule (D := D) (K := s_X0_choosePots_X1) (P := fun (t1 : (Nat → Int32)) => [(a0, .inr (0, [.ref a1, w0_1, w0_2, w0_3, .ref a13, w0_5])), (a1, .inr (2, [w1_0, .ref a3, w1_2, .ref a5, w1_4, w1_5, w1_6, w1_7, w1_8, w1_9, w1_10, w1_11])), (a3, .inl (cI, 36, .inl f3)), (a5, .inl (cI, 18, .inl f5)), (a13, .inl (cI, 6, .inl t1))]) (L := fun (t1 : (Nat → Int32)) => [(0, .ref a0)]) (nL := 2) (pcx := 27) (res := res) (A := A) (H0 := s.heap) ?_ (fun hx1 => ?_)
  · intro t1 H locs hsp hP hD hS ls hl
    obtain ⟨y3, rfl⟩ : ∃ z, z = t1 := ⟨_, rfl⟩
    unfold s_X0_choosePots_X1 at hsp; try dsimp only at hsp
    have hP : va_P D vwCl [(a0, .inr (0, [.ref a1, w0_1, w0_2, w0_3, .ref a13, w0_5])), (a1, .inr (2, [w1_0, .ref a3, w1_2, .ref a5, w1_4, w1_5, w1_6, w1_7, w1_8, w1_9, w1_10, w1_11])), (a3, .inl (cI, 36, .inl f3)), (a5, .inl (cI, 18, .inl f5)), (a13, .inl (cI, 6, .inl y3))] H := hP
    have hD : va_D A [(a0, .inr (0, [.ref a1, w0_1, w0_2, w0_3, .ref a13, w0_5])), (a1, .inr (2, [w1_0, .ref a3, w1_2, .ref a5, w1_4, w1_5, w1_6, w1_7, w1_8, w1_9, w1_10, w1_11])), (a3, .inl (cI, 36, .inl f3)), (a5, .inl (cI, 18, .inl f5)), (a13, .inl (cI, 6, .inl y3))] := hD
    have hl : lv_has ls 2 [(0, .ref a0)] := hl
    refine lv_aload_n hx hb dX0_choosePots_27 rfl (lv_at hl 0 rfl) ?_
    refine va_get (D := D) (ci := 0) (v := .ref a13) (C := RX0) (T := TX0) (N := 6) hx hb hts hi_X0 hown hK hP 0 rfl rfl 4 (by decide) hf_25 (fun _ h9 => h9) rfl dX0_choosePots_28 ?_
    refine lv_iconst (v := 0) hx hb dX0_choosePots_31 (by decide) ?_
    obtain ⟨r4, hcr4, hsp⟩ := clE hsp
    refine call_i (w1 := [(a13, .inl (cI, 6, .inl y3))]) (ws' := [(a0, .inr (0, [.ref a1, w0_1, w0_2, w0_3, .ref a13, w0_5])), (a1, .inr (2, [w1_0, .ref a3, w1_2, .ref a5, w1_4, w1_5, w1_6, w1_7, w1_8, w1_9, w1_10, w1_11])), (a3, .inl (cI, 36, .inl f3)), (a5, .inl (cI, 18, .inl f5)), (a13, .inl (cI, 6, .inl y3))]) (va_runSN (As := [.ref a13, .int 0]) (rest := []) ⟨hx, hb, hml, hown, hts⟩ (k_X4_at l D cI cZ cC cS H.size a13 6 y3 0 r4 hcr4) ⟨va_cnB 2 hts gX0_choosePots_X4_at_n70 rfl rfl rfl (mn_Advice_70 hKU.2.2) hin_X4 nd_X4_at.2 ⟨Nat.le_of_ble_eq_true rfl, Nat.le_of_ble_eq_true rfl⟩, hst_X4_at, trivial⟩ (PB.preS hKU hP hD [4] rfl rfl) rfl rfl hl.1 rfl (lv_room (Nat.le_of_ble_eq_true rfl)) dX0_choosePots_32 ⟨Nat.zero_le _, Nat.zero_le _⟩) hS hP hD hA [4] rfl rfl (by first | (simp only [wset, List.set_cons_zero, List.set_cons_succ]; done) | rfl) rfl (fun H locs hP hD hS => ?_)
    refine lv_bipush (v := (-6)) hx hb dX0_choosePots_35 (by decide) ?_
    refine lv_icmp_eq (tgt := 44) hx hb dX0_choosePots_37 (by decide) (fun c5 => ?_) (fun c5 => ?_)
    · have hsp := itT hsp c5
      refine lv_iconst (v := 0) hx hb dX0_choosePots_44 (by decide) ?_
      have hres := Option.some.inj hsp
      subst hres
      exact W.zret (v := 0) hx hb hr (zE (Or.inl rfl)) (fun t ht hW => ⟨⟨0, (), rfl, ⟨rfl, (Or.inl rfl)⟩, P_at ht hP⟩, hS.F ht⟩) hS.2.2 dX0_choosePots_45
    have hsp := itF hsp c5
    refine lv_iconst (v := 1) hx hb dX0_choosePots_40 (by decide) ?_
    refine lv_goto (tgt := 45) hx hb dX0_choosePots_41 (by decide) ?_
    have hres := Option.some.inj hsp
    subst hres
    exact W.zret (v := 1) hx hb hr (zE (Or.inr rfl)) (fun t ht hW => ⟨⟨1, (), rfl, ⟨rfl, (Or.inr rfl)⟩, P_at ht hP⟩, hS.F ht⟩) hS.2.2 dX0_choosePots_45
  have hl := lv_sub hl (l' := [(0, .ref a0), (1, .int 0)]) [1, 0] rfl
  refine lp_rule (D := D) (F := s_X0_choosePots_L1 f3 f5 (s_X0_choosePots_X1)) (P := fun (tv : Int32 × (Nat → Int32)) => [(a0, .inr (0, [.ref a1, w0_1, w0_2, w0_3, .ref a13, w0_5])), (a1, .inr (2, [w1_0, .ref a3, w1_2, .ref a5, w1_4, w1_5, w1_6, w1_7, w1_8, w1_9, w1_10, w1_11])), (a3, .inl (cI, 36, .inl f3)), (a5, .inl (cI, 18, .inl f5)), (a13, .inl (cI, 6, .inl tv.2))]) (L := fun (tv : Int32 × (Nat → Int32)) => [(0, .ref a0), (1, .int tv.1)]) (nL := 2) (res := res) (A := A) (H0 := s.heap) (fun _ => rfl) ?_ 1000 (0, f13) _ _ hsp hP hD hS _ hl
  · intro n1 ih1 tv H locs hsp hP hD hS ls hl
    obtain ⟨x1, y2⟩ := tv
    have hsp : s_X0_choosePots_B1  f3 f5 (s_X0_choosePots_X1) (s_X0_choosePots_L1 f3 f5 (s_X0_choosePots_X1) n1) x1 y2 = some res := hsp
    unfold s_X0_choosePots_B1 at hsp
    have hP : va_P D vwCl [(a0, .inr (0, [.ref a1, w0_1, w0_2, w0_3, .ref a13, w0_5])), (a1, .inr (2, [w1_0, .ref a3, w1_2, .ref a5, w1_4, w1_5, w1_6, w1_7, w1_8, w1_9, w1_10, w1_11])), (a3, .inl (cI, 36, .inl f3)), (a5, .inl (cI, 18, .inl f5)), (a13, .inl (cI, 6, .inl y2))] H := hP
    have hD : va_D A [(a0, .inr (0, [.ref a1, w0_1, w0_2, w0_3, .ref a13, w0_5])), (a1, .inr (2, [w1_0, .ref a3, w1_2, .ref a5, w1_4, w1_5, w1_6, w1_7, w1_8, w1_9, w1_10, w1_11])), (a3, .inl (cI, 36, .inl f3)), (a5, .inl (cI, 18, .inl f5)), (a13, .inl (cI, 6, .inl y2))] := hD
    have hl : lv_has ls 2 [(0, .ref a0), (1, .int x1)] := hl
    refine lv_iload_n hx hb dX0_choosePots_2 rfl (lv_at hl 1 rfl) ?_
    refine lv_bipush (v := 6) hx hb dX0_choosePots_3 (by decide) ?_
    refine lv_icmp_ge (tgt := 27) hx hb dX0_choosePots_5 (by decide) (fun c6 => ?_) (fun c6 => ?_)
    · have hsp := itT hsp c6
      exact hx1 y2 _ _ hsp hP hD hS _ (lv_sub hl [0] rfl)
    have hsp := itF hsp c6
    refine lv_aload_n hx hb dX0_choosePots_8 rfl (lv_at hl 0 rfl) ?_
    refine va_get (D := D) (ci := 0) (v := .ref a13) (C := RX0) (T := TX0) (N := 6) hx hb hts hi_X0 hown hK hP 0 rfl rfl 4 (by decide) hf_25 (fun _ h9 => h9) rfl dX0_choosePots_9 ?_
    refine lv_iload_n hx hb dX0_choosePots_12 rfl (lv_at hl 1 rfl) ?_
    refine lv_aload_n hx hb dX0_choosePots_13 rfl (lv_at hl 0 rfl) ?_
    refine lv_iload_n hx hb dX0_choosePots_14 rfl (lv_at hl 1 rfl) ?_
    obtain ⟨r7, hcr7, hsp⟩ := clE hsp
    refine call_i (w1 := [(a0, .inr (0, [.ref a1, w0_1, w0_2, w0_3, .ref a13, w0_5])), (a1, .inr (2, [w1_0, .ref a3, w1_2, .ref a5, w1_4, w1_5, w1_6, w1_7, w1_8, w1_9, w1_10, w1_11])), (a3, .inl (cI, 36, .inl f3)), (a5, .inl (cI, 18, .inl f5))]) (ws' := [(a0, .inr (0, [.ref a1, w0_1, w0_2, w0_3, .ref a13, w0_5])), (a1, .inr (2, [w1_0, .ref a3, w1_2, .ref a5, w1_4, w1_5, w1_6, w1_7, w1_8, w1_9, w1_10, w1_11])), (a3, .inl (cI, 36, .inl f3)), (a5, .inl (cI, 18, .inl f5)), (a13, .inl (cI, 6, .inl y2))]) (va_runV (As := [.int x1]) (rest := [.int x1, .ref a13]) ⟨hx, hb, hml, hown, hts⟩ (k_X0_nearestPot l D cI cZ cC cS H.size a0 a1 a3 a5 (w0_1) (w0_2) (w0_3) (.ref a13) (w0_5) (w1_0) (w1_2) (w1_4) (w1_5) (w1_6) (w1_7) (w1_8) (w1_9) (w1_10) (w1_11) f3 f5 x1 r7 hcr7) (cwV 1 hts gX0_choosePots_X0_nearestPot rfl rfl rfl nd_X0_nearestPot ⟨Nat.le_of_ble_eq_true rfl, Nat.le_of_ble_eq_true rfl⟩) (PB.preV (ci := 0) (q0 := 0) hKU hP hD [0, 1, 2, 3] rfl rfl rfl rfl) rfl rfl hl.1 rfl (lv_room (Nat.le_of_ble_eq_true rfl)) dX0_choosePots_15 ⟨Nat.zero_le _, Nat.zero_le _⟩) hS hP hD hA [0, 1, 2, 3] rfl rfl (by first | (simp only [wset, List.set_cons_zero, List.set_cons_succ]; done) | rfl) rfl (fun H locs hP hD hS => ?_)
    obtain ⟨r8, hcr8, hsp⟩ := clE hsp
    refine call_v (w1 := [(a13, .inl (cI, 6, .inl r8))]) (ws' := [(a0, .inr (0, [.ref a1, w0_1, w0_2, w0_3, .ref a13, w0_5])), (a1, .inr (2, [w1_0, .ref a3, w1_2, .ref a5, w1_4, w1_5, w1_6, w1_7, w1_8, w1_9, w1_10, w1_11])), (a3, .inl (cI, 36, .inl f3)), (a5, .inl (cI, 18, .inl f5)), (a13, .inl (cI, 6, .inl r8))]) (va_runSN (As := [.ref a13, .int x1, .int r7]) (rest := []) ⟨hx, hb, hml, hown, hts⟩ (k_X4_write l D cI cZ cC cS H.size a13 6 y2 x1 r7 r8 hcr8) ⟨va_cnB 3 hts gX0_choosePots_X4_write_n62 rfl rfl rfl (mn_Advice_62 hKU.2.2) hin_X4 nd_X4_write.2 ⟨Nat.le_of_ble_eq_true rfl, Nat.le_of_ble_eq_true rfl⟩, hst_X4_write, trivial⟩ (PB.preS hKU hP hD [4] rfl rfl) rfl rfl hl.1 rfl (lv_room (Nat.le_of_ble_eq_true rfl)) dX0_choosePots_18 ⟨Nat.zero_le _, Nat.zero_le _⟩) hS hP hD hA [4] rfl rfl (by first | (simp only [wset, List.set_cons_zero, List.set_cons_succ]; done) | rfl) rfl (fun H locs hP hD hS => ?_)
    obtain ⟨x9, ex9, hsp⟩ := nmE hsp
    refine lv_iinc (k := 1) (v := x9) (lv' := [(1, .int x9), (0, .ref a0)]) hx hb dX0_choosePots_21 hl rfl (by rw [ex9]; rfl) (by decide) rfl (fun ls hl => ?_)
    refine lv_goto (tgt := 2) hx hb dX0_choosePots_24 (by decide) ?_
    exact ih1 (x9, r8) _ _ hsp hP hD hS _ (lv_sub hl [1, 0] rfl)

theorem nd_X0_init : yX0_init.cls = RX0 ∧ yX0_init.cls ≠ "java/lang/invoke/MethodHandle" ∧ yX0_init.cls ≠ "java/lang/invoke/VarHandle" ∧ (parseMethodDescriptor yX0_init.desc).map (fun d => d.parameters.length) = some 1 := by decide +kernel
set_option maxHeartbeats 8000000 in
set_option maxRecDepth 100000 in
theorem k_X0_init (l : Launch) (D : va_G) (cI cZ cC cS : ClassId) (sz : Nat) (a0 a1 : Nat) (res : Unit) (hsp : s_X0_init = some res) : Met l yX0_init wsX0_init ({ frames := 1, cells := 5, slots := 23, locals := 24 }) (va_Pc [.ref a0, .ref a1] (PB D cI cZ cC cS [(a0, .inr (0, [.null, .null, .null, .null, .null, .null]))] sz)) (va_Qv (fun (_ : Unit) => True) (fun _ t => ∃ bz : Nat → Nat, va_P D vwCl [(a0, .inr (0, [.ref a1, .ref (bz 0), .ref (bz 1), .ref (bz 2), .ref (bz 3), .ref (bz 4)])), ((bz 0), .inl (cI, 5, .inl (fun _ => 0))), ((bz 1), .inl (cI, 3, .inl (fun _ => 0))), ((bz 2), .inl (cI, 3, .inl (fun _ => 0))), ((bz 3), .inl (cI, 6, .inl (fun _ => 0))), ((bz 4), .inl (cI, 6, .inl (fun _ => 0)))] t.heap ∧ va_D (va_A [(a0, .inr (0, [.null, .null, .null, .null, .null, .null]))] sz) [(a0, .inr (0, [.ref a1, .ref (bz 0), .ref (bz 1), .ref (bz 2), .ref (bz 3), .ref (bz 4)])), ((bz 0), .inl (cI, 5, .inl (fun _ => 0))), ((bz 1), .inl (cI, 3, .inl (fun _ => 0))), ((bz 2), .inl (cI, 3, .inl (fun _ => 0))), ((bz 3), .inl (cI, 6, .inl (fun _ => 0))), ((bz 4), .inl (cI, 6, .inl (fun _ => 0)))]) (va_A [(a0, .inr (0, [.null, .null, .null, .null, .null, .null]))] sz)) 5 23 (va_A [(a0, .inr (0, [.null, .null, .null, .null, .null, .null]))] sz) := by
  refine Met.ofW (cc := cX0_init) (maxL := 2) (ret := none) (by decide) rfl ?_
  intro p e s m args below meth c s₁ B hml hv
  obtain ⟨rfl, hsz, hP, hD0, hKU⟩ := hv
  have hx := B.exec
  have hb := B.bytes
  have hr := B.returns
  have hts := atoms_spec (ws := wsX0_init) B.pre
  have hown : s.vm.findClass RX0 = some m.cls := findClass_of_methodNamed B.named
  have hlocks := B.notSynchronized
  have hK := hKU.1
  have hin : meth.name = "<init>" := (name_of_methodNamed B.named B.method).1
  have ho_l3 := hts (.methodLink RX0 3 objectInit) (by decide +kernel)
  have ho_i := hts (.instanceMethod objectInit) (by decide +kernel)
  have ho_c := hts (.code objectInit ⟨#[0xb1]⟩ 1 none) (by decide +kernel)
  have hf_9 := hts (.fieldLink RX0 9 "ThinnedPots$Advice" "studio" "LThinnedPots$Studio;") (by decide +kernel)
  have hi_X0 : ∀ w ∈ u_ws RX0 TX0 6, w ∈ wsX0_init := by decide +kernel
  have har_I := hts (.arrayClass .int) (by decide +kernel)
  have hf_15 := hts (.fieldLink RX0 15 "ThinnedPots$Advice" "best" "[I") (by decide +kernel)
  have hf_19 := hts (.fieldLink RX0 19 "ThinnedPots$Advice" "ofLower" "[I") (by decide +kernel)
  have hf_22 := hts (.fieldLink RX0 22 "ThinnedPots$Advice" "ofGreater" "[I") (by decide +kernel)
  have hf_25 := hts (.fieldLink RX0 25 "ThinnedPots$Advice" "potFor" "[I") (by decide +kernel)
  have hf_28 := hts (.fieldLink RX0 28 "ThinnedPots$Advice" "order" "[I") (by decide +kernel)
  subst hsz
  have hD := hD0.self (sz := s.heap.size)
  generalize hAe : va_A [(a0, .inr (0, [.null, .null, .null, .null, .null, .null]))] s.heap.size = A at hD ⊢
  have hA : ∀ q : Nat, s.heap.size ≤ q → A q := fun q h => by rw [← hAe]; exact Or.inr h
  have hP : va_P D vwCl [(a0, .inr (0, [.null, .null, .null, .null, .null, .null]))] s.heap := hP
  generalize hHe : s.heap = H at hP ⊢
  have hS : va_S A s.heap H [] := by rw [hHe]; exact va_S.rf
  have hl := lv_entry ([.ref a0, .ref a1]) (n := 2) (Nat.le_of_ble_eq_true rfl)
  rw [lg_entry_eq]
  generalize (lg_sl ([.ref a0, .ref a1]) ++ List.replicate (2 - (lg_sl ([.ref a0, .ref a1])).length) Slot.unset).toArray = ls at hl ⊢
  have hl : lv_has ls 2 [(0, .ref a0), (1, .ref a1)] := hl
  unfold s_X0_init at hsp
  refine lv_aload_n hx hb dX0_init_0 rfl (lv_at hl 0 rfl) ?_
  refine W.objInit hx hb hown ho_l3 ho_i ho_c rfl (by rw [hml]; exact hl.1) rfl dX0_init_1 (Nat.le_of_ble_eq_true rfl) (Nat.le_of_ble_eq_true rfl) ?_
  refine W.eq (g2 := F0 m 4 ls []) rfl ?_
  refine lv_aload_n hx hb dX0_init_4 rfl (lv_at hl 0 rfl) ?_
  refine lv_aload_n hx hb dX0_init_5 rfl (lv_at hl 1 rfl) ?_
  refine va_putF (D := D) (ci := 0) (v := .ref a1) (ty := .object "ThinnedPots$Studio") (C := RX0) (T := TX0) (N := 6) hx hb hts hi_X0 tyX0 tyX0_ok nmX0 hown hK hP hD hS 0 rfl rfl 0 (by decide) hf_9 (fun _ h9 => h9) rfl hin rfl (by decide +kernel) rfl rfl (Nat.le_of_ble_eq_true rfl) dX0_init_6 (fun H locs hP hD hS => ?_)
  have hP : va_P D vwCl [(a0, .inr (0, [.ref a1, .null, .null, .null, .null, .null]))] H := hP
  have hD : va_D A [(a0, .inr (0, [.ref a1, .null, .null, .null, .null, .null]))] := hD
  refine lv_aload_n hx hb dX0_init_9 rfl (lv_at hl 0 rfl) ?_
  refine lv_iconst (v := 5) hx hb dX0_init_10 (by decide) ?_
  refine r_newaI (N' := 5) hx hb har_I hK hP hD hS hA (by decide) rfl (Nat.le_of_ble_eq_true rfl) (Nat.le_of_ble_eq_true rfl) (Nat.le_of_ble_eq_true rfl) dX0_init_11 (fun z1 H hP hD hS => ?_)
  have hP : va_P D vwCl [(a0, .inr (0, [.ref a1, .null, .null, .null, .null, .null])), (z1, .inl (cI, 5, .inl (fun _ => 0)))] H := hP
  have hD : va_D A [(a0, .inr (0, [.ref a1, .null, .null, .null, .null, .null])), (z1, .inl (cI, 5, .inl (fun _ => 0)))] := hD
  refine W.widen (k := 1) (n := 5) (Nat.le_of_ble_eq_true rfl) (Nat.le_of_ble_eq_true rfl) ?_
  refine va_putF (D := D) (ci := 0) (v := .ref z1) (ty := .array .int) (C := RX0) (T := TX0) (N := 6) hx hb hts hi_X0 tyX0 tyX0_ok nmX0 hown hK hP hD hS 0 rfl rfl 1 (by decide) hf_15 (fun _ h9 => h9) rfl hin rfl (by decide +kernel) rfl rfl (Nat.le_of_ble_eq_true rfl) dX0_init_13 (fun H locs hP hD hS => ?_)
  have hP : va_P D vwCl [(a0, .inr (0, [.ref a1, .ref z1, .null, .null, .null, .null])), (z1, .inl (cI, 5, .inl (fun _ => 0)))] H := hP
  have hD : va_D A [(a0, .inr (0, [.ref a1, .ref z1, .null, .null, .null, .null])), (z1, .inl (cI, 5, .inl (fun _ => 0)))] := hD
  refine lv_aload_n hx hb dX0_init_16 rfl (lv_at hl 0 rfl) ?_
  refine lv_iconst (v := 3) hx hb dX0_init_17 (by decide) ?_
  refine r_newaI (N' := 3) hx hb har_I hK hP hD hS hA (by decide) rfl (Nat.le_of_ble_eq_true rfl) (Nat.le_of_ble_eq_true rfl) (Nat.le_of_ble_eq_true rfl) dX0_init_18 (fun z2 H hP hD hS => ?_)
  have hP : va_P D vwCl [(a0, .inr (0, [.ref a1, .ref z1, .null, .null, .null, .null])), (z1, .inl (cI, 5, .inl (fun _ => 0))), (z2, .inl (cI, 3, .inl (fun _ => 0)))] H := hP
  have hD : va_D A [(a0, .inr (0, [.ref a1, .ref z1, .null, .null, .null, .null])), (z1, .inl (cI, 5, .inl (fun _ => 0))), (z2, .inl (cI, 3, .inl (fun _ => 0)))] := hD
  refine W.widen (k := 2) (n := 8) (Nat.le_of_ble_eq_true rfl) (Nat.le_of_ble_eq_true rfl) ?_
  refine va_putF (D := D) (ci := 0) (v := .ref z2) (ty := .array .int) (C := RX0) (T := TX0) (N := 6) hx hb hts hi_X0 tyX0 tyX0_ok nmX0 hown hK hP hD hS 0 rfl rfl 2 (by decide) hf_19 (fun _ h9 => h9) rfl hin rfl (by decide +kernel) rfl rfl (Nat.le_of_ble_eq_true rfl) dX0_init_20 (fun H locs hP hD hS => ?_)
  have hP : va_P D vwCl [(a0, .inr (0, [.ref a1, .ref z1, .ref z2, .null, .null, .null])), (z1, .inl (cI, 5, .inl (fun _ => 0))), (z2, .inl (cI, 3, .inl (fun _ => 0)))] H := hP
  have hD : va_D A [(a0, .inr (0, [.ref a1, .ref z1, .ref z2, .null, .null, .null])), (z1, .inl (cI, 5, .inl (fun _ => 0))), (z2, .inl (cI, 3, .inl (fun _ => 0)))] := hD
  refine lv_aload_n hx hb dX0_init_23 rfl (lv_at hl 0 rfl) ?_
  refine lv_iconst (v := 3) hx hb dX0_init_24 (by decide) ?_
  refine r_newaI (N' := 3) hx hb har_I hK hP hD hS hA (by decide) rfl (Nat.le_of_ble_eq_true rfl) (Nat.le_of_ble_eq_true rfl) (Nat.le_of_ble_eq_true rfl) dX0_init_25 (fun z3 H hP hD hS => ?_)
  have hP : va_P D vwCl [(a0, .inr (0, [.ref a1, .ref z1, .ref z2, .null, .null, .null])), (z1, .inl (cI, 5, .inl (fun _ => 0))), (z2, .inl (cI, 3, .inl (fun _ => 0))), (z3, .inl (cI, 3, .inl (fun _ => 0)))] H := hP
  have hD : va_D A [(a0, .inr (0, [.ref a1, .ref z1, .ref z2, .null, .null, .null])), (z1, .inl (cI, 5, .inl (fun _ => 0))), (z2, .inl (cI, 3, .inl (fun _ => 0))), (z3, .inl (cI, 3, .inl (fun _ => 0)))] := hD
  refine W.widen (k := 3) (n := 11) (Nat.le_of_ble_eq_true rfl) (Nat.le_of_ble_eq_true rfl) ?_
  refine va_putF (D := D) (ci := 0) (v := .ref z3) (ty := .array .int) (C := RX0) (T := TX0) (N := 6) hx hb hts hi_X0 tyX0 tyX0_ok nmX0 hown hK hP hD hS 0 rfl rfl 3 (by decide) hf_22 (fun _ h9 => h9) rfl hin rfl (by decide +kernel) rfl rfl (Nat.le_of_ble_eq_true rfl) dX0_init_27 (fun H locs hP hD hS => ?_)
  have hP : va_P D vwCl [(a0, .inr (0, [.ref a1, .ref z1, .ref z2, .ref z3, .null, .null])), (z1, .inl (cI, 5, .inl (fun _ => 0))), (z2, .inl (cI, 3, .inl (fun _ => 0))), (z3, .inl (cI, 3, .inl (fun _ => 0)))] H := hP
  have hD : va_D A [(a0, .inr (0, [.ref a1, .ref z1, .ref z2, .ref z3, .null, .null])), (z1, .inl (cI, 5, .inl (fun _ => 0))), (z2, .inl (cI, 3, .inl (fun _ => 0))), (z3, .inl (cI, 3, .inl (fun _ => 0)))] := hD
  refine lv_aload_n hx hb dX0_init_30 rfl (lv_at hl 0 rfl) ?_
  refine lv_bipush (v := 6) hx hb dX0_init_31 (by decide) ?_
  refine r_newaI (N' := 6) hx hb har_I hK hP hD hS hA (by decide) rfl (Nat.le_of_ble_eq_true rfl) (Nat.le_of_ble_eq_true rfl) (Nat.le_of_ble_eq_true rfl) dX0_init_33 (fun z4 H hP hD hS => ?_)
  have hP : va_P D vwCl [(a0, .inr (0, [.ref a1, .ref z1, .ref z2, .ref z3, .null, .null])), (z1, .inl (cI, 5, .inl (fun _ => 0))), (z2, .inl (cI, 3, .inl (fun _ => 0))), (z3, .inl (cI, 3, .inl (fun _ => 0))), (z4, .inl (cI, 6, .inl (fun _ => 0)))] H := hP
  have hD : va_D A [(a0, .inr (0, [.ref a1, .ref z1, .ref z2, .ref z3, .null, .null])), (z1, .inl (cI, 5, .inl (fun _ => 0))), (z2, .inl (cI, 3, .inl (fun _ => 0))), (z3, .inl (cI, 3, .inl (fun _ => 0))), (z4, .inl (cI, 6, .inl (fun _ => 0)))] := hD
  refine W.widen (k := 4) (n := 17) (Nat.le_of_ble_eq_true rfl) (Nat.le_of_ble_eq_true rfl) ?_
  refine va_putF (D := D) (ci := 0) (v := .ref z4) (ty := .array .int) (C := RX0) (T := TX0) (N := 6) hx hb hts hi_X0 tyX0 tyX0_ok nmX0 hown hK hP hD hS 0 rfl rfl 4 (by decide) hf_25 (fun _ h9 => h9) rfl hin rfl (by decide +kernel) rfl rfl (Nat.le_of_ble_eq_true rfl) dX0_init_35 (fun H locs hP hD hS => ?_)
  have hP : va_P D vwCl [(a0, .inr (0, [.ref a1, .ref z1, .ref z2, .ref z3, .ref z4, .null])), (z1, .inl (cI, 5, .inl (fun _ => 0))), (z2, .inl (cI, 3, .inl (fun _ => 0))), (z3, .inl (cI, 3, .inl (fun _ => 0))), (z4, .inl (cI, 6, .inl (fun _ => 0)))] H := hP
  have hD : va_D A [(a0, .inr (0, [.ref a1, .ref z1, .ref z2, .ref z3, .ref z4, .null])), (z1, .inl (cI, 5, .inl (fun _ => 0))), (z2, .inl (cI, 3, .inl (fun _ => 0))), (z3, .inl (cI, 3, .inl (fun _ => 0))), (z4, .inl (cI, 6, .inl (fun _ => 0)))] := hD
  refine lv_aload_n hx hb dX0_init_38 rfl (lv_at hl 0 rfl) ?_
  refine lv_bipush (v := 6) hx hb dX0_init_39 (by decide) ?_
  refine r_newaI (N' := 6) hx hb har_I hK hP hD hS hA (by decide) rfl (Nat.le_of_ble_eq_true rfl) (Nat.le_of_ble_eq_true rfl) (Nat.le_of_ble_eq_true rfl) dX0_init_41 (fun z5 H hP hD hS => ?_)
  have hP : va_P D vwCl [(a0, .inr (0, [.ref a1, .ref z1, .ref z2, .ref z3, .ref z4, .null])), (z1, .inl (cI, 5, .inl (fun _ => 0))), (z2, .inl (cI, 3, .inl (fun _ => 0))), (z3, .inl (cI, 3, .inl (fun _ => 0))), (z4, .inl (cI, 6, .inl (fun _ => 0))), (z5, .inl (cI, 6, .inl (fun _ => 0)))] H := hP
  have hD : va_D A [(a0, .inr (0, [.ref a1, .ref z1, .ref z2, .ref z3, .ref z4, .null])), (z1, .inl (cI, 5, .inl (fun _ => 0))), (z2, .inl (cI, 3, .inl (fun _ => 0))), (z3, .inl (cI, 3, .inl (fun _ => 0))), (z4, .inl (cI, 6, .inl (fun _ => 0))), (z5, .inl (cI, 6, .inl (fun _ => 0)))] := hD
  refine W.widen (k := 5) (n := 23) (Nat.le_of_ble_eq_true rfl) (Nat.le_of_ble_eq_true rfl) ?_
  refine va_putF (D := D) (ci := 0) (v := .ref z5) (ty := .array .int) (C := RX0) (T := TX0) (N := 6) hx hb hts hi_X0 tyX0 tyX0_ok nmX0 hown hK hP hD hS 0 rfl rfl 5 (by decide) hf_28 (fun _ h9 => h9) rfl hin rfl (by decide +kernel) rfl rfl (Nat.le_of_ble_eq_true rfl) dX0_init_43 (fun H locs hP hD hS => ?_)
  have hP : va_P D vwCl [(a0, .inr (0, [.ref a1, .ref z1, .ref z2, .ref z3, .ref z4, .ref z5])), (z1, .inl (cI, 5, .inl (fun _ => 0))), (z2, .inl (cI, 3, .inl (fun _ => 0))), (z3, .inl (cI, 3, .inl (fun _ => 0))), (z4, .inl (cI, 6, .inl (fun _ => 0))), (z5, .inl (cI, 6, .inl (fun _ => 0)))] H := hP
  have hD : va_D A [(a0, .inr (0, [.ref a1, .ref z1, .ref z2, .ref z3, .ref z4, .ref z5])), (z1, .inl (cI, 5, .inl (fun _ => 0))), (z2, .inl (cI, 3, .inl (fun _ => 0))), (z3, .inl (cI, 3, .inl (fun _ => 0))), (z4, .inl (cI, 6, .inl (fun _ => 0))), (z5, .inl (cI, 6, .inl (fun _ => 0)))] := hD
  have hres := Option.some.inj hsp
  subst hres
  exact W.vret hx hb hr (fun t ht hW => ⟨⟨(), rfl, trivial, (fun k => ([z1, z2, z3, z4, z5] : List Nat).getD k 0), P_at ht hP, hD⟩, hS.F ht⟩) hS.2.2 dX0_init_46

theorem nd_X0_isFirstOfItsPot : yX0_isFirstOfItsPot.cls = RX0 ∧ yX0_isFirstOfItsPot.cls ≠ "java/lang/invoke/MethodHandle" ∧ yX0_isFirstOfItsPot.cls ≠ "java/lang/invoke/VarHandle" ∧ (parseMethodDescriptor yX0_isFirstOfItsPot.desc).map (fun d => d.parameters.length) = some 1 := by decide +kernel
set_option maxHeartbeats 8000000 in
set_option maxRecDepth 100000 in
theorem k_X0_isFirstOfItsPot (l : Launch) (D : va_G) (cI cZ cC cS : ClassId) (sz : Nat) (a0 a13 : Nat) (w0_0 : Value) (w0_1 : Value) (w0_2 : Value) (w0_3 : Value) (w0_5 : Value) (f13 : Nat → Int32) (u1 : Int32) (res : Int32) (hsp : s_X0_isFirstOfItsPot f13 u1 = some res) : Met l yX0_isFirstOfItsPot wsX0_isFirstOfItsPot ({ frames := 1, cells := 0, slots := 0, locals := 21 }) (va_Pc [.ref a0, .int u1] (PB D cI cZ cC cS [(a0, .inr (0, [w0_0, w0_1, w0_2, w0_3, .ref a13, w0_5])), (a13, .inl (cI, 6, .inl f13))] sz)) (va_Qi (fun r (_ : Unit) => r = res ∧ (res = 0 ∨ res = 1)) (fun _ t => va_P D vwCl [(a0, .inr (0, [w0_0, w0_1, w0_2, w0_3, .ref a13, w0_5])), (a13, .inl (cI, 6, .inl f13))] t.heap) (va_A [(a0, .inr (0, [w0_0, w0_1, w0_2, w0_3, .ref a13, w0_5])), (a13, .inl (cI, 6, .inl f13))] sz)) 0 0 (va_A [(a0, .inr (0, [w0_0, w0_1, w0_2, w0_3, .ref a13, w0_5])), (a13, .inl (cI, 6, .inl f13))] sz) := by
  refine Met.ofW (cc := cX0_isFirstOfItsPot) (maxL := 3) (ret := (some .boolean)) (by decide) rfl ?_
  intro p e s m args below meth c s₁ B hml hv
  obtain ⟨rfl, hsz, hP, hD0, hKU⟩ := hv
  have hx := B.exec
  have hb := B.bytes
  have hr := B.returns
  have hts := atoms_spec (ws := wsX0_isFirstOfItsPot) B.pre
  have hown : s.vm.findClass RX0 = some m.cls := findClass_of_methodNamed B.named
  have hlocks := B.notSynchronized
  have hK := hKU.1
  have hf_25 := hts (.fieldLink RX0 25 "ThinnedPots$Advice" "potFor" "[I") (by decide +kernel)
  have hi_X0 : ∀ w ∈ u_ws RX0 TX0 6, w ∈ wsX0_isFirstOfItsPot := by decide +kernel
  have hst_X4_at := hts (.static yX4_at) (by decide +kernel)
  have hin_X4 := hts (.initialized RX4) (by decide +kernel)
  subst hsz
  have hD := hD0.self (sz := s.heap.size)
  generalize hAe : va_A [(a0, .inr (0, [w0_0, w0_1, w0_2, w0_3, .ref a13, w0_5])), (a13, .inl (cI, 6, .inl f13))] s.heap.size = A at hD ⊢
  have hA : ∀ q : Nat, s.heap.size ≤ q → A q := fun q h => by rw [← hAe]; exact Or.inr h
  have hP : va_P D vwCl [(a0, .inr (0, [w0_0, w0_1, w0_2, w0_3, .ref a13, w0_5])), (a13, .inl (cI, 6, .inl f13))] s.heap := hP
  generalize hHe : s.heap = H at hP ⊢
  have hS : va_S A s.heap H [] := by rw [hHe]; exact va_S.rf
  have hl := lv_entry ([.ref a0, .int u1]) (n := 3) (Nat.le_of_ble_eq_true rfl)
  rw [lg_entry_eq]
  generalize (lg_sl ([.ref a0, .int u1]) ++ List.replicate (3 - (lg_sl ([.ref a0, .int u1])).length) Slot.unset).toArray = ls at hl ⊢
  have hl : lv_has ls 3 [(0, .ref a0), (1, .int u1)] := hl
  unfold s_X0_isFirstOfItsPot at hsp
  refine lv_iconst (v := 0) hx hb dX0_isFirstOfItsPot_0 (by decide) ?_
  refine lv_istore_n (lv' := [(2, .int 0), (0, .ref a0), (1, .int u1)]) hx hb dX0_isFirstOfItsPot_1 rfl hl (by decide) rfl (fun ls hl => ?_)
  refine ex_rule (D := D) (K := s_X0_isFirstOfItsPot_X1) (P := fun (t1 : Unit) => [(a0, .inr (0, [w0_0, w0_1, w0_2, w0_3, .ref a13, w0_5])), (a13, .inl (cI, 6, .inl f13))]) (L := fun (t1 : Unit) => []) (nL := 3) (pcx := 34) (res := res) (A := A) (H0 := s.heap) ?_ (fun hx1 => ?_)
  · intro t1 H locs hsp hP hD hS ls hl
    unfold s_X0_isFirstOfItsPot_X1 at hsp; try dsimp only at hsp
    have hP : va_P D vwCl [(a0, .inr (0, [w0_0, w0_1, w0_2, w0_3, .ref a13, w0_5])), (a13, .inl (cI, 6, .inl f13))] H := hP
    have hD : va_D A [(a0, .inr (0, [w0_0, w0_1, w0_2, w0_3, .ref a13, w0_5])), (a13, .inl (cI, 6, .inl f13))] := hD
    have hl : lv_has ls 3 [] := hl
    refine lv_iconst (v := 1) hx hb dX0_isFirstOfItsPot_34 (by decide) ?_
    have hres := Option.some.inj hsp
    subst hres
    exact W.zret (v := 1) hx hb hr (zE (Or.inr rfl)) (fun t ht hW => ⟨⟨1, (), rfl, ⟨rfl, (Or.inr rfl)⟩, P_at ht hP⟩, hS.F ht⟩) hS.2.2 dX0_isFirstOfItsPot_35
  have hl := lv_sub hl (l' := [(0, .ref a0), (1, .int u1), (2, .int 0)]) [1, 2, 0] rfl
  refine lp_rule (D := D) (F := s_X0_isFirstOfItsPot_L1 u1 f13 (s_X0_isFirstOfItsPot_X1)) (P := fun (tv : Int32) => [(a0, .inr (0, [w0_0, w0_1, w0_2, w0_3, .ref a13, w0_5])), (a13, .inl (cI, 6, .inl f13))]) (L := fun (tv : Int32) => [(0, .ref a0), (1, .int u1), (2, .int tv)]) (nL := 3) (res := res) (A := A) (H0 := s.heap) (fun _ => rfl) ?_ 1000 0 _ _ hsp hP hD hS _ hl
  · intro n1 ih1 tv H locs hsp hP hD hS ls hl
    obtain ⟨x1, rfl⟩ : ∃ z, z = tv := ⟨_, rfl⟩
    have hsp : s_X0_isFirstOfItsPot_B1  u1 f13 (s_X0_isFirstOfItsPot_X1) (s_X0_isFirstOfItsPot_L1 u1 f13 (s_X0_isFirstOfItsPot_X1) n1) x1 = some res := hsp
    unfold s_X0_isFirstOfItsPot_B1 at hsp
    have hP : va_P D vwCl [(a0, .inr (0, [w0_0, w0_1, w0_2, w0_3, .ref a13, w0_5])), (a13, .inl (cI, 6, .inl f13))] H := hP
    have hD : va_D A [(a0, .inr (0, [w0_0, w0_1, w0_2, w0_3, .ref a13, w0_5])), (a13, .inl (cI, 6, .inl f13))] := hD
    have hl : lv_has ls 3 [(0, .ref a0), (1, .int u1), (2, .int x1)] := hl
    refine lv_iload_n hx hb dX0_isFirstOfItsPot_2 rfl (lv_at hl 2 rfl) ?_
    refine lv_iload_n hx hb dX0_isFirstOfItsPot_3 rfl (lv_at hl 1 rfl) ?_
    refine lv_icmp_ge (tgt := 34) hx hb dX0_isFirstOfItsPot_4 (by decide) (fun c2 => ?_) (fun c2 => ?_)
    · have hsp := itT hsp c2
      exact hx1 () _ _ hsp hP hD hS _ (lv_sub hl [] rfl)
    have hsp := itF hsp c2
    refine lv_aload_n hx hb dX0_isFirstOfItsPot_7 rfl (lv_at hl 0 rfl) ?_
    refine va_get (D := D) (ci := 0) (v := .ref a13) (C := RX0) (T := TX0) (N := 6) hx hb hts hi_X0 hown hK hP 0 rfl rfl 4 (by decide) hf_25 (fun _ h9 => h9) rfl dX0_isFirstOfItsPot_8 ?_
    refine lv_iload_n hx hb dX0_isFirstOfItsPot_11 rfl (lv_at hl 2 rfl) ?_
    obtain ⟨r3, hcr3, hsp⟩ := clE hsp
    refine call_i (w1 := [(a13, .inl (cI, 6, .inl f13))]) (ws' := [(a0, .inr (0, [w0_0, w0_1, w0_2, w0_3, .ref a13, w0_5])), (a13, .inl (cI, 6, .inl f13))]) (va_runSN (As := [.ref a13, .int x1]) (rest := []) ⟨hx, hb, hml, hown, hts⟩ (k_X4_at l D cI cZ cC cS H.size a13 6 f13 x1 r3 hcr3) ⟨va_cnB 2 hts gX0_isFirstOfItsPot_X4_at_n70 rfl rfl rfl (mn_Advice_70 hKU.2.2) hin_X4 nd_X4_at.2 ⟨Nat.le_of_ble_eq_true rfl, Nat.le_of_ble_eq_true rfl⟩, hst_X4_at, trivial⟩ (PB.preS hKU hP hD [1] rfl rfl) rfl rfl hl.1 rfl (lv_room (Nat.le_of_ble_eq_true rfl)) dX0_isFirstOfItsPot_12 ⟨Nat.zero_le _, Nat.zero_le _⟩) hS hP hD hA [1] rfl rfl (by first | (simp only [wset, List.set_cons_zero, List.set_cons_succ]; done) | rfl) rfl (fun H locs hP hD hS => ?_)
    refine lv_aload_n hx hb dX0_isFirstOfItsPot_15 rfl (lv_at hl 0 rfl) ?_
    refine va_get (D := D) (ci := 0) (v := .ref a13) (C := RX0) (T := TX0) (N := 6) hx hb hts hi_X0 hown hK hP 0 rfl rfl 4 (by decide) hf_25 (fun _ h9 => h9) rfl dX0_isFirstOfItsPot_16 ?_
    refine lv_iload_n hx hb dX0_isFirstOfItsPot_19 rfl (lv_at hl 1 rfl) ?_
    obtain ⟨r4, hcr4, hsp⟩ := clE hsp
    refine call_i (w1 := [(a13, .inl (cI, 6, .inl f13))]) (ws' := [(a0, .inr (0, [w0_0, w0_1, w0_2, w0_3, .ref a13, w0_5])), (a13, .inl (cI, 6, .inl f13))]) (va_runSN (As := [.ref a13, .int u1]) (rest := [.int r3]) ⟨hx, hb, hml, hown, hts⟩ (k_X4_at l D cI cZ cC cS H.size a13 6 f13 u1 r4 hcr4) ⟨va_cnB 2 hts gX0_isFirstOfItsPot_X4_at_n70 rfl rfl rfl (mn_Advice_70 hKU.2.2) hin_X4 nd_X4_at.2 ⟨Nat.le_of_ble_eq_true rfl, Nat.le_of_ble_eq_true rfl⟩, hst_X4_at, trivial⟩ (PB.preS hKU hP hD [1] rfl rfl) rfl rfl hl.1 rfl (lv_room (Nat.le_of_ble_eq_true rfl)) dX0_isFirstOfItsPot_20 ⟨Nat.zero_le _, Nat.zero_le _⟩) hS hP hD hA [1] rfl rfl (by first | (simp only [wset, List.set_cons_zero, List.set_cons_succ]; done) | rfl) rfl (fun H locs hP hD hS => ?_)
    refine lv_icmp_ne (tgt := 28) hx hb dX0_isFirstOfItsPot_23 (by decide) (fun c5 => ?_) (fun c5 => ?_)
    · have hsp := itF hsp c5
      obtain ⟨x6, ex6, hsp⟩ := nmE hsp
      refine lv_iinc (k := 2) (v := x6) (lv' := [(2, .int x6), (0, .ref a0), (1, .int u1)]) hx hb dX0_isFirstOfItsPot_28 hl rfl (by rw [ex6]; rfl) (by decide) rfl (fun ls hl => ?_)
      refine lv_goto (tgt := 2) hx hb dX0_isFirstOfItsPot_31 (by decide) ?_
      exact ih1 x6 _ _ hsp hP hD hS _ (lv_sub hl [1, 2, 0] rfl)
    have hsp := itT hsp c5
    refine lv_iconst (v := 0) hx hb dX0_isFirstOfItsPot_26 (by decide) ?_
    have hres := Option.some.inj hsp
    subst hres
    exact W.zret (v := 0) hx hb hr (zE (Or.inl rfl)) (fun t ht hW => ⟨⟨0, (), rfl, ⟨rfl, (Or.inl rfl)⟩, P_at ht hP⟩, hS.F ht⟩) hS.2.2 dX0_isFirstOfItsPot_27

theorem nd_X0_mixedStrength : yX0_mixedStrength.cls = RX0 ∧ yX0_mixedStrength.cls ≠ "java/lang/invoke/MethodHandle" ∧ yX0_mixedStrength.cls ≠ "java/lang/invoke/VarHandle" ∧ (parseMethodDescriptor yX0_mixedStrength.desc).map (fun d => d.parameters.length) = some 4 := by decide +kernel
set_option maxHeartbeats 8000000 in
set_option maxRecDepth 100000 in
theorem k_X0_mixedStrength (l : Launch) (D : va_G) (cI cZ cC cS : ClassId) (sz : Nat) (a0 a11 a12 : Nat) (w0_0 : Value) (w0_1 : Value) (w0_4 : Value) (w0_5 : Value) (f11 : Nat → Int32) (f12 : Nat → Int32) (u1 : Int32) (u2 : Int32) (u3 : Int32) (u4 : Int32) (res : Int32) (hsp : s_X0_mixedStrength f11 f12 u1 u2 u3 u4 = some res) : Met l yX0_mixedStrength wsX0_mixedStrength ({ frames := 1, cells := 0, slots := 0, locals := 21 }) (va_Pc [.ref a0, .int u1, .int u2, .int u3, .int u4] (PB D cI cZ cC cS [(a0, .inr (0, [w0_0, w0_1, .ref a11, .ref a12, w0_4, w0_5])), (a11, .inl (cI, 3, .inl f11)), (a12, .inl (cI, 3, .inl f12))] sz)) (va_Qi (fun r (_ : Unit) => r = res) (fun _ t => va_P D vwCl [(a0, .inr (0, [w0_0, w0_1, .ref a11, .ref a12, w0_4, w0_5])), (a11, .inl (cI, 3, .inl f11)), (a12, .inl (cI, 3, .inl f12))] t.heap) (va_A [(a0, .inr (0, [w0_0, w0_1, .ref a11, .ref a12, w0_4, w0_5])), (a11, .inl (cI, 3, .inl f11)), (a12, .inl (cI, 3, .inl f12))] sz)) 0 0 (va_A [(a0, .inr (0, [w0_0, w0_1, .ref a11, .ref a12, w0_4, w0_5])), (a11, .inl (cI, 3, .inl f11)), (a12, .inl (cI, 3, .inl f12))] sz) := by
  refine Met.ofW (cc := cX0_mixedStrength) (maxL := 5) (ret := (some .int)) (by decide) rfl ?_
  intro p e s m args below meth c s₁ B hml hv
  obtain ⟨rfl, hsz, hP, hD0, hKU⟩ := hv
  have hx := B.exec
  have hb := B.bytes
  have hr := B.returns
  have hts := atoms_spec (ws := wsX0_mixedStrength) B.pre
  have hown : s.vm.findClass RX0 = some m.cls := findClass_of_methodNamed B.named
  have hlocks := B.notSynchronized
  have hK := hKU.1
  have hf_19 := hts (.fieldLink RX0 19 "ThinnedPots$Advice" "ofLower" "[I") (by decide +kernel)
  have hi_X0 : ∀ w ∈ u_ws RX0 TX0 6, w ∈ wsX0_mixedStrength := by decide +kernel
  have hst_X4_at := hts (.static yX4_at) (by decide +kernel)
  have hin_X4 := hts (.initialized RX4) (by decide +kernel)
  have hf_22 := hts (.fieldLink RX0 22 "ThinnedPots$Advice" "ofGreater" "[I") (by decide +kernel)
  have hst_X4_divide := hts (.static yX4_divide) (by decide +kernel)
  subst hsz
  have hD := hD0.self (sz := s.heap.size)
  generalize hAe : va_A [(a0, .inr (0, [w0_0, w0_1, .ref a11, .ref a12, w0_4, w0_5])), (a11, .inl (cI, 3, .inl f11)), (a12, .inl (cI, 3, .inl f12))] s.heap.size = A at hD ⊢
  have hA : ∀ q : Nat, s.heap.size ≤ q → A q := fun q h => by rw [← hAe]; exact Or.inr h
  have hP : va_P D vwCl [(a0, .inr (0, [w0_0, w0_1, .ref a11, .ref a12, w0_4, w0_5])), (a11, .inl (cI, 3, .inl f11)), (a12, .inl (cI, 3, .inl f12))] s.heap := hP
  generalize hHe : s.heap = H at hP ⊢
  have hS : va_S A s.heap H [] := by rw [hHe]; exact va_S.rf
  have hl := lv_entry ([.ref a0, .int u1, .int u2, .int u3, .int u4]) (n := 5) (Nat.le_of_ble_eq_true rfl)
  rw [lg_entry_eq]
  generalize (lg_sl ([.ref a0, .int u1, .int u2, .int u3, .int u4]) ++ List.replicate (5 - (lg_sl ([.ref a0, .int u1, .int u2, .int u3, .int u4])).length) Slot.unset).toArray = ls at hl ⊢
  have hl : lv_has ls 5 [(0, .ref a0), (1, .int u1), (2, .int u2), (3, .int u3), (4, .int u4)] := hl
  unfold s_X0_mixedStrength at hsp
  refine lv_aload_n hx hb dX0_mixedStrength_0 rfl (lv_at hl 0 rfl) ?_
  refine va_get (D := D) (ci := 0) (v := .ref a11) (C := RX0) (T := TX0) (N := 6) hx hb hts hi_X0 hown hK hP 0 rfl rfl 2 (by decide) hf_19 (fun _ h9 => h9) rfl dX0_mixedStrength_1 ?_
  refine lv_iload_n hx hb dX0_mixedStrength_4 rfl (lv_at hl 1 rfl) ?_
  obtain ⟨r1, hcr1, hsp⟩ := clE hsp
  refine call_i (w1 := [(a11, .inl (cI, 3, .inl f11))]) (ws' := [(a0, .inr (0, [w0_0, w0_1, .ref a11, .ref a12, w0_4, w0_5])), (a11, .inl (cI, 3, .inl f11)), (a12, .inl (cI, 3, .inl f12))]) (va_runSN (As := [.ref a11, .int u1]) (rest := []) ⟨hx, hb, hml, hown, hts⟩ (k_X4_at l D cI cZ cC cS H.size a11 3 f11 u1 r1 hcr1) ⟨va_cnB 2 hts gX0_mixedStrength_X4_at_n70 rfl rfl rfl (mn_Advice_70 hKU.2.2) hin_X4 nd_X4_at.2 ⟨Nat.le_of_ble_eq_true rfl, Nat.le_of_ble_eq_true rfl⟩, hst_X4_at, trivial⟩ (PB.preS hKU hP hD [1] rfl rfl) rfl rfl hl.1 rfl (lv_room (Nat.le_of_ble_eq_true rfl)) dX0_mixedStrength_5 ⟨Nat.zero_le _, Nat.zero_le _⟩) hS hP hD hA [1] rfl rfl (by first | (simp only [wset, List.set_cons_zero, List.set_cons_succ]; done) | rfl) rfl (fun H locs hP hD hS => ?_)
  refine lv_iload_n hx hb dX0_mixedStrength_8 rfl (lv_at hl 2 rfl) ?_
  refine lv_imul hx hb dX0_mixedStrength_9 ?_
  refine lv_aload_n hx hb dX0_mixedStrength_10 rfl (lv_at hl 0 rfl) ?_
  refine va_get (D := D) (ci := 0) (v := .ref a12) (C := RX0) (T := TX0) (N := 6) hx hb hts hi_X0 hown hK hP 0 rfl rfl 3 (by decide) hf_22 (fun _ h9 => h9) rfl dX0_mixedStrength_11 ?_
  refine lv_iload_n hx hb dX0_mixedStrength_14 rfl (lv_at hl 1 rfl) ?_
  obtain ⟨r2, hcr2, hsp⟩ := clE hsp
  refine call_i (w1 := [(a12, .inl (cI, 3, .inl f12))]) (ws' := [(a0, .inr (0, [w0_0, w0_1, .ref a11, .ref a12, w0_4, w0_5])), (a11, .inl (cI, 3, .inl f11)), (a12, .inl (cI, 3, .inl f12))]) (va_runSN (As := [.ref a12, .int u1]) (rest := [.int (r1 * u2)]) ⟨hx, hb, hml, hown, hts⟩ (k_X4_at l D cI cZ cC cS H.size a12 3 f12 u1 r2 hcr2) ⟨va_cnB 2 hts gX0_mixedStrength_X4_at_n70 rfl rfl rfl (mn_Advice_70 hKU.2.2) hin_X4 nd_X4_at.2 ⟨Nat.le_of_ble_eq_true rfl, Nat.le_of_ble_eq_true rfl⟩, hst_X4_at, trivial⟩ (PB.preS hKU hP hD [2] rfl rfl) rfl rfl hl.1 rfl (lv_room (Nat.le_of_ble_eq_true rfl)) dX0_mixedStrength_15 ⟨Nat.zero_le _, Nat.zero_le _⟩) hS hP hD hA [2] rfl rfl (by first | (simp only [wset, List.set_cons_zero, List.set_cons_succ]; done) | rfl) rfl (fun H locs hP hD hS => ?_)
  refine lv_iload_n hx hb dX0_mixedStrength_18 rfl (lv_at hl 3 rfl) ?_
  refine lv_imul hx hb dX0_mixedStrength_19 ?_
  refine lv_iadd hx hb dX0_mixedStrength_20 ?_
  refine lv_iload hx hb dX0_mixedStrength_21 (lv_at hl 4 rfl) ?_
  obtain ⟨r3, hcr3, hsp⟩ := clE hsp
  refine call_i (w1 := []) (ws' := [(a0, .inr (0, [w0_0, w0_1, .ref a11, .ref a12, w0_4, w0_5])), (a11, .inl (cI, 3, .inl f11)), (a12, .inl (cI, 3, .inl f12))]) (va_runSN (As := [.int ((r1 * u2) + (r2 * u3)), .int u4]) (rest := []) ⟨hx, hb, hml, hown, hts⟩ (k_X4_divide l D cI cZ cC cS H.size ((r1 * u2) + (r2 * u3)) u4 r3 hcr3) ⟨va_cnB 2 hts gX0_mixedStrength_X4_divide_n59 rfl rfl rfl (mn_Advice_59 hKU.2.2) hin_X4 nd_X4_divide.2 ⟨Nat.le_of_ble_eq_true rfl, Nat.le_of_ble_eq_true rfl⟩, hst_X4_divide, trivial⟩ (PB.preS hKU hP hD [] rfl rfl) rfl rfl hl.1 rfl (lv_room (Nat.le_of_ble_eq_true rfl)) dX0_mixedStrength_23 ⟨Nat.zero_le _, Nat.zero_le _⟩) hS hP hD hA [] rfl rfl (by first | (simp only [wset, List.set_cons_zero, List.set_cons_succ]; done) | rfl) rfl (fun H locs hP hD hS => ?_)
  have hres := Option.some.inj hsp
  subst hres
  exact W.iret (v := r3) hx hb hr (fun t ht hW => ⟨⟨r3, (), rfl, rfl, P_at ht hP⟩, hS.F ht⟩) hS.2.2 dX0_mixedStrength_26

theorem nd_X2_dropsOf : yX2_dropsOf.cls = RX2 ∧ yX2_dropsOf.cls ≠ "java/lang/invoke/MethodHandle" ∧ yX2_dropsOf.cls ≠ "java/lang/invoke/VarHandle" ∧ (parseMethodDescriptor yX2_dropsOf.desc).map (fun d => d.parameters.length) = some 2 := by decide +kernel
set_option maxHeartbeats 8000000 in
set_option maxRecDepth 100000 in
theorem k_X2_dropsOf (l : Launch) (D : va_G) (cI cZ cC cS : ClassId) (sz : Nat) (a0 a2 : Nat) (w0_0 : Value) (w0_2 : Value) (w0_3 : Value) (w0_4 : Value) (w0_5 : Value) (w0_6 : Value) (w0_7 : Value) (w0_8 : Value) (w0_9 : Value) (w0_10 : Value) (w0_11 : Value) (f2 : Nat → Int32) (u1 : Int32) (u2 : Int32) (res : Int32) (hsp : s_X2_dropsOf f2 u1 u2 = some res) : Met l yX2_dropsOf wsX2_dropsOf ({ frames := 1, cells := 0, slots := 0, locals := 21 }) (va_Pc [.ref a0, .int u1, .int u2] (PB D cI cZ cC cS [(a0, .inr (2, [w0_0, .ref a2, w0_2, w0_3, w0_4, w0_5, w0_6, w0_7, w0_8, w0_9, w0_10, w0_11])), (a2, .inl (cI, 36, .inl f2))] sz)) (va_Qi (fun r (_ : Unit) => r = res) (fun _ t => va_P D vwCl [(a0, .inr (2, [w0_0, .ref a2, w0_2, w0_3, w0_4, w0_5, w0_6, w0_7, w0_8, w0_9, w0_10, w0_11])), (a2, .inl (cI, 36, .inl f2))] t.heap) (va_A [(a0, .inr (2, [w0_0, .ref a2, w0_2, w0_3, w0_4, w0_5, w0_6, w0_7, w0_8, w0_9, w0_10, w0_11])), (a2, .inl (cI, 36, .inl f2))] sz)) 0 0 (va_A [(a0, .inr (2, [w0_0, .ref a2, w0_2, w0_3, w0_4, w0_5, w0_6, w0_7, w0_8, w0_9, w0_10, w0_11])), (a2, .inl (cI, 36, .inl f2))] sz) := by
  refine Met.ofW (cc := cX2_dropsOf) (maxL := 3) (ret := (some .int)) (by decide) rfl ?_
  intro p e s m args below meth c s₁ B hml hv
  obtain ⟨rfl, hsz, hP, hD0, hKU⟩ := hv
  have hx := B.exec
  have hb := B.bytes
  have hr := B.returns
  have hts := atoms_spec (ws := wsX2_dropsOf) B.pre
  have hown : s.vm.findClass RX2 = some m.cls := findClass_of_methodNamed B.named
  have hlocks := B.notSynchronized
  have hK := hKU.1
  have hf_19 := hts (.fieldLink RX2 19 "ThinnedPots$Studio" "drops" "[I") (by decide +kernel)
  have hi_X2 : ∀ w ∈ u_ws RX2 TX2 12, w ∈ wsX2_dropsOf := by decide +kernel
  have hst_X4_at := hts (.static yX4_at) (by decide +kernel)
  have hin_X4 := hts (.initialized RX4) (by decide +kernel)
  subst hsz
  have hD := hD0.self (sz := s.heap.size)
  generalize hAe : va_A [(a0, .inr (2, [w0_0, .ref a2, w0_2, w0_3, w0_4, w0_5, w0_6, w0_7, w0_8, w0_9, w0_10, w0_11])), (a2, .inl (cI, 36, .inl f2))] s.heap.size = A at hD ⊢
  have hA : ∀ q : Nat, s.heap.size ≤ q → A q := fun q h => by rw [← hAe]; exact Or.inr h
  have hP : va_P D vwCl [(a0, .inr (2, [w0_0, .ref a2, w0_2, w0_3, w0_4, w0_5, w0_6, w0_7, w0_8, w0_9, w0_10, w0_11])), (a2, .inl (cI, 36, .inl f2))] s.heap := hP
  generalize hHe : s.heap = H at hP ⊢
  have hS : va_S A s.heap H [] := by rw [hHe]; exact va_S.rf
  have hl := lv_entry ([.ref a0, .int u1, .int u2]) (n := 3) (Nat.le_of_ble_eq_true rfl)
  rw [lg_entry_eq]
  generalize (lg_sl ([.ref a0, .int u1, .int u2]) ++ List.replicate (3 - (lg_sl ([.ref a0, .int u1, .int u2])).length) Slot.unset).toArray = ls at hl ⊢
  have hl : lv_has ls 3 [(0, .ref a0), (1, .int u1), (2, .int u2)] := hl
  unfold s_X2_dropsOf at hsp
  refine lv_aload_n hx hb dX2_dropsOf_0 rfl (lv_at hl 0 rfl) ?_
  refine va_get (D := D) (ci := 2) (v := .ref a2) (C := RX2) (T := TX2) (N := 12) hx hb hts hi_X2 hown hK hP 0 rfl rfl 1 (by decide) hf_19 (fun _ h9 => h9) rfl dX2_dropsOf_1 ?_
  refine lv_iload_n hx hb dX2_dropsOf_4 rfl (lv_at hl 1 rfl) ?_
  refine lv_iconst (v := 4) hx hb dX2_dropsOf_5 (by decide) ?_
  refine lv_imul hx hb dX2_dropsOf_6 ?_
  refine lv_iload_n hx hb dX2_dropsOf_7 rfl (lv_at hl 2 rfl) ?_
  refine lv_iadd hx hb dX2_dropsOf_8 ?_
  obtain ⟨r1, hcr1, hsp⟩ := clE hsp
  refine call_i (w1 := [(a2, .inl (cI, 36, .inl f2))]) (ws' := [(a0, .inr (2, [w0_0, .ref a2, w0_2, w0_3, w0_4, w0_5, w0_6, w0_7, w0_8, w0_9, w0_10, w0_11])), (a2, .inl (cI, 36, .inl f2))]) (va_runSN (As := [.ref a2, .int ((u1 * 4) + u2)]) (rest := []) ⟨hx, hb, hml, hown, hts⟩ (k_X4_at l D cI cZ cC cS H.size a2 36 f2 ((u1 * 4) + u2) r1 hcr1) ⟨va_cnB 2 hts gX2_dropsOf_X4_at_n61 rfl rfl rfl (mn_Studio_61 hKU.2.2) hin_X4 nd_X4_at.2 ⟨Nat.le_of_ble_eq_true rfl, Nat.le_of_ble_eq_true rfl⟩, hst_X4_at, trivial⟩ (PB.preS hKU hP hD [1] rfl rfl) rfl rfl hl.1 rfl (lv_room (Nat.le_of_ble_eq_true rfl)) dX2_dropsOf_9 ⟨Nat.zero_le _, Nat.zero_le _⟩) hS hP hD hA [1] rfl rfl (by first | (simp only [wset, List.set_cons_zero, List.set_cons_succ]; done) | rfl) rfl (fun H locs hP hD hS => ?_)
  have hres := Option.some.inj hsp
  subst hres
  exact W.iret (v := r1) hx hb hr (fun t ht hW => ⟨⟨r1, (), rfl, rfl, P_at ht hP⟩, hS.F ht⟩) hS.2.2 dX2_dropsOf_12

theorem nd_X0_tryParts : yX0_tryParts.cls = RX0 ∧ yX0_tryParts.cls ≠ "java/lang/invoke/MethodHandle" ∧ yX0_tryParts.cls ≠ "java/lang/invoke/VarHandle" ∧ (parseMethodDescriptor yX0_tryParts.desc).map (fun d => d.parameters.length) = some 3 := by decide +kernel
set_option maxHeartbeats 8000000 in
set_option maxRecDepth 100000 in
theorem k_X0_tryParts (l : Launch) (D : va_G) (cI cZ cC cS : ClassId) (sz : Nat) (a0 a1 a3 a5 a10 a11 a12 : Nat) (w0_4 : Value) (w0_5 : Value) (w1_0 : Value) (w1_2 : Value) (w1_4 : Value) (w1_5 : Value) (w1_6 : Value) (w1_7 : Value) (w1_8 : Value) (w1_9 : Value) (w1_10 : Value) (w1_11 : Value) (f3 : Nat → Int32) (f5 : Nat → Int32) (f10 : Nat → Int32) (f11 : Nat → Int32) (f12 : Nat → Int32) (u1 : Int32) (u2 : Int32) (u3 : Int32) (res : (Nat → Int32) × (Nat → Int32) × (Nat → Int32)) (hsp : s_X0_tryParts f3 f5 f10 f11 f12 u1 u2 u3 = some res) : Met l yX0_tryParts wsX0_tryParts ({ frames := 2, cells := 0, slots := 0, locals := 49 }) (va_Pc [.ref a0, .int u1, .int u2, .int u3] (PB D cI cZ cC cS [(a0, .inr (0, [.ref a1, .ref a10, .ref a11, .ref a12, w0_4, w0_5])), (a1, .inr (2, [w1_0, .ref a3, w1_2, .ref a5, w1_4, w1_5, w1_6, w1_7, w1_8, w1_9, w1_10, w1_11])), (a3, .inl (cI, 36, .inl f3)), (a5, .inl (cI, 18, .inl f5)), (a10, .inl (cI, 5, .inl f10)), (a11, .inl (cI, 3, .inl f11)), (a12, .inl (cI, 3, .inl f12))] sz)) (va_Qv (fun (_ : Unit) => True) (fun _ t => va_P D vwCl [(a0, .inr (0, [.ref a1, .ref a10, .ref a11, .ref a12, w0_4, w0_5])), (a1, .inr (2, [w1_0, .ref a3, w1_2, .ref a5, w1_4, w1_5, w1_6, w1_7, w1_8, w1_9, w1_10, w1_11])), (a3, .inl (cI, 36, .inl f3)), (a5, .inl (cI, 18, .inl f5)), (a10, .inl (cI, 5, .inl res.1)), (a11, .inl (cI, 3, .inl res.2.1)), (a12, .inl (cI, 3, .inl res.2.2))] t.heap) (va_A [(a0, .inr (0, [.ref a1, .ref a10, .ref a11, .ref a12, w0_4, w0_5])), (a1, .inr (2, [w1_0, .ref a3, w1_2, .ref a5, w1_4, w1_5, w1_6, w1_7, w1_8, w1_9, w1_10, w1_11])), (a3, .inl (cI, 36, .inl f3)), (a5, .inl (cI, 18, .inl f5)), (a10, .inl (cI, 5, .inl f10)), (a11, .inl (cI, 3, .inl f11)), (a12, .inl (cI, 3, .inl f12))] sz)) 0 0 (va_A [(a0, .inr (0, [.ref a1, .ref a10, .ref a11, .ref a12, w0_4, w0_5])), (a1, .inr (2, [w1_0, .ref a3, w1_2, .ref a5, w1_4, w1_5, w1_6, w1_7, w1_8, w1_9, w1_10, w1_11])), (a3, .inl (cI, 36, .inl f3)), (a5, .inl (cI, 18, .inl f5)), (a10, .inl (cI, 5, .inl f10)), (a11, .inl (cI, 3, .inl f11)), (a12, .inl (cI, 3, .inl f12))] sz) := by
  refine Met.ofW (cc := cX0_tryParts) (maxL := 10) (ret := none) (by decide) rfl ?_
  intro p e s m args below meth c s₁ B hml hv
  obtain ⟨rfl, hsz, hP, hD0, hKU⟩ := hv
  have hx := B.exec
  have hb := B.bytes
  have hr := B.returns
  have hts := atoms_spec (ws := wsX0_tryParts) B.pre
  have hown : s.vm.findClass RX0 = some m.cls := findClass_of_methodNamed B.named
  have hlocks := B.notSynchronized
  have hK := hKU.1
  have hf_9 := hts (.fieldLink RX0 9 "ThinnedPots$Advice" "studio" "LThinnedPots$Studio;") (by decide +kernel)
  have hi_X0 : ∀ w ∈ u_ws RX0 TX0 6, w ∈ wsX0_tryParts := by decide +kernel
  have hf_15 := hts (.fieldLink RX0 15 "ThinnedPots$Advice" "best" "[I") (by decide +kernel)
  have hst_X4_at := hts (.static yX4_at) (by decide +kernel)
  have hin_X4 := hts (.initialized RX4) (by decide +kernel)
  have hst_X4_write := hts (.static yX4_write) (by decide +kernel)
  have hf_19 := hts (.fieldLink RX0 19 "ThinnedPots$Advice" "ofLower" "[I") (by decide +kernel)
  have hf_22 := hts (.fieldLink RX0 22 "ThinnedPots$Advice" "ofGreater" "[I") (by decide +kernel)
  subst hsz
  have hD := hD0.self (sz := s.heap.size)
  generalize hAe : va_A [(a0, .inr (0, [.ref a1, .ref a10, .ref a11, .ref a12, w0_4, w0_5])), (a1, .inr (2, [w1_0, .ref a3, w1_2, .ref a5, w1_4, w1_5, w1_6, w1_7, w1_8, w1_9, w1_10, w1_11])), (a3, .inl (cI, 36, .inl f3)), (a5, .inl (cI, 18, .inl f5)), (a10, .inl (cI, 5, .inl f10)), (a11, .inl (cI, 3, .inl f11)), (a12, .inl (cI, 3, .inl f12))] s.heap.size = A at hD ⊢
  have hA : ∀ q : Nat, s.heap.size ≤ q → A q := fun q h => by rw [← hAe]; exact Or.inr h
  have hP : va_P D vwCl [(a0, .inr (0, [.ref a1, .ref a10, .ref a11, .ref a12, w0_4, w0_5])), (a1, .inr (2, [w1_0, .ref a3, w1_2, .ref a5, w1_4, w1_5, w1_6, w1_7, w1_8, w1_9, w1_10, w1_11])), (a3, .inl (cI, 36, .inl f3)), (a5, .inl (cI, 18, .inl f5)), (a10, .inl (cI, 5, .inl f10)), (a11, .inl (cI, 3, .inl f11)), (a12, .inl (cI, 3, .inl f12))] s.heap := hP
  generalize hHe : s.heap = H at hP ⊢
  have hS : va_S A s.heap H [] := by rw [hHe]; exact va_S.rf
  have hl := lv_entry ([.ref a0, .int u1, .int u2, .int u3]) (n := 10) (Nat.le_of_ble_eq_true rfl)
  rw [lg_entry_eq]
  generalize (lg_sl ([.ref a0, .int u1, .int u2, .int u3]) ++ List.replicate (10 - (lg_sl ([.ref a0, .int u1, .int u2, .int u3])).length) Slot.unset).toArray = ls at hl ⊢
  have hl : lv_has ls 10 [(0, .ref a0), (1, .int u1), (2, .int u2), (3, .int u3)] := hl
  unfold s_X0_tryParts at hsp
  refine lv_aload_n hx hb dX0_tryParts_0 rfl (lv_at hl 0 rfl) ?_
  refine va_get (D := D) (ci := 0) (v := .ref a1) (C := RX0) (T := TX0) (N := 6) hx hb hts hi_X0 hown hK hP 0 rfl rfl 0 (by decide) hf_9 (fun _ h9 => h9) rfl dX0_tryParts_1 ?_
  refine lv_iload_n hx hb dX0_tryParts_4 rfl (lv_at hl 2 rfl) ?_
  obtain ⟨r1, hcr1, hsp⟩ := clE hsp
  refine call_i (w1 := [(a1, .inr (2, [w1_0, .ref a3, w1_2, .ref a5, w1_4, w1_5, w1_6, w1_7, w1_8, w1_9, w1_10, w1_11])), (a3, .inl (cI, 36, .inl f3))]) (ws' := [(a0, .inr (0, [.ref a1, .ref a10, .ref a11, .ref a12, w0_4, w0_5])), (a1, .inr (2, [w1_0, .ref a3, w1_2, .ref a5, w1_4, w1_5, w1_6, w1_7, w1_8, w1_9, w1_10, w1_11])), (a3, .inl (cI, 36, .inl f3)), (a5, .inl (cI, 18, .inl f5)), (a10, .inl (cI, 5, .inl f10)), (a11, .inl (cI, 3, .inl f11)), (a12, .inl (cI, 3, .inl f12))]) (va_runV (As := [.int u2]) (rest := []) ⟨hx, hb, hml, hown, hts⟩ (k_X2_allDrops l D cI cZ cC cS H.size a1 a3 (w1_0) (w1_2) (.ref a5) (w1_4) (w1_5) (w1_6) (w1_7) (w1_8) (w1_9) (w1_10) (w1_11) f3 u2 r1 hcr1) (cwV 1 hts gX0_tryParts_X2_allDrops rfl rfl rfl nd_X2_allDrops ⟨Nat.le_of_ble_eq_true rfl, Nat.le_of_ble_eq_true rfl⟩) (PB.preV (ci := 2) (q0 := 1) hKU hP hD [1, 2] rfl rfl rfl rfl) rfl rfl hl.1 rfl (lv_room (Nat.le_of_ble_eq_true rfl)) dX0_tryParts_5 ⟨Nat.zero_le _, Nat.zero_le _⟩) hS hP hD hA [1, 2] rfl rfl (by first | (simp only [wset, List.set_cons_zero, List.set_cons_succ]; done) | rfl) rfl (fun H locs hP hD hS => ?_)
  refine lv_istore (lv' := [(4, .int r1), (0, .ref a0), (1, .int u1), (2, .int u2), (3, .int u3)]) hx hb dX0_tryParts_8 hl (by decide) rfl (fun ls hl => ?_)
  refine lv_aload_n hx hb dX0_tryParts_10 rfl (lv_at hl 1 rfl) ?_
  refine va_get (D := D) (ci := 0) (v := .ref a1) (C := RX0) (T := TX0) (N := 6) hx hb hts hi_X0 hown hK hP 0 rfl rfl 0 (by decide) hf_9 (fun _ h9 => h9) rfl dX0_tryParts_11 ?_
  refine lv_iload_n hx hb dX0_tryParts_14 rfl (lv_at hl 4 rfl) ?_
  obtain ⟨r2, hcr2, hsp⟩ := clE hsp
  refine call_i (w1 := [(a1, .inr (2, [w1_0, .ref a3, w1_2, .ref a5, w1_4, w1_5, w1_6, w1_7, w1_8, w1_9, w1_10, w1_11])), (a3, .inl (cI, 36, .inl f3))]) (ws' := [(a0, .inr (0, [.ref a1, .ref a10, .ref a11, .ref a12, w0_4, w0_5])), (a1, .inr (2, [w1_0, .ref a3, w1_2, .ref a5, w1_4, w1_5, w1_6, w1_7, w1_8, w1_9, w1_10, w1_11])), (a3, .inl (cI, 36, .inl f3)), (a5, .inl (cI, 18, .inl f5)), (a10, .inl (cI, 5, .inl f10)), (a11, .inl (cI, 3, .inl f11)), (a12, .inl (cI, 3, .inl f12))]) (va_runV (As := [.int u3]) (rest := []) ⟨hx, hb, hml, hown, hts⟩ (k_X2_allDrops l D cI cZ cC cS H.size a1 a3 (w1_0) (w1_2) (.ref a5) (w1_4) (w1_5) (w1_6) (w1_7) (w1_8) (w1_9) (w1_10) (w1_11) f3 u3 r2 hcr2) (cwV 1 hts gX0_tryParts_X2_allDrops rfl rfl rfl nd_X2_allDrops ⟨Nat.le_of_ble_eq_true rfl, Nat.le_of_ble_eq_true rfl⟩) (PB.preV (ci := 2) (q0 := 1) hKU hP hD [1, 2] rfl rfl rfl rfl) rfl rfl hl.1 rfl (lv_room (Nat.le_of_ble_eq_true rfl)) dX0_tryParts_15 ⟨Nat.zero_le _, Nat.zero_le _⟩) hS hP hD hA [1, 2] rfl rfl (by first | (simp only [wset, List.set_cons_zero, List.set_cons_succ]; done) | rfl) rfl (fun H locs hP hD hS => ?_)
  refine lv_istore (lv' := [(5, .int r2), (4, .int r1), (0, .ref a0), (1, .int u1), (2, .int u2), (3, .int u3)]) hx hb dX0_tryParts_18 hl (by decide) rfl (fun ls hl => ?_)
  refine lv_iconst (v := 0) hx hb dX0_tryParts_20 (by decide) ?_
  refine lv_istore (lv' := [(6, .int 0), (5, .int r2), (4, .int r1), (0, .ref a0), (1, .int u1), (2, .int u2), (3, .int u3)]) hx hb dX0_tryParts_21 hl (by decide) rfl (fun ls hl => ?_)
  refine ex_rule (D := D) (K := s_X0_tryParts_X1 r1 r2 f5 u1 u2 u3 f10) (P := fun (t1 : (Nat → Int32) × (Nat → Int32)) => [(a0, .inr (0, [.ref a1, .ref a10, .ref a11, .ref a12, w0_4, w0_5])), (a1, .inr (2, [w1_0, .ref a3, w1_2, .ref a5, w1_4, w1_5, w1_6, w1_7, w1_8, w1_9, w1_10, w1_11])), (a3, .inl (cI, 36, .inl f3)), (a5, .inl (cI, 18, .inl f5)), (a10, .inl (cI, 5, .inl f10)), (a11, .inl (cI, 3, .inl t1.1)), (a12, .inl (cI, 3, .inl t1.2))]) (L := fun (t1 : (Nat → Int32) × (Nat → Int32)) => [(0, .ref a0), (1, .int u1), (2, .int u2), (3, .int u3), (4, .int r1), (5, .int r2)]) (nL := 10) (pcx := 85) (res := res) (A := A) (H0 := s.heap) ?_ (fun hx1 => ?_)
  · intro t1 H locs hsp hP hD hS ls hl
    obtain ⟨y6, y7⟩ := t1
    unfold s_X0_tryParts_X1 at hsp; try dsimp only at hsp
    have hP : va_P D vwCl [(a0, .inr (0, [.ref a1, .ref a10, .ref a11, .ref a12, w0_4, w0_5])), (a1, .inr (2, [w1_0, .ref a3, w1_2, .ref a5, w1_4, w1_5, w1_6, w1_7, w1_8, w1_9, w1_10, w1_11])), (a3, .inl (cI, 36, .inl f3)), (a5, .inl (cI, 18, .inl f5)), (a10, .inl (cI, 5, .inl f10)), (a11, .inl (cI, 3, .inl y6)), (a12, .inl (cI, 3, .inl y7))] H := hP
    have hD : va_D A [(a0, .inr (0, [.ref a1, .ref a10, .ref a11, .ref a12, w0_4, w0_5])), (a1, .inr (2, [w1_0, .ref a3, w1_2, .ref a5, w1_4, w1_5, w1_6, w1_7, w1_8, w1_9, w1_10, w1_11])), (a3, .inl (cI, 36, .inl f3)), (a5, .inl (cI, 18, .inl f5)), (a10, .inl (cI, 5, .inl f10)), (a11, .inl (cI, 3, .inl y6)), (a12, .inl (cI, 3, .inl y7))] := hD
    have hl : lv_has ls 10 [(0, .ref a0), (1, .int u1), (2, .int u2), (3, .int u3), (4, .int r1), (5, .int r2)] := hl
    refine lv_iconst (v := 1) hx hb dX0_tryParts_85 (by decide) ?_
    refine lv_istore (lv' := [(6, .int 1), (0, .ref a0), (1, .int u1), (2, .int u2), (3, .int u3), (4, .int r1), (5, .int r2)]) hx hb dX0_tryParts_86 hl (by decide) rfl (fun ls hl => ?_)
    refine ex_rule (D := D) (K := s_X0_tryParts_X2 y6 y7) (P := fun (t2 : (Nat → Int32)) => [(a0, .inr (0, [.ref a1, .ref a10, .ref a11, .ref a12, w0_4, w0_5])), (a1, .inr (2, [w1_0, .ref a3, w1_2, .ref a5, w1_4, w1_5, w1_6, w1_7, w1_8, w1_9, w1_10, w1_11])), (a3, .inl (cI, 36, .inl f3)), (a5, .inl (cI, 18, .inl f5)), (a10, .inl (cI, 5, .inl t2)), (a11, .inl (cI, 3, .inl y6)), (a12, .inl (cI, 3, .inl y7))]) (L := fun (t2 : (Nat → Int32)) => []) (nL := 10) (pcx := 234) (res := res) (A := A) (H0 := s.heap) ?_ (fun hx2 => ?_)
    · intro t2 H locs hsp hP hD hS ls hl
      obtain ⟨y10, rfl⟩ : ∃ z, z = t2 := ⟨_, rfl⟩
      unfold s_X0_tryParts_X2 at hsp; try dsimp only at hsp
      have hP : va_P D vwCl [(a0, .inr (0, [.ref a1, .ref a10, .ref a11, .ref a12, w0_4, w0_5])), (a1, .inr (2, [w1_0, .ref a3, w1_2, .ref a5, w1_4, w1_5, w1_6, w1_7, w1_8, w1_9, w1_10, w1_11])), (a3, .inl (cI, 36, .inl f3)), (a5, .inl (cI, 18, .inl f5)), (a10, .inl (cI, 5, .inl y10)), (a11, .inl (cI, 3, .inl y6)), (a12, .inl (cI, 3, .inl y7))] H := hP
      have hD : va_D A [(a0, .inr (0, [.ref a1, .ref a10, .ref a11, .ref a12, w0_4, w0_5])), (a1, .inr (2, [w1_0, .ref a3, w1_2, .ref a5, w1_4, w1_5, w1_6, w1_7, w1_8, w1_9, w1_10, w1_11])), (a3, .inl (cI, 36, .inl f3)), (a5, .inl (cI, 18, .inl f5)), (a10, .inl (cI, 5, .inl y10)), (a11, .inl (cI, 3, .inl y6)), (a12, .inl (cI, 3, .inl y7))] := hD
      have hl : lv_has ls 10 [] := hl
      have hres := Option.some.inj hsp
      subst hres
      exact W.vret hx hb hr (fun t ht hW => ⟨⟨(), rfl, trivial, P_at ht hP⟩, hS.F ht⟩) hS.2.2 dX0_tryParts_234
    have hl := lv_sub hl (l' := [(0, .ref a0), (1, .int u1), (2, .int u2), (3, .int u3), (4, .int r1), (5, .int r2), (6, .int 1)]) [1, 2, 3, 4, 5, 6, 0] rfl
    refine lp_rule (D := D) (F := s_X0_tryParts_L2 r1 r2 y6 y7 f5 u1 u2 u3 (s_X0_tryParts_X2 y6 y7)) (P := fun (tv : Int32 × (Nat → Int32)) => [(a0, .inr (0, [.ref a1, .ref a10, .ref a11, .ref a12, w0_4, w0_5])), (a1, .inr (2, [w1_0, .ref a3, w1_2, .ref a5, w1_4, w1_5, w1_6, w1_7, w1_8, w1_9, w1_10, w1_11])), (a3, .inl (cI, 36, .inl f3)), (a5, .inl (cI, 18, .inl f5)), (a10, .inl (cI, 5, .inl tv.2)), (a11, .inl (cI, 3, .inl y6)), (a12, .inl (cI, 3, .inl y7))]) (L := fun (tv : Int32 × (Nat → Int32)) => [(0, .ref a0), (1, .int u1), (2, .int u2), (3, .int u3), (4, .int r1), (5, .int r2), (6, .int tv.1)]) (nL := 10) (res := res) (A := A) (H0 := s.heap) (fun _ => rfl) ?_ 1000 (1, f10) _ _ hsp hP hD hS _ hl
    · intro n2 ih2 tv H locs hsp hP hD hS ls hl
      obtain ⟨x8, y9⟩ := tv
      have hsp : s_X0_tryParts_B2  r1 r2 y6 y7 f5 u1 u2 u3 (s_X0_tryParts_X2 y6 y7) (s_X0_tryParts_L2 r1 r2 y6 y7 f5 u1 u2 u3 (s_X0_tryParts_X2 y6 y7) n2) x8 y9 = some res := hsp
      unfold s_X0_tryParts_B2 at hsp
      have hP : va_P D vwCl [(a0, .inr (0, [.ref a1, .ref a10, .ref a11, .ref a12, w0_4, w0_5])), (a1, .inr (2, [w1_0, .ref a3, w1_2, .ref a5, w1_4, w1_5, w1_6, w1_7, w1_8, w1_9, w1_10, w1_11])), (a3, .inl (cI, 36, .inl f3)), (a5, .inl (cI, 18, .inl f5)), (a10, .inl (cI, 5, .inl y9)), (a11, .inl (cI, 3, .inl y6)), (a12, .inl (cI, 3, .inl y7))] H := hP
      have hD : va_D A [(a0, .inr (0, [.ref a1, .ref a10, .ref a11, .ref a12, w0_4, w0_5])), (a1, .inr (2, [w1_0, .ref a3, w1_2, .ref a5, w1_4, w1_5, w1_6, w1_7, w1_8, w1_9, w1_10, w1_11])), (a3, .inl (cI, 36, .inl f3)), (a5, .inl (cI, 18, .inl f5)), (a10, .inl (cI, 5, .inl y9)), (a11, .inl (cI, 3, .inl y6)), (a12, .inl (cI, 3, .inl y7))] := hD
      have hl : lv_has ls 10 [(0, .ref a0), (1, .int u1), (2, .int u2), (3, .int u3), (4, .int r1), (5, .int r2), (6, .int x8)] := hl
      refine lv_iload hx hb dX0_tryParts_88 (lv_at hl 6 rfl) ?_
      refine lv_bipush (v := 9) hx hb dX0_tryParts_90 (by decide) ?_
      refine lv_icmp_gt (tgt := 234) hx hb dX0_tryParts_92 (by decide) (fun c11 => ?_) (fun c11 => ?_)
      · have hsp := itT hsp c11
        exact hx2 y9 _ _ hsp hP hD hS _ (lv_sub hl [] rfl)
      have hsp := itF hsp c11
      refine lv_iconst (v := 1) hx hb dX0_tryParts_95 (by decide) ?_
      refine lv_istore (lv' := [(7, .int 1), (0, .ref a0), (1, .int u1), (2, .int u2), (3, .int u3), (4, .int r1), (5, .int r2), (6, .int x8)]) hx hb dX0_tryParts_96 hl (by decide) rfl (fun ls hl => ?_)
      refine ex_rule (D := D) (K := s_X0_tryParts_X3 (s_X0_tryParts_L2 r1 r2 y6 y7 f5 u1 u2 u3 (s_X0_tryParts_X2 y6 y7) n2) x8) (P := fun (t3 : (Nat → Int32)) => [(a0, .inr (0, [.ref a1, .ref a10, .ref a11, .ref a12, w0_4, w0_5])), (a1, .inr (2, [w1_0, .ref a3, w1_2, .ref a5, w1_4, w1_5, w1_6, w1_7, w1_8, w1_9, w1_10, w1_11])), (a3, .inl (cI, 36, .inl f3)), (a5, .inl (cI, 18, .inl f5)), (a10, .inl (cI, 5, .inl t3)), (a11, .inl (cI, 3, .inl y6)), (a12, .inl (cI, 3, .inl y7))]) (L := fun (t3 : (Nat → Int32)) => [(0, .ref a0), (1, .int u1), (2, .int u2), (3, .int u3), (4, .int r1), (5, .int r2), (6, .int x8)]) (nL := 10) (pcx := 228) (res := res) (A := A) (H0 := s.heap) ?_ (fun hx3 => ?_)
      · intro t3 H locs hsp hP hD hS ls hl
        obtain ⟨y14, rfl⟩ : ∃ z, z = t3 := ⟨_, rfl⟩
        unfold s_X0_tryParts_X3 at hsp; try dsimp only at hsp
        have hP : va_P D vwCl [(a0, .inr (0, [.ref a1, .ref a10, .ref a11, .ref a12, w0_4, w0_5])), (a1, .inr (2, [w1_0, .ref a3, w1_2, .ref a5, w1_4, w1_5, w1_6, w1_7, w1_8, w1_9, w1_10, w1_11])), (a3, .inl (cI, 36, .inl f3)), (a5, .inl (cI, 18, .inl f5)), (a10, .inl (cI, 5, .inl y14)), (a11, .inl (cI, 3, .inl y6)), (a12, .inl (cI, 3, .inl y7))] H := hP
        have hD : va_D A [(a0, .inr (0, [.ref a1, .ref a10, .ref a11, .ref a12, w0_4, w0_5])), (a1, .inr (2, [w1_0, .ref a3, w1_2, .ref a5, w1_4, w1_5, w1_6, w1_7, w1_8, w1_9, w1_10, w1_11])), (a3, .inl (cI, 36, .inl f3)), (a5, .inl (cI, 18, .inl f5)), (a10, .inl (cI, 5, .inl y14)), (a11, .inl (cI, 3, .inl y6)), (a12, .inl (cI, 3, .inl y7))] := hD
        have hl : lv_has ls 10 [(0, .ref a0), (1, .int u1), (2, .int u2), (3, .int u3), (4, .int r1), (5, .int r2), (6, .int x8)] := hl
        obtain ⟨x15, ex15, hsp⟩ := nmE hsp
        refine lv_iinc (k := 6) (v := x15) (lv' := [(6, .int x15), (0, .ref a0), (1, .int u1), (2, .int u2), (3, .int u3), (4, .int r1), (5, .int r2)]) hx hb dX0_tryParts_228 hl rfl (by rw [ex15]; rfl) (by decide) rfl (fun ls hl => ?_)
        refine lv_goto (tgt := 88) hx hb dX0_tryParts_231 (by decide) ?_
        exact ih2 (x15, y14) _ _ hsp hP hD hS _ (lv_sub hl [1, 2, 3, 4, 5, 6, 0] rfl)
      have hl := lv_sub hl (l' := [(0, .ref a0), (1, .int u1), (2, .int u2), (3, .int u3), (4, .int r1), (5, .int r2), (6, .int x8), (7, .int 1)]) [1, 2, 3, 4, 5, 6, 7, 0] rfl
      refine lp_rule (D := D) (F := s_X0_tryParts_L3 r1 r2 x8 y6 y7 f5 u1 u2 u3 (s_X0_tryParts_X3 (s_X0_tryParts_L2 r1 r2 y6 y7 f5 u1 u2 u3 (s_X0_tryParts_X2 y6 y7) n2) x8)) (P := fun (tv : Int32 × (Nat → Int32)) => [(a0, .inr (0, [.ref a1, .ref a10, .ref a11, .ref a12, w0_4, w0_5])), (a1, .inr (2, [w1_0, .ref a3, w1_2, .ref a5, w1_4, w1_5, w1_6, w1_7, w1_8, w1_9, w1_10, w1_11])), (a3, .inl (cI, 36, .inl f3)), (a5, .inl (cI, 18, .inl f5)), (a10, .inl (cI, 5, .inl tv.2)), (a11, .inl (cI, 3, .inl y6)), (a12, .inl (cI, 3, .inl y7))]) (L := fun (tv : Int32 × (Nat → Int32)) => [(0, .ref a0), (1, .int u1), (2, .int u2), (3, .int u3), (4, .int r1), (5, .int r2), (6, .int x8), (7, .int tv.1)]) (nL := 10) (res := res) (A := A) (H0 := s.heap) (fun _ => rfl) ?_ 1000 (1, y9) _ _ hsp hP hD hS _ hl
      · intro n3 ih3 tv H locs hsp hP hD hS ls hl
        obtain ⟨x12, y13⟩ := tv
        have hsp : s_X0_tryParts_B3  r1 r2 x8 y6 y7 f5 u1 u2 u3 (s_X0_tryParts_X3 (s_X0_tryParts_L2 r1 r2 y6 y7 f5 u1 u2 u3 (s_X0_tryParts_X2 y6 y7) n2) x8) (s_X0_tryParts_L3 r1 r2 x8 y6 y7 f5 u1 u2 u3 (s_X0_tryParts_X3 (s_X0_tryParts_L2 r1 r2 y6 y7 f5 u1 u2 u3 (s_X0_tryParts_X2 y6 y7) n2) x8) n3) x12 y13 = some res := hsp
        unfold s_X0_tryParts_B3 at hsp
        have hP : va_P D vwCl [(a0, .inr (0, [.ref a1, .ref a10, .ref a11, .ref a12, w0_4, w0_5])), (a1, .inr (2, [w1_0, .ref a3, w1_2, .ref a5, w1_4, w1_5, w1_6, w1_7, w1_8, w1_9, w1_10, w1_11])), (a3, .inl (cI, 36, .inl f3)), (a5, .inl (cI, 18, .inl f5)), (a10, .inl (cI, 5, .inl y13)), (a11, .inl (cI, 3, .inl y6)), (a12, .inl (cI, 3, .inl y7))] H := hP
        have hD : va_D A [(a0, .inr (0, [.ref a1, .ref a10, .ref a11, .ref a12, w0_4, w0_5])), (a1, .inr (2, [w1_0, .ref a3, w1_2, .ref a5, w1_4, w1_5, w1_6, w1_7, w1_8, w1_9, w1_10, w1_11])), (a3, .inl (cI, 36, .inl f3)), (a5, .inl (cI, 18, .inl f5)), (a10, .inl (cI, 5, .inl y13)), (a11, .inl (cI, 3, .inl y6)), (a12, .inl (cI, 3, .inl y7))] := hD
        have hl : lv_has ls 10 [(0, .ref a0), (1, .int u1), (2, .int u2), (3, .int u3), (4, .int r1), (5, .int r2), (6, .int x8), (7, .int x12)] := hl
        refine lv_iload hx hb dX0_tryParts_98 (lv_at hl 7 rfl) ?_
        refine lv_bipush (v := 9) hx hb dX0_tryParts_100 (by decide) ?_
        refine lv_icmp_gt (tgt := 228) hx hb dX0_tryParts_102 (by decide) (fun c16 => ?_) (fun c16 => ?_)
        · have hsp := itT hsp c16
          exact hx3 y13 _ _ hsp hP hD hS _ (lv_sub hl [0, 1, 2, 3, 4, 5, 6] rfl)
        have hsp := itF hsp c16
        refine lv_iload hx hb dX0_tryParts_105 (lv_at hl 4 rfl) ?_
        refine lv_iload hx hb dX0_tryParts_107 (lv_at hl 5 rfl) ?_
        refine lv_imul hx hb dX0_tryParts_109 ?_
        refine lv_iload hx hb dX0_tryParts_110 (lv_at hl 6 rfl) ?_
        refine lv_iload hx hb dX0_tryParts_112 (lv_at hl 7 rfl) ?_
        refine lv_iadd hx hb dX0_tryParts_114 ?_
        refine lv_imul hx hb dX0_tryParts_115 ?_
        obtain ⟨x17, ex17, hsp⟩ := nmE hsp
        refine r_top ex17 ?_
        refine lv_istore (lv' := [(8, .int x17), (0, .ref a0), (1, .int u1), (2, .int u2), (3, .int u3), (4, .int r1), (5, .int r2), (6, .int x8), (7, .int x12)]) hx hb dX0_tryParts_116 hl (by decide) rfl (fun ls hl => ?_)
        refine lv_aload_n hx hb dX0_tryParts_118 rfl (lv_at hl 1 rfl) ?_
        refine va_get (D := D) (ci := 0) (v := .ref a1) (C := RX0) (T := TX0) (N := 6) hx hb hts hi_X0 hown hK hP 0 rfl rfl 0 (by decide) hf_9 (fun _ h9 => h9) rfl dX0_tryParts_119 ?_
        refine lv_iload_n hx hb dX0_tryParts_122 rfl (lv_at hl 2 rfl) ?_
        refine lv_aload_n hx hb dX0_tryParts_123 rfl (lv_at hl 1 rfl) ?_
        refine lv_iconst (v := 0) hx hb dX0_tryParts_124 (by decide) ?_
        refine lv_iload hx hb dX0_tryParts_125 (lv_at hl 7 rfl) ?_
        refine lv_iload hx hb dX0_tryParts_127 (lv_at hl 8 rfl) ?_
        refine lv_iload hx hb dX0_tryParts_129 (lv_at hl 0 rfl) ?_
        obtain ⟨r18, hcr18, hsp⟩ := clE hsp
        refine call_i (w1 := [(a0, .inr (0, [.ref a1, .ref a10, .ref a11, .ref a12, w0_4, w0_5])), (a11, .inl (cI, 3, .inl y6)), (a12, .inl (cI, 3, .inl y7))]) (ws' := [(a0, .inr (0, [.ref a1, .ref a10, .ref a11, .ref a12, w0_4, w0_5])), (a1, .inr (2, [w1_0, .ref a3, w1_2, .ref a5, w1_4, w1_5, w1_6, w1_7, w1_8, w1_9, w1_10, w1_11])), (a3, .inl (cI, 36, .inl f3)), (a5, .inl (cI, 18, .inl f5)), (a10, .inl (cI, 5, .inl y13)), (a11, .inl (cI, 3, .inl y6)), (a12, .inl (cI, 3, .inl y7))]) (va_runV (As := [.int 0, .int x8, .int x12, .int x17]) (rest := [.int u1, .ref a1]) ⟨hx, hb, hml, hown, hts⟩ (k_X0_mixedStrength l D cI cZ cC cS H.size a0 a11 a12 (.ref a1) (.ref a10) (w0_4) (w0_5) y6 y7 0 x8 x12 x17 r18 hcr18) (cwV 4 hts gX0_tryParts_X0_mixedStrength rfl rfl rfl nd_X0_mixedStrength ⟨Nat.le_of_ble_eq_true rfl, Nat.le_of_ble_eq_true rfl⟩) (PB.preV (ci := 0) (q0 := 0) hKU hP hD [0, 5, 6] rfl rfl rfl rfl) rfl rfl hl.1 rfl (lv_room (Nat.le_of_ble_eq_true rfl)) dX0_tryParts_131 ⟨Nat.zero_le _, Nat.zero_le _⟩) hS hP hD hA [0, 5, 6] rfl rfl (by first | (simp only [wset, List.set_cons_zero, List.set_cons_succ]; done) | rfl) rfl (fun H locs hP hD hS => ?_)
        refine lv_aload_n hx hb dX0_tryParts_134 rfl (lv_at hl 1 rfl) ?_
        refine lv_iconst (v := 1) hx hb dX0_tryParts_135 (by decide) ?_
        refine lv_iload hx hb dX0_tryParts_136 (lv_at hl 7 rfl) ?_
        refine lv_iload hx hb dX0_tryParts_138 (lv_at hl 8 rfl) ?_
        refine lv_iload hx hb dX0_tryParts_140 (lv_at hl 0 rfl) ?_
        obtain ⟨r19, hcr19, hsp⟩ := clE hsp
        refine call_i (w1 := [(a0, .inr (0, [.ref a1, .ref a10, .ref a11, .ref a12, w0_4, w0_5])), (a11, .inl (cI, 3, .inl y6)), (a12, .inl (cI, 3, .inl y7))]) (ws' := [(a0, .inr (0, [.ref a1, .ref a10, .ref a11, .ref a12, w0_4, w0_5])), (a1, .inr (2, [w1_0, .ref a3, w1_2, .ref a5, w1_4, w1_5, w1_6, w1_7, w1_8, w1_9, w1_10, w1_11])), (a3, .inl (cI, 36, .inl f3)), (a5, .inl (cI, 18, .inl f5)), (a10, .inl (cI, 5, .inl y13)), (a11, .inl (cI, 3, .inl y6)), (a12, .inl (cI, 3, .inl y7))]) (va_runV (As := [.int 1, .int x8, .int x12, .int x17]) (rest := [.int r18, .int u1, .ref a1]) ⟨hx, hb, hml, hown, hts⟩ (k_X0_mixedStrength l D cI cZ cC cS H.size a0 a11 a12 (.ref a1) (.ref a10) (w0_4) (w0_5) y6 y7 1 x8 x12 x17 r19 hcr19) (cwV 4 hts gX0_tryParts_X0_mixedStrength rfl rfl rfl nd_X0_mixedStrength ⟨Nat.le_of_ble_eq_true rfl, Nat.le_of_ble_eq_true rfl⟩) (PB.preV (ci := 0) (q0 := 0) hKU hP hD [0, 5, 6] rfl rfl rfl rfl) rfl rfl hl.1 rfl (lv_room (Nat.le_of_ble_eq_true rfl)) dX0_tryParts_142 ⟨Nat.zero_le _, Nat.zero_le _⟩) hS hP hD hA [0, 5, 6] rfl rfl (by first | (simp only [wset, List.set_cons_zero, List.set_cons_succ]; done) | rfl) rfl (fun H locs hP hD hS => ?_)
        refine lv_aload_n hx hb dX0_tryParts_145 rfl (lv_at hl 1 rfl) ?_
        refine lv_iconst (v := 2) hx hb dX0_tryParts_146 (by decide) ?_
        refine lv_iload hx hb dX0_tryParts_147 (lv_at hl 7 rfl) ?_
        refine lv_iload hx hb dX0_tryParts_149 (lv_at hl 8 rfl) ?_
        refine lv_iload hx hb dX0_tryParts_151 (lv_at hl 0 rfl) ?_
        obtain ⟨r20, hcr20, hsp⟩ := clE hsp
        refine call_i (w1 := [(a0, .inr (0, [.ref a1, .ref a10, .ref a11, .ref a12, w0_4, w0_5])), (a11, .inl (cI, 3, .inl y6)), (a12, .inl (cI, 3, .inl y7))]) (ws' := [(a0, .inr (0, [.ref a1, .ref a10, .ref a11, .ref a12, w0_4, w0_5])), (a1, .inr (2, [w1_0, .ref a3, w1_2, .ref a5, w1_4, w1_5, w1_6, w1_7, w1_8, w1_9, w1_10, w1_11])), (a3, .inl (cI, 36, .inl f3)), (a5, .inl (cI, 18, .inl f5)), (a10, .inl (cI, 5, .inl y13)), (a11, .inl (cI, 3, .inl y6)), (a12, .inl (cI, 3, .inl y7))]) (va_runV (As := [.int 2, .int x8, .int x12, .int x17]) (rest := [.int r19, .int r18, .int u1, .ref a1]) ⟨hx, hb, hml, hown, hts⟩ (k_X0_mixedStrength l D cI cZ cC cS H.size a0 a11 a12 (.ref a1) (.ref a10) (w0_4) (w0_5) y6 y7 2 x8 x12 x17 r20 hcr20) (cwV 4 hts gX0_tryParts_X0_mixedStrength rfl rfl rfl nd_X0_mixedStrength ⟨Nat.le_of_ble_eq_true rfl, Nat.le_of_ble_eq_true rfl⟩) (PB.preV (ci := 0) (q0 := 0) hKU hP hD [0, 5, 6] rfl rfl rfl rfl) rfl rfl hl.1 rfl (lv_room (Nat.le_of_ble_eq_true rfl)) dX0_tryParts_153 ⟨Nat.zero_le _, Nat.zero_le _⟩) hS hP hD hA [0, 5, 6] rfl rfl (by first | (simp only [wset, List.set_cons_zero, List.set_cons_succ]; done) | rfl) rfl (fun H locs hP hD hS => ?_)
        obtain ⟨r21, hcr21, hsp⟩ := clE hsp
        refine call_i (w1 := [(a1, .inr (2, [w1_0, .ref a3, w1_2, .ref a5, w1_4, w1_5, w1_6, w1_7, w1_8, w1_9, w1_10, w1_11])), (a5, .inl (cI, 18, .inl f5))]) (ws' := [(a0, .inr (0, [.ref a1, .ref a10, .ref a11, .ref a12, w0_4, w0_5])), (a1, .inr (2, [w1_0, .ref a3, w1_2, .ref a5, w1_4, w1_5, w1_6, w1_7, w1_8, w1_9, w1_10, w1_11])), (a3, .inl (cI, 36, .inl f3)), (a5, .inl (cI, 18, .inl f5)), (a10, .inl (cI, 5, .inl y13)), (a11, .inl (cI, 3, .inl y6)), (a12, .inl (cI, 3, .inl y7))]) (va_runV (As := [.int u1, .int r18, .int r19, .int r20]) (rest := []) ⟨hx, hb, hml, hown, hts⟩ (k_X2_distance l D cI cZ cC cS H.size a1 a5 (w1_0) (.ref a3) (w1_2) (w1_4) (w1_5) (w1_6) (w1_7) (w1_8) (w1_9) (w1_10) (w1_11) f5 u1 r18 r19 r20 r21 hcr21) (cwV 4 hts gX0_tryParts_X2_distance rfl rfl rfl nd_X2_distance ⟨Nat.le_of_ble_eq_true rfl, Nat.le_of_ble_eq_true rfl⟩) (PB.preV (ci := 2) (q0 := 1) hKU hP hD [1, 3] rfl rfl rfl rfl) rfl rfl hl.1 rfl (lv_room (Nat.le_of_ble_eq_true rfl)) dX0_tryParts_156 ⟨Nat.zero_le _, Nat.zero_le _⟩) hS hP hD hA [1, 3] rfl rfl (by first | (simp only [wset, List.set_cons_zero, List.set_cons_succ]; done) | rfl) rfl (fun H locs hP hD hS => ?_)
        refine lv_istore (lv' := [(9, .int r21), (8, .int x17), (0, .ref a0), (1, .int u1), (2, .int u2), (3, .int u3), (4, .int r1), (5, .int r2), (6, .int x8), (7, .int x12)]) hx hb dX0_tryParts_159 hl (by decide) rfl (fun ls hl => ?_)
        refine lv_iload hx hb dX0_tryParts_161 (lv_at hl 0 rfl) ?_
        refine lv_aload_n hx hb dX0_tryParts_163 rfl (lv_at hl 2 rfl) ?_
        refine va_get (D := D) (ci := 0) (v := .ref a10) (C := RX0) (T := TX0) (N := 6) hx hb hts hi_X0 hown hK hP 0 rfl rfl 1 (by decide) hf_15 (fun _ h9 => h9) rfl dX0_tryParts_164 ?_
        refine lv_iconst (v := 4) hx hb dX0_tryParts_167 (by decide) ?_
        obtain ⟨r22, hcr22, hsp⟩ := clE hsp
        refine call_i (w1 := [(a10, .inl (cI, 5, .inl y13))]) (ws' := [(a0, .inr (0, [.ref a1, .ref a10, .ref a11, .ref a12, w0_4, w0_5])), (a1, .inr (2, [w1_0, .ref a3, w1_2, .ref a5, w1_4, w1_5, w1_6, w1_7, w1_8, w1_9, w1_10, w1_11])), (a3, .inl (cI, 36, .inl f3)), (a5, .inl (cI, 18, .inl f5)), (a10, .inl (cI, 5, .inl y13)), (a11, .inl (cI, 3, .inl y6)), (a12, .inl (cI, 3, .inl y7))]) (va_runSN (As := [.ref a10, .int 4]) (rest := [.int r21]) ⟨hx, hb, hml, hown, hts⟩ (k_X4_at l D cI cZ cC cS H.size a10 5 y13 4 r22 hcr22) ⟨va_cnB 2 hts gX0_tryParts_X4_at_n70 rfl rfl rfl (mn_Advice_70 hKU.2.2) hin_X4 nd_X4_at.2 ⟨Nat.le_of_ble_eq_true rfl, Nat.le_of_ble_eq_true rfl⟩, hst_X4_at, trivial⟩ (PB.preS hKU hP hD [4] rfl rfl) rfl rfl hl.1 rfl (lv_room (Nat.le_of_ble_eq_true rfl)) dX0_tryParts_168 ⟨Nat.zero_le _, Nat.zero_le _⟩) hS hP hD hA [4] rfl rfl (by first | (simp only [wset, List.set_cons_zero, List.set_cons_succ]; done) | rfl) rfl (fun H locs hP hD hS => ?_)
        refine lv_icmp_ge (tgt := 222) hx hb dX0_tryParts_171 (by decide) (fun c23 => ?_) (fun c23 => ?_)
        · have hsp := itT hsp c23
          obtain ⟨x24, ex24, hsp⟩ := nmE hsp
          refine lv_iinc (k := 9) (v := x24) (lv' := [(7, .int x24), (9, .int r21), (8, .int x17), (0, .ref a0), (1, .int u1), (2, .int u2), (3, .int u3), (4, .int r1), (5, .int r2), (6, .int x8)]) hx hb dX0_tryParts_222 hl rfl (by rw [ex24]; rfl) (by decide) rfl (fun ls hl => ?_)
          refine lv_goto (tgt := 98) hx hb dX0_tryParts_225 (by decide) ?_
          exact ih3 (x24, y13) _ _ hsp hP hD hS _ (lv_sub hl [3, 4, 5, 6, 7, 8, 9, 0] rfl)
        have hsp := itF hsp c23
        refine lv_aload_n hx hb dX0_tryParts_174 rfl (lv_at hl 2 rfl) ?_
        refine va_get (D := D) (ci := 0) (v := .ref a10) (C := RX0) (T := TX0) (N := 6) hx hb hts hi_X0 hown hK hP 0 rfl rfl 1 (by decide) hf_15 (fun _ h9 => h9) rfl dX0_tryParts_175 ?_
        refine lv_iconst (v := 0) hx hb dX0_tryParts_178 (by decide) ?_
        refine lv_iload_n hx hb dX0_tryParts_179 rfl (lv_at hl 4 rfl) ?_
        obtain ⟨r25, hcr25, hsp⟩ := clE hsp
        refine call_v (w1 := [(a10, .inl (cI, 5, .inl r25))]) (ws' := [(a0, .inr (0, [.ref a1, .ref a10, .ref a11, .ref a12, w0_4, w0_5])), (a1, .inr (2, [w1_0, .ref a3, w1_2, .ref a5, w1_4, w1_5, w1_6, w1_7, w1_8, w1_9, w1_10, w1_11])), (a3, .inl (cI, 36, .inl f3)), (a5, .inl (cI, 18, .inl f5)), (a10, .inl (cI, 5, .inl r25)), (a11, .inl (cI, 3, .inl y6)), (a12, .inl (cI, 3, .inl y7))]) (va_runSN (As := [.ref a10, .int 0, .int u2]) (rest := []) ⟨hx, hb, hml, hown, hts⟩ (k_X4_write l D cI cZ cC cS H.size a10 5 y13 0 u2 r25 hcr25) ⟨va_cnB 3 hts gX0_tryParts_X4_write_n62 rfl rfl rfl (mn_Advice_62 hKU.2.2) hin_X4 nd_X4_write.2 ⟨Nat.le_of_ble_eq_true rfl, Nat.le_of_ble_eq_true rfl⟩, hst_X4_write, trivial⟩ (PB.preS hKU hP hD [4] rfl rfl) rfl rfl hl.1 rfl (lv_room (Nat.le_of_ble_eq_true rfl)) dX0_tryParts_180 ⟨Nat.zero_le _, Nat.zero_le _⟩) hS hP hD hA [4] rfl rfl (by first | (simp only [wset, List.set_cons_zero, List.set_cons_succ]; done) | rfl) rfl (fun H locs hP hD hS => ?_)
        refine lv_aload_n hx hb dX0_tryParts_183 rfl (lv_at hl 2 rfl) ?_
        refine va_get (D := D) (ci := 0) (v := .ref a10) (C := RX0) (T := TX0) (N := 6) hx hb hts hi_X0 hown hK hP 0 rfl rfl 1 (by decide) hf_15 (fun _ h9 => h9) rfl dX0_tryParts_184 ?_
        refine lv_iconst (v := 1) hx hb dX0_tryParts_187 (by decide) ?_
        refine lv_iload_n hx hb dX0_tryParts_188 rfl (lv_at hl 5 rfl) ?_
        obtain ⟨r26, hcr26, hsp⟩ := clE hsp
        refine call_v (w1 := [(a10, .inl (cI, 5, .inl r26))]) (ws' := [(a0, .inr (0, [.ref a1, .ref a10, .ref a11, .ref a12, w0_4, w0_5])), (a1, .inr (2, [w1_0, .ref a3, w1_2, .ref a5, w1_4, w1_5, w1_6, w1_7, w1_8, w1_9, w1_10, w1_11])), (a3, .inl (cI, 36, .inl f3)), (a5, .inl (cI, 18, .inl f5)), (a10, .inl (cI, 5, .inl r26)), (a11, .inl (cI, 3, .inl y6)), (a12, .inl (cI, 3, .inl y7))]) (va_runSN (As := [.ref a10, .int 1, .int u3]) (rest := []) ⟨hx, hb, hml, hown, hts⟩ (k_X4_write l D cI cZ cC cS H.size a10 5 r25 1 u3 r26 hcr26) ⟨va_cnB 3 hts gX0_tryParts_X4_write_n62 rfl rfl rfl (mn_Advice_62 hKU.2.2) hin_X4 nd_X4_write.2 ⟨Nat.le_of_ble_eq_true rfl, Nat.le_of_ble_eq_true rfl⟩, hst_X4_write, trivial⟩ (PB.preS hKU hP hD [4] rfl rfl) rfl rfl hl.1 rfl (lv_room (Nat.le_of_ble_eq_true rfl)) dX0_tryParts_189 ⟨Nat.zero_le _, Nat.zero_le _⟩) hS hP hD hA [4] rfl rfl (by first | (simp only [wset, List.set_cons_zero, List.set_cons_succ]; done) | rfl) rfl (fun H locs hP hD hS => ?_)
        refine lv_aload_n hx hb dX0_tryParts_192 rfl (lv_at hl 2 rfl) ?_
        refine va_get (D := D) (ci := 0) (v := .ref a10) (C := RX0) (T := TX0) (N := 6) hx hb hts hi_X0 hown hK hP 0 rfl rfl 1 (by decide) hf_15 (fun _ h9 => h9) rfl dX0_tryParts_193 ?_
        refine lv_iconst (v := 2) hx hb dX0_tryParts_196 (by decide) ?_
        refine lv_iload hx hb dX0_tryParts_197 (lv_at hl 8 rfl) ?_
        obtain ⟨r27, hcr27, hsp⟩ := clE hsp
        refine call_v (w1 := [(a10, .inl (cI, 5, .inl r27))]) (ws' := [(a0, .inr (0, [.ref a1, .ref a10, .ref a11, .ref a12, w0_4, w0_5])), (a1, .inr (2, [w1_0, .ref a3, w1_2, .ref a5, w1_4, w1_5, w1_6, w1_7, w1_8, w1_9, w1_10, w1_11])), (a3, .inl (cI, 36, .inl f3)), (a5, .inl (cI, 18, .inl f5)), (a10, .inl (cI, 5, .inl r27)), (a11, .inl (cI, 3, .inl y6)), (a12, .inl (cI, 3, .inl y7))]) (va_runSN (As := [.ref a10, .int 2, .int x8]) (rest := []) ⟨hx, hb, hml, hown, hts⟩ (k_X4_write l D cI cZ cC cS H.size a10 5 r26 2 x8 r27 hcr27) ⟨va_cnB 3 hts gX0_tryParts_X4_write_n62 rfl rfl rfl (mn_Advice_62 hKU.2.2) hin_X4 nd_X4_write.2 ⟨Nat.le_of_ble_eq_true rfl, Nat.le_of_ble_eq_true rfl⟩, hst_X4_write, trivial⟩ (PB.preS hKU hP hD [4] rfl rfl) rfl rfl hl.1 rfl (lv_room (Nat.le_of_ble_eq_true rfl)) dX0_tryParts_199 ⟨Nat.zero_le _, Nat.zero_le _⟩) hS hP hD hA [4] rfl rfl (by first | (simp only [wset, List.set_cons_zero, List.set_cons_succ]; done) | rfl) rfl (fun H locs hP hD hS => ?_)
        refine lv_aload_n hx hb dX0_tryParts_202 rfl (lv_at hl 2 rfl) ?_
        refine va_get (D := D) (ci := 0) (v := .ref a10) (C := RX0) (T := TX0) (N := 6) hx hb hts hi_X0 hown hK hP 0 rfl rfl 1 (by decide) hf_15 (fun _ h9 => h9) rfl dX0_tryParts_203 ?_
        refine lv_iconst (v := 3) hx hb dX0_tryParts_206 (by decide) ?_
        refine lv_iload hx hb dX0_tryParts_207 (lv_at hl 9 rfl) ?_
        obtain ⟨r28, hcr28, hsp⟩ := clE hsp
        refine call_v (w1 := [(a10, .inl (cI, 5, .inl r28))]) (ws' := [(a0, .inr (0, [.ref a1, .ref a10, .ref a11, .ref a12, w0_4, w0_5])), (a1, .inr (2, [w1_0, .ref a3, w1_2, .ref a5, w1_4, w1_5, w1_6, w1_7, w1_8, w1_9, w1_10, w1_11])), (a3, .inl (cI, 36, .inl f3)), (a5, .inl (cI, 18, .inl f5)), (a10, .inl (cI, 5, .inl r28)), (a11, .inl (cI, 3, .inl y6)), (a12, .inl (cI, 3, .inl y7))]) (va_runSN (As := [.ref a10, .int 3, .int x12]) (rest := []) ⟨hx, hb, hml, hown, hts⟩ (k_X4_write l D cI cZ cC cS H.size a10 5 r27 3 x12 r28 hcr28) ⟨va_cnB 3 hts gX0_tryParts_X4_write_n62 rfl rfl rfl (mn_Advice_62 hKU.2.2) hin_X4 nd_X4_write.2 ⟨Nat.le_of_ble_eq_true rfl, Nat.le_of_ble_eq_true rfl⟩, hst_X4_write, trivial⟩ (PB.preS hKU hP hD [4] rfl rfl) rfl rfl hl.1 rfl (lv_room (Nat.le_of_ble_eq_true rfl)) dX0_tryParts_209 ⟨Nat.zero_le _, Nat.zero_le _⟩) hS hP hD hA [4] rfl rfl (by first | (simp only [wset, List.set_cons_zero, List.set_cons_succ]; done) | rfl) rfl (fun H locs hP hD hS => ?_)
        refine lv_aload_n hx hb dX0_tryParts_212 rfl (lv_at hl 2 rfl) ?_
        refine va_get (D := D) (ci := 0) (v := .ref a10) (C := RX0) (T := TX0) (N := 6) hx hb hts hi_X0 hown hK hP 0 rfl rfl 1 (by decide) hf_15 (fun _ h9 => h9) rfl dX0_tryParts_213 ?_
        refine lv_iconst (v := 4) hx hb dX0_tryParts_216 (by decide) ?_
        refine lv_iload hx hb dX0_tryParts_217 (lv_at hl 0 rfl) ?_
        obtain ⟨r29, hcr29, hsp⟩ := clE hsp
        refine call_v (w1 := [(a10, .inl (cI, 5, .inl r29))]) (ws' := [(a0, .inr (0, [.ref a1, .ref a10, .ref a11, .ref a12, w0_4, w0_5])), (a1, .inr (2, [w1_0, .ref a3, w1_2, .ref a5, w1_4, w1_5, w1_6, w1_7, w1_8, w1_9, w1_10, w1_11])), (a3, .inl (cI, 36, .inl f3)), (a5, .inl (cI, 18, .inl f5)), (a10, .inl (cI, 5, .inl r29)), (a11, .inl (cI, 3, .inl y6)), (a12, .inl (cI, 3, .inl y7))]) (va_runSN (As := [.ref a10, .int 4, .int r21]) (rest := []) ⟨hx, hb, hml, hown, hts⟩ (k_X4_write l D cI cZ cC cS H.size a10 5 r28 4 r21 r29 hcr29) ⟨va_cnB 3 hts gX0_tryParts_X4_write_n62 rfl rfl rfl (mn_Advice_62 hKU.2.2) hin_X4 nd_X4_write.2 ⟨Nat.le_of_ble_eq_true rfl, Nat.le_of_ble_eq_true rfl⟩, hst_X4_write, trivial⟩ (PB.preS hKU hP hD [4] rfl rfl) rfl rfl hl.1 rfl (lv_room (Nat.le_of_ble_eq_true rfl)) dX0_tryParts_219 ⟨Nat.zero_le _, Nat.zero_le _⟩) hS hP hD hA [4] rfl rfl (by first | (simp only [wset, List.set_cons_zero, List.set_cons_succ]; done) | rfl) rfl (fun H locs hP hD hS => ?_)
        obtain ⟨x30, ex30, hsp⟩ := nmE hsp
        refine lv_iinc (k := 9) (v := x30) (lv' := [(7, .int x30), (9, .int r21), (8, .int x17), (0, .ref a0), (1, .int u1), (2, .int u2), (3, .int u3), (4, .int r1), (5, .int r2), (6, .int x8)]) hx hb dX0_tryParts_222 hl rfl (by rw [ex30]; rfl) (by decide) rfl (fun ls hl => ?_)
        refine lv_goto (tgt := 98) hx hb dX0_tryParts_225 (by decide) ?_
        exact ih3 (x30, r29) _ _ hsp hP hD hS _ (lv_sub hl [3, 4, 5, 6, 7, 8, 9, 0] rfl)
  have hl := lv_sub hl (l' := [(0, .ref a0), (1, .int u1), (2, .int u2), (3, .int u3), (4, .int r1), (5, .int r2), (6, .int 0)]) [3, 4, 5, 6, 2, 1, 0] rfl
  refine lp_rule (D := D) (F := s_X0_tryParts_L1 f3 u2 r2 u3 r1 (s_X0_tryParts_X1 r1 r2 f5 u1 u2 u3 f10)) (P := fun (tv : Int32 × (Nat → Int32) × (Nat → Int32)) => [(a0, .inr (0, [.ref a1, .ref a10, .ref a11, .ref a12, w0_4, w0_5])), (a1, .inr (2, [w1_0, .ref a3, w1_2, .ref a5, w1_4, w1_5, w1_6, w1_7, w1_8, w1_9, w1_10, w1_11])), (a3, .inl (cI, 36, .inl f3)), (a5, .inl (cI, 18, .inl f5)), (a10, .inl (cI, 5, .inl f10)), (a11, .inl (cI, 3, .inl tv.2.1)), (a12, .inl (cI, 3, .inl tv.2.2))]) (L := fun (tv : Int32 × (Nat → Int32) × (Nat → Int32)) => [(0, .ref a0), (1, .int u1), (2, .int u2), (3, .int u3), (4, .int r1), (5, .int r2), (6, .int tv.1)]) (nL := 10) (res := res) (A := A) (H0 := s.heap) (fun _ => rfl) ?_ 1000 (0, f11, f12) _ _ hsp hP hD hS _ hl
  · intro n1 ih1 tv H locs hsp hP hD hS ls hl
    obtain ⟨x3, y4, y5⟩ := tv
    have hsp : s_X0_tryParts_B1  f3 u2 r2 u3 r1 (s_X0_tryParts_X1 r1 r2 f5 u1 u2 u3 f10) (s_X0_tryParts_L1 f3 u2 r2 u3 r1 (s_X0_tryParts_X1 r1 r2 f5 u1 u2 u3 f10) n1) x3 y4 y5 = some res := hsp
    unfold s_X0_tryParts_B1 at hsp
    have hP : va_P D vwCl [(a0, .inr (0, [.ref a1, .ref a10, .ref a11, .ref a12, w0_4, w0_5])), (a1, .inr (2, [w1_0, .ref a3, w1_2, .ref a5, w1_4, w1_5, w1_6, w1_7, w1_8, w1_9, w1_10, w1_11])), (a3, .inl (cI, 36, .inl f3)), (a5, .inl (cI, 18, .inl f5)), (a10, .inl (cI, 5, .inl f10)), (a11, .inl (cI, 3, .inl y4)), (a12, .inl (cI, 3, .inl y5))] H := hP
    have hD : va_D A [(a0, .inr (0, [.ref a1, .ref a10, .ref a11, .ref a12, w0_4, w0_5])), (a1, .inr (2, [w1_0, .ref a3, w1_2, .ref a5, w1_4, w1_5, w1_6, w1_7, w1_8, w1_9, w1_10, w1_11])), (a3, .inl (cI, 36, .inl f3)), (a5, .inl (cI, 18, .inl f5)), (a10, .inl (cI, 5, .inl f10)), (a11, .inl (cI, 3, .inl y4)), (a12, .inl (cI, 3, .inl y5))] := hD
    have hl : lv_has ls 10 [(0, .ref a0), (1, .int u1), (2, .int u2), (3, .int u3), (4, .int r1), (5, .int r2), (6, .int x3)] := hl
    refine lv_iload hx hb dX0_tryParts_23 (lv_at hl 6 rfl) ?_
    refine lv_iconst (v := 3) hx hb dX0_tryParts_25 (by decide) ?_
    refine lv_icmp_ge (tgt := 85) hx hb dX0_tryParts_26 (by decide) (fun c31 => ?_) (fun c31 => ?_)
    · have hsp := itT hsp c31
      exact hx1 (y4, y5) _ _ hsp hP hD hS _ (lv_sub hl [0, 1, 2, 3, 4, 5] rfl)
    have hsp := itF hsp c31
    refine lv_aload_n hx hb dX0_tryParts_29 rfl (lv_at hl 0 rfl) ?_
    refine va_get (D := D) (ci := 0) (v := .ref a11) (C := RX0) (T := TX0) (N := 6) hx hb hts hi_X0 hown hK hP 0 rfl rfl 2 (by decide) hf_19 (fun _ h9 => h9) rfl dX0_tryParts_30 ?_
    refine lv_iload hx hb dX0_tryParts_33 (lv_at hl 6 rfl) ?_
    refine lv_bipush (v := 100) hx hb dX0_tryParts_35 (by decide) ?_
    refine lv_aload_n hx hb dX0_tryParts_37 rfl (lv_at hl 0 rfl) ?_
    refine va_get (D := D) (ci := 0) (v := .ref a1) (C := RX0) (T := TX0) (N := 6) hx hb hts hi_X0 hown hK hP 0 rfl rfl 0 (by decide) hf_9 (fun _ h9 => h9) rfl dX0_tryParts_38 ?_
    refine lv_iload_n hx hb dX0_tryParts_41 rfl (lv_at hl 2 rfl) ?_
    refine lv_iload hx hb dX0_tryParts_42 (lv_at hl 6 rfl) ?_
    obtain ⟨r32, hcr32, hsp⟩ := clE hsp
    refine call_i (w1 := [(a1, .inr (2, [w1_0, .ref a3, w1_2, .ref a5, w1_4, w1_5, w1_6, w1_7, w1_8, w1_9, w1_10, w1_11])), (a3, .inl (cI, 36, .inl f3))]) (ws' := [(a0, .inr (0, [.ref a1, .ref a10, .ref a11, .ref a12, w0_4, w0_5])), (a1, .inr (2, [w1_0, .ref a3, w1_2, .ref a5, w1_4, w1_5, w1_6, w1_7, w1_8, w1_9, w1_10, w1_11])), (a3, .inl (cI, 36, .inl f3)), (a5, .inl (cI, 18, .inl f5)), (a10, .inl (cI, 5, .inl f10)), (a11, .inl (cI, 3, .inl y4)), (a12, .inl (cI, 3, .inl y5))]) (va_runV (As := [.int u2, .int x3]) (rest := [.int 100, .int x3, .ref a11]) ⟨hx, hb, hml, hown, hts⟩ (k_X2_dropsOf l D cI cZ cC cS H.size a1 a3 (w1_0) (w1_2) (.ref a5) (w1_4) (w1_5) (w1_6) (w1_7) (w1_8) (w1_9) (w1_10) (w1_11) f3 u2 x3 r32 hcr32) (cwV 2 hts gX0_tryParts_X2_dropsOf rfl rfl rfl nd_X2_dropsOf ⟨Nat.le_of_ble_eq_true rfl, Nat.le_of_ble_eq_true rfl⟩) (PB.preV (ci := 2) (q0 := 1) hKU hP hD [1, 2] rfl rfl rfl rfl) rfl rfl hl.1 rfl (lv_room (Nat.le_of_ble_eq_true rfl)) dX0_tryParts_44 ⟨Nat.zero_le _, Nat.zero_le _⟩) hS hP hD hA [1, 2] rfl rfl (by first | (simp only [wset, List.set_cons_zero, List.set_cons_succ]; done) | rfl) rfl (fun H locs hP hD hS => ?_)
    refine lv_imul hx hb dX0_tryParts_47 ?_
    refine lv_iload hx hb dX0_tryParts_48 (lv_at hl 5 rfl) ?_
    refine lv_imul hx hb dX0_tryParts_50 ?_
    obtain ⟨r33, hcr33, hsp⟩ := clE hsp
    refine call_v (w1 := [(a11, .inl (cI, 3, .inl r33))]) (ws' := [(a0, .inr (0, [.ref a1, .ref a10, .ref a11, .ref a12, w0_4, w0_5])), (a1, .inr (2, [w1_0, .ref a3, w1_2, .ref a5, w1_4, w1_5, w1_6, w1_7, w1_8, w1_9, w1_10, w1_11])), (a3, .inl (cI, 36, .inl f3)), (a5, .inl (cI, 18, .inl f5)), (a10, .inl (cI, 5, .inl f10)), (a11, .inl (cI, 3, .inl r33)), (a12, .inl (cI, 3, .inl y5))]) (va_runSN (As := [.ref a11, .int x3, .int ((100 * r32) * r2)]) (rest := []) ⟨hx, hb, hml, hown, hts⟩ (k_X4_write l D cI cZ cC cS H.size a11 3 y4 x3 ((100 * r32) * r2) r33 hcr33) ⟨va_cnB 3 hts gX0_tryParts_X4_write_n62 rfl rfl rfl (mn_Advice_62 hKU.2.2) hin_X4 nd_X4_write.2 ⟨Nat.le_of_ble_eq_true rfl, Nat.le_of_ble_eq_true rfl⟩, hst_X4_write, trivial⟩ (PB.preS hKU hP hD [5] rfl rfl) rfl rfl hl.1 rfl (lv_room (Nat.le_of_ble_eq_true rfl)) dX0_tryParts_51 ⟨Nat.zero_le _, Nat.zero_le _⟩) hS hP hD hA [5] rfl rfl (by first | (simp only [wset, List.set_cons_zero, List.set_cons_succ]; done) | rfl) rfl (fun H locs hP hD hS => ?_)
    refine lv_aload_n hx hb dX0_tryParts_54 rfl (lv_at hl 0 rfl) ?_
    refine va_get (D := D) (ci := 0) (v := .ref a12) (C := RX0) (T := TX0) (N := 6) hx hb hts hi_X0 hown hK hP 0 rfl rfl 3 (by decide) hf_22 (fun _ h9 => h9) rfl dX0_tryParts_55 ?_
    refine lv_iload hx hb dX0_tryParts_58 (lv_at hl 6 rfl) ?_
    refine lv_bipush (v := 100) hx hb dX0_tryParts_60 (by decide) ?_
    refine lv_aload_n hx hb dX0_tryParts_62 rfl (lv_at hl 0 rfl) ?_
    refine va_get (D := D) (ci := 0) (v := .ref a1) (C := RX0) (T := TX0) (N := 6) hx hb hts hi_X0 hown hK hP 0 rfl rfl 0 (by decide) hf_9 (fun _ h9 => h9) rfl dX0_tryParts_63 ?_
    refine lv_iload_n hx hb dX0_tryParts_66 rfl (lv_at hl 3 rfl) ?_
    refine lv_iload hx hb dX0_tryParts_67 (lv_at hl 6 rfl) ?_
    obtain ⟨r34, hcr34, hsp⟩ := clE hsp
    refine call_i (w1 := [(a1, .inr (2, [w1_0, .ref a3, w1_2, .ref a5, w1_4, w1_5, w1_6, w1_7, w1_8, w1_9, w1_10, w1_11])), (a3, .inl (cI, 36, .inl f3))]) (ws' := [(a0, .inr (0, [.ref a1, .ref a10, .ref a11, .ref a12, w0_4, w0_5])), (a1, .inr (2, [w1_0, .ref a3, w1_2, .ref a5, w1_4, w1_5, w1_6, w1_7, w1_8, w1_9, w1_10, w1_11])), (a3, .inl (cI, 36, .inl f3)), (a5, .inl (cI, 18, .inl f5)), (a10, .inl (cI, 5, .inl f10)), (a11, .inl (cI, 3, .inl r33)), (a12, .inl (cI, 3, .inl y5))]) (va_runV (As := [.int u3, .int x3]) (rest := [.int 100, .int x3, .ref a12]) ⟨hx, hb, hml, hown, hts⟩ (k_X2_dropsOf l D cI cZ cC cS H.size a1 a3 (w1_0) (w1_2) (.ref a5) (w1_4) (w1_5) (w1_6) (w1_7) (w1_8) (w1_9) (w1_10) (w1_11) f3 u3 x3 r34 hcr34) (cwV 2 hts gX0_tryParts_X2_dropsOf rfl rfl rfl nd_X2_dropsOf ⟨Nat.le_of_ble_eq_true rfl, Nat.le_of_ble_eq_true rfl⟩) (PB.preV (ci := 2) (q0 := 1) hKU hP hD [1, 2] rfl rfl rfl rfl) rfl rfl hl.1 rfl (lv_room (Nat.le_of_ble_eq_true rfl)) dX0_tryParts_69 ⟨Nat.zero_le _, Nat.zero_le _⟩) hS hP hD hA [1, 2] rfl rfl (by first | (simp only [wset, List.set_cons_zero, List.set_cons_succ]; done) | rfl) rfl (fun H locs hP hD hS => ?_)
    refine lv_imul hx hb dX0_tryParts_72 ?_
    refine lv_iload hx hb dX0_tryParts_73 (lv_at hl 4 rfl) ?_
    refine lv_imul hx hb dX0_tryParts_75 ?_
    obtain ⟨r35, hcr35, hsp⟩ := clE hsp
    refine call_v (w1 := [(a12, .inl (cI, 3, .inl r35))]) (ws' := [(a0, .inr (0, [.ref a1, .ref a10, .ref a11, .ref a12, w0_4, w0_5])), (a1, .inr (2, [w1_0, .ref a3, w1_2, .ref a5, w1_4, w1_5, w1_6, w1_7, w1_8, w1_9, w1_10, w1_11])), (a3, .inl (cI, 36, .inl f3)), (a5, .inl (cI, 18, .inl f5)), (a10, .inl (cI, 5, .inl f10)), (a11, .inl (cI, 3, .inl r33)), (a12, .inl (cI, 3, .inl r35))]) (va_runSN (As := [.ref a12, .int x3, .int ((100 * r34) * r1)]) (rest := []) ⟨hx, hb, hml, hown, hts⟩ (k_X4_write l D cI cZ cC cS H.size a12 3 y5 x3 ((100 * r34) * r1) r35 hcr35) ⟨va_cnB 3 hts gX0_tryParts_X4_write_n62 rfl rfl rfl (mn_Advice_62 hKU.2.2) hin_X4 nd_X4_write.2 ⟨Nat.le_of_ble_eq_true rfl, Nat.le_of_ble_eq_true rfl⟩, hst_X4_write, trivial⟩ (PB.preS hKU hP hD [6] rfl rfl) rfl rfl hl.1 rfl (lv_room (Nat.le_of_ble_eq_true rfl)) dX0_tryParts_76 ⟨Nat.zero_le _, Nat.zero_le _⟩) hS hP hD hA [6] rfl rfl (by first | (simp only [wset, List.set_cons_zero, List.set_cons_succ]; done) | rfl) rfl (fun H locs hP hD hS => ?_)
    obtain ⟨x36, ex36, hsp⟩ := nmE hsp
    refine lv_iinc (k := 6) (v := x36) (lv' := [(6, .int x36), (0, .ref a0), (1, .int u1), (2, .int u2), (3, .int u3), (4, .int r1), (5, .int r2)]) hx hb dX0_tryParts_79 hl rfl (by rw [ex36]; rfl) (by decide) rfl (fun ls hl => ?_)
    refine lv_goto (tgt := 23) hx hb dX0_tryParts_82 (by decide) ?_
    exact ih1 (x36, r33, r35) _ _ hsp hP hD hS _ (lv_sub hl [1, 2, 3, 4, 5, 6, 0] rfl)

theorem nd_X0_mixture : yX0_mixture.cls = RX0 ∧ yX0_mixture.cls ≠ "java/lang/invoke/MethodHandle" ∧ yX0_mixture.cls ≠ "java/lang/invoke/VarHandle" ∧ (parseMethodDescriptor yX0_mixture.desc).map (fun d => d.parameters.length) = some 2 := by decide +kernel
set_option maxHeartbeats 8000000 in
set_option maxRecDepth 100000 in
theorem k_X0_mixture (l : Launch) (D : va_G) (cI cZ cC cS : ClassId) (sz : Nat) (a0 a1 a3 a5 a10 a11 a12 : Nat) (w0_4 : Value) (w0_5 : Value) (w1_0 : Value) (w1_2 : Value) (w1_4 : Value) (w1_5 : Value) (w1_6 : Value) (w1_7 : Value) (w1_8 : Value) (w1_9 : Value) (w1_10 : Value) (w1_11 : Value) (f3 : Nat → Int32) (f5 : Nat → Int32) (f10 : Nat → Int32) (f11 : Nat → Int32) (f12 : Nat → Int32) (u1 : Int32) (u2 : Int32) (res : Int32 × (Nat → Int32) × (Nat → Int32) × (Nat → Int32)) (hsp : s_X0_mixture f3 f5 f10 f11 f12 u1 u2 = some res) : Met l yX0_mixture wsX0_mixture ({ frames := 3, cells := 0, slots := 0, locals := 78 }) (va_Pc [.ref a0, .int u1, .int u2] (PB D cI cZ cC cS [(a0, .inr (0, [.ref a1, .ref a10, .ref a11, .ref a12, w0_4, w0_5])), (a1, .inr (2, [w1_0, .ref a3, w1_2, .ref a5, w1_4, w1_5, w1_6, w1_7, w1_8, w1_9, w1_10, w1_11])), (a3, .inl (cI, 36, .inl f3)), (a5, .inl (cI, 18, .inl f5)), (a10, .inl (cI, 5, .inl f10)), (a11, .inl (cI, 3, .inl f11)), (a12, .inl (cI, 3, .inl f12))] sz)) (va_Qi (fun r (_ : Unit) => r = res.1) (fun _ t => va_P D vwCl [(a0, .inr (0, [.ref a1, .ref a10, .ref a11, .ref a12, w0_4, w0_5])), (a1, .inr (2, [w1_0, .ref a3, w1_2, .ref a5, w1_4, w1_5, w1_6, w1_7, w1_8, w1_9, w1_10, w1_11])), (a3, .inl (cI, 36, .inl f3)), (a5, .inl (cI, 18, .inl f5)), (a10, .inl (cI, 5, .inl res.2.1)), (a11, .inl (cI, 3, .inl res.2.2.1)), (a12, .inl (cI, 3, .inl res.2.2.2))] t.heap) (va_A [(a0, .inr (0, [.ref a1, .ref a10, .ref a11, .ref a12, w0_4, w0_5])), (a1, .inr (2, [w1_0, .ref a3, w1_2, .ref a5, w1_4, w1_5, w1_6, w1_7, w1_8, w1_9, w1_10, w1_11])), (a3, .inl (cI, 36, .inl f3)), (a5, .inl (cI, 18, .inl f5)), (a10, .inl (cI, 5, .inl f10)), (a11, .inl (cI, 3, .inl f11)), (a12, .inl (cI, 3, .inl f12))] sz)) 0 0 (va_A [(a0, .inr (0, [.ref a1, .ref a10, .ref a11, .ref a12, w0_4, w0_5])), (a1, .inr (2, [w1_0, .ref a3, w1_2, .ref a5, w1_4, w1_5, w1_6, w1_7, w1_8, w1_9, w1_10, w1_11])), (a3, .inl (cI, 36, .inl f3)), (a5, .inl (cI, 18, .inl f5)), (a10, .inl (cI, 5, .inl f10)), (a11, .inl (cI, 3, .inl f11)), (a12, .inl (cI, 3, .inl f12))] sz) := by
  refine Met.ofW (cc := cX0_mixture) (maxL := 5) (ret := (some .int)) (by decide) rfl ?_
  intro p e s m args below meth c s₁ B hml hv
  obtain ⟨rfl, hsz, hP, hD0, hKU⟩ := hv
  have hx := B.exec
  have hb := B.bytes
  have hr := B.returns
  have hts := atoms_spec (ws := wsX0_mixture) B.pre
  have hown : s.vm.findClass RX0 = some m.cls := findClass_of_methodNamed B.named
  have hlocks := B.notSynchronized
  have hK := hKU.1
  have hf_15 := hts (.fieldLink RX0 15 "ThinnedPots$Advice" "best" "[I") (by decide +kernel)
  have hi_X0 : ∀ w ∈ u_ws RX0 TX0 6, w ∈ wsX0_mixture := by decide +kernel
  have hst_X4_write := hts (.static yX4_write) (by decide +kernel)
  have hin_X4 := hts (.initialized RX4) (by decide +kernel)
  have hst_X4_at := hts (.static yX4_at) (by decide +kernel)
  have hf_9 := hts (.fieldLink RX0 9 "ThinnedPots$Advice" "studio" "LThinnedPots$Studio;") (by decide +kernel)
  subst hsz
  have hD := hD0.self (sz := s.heap.size)
  generalize hAe : va_A [(a0, .inr (0, [.ref a1, .ref a10, .ref a11, .ref a12, w0_4, w0_5])), (a1, .inr (2, [w1_0, .ref a3, w1_2, .ref a5, w1_4, w1_5, w1_6, w1_7, w1_8, w1_9, w1_10, w1_11])), (a3, .inl (cI, 36, .inl f3)), (a5, .inl (cI, 18, .inl f5)), (a10, .inl (cI, 5, .inl f10)), (a11, .inl (cI, 3, .inl f11)), (a12, .inl (cI, 3, .inl f12))] s.heap.size = A at hD ⊢
  have hA : ∀ q : Nat, s.heap.size ≤ q → A q := fun q h => by rw [← hAe]; exact Or.inr h
  have hP : va_P D vwCl [(a0, .inr (0, [.ref a1, .ref a10, .ref a11, .ref a12, w0_4, w0_5])), (a1, .inr (2, [w1_0, .ref a3, w1_2, .ref a5, w1_4, w1_5, w1_6, w1_7, w1_8, w1_9, w1_10, w1_11])), (a3, .inl (cI, 36, .inl f3)), (a5, .inl (cI, 18, .inl f5)), (a10, .inl (cI, 5, .inl f10)), (a11, .inl (cI, 3, .inl f11)), (a12, .inl (cI, 3, .inl f12))] s.heap := hP
  generalize hHe : s.heap = H at hP ⊢
  have hS : va_S A s.heap H [] := by rw [hHe]; exact va_S.rf
  have hl := lv_entry ([.ref a0, .int u1, .int u2]) (n := 5) (Nat.le_of_ble_eq_true rfl)
  rw [lg_entry_eq]
  generalize (lg_sl ([.ref a0, .int u1, .int u2]) ++ List.replicate (5 - (lg_sl ([.ref a0, .int u1, .int u2])).length) Slot.unset).toArray = ls at hl ⊢
  have hl : lv_has ls 5 [(0, .ref a0), (1, .int u1), (2, .int u2)] := hl
  unfold s_X0_mixture at hsp
  refine lv_aload_n hx hb dX0_mixture_0 rfl (lv_at hl 0 rfl) ?_
  refine va_get (D := D) (ci := 0) (v := .ref a10) (C := RX0) (T := TX0) (N := 6) hx hb hts hi_X0 hown hK hP 0 rfl rfl 1 (by decide) hf_15 (fun _ h9 => h9) rfl dX0_mixture_1 ?_
  refine lv_iconst (v := 4) hx hb dX0_mixture_4 (by decide) ?_
  refine lv_sipush (v := 1000) hx hb dX0_mixture_5 (by decide) ?_
  obtain ⟨r1, hcr1, hsp⟩ := clE hsp
  refine call_v (w1 := [(a10, .inl (cI, 5, .inl r1))]) (ws' := [(a0, .inr (0, [.ref a1, .ref a10, .ref a11, .ref a12, w0_4, w0_5])), (a1, .inr (2, [w1_0, .ref a3, w1_2, .ref a5, w1_4, w1_5, w1_6, w1_7, w1_8, w1_9, w1_10, w1_11])), (a3, .inl (cI, 36, .inl f3)), (a5, .inl (cI, 18, .inl f5)), (a10, .inl (cI, 5, .inl r1)), (a11, .inl (cI, 3, .inl f11)), (a12, .inl (cI, 3, .inl f12))]) (va_runSN (As := [.ref a10, .int 4, .int 1000]) (rest := []) ⟨hx, hb, hml, hown, hts⟩ (k_X4_write l D cI cZ cC cS H.size a10 5 f10 4 1000 r1 hcr1) ⟨va_cnB 3 hts gX0_mixture_X4_write_n62 rfl rfl rfl (mn_Advice_62 hKU.2.2) hin_X4 nd_X4_write.2 ⟨Nat.le_of_ble_eq_true rfl, Nat.le_of_ble_eq_true rfl⟩, hst_X4_write, trivial⟩ (PB.preS hKU hP hD [4] rfl rfl) rfl rfl hl.1 rfl (lv_room (Nat.le_of_ble_eq_true rfl)) dX0_mixture_8 ⟨Nat.zero_le _, Nat.zero_le _⟩) hS hP hD hA [4] rfl rfl (by first | (simp only [wset, List.set_cons_zero, List.set_cons_succ]; done) | rfl) rfl (fun H locs hP hD hS => ?_)
  refine lv_iconst (v := 0) hx hb dX0_mixture_11 (by decide) ?_
  refine lv_istore_n (lv' := [(3, .int 0), (0, .ref a0), (1, .int u1), (2, .int u2)]) hx hb dX0_mixture_12 rfl hl (by decide) rfl (fun ls hl => ?_)
  refine ex_rule (D := D) (K := s_X0_mixture_X1 u2) (P := fun (t1 : (Nat → Int32) × (Nat → Int32) × (Nat → Int32)) => [(a0, .inr (0, [.ref a1, .ref a10, .ref a11, .ref a12, w0_4, w0_5])), (a1, .inr (2, [w1_0, .ref a3, w1_2, .ref a5, w1_4, w1_5, w1_6, w1_7, w1_8, w1_9, w1_10, w1_11])), (a3, .inl (cI, 36, .inl f3)), (a5, .inl (cI, 18, .inl f5)), (a10, .inl (cI, 5, .inl t1.1)), (a11, .inl (cI, 3, .inl t1.2.1)), (a12, .inl (cI, 3, .inl t1.2.2))]) (L := fun (t1 : (Nat → Int32) × (Nat → Int32) × (Nat → Int32)) => [(0, .ref a0), (2, .int u2)]) (nL := 5) (pcx := 74) (res := res) (A := A) (H0 := s.heap) ?_ (fun hx1 => ?_)
  · intro t1 H locs hsp hP hD hS ls hl
    obtain ⟨y6, y7, y8⟩ := t1
    unfold s_X0_mixture_X1 at hsp; try dsimp only at hsp
    have hP : va_P D vwCl [(a0, .inr (0, [.ref a1, .ref a10, .ref a11, .ref a12, w0_4, w0_5])), (a1, .inr (2, [w1_0, .ref a3, w1_2, .ref a5, w1_4, w1_5, w1_6, w1_7, w1_8, w1_9, w1_10, w1_11])), (a3, .inl (cI, 36, .inl f3)), (a5, .inl (cI, 18, .inl f5)), (a10, .inl (cI, 5, .inl y6)), (a11, .inl (cI, 3, .inl y7)), (a12, .inl (cI, 3, .inl y8))] H := hP
    have hD : va_D A [(a0, .inr (0, [.ref a1, .ref a10, .ref a11, .ref a12, w0_4, w0_5])), (a1, .inr (2, [w1_0, .ref a3, w1_2, .ref a5, w1_4, w1_5, w1_6, w1_7, w1_8, w1_9, w1_10, w1_11])), (a3, .inl (cI, 36, .inl f3)), (a5, .inl (cI, 18, .inl f5)), (a10, .inl (cI, 5, .inl y6)), (a11, .inl (cI, 3, .inl y7)), (a12, .inl (cI, 3, .inl y8))] := hD
    have hl : lv_has ls 5 [(0, .ref a0), (2, .int u2)] := hl
    refine lv_aload_n hx hb dX0_mixture_74 rfl (lv_at hl 0 rfl) ?_
    refine va_get (D := D) (ci := 0) (v := .ref a10) (C := RX0) (T := TX0) (N := 6) hx hb hts hi_X0 hown hK hP 0 rfl rfl 1 (by decide) hf_15 (fun _ h9 => h9) rfl dX0_mixture_75 ?_
    refine lv_iconst (v := 4) hx hb dX0_mixture_78 (by decide) ?_
    obtain ⟨r9, hcr9, hsp⟩ := clE hsp
    refine call_i (w1 := [(a10, .inl (cI, 5, .inl y6))]) (ws' := [(a0, .inr (0, [.ref a1, .ref a10, .ref a11, .ref a12, w0_4, w0_5])), (a1, .inr (2, [w1_0, .ref a3, w1_2, .ref a5, w1_4, w1_5, w1_6, w1_7, w1_8, w1_9, w1_10, w1_11])), (a3, .inl (cI, 36, .inl f3)), (a5, .inl (cI, 18, .inl f5)), (a10, .inl (cI, 5, .inl y6)), (a11, .inl (cI, 3, .inl y7)), (a12, .inl (cI, 3, .inl y8))]) (va_runSN (As := [.ref a10, .int 4]) (rest := []) ⟨hx, hb, hml, hown, hts⟩ (k_X4_at l D cI cZ cC cS H.size a10 5 y6 4 r9 hcr9) ⟨va_cnB 2 hts gX0_mixture_X4_at_n70 rfl rfl rfl (mn_Advice_70 hKU.2.2) hin_X4 nd_X4_at.2 ⟨Nat.le_of_ble_eq_true rfl, Nat.le_of_ble_eq_true rfl⟩, hst_X4_at, trivial⟩ (PB.preS hKU hP hD [4] rfl rfl) rfl rfl hl.1 rfl (lv_room (Nat.le_of_ble_eq_true rfl)) dX0_mixture_79 ⟨Nat.zero_le _, Nat.zero_le _⟩) hS hP hD hA [4] rfl rfl (by first | (simp only [wset, List.set_cons_zero, List.set_cons_succ]; done) | rfl) rfl (fun H locs hP hD hS => ?_)
    refine lv_sipush (v := 1000) hx hb dX0_mixture_82 (by decide) ?_
    refine lv_icmp_ne (tgt := 93) hx hb dX0_mixture_85 (by decide) (fun c10 => ?_) (fun c10 => ?_)
    · have hsp := itF hsp c10
      refine lv_aload_n hx hb dX0_mixture_93 rfl (lv_at hl 0 rfl) ?_
      refine va_get (D := D) (ci := 0) (v := .ref a10) (C := RX0) (T := TX0) (N := 6) hx hb hts hi_X0 hown hK hP 0 rfl rfl 1 (by decide) hf_15 (fun _ h9 => h9) rfl dX0_mixture_94 ?_
      refine lv_iload_n hx hb dX0_mixture_97 rfl (lv_at hl 1 rfl) ?_
      obtain ⟨r11, hcr11, hsp⟩ := clE hsp
      refine call_i (w1 := [(a10, .inl (cI, 5, .inl y6))]) (ws' := [(a0, .inr (0, [.ref a1, .ref a10, .ref a11, .ref a12, w0_4, w0_5])), (a1, .inr (2, [w1_0, .ref a3, w1_2, .ref a5, w1_4, w1_5, w1_6, w1_7, w1_8, w1_9, w1_10, w1_11])), (a3, .inl (cI, 36, .inl f3)), (a5, .inl (cI, 18, .inl f5)), (a10, .inl (cI, 5, .inl y6)), (a11, .inl (cI, 3, .inl y7)), (a12, .inl (cI, 3, .inl y8))]) (va_runSN (As := [.ref a10, .int u2]) (rest := []) ⟨hx, hb, hml, hown, hts⟩ (k_X4_at l D cI cZ cC cS H.size a10 5 y6 u2 r11 hcr11) ⟨va_cnB 2 hts gX0_mixture_X4_at_n70 rfl rfl rfl (mn_Advice_70 hKU.2.2) hin_X4 nd_X4_at.2 ⟨Nat.le_of_ble_eq_true rfl, Nat.le_of_ble_eq_true rfl⟩, hst_X4_at, trivial⟩ (PB.preS hKU hP hD [4] rfl rfl) rfl rfl hl.1 rfl (lv_room (Nat.le_of_ble_eq_true rfl)) dX0_mixture_98 ⟨Nat.zero_le _, Nat.zero_le _⟩) hS hP hD hA [4] rfl rfl (by first | (simp only [wset, List.set_cons_zero, List.set_cons_succ]; done) | rfl) rfl (fun H locs hP hD hS => ?_)
      have hres := Option.some.inj hsp
      subst hres
      exact W.iret (v := r11) hx hb hr (fun t ht hW => ⟨⟨r11, (), rfl, rfl, P_at ht hP⟩, hS.F ht⟩) hS.2.2 dX0_mixture_101
    have hsp := itT hsp c10
    refine lv_bipush (v := (-6)) hx hb dX0_mixture_88 (by decide) ?_
    refine lv_goto (tgt := 101) hx hb dX0_mixture_90 (by decide) ?_
    have hres := Option.some.inj hsp
    subst hres
    exact W.iret (v := (-6)) hx hb hr (fun t ht hW => ⟨⟨(-6), (), rfl, rfl, P_at ht hP⟩, hS.F ht⟩) hS.2.2 dX0_mixture_101
  have hl := lv_sub hl (l' := [(0, .ref a0), (1, .int u1), (2, .int u2), (3, .int 0)]) [1, 2, 3, 0] rfl
  refine lp_rule (D := D) (F := s_X0_mixture_L1 f3 f5 u1 (s_X0_mixture_X1 u2)) (P := fun (tv : Int32 × (Nat → Int32) × (Nat → Int32) × (Nat → Int32)) => [(a0, .inr (0, [.ref a1, .ref a10, .ref a11, .ref a12, w0_4, w0_5])), (a1, .inr (2, [w1_0, .ref a3, w1_2, .ref a5, w1_4, w1_5, w1_6, w1_7, w1_8, w1_9, w1_10, w1_11])), (a3, .inl (cI, 36, .inl f3)), (a5, .inl (cI, 18, .inl f5)), (a10, .inl (cI, 5, .inl tv.2.1)), (a11, .inl (cI, 3, .inl tv.2.2.1)), (a12, .inl (cI, 3, .inl tv.2.2.2))]) (L := fun (tv : Int32 × (Nat → Int32) × (Nat → Int32) × (Nat → Int32)) => [(0, .ref a0), (1, .int u1), (2, .int u2), (3, .int tv.1)]) (nL := 5) (res := res) (A := A) (H0 := s.heap) (fun _ => rfl) ?_ 1000 (0, r1, f11, f12) _ _ hsp hP hD hS _ hl
  · intro n1 ih1 tv H locs hsp hP hD hS ls hl
    obtain ⟨x2, y3, y4, y5⟩ := tv
    have hsp : s_X0_mixture_B1  f3 f5 u1 (s_X0_mixture_X1 u2) (s_X0_mixture_L1 f3 f5 u1 (s_X0_mixture_X1 u2) n1) x2 y3 y4 y5 = some res := hsp
    unfold s_X0_mixture_B1 at hsp
    have hP : va_P D vwCl [(a0, .inr (0, [.ref a1, .ref a10, .ref a11, .ref a12, w0_4, w0_5])), (a1, .inr (2, [w1_0, .ref a3, w1_2, .ref a5, w1_4, w1_5, w1_6, w1_7, w1_8, w1_9, w1_10, w1_11])), (a3, .inl (cI, 36, .inl f3)), (a5, .inl (cI, 18, .inl f5)), (a10, .inl (cI, 5, .inl y3)), (a11, .inl (cI, 3, .inl y4)), (a12, .inl (cI, 3, .inl y5))] H := hP
    have hD : va_D A [(a0, .inr (0, [.ref a1, .ref a10, .ref a11, .ref a12, w0_4, w0_5])), (a1, .inr (2, [w1_0, .ref a3, w1_2, .ref a5, w1_4, w1_5, w1_6, w1_7, w1_8, w1_9, w1_10, w1_11])), (a3, .inl (cI, 36, .inl f3)), (a5, .inl (cI, 18, .inl f5)), (a10, .inl (cI, 5, .inl y3)), (a11, .inl (cI, 3, .inl y4)), (a12, .inl (cI, 3, .inl y5))] := hD
    have hl : lv_has ls 5 [(0, .ref a0), (1, .int u1), (2, .int u2), (3, .int x2)] := hl
    refine lv_iload_n hx hb dX0_mixture_13 rfl (lv_at hl 3 rfl) ?_
    refine lv_bipush (v := 8) hx hb dX0_mixture_14 (by decide) ?_
    refine lv_icmp_ge (tgt := 74) hx hb dX0_mixture_16 (by decide) (fun c12 => ?_) (fun c12 => ?_)
    · have hsp := itT hsp c12
      exact hx1 (y3, y4, y5) _ _ hsp hP hD hS _ (lv_sub hl [0, 2] rfl)
    have hsp := itF hsp c12
    refine lv_iload_n hx hb dX0_mixture_19 rfl (lv_at hl 3 rfl) ?_
    refine lv_iconst (v := 1) hx hb dX0_mixture_20 (by decide) ?_
    refine lv_iadd hx hb dX0_mixture_21 ?_
    obtain ⟨x13, ex13, hsp⟩ := nmE hsp
    refine r_top ex13 ?_
    refine lv_istore (lv' := [(4, .int x13), (0, .ref a0), (1, .int u1), (2, .int u2), (3, .int x2)]) hx hb dX0_mixture_22 hl (by decide) rfl (fun ls hl => ?_)
    refine ex_rule (D := D) (K := s_X0_mixture_X2 (s_X0_mixture_L1 f3 f5 u1 (s_X0_mixture_X1 u2) n1) x2) (P := fun (t2 : (Nat → Int32) × (Nat → Int32) × (Nat → Int32)) => [(a0, .inr (0, [.ref a1, .ref a10, .ref a11, .ref a12, w0_4, w0_5])), (a1, .inr (2, [w1_0, .ref a3, w1_2, .ref a5, w1_4, w1_5, w1_6, w1_7, w1_8, w1_9, w1_10, w1_11])), (a3, .inl (cI, 36, .inl f3)), (a5, .inl (cI, 18, .inl f5)), (a10, .inl (cI, 5, .inl t2.1)), (a11, .inl (cI, 3, .inl t2.2.1)), (a12, .inl (cI, 3, .inl t2.2.2))]) (L := fun (t2 : (Nat → Int32) × (Nat → Int32) × (Nat → Int32)) => [(0, .ref a0), (1, .int u1), (2, .int u2), (3, .int x2)]) (nL := 5) (pcx := 68) (res := res) (A := A) (H0 := s.heap) ?_ (fun hx2 => ?_)
    · intro t2 H locs hsp hP hD hS ls hl
      obtain ⟨y18, y19, y20⟩ := t2
      unfold s_X0_mixture_X2 at hsp; try dsimp only at hsp
      have hP : va_P D vwCl [(a0, .inr (0, [.ref a1, .ref a10, .ref a11, .ref a12, w0_4, w0_5])), (a1, .inr (2, [w1_0, .ref a3, w1_2, .ref a5, w1_4, w1_5, w1_6, w1_7, w1_8, w1_9, w1_10, w1_11])), (a3, .inl (cI, 36, .inl f3)), (a5, .inl (cI, 18, .inl f5)), (a10, .inl (cI, 5, .inl y18)), (a11, .inl (cI, 3, .inl y19)), (a12, .inl (cI, 3, .inl y20))] H := hP
      have hD : va_D A [(a0, .inr (0, [.ref a1, .ref a10, .ref a11, .ref a12, w0_4, w0_5])), (a1, .inr (2, [w1_0, .ref a3, w1_2, .ref a5, w1_4, w1_5, w1_6, w1_7, w1_8, w1_9, w1_10, w1_11])), (a3, .inl (cI, 36, .inl f3)), (a5, .inl (cI, 18, .inl f5)), (a10, .inl (cI, 5, .inl y18)), (a11, .inl (cI, 3, .inl y19)), (a12, .inl (cI, 3, .inl y20))] := hD
      have hl : lv_has ls 5 [(0, .ref a0), (1, .int u1), (2, .int u2), (3, .int x2)] := hl
      obtain ⟨x21, ex21, hsp⟩ := nmE hsp
      refine lv_iinc (k := 3) (v := x21) (lv' := [(3, .int x21), (0, .ref a0), (1, .int u1), (2, .int u2)]) hx hb dX0_mixture_68 hl rfl (by rw [ex21]; rfl) (by decide) rfl (fun ls hl => ?_)
      refine lv_goto (tgt := 13) hx hb dX0_mixture_71 (by decide) ?_
      exact ih1 (x21, y18, y19, y20) _ _ hsp hP hD hS _ (lv_sub hl [1, 2, 3, 0] rfl)
    have hl := lv_sub hl (l' := [(0, .ref a0), (1, .int u1), (2, .int u2), (3, .int x2), (4, .int x13)]) [1, 2, 3, 4, 0] rfl
    refine lp_rule (D := D) (F := s_X0_mixture_L2 f3 x2 f5 u1 (s_X0_mixture_X2 (s_X0_mixture_L1 f3 f5 u1 (s_X0_mixture_X1 u2) n1) x2)) (P := fun (tv : Int32 × (Nat → Int32) × (Nat → Int32) × (Nat → Int32)) => [(a0, .inr (0, [.ref a1, .ref a10, .ref a11, .ref a12, w0_4, w0_5])), (a1, .inr (2, [w1_0, .ref a3, w1_2, .ref a5, w1_4, w1_5, w1_6, w1_7, w1_8, w1_9, w1_10, w1_11])), (a3, .inl (cI, 36, .inl f3)), (a5, .inl (cI, 18, .inl f5)), (a10, .inl (cI, 5, .inl tv.2.1)), (a11, .inl (cI, 3, .inl tv.2.2.1)), (a12, .inl (cI, 3, .inl tv.2.2.2))]) (L := fun (tv : Int32 × (Nat → Int32) × (Nat → Int32) × (Nat → Int32)) => [(0, .ref a0), (1, .int u1), (2, .int u2), (3, .int x2), (4, .int tv.1)]) (nL := 5) (res := res) (A := A) (H0 := s.heap) (fun _ => rfl) ?_ 1000 (x13, y3, y4, y5) _ _ hsp hP hD hS _ hl
    · intro n2 ih2 tv H locs hsp hP hD hS ls hl
      obtain ⟨x14, y15, y16, y17⟩ := tv
      have hsp : s_X0_mixture_B2  f3 x2 f5 u1 (s_X0_mixture_X2 (s_X0_mixture_L1 f3 f5 u1 (s_X0_mixture_X1 u2) n1) x2) (s_X0_mixture_L2 f3 x2 f5 u1 (s_X0_mixture_X2 (s_X0_mixture_L1 f3 f5 u1 (s_X0_mixture_X1 u2) n1) x2) n2) x14 y15 y16 y17 = some res := hsp
      unfold s_X0_mixture_B2 at hsp
      have hP : va_P D vwCl [(a0, .inr (0, [.ref a1, .ref a10, .ref a11, .ref a12, w0_4, w0_5])), (a1, .inr (2, [w1_0, .ref a3, w1_2, .ref a5, w1_4, w1_5, w1_6, w1_7, w1_8, w1_9, w1_10, w1_11])), (a3, .inl (cI, 36, .inl f3)), (a5, .inl (cI, 18, .inl f5)), (a10, .inl (cI, 5, .inl y15)), (a11, .inl (cI, 3, .inl y16)), (a12, .inl (cI, 3, .inl y17))] H := hP
      have hD : va_D A [(a0, .inr (0, [.ref a1, .ref a10, .ref a11, .ref a12, w0_4, w0_5])), (a1, .inr (2, [w1_0, .ref a3, w1_2, .ref a5, w1_4, w1_5, w1_6, w1_7, w1_8, w1_9, w1_10, w1_11])), (a3, .inl (cI, 36, .inl f3)), (a5, .inl (cI, 18, .inl f5)), (a10, .inl (cI, 5, .inl y15)), (a11, .inl (cI, 3, .inl y16)), (a12, .inl (cI, 3, .inl y17))] := hD
      have hl : lv_has ls 5 [(0, .ref a0), (1, .int u1), (2, .int u2), (3, .int x2), (4, .int x14)] := hl
      refine lv_iload hx hb dX0_mixture_24 (lv_at hl 4 rfl) ?_
      refine lv_bipush (v := 8) hx hb dX0_mixture_26 (by decide) ?_
      refine lv_icmp_ge (tgt := 68) hx hb dX0_mixture_28 (by decide) (fun c22 => ?_) (fun c22 => ?_)
      · have hsp := itT hsp c22
        exact hx2 (y15, y16, y17) _ _ hsp hP hD hS _ (lv_sub hl [0, 1, 2, 3] rfl)
      have hsp := itF hsp c22
      refine lv_aload_n hx hb dX0_mixture_31 rfl (lv_at hl 0 rfl) ?_
      refine va_get (D := D) (ci := 0) (v := .ref a1) (C := RX0) (T := TX0) (N := 6) hx hb hts hi_X0 hown hK hP 0 rfl rfl 0 (by decide) hf_9 (fun _ h9 => h9) rfl dX0_mixture_32 ?_
      refine lv_iload_n hx hb dX0_mixture_35 rfl (lv_at hl 3 rfl) ?_
      obtain ⟨r23, hcr23, hsp⟩ := clE hsp
      refine call_z (w1 := [(a1, .inr (2, [w1_0, .ref a3, w1_2, .ref a5, w1_4, w1_5, w1_6, w1_7, w1_8, w1_9, w1_10, w1_11])), (a3, .inl (cI, 36, .inl f3))]) (ws' := [(a0, .inr (0, [.ref a1, .ref a10, .ref a11, .ref a12, w0_4, w0_5])), (a1, .inr (2, [w1_0, .ref a3, w1_2, .ref a5, w1_4, w1_5, w1_6, w1_7, w1_8, w1_9, w1_10, w1_11])), (a3, .inl (cI, 36, .inl f3)), (a5, .inl (cI, 18, .inl f5)), (a10, .inl (cI, 5, .inl y15)), (a11, .inl (cI, 3, .inl y16)), (a12, .inl (cI, 3, .inl y17))]) (va_runV (As := [.int x2]) (rest := []) ⟨hx, hb, hml, hown, hts⟩ (k_X2_hasPaint l D cI cZ cC cS H.size a1 a3 (w1_0) (w1_2) (.ref a5) (w1_4) (w1_5) (w1_6) (w1_7) (w1_8) (w1_9) (w1_10) (w1_11) f3 x2 r23 hcr23) (cwV 1 hts gX0_mixture_X2_hasPaint rfl rfl rfl nd_X2_hasPaint ⟨Nat.le_of_ble_eq_true rfl, Nat.le_of_ble_eq_true rfl⟩) (PB.preV (ci := 2) (q0 := 1) hKU hP hD [1, 2] rfl rfl rfl rfl) rfl rfl hl.1 rfl (lv_room (Nat.le_of_ble_eq_true rfl)) dX0_mixture_36 ⟨Nat.zero_le _, Nat.zero_le _⟩) hS hP hD hA [1, 2] rfl rfl (by first | (simp only [wset, List.set_cons_zero, List.set_cons_succ]; done) | rfl) rfl (fun H locs hP hD hS hzr23 => ?_)
      refine lv_if_eq (tgt := 62) hx hb dX0_mixture_39 (by decide) (fun c24 => ?_) (fun c24 => ?_)
      · have hsp := itT hsp c24
        obtain ⟨x25, ex25, hsp⟩ := nmE hsp
        refine lv_iinc (k := 4) (v := x25) (lv' := [(4, .int x25), (0, .ref a0), (1, .int u1), (2, .int u2), (3, .int x2)]) hx hb dX0_mixture_62 hl rfl (by rw [ex25]; rfl) (by decide) rfl (fun ls hl => ?_)
        refine lv_goto (tgt := 24) hx hb dX0_mixture_65 (by decide) ?_
        exact ih2 (x25, y15, y16, y17) _ _ hsp hP hD hS _ (lv_sub hl [1, 2, 3, 4, 0] rfl)
      have hsp := itF hsp c24
      refine lv_aload_n hx hb dX0_mixture_42 rfl (lv_at hl 0 rfl) ?_
      refine va_get (D := D) (ci := 0) (v := .ref a1) (C := RX0) (T := TX0) (N := 6) hx hb hts hi_X0 hown hK hP 0 rfl rfl 0 (by decide) hf_9 (fun _ h9 => h9) rfl dX0_mixture_43 ?_
      refine lv_iload hx hb dX0_mixture_46 (lv_at hl 4 rfl) ?_
      obtain ⟨r26, hcr26, hsp⟩ := clE hsp
      refine call_z (w1 := [(a1, .inr (2, [w1_0, .ref a3, w1_2, .ref a5, w1_4, w1_5, w1_6, w1_7, w1_8, w1_9, w1_10, w1_11])), (a3, .inl (cI, 36, .inl f3))]) (ws' := [(a0, .inr (0, [.ref a1, .ref a10, .ref a11, .ref a12, w0_4, w0_5])), (a1, .inr (2, [w1_0, .ref a3, w1_2, .ref a5, w1_4, w1_5, w1_6, w1_7, w1_8, w1_9, w1_10, w1_11])), (a3, .inl (cI, 36, .inl f3)), (a5, .inl (cI, 18, .inl f5)), (a10, .inl (cI, 5, .inl y15)), (a11, .inl (cI, 3, .inl y16)), (a12, .inl (cI, 3, .inl y17))]) (va_runV (As := [.int x14]) (rest := []) ⟨hx, hb, hml, hown, hts⟩ (k_X2_hasPaint l D cI cZ cC cS H.size a1 a3 (w1_0) (w1_2) (.ref a5) (w1_4) (w1_5) (w1_6) (w1_7) (w1_8) (w1_9) (w1_10) (w1_11) f3 x14 r26 hcr26) (cwV 1 hts gX0_mixture_X2_hasPaint rfl rfl rfl nd_X2_hasPaint ⟨Nat.le_of_ble_eq_true rfl, Nat.le_of_ble_eq_true rfl⟩) (PB.preV (ci := 2) (q0 := 1) hKU hP hD [1, 2] rfl rfl rfl rfl) rfl rfl hl.1 rfl (lv_room (Nat.le_of_ble_eq_true rfl)) dX0_mixture_48 ⟨Nat.zero_le _, Nat.zero_le _⟩) hS hP hD hA [1, 2] rfl rfl (by first | (simp only [wset, List.set_cons_zero, List.set_cons_succ]; done) | rfl) rfl (fun H locs hP hD hS hzr26 => ?_)
      refine lv_if_eq (tgt := 62) hx hb dX0_mixture_51 (by decide) (fun c27 => ?_) (fun c27 => ?_)
      · have hsp := itT hsp c27
        obtain ⟨x28, ex28, hsp⟩ := nmE hsp
        refine lv_iinc (k := 4) (v := x28) (lv' := [(4, .int x28), (0, .ref a0), (1, .int u1), (2, .int u2), (3, .int x2)]) hx hb dX0_mixture_62 hl rfl (by rw [ex28]; rfl) (by decide) rfl (fun ls hl => ?_)
        refine lv_goto (tgt := 24) hx hb dX0_mixture_65 (by decide) ?_
        exact ih2 (x28, y15, y16, y17) _ _ hsp hP hD hS _ (lv_sub hl [1, 2, 3, 4, 0] rfl)
      have hsp := itF hsp c27
      refine lv_aload_n hx hb dX0_mixture_54 rfl (lv_at hl 0 rfl) ?_
      refine lv_iload_n hx hb dX0_mixture_55 rfl (lv_at hl 1 rfl) ?_
      refine lv_iload_n hx hb dX0_mixture_56 rfl (lv_at hl 3 rfl) ?_
      refine lv_iload hx hb dX0_mixture_57 (lv_at hl 4 rfl) ?_
      obtain ⟨r29, hcr29, hsp⟩ := clE hsp
      refine call_v (w1 := [(a0, .inr (0, [.ref a1, .ref a10, .ref a11, .ref a12, w0_4, w0_5])), (a1, .inr (2, [w1_0, .ref a3, w1_2, .ref a5, w1_4, w1_5, w1_6, w1_7, w1_8, w1_9, w1_10, w1_11])), (a3, .inl (cI, 36, .inl f3)), (a5, .inl (cI, 18, .inl f5)), (a10, .inl (cI, 5, .inl r29.1)), (a11, .inl (cI, 3, .inl r29.2.1)), (a12, .inl (cI, 3, .inl r29.2.2))]) (ws' := [(a0, .inr (0, [.ref a1, .ref a10, .ref a11, .ref a12, w0_4, w0_5])), (a1, .inr (2, [w1_0, .ref a3, w1_2, .ref a5, w1_4, w1_5, w1_6, w1_7, w1_8, w1_9, w1_10, w1_11])), (a3, .inl (cI, 36, .inl f3)), (a5, .inl (cI, 18, .inl f5)), (a10, .inl (cI, 5, .inl r29.1)), (a11, .inl (cI, 3, .inl r29.2.1)), (a12, .inl (cI, 3, .inl r29.2.2))]) (va_runV (As := [.int u1, .int x2, .int x14]) (rest := []) ⟨hx, hb, hml, hown, hts⟩ (k_X0_tryParts l D cI cZ cC cS H.size a0 a1 a3 a5 a10 a11 a12 (w0_4) (w0_5) (w1_0) (w1_2) (w1_4) (w1_5) (w1_6) (w1_7) (w1_8) (w1_9) (w1_10) (w1_11) f3 f5 y15 y16 y17 u1 x2 x14 r29 hcr29) (cwV 3 hts gX0_mixture_X0_tryParts rfl rfl rfl nd_X0_tryParts ⟨Nat.le_of_ble_eq_true rfl, Nat.le_of_ble_eq_true rfl⟩) (PB.preV (ci := 0) (q0 := 0) hKU hP hD [0, 1, 2, 3, 4, 5, 6] rfl rfl rfl rfl) rfl rfl hl.1 rfl (lv_room (Nat.le_of_ble_eq_true rfl)) dX0_mixture_59 ⟨Nat.zero_le _, Nat.zero_le _⟩) hS hP hD hA [0, 1, 2, 3, 4, 5, 6] rfl rfl (by first | (simp only [wset, List.set_cons_zero, List.set_cons_succ]; done) | rfl) rfl (fun H locs hP hD hS => ?_)
      obtain ⟨x30, ex30, hsp⟩ := nmE hsp
      refine lv_iinc (k := 4) (v := x30) (lv' := [(4, .int x30), (0, .ref a0), (1, .int u1), (2, .int u2), (3, .int x2)]) hx hb dX0_mixture_62 hl rfl (by rw [ex30]; rfl) (by decide) rfl (fun ls hl => ?_)
      refine lv_goto (tgt := 24) hx hb dX0_mixture_65 (by decide) ?_
      exact ih2 (x30, r29.1, r29.2.1, r29.2.2) _ _ hsp hP hD hS _ (lv_sub hl [1, 2, 3, 4, 0] rfl)

theorem nd_X0_panelInOrder : yX0_panelInOrder.cls = RX0 ∧ yX0_panelInOrder.cls ≠ "java/lang/invoke/MethodHandle" ∧ yX0_panelInOrder.cls ≠ "java/lang/invoke/VarHandle" ∧ (parseMethodDescriptor yX0_panelInOrder.desc).map (fun d => d.parameters.length) = some 1 := by decide +kernel
set_option maxHeartbeats 8000000 in
set_option maxRecDepth 100000 in
theorem k_X0_panelInOrder (l : Launch) (D : va_G) (cI cZ cC cS : ClassId) (sz : Nat) (a0 a1 a3 a5 a13 a14 : Nat) (w0_1 : Value) (w0_2 : Value) (w0_3 : Value) (w1_0 : Value) (w1_2 : Value) (w1_4 : Value) (w1_5 : Value) (w1_6 : Value) (w1_7 : Value) (w1_8 : Value) (w1_9 : Value) (w1_10 : Value) (w1_11 : Value) (f3 : Nat → Int32) (f5 : Nat → Int32) (f13 : Nat → Int32) (f14 : Nat → Int32) (u1 : Int32) (res : Int32 × (Nat → Int32) × (Nat → Int32)) (hsp : s_X0_panelInOrder f3 f5 f13 f14 u1 = some res) : Met l yX0_panelInOrder wsX0_panelInOrder ({ frames := 5, cells := 0, slots := 0, locals := 117 }) (va_Pc [.ref a0, .int u1] (PB D cI cZ cC cS [(a0, .inr (0, [.ref a1, w0_1, w0_2, w0_3, .ref a13, .ref a14])), (a1, .inr (2, [w1_0, .ref a3, w1_2, .ref a5, w1_4, w1_5, w1_6, w1_7, w1_8, w1_9, w1_10, w1_11])), (a3, .inl (cI, 36, .inl f3)), (a5, .inl (cI, 18, .inl f5)), (a13, .inl (cI, 6, .inl f13)), (a14, .inl (cI, 6, .inl f14))] sz)) (va_Qi (fun r (_ : Unit) => r = res.1) (fun _ t => va_P D vwCl [(a0, .inr (0, [.ref a1, w0_1, w0_2, w0_3, .ref a13, .ref a14])), (a1, .inr (2, [w1_0, .ref a3, w1_2, .ref a5, w1_4, w1_5, w1_6, w1_7, w1_8, w1_9, w1_10, w1_11])), (a3, .inl (cI, 36, .inl f3)), (a5, .inl (cI, 18, .inl f5)), (a13, .inl (cI, 6, .inl res.2.1)), (a14, .inl (cI, 6, .inl res.2.2))] t.heap) (va_A [(a0, .inr (0, [.ref a1, w0_1, w0_2, w0_3, .ref a13, .ref a14])), (a1, .inr (2, [w1_0, .ref a3, w1_2, .ref a5, w1_4, w1_5, w1_6, w1_7, w1_8, w1_9, w1_10, w1_11])), (a3, .inl (cI, 36, .inl f3)), (a5, .inl (cI, 18, .inl f5)), (a13, .inl (cI, 6, .inl f13)), (a14, .inl (cI, 6, .inl f14))] sz)) 0 0 (va_A [(a0, .inr (0, [.ref a1, w0_1, w0_2, w0_3, .ref a13, .ref a14])), (a1, .inr (2, [w1_0, .ref a3, w1_2, .ref a5, w1_4, w1_5, w1_6, w1_7, w1_8, w1_9, w1_10, w1_11])), (a3, .inl (cI, 36, .inl f3)), (a5, .inl (cI, 18, .inl f5)), (a13, .inl (cI, 6, .inl f13)), (a14, .inl (cI, 6, .inl f14))] sz) := by
  refine Met.ofW (cc := cX0_panelInOrder) (maxL := 5) (ret := (some .int)) (by decide) rfl ?_
  intro p e s m args below meth c s₁ B hml hv
  obtain ⟨rfl, hsz, hP, hD0, hKU⟩ := hv
  have hx := B.exec
  have hb := B.bytes
  have hr := B.returns
  have hts := atoms_spec (ws := wsX0_panelInOrder) B.pre
  have hown : s.vm.findClass RX0 = some m.cls := findClass_of_methodNamed B.named
  have hlocks := B.notSynchronized
  have hK := hKU.1
  have hf_28 := hts (.fieldLink RX0 28 "ThinnedPots$Advice" "order" "[I") (by decide +kernel)
  have hi_X0 : ∀ w ∈ u_ws RX0 TX0 6, w ∈ wsX0_panelInOrder := by decide +kernel
  have hst_X4_at := hts (.static yX4_at) (by decide +kernel)
  have hin_X4 := hts (.initialized RX4) (by decide +kernel)
  have hf_25 := hts (.fieldLink RX0 25 "ThinnedPots$Advice" "potFor" "[I") (by decide +kernel)
  have hst_X4_write := hts (.static yX4_write) (by decide +kernel)
  subst hsz
  have hD := hD0.self (sz := s.heap.size)
  generalize hAe : va_A [(a0, .inr (0, [.ref a1, w0_1, w0_2, w0_3, .ref a13, .ref a14])), (a1, .inr (2, [w1_0, .ref a3, w1_2, .ref a5, w1_4, w1_5, w1_6, w1_7, w1_8, w1_9, w1_10, w1_11])), (a3, .inl (cI, 36, .inl f3)), (a5, .inl (cI, 18, .inl f5)), (a13, .inl (cI, 6, .inl f13)), (a14, .inl (cI, 6, .inl f14))] s.heap.size = A at hD ⊢
  have hA : ∀ q : Nat, s.heap.size ≤ q → A q := fun q h => by rw [← hAe]; exact Or.inr h
  have hP : va_P D vwCl [(a0, .inr (0, [.ref a1, w0_1, w0_2, w0_3, .ref a13, .ref a14])), (a1, .inr (2, [w1_0, .ref a3, w1_2, .ref a5, w1_4, w1_5, w1_6, w1_7, w1_8, w1_9, w1_10, w1_11])), (a3, .inl (cI, 36, .inl f3)), (a5, .inl (cI, 18, .inl f5)), (a13, .inl (cI, 6, .inl f13)), (a14, .inl (cI, 6, .inl f14))] s.heap := hP
  generalize hHe : s.heap = H at hP ⊢
  have hS : va_S A s.heap H [] := by rw [hHe]; exact va_S.rf
  have hl := lv_entry ([.ref a0, .int u1]) (n := 5) (Nat.le_of_ble_eq_true rfl)
  rw [lg_entry_eq]
  generalize (lg_sl ([.ref a0, .int u1]) ++ List.replicate (5 - (lg_sl ([.ref a0, .int u1])).length) Slot.unset).toArray = ls at hl ⊢
  have hl : lv_has ls 5 [(0, .ref a0), (1, .int u1)] := hl
  unfold s_X0_panelInOrder at hsp
  refine lv_aload_n hx hb dX0_panelInOrder_0 rfl (lv_at hl 0 rfl) ?_
  obtain ⟨r1, hcr1, hsp⟩ := clE hsp
  refine call_z (w1 := [(a0, .inr (0, [.ref a1, w0_1, w0_2, w0_3, .ref a13, .ref a14])), (a1, .inr (2, [w1_0, .ref a3, w1_2, .ref a5, w1_4, w1_5, w1_6, w1_7, w1_8, w1_9, w1_10, w1_11])), (a3, .inl (cI, 36, .inl f3)), (a5, .inl (cI, 18, .inl f5)), (a13, .inl (cI, 6, .inl r1.2))]) (ws' := [(a0, .inr (0, [.ref a1, w0_1, w0_2, w0_3, .ref a13, .ref a14])), (a1, .inr (2, [w1_0, .ref a3, w1_2, .ref a5, w1_4, w1_5, w1_6, w1_7, w1_8, w1_9, w1_10, w1_11])), (a3, .inl (cI, 36, .inl f3)), (a5, .inl (cI, 18, .inl f5)), (a13, .inl (cI, 6, .inl r1.2)), (a14, .inl (cI, 6, .inl f14))]) (va_runV (As := []) (rest := []) ⟨hx, hb, hml, hown, hts⟩ (k_X0_choosePots l D cI cZ cC cS H.size a0 a1 a3 a5 a13 (w0_1) (w0_2) (w0_3) (.ref a14) (w1_0) (w1_2) (w1_4) (w1_5) (w1_6) (w1_7) (w1_8) (w1_9) (w1_10) (w1_11) f3 f5 f13 r1 hcr1) (cwV 0 hts gX0_panelInOrder_X0_choosePots rfl rfl rfl nd_X0_choosePots ⟨Nat.le_of_ble_eq_true rfl, Nat.le_of_ble_eq_true rfl⟩) (PB.preV (ci := 0) (q0 := 0) hKU hP hD [0, 1, 2, 3, 4] rfl rfl rfl rfl) rfl rfl hl.1 rfl (lv_room (Nat.le_of_ble_eq_true rfl)) dX0_panelInOrder_1 ⟨Nat.zero_le _, Nat.zero_le _⟩) hS hP hD hA [0, 1, 2, 3, 4] rfl rfl (by first | (simp only [wset, List.set_cons_zero, List.set_cons_succ]; done) | rfl) rfl (fun H locs hP hD hS hzr1 => ?_)
  refine lv_if_ne (tgt := 10) hx hb dX0_panelInOrder_4 (by decide) (fun c2 => ?_) (fun c2 => ?_)
  · have hsp := itF hsp c2
    refine lv_iconst (v := 0) hx hb dX0_panelInOrder_10 (by decide) ?_
    refine lv_istore_n (lv' := [(2, .int 0), (0, .ref a0), (1, .int u1)]) hx hb dX0_panelInOrder_11 rfl hl (by decide) rfl (fun ls hl => ?_)
    refine lv_iconst (v := 0) hx hb dX0_panelInOrder_12 (by decide) ?_
    refine lv_istore_n (lv' := [(3, .int 0), (2, .int 0), (0, .ref a0), (1, .int u1)]) hx hb dX0_panelInOrder_13 rfl hl (by decide) rfl (fun ls hl => ?_)
    refine ex_rule (D := D) (K := s_X0_panelInOrder_X1 u1 r1) (P := fun (t1 : (Nat → Int32)) => [(a0, .inr (0, [.ref a1, w0_1, w0_2, w0_3, .ref a13, .ref a14])), (a1, .inr (2, [w1_0, .ref a3, w1_2, .ref a5, w1_4, w1_5, w1_6, w1_7, w1_8, w1_9, w1_10, w1_11])), (a3, .inl (cI, 36, .inl f3)), (a5, .inl (cI, 18, .inl f5)), (a13, .inl (cI, 6, .inl r1.2)), (a14, .inl (cI, 6, .inl t1))]) (L := fun (t1 : (Nat → Int32)) => [(0, .ref a0), (1, .int u1)]) (nL := 5) (pcx := 83) (res := res) (A := A) (H0 := s.heap) ?_ (fun hx1 => ?_)
    · intro t1 H locs hsp hP hD hS ls hl
      obtain ⟨y6, rfl⟩ : ∃ z, z = t1 := ⟨_, rfl⟩
      unfold s_X0_panelInOrder_X1 at hsp; try dsimp only at hsp
      have hP : va_P D vwCl [(a0, .inr (0, [.ref a1, w0_1, w0_2, w0_3, .ref a13, .ref a14])), (a1, .inr (2, [w1_0, .ref a3, w1_2, .ref a5, w1_4, w1_5, w1_6, w1_7, w1_8, w1_9, w1_10, w1_11])), (a3, .inl (cI, 36, .inl f3)), (a5, .inl (cI, 18, .inl f5)), (a13, .inl (cI, 6, .inl r1.2)), (a14, .inl (cI, 6, .inl y6))] H := hP
      have hD : va_D A [(a0, .inr (0, [.ref a1, w0_1, w0_2, w0_3, .ref a13, .ref a14])), (a1, .inr (2, [w1_0, .ref a3, w1_2, .ref a5, w1_4, w1_5, w1_6, w1_7, w1_8, w1_9, w1_10, w1_11])), (a3, .inl (cI, 36, .inl f3)), (a5, .inl (cI, 18, .inl f5)), (a13, .inl (cI, 6, .inl r1.2)), (a14, .inl (cI, 6, .inl y6))] := hD
      have hl : lv_has ls 5 [(0, .ref a0), (1, .int u1)] := hl
      refine lv_aload_n hx hb dX0_panelInOrder_83 rfl (lv_at hl 0 rfl) ?_
      refine va_get (D := D) (ci := 0) (v := .ref a14) (C := RX0) (T := TX0) (N := 6) hx hb hts hi_X0 hown hK hP 0 rfl rfl 5 (by decide) hf_28 (fun _ h9 => h9) rfl dX0_panelInOrder_84 ?_
      refine lv_iload_n hx hb dX0_panelInOrder_87 rfl (lv_at hl 1 rfl) ?_
      obtain ⟨r7, hcr7, hsp⟩ := clE hsp
      refine call_i (w1 := [(a14, .inl (cI, 6, .inl y6))]) (ws' := [(a0, .inr (0, [.ref a1, w0_1, w0_2, w0_3, .ref a13, .ref a14])), (a1, .inr (2, [w1_0, .ref a3, w1_2, .ref a5, w1_4, w1_5, w1_6, w1_7, w1_8, w1_9, w1_10, w1_11])), (a3, .inl (cI, 36, .inl f3)), (a5, .inl (cI, 18, .inl f5)), (a13, .inl (cI, 6, .inl r1.2)), (a14, .inl (cI, 6, .inl y6))]) (va_runSN (As := [.ref a14, .int u1]) (rest := []) ⟨hx, hb, hml, hown, hts⟩ (k_X4_at l D cI cZ cC cS H.size a14 6 y6 u1 r7 hcr7) ⟨va_cnB 2 hts gX0_panelInOrder_X4_at_n70 rfl rfl rfl (mn_Advice_70 hKU.2.2) hin_X4 nd_X4_at.2 ⟨Nat.le_of_ble_eq_true rfl, Nat.le_of_ble_eq_true rfl⟩, hst_X4_at, trivial⟩ (PB.preS hKU hP hD [5] rfl rfl) rfl rfl hl.1 rfl (lv_room (Nat.le_of_ble_eq_true rfl)) dX0_panelInOrder_88 ⟨Nat.zero_le _, Nat.zero_le _⟩) hS hP hD hA [5] rfl rfl (by first | (simp only [wset, List.set_cons_zero, List.set_cons_succ]; done) | rfl) rfl (fun H locs hP hD hS => ?_)
      have hres := Option.some.inj hsp
      subst hres
      exact W.iret (v := r7) hx hb hr (fun t ht hW => ⟨⟨r7, (), rfl, rfl, P_at ht hP⟩, hS.F ht⟩) hS.2.2 dX0_panelInOrder_91
    have hl := lv_sub hl (l' := [(0, .ref a0), (1, .int u1), (2, .int 0), (3, .int 0)]) [2, 3, 1, 0] rfl
    refine lp_rule (D := D) (F := s_X0_panelInOrder_L1 r1 (s_X0_panelInOrder_X1 u1 r1)) (P := fun (tv : Int32 × Int32 × (Nat → Int32)) => [(a0, .inr (0, [.ref a1, w0_1, w0_2, w0_3, .ref a13, .ref a14])), (a1, .inr (2, [w1_0, .ref a3, w1_2, .ref a5, w1_4, w1_5, w1_6, w1_7, w1_8, w1_9, w1_10, w1_11])), (a3, .inl (cI, 36, .inl f3)), (a5, .inl (cI, 18, .inl f5)), (a13, .inl (cI, 6, .inl r1.2)), (a14, .inl (cI, 6, .inl tv.2.2))]) (L := fun (tv : Int32 × Int32 × (Nat → Int32)) => [(0, .ref a0), (1, .int u1), (2, .int tv.1), (3, .int tv.2.1)]) (nL := 5) (res := res) (A := A) (H0 := s.heap) (fun _ => rfl) ?_ 1000 (0, 0, f14) _ _ hsp hP hD hS _ hl
    · intro n1 ih1 tv H locs hsp hP hD hS ls hl
      obtain ⟨x3, x4, y5⟩ := tv
      have hsp : s_X0_panelInOrder_B1  r1 (s_X0_panelInOrder_X1 u1 r1) (s_X0_panelInOrder_L1 r1 (s_X0_panelInOrder_X1 u1 r1) n1) x3 x4 y5 = some res := hsp
      unfold s_X0_panelInOrder_B1 at hsp
      have hP : va_P D vwCl [(a0, .inr (0, [.ref a1, w0_1, w0_2, w0_3, .ref a13, .ref a14])), (a1, .inr (2, [w1_0, .ref a3, w1_2, .ref a5, w1_4, w1_5, w1_6, w1_7, w1_8, w1_9, w1_10, w1_11])), (a3, .inl (cI, 36, .inl f3)), (a5, .inl (cI, 18, .inl f5)), (a13, .inl (cI, 6, .inl r1.2)), (a14, .inl (cI, 6, .inl y5))] H := hP
      have hD : va_D A [(a0, .inr (0, [.ref a1, w0_1, w0_2, w0_3, .ref a13, .ref a14])), (a1, .inr (2, [w1_0, .ref a3, w1_2, .ref a5, w1_4, w1_5, w1_6, w1_7, w1_8, w1_9, w1_10, w1_11])), (a3, .inl (cI, 36, .inl f3)), (a5, .inl (cI, 18, .inl f5)), (a13, .inl (cI, 6, .inl r1.2)), (a14, .inl (cI, 6, .inl y5))] := hD
      have hl : lv_has ls 5 [(0, .ref a0), (1, .int u1), (2, .int x3), (3, .int x4)] := hl
      refine lv_iload_n hx hb dX0_panelInOrder_14 rfl (lv_at hl 3 rfl) ?_
      refine lv_bipush (v := 6) hx hb dX0_panelInOrder_15 (by decide) ?_
      refine lv_icmp_ge (tgt := 83) hx hb dX0_panelInOrder_17 (by decide) (fun c8 => ?_) (fun c8 => ?_)
      · have hsp := itT hsp c8
        exact hx1 y5 _ _ hsp hP hD hS _ (lv_sub hl [0, 1] rfl)
      have hsp := itF hsp c8
      refine lv_aload_n hx hb dX0_panelInOrder_20 rfl (lv_at hl 0 rfl) ?_
      refine lv_iload_n hx hb dX0_panelInOrder_21 rfl (lv_at hl 3 rfl) ?_
      obtain ⟨r9, hcr9, hsp⟩ := clE hsp
      refine call_z (w1 := [(a0, .inr (0, [.ref a1, w0_1, w0_2, w0_3, .ref a13, .ref a14])), (a13, .inl (cI, 6, .inl r1.2))]) (ws' := [(a0, .inr (0, [.ref a1, w0_1, w0_2, w0_3, .ref a13, .ref a14])), (a1, .inr (2, [w1_0, .ref a3, w1_2, .ref a5, w1_4, w1_5, w1_6, w1_7, w1_8, w1_9, w1_10, w1_11])), (a3, .inl (cI, 36, .inl f3)), (a5, .inl (cI, 18, .inl f5)), (a13, .inl (cI, 6, .inl r1.2)), (a14, .inl (cI, 6, .inl y5))]) (va_runV (As := [.int x4]) (rest := []) ⟨hx, hb, hml, hown, hts⟩ (k_X0_isFirstOfItsPot l D cI cZ cC cS H.size a0 a13 (.ref a1) (w0_1) (w0_2) (w0_3) (.ref a14) r1.2 x4 r9 hcr9) (cwV 1 hts gX0_panelInOrder_X0_isFirstOfItsPot rfl rfl rfl nd_X0_isFirstOfItsPot ⟨Nat.le_of_ble_eq_true rfl, Nat.le_of_ble_eq_true rfl⟩) (PB.preV (ci := 0) (q0 := 0) hKU hP hD [0, 4] rfl rfl rfl rfl) rfl rfl hl.1 rfl (lv_room (Nat.le_of_ble_eq_true rfl)) dX0_panelInOrder_22 ⟨Nat.zero_le _, Nat.zero_le _⟩) hS hP hD hA [0, 4] rfl rfl (by first | (simp only [wset, List.set_cons_zero, List.set_cons_succ]; done) | rfl) rfl (fun H locs hP hD hS hzr9 => ?_)
      refine lv_if_eq (tgt := 77) hx hb dX0_panelInOrder_25 (by decide) (fun c10 => ?_) (fun c10 => ?_)
      · have hsp := itT hsp c10
        obtain ⟨x11, ex11, hsp⟩ := nmE hsp
        refine lv_iinc (k := 3) (v := x11) (lv' := [(3, .int x11), (0, .ref a0), (1, .int u1), (2, .int x3)]) hx hb dX0_panelInOrder_77 hl rfl (by rw [ex11]; rfl) (by decide) rfl (fun ls hl => ?_)
        refine lv_goto (tgt := 14) hx hb dX0_panelInOrder_80 (by decide) ?_
        exact ih1 (x3, x11, y5) _ _ hsp hP hD hS _ (lv_sub hl [1, 2, 3, 0] rfl)
      have hsp := itF hsp c10
      refine lv_iload_n hx hb dX0_panelInOrder_28 rfl (lv_at hl 3 rfl) ?_
      refine lv_istore (lv' := [(4, .int x4), (0, .ref a0), (1, .int u1), (2, .int x3), (3, .int x4)]) hx hb dX0_panelInOrder_29 hl (by decide) rfl (fun ls hl => ?_)
      refine ex_rule (D := D) (K := s_X0_panelInOrder_X2 (s_X0_panelInOrder_L1 r1 (s_X0_panelInOrder_X1 u1 r1) n1) x4) (P := fun (t2 : Int32 × (Nat → Int32)) => [(a0, .inr (0, [.ref a1, w0_1, w0_2, w0_3, .ref a13, .ref a14])), (a1, .inr (2, [w1_0, .ref a3, w1_2, .ref a5, w1_4, w1_5, w1_6, w1_7, w1_8, w1_9, w1_10, w1_11])), (a3, .inl (cI, 36, .inl f3)), (a5, .inl (cI, 18, .inl f5)), (a13, .inl (cI, 6, .inl r1.2)), (a14, .inl (cI, 6, .inl t2.2))]) (L := fun (t2 : Int32 × (Nat → Int32)) => [(0, .ref a0), (1, .int u1), (2, .int t2.1), (3, .int x4)]) (nL := 5) (pcx := 77) (res := res) (A := A) (H0 := s.heap) ?_ (fun hx2 => ?_)
      · intro t2 H locs hsp hP hD hS ls hl
        obtain ⟨x15, y16⟩ := t2
        unfold s_X0_panelInOrder_X2 at hsp; try dsimp only at hsp
        have hP : va_P D vwCl [(a0, .inr (0, [.ref a1, w0_1, w0_2, w0_3, .ref a13, .ref a14])), (a1, .inr (2, [w1_0, .ref a3, w1_2, .ref a5, w1_4, w1_5, w1_6, w1_7, w1_8, w1_9, w1_10, w1_11])), (a3, .inl (cI, 36, .inl f3)), (a5, .inl (cI, 18, .inl f5)), (a13, .inl (cI, 6, .inl r1.2)), (a14, .inl (cI, 6, .inl y16))] H := hP
        have hD : va_D A [(a0, .inr (0, [.ref a1, w0_1, w0_2, w0_3, .ref a13, .ref a14])), (a1, .inr (2, [w1_0, .ref a3, w1_2, .ref a5, w1_4, w1_5, w1_6, w1_7, w1_8, w1_9, w1_10, w1_11])), (a3, .inl (cI, 36, .inl f3)), (a5, .inl (cI, 18, .inl f5)), (a13, .inl (cI, 6, .inl r1.2)), (a14, .inl (cI, 6, .inl y16))] := hD
        have hl : lv_has ls 5 [(0, .ref a0), (1, .int u1), (2, .int x15), (3, .int x4)] := hl
        obtain ⟨x17, ex17, hsp⟩ := nmE hsp
        refine lv_iinc (k := 3) (v := x17) (lv' := [(3, .int x17), (0, .ref a0), (1, .int u1), (2, .int x15)]) hx hb dX0_panelInOrder_77 hl rfl (by rw [ex17]; rfl) (by decide) rfl (fun ls hl => ?_)
        refine lv_goto (tgt := 14) hx hb dX0_panelInOrder_80 (by decide) ?_
        exact ih1 (x15, x17, y16) _ _ hsp hP hD hS _ (lv_sub hl [1, 2, 3, 0] rfl)
      have hl := lv_sub hl (l' := [(0, .ref a0), (1, .int u1), (2, .int x3), (3, .int x4), (4, .int x4)]) [1, 2, 3, 4, 0] rfl
      refine lp_rule (D := D) (F := s_X0_panelInOrder_L2 r1 x4 (s_X0_panelInOrder_X2 (s_X0_panelInOrder_L1 r1 (s_X0_panelInOrder_X1 u1 r1) n1) x4)) (P := fun (tv : Int32 × Int32 × (Nat → Int32)) => [(a0, .inr (0, [.ref a1, w0_1, w0_2, w0_3, .ref a13, .ref a14])), (a1, .inr (2, [w1_0, .ref a3, w1_2, .ref a5, w1_4, w1_5, w1_6, w1_7, w1_8, w1_9, w1_10, w1_11])), (a3, .inl (cI, 36, .inl f3)), (a5, .inl (cI, 18, .inl f5)), (a13, .inl (cI, 6, .inl r1.2)), (a14, .inl (cI, 6, .inl tv.2.2))]) (L := fun (tv : Int32 × Int32 × (Nat → Int32)) => [(0, .ref a0), (1, .int u1), (2, .int tv.1), (3, .int x4), (4, .int tv.2.1)]) (nL := 5) (res := res) (A := A) (H0 := s.heap) (fun _ => rfl) ?_ 1000 (x3, x4, y5) _ _ hsp hP hD hS _ hl
      · intro n2 ih2 tv H locs hsp hP hD hS ls hl
        obtain ⟨x12, x13, y14⟩ := tv
        have hsp : s_X0_panelInOrder_B2  r1 x4 (s_X0_panelInOrder_X2 (s_X0_panelInOrder_L1 r1 (s_X0_panelInOrder_X1 u1 r1) n1) x4) (s_X0_panelInOrder_L2 r1 x4 (s_X0_panelInOrder_X2 (s_X0_panelInOrder_L1 r1 (s_X0_panelInOrder_X1 u1 r1) n1) x4) n2) x12 x13 y14 = some res := hsp
        unfold s_X0_panelInOrder_B2 at hsp
        have hP : va_P D vwCl [(a0, .inr (0, [.ref a1, w0_1, w0_2, w0_3, .ref a13, .ref a14])), (a1, .inr (2, [w1_0, .ref a3, w1_2, .ref a5, w1_4, w1_5, w1_6, w1_7, w1_8, w1_9, w1_10, w1_11])), (a3, .inl (cI, 36, .inl f3)), (a5, .inl (cI, 18, .inl f5)), (a13, .inl (cI, 6, .inl r1.2)), (a14, .inl (cI, 6, .inl y14))] H := hP
        have hD : va_D A [(a0, .inr (0, [.ref a1, w0_1, w0_2, w0_3, .ref a13, .ref a14])), (a1, .inr (2, [w1_0, .ref a3, w1_2, .ref a5, w1_4, w1_5, w1_6, w1_7, w1_8, w1_9, w1_10, w1_11])), (a3, .inl (cI, 36, .inl f3)), (a5, .inl (cI, 18, .inl f5)), (a13, .inl (cI, 6, .inl r1.2)), (a14, .inl (cI, 6, .inl y14))] := hD
        have hl : lv_has ls 5 [(0, .ref a0), (1, .int u1), (2, .int x12), (3, .int x4), (4, .int x13)] := hl
        refine lv_iload hx hb dX0_panelInOrder_31 (lv_at hl 4 rfl) ?_
        refine lv_bipush (v := 6) hx hb dX0_panelInOrder_33 (by decide) ?_
        refine lv_icmp_ge (tgt := 77) hx hb dX0_panelInOrder_35 (by decide) (fun c18 => ?_) (fun c18 => ?_)
        · have hsp := itT hsp c18
          exact hx2 (x12, y14) _ _ hsp hP hD hS _ (lv_sub hl [0, 1, 2, 3] rfl)
        have hsp := itF hsp c18
        refine lv_aload_n hx hb dX0_panelInOrder_38 rfl (lv_at hl 0 rfl) ?_
        refine va_get (D := D) (ci := 0) (v := .ref a13) (C := RX0) (T := TX0) (N := 6) hx hb hts hi_X0 hown hK hP 0 rfl rfl 4 (by decide) hf_25 (fun _ h9 => h9) rfl dX0_panelInOrder_39 ?_
        refine lv_iload hx hb dX0_panelInOrder_42 (lv_at hl 4 rfl) ?_
        obtain ⟨r19, hcr19, hsp⟩ := clE hsp
        refine call_i (w1 := [(a13, .inl (cI, 6, .inl r1.2))]) (ws' := [(a0, .inr (0, [.ref a1, w0_1, w0_2, w0_3, .ref a13, .ref a14])), (a1, .inr (2, [w1_0, .ref a3, w1_2, .ref a5, w1_4, w1_5, w1_6, w1_7, w1_8, w1_9, w1_10, w1_11])), (a3, .inl (cI, 36, .inl f3)), (a5, .inl (cI, 18, .inl f5)), (a13, .inl (cI, 6, .inl r1.2)), (a14, .inl (cI, 6, .inl y14))]) (va_runSN (As := [.ref a13, .int x13]) (rest := []) ⟨hx, hb, hml, hown, hts⟩ (k_X4_at l D cI cZ cC cS H.size a13 6 r1.2 x13 r19 hcr19) ⟨va_cnB 2 hts gX0_panelInOrder_X4_at_n70 rfl rfl rfl (mn_Advice_70 hKU.2.2) hin_X4 nd_X4_at.2 ⟨Nat.le_of_ble_eq_true rfl, Nat.le_of_ble_eq_true rfl⟩, hst_X4_at, trivial⟩ (PB.preS hKU hP hD [4] rfl rfl) rfl rfl hl.1 rfl (lv_room (Nat.le_of_ble_eq_true rfl)) dX0_panelInOrder_44 ⟨Nat.zero_le _, Nat.zero_le _⟩) hS hP hD hA [4] rfl rfl (by first | (simp only [wset, List.set_cons_zero, List.set_cons_succ]; done) | rfl) rfl (fun H locs hP hD hS => ?_)
        refine lv_aload_n hx hb dX0_panelInOrder_47 rfl (lv_at hl 0 rfl) ?_
        refine va_get (D := D) (ci := 0) (v := .ref a13) (C := RX0) (T := TX0) (N := 6) hx hb hts hi_X0 hown hK hP 0 rfl rfl 4 (by decide) hf_25 (fun _ h9 => h9) rfl dX0_panelInOrder_48 ?_
        refine lv_iload_n hx hb dX0_panelInOrder_51 rfl (lv_at hl 3 rfl) ?_
        obtain ⟨r20, hcr20, hsp⟩ := clE hsp
        refine call_i (w1 := [(a13, .inl (cI, 6, .inl r1.2))]) (ws' := [(a0, .inr (0, [.ref a1, w0_1, w0_2, w0_3, .ref a13, .ref a14])), (a1, .inr (2, [w1_0, .ref a3, w1_2, .ref a5, w1_4, w1_5, w1_6, w1_7, w1_8, w1_9, w1_10, w1_11])), (a3, .inl (cI, 36, .inl f3)), (a5, .inl (cI, 18, .inl f5)), (a13, .inl (cI, 6, .inl r1.2)), (a14, .inl (cI, 6, .inl y14))]) (va_runSN (As := [.ref a13, .int x4]) (rest := [.int r19]) ⟨hx, hb, hml, hown, hts⟩ (k_X4_at l D cI cZ cC cS H.size a13 6 r1.2 x4 r20 hcr20) ⟨va_cnB 2 hts gX0_panelInOrder_X4_at_n70 rfl rfl rfl (mn_Advice_70 hKU.2.2) hin_X4 nd_X4_at.2 ⟨Nat.le_of_ble_eq_true rfl, Nat.le_of_ble_eq_true rfl⟩, hst_X4_at, trivial⟩ (PB.preS hKU hP hD [4] rfl rfl) rfl rfl hl.1 rfl (lv_room (Nat.le_of_ble_eq_true rfl)) dX0_panelInOrder_52 ⟨Nat.zero_le _, Nat.zero_le _⟩) hS hP hD hA [4] rfl rfl (by first | (simp only [wset, List.set_cons_zero, List.set_cons_succ]; done) | rfl) rfl (fun H locs hP hD hS => ?_)
        refine lv_icmp_ne (tgt := 71) hx hb dX0_panelInOrder_55 (by decide) (fun c21 => ?_) (fun c21 => ?_)
        · have hsp := itF hsp c21
          obtain ⟨x22, ex22, hsp⟩ := nmE hsp
          refine lv_iinc (k := 4) (v := x22) (lv' := [(4, .int x22), (0, .ref a0), (1, .int u1), (2, .int x12), (3, .int x4)]) hx hb dX0_panelInOrder_71 hl rfl (by rw [ex22]; rfl) (by decide) rfl (fun ls hl => ?_)
          refine lv_goto (tgt := 31) hx hb dX0_panelInOrder_74 (by decide) ?_
          exact ih2 (x12, x22, y14) _ _ hsp hP hD hS _ (lv_sub hl [1, 2, 3, 4, 0] rfl)
        have hsp := itT hsp c21
        refine lv_aload_n hx hb dX0_panelInOrder_58 rfl (lv_at hl 0 rfl) ?_
        refine va_get (D := D) (ci := 0) (v := .ref a14) (C := RX0) (T := TX0) (N := 6) hx hb hts hi_X0 hown hK hP 0 rfl rfl 5 (by decide) hf_28 (fun _ h9 => h9) rfl dX0_panelInOrder_59 ?_
        refine lv_iload_n hx hb dX0_panelInOrder_62 rfl (lv_at hl 2 rfl) ?_
        refine lv_iload hx hb dX0_panelInOrder_63 (lv_at hl 4 rfl) ?_
        obtain ⟨r23, hcr23, hsp⟩ := clE hsp
        refine call_v (w1 := [(a14, .inl (cI, 6, .inl r23))]) (ws' := [(a0, .inr (0, [.ref a1, w0_1, w0_2, w0_3, .ref a13, .ref a14])), (a1, .inr (2, [w1_0, .ref a3, w1_2, .ref a5, w1_4, w1_5, w1_6, w1_7, w1_8, w1_9, w1_10, w1_11])), (a3, .inl (cI, 36, .inl f3)), (a5, .inl (cI, 18, .inl f5)), (a13, .inl (cI, 6, .inl r1.2)), (a14, .inl (cI, 6, .inl r23))]) (va_runSN (As := [.ref a14, .int x12, .int x13]) (rest := []) ⟨hx, hb, hml, hown, hts⟩ (k_X4_write l D cI cZ cC cS H.size a14 6 y14 x12 x13 r23 hcr23) ⟨va_cnB 3 hts gX0_panelInOrder_X4_write_n62 rfl rfl rfl (mn_Advice_62 hKU.2.2) hin_X4 nd_X4_write.2 ⟨Nat.le_of_ble_eq_true rfl, Nat.le_of_ble_eq_true rfl⟩, hst_X4_write, trivial⟩ (PB.preS hKU hP hD [5] rfl rfl) rfl rfl hl.1 rfl (lv_room (Nat.le_of_ble_eq_true rfl)) dX0_panelInOrder_65 ⟨Nat.zero_le _, Nat.zero_le _⟩) hS hP hD hA [5] rfl rfl (by first | (simp only [wset, List.set_cons_zero, List.set_cons_succ]; done) | rfl) rfl (fun H locs hP hD hS => ?_)
        obtain ⟨x24, ex24, hsp⟩ := nmE hsp
        refine lv_iinc (k := 2) (v := x24) (lv' := [(2, .int x24), (0, .ref a0), (1, .int u1), (3, .int x4), (4, .int x13)]) hx hb dX0_panelInOrder_68 hl rfl (by rw [ex24]; rfl) (by decide) rfl (fun ls hl => ?_)
        obtain ⟨x25, ex25, hsp⟩ := nmE hsp
        refine lv_iinc (k := 4) (v := x25) (lv' := [(4, .int x25), (2, .int x24), (0, .ref a0), (1, .int u1), (3, .int x4)]) hx hb dX0_panelInOrder_71 hl rfl (by rw [ex25]; rfl) (by decide) rfl (fun ls hl => ?_)
        refine lv_goto (tgt := 31) hx hb dX0_panelInOrder_74 (by decide) ?_
        exact ih2 (x24, x25, r23) _ _ hsp hP hD hS _ (lv_sub hl [2, 3, 1, 4, 0] rfl)
  have hsp := itT hsp c2
  refine lv_bipush (v := (-6)) hx hb dX0_panelInOrder_7 (by decide) ?_
  have hres := Option.some.inj hsp
  subst hres
  exact W.iret (v := (-6)) hx hb hr (fun t ht hW => ⟨⟨(-6), (), rfl, rfl, P_at ht hP⟩, hS.F ht⟩) hS.2.2 dX0_panelInOrder_9

theorem nd_X0_rinsesFrom : yX0_rinsesFrom.cls = RX0 ∧ yX0_rinsesFrom.cls ≠ "java/lang/invoke/MethodHandle" ∧ yX0_rinsesFrom.cls ≠ "java/lang/invoke/VarHandle" ∧ (parseMethodDescriptor yX0_rinsesFrom.desc).map (fun d => d.parameters.length) = some 1 := by decide +kernel
set_option maxHeartbeats 8000000 in
set_option maxRecDepth 100000 in
theorem k_X0_rinsesFrom (l : Launch) (D : va_G) (cI cZ cC cS : ClassId) (sz : Nat) (a0 a1 a3 a5 a13 : Nat) (w0_1 : Value) (w0_2 : Value) (w0_3 : Value) (w0_5 : Value) (w1_0 : Value) (w1_2 : Value) (w1_4 : Value) (w1_5 : Value) (w1_6 : Value) (w1_7 : Value) (w1_8 : Value) (w1_9 : Value) (w1_10 : Value) (w1_11 : Value) (f3 : Nat → Int32) (f5 : Nat → Int32) (f13 : Nat → Int32) (u1 : Int32) (res : Int32 × (Nat → Int32)) (hsp : s_X0_rinsesFrom f3 f5 f13 u1 = some res) : Met l yX0_rinsesFrom wsX0_rinsesFrom ({ frames := 5, cells := 0, slots := 0, locals := 117 }) (va_Pc [.ref a0, .int u1] (PB D cI cZ cC cS [(a0, .inr (0, [.ref a1, w0_1, w0_2, w0_3, .ref a13, w0_5])), (a1, .inr (2, [w1_0, .ref a3, w1_2, .ref a5, w1_4, w1_5, w1_6, w1_7, w1_8, w1_9, w1_10, w1_11])), (a3, .inl (cI, 36, .inl f3)), (a5, .inl (cI, 18, .inl f5)), (a13, .inl (cI, 6, .inl f13))] sz)) (va_Qi (fun r (_ : Unit) => r = res.1) (fun _ t => va_P D vwCl [(a0, .inr (0, [.ref a1, w0_1, w0_2, w0_3, .ref a13, w0_5])), (a1, .inr (2, [w1_0, .ref a3, w1_2, .ref a5, w1_4, w1_5, w1_6, w1_7, w1_8, w1_9, w1_10, w1_11])), (a3, .inl (cI, 36, .inl f3)), (a5, .inl (cI, 18, .inl f5)), (a13, .inl (cI, 6, .inl res.2))] t.heap) (va_A [(a0, .inr (0, [.ref a1, w0_1, w0_2, w0_3, .ref a13, w0_5])), (a1, .inr (2, [w1_0, .ref a3, w1_2, .ref a5, w1_4, w1_5, w1_6, w1_7, w1_8, w1_9, w1_10, w1_11])), (a3, .inl (cI, 36, .inl f3)), (a5, .inl (cI, 18, .inl f5)), (a13, .inl (cI, 6, .inl f13))] sz)) 0 0 (va_A [(a0, .inr (0, [.ref a1, w0_1, w0_2, w0_3, .ref a13, w0_5])), (a1, .inr (2, [w1_0, .ref a3, w1_2, .ref a5, w1_4, w1_5, w1_6, w1_7, w1_8, w1_9, w1_10, w1_11])), (a3, .inl (cI, 36, .inl f3)), (a5, .inl (cI, 18, .inl f5)), (a13, .inl (cI, 6, .inl f13))] sz) := by
  refine Met.ofW (cc := cX0_rinsesFrom) (maxL := 6) (ret := (some .int)) (by decide) rfl ?_
  intro p e s m args below meth c s₁ B hml hv
  obtain ⟨rfl, hsz, hP, hD0, hKU⟩ := hv
  have hx := B.exec
  have hb := B.bytes
  have hr := B.returns
  have hts := atoms_spec (ws := wsX0_rinsesFrom) B.pre
  have hown : s.vm.findClass RX0 = some m.cls := findClass_of_methodNamed B.named
  have hlocks := B.notSynchronized
  have hK := hKU.1
  have hf_25 := hts (.fieldLink RX0 25 "ThinnedPots$Advice" "potFor" "[I") (by decide +kernel)
  have hi_X0 : ∀ w ∈ u_ws RX0 TX0 6, w ∈ wsX0_rinsesFrom := by decide +kernel
  have hst_X4_at := hts (.static yX4_at) (by decide +kernel)
  have hin_X4 := hts (.initialized RX4) (by decide +kernel)
  subst hsz
  have hD := hD0.self (sz := s.heap.size)
  generalize hAe : va_A [(a0, .inr (0, [.ref a1, w0_1, w0_2, w0_3, .ref a13, w0_5])), (a1, .inr (2, [w1_0, .ref a3, w1_2, .ref a5, w1_4, w1_5, w1_6, w1_7, w1_8, w1_9, w1_10, w1_11])), (a3, .inl (cI, 36, .inl f3)), (a5, .inl (cI, 18, .inl f5)), (a13, .inl (cI, 6, .inl f13))] s.heap.size = A at hD ⊢
  have hA : ∀ q : Nat, s.heap.size ≤ q → A q := fun q h => by rw [← hAe]; exact Or.inr h
  have hP : va_P D vwCl [(a0, .inr (0, [.ref a1, w0_1, w0_2, w0_3, .ref a13, w0_5])), (a1, .inr (2, [w1_0, .ref a3, w1_2, .ref a5, w1_4, w1_5, w1_6, w1_7, w1_8, w1_9, w1_10, w1_11])), (a3, .inl (cI, 36, .inl f3)), (a5, .inl (cI, 18, .inl f5)), (a13, .inl (cI, 6, .inl f13))] s.heap := hP
  generalize hHe : s.heap = H at hP ⊢
  have hS : va_S A s.heap H [] := by rw [hHe]; exact va_S.rf
  have hl := lv_entry ([.ref a0, .int u1]) (n := 6) (Nat.le_of_ble_eq_true rfl)
  rw [lg_entry_eq]
  generalize (lg_sl ([.ref a0, .int u1]) ++ List.replicate (6 - (lg_sl ([.ref a0, .int u1])).length) Slot.unset).toArray = ls at hl ⊢
  have hl : lv_has ls 6 [(0, .ref a0), (1, .int u1)] := hl
  unfold s_X0_rinsesFrom at hsp
  refine lv_aload_n hx hb dX0_rinsesFrom_0 rfl (lv_at hl 0 rfl) ?_
  obtain ⟨r1, hcr1, hsp⟩ := clE hsp
  refine call_z (w1 := [(a0, .inr (0, [.ref a1, w0_1, w0_2, w0_3, .ref a13, w0_5])), (a1, .inr (2, [w1_0, .ref a3, w1_2, .ref a5, w1_4, w1_5, w1_6, w1_7, w1_8, w1_9, w1_10, w1_11])), (a3, .inl (cI, 36, .inl f3)), (a5, .inl (cI, 18, .inl f5)), (a13, .inl (cI, 6, .inl r1.2))]) (ws' := [(a0, .inr (0, [.ref a1, w0_1, w0_2, w0_3, .ref a13, w0_5])), (a1, .inr (2, [w1_0, .ref a3, w1_2, .ref a5, w1_4, w1_5, w1_6, w1_7, w1_8, w1_9, w1_10, w1_11])), (a3, .inl (cI, 36, .inl f3)), (a5, .inl (cI, 18, .inl f5)), (a13, .inl (cI, 6, .inl r1.2))]) (va_runV (As := []) (rest := []) ⟨hx, hb, hml, hown, hts⟩ (k_X0_choosePots l D cI cZ cC cS H.size a0 a1 a3 a5 a13 (w0_1) (w0_2) (w0_3) (w0_5) (w1_0) (w1_2) (w1_4) (w1_5) (w1_6) (w1_7) (w1_8) (w1_9) (w1_10) (w1_11) f3 f5 f13 r1 hcr1) (cwV 0 hts gX0_rinsesFrom_X0_choosePots rfl rfl rfl nd_X0_choosePots ⟨Nat.le_of_ble_eq_true rfl, Nat.le_of_ble_eq_true rfl⟩) (PB.preV (ci := 0) (q0 := 0) hKU hP hD [0, 1, 2, 3, 4] rfl rfl rfl rfl) rfl rfl hl.1 rfl (lv_room (Nat.le_of_ble_eq_true rfl)) dX0_rinsesFrom_1 ⟨Nat.zero_le _, Nat.zero_le _⟩) hS hP hD hA [0, 1, 2, 3, 4] rfl rfl (by first | (simp only [wset, List.set_cons_zero, List.set_cons_succ]; done) | rfl) rfl (fun H locs hP hD hS hzr1 => ?_)
  refine lv_if_ne (tgt := 10) hx hb dX0_rinsesFrom_4 (by decide) (fun c2 => ?_) (fun c2 => ?_)
  · have hsp := itF hsp c2
    refine lv_iconst (v := 0) hx hb dX0_rinsesFrom_10 (by decide) ?_
    refine lv_istore_n (lv' := [(2, .int 0), (0, .ref a0), (1, .int u1)]) hx hb dX0_rinsesFrom_11 rfl hl (by decide) rfl (fun ls hl => ?_)
    refine lv_iconst (v := 1) hx hb dX0_rinsesFrom_12 (by decide) ?_
    refine lv_istore_n (lv' := [(3, .int 1), (2, .int 0), (0, .ref a0), (1, .int u1)]) hx hb dX0_rinsesFrom_13 rfl hl (by decide) rfl (fun ls hl => ?_)
    refine ex_rule (D := D) (K := s_X0_rinsesFrom_X1 r1) (P := fun (t1 : Int32) => [(a0, .inr (0, [.ref a1, w0_1, w0_2, w0_3, .ref a13, w0_5])), (a1, .inr (2, [w1_0, .ref a3, w1_2, .ref a5, w1_4, w1_5, w1_6, w1_7, w1_8, w1_9, w1_10, w1_11])), (a3, .inl (cI, 36, .inl f3)), (a5, .inl (cI, 18, .inl f5)), (a13, .inl (cI, 6, .inl r1.2))]) (L := fun (t1 : Int32) => [(2, .int t1)]) (nL := 6) (pcx := 73) (res := res) (A := A) (H0 := s.heap) ?_ (fun hx1 => ?_)
    · intro t1 H locs hsp hP hD hS ls hl
      obtain ⟨x5, rfl⟩ : ∃ z, z = t1 := ⟨_, rfl⟩
      unfold s_X0_rinsesFrom_X1 at hsp; try dsimp only at hsp
      have hP : va_P D vwCl [(a0, .inr (0, [.ref a1, w0_1, w0_2, w0_3, .ref a13, w0_5])), (a1, .inr (2, [w1_0, .ref a3, w1_2, .ref a5, w1_4, w1_5, w1_6, w1_7, w1_8, w1_9, w1_10, w1_11])), (a3, .inl (cI, 36, .inl f3)), (a5, .inl (cI, 18, .inl f5)), (a13, .inl (cI, 6, .inl r1.2))] H := hP
      have hD : va_D A [(a0, .inr (0, [.ref a1, w0_1, w0_2, w0_3, .ref a13, w0_5])), (a1, .inr (2, [w1_0, .ref a3, w1_2, .ref a5, w1_4, w1_5, w1_6, w1_7, w1_8, w1_9, w1_10, w1_11])), (a3, .inl (cI, 36, .inl f3)), (a5, .inl (cI, 18, .inl f5)), (a13, .inl (cI, 6, .inl r1.2))] := hD
      have hl : lv_has ls 6 [(2, .int x5)] := hl
      refine lv_iload_n hx hb dX0_rinsesFrom_73 rfl (lv_at hl 0 rfl) ?_
      have hres := Option.some.inj hsp
      subst hres
      exact W.iret (v := x5) hx hb hr (fun t ht hW => ⟨⟨x5, (), rfl, rfl, P_at ht hP⟩, hS.F ht⟩) hS.2.2 dX0_rinsesFrom_74
    have hl := lv_sub hl (l' := [(0, .ref a0), (1, .int u1), (2, .int 0), (3, .int 1)]) [2, 3, 1, 0] rfl
    refine lp_rule (D := D) (F := s_X0_rinsesFrom_L1 u1 r1 (s_X0_rinsesFrom_X1 r1)) (P := fun (tv : Int32 × Int32) => [(a0, .inr (0, [.ref a1, w0_1, w0_2, w0_3, .ref a13, w0_5])), (a1, .inr (2, [w1_0, .ref a3, w1_2, .ref a5, w1_4, w1_5, w1_6, w1_7, w1_8, w1_9, w1_10, w1_11])), (a3, .inl (cI, 36, .inl f3)), (a5, .inl (cI, 18, .inl f5)), (a13, .inl (cI, 6, .inl r1.2))]) (L := fun (tv : Int32 × Int32) => [(0, .ref a0), (1, .int u1), (2, .int tv.1), (3, .int tv.2)]) (nL := 6) (res := res) (A := A) (H0 := s.heap) (fun _ => rfl) ?_ 1000 (0, 1) _ _ hsp hP hD hS _ hl
    · intro n1 ih1 tv H locs hsp hP hD hS ls hl
      obtain ⟨x3, x4⟩ := tv
      have hsp : s_X0_rinsesFrom_B1  u1 r1 (s_X0_rinsesFrom_X1 r1) (s_X0_rinsesFrom_L1 u1 r1 (s_X0_rinsesFrom_X1 r1) n1) x3 x4 = some res := hsp
      unfold s_X0_rinsesFrom_B1 at hsp
      have hP : va_P D vwCl [(a0, .inr (0, [.ref a1, w0_1, w0_2, w0_3, .ref a13, w0_5])), (a1, .inr (2, [w1_0, .ref a3, w1_2, .ref a5, w1_4, w1_5, w1_6, w1_7, w1_8, w1_9, w1_10, w1_11])), (a3, .inl (cI, 36, .inl f3)), (a5, .inl (cI, 18, .inl f5)), (a13, .inl (cI, 6, .inl r1.2))] H := hP
      have hD : va_D A [(a0, .inr (0, [.ref a1, w0_1, w0_2, w0_3, .ref a13, w0_5])), (a1, .inr (2, [w1_0, .ref a3, w1_2, .ref a5, w1_4, w1_5, w1_6, w1_7, w1_8, w1_9, w1_10, w1_11])), (a3, .inl (cI, 36, .inl f3)), (a5, .inl (cI, 18, .inl f5)), (a13, .inl (cI, 6, .inl r1.2))] := hD
      have hl : lv_has ls 6 [(0, .ref a0), (1, .int u1), (2, .int x3), (3, .int x4)] := hl
      refine lv_iload_n hx hb dX0_rinsesFrom_14 rfl (lv_at hl 3 rfl) ?_
      refine lv_bipush (v := 6) hx hb dX0_rinsesFrom_15 (by decide) ?_
      refine lv_icmp_ge (tgt := 73) hx hb dX0_rinsesFrom_17 (by decide) (fun c6 => ?_) (fun c6 => ?_)
      · have hsp := itT hsp c6
        exact hx1 x3 _ _ hsp hP hD hS _ (lv_sub hl [2] rfl)
      have hsp := itF hsp c6
      refine lv_iload_n hx hb dX0_rinsesFrom_20 rfl (lv_at hl 1 rfl) ?_
      refine lv_iload_n hx hb dX0_rinsesFrom_21 rfl (lv_at hl 3 rfl) ?_
      refine lv_iadd hx hb dX0_rinsesFrom_22 ?_
      refine lv_bipush (v := 6) hx hb dX0_rinsesFrom_23 (by decide) ?_
      obtain ⟨x7, ex7, hnx7, hsp⟩ := rmdE hsp
      refine lv_irem hx hb dX0_rinsesFrom_25 hnx7 ?_
      refine r_top ex7 ?_
      refine lv_istore (lv' := [(4, .int x7), (0, .ref a0), (1, .int u1), (2, .int x3), (3, .int x4)]) hx hb dX0_rinsesFrom_26 hl (by decide) rfl (fun ls hl => ?_)
      refine lv_iload_n hx hb dX0_rinsesFrom_28 rfl (lv_at hl 2 rfl) ?_
      refine lv_iload_n hx hb dX0_rinsesFrom_29 rfl (lv_at hl 4 rfl) ?_
      refine lv_iadd hx hb dX0_rinsesFrom_30 ?_
      refine lv_iconst (v := 1) hx hb dX0_rinsesFrom_31 (by decide) ?_
      refine lv_isub hx hb dX0_rinsesFrom_32 ?_
      refine lv_bipush (v := 6) hx hb dX0_rinsesFrom_33 (by decide) ?_
      obtain ⟨x8, ex8, hnx8, hsp⟩ := rmdE hsp
      refine lv_irem hx hb dX0_rinsesFrom_35 hnx8 ?_
      refine r_top ex8 ?_
      refine lv_istore (lv' := [(5, .int x8), (4, .int x7), (0, .ref a0), (1, .int u1), (2, .int x3), (3, .int x4)]) hx hb dX0_rinsesFrom_36 hl (by decide) rfl (fun ls hl => ?_)
      refine lv_iload_n hx hb dX0_rinsesFrom_38 rfl (lv_at hl 4 rfl) ?_
      refine lv_aload_n hx hb dX0_rinsesFrom_39 rfl (lv_at hl 2 rfl) ?_
      refine va_get (D := D) (ci := 0) (v := .ref a13) (C := RX0) (T := TX0) (N := 6) hx hb hts hi_X0 hown hK hP 0 rfl rfl 4 (by decide) hf_25 (fun _ h9 => h9) rfl dX0_rinsesFrom_40 ?_
      refine lv_iload hx hb dX0_rinsesFrom_43 (lv_at hl 1 rfl) ?_
      obtain ⟨r9, hcr9, hsp⟩ := clE hsp
      refine call_i (w1 := [(a13, .inl (cI, 6, .inl r1.2))]) (ws' := [(a0, .inr (0, [.ref a1, w0_1, w0_2, w0_3, .ref a13, w0_5])), (a1, .inr (2, [w1_0, .ref a3, w1_2, .ref a5, w1_4, w1_5, w1_6, w1_7, w1_8, w1_9, w1_10, w1_11])), (a3, .inl (cI, 36, .inl f3)), (a5, .inl (cI, 18, .inl f5)), (a13, .inl (cI, 6, .inl r1.2))]) (va_runSN (As := [.ref a13, .int x7]) (rest := [.int x3]) ⟨hx, hb, hml, hown, hts⟩ (k_X4_at l D cI cZ cC cS H.size a13 6 r1.2 x7 r9 hcr9) ⟨va_cnB 2 hts gX0_rinsesFrom_X4_at_n70 rfl rfl rfl (mn_Advice_70 hKU.2.2) hin_X4 nd_X4_at.2 ⟨Nat.le_of_ble_eq_true rfl, Nat.le_of_ble_eq_true rfl⟩, hst_X4_at, trivial⟩ (PB.preS hKU hP hD [4] rfl rfl) rfl rfl hl.1 rfl (lv_room (Nat.le_of_ble_eq_true rfl)) dX0_rinsesFrom_45 ⟨Nat.zero_le _, Nat.zero_le _⟩) hS hP hD hA [4] rfl rfl (by first | (simp only [wset, List.set_cons_zero, List.set_cons_succ]; done) | rfl) rfl (fun H locs hP hD hS => ?_)
      refine lv_aload_n hx hb dX0_rinsesFrom_48 rfl (lv_at hl 2 rfl) ?_
      refine va_get (D := D) (ci := 0) (v := .ref a13) (C := RX0) (T := TX0) (N := 6) hx hb hts hi_X0 hown hK hP 0 rfl rfl 4 (by decide) hf_25 (fun _ h9 => h9) rfl dX0_rinsesFrom_49 ?_
      refine lv_iload hx hb dX0_rinsesFrom_52 (lv_at hl 0 rfl) ?_
      obtain ⟨r10, hcr10, hsp⟩ := clE hsp
      refine call_i (w1 := [(a13, .inl (cI, 6, .inl r1.2))]) (ws' := [(a0, .inr (0, [.ref a1, w0_1, w0_2, w0_3, .ref a13, w0_5])), (a1, .inr (2, [w1_0, .ref a3, w1_2, .ref a5, w1_4, w1_5, w1_6, w1_7, w1_8, w1_9, w1_10, w1_11])), (a3, .inl (cI, 36, .inl f3)), (a5, .inl (cI, 18, .inl f5)), (a13, .inl (cI, 6, .inl r1.2))]) (va_runSN (As := [.ref a13, .int x8]) (rest := [.int r9, .int x3]) ⟨hx, hb, hml, hown, hts⟩ (k_X4_at l D cI cZ cC cS H.size a13 6 r1.2 x8 r10 hcr10) ⟨va_cnB 2 hts gX0_rinsesFrom_X4_at_n70 rfl rfl rfl (mn_Advice_70 hKU.2.2) hin_X4 nd_X4_at.2 ⟨Nat.le_of_ble_eq_true rfl, Nat.le_of_ble_eq_true rfl⟩, hst_X4_at, trivial⟩ (PB.preS hKU hP hD [4] rfl rfl) rfl rfl hl.1 rfl (lv_room (Nat.le_of_ble_eq_true rfl)) dX0_rinsesFrom_54 ⟨Nat.zero_le _, Nat.zero_le _⟩) hS hP hD hA [4] rfl rfl (by first | (simp only [wset, List.set_cons_zero, List.set_cons_succ]; done) | rfl) rfl (fun H locs hP hD hS => ?_)
      refine lv_icmp_eq (tgt := 64) hx hb dX0_rinsesFrom_57 (by decide) (fun c11 => ?_) (fun c11 => ?_)
      · have hsp := itT hsp c11
        refine lv_iconst (v := 0) hx hb dX0_rinsesFrom_64 (by decide) ?_
        refine lv_iadd hx hb dX0_rinsesFrom_65 ?_
        obtain ⟨x12, ex12, hsp⟩ := nmE hsp
        refine r_top ex12 ?_
        refine lv_istore_n (lv' := [(2, .int x12), (5, .int x8), (4, .int x7), (0, .ref a0), (1, .int u1), (3, .int x4)]) hx hb dX0_rinsesFrom_66 rfl hl (by decide) rfl (fun ls hl => ?_)
        obtain ⟨x13, ex13, hsp⟩ := nmE hsp
        refine lv_iinc (k := 5) (v := x13) (lv' := [(3, .int x13), (2, .int x12), (5, .int x8), (4, .int x7), (0, .ref a0), (1, .int u1)]) hx hb dX0_rinsesFrom_67 hl rfl (by rw [ex13]; rfl) (by decide) rfl (fun ls hl => ?_)
        refine lv_goto (tgt := 14) hx hb dX0_rinsesFrom_70 (by decide) ?_
        exact ih1 (x12, x13) _ _ hsp hP hD hS _ (lv_sub hl [4, 5, 1, 0] rfl)
      have hsp := itF hsp c11
      refine lv_iconst (v := 1) hx hb dX0_rinsesFrom_60 (by decide) ?_
      refine lv_goto (tgt := 65) hx hb dX0_rinsesFrom_61 (by decide) ?_
      refine lv_iadd hx hb dX0_rinsesFrom_65 ?_
      obtain ⟨x14, ex14, hsp⟩ := nmE hsp
      refine r_top ex14 ?_
      refine lv_istore_n (lv' := [(2, .int x14), (5, .int x8), (4, .int x7), (0, .ref a0), (1, .int u1), (3, .int x4)]) hx hb dX0_rinsesFrom_66 rfl hl (by decide) rfl (fun ls hl => ?_)
      obtain ⟨x15, ex15, hsp⟩ := nmE hsp
      refine lv_iinc (k := 5) (v := x15) (lv' := [(3, .int x15), (2, .int x14), (5, .int x8), (4, .int x7), (0, .ref a0), (1, .int u1)]) hx hb dX0_rinsesFrom_67 hl rfl (by rw [ex15]; rfl) (by decide) rfl (fun ls hl => ?_)
      refine lv_goto (tgt := 14) hx hb dX0_rinsesFrom_70 (by decide) ?_
      exact ih1 (x14, x15) _ _ hsp hP hD hS _ (lv_sub hl [4, 5, 1, 0] rfl)
  have hsp := itT hsp c2
  refine lv_bipush (v := (-6)) hx hb dX0_rinsesFrom_7 (by decide) ?_
  have hres := Option.some.inj hsp
  subst hres
  exact W.iret (v := (-6)) hx hb hr (fun t ht hW => ⟨⟨(-6), (), rfl, rfl, P_at ht hP⟩, hS.F ht⟩) hS.2.2 dX0_rinsesFrom_9

theorem nd_X3_begin : yX3_begin.cls = RX3 ∧ yX3_begin.cls ≠ "java/lang/invoke/MethodHandle" ∧ yX3_begin.cls ≠ "java/lang/invoke/VarHandle" ∧ (parseMethodDescriptor yX3_begin.desc).map (fun d => d.parameters.length) = some 2 := by decide +kernel
set_option maxHeartbeats 8000000 in
set_option maxRecDepth 100000 in
theorem k_X3_begin (l : Launch) (D : va_G) (cI cZ cC cS : ClassId) (sz : Nat) (a0 a1 : Nat) (g0_0 : Int32) (g0_1 : Int32) (g0_2 : Int32) (g0_3 : Int32) (f1 : Nat → Int32) (u1 : Int32) (u2 : Int32) (res : Int32 × Int32 × Int32 × Int32 × (Nat → Int32)) (hsp : s_X3_begin f1 u1 u2 = some res) : Met l yX3_begin wsX3_begin ({ frames := 1, cells := 0, slots := 0, locals := 22 }) (va_Pc [.ref a0, .int u1, .int u2] (PB D cI cZ cC cS [(a0, .inr (3, [.int g0_0, .int g0_1, .int g0_2, .int g0_3, .ref a1])), (a1, .inl (cI, 4, .inl f1))] sz)) (va_Qv (fun (_ : Unit) => True) (fun _ t => va_P D vwCl [(a0, .inr (3, [.int res.1, .int res.2.1, .int res.2.2.1, .int res.2.2.2.1, .ref a1])), (a1, .inl (cI, 4, .inl res.2.2.2.2))] t.heap) (va_A [(a0, .inr (3, [.int g0_0, .int g0_1, .int g0_2, .int g0_3, .ref a1])), (a1, .inl (cI, 4, .inl f1))] sz)) 0 0 (va_A [(a0, .inr (3, [.int g0_0, .int g0_1, .int g0_2, .int g0_3, .ref a1])), (a1, .inl (cI, 4, .inl f1))] sz) := by
  refine Met.ofW (cc := cX3_begin) (maxL := 4) (ret := none) (by decide) rfl ?_
  intro p e s m args below meth c s₁ B hml hv
  obtain ⟨rfl, hsz, hP, hD0, hKU⟩ := hv
  have hx := B.exec
  have hb := B.bytes
  have hr := B.returns
  have hts := atoms_spec (ws := wsX3_begin) B.pre
  have hown : s.vm.findClass RX3 = some m.cls := findClass_of_methodNamed B.named
  have hlocks := B.notSynchronized
  have hK := hKU.1
  have hf_19 := hts (.fieldLink RX3 19 "ThinnedPots$Work" "task" "I") (by decide +kernel)
  have hi_X3 : ∀ w ∈ u_ws RX3 TX3 5, w ∈ wsX3_begin := by decide +kernel
  have hf_23 := hts (.fieldLink RX3 23 "ThinnedPots$Work" "target" "I") (by decide +kernel)
  have hf_26 := hts (.fieldLink RX3 26 "ThinnedPots$Work" "other" "I") (by decide +kernel)
  have hf_29 := hts (.fieldLink RX3 29 "ThinnedPots$Work" "drops" "I") (by decide +kernel)
  have hf_9 := hts (.fieldLink RX3 9 "ThinnedPots$Work" "dropsOfKinds" "[I") (by decide +kernel)
  have hst_X4_write := hts (.static yX4_write) (by decide +kernel)
  have hin_X4 := hts (.initialized RX4) (by decide +kernel)
  subst hsz
  have hD := hD0.self (sz := s.heap.size)
  generalize hAe : va_A [(a0, .inr (3, [.int g0_0, .int g0_1, .int g0_2, .int g0_3, .ref a1])), (a1, .inl (cI, 4, .inl f1))] s.heap.size = A at hD ⊢
  have hA : ∀ q : Nat, s.heap.size ≤ q → A q := fun q h => by rw [← hAe]; exact Or.inr h
  have hP : va_P D vwCl [(a0, .inr (3, [.int g0_0, .int g0_1, .int g0_2, .int g0_3, .ref a1])), (a1, .inl (cI, 4, .inl f1))] s.heap := hP
  generalize hHe : s.heap = H at hP ⊢
  have hS : va_S A s.heap H [] := by rw [hHe]; exact va_S.rf
  have hl := lv_entry ([.ref a0, .int u1, .int u2]) (n := 4) (Nat.le_of_ble_eq_true rfl)
  rw [lg_entry_eq]
  generalize (lg_sl ([.ref a0, .int u1, .int u2]) ++ List.replicate (4 - (lg_sl ([.ref a0, .int u1, .int u2])).length) Slot.unset).toArray = ls at hl ⊢
  have hl : lv_has ls 4 [(0, .ref a0), (1, .int u1), (2, .int u2)] := hl
  unfold s_X3_begin at hsp
  refine lv_aload_n hx hb dX3_begin_0 rfl (lv_at hl 0 rfl) ?_
  refine lv_iload_n hx hb dX3_begin_1 rfl (lv_at hl 1 rfl) ?_
  refine va_put (D := D) (ci := 3) (v := .int u1) (ty := .int) (C := RX3) (T := TX3) (N := 5) hx hb hts hi_X3 tyX3 tyX3_ok nmX3 hown hK hP hD hS 0 rfl rfl 0 (by decide) hf_19 (fun _ h9 => h9) rfl (by decide +kernel) rfl rfl (Nat.le_of_ble_eq_true rfl) dX3_begin_2 (fun H locs hP hD hS => ?_)
  have hP : va_P D vwCl [(a0, .inr (3, [.int u1, .int g0_1, .int g0_2, .int g0_3, .ref a1])), (a1, .inl (cI, 4, .inl f1))] H := hP
  have hD : va_D A [(a0, .inr (3, [.int u1, .int g0_1, .int g0_2, .int g0_3, .ref a1])), (a1, .inl (cI, 4, .inl f1))] := hD
  refine lv_aload_n hx hb dX3_begin_5 rfl (lv_at hl 0 rfl) ?_
  refine lv_iload_n hx hb dX3_begin_6 rfl (lv_at hl 2 rfl) ?_
  refine va_put (D := D) (ci := 3) (v := .int u2) (ty := .int) (C := RX3) (T := TX3) (N := 5) hx hb hts hi_X3 tyX3 tyX3_ok nmX3 hown hK hP hD hS 0 rfl rfl 1 (by decide) hf_23 (fun _ h9 => h9) rfl (by decide +kernel) rfl rfl (Nat.le_of_ble_eq_true rfl) dX3_begin_7 (fun H locs hP hD hS => ?_)
  have hP : va_P D vwCl [(a0, .inr (3, [.int u1, .int u2, .int g0_2, .int g0_3, .ref a1])), (a1, .inl (cI, 4, .inl f1))] H := hP
  have hD : va_D A [(a0, .inr (3, [.int u1, .int u2, .int g0_2, .int g0_3, .ref a1])), (a1, .inl (cI, 4, .inl f1))] := hD
  refine lv_aload_n hx hb dX3_begin_10 rfl (lv_at hl 0 rfl) ?_
  refine lv_iconst (v := 0) hx hb dX3_begin_11 (by decide) ?_
  refine va_put (D := D) (ci := 3) (v := .int 0) (ty := .int) (C := RX3) (T := TX3) (N := 5) hx hb hts hi_X3 tyX3 tyX3_ok nmX3 hown hK hP hD hS 0 rfl rfl 2 (by decide) hf_26 (fun _ h9 => h9) rfl (by decide +kernel) rfl rfl (Nat.le_of_ble_eq_true rfl) dX3_begin_12 (fun H locs hP hD hS => ?_)
  have hP : va_P D vwCl [(a0, .inr (3, [.int u1, .int u2, .int 0, .int g0_3, .ref a1])), (a1, .inl (cI, 4, .inl f1))] H := hP
  have hD : va_D A [(a0, .inr (3, [.int u1, .int u2, .int 0, .int g0_3, .ref a1])), (a1, .inl (cI, 4, .inl f1))] := hD
  refine lv_aload_n hx hb dX3_begin_15 rfl (lv_at hl 0 rfl) ?_
  refine lv_iconst (v := 0) hx hb dX3_begin_16 (by decide) ?_
  refine va_put (D := D) (ci := 3) (v := .int 0) (ty := .int) (C := RX3) (T := TX3) (N := 5) hx hb hts hi_X3 tyX3 tyX3_ok nmX3 hown hK hP hD hS 0 rfl rfl 3 (by decide) hf_29 (fun _ h9 => h9) rfl (by decide +kernel) rfl rfl (Nat.le_of_ble_eq_true rfl) dX3_begin_17 (fun H locs hP hD hS => ?_)
  have hP : va_P D vwCl [(a0, .inr (3, [.int u1, .int u2, .int 0, .int 0, .ref a1])), (a1, .inl (cI, 4, .inl f1))] H := hP
  have hD : va_D A [(a0, .inr (3, [.int u1, .int u2, .int 0, .int 0, .ref a1])), (a1, .inl (cI, 4, .inl f1))] := hD
  refine lv_iconst (v := 0) hx hb dX3_begin_20 (by decide) ?_
  refine lv_istore_n (lv' := [(3, .int 0), (0, .ref a0), (1, .int u1), (2, .int u2)]) hx hb dX3_begin_21 rfl hl (by decide) rfl (fun ls hl => ?_)
  refine ex_rule (D := D) (K := s_X3_begin_X1 u1 u2) (P := fun (t1 : (Nat → Int32)) => [(a0, .inr (3, [.int u1, .int u2, .int 0, .int 0, .ref a1])), (a1, .inl (cI, 4, .inl t1))]) (L := fun (t1 : (Nat → Int32)) => []) (nL := 4) (pcx := 42) (res := res) (A := A) (H0 := s.heap) ?_ (fun hx1 => ?_)
  · intro t1 H locs hsp hP hD hS ls hl
    obtain ⟨y3, rfl⟩ : ∃ z, z = t1 := ⟨_, rfl⟩
    unfold s_X3_begin_X1 at hsp; try dsimp only at hsp
    have hP : va_P D vwCl [(a0, .inr (3, [.int u1, .int u2, .int 0, .int 0, .ref a1])), (a1, .inl (cI, 4, .inl y3))] H := hP
    have hD : va_D A [(a0, .inr (3, [.int u1, .int u2, .int 0, .int 0, .ref a1])), (a1, .inl (cI, 4, .inl y3))] := hD
    have hl : lv_has ls 4 [] := hl
    have hres := Option.some.inj hsp
    subst hres
    exact W.vret hx hb hr (fun t ht hW => ⟨⟨(), rfl, trivial, P_at ht hP⟩, hS.F ht⟩) hS.2.2 dX3_begin_42
  have hl := lv_sub hl (l' := [(0, .ref a0), (3, .int 0)]) [1, 0] rfl
  refine lp_rule (D := D) (F := s_X3_begin_L1 (s_X3_begin_X1 u1 u2)) (P := fun (tv : Int32 × (Nat → Int32)) => [(a0, .inr (3, [.int u1, .int u2, .int 0, .int 0, .ref a1])), (a1, .inl (cI, 4, .inl tv.2))]) (L := fun (tv : Int32 × (Nat → Int32)) => [(0, .ref a0), (3, .int tv.1)]) (nL := 4) (res := res) (A := A) (H0 := s.heap) (fun _ => rfl) ?_ 1000 (0, f1) _ _ hsp hP hD hS _ hl
  · intro n1 ih1 tv H locs hsp hP hD hS ls hl
    obtain ⟨x1, y2⟩ := tv
    have hsp : s_X3_begin_B1   (s_X3_begin_X1 u1 u2) (s_X3_begin_L1 (s_X3_begin_X1 u1 u2) n1) x1 y2 = some res := hsp
    unfold s_X3_begin_B1 at hsp
    have hP : va_P D vwCl [(a0, .inr (3, [.int u1, .int u2, .int 0, .int 0, .ref a1])), (a1, .inl (cI, 4, .inl y2))] H := hP
    have hD : va_D A [(a0, .inr (3, [.int u1, .int u2, .int 0, .int 0, .ref a1])), (a1, .inl (cI, 4, .inl y2))] := hD
    have hl : lv_has ls 4 [(0, .ref a0), (3, .int x1)] := hl
    refine lv_iload_n hx hb dX3_begin_22 rfl (lv_at hl 1 rfl) ?_
    refine lv_iconst (v := 4) hx hb dX3_begin_23 (by decide) ?_
    refine lv_icmp_ge (tgt := 42) hx hb dX3_begin_24 (by decide) (fun c4 => ?_) (fun c4 => ?_)
    · have hsp := itT hsp c4
      exact hx1 y2 _ _ hsp hP hD hS _ (lv_sub hl [] rfl)
    have hsp := itF hsp c4
    refine lv_aload_n hx hb dX3_begin_27 rfl (lv_at hl 0 rfl) ?_
    refine va_get (D := D) (ci := 3) (v := .ref a1) (C := RX3) (T := TX3) (N := 5) hx hb hts hi_X3 hown hK hP 0 rfl rfl 4 (by decide) hf_9 (fun _ h9 => h9) rfl dX3_begin_28 ?_
    refine lv_iload_n hx hb dX3_begin_31 rfl (lv_at hl 1 rfl) ?_
    refine lv_iconst (v := 0) hx hb dX3_begin_32 (by decide) ?_
    obtain ⟨r5, hcr5, hsp⟩ := clE hsp
    refine call_v (w1 := [(a1, .inl (cI, 4, .inl r5))]) (ws' := [(a0, .inr (3, [.int u1, .int u2, .int 0, .int 0, .ref a1])), (a1, .inl (cI, 4, .inl r5))]) (va_runSN (As := [.ref a1, .int x1, .int 0]) (rest := []) ⟨hx, hb, hml, hown, hts⟩ (k_X4_write l D cI cZ cC cS H.size a1 4 y2 x1 0 r5 hcr5) ⟨va_cnB 3 hts gX3_begin_X4_write_n32 rfl rfl rfl (mn_Work_32 hKU.2.2) hin_X4 nd_X4_write.2 ⟨Nat.le_of_ble_eq_true rfl, Nat.le_of_ble_eq_true rfl⟩, hst_X4_write, trivial⟩ (PB.preS hKU hP hD [1] rfl rfl) rfl rfl hl.1 rfl (lv_room (Nat.le_of_ble_eq_true rfl)) dX3_begin_33 ⟨Nat.zero_le _, Nat.zero_le _⟩) hS hP hD hA [1] rfl rfl (by first | (simp only [wset, List.set_cons_zero, List.set_cons_succ]; done) | rfl) rfl (fun H locs hP hD hS => ?_)
    obtain ⟨x6, ex6, hsp⟩ := nmE hsp
    refine lv_iinc (k := 1) (v := x6) (lv' := [(3, .int x6), (0, .ref a0)]) hx hb dX3_begin_36 hl rfl (by rw [ex6]; rfl) (by decide) rfl (fun ls hl => ?_)
    refine lv_goto (tgt := 22) hx hb dX3_begin_39 (by decide) ?_
    exact ih1 (x6, r5) _ _ hsp hP hD hS _ (lv_sub hl [1, 0] rfl)

theorem nd_X3_init : yX3_init.cls = RX3 ∧ yX3_init.cls ≠ "java/lang/invoke/MethodHandle" ∧ yX3_init.cls ≠ "java/lang/invoke/VarHandle" ∧ (parseMethodDescriptor yX3_init.desc).map (fun d => d.parameters.length) = some 0 := by decide +kernel
set_option maxHeartbeats 8000000 in
set_option maxRecDepth 100000 in
theorem k_X3_init (l : Launch) (D : va_G) (cI cZ cC cS : ClassId) (sz : Nat) (a0 : Nat) (res : Int32 × Int32 × Int32 × Int32 × (Nat → Int32)) (hsp : s_X3_init = some res) : Met l yX3_init wsX3_init ({ frames := 2, cells := 1, slots := 4, locals := 45 }) (va_Pc [.ref a0] (PB D cI cZ cC cS [(a0, .inr (3, [.int 0, .int 0, .int 0, .int 0, .null]))] sz)) (va_Qv (fun (_ : Unit) => True) (fun _ t => ∃ bz : Nat → Nat, va_P D vwCl [(a0, .inr (3, [.int res.1, .int res.2.1, .int res.2.2.1, .int res.2.2.2.1, .ref (bz 0)])), ((bz 0), .inl (cI, 4, .inl res.2.2.2.2))] t.heap ∧ va_D (va_A [(a0, .inr (3, [.int 0, .int 0, .int 0, .int 0, .null]))] sz) [(a0, .inr (3, [.int res.1, .int res.2.1, .int res.2.2.1, .int res.2.2.2.1, .ref (bz 0)])), ((bz 0), .inl (cI, 4, .inl res.2.2.2.2))]) (va_A [(a0, .inr (3, [.int 0, .int 0, .int 0, .int 0, .null]))] sz)) 1 4 (va_A [(a0, .inr (3, [.int 0, .int 0, .int 0, .int 0, .null]))] sz) := by
  refine Met.ofW (cc := cX3_init) (maxL := 1) (ret := none) (by decide) rfl ?_
  intro p e s m args below meth c s₁ B hml hv
  obtain ⟨rfl, hsz, hP, hD0, hKU⟩ := hv
  have hx := B.exec
  have hb := B.bytes
  have hr := B.returns
  have hts := atoms_spec (ws := wsX3_init) B.pre
  have hown : s.vm.findClass RX3 = some m.cls := findClass_of_methodNamed B.named
  have hlocks := B.notSynchronized
  have hK := hKU.1
  have hin : meth.name = "<init>" := (name_of_methodNamed B.named B.method).1
  have ho_l3 := hts (.methodLink RX3 3 objectInit) (by decide +kernel)
  have ho_i := hts (.instanceMethod objectInit) (by decide +kernel)
  have ho_c := hts (.code objectInit ⟨#[0xb1]⟩ 1 none) (by decide +kernel)
  have har_I := hts (.arrayClass .int) (by decide +kernel)
  have hf_9 := hts (.fieldLink RX3 9 "ThinnedPots$Work" "dropsOfKinds" "[I") (by decide +kernel)
  have hi_X3 : ∀ w ∈ u_ws RX3 TX3 5, w ∈ wsX3_init := by decide +kernel
  subst hsz
  have hD := hD0.self (sz := s.heap.size)
  generalize hAe : va_A [(a0, .inr (3, [.int 0, .int 0, .int 0, .int 0, .null]))] s.heap.size = A at hD ⊢
  have hA : ∀ q : Nat, s.heap.size ≤ q → A q := fun q h => by rw [← hAe]; exact Or.inr h
  have hP : va_P D vwCl [(a0, .inr (3, [.int 0, .int 0, .int 0, .int 0, .null]))] s.heap := hP
  generalize hHe : s.heap = H at hP ⊢
  have hS : va_S A s.heap H [] := by rw [hHe]; exact va_S.rf
  have hl := lv_entry ([.ref a0]) (n := 1) (Nat.le_of_ble_eq_true rfl)
  rw [lg_entry_eq]
  generalize (lg_sl ([.ref a0]) ++ List.replicate (1 - (lg_sl ([.ref a0])).length) Slot.unset).toArray = ls at hl ⊢
  have hl : lv_has ls 1 [(0, .ref a0)] := hl
  unfold s_X3_init at hsp
  refine lv_aload_n hx hb dX3_init_0 rfl (lv_at hl 0 rfl) ?_
  refine W.objInit hx hb hown ho_l3 ho_i ho_c rfl (by rw [hml]; exact hl.1) rfl dX3_init_1 (Nat.le_of_ble_eq_true rfl) (Nat.le_of_ble_eq_true rfl) ?_
  refine W.eq (g2 := F0 m 4 ls []) rfl ?_
  refine lv_aload_n hx hb dX3_init_4 rfl (lv_at hl 0 rfl) ?_
  refine lv_iconst (v := 4) hx hb dX3_init_5 (by decide) ?_
  refine r_newaI (N' := 4) hx hb har_I hK hP hD hS hA (by decide) rfl (Nat.le_of_ble_eq_true rfl) (Nat.le_of_ble_eq_true rfl) (Nat.le_of_ble_eq_true rfl) dX3_init_6 (fun z1 H hP hD hS => ?_)
  have hP : va_P D vwCl [(a0, .inr (3, [.int 0, .int 0, .int 0, .int 0, .null])), (z1, .inl (cI, 4, .inl (fun _ => 0)))] H := hP
  have hD : va_D A [(a0, .inr (3, [.int 0, .int 0, .int 0, .int 0, .null])), (z1, .inl (cI, 4, .inl (fun _ => 0)))] := hD
  refine W.widen (k := 1) (n := 4) (Nat.le_of_ble_eq_true rfl) (Nat.le_of_ble_eq_true rfl) ?_
  refine va_putF (D := D) (ci := 3) (v := .ref z1) (ty := .array .int) (C := RX3) (T := TX3) (N := 5) hx hb hts hi_X3 tyX3 tyX3_ok nmX3 hown hK hP hD hS 0 rfl rfl 4 (by decide) hf_9 (fun _ h9 => h9) rfl hin rfl (by decide +kernel) rfl rfl (Nat.le_of_ble_eq_true rfl) dX3_init_8 (fun H locs hP hD hS => ?_)
  have hP : va_P D vwCl [(a0, .inr (3, [.int 0, .int 0, .int 0, .int 0, .ref z1])), (z1, .inl (cI, 4, .inl (fun _ => 0)))] H := hP
  have hD : va_D A [(a0, .inr (3, [.int 0, .int 0, .int 0, .int 0, .ref z1])), (z1, .inl (cI, 4, .inl (fun _ => 0)))] := hD
  refine lv_aload_n hx hb dX3_init_11 rfl (lv_at hl 0 rfl) ?_
  refine lv_iconst (v := 0) hx hb dX3_init_12 (by decide) ?_
  refine lv_iconst (v := 0) hx hb dX3_init_13 (by decide) ?_
  obtain ⟨r1, hcr1, hsp⟩ := clE hsp
  refine call_v (w1 := [(a0, .inr (3, [.int r1.1, .int r1.2.1, .int r1.2.2.1, .int r1.2.2.2.1, .ref z1])), (z1, .inl (cI, 4, .inl r1.2.2.2.2))]) (ws' := [(a0, .inr (3, [.int r1.1, .int r1.2.1, .int r1.2.2.1, .int r1.2.2.2.1, .ref z1])), (z1, .inl (cI, 4, .inl r1.2.2.2.2))]) (va_runV (As := [.int 0, .int 0]) (rest := []) ⟨hx, hb, hml, hown, hts⟩ (k_X3_begin l D cI cZ cC cS H.size a0 z1 0 0 0 0 (fun _ => 0) 0 0 r1 hcr1) (cwV 2 hts gX3_init_X3_begin rfl rfl rfl nd_X3_begin ⟨Nat.le_of_ble_eq_true rfl, Nat.le_of_ble_eq_true rfl⟩) (PB.preV (ci := 3) (q0 := 0) hKU hP hD [0, 1] rfl rfl rfl rfl) rfl rfl hl.1 rfl (lv_room (Nat.le_of_ble_eq_true rfl)) dX3_init_14 ⟨Nat.le_of_ble_eq_true rfl, Nat.le_of_ble_eq_true rfl⟩) hS hP hD hA [0, 1] rfl rfl (by first | (simp only [wset, List.set_cons_zero, List.set_cons_succ]; done) | rfl) rfl (fun H locs hP hD hS => ?_)
  have hres := Option.some.inj hsp
  subst hres
  exact W.vret hx hb hr (fun t ht hW => ⟨⟨(), rfl, trivial, (fun k => ([z1] : List Nat).getD k 0), P_at ht hP, hD⟩, hS.F ht⟩) hS.2.2 dX3_init_17

theorem nd_X1_init : yX1_init.cls = RX1 ∧ yX1_init.cls ≠ "java/lang/invoke/MethodHandle" ∧ yX1_init.cls ≠ "java/lang/invoke/VarHandle" ∧ (parseMethodDescriptor yX1_init.desc).map (fun d => d.parameters.length) = some 0 := by decide +kernel
set_option maxHeartbeats 8000000 in
set_option maxRecDepth 100000 in
theorem k_X1_init (l : Launch) (D : va_G) (cI cZ cC cS : ClassId) (sz : Nat) (a0 : Nat) (res : Int32 × Int32 × Int32 × Int32 × (Nat → Int32)) (hsp : s_X1_init = some res) : Met l yX1_init wsX1_init ({ frames := 3, cells := 3, slots := 69, locals := 65 }) (va_Pc [.ref a0] (PB D cI cZ cC cS [(a0, .inr (1, [.null, .int 0, .int 0, .null]))] sz)) (va_Qv (fun (_ : Unit) => True) (fun _ t => ∃ bz : Nat → Nat, va_P D vwCl [(a0, .inr (1, [.ref (bz 0), .int 0, .int 0, .ref (bz 1)])), ((bz 0), .inl (cI, 60, .inl (fun _ => 0))), ((bz 1), .inr (3, [.int res.1, .int res.2.1, .int res.2.2.1, .int res.2.2.2.1, .ref (bz 2)])), ((bz 2), .inl (cI, 4, .inl res.2.2.2.2))] t.heap ∧ va_D (va_A [(a0, .inr (1, [.null, .int 0, .int 0, .null]))] sz) [(a0, .inr (1, [.ref (bz 0), .int 0, .int 0, .ref (bz 1)])), ((bz 0), .inl (cI, 60, .inl (fun _ => 0))), ((bz 1), .inr (3, [.int res.1, .int res.2.1, .int res.2.2.1, .int res.2.2.2.1, .ref (bz 2)])), ((bz 2), .inl (cI, 4, .inl res.2.2.2.2))]) (va_A [(a0, .inr (1, [.null, .int 0, .int 0, .null]))] sz)) 3 69 (va_A [(a0, .inr (1, [.null, .int 0, .int 0, .null]))] sz) := by
  refine Met.ofW (cc := cX1_init) (maxL := 1) (ret := none) (by decide) rfl ?_
  intro p e s m args below meth c s₁ B hml hv
  obtain ⟨rfl, hsz, hP, hD0, hKU⟩ := hv
  have hx := B.exec
  have hb := B.bytes
  have hr := B.returns
  have hts := atoms_spec (ws := wsX1_init) B.pre
  have hown : s.vm.findClass RX1 = some m.cls := findClass_of_methodNamed B.named
  have hlocks := B.notSynchronized
  have hK := hKU.1
  have hin : meth.name = "<init>" := (name_of_methodNamed B.named B.method).1
  have ho_l3 := hts (.methodLink RX1 3 objectInit) (by decide +kernel)
  have ho_i := hts (.instanceMethod objectInit) (by decide +kernel)
  have ho_c := hts (.code objectInit ⟨#[0xb1]⟩ 1 none) (by decide +kernel)
  have har_I := hts (.arrayClass .int) (by decide +kernel)
  have hf_9 := hts (.fieldLink RX1 9 "ThinnedPots$Pad" "signs" "[I") (by decide +kernel)
  have hi_X1 : ∀ w ∈ u_ws RX1 TX1 4, w ∈ wsX1_init := by decide +kernel
  have hf_15 := hts (.fieldLink RX1 15 "ThinnedPots$Pad" "length" "I") (by decide +kernel)
  have hf_19 := hts (.fieldLink RX1 19 "ThinnedPots$Pad" "place" "I") (by decide +kernel)
  have hcl_22 := hts (.classLink RX1 22 RX3) (by decide +kernel)
  have hins_X3 := hts (.instantiable RX3 5) (by decide +kernel)
  have hini_X3 := hts (.initialized RX3) (by decide +kernel)
  have hi_X3 : ∀ w ∈ u_ws RX3 TX3 5, w ∈ wsX1_init := by decide +kernel
  have hml_24 := hts (.methodLink RX1 24 yX3_init) (by decide +kernel)
  have him_X3_init := hts (.instanceMethod yX3_init) (by decide +kernel)
  have hf_25 := hts (.fieldLink RX1 25 "ThinnedPots$Pad" "work" "LThinnedPots$Work;") (by decide +kernel)
  subst hsz
  have hD := hD0.self (sz := s.heap.size)
  generalize hAe : va_A [(a0, .inr (1, [.null, .int 0, .int 0, .null]))] s.heap.size = A at hD ⊢
  have hA : ∀ q : Nat, s.heap.size ≤ q → A q := fun q h => by rw [← hAe]; exact Or.inr h
  have hP : va_P D vwCl [(a0, .inr (1, [.null, .int 0, .int 0, .null]))] s.heap := hP
  generalize hHe : s.heap = H at hP ⊢
  have hS : va_S A s.heap H [] := by rw [hHe]; exact va_S.rf
  have hl := lv_entry ([.ref a0]) (n := 1) (Nat.le_of_ble_eq_true rfl)
  rw [lg_entry_eq]
  generalize (lg_sl ([.ref a0]) ++ List.replicate (1 - (lg_sl ([.ref a0])).length) Slot.unset).toArray = ls at hl ⊢
  have hl : lv_has ls 1 [(0, .ref a0)] := hl
  unfold s_X1_init at hsp
  refine lv_aload_n hx hb dX1_init_0 rfl (lv_at hl 0 rfl) ?_
  refine W.objInit hx hb hown ho_l3 ho_i ho_c rfl (by rw [hml]; exact hl.1) rfl dX1_init_1 (Nat.le_of_ble_eq_true rfl) (Nat.le_of_ble_eq_true rfl) ?_
  refine W.eq (g2 := F0 m 4 ls []) rfl ?_
  refine lv_aload_n hx hb dX1_init_4 rfl (lv_at hl 0 rfl) ?_
  refine lv_bipush (v := 60) hx hb dX1_init_5 (by decide) ?_
  refine r_newaI (N' := 60) hx hb har_I hK hP hD hS hA (by decide) rfl (Nat.le_of_ble_eq_true rfl) (Nat.le_of_ble_eq_true rfl) (Nat.le_of_ble_eq_true rfl) dX1_init_7 (fun z1 H hP hD hS => ?_)
  have hP : va_P D vwCl [(a0, .inr (1, [.null, .int 0, .int 0, .null])), (z1, .inl (cI, 60, .inl (fun _ => 0)))] H := hP
  have hD : va_D A [(a0, .inr (1, [.null, .int 0, .int 0, .null])), (z1, .inl (cI, 60, .inl (fun _ => 0)))] := hD
  refine W.widen (k := 1) (n := 60) (Nat.le_of_ble_eq_true rfl) (Nat.le_of_ble_eq_true rfl) ?_
  refine va_putF (D := D) (ci := 1) (v := .ref z1) (ty := .array .int) (C := RX1) (T := TX1) (N := 4) hx hb hts hi_X1 tyX1 tyX1_ok nmX1 hown hK hP hD hS 0 rfl rfl 0 (by decide) hf_9 (fun _ h9 => h9) rfl hin rfl (by decide +kernel) rfl rfl (Nat.le_of_ble_eq_true rfl) dX1_init_9 (fun H locs hP hD hS => ?_)
  have hP : va_P D vwCl [(a0, .inr (1, [.ref z1, .int 0, .int 0, .null])), (z1, .inl (cI, 60, .inl (fun _ => 0)))] H := hP
  have hD : va_D A [(a0, .inr (1, [.ref z1, .int 0, .int 0, .null])), (z1, .inl (cI, 60, .inl (fun _ => 0)))] := hD
  refine lv_aload_n hx hb dX1_init_12 rfl (lv_at hl 0 rfl) ?_
  refine lv_iconst (v := 0) hx hb dX1_init_13 (by decide) ?_
  refine va_put (D := D) (ci := 1) (v := .int 0) (ty := .int) (C := RX1) (T := TX1) (N := 4) hx hb hts hi_X1 tyX1 tyX1_ok nmX1 hown hK hP hD hS 0 rfl rfl 1 (by decide) hf_15 (fun _ h9 => h9) rfl (by decide +kernel) rfl rfl (Nat.le_of_ble_eq_true rfl) dX1_init_14 (fun H locs hP hD hS => ?_)
  have hP : va_P D vwCl [(a0, .inr (1, [.ref z1, .int 0, .int 0, .null])), (z1, .inl (cI, 60, .inl (fun _ => 0)))] H := hP
  have hD : va_D A [(a0, .inr (1, [.ref z1, .int 0, .int 0, .null])), (z1, .inl (cI, 60, .inl (fun _ => 0)))] := hD
  refine lv_aload_n hx hb dX1_init_17 rfl (lv_at hl 0 rfl) ?_
  refine lv_iconst (v := 0) hx hb dX1_init_18 (by decide) ?_
  refine va_put (D := D) (ci := 1) (v := .int 0) (ty := .int) (C := RX1) (T := TX1) (N := 4) hx hb hts hi_X1 tyX1 tyX1_ok nmX1 hown hK hP hD hS 0 rfl rfl 2 (by decide) hf_19 (fun _ h9 => h9) rfl (by decide +kernel) rfl rfl (Nat.le_of_ble_eq_true rfl) dX1_init_19 (fun H locs hP hD hS => ?_)
  have hP : va_P D vwCl [(a0, .inr (1, [.ref z1, .int 0, .int 0, .null])), (z1, .inl (cI, 60, .inl (fun _ => 0)))] H := hP
  have hD : va_D A [(a0, .inr (1, [.ref z1, .int 0, .int 0, .null])), (z1, .inl (cI, 60, .inl (fun _ => 0)))] := hD
  refine lv_aload_n hx hb dX1_init_22 rfl (lv_at hl 0 rfl) ?_
  refine va_new (ci := 3) (fs := [.int 0, .int 0, .int 0, .int 0, .null]) (C := RX3) (T := TX3) (N := 5) hx hb hts hi_X3 tyX3 tyX3_ok hown hcl_22 hins_X3 hini_X3 hK hP hD hS hA rfl (fun j hj => by rcases (show j = 0 ∨ j = 1 ∨ j = 2 ∨ j = 3 ∨ j = 4 by omega) with rfl | rfl | rfl | rfl | rfl <;> rfl) (Nat.le_of_ble_eq_true rfl) (Nat.le_of_ble_eq_true rfl) dX1_init_23 (fun z2 H hP hD hS => ?_)
  have hP : va_P D vwCl [(a0, .inr (1, [.ref z1, .int 0, .int 0, .null])), (z1, .inl (cI, 60, .inl (fun _ => 0))), (z2, .inr (3, [.int 0, .int 0, .int 0, .int 0, .null]))] H := hP
  have hD : va_D A [(a0, .inr (1, [.ref z1, .int 0, .int 0, .null])), (z1, .inl (cI, 60, .inl (fun _ => 0))), (z2, .inr (3, [.int 0, .int 0, .int 0, .int 0, .null]))] := hD
  refine W.widen (k := 2) (n := 65) (Nat.le_of_ble_eq_true rfl) (Nat.le_of_ble_eq_true rfl) ?_
  refine lv_dup hx hb dX1_init_26 rfl ?_
  obtain ⟨r1, hcr1, hsp⟩ := clE hsp
  refine call_a (wr := [(a0, .inr (1, [.ref z1, .int 0, .int 0, .null])), (z1, .inl (cI, 60, .inl (fun _ => 0)))]) (w1 := fun (bz : Nat → Nat) => [(z2, .inr (3, [.int r1.1, .int r1.2.1, .int r1.2.2.1, .int r1.2.2.2.1, .ref (bz 0)])), ((bz 0), .inl (cI, 4, .inl r1.2.2.2.2))]) (va_runI (As := []) (rest := [.ref z2, .ref a0]) ⟨hx, hb, hml, hown, hts⟩ (k_X3_init l D cI cZ cC cS H.size z2 r1 hcr1) (cwI 0 hts gX1_init_X3_init rfl rfl rfl hini_X3 hml_24 him_X3_init rfl nd_X3_init.2 ⟨Nat.le_of_ble_eq_true rfl, Nat.le_of_ble_eq_true rfl⟩) (PB.preS hKU hP hD [2] rfl rfl) rfl rfl hl.1 rfl (lv_room (Nat.le_of_ble_eq_true rfl)) dX1_init_27 ⟨Nat.le_of_ble_eq_true rfl, Nat.le_of_ble_eq_true rfl⟩) hS hP hD hA [2] [0, 1] rfl rfl rfl (by decide) (fun b2 H locs hP hD hS => ?_)
  have hP : va_P D vwCl [(a0, .inr (1, [.ref z1, .int 0, .int 0, .null])), (z1, .inl (cI, 60, .inl (fun _ => 0))), (z2, .inr (3, [.int r1.1, .int r1.2.1, .int r1.2.2.1, .int r1.2.2.2.1, .ref (b2 0)])), ((b2 0), .inl (cI, 4, .inl r1.2.2.2.2))] H := hP
  have hD : va_D A [(a0, .inr (1, [.ref z1, .int 0, .int 0, .null])), (z1, .inl (cI, 60, .inl (fun _ => 0))), (z2, .inr (3, [.int r1.1, .int r1.2.1, .int r1.2.2.1, .int r1.2.2.2.1, .ref (b2 0)])), ((b2 0), .inl (cI, 4, .inl r1.2.2.2.2))] := hD
  refine W.widen (k := 3) (n := 69) (Nat.le_of_ble_eq_true rfl) (Nat.le_of_ble_eq_true rfl) ?_
  refine va_putF (D := D) (ci := 1) (v := .ref z2) (ty := .object "ThinnedPots$Work") (C := RX1) (T := TX1) (N := 4) hx hb hts hi_X1 tyX1 tyX1_ok nmX1 hown hK hP hD hS 0 rfl rfl 3 (by decide) hf_25 (fun _ h9 => h9) rfl hin rfl (by decide +kernel) rfl rfl (Nat.le_of_ble_eq_true rfl) dX1_init_30 (fun H locs hP hD hS => ?_)
  have hP : va_P D vwCl [(a0, .inr (1, [.ref z1, .int 0, .int 0, .ref z2])), (z1, .inl (cI, 60, .inl (fun _ => 0))), (z2, .inr (3, [.int r1.1, .int r1.2.1, .int r1.2.2.1, .int r1.2.2.2.1, .ref (b2 0)])), ((b2 0), .inl (cI, 4, .inl r1.2.2.2.2))] H := hP
  have hD : va_D A [(a0, .inr (1, [.ref z1, .int 0, .int 0, .ref z2])), (z1, .inl (cI, 60, .inl (fun _ => 0))), (z2, .inr (3, [.int r1.1, .int r1.2.1, .int r1.2.2.1, .int r1.2.2.2.1, .ref (b2 0)])), ((b2 0), .inl (cI, 4, .inl r1.2.2.2.2))] := hD
  have hres := Option.some.inj hsp
  subst hres
  exact W.vret hx hb hr (fun t ht hW => ⟨⟨(), rfl, trivial, (fun k => ([z1, z2, (b2 0)] : List Nat).getD k 0), P_at ht hP, hD⟩, hS.F ht⟩) hS.2.2 dX1_init_33

theorem nd_X1_length : yX1_length.cls = RX1 ∧ yX1_length.cls ≠ "java/lang/invoke/MethodHandle" ∧ yX1_length.cls ≠ "java/lang/invoke/VarHandle" ∧ (parseMethodDescriptor yX1_length.desc).map (fun d => d.parameters.length) = some 0 := by decide +kernel
set_option maxHeartbeats 8000000 in
set_option maxRecDepth 100000 in
theorem k_X1_length (l : Launch) (D : va_G) (cI cZ cC cS : ClassId) (sz : Nat) (a0 : Nat) (w0_0 : Value) (g0_1 : Int32) (w0_2 : Value) (w0_3 : Value) (res : Int32) (hsp : s_X1_length g0_1 = some res) : Met l yX1_length wsX1_length ({ frames := 0, cells := 0, slots := 0, locals := 0 }) (va_Pc [.ref a0] (PB D cI cZ cC cS [(a0, .inr (1, [w0_0, .int g0_1, w0_2, w0_3]))] sz)) (va_Qi (fun r (_ : Unit) => r = res) (fun _ t => va_P D vwCl [(a0, .inr (1, [w0_0, .int g0_1, w0_2, w0_3]))] t.heap) (va_A [(a0, .inr (1, [w0_0, .int g0_1, w0_2, w0_3]))] sz)) 0 0 (va_A [(a0, .inr (1, [w0_0, .int g0_1, w0_2, w0_3]))] sz) := by
  refine Met.ofW (cc := cX1_length) (maxL := 1) (ret := (some .int)) (by decide) rfl ?_
  intro p e s m args below meth c s₁ B hml hv
  obtain ⟨rfl, hsz, hP, hD0, hKU⟩ := hv
  have hx := B.exec
  have hb := B.bytes
  have hr := B.returns
  have hts := atoms_spec (ws := wsX1_length) B.pre
  have hown : s.vm.findClass RX1 = some m.cls := findClass_of_methodNamed B.named
  have hlocks := B.notSynchronized
  have hK := hKU.1
  have hf_15 := hts (.fieldLink RX1 15 "ThinnedPots$Pad" "length" "I") (by decide +kernel)
  have hi_X1 : ∀ w ∈ u_ws RX1 TX1 4, w ∈ wsX1_length := by decide +kernel
  subst hsz
  have hD := hD0.self (sz := s.heap.size)
  generalize hAe : va_A [(a0, .inr (1, [w0_0, .int g0_1, w0_2, w0_3]))] s.heap.size = A at hD ⊢
  have hA : ∀ q : Nat, s.heap.size ≤ q → A q := fun q h => by rw [← hAe]; exact Or.inr h
  have hP : va_P D vwCl [(a0, .inr (1, [w0_0, .int g0_1, w0_2, w0_3]))] s.heap := hP
  generalize hHe : s.heap = H at hP ⊢
  have hS : va_S A s.heap H [] := by rw [hHe]; exact va_S.rf
  have hl := lv_entry ([.ref a0]) (n := 1) (Nat.le_of_ble_eq_true rfl)
  rw [lg_entry_eq]
  generalize (lg_sl ([.ref a0]) ++ List.replicate (1 - (lg_sl ([.ref a0])).length) Slot.unset).toArray = ls at hl ⊢
  have hl : lv_has ls 1 [(0, .ref a0)] := hl
  unfold s_X1_length at hsp
  refine lv_aload_n hx hb dX1_length_0 rfl (lv_at hl 0 rfl) ?_
  refine va_get (D := D) (ci := 1) (v := .int g0_1) (C := RX1) (T := TX1) (N := 4) hx hb hts hi_X1 hown hK hP 0 rfl rfl 1 (by decide) hf_15 (fun _ h9 => h9) rfl dX1_length_1 ?_
  have hres := Option.some.inj hsp
  subst hres
  exact W.iret (v := g0_1) hx hb hr (fun t ht hW => ⟨⟨g0_1, (), rfl, rfl, P_at ht hP⟩, hS.F ht⟩) hS.2.2 dX1_length_4

theorem nd_X4_isBetween : yX4_isBetween.cls = RX4 ∧ yX4_isBetween.cls ≠ "java/lang/invoke/MethodHandle" ∧ yX4_isBetween.cls ≠ "java/lang/invoke/VarHandle" ∧ (parseMethodDescriptor yX4_isBetween.desc).map (fun d => d.parameters.length) = some 3 := by decide +kernel
set_option maxHeartbeats 8000000 in
set_option maxRecDepth 100000 in
theorem k_X4_isBetween (l : Launch) (D : va_G) (cI cZ cC cS : ClassId) (sz : Nat) (u0 : Int32) (u1 : Int32) (u2 : Int32) (res : Int32) (hsp : s_X4_isBetween u0 u1 u2 = some res) : Met l yX4_isBetween wsX4_isBetween ({ frames := 0, cells := 0, slots := 0, locals := 0 }) (va_Pc [.int u0, .int u1, .int u2] (PB D cI cZ cC cS [] sz)) (va_Qi (fun r (_ : Unit) => r = res ∧ (res = 0 ∨ res = 1)) (fun _ t => va_P D vwCl [] t.heap) (va_A [] sz)) 0 0 (va_A [] sz) := by
  refine Met.ofW (cc := cX4_isBetween) (maxL := 3) (ret := (some .boolean)) (by decide) rfl ?_
  intro p e s m args below meth c s₁ B hml hv
  obtain ⟨rfl, hsz, hP, hD0, hKU⟩ := hv
  have hx := B.exec
  have hb := B.bytes
  have hr := B.returns
  have hts := atoms_spec (ws := wsX4_isBetween) B.pre
  have hown : s.vm.findClass RX4 = some m.cls := findClass_of_methodNamed B.named
  have hlocks := B.notSynchronized
  have hK := hKU.1
  subst hsz
  have hD := hD0.self (sz := s.heap.size)
  generalize hAe : va_A [] s.heap.size = A at hD ⊢
  have hA : ∀ q : Nat, s.heap.size ≤ q → A q := fun q h => by rw [← hAe]; exact Or.inr h
  have hP : va_P D vwCl [] s.heap := hP
  generalize hHe : s.heap = H at hP ⊢
  have hS : va_S A s.heap H [] := by rw [hHe]; exact va_S.rf
  have hl := lv_entry ([.int u0, .int u1, .int u2]) (n := 3) (Nat.le_of_ble_eq_true rfl)
  rw [lg_entry_eq]
  generalize (lg_sl ([.int u0, .int u1, .int u2]) ++ List.replicate (3 - (lg_sl ([.int u0, .int u1, .int u2])).length) Slot.unset).toArray = ls at hl ⊢
  have hl : lv_has ls 3 [(0, .int u0), (1, .int u1), (2, .int u2)] := hl
  unfold s_X4_isBetween at hsp
  refine lv_iload_n hx hb dX4_isBetween_0 rfl (lv_at hl 0 rfl) ?_
  refine lv_iload_n hx hb dX4_isBetween_1 rfl (lv_at hl 1 rfl) ?_
  refine lv_icmp_lt (tgt := 14) hx hb dX4_isBetween_2 (by decide) (fun c1 => ?_) (fun c1 => ?_)
  · have hsp := itT hsp c1
    refine lv_iconst (v := 0) hx hb dX4_isBetween_14 (by decide) ?_
    have hres := Option.some.inj hsp
    subst hres
    exact W.zret (v := 0) hx hb hr (zE (Or.inl rfl)) (fun t ht hW => ⟨⟨0, (), rfl, ⟨rfl, (Or.inl rfl)⟩, P_at ht hP⟩, hS.F ht⟩) hS.2.2 dX4_isBetween_15
  have hsp := itF hsp c1
  refine lv_iload_n hx hb dX4_isBetween_5 rfl (lv_at hl 0 rfl) ?_
  refine lv_iload_n hx hb dX4_isBetween_6 rfl (lv_at hl 2 rfl) ?_
  refine lv_icmp_gt (tgt := 14) hx hb dX4_isBetween_7 (by decide) (fun c2 => ?_) (fun c2 => ?_)
  · have hsp := itT hsp c2
    refine lv_iconst (v := 0) hx hb dX4_isBetween_14 (by decide) ?_
    have hres := Option.some.inj hsp
    subst hres
    exact W.zret (v := 0) hx hb hr (zE (Or.inl rfl)) (fun t ht hW => ⟨⟨0, (), rfl, ⟨rfl, (Or.inl rfl)⟩, P_at ht hP⟩, hS.F ht⟩) hS.2.2 dX4_isBetween_15
  have hsp := itF hsp c2
  refine lv_iconst (v := 1) hx hb dX4_isBetween_10 (by decide) ?_
  refine lv_goto (tgt := 15) hx hb dX4_isBetween_11 (by decide) ?_
  have hres := Option.some.inj hsp
  subst hres
  exact W.zret (v := 1) hx hb hr (zE (Or.inr rfl)) (fun t ht hW => ⟨⟨1, (), rfl, ⟨rfl, (Or.inr rfl)⟩, P_at ht hP⟩, hS.F ht⟩) hS.2.2 dX4_isBetween_15

theorem nd_X2_aboutPaint : yX2_aboutPaint.cls = RX2 ∧ yX2_aboutPaint.cls ≠ "java/lang/invoke/MethodHandle" ∧ yX2_aboutPaint.cls ≠ "java/lang/invoke/VarHandle" ∧ (parseMethodDescriptor yX2_aboutPaint.desc).map (fun d => d.parameters.length) = some 2 := by decide +kernel
set_option maxHeartbeats 8000000 in
set_option maxRecDepth 100000 in
theorem k_X2_aboutPaint (l : Launch) (D : va_G) (cI cZ cC cS : ClassId) (sz : Nat) (a0 a2 : Nat) (w0_0 : Value) (w0_2 : Value) (w0_3 : Value) (w0_4 : Value) (w0_5 : Value) (w0_6 : Value) (w0_7 : Value) (w0_8 : Value) (w0_9 : Value) (w0_10 : Value) (w0_11 : Value) (f2 : Nat → Int32) (u1 : Int32) (u2 : Int32) (res : Int32) (hsp : s_X2_aboutPaint f2 u1 u2 = some res) : Met l yX2_aboutPaint wsX2_aboutPaint ({ frames := 2, cells := 0, slots := 0, locals := 44 }) (va_Pc [.ref a0, .int u1, .int u2] (PB D cI cZ cC cS [(a0, .inr (2, [w0_0, .ref a2, w0_2, w0_3, w0_4, w0_5, w0_6, w0_7, w0_8, w0_9, w0_10, w0_11])), (a2, .inl (cI, 36, .inl f2))] sz)) (va_Qi (fun r (_ : Unit) => r = res) (fun _ t => va_P D vwCl [(a0, .inr (2, [w0_0, .ref a2, w0_2, w0_3, w0_4, w0_5, w0_6, w0_7, w0_8, w0_9, w0_10, w0_11])), (a2, .inl (cI, 36, .inl f2))] t.heap) (va_A [(a0, .inr (2, [w0_0, .ref a2, w0_2, w0_3, w0_4, w0_5, w0_6, w0_7, w0_8, w0_9, w0_10, w0_11])), (a2, .inl (cI, 36, .inl f2))] sz)) 0 0 (va_A [(a0, .inr (2, [w0_0, .ref a2, w0_2, w0_3, w0_4, w0_5, w0_6, w0_7, w0_8, w0_9, w0_10, w0_11])), (a2, .inl (cI, 36, .inl f2))] sz) := by
  refine Met.ofW (cc := cX2_aboutPaint) (maxL := 3) (ret := (some .int)) (by decide) rfl ?_
  intro p e s m args below meth c s₁ B hml hv
  obtain ⟨rfl, hsz, hP, hD0, hKU⟩ := hv
  have hx := B.exec
  have hb := B.bytes
  have hr := B.returns
  have hts := atoms_spec (ws := wsX2_aboutPaint) B.pre
  have hown : s.vm.findClass RX2 = some m.cls := findClass_of_methodNamed B.named
  have hlocks := B.notSynchronized
  have hK := hKU.1
  have hst_X4_isBetween := hts (.static yX4_isBetween) (by decide +kernel)
  have hin_X4 := hts (.initialized RX4) (by decide +kernel)
  subst hsz
  have hD := hD0.self (sz := s.heap.size)
  generalize hAe : va_A [(a0, .inr (2, [w0_0, .ref a2, w0_2, w0_3, w0_4, w0_5, w0_6, w0_7, w0_8, w0_9, w0_10, w0_11])), (a2, .inl (cI, 36, .inl f2))] s.heap.size = A at hD ⊢
  have hA : ∀ q : Nat, s.heap.size ≤ q → A q := fun q h => by rw [← hAe]; exact Or.inr h
  have hP : va_P D vwCl [(a0, .inr (2, [w0_0, .ref a2, w0_2, w0_3, w0_4, w0_5, w0_6, w0_7, w0_8, w0_9, w0_10, w0_11])), (a2, .inl (cI, 36, .inl f2))] s.heap := hP
  generalize hHe : s.heap = H at hP ⊢
  have hS : va_S A s.heap H [] := by rw [hHe]; exact va_S.rf
  have hl := lv_entry ([.ref a0, .int u1, .int u2]) (n := 3) (Nat.le_of_ble_eq_true rfl)
  rw [lg_entry_eq]
  generalize (lg_sl ([.ref a0, .int u1, .int u2]) ++ List.replicate (3 - (lg_sl ([.ref a0, .int u1, .int u2])).length) Slot.unset).toArray = ls at hl ⊢
  have hl : lv_has ls 3 [(0, .ref a0), (1, .int u1), (2, .int u2)] := hl
  unfold s_X2_aboutPaint at hsp
  refine lv_iload_n hx hb dX2_aboutPaint_0 rfl (lv_at hl 2 rfl) ?_
  refine lv_iconst (v := 0) hx hb dX2_aboutPaint_1 (by decide) ?_
  refine lv_bipush (v := 7) hx hb dX2_aboutPaint_2 (by decide) ?_
  obtain ⟨r1, hcr1, hsp⟩ := clE hsp
  refine call_z (w1 := []) (ws' := [(a0, .inr (2, [w0_0, .ref a2, w0_2, w0_3, w0_4, w0_5, w0_6, w0_7, w0_8, w0_9, w0_10, w0_11])), (a2, .inl (cI, 36, .inl f2))]) (va_runSN (As := [.int u2, .int 0, .int 7]) (rest := []) ⟨hx, hb, hml, hown, hts⟩ (k_X4_isBetween l D cI cZ cC cS H.size u2 0 7 r1 hcr1) ⟨va_cnB 3 hts gX2_aboutPaint_X4_isBetween_n57 rfl rfl rfl (mn_Studio_57 hKU.2.2) hin_X4 nd_X4_isBetween.2 ⟨Nat.le_of_ble_eq_true rfl, Nat.le_of_ble_eq_true rfl⟩, hst_X4_isBetween, trivial⟩ (PB.preS hKU hP hD [] rfl rfl) rfl rfl hl.1 rfl (lv_room (Nat.le_of_ble_eq_true rfl)) dX2_aboutPaint_4 ⟨Nat.zero_le _, Nat.zero_le _⟩) hS hP hD hA [] rfl rfl (by first | (simp only [wset, List.set_cons_zero, List.set_cons_succ]; done) | rfl) rfl (fun H locs hP hD hS hzr1 => ?_)
  refine lv_if_ne (tgt := 13) hx hb dX2_aboutPaint_7 (by decide) (fun c2 => ?_) (fun c2 => ?_)
  · have hsp := itF hsp c2
    refine lv_iload_n hx hb dX2_aboutPaint_13 rfl (lv_at hl 2 rfl) ?_
    refine lv_iconst (v := 4) hx hb dX2_aboutPaint_14 (by decide) ?_
    refine lv_icmp_ge (tgt := 25) hx hb dX2_aboutPaint_15 (by decide) (fun c3 => ?_) (fun c3 => ?_)
    · have hsp := itT hsp c3
      refine lv_iload_n hx hb dX2_aboutPaint_25 rfl (lv_at hl 2 rfl) ?_
      refine lv_iconst (v := 4) hx hb dX2_aboutPaint_26 (by decide) ?_
      refine lv_icmp_ne (tgt := 36) hx hb dX2_aboutPaint_27 (by decide) (fun c4 => ?_) (fun c4 => ?_)
      · have hsp := itF hsp c4
        refine lv_aload_n hx hb dX2_aboutPaint_36 rfl (lv_at hl 0 rfl) ?_
        refine lv_iload_n hx hb dX2_aboutPaint_37 rfl (lv_at hl 1 rfl) ?_
        obtain ⟨r5, hcr5, hsp⟩ := clE hsp
        refine call_z (w1 := [(a0, .inr (2, [w0_0, .ref a2, w0_2, w0_3, w0_4, w0_5, w0_6, w0_7, w0_8, w0_9, w0_10, w0_11])), (a2, .inl (cI, 36, .inl f2))]) (ws' := [(a0, .inr (2, [w0_0, .ref a2, w0_2, w0_3, w0_4, w0_5, w0_6, w0_7, w0_8, w0_9, w0_10, w0_11])), (a2, .inl (cI, 36, .inl f2))]) (va_runV (As := [.int u1]) (rest := []) ⟨hx, hb, hml, hown, hts⟩ (k_X2_hasPaint l D cI cZ cC cS H.size a0 a2 (w0_0) (w0_2) (w0_3) (w0_4) (w0_5) (w0_6) (w0_7) (w0_8) (w0_9) (w0_10) (w0_11) f2 u1 r5 hcr5) (cwV 1 hts gX2_aboutPaint_X2_hasPaint rfl rfl rfl nd_X2_hasPaint ⟨Nat.le_of_ble_eq_true rfl, Nat.le_of_ble_eq_true rfl⟩) (PB.preV (ci := 2) (q0 := 0) hKU hP hD [0, 1] rfl rfl rfl rfl) rfl rfl hl.1 rfl (lv_room (Nat.le_of_ble_eq_true rfl)) dX2_aboutPaint_38 ⟨Nat.zero_le _, Nat.zero_le _⟩) hS hP hD hA [0, 1] rfl rfl (by first | (simp only [wset, List.set_cons_zero, List.set_cons_succ]; done) | rfl) rfl (fun H locs hP hD hS hzr5 => ?_)
        refine lv_if_eq (tgt := 55) hx hb dX2_aboutPaint_41 (by decide) (fun c6 => ?_) (fun c6 => ?_)
        · have hsp := itT hsp c6
          refine lv_bipush (v := (-6)) hx hb dX2_aboutPaint_55 (by decide) ?_
          have hres := Option.some.inj hsp
          subst hres
          exact W.iret (v := (-6)) hx hb hr (fun t ht hW => ⟨⟨(-6), (), rfl, rfl, P_at ht hP⟩, hS.F ht⟩) hS.2.2 dX2_aboutPaint_57
        have hsp := itF hsp c6
        refine lv_aload_n hx hb dX2_aboutPaint_44 rfl (lv_at hl 0 rfl) ?_
        refine lv_iload_n hx hb dX2_aboutPaint_45 rfl (lv_at hl 1 rfl) ?_
        refine lv_iload_n hx hb dX2_aboutPaint_46 rfl (lv_at hl 2 rfl) ?_
        refine lv_iconst (v := 5) hx hb dX2_aboutPaint_47 (by decide) ?_
        refine lv_isub hx hb dX2_aboutPaint_48 ?_
        obtain ⟨r7, hcr7, hsp⟩ := clE hsp
        refine call_i (w1 := [(a0, .inr (2, [w0_0, .ref a2, w0_2, w0_3, w0_4, w0_5, w0_6, w0_7, w0_8, w0_9, w0_10, w0_11])), (a2, .inl (cI, 36, .inl f2))]) (ws' := [(a0, .inr (2, [w0_0, .ref a2, w0_2, w0_3, w0_4, w0_5, w0_6, w0_7, w0_8, w0_9, w0_10, w0_11])), (a2, .inl (cI, 36, .inl f2))]) (va_runV (As := [.int u1, .int (u2 - 5)]) (rest := []) ⟨hx, hb, hml, hown, hts⟩ (k_X2_strength l D cI cZ cC cS H.size a0 a2 (w0_0) (w0_2) (w0_3) (w0_4) (w0_5) (w0_6) (w0_7) (w0_8) (w0_9) (w0_10) (w0_11) f2 u1 (u2 - 5) r7 hcr7) (cwV 2 hts gX2_aboutPaint_X2_strength rfl rfl rfl nd_X2_strength ⟨Nat.le_of_ble_eq_true rfl, Nat.le_of_ble_eq_true rfl⟩) (PB.preV (ci := 2) (q0 := 0) hKU hP hD [0, 1] rfl rfl rfl rfl) rfl rfl hl.1 rfl (lv_room (Nat.le_of_ble_eq_true rfl)) dX2_aboutPaint_49 ⟨Nat.zero_le _, Nat.zero_le _⟩) hS hP hD hA [0, 1] rfl rfl (by first | (simp only [wset, List.set_cons_zero, List.set_cons_succ]; done) | rfl) rfl (fun H locs hP hD hS => ?_)
        refine lv_goto (tgt := 57) hx hb dX2_aboutPaint_52 (by decide) ?_
        have hres := Option.some.inj hsp
        subst hres
        exact W.iret (v := r7) hx hb hr (fun t ht hW => ⟨⟨r7, (), rfl, rfl, P_at ht hP⟩, hS.F ht⟩) hS.2.2 dX2_aboutPaint_57
      have hsp := itT hsp c4
      refine lv_aload_n hx hb dX2_aboutPaint_30 rfl (lv_at hl 0 rfl) ?_
      refine lv_iload_n hx hb dX2_aboutPaint_31 rfl (lv_at hl 1 rfl) ?_
      obtain ⟨r8, hcr8, hsp⟩ := clE hsp
      refine call_i (w1 := [(a0, .inr (2, [w0_0, .ref a2, w0_2, w0_3, w0_4, w0_5, w0_6, w0_7, w0_8, w0_9, w0_10, w0_11])), (a2, .inl (cI, 36, .inl f2))]) (ws' := [(a0, .inr (2, [w0_0, .ref a2, w0_2, w0_3, w0_4, w0_5, w0_6, w0_7, w0_8, w0_9, w0_10, w0_11])), (a2, .inl (cI, 36, .inl f2))]) (va_runV (As := [.int u1]) (rest := []) ⟨hx, hb, hml, hown, hts⟩ (k_X2_allDrops l D cI cZ cC cS H.size a0 a2 (w0_0) (w0_2) (w0_3) (w0_4) (w0_5) (w0_6) (w0_7) (w0_8) (w0_9) (w0_10) (w0_11) f2 u1 r8 hcr8) (cwV 1 hts gX2_aboutPaint_X2_allDrops rfl rfl rfl nd_X2_allDrops ⟨Nat.le_of_ble_eq_true rfl, Nat.le_of_ble_eq_true rfl⟩) (PB.preV (ci := 2) (q0 := 0) hKU hP hD [0, 1] rfl rfl rfl rfl) rfl rfl hl.1 rfl (lv_room (Nat.le_of_ble_eq_true rfl)) dX2_aboutPaint_32 ⟨Nat.zero_le _, Nat.zero_le _⟩) hS hP hD hA [0, 1] rfl rfl (by first | (simp only [wset, List.set_cons_zero, List.set_cons_succ]; done) | rfl) rfl (fun H locs hP hD hS => ?_)
      have hres := Option.some.inj hsp
      subst hres
      exact W.iret (v := r8) hx hb hr (fun t ht hW => ⟨⟨r8, (), rfl, rfl, P_at ht hP⟩, hS.F ht⟩) hS.2.2 dX2_aboutPaint_35
    have hsp := itF hsp c3
    refine lv_aload_n hx hb dX2_aboutPaint_18 rfl (lv_at hl 0 rfl) ?_
    refine lv_iload_n hx hb dX2_aboutPaint_19 rfl (lv_at hl 1 rfl) ?_
    refine lv_iload_n hx hb dX2_aboutPaint_20 rfl (lv_at hl 2 rfl) ?_
    obtain ⟨r9, hcr9, hsp⟩ := clE hsp
    refine call_i (w1 := [(a0, .inr (2, [w0_0, .ref a2, w0_2, w0_3, w0_4, w0_5, w0_6, w0_7, w0_8, w0_9, w0_10, w0_11])), (a2, .inl (cI, 36, .inl f2))]) (ws' := [(a0, .inr (2, [w0_0, .ref a2, w0_2, w0_3, w0_4, w0_5, w0_6, w0_7, w0_8, w0_9, w0_10, w0_11])), (a2, .inl (cI, 36, .inl f2))]) (va_runV (As := [.int u1, .int u2]) (rest := []) ⟨hx, hb, hml, hown, hts⟩ (k_X2_dropsOf l D cI cZ cC cS H.size a0 a2 (w0_0) (w0_2) (w0_3) (w0_4) (w0_5) (w0_6) (w0_7) (w0_8) (w0_9) (w0_10) (w0_11) f2 u1 u2 r9 hcr9) (cwV 2 hts gX2_aboutPaint_X2_dropsOf rfl rfl rfl nd_X2_dropsOf ⟨Nat.le_of_ble_eq_true rfl, Nat.le_of_ble_eq_true rfl⟩) (PB.preV (ci := 2) (q0 := 0) hKU hP hD [0, 1] rfl rfl rfl rfl) rfl rfl hl.1 rfl (lv_room (Nat.le_of_ble_eq_true rfl)) dX2_aboutPaint_21 ⟨Nat.zero_le _, Nat.zero_le _⟩) hS hP hD hA [0, 1] rfl rfl (by first | (simp only [wset, List.set_cons_zero, List.set_cons_succ]; done) | rfl) rfl (fun H locs hP hD hS => ?_)
    have hres := Option.some.inj hsp
    subst hres
    exact W.iret (v := r9) hx hb hr (fun t ht hW => ⟨⟨r9, (), rfl, rfl, P_at ht hP⟩, hS.F ht⟩) hS.2.2 dX2_aboutPaint_24
  have hsp := itT hsp c2
  refine lv_bipush (v := (-2)) hx hb dX2_aboutPaint_10 (by decide) ?_
  have hres := Option.some.inj hsp
  subst hres
  exact W.iret (v := (-2)) hx hb hr (fun t ht hW => ⟨⟨(-2), (), rfl, rfl, P_at ht hP⟩, hS.F ht⟩) hS.2.2 dX2_aboutPaint_12

theorem nd_X2_isPainted : yX2_isPainted.cls = RX2 ∧ yX2_isPainted.cls ≠ "java/lang/invoke/MethodHandle" ∧ yX2_isPainted.cls ≠ "java/lang/invoke/VarHandle" ∧ (parseMethodDescriptor yX2_isPainted.desc).map (fun d => d.parameters.length) = some 1 := by decide +kernel
set_option maxHeartbeats 8000000 in
set_option maxRecDepth 100000 in
theorem k_X2_isPainted (l : Launch) (D : va_G) (cI cZ cC cS : ClassId) (sz : Nat) (a0 a6 : Nat) (w0_0 : Value) (w0_1 : Value) (w0_2 : Value) (w0_3 : Value) (w0_4 : Value) (w0_6 : Value) (w0_7 : Value) (w0_8 : Value) (w0_9 : Value) (w0_10 : Value) (w0_11 : Value) (f6 : Nat → Int32) (u1 : Int32) (res : Int32) (hsp : s_X2_isPainted f6 u1 = some res) : Met l yX2_isPainted wsX2_isPainted ({ frames := 1, cells := 0, slots := 0, locals := 21 }) (va_Pc [.ref a0, .int u1] (PB D cI cZ cC cS [(a0, .inr (2, [w0_0, w0_1, w0_2, w0_3, w0_4, .ref a6, w0_6, w0_7, w0_8, w0_9, w0_10, w0_11])), (a6, .inl (cI, 6, .inl f6))] sz)) (va_Qi (fun r (_ : Unit) => r = res ∧ (res = 0 ∨ res = 1)) (fun _ t => va_P D vwCl [(a0, .inr (2, [w0_0, w0_1, w0_2, w0_3, w0_4, .ref a6, w0_6, w0_7, w0_8, w0_9, w0_10, w0_11])), (a6, .inl (cI, 6, .inl f6))] t.heap) (va_A [(a0, .inr (2, [w0_0, w0_1, w0_2, w0_3, w0_4, .ref a6, w0_6, w0_7, w0_8, w0_9, w0_10, w0_11])), (a6, .inl (cI, 6, .inl f6))] sz)) 0 0 (va_A [(a0, .inr (2, [w0_0, w0_1, w0_2, w0_3, w0_4, .ref a6, w0_6, w0_7, w0_8, w0_9, w0_10, w0_11])), (a6, .inl (cI, 6, .inl f6))] sz) := by
  refine Met.ofW (cc := cX2_isPainted) (maxL := 2) (ret := (some .boolean)) (by decide) rfl ?_
  intro p e s m args below meth c s₁ B hml hv
  obtain ⟨rfl, hsz, hP, hD0, hKU⟩ := hv
  have hx := B.exec
  have hb := B.bytes
  have hr := B.returns
  have hts := atoms_spec (ws := wsX2_isPainted) B.pre
  have hown : s.vm.findClass RX2 = some m.cls := findClass_of_methodNamed B.named
  have hlocks := B.notSynchronized
  have hK := hKU.1
  have hf_31 := hts (.fieldLink RX2 31 "ThinnedPots$Studio" "strokes" "[I") (by decide +kernel)
  have hi_X2 : ∀ w ∈ u_ws RX2 TX2 12, w ∈ wsX2_isPainted := by decide +kernel
  have hst_X4_at := hts (.static yX4_at) (by decide +kernel)
  have hin_X4 := hts (.initialized RX4) (by decide +kernel)
  subst hsz
  have hD := hD0.self (sz := s.heap.size)
  generalize hAe : va_A [(a0, .inr (2, [w0_0, w0_1, w0_2, w0_3, w0_4, .ref a6, w0_6, w0_7, w0_8, w0_9, w0_10, w0_11])), (a6, .inl (cI, 6, .inl f6))] s.heap.size = A at hD ⊢
  have hA : ∀ q : Nat, s.heap.size ≤ q → A q := fun q h => by rw [← hAe]; exact Or.inr h
  have hP : va_P D vwCl [(a0, .inr (2, [w0_0, w0_1, w0_2, w0_3, w0_4, .ref a6, w0_6, w0_7, w0_8, w0_9, w0_10, w0_11])), (a6, .inl (cI, 6, .inl f6))] s.heap := hP
  generalize hHe : s.heap = H at hP ⊢
  have hS : va_S A s.heap H [] := by rw [hHe]; exact va_S.rf
  have hl := lv_entry ([.ref a0, .int u1]) (n := 2) (Nat.le_of_ble_eq_true rfl)
  rw [lg_entry_eq]
  generalize (lg_sl ([.ref a0, .int u1]) ++ List.replicate (2 - (lg_sl ([.ref a0, .int u1])).length) Slot.unset).toArray = ls at hl ⊢
  have hl : lv_has ls 2 [(0, .ref a0), (1, .int u1)] := hl
  unfold s_X2_isPainted at hsp
  refine lv_aload_n hx hb dX2_isPainted_0 rfl (lv_at hl 0 rfl) ?_
  refine va_get (D := D) (ci := 2) (v := .ref a6) (C := RX2) (T := TX2) (N := 12) hx hb hts hi_X2 hown hK hP 0 rfl rfl 5 (by decide) hf_31 (fun _ h9 => h9) rfl dX2_isPainted_1 ?_
  refine lv_iload_n hx hb dX2_isPainted_4 rfl (lv_at hl 1 rfl) ?_
  obtain ⟨r1, hcr1, hsp⟩ := clE hsp
  refine call_i (w1 := [(a6, .inl (cI, 6, .inl f6))]) (ws' := [(a0, .inr (2, [w0_0, w0_1, w0_2, w0_3, w0_4, .ref a6, w0_6, w0_7, w0_8, w0_9, w0_10, w0_11])), (a6, .inl (cI, 6, .inl f6))]) (va_runSN (As := [.ref a6, .int u1]) (rest := []) ⟨hx, hb, hml, hown, hts⟩ (k_X4_at l D cI cZ cC cS H.size a6 6 f6 u1 r1 hcr1) ⟨va_cnB 2 hts gX2_isPainted_X4_at_n61 rfl rfl rfl (mn_Studio_61 hKU.2.2) hin_X4 nd_X4_at.2 ⟨Nat.le_of_ble_eq_true rfl, Nat.le_of_ble_eq_true rfl⟩, hst_X4_at, trivial⟩ (PB.preS hKU hP hD [1] rfl rfl) rfl rfl hl.1 rfl (lv_room (Nat.le_of_ble_eq_true rfl)) dX2_isPainted_5 ⟨Nat.zero_le _, Nat.zero_le _⟩) hS hP hD hA [1] rfl rfl (by first | (simp only [wset, List.set_cons_zero, List.set_cons_succ]; done) | rfl) rfl (fun H locs hP hD hS => ?_)
  refine lv_if_le (tgt := 15) hx hb dX2_isPainted_8 (by decide) (fun c2 => ?_) (fun c2 => ?_)
  · have hsp := itT hsp c2
    refine lv_iconst (v := 0) hx hb dX2_isPainted_15 (by decide) ?_
    have hres := Option.some.inj hsp
    subst hres
    exact W.zret (v := 0) hx hb hr (zE (Or.inl rfl)) (fun t ht hW => ⟨⟨0, (), rfl, ⟨rfl, (Or.inl rfl)⟩, P_at ht hP⟩, hS.F ht⟩) hS.2.2 dX2_isPainted_16
  have hsp := itF hsp c2
  refine lv_iconst (v := 1) hx hb dX2_isPainted_11 (by decide) ?_
  refine lv_goto (tgt := 16) hx hb dX2_isPainted_12 (by decide) ?_
  have hres := Option.some.inj hsp
  subst hres
  exact W.zret (v := 1) hx hb hr (zE (Or.inr rfl)) (fun t ht hW => ⟨⟨1, (), rfl, ⟨rfl, (Or.inr rfl)⟩, P_at ht hP⟩, hS.F ht⟩) hS.2.2 dX2_isPainted_16

theorem nd_X2_distanceOfPanel : yX2_distanceOfPanel.cls = RX2 ∧ yX2_distanceOfPanel.cls ≠ "java/lang/invoke/MethodHandle" ∧ yX2_distanceOfPanel.cls ≠ "java/lang/invoke/VarHandle" ∧ (parseMethodDescriptor yX2_distanceOfPanel.desc).map (fun d => d.parameters.length) = some 1 := by decide +kernel
set_option maxHeartbeats 8000000 in
set_option maxRecDepth 100000 in
theorem k_X2_distanceOfPanel (l : Launch) (D : va_G) (cI cZ cC cS : ClassId) (sz : Nat) (a0 a4 a5 : Nat) (w0_0 : Value) (w0_1 : Value) (w0_2 : Value) (w0_5 : Value) (w0_6 : Value) (w0_7 : Value) (w0_8 : Value) (w0_9 : Value) (w0_10 : Value) (w0_11 : Value) (f4 : Nat → Int32) (f5 : Nat → Int32) (u1 : Int32) (res : Int32) (hsp : s_X2_distanceOfPanel f4 f5 u1 = some res) : Met l yX2_distanceOfPanel wsX2_distanceOfPanel ({ frames := 2, cells := 0, slots := 0, locals := 49 }) (va_Pc [.ref a0, .int u1] (PB D cI cZ cC cS [(a0, .inr (2, [w0_0, w0_1, w0_2, .ref a4, .ref a5, w0_5, w0_6, w0_7, w0_8, w0_9, w0_10, w0_11])), (a4, .inl (cI, 18, .inl f4)), (a5, .inl (cI, 18, .inl f5))] sz)) (va_Qi (fun r (_ : Unit) => r = res) (fun _ t => va_P D vwCl [(a0, .inr (2, [w0_0, w0_1, w0_2, .ref a4, .ref a5, w0_5, w0_6, w0_7, w0_8, w0_9, w0_10, w0_11])), (a4, .inl (cI, 18, .inl f4)), (a5, .inl (cI, 18, .inl f5))] t.heap) (va_A [(a0, .inr (2, [w0_0, w0_1, w0_2, .ref a4, .ref a5, w0_5, w0_6, w0_7, w0_8, w0_9, w0_10, w0_11])), (a4, .inl (cI, 18, .inl f4)), (a5, .inl (cI, 18, .inl f5))] sz)) 0 0 (va_A [(a0, .inr (2, [w0_0, w0_1, w0_2, .ref a4, .ref a5, w0_5, w0_6, w0_7, w0_8, w0_9, w0_10, w0_11])), (a4, .inl (cI, 18, .inl f4)), (a5, .inl (cI, 18, .inl f5))] sz) := by
  refine Met.ofW (cc := cX2_distanceOfPanel) (maxL := 3) (ret := (some .int)) (by decide) rfl ?_
  intro p e s m args below meth c s₁ B hml hv
  obtain ⟨rfl, hsz, hP, hD0, hKU⟩ := hv
  have hx := B.exec
  have hb := B.bytes
  have hr := B.returns
  have hts := atoms_spec (ws := wsX2_distanceOfPanel) B.pre
  have hown : s.vm.findClass RX2 = some m.cls := findClass_of_methodNamed B.named
  have hlocks := B.notSynchronized
  have hK := hKU.1
  have hf_28 := hts (.fieldLink RX2 28 "ThinnedPots$Studio" "painted" "[I") (by decide +kernel)
  have hi_X2 : ∀ w ∈ u_ws RX2 TX2 12, w ∈ wsX2_distanceOfPanel := by decide +kernel
  have hst_X4_at := hts (.static yX4_at) (by decide +kernel)
  have hin_X4 := hts (.initialized RX4) (by decide +kernel)
  subst hsz
  have hD := hD0.self (sz := s.heap.size)
  generalize hAe : va_A [(a0, .inr (2, [w0_0, w0_1, w0_2, .ref a4, .ref a5, w0_5, w0_6, w0_7, w0_8, w0_9, w0_10, w0_11])), (a4, .inl (cI, 18, .inl f4)), (a5, .inl (cI, 18, .inl f5))] s.heap.size = A at hD ⊢
  have hA : ∀ q : Nat, s.heap.size ≤ q → A q := fun q h => by rw [← hAe]; exact Or.inr h
  have hP : va_P D vwCl [(a0, .inr (2, [w0_0, w0_1, w0_2, .ref a4, .ref a5, w0_5, w0_6, w0_7, w0_8, w0_9, w0_10, w0_11])), (a4, .inl (cI, 18, .inl f4)), (a5, .inl (cI, 18, .inl f5))] s.heap := hP
  generalize hHe : s.heap = H at hP ⊢
  have hS : va_S A s.heap H [] := by rw [hHe]; exact va_S.rf
  have hl := lv_entry ([.ref a0, .int u1]) (n := 3) (Nat.le_of_ble_eq_true rfl)
  rw [lg_entry_eq]
  generalize (lg_sl ([.ref a0, .int u1]) ++ List.replicate (3 - (lg_sl ([.ref a0, .int u1])).length) Slot.unset).toArray = ls at hl ⊢
  have hl : lv_has ls 3 [(0, .ref a0), (1, .int u1)] := hl
  unfold s_X2_distanceOfPanel at hsp
  refine lv_iload_n hx hb dX2_distanceOfPanel_0 rfl (lv_at hl 1 rfl) ?_
  refine lv_iconst (v := 3) hx hb dX2_distanceOfPanel_1 (by decide) ?_
  refine lv_imul hx hb dX2_distanceOfPanel_2 ?_
  obtain ⟨x1, ex1, hsp⟩ := nmE hsp
  refine r_top ex1 ?_
  refine lv_istore_n (lv' := [(2, .int x1), (0, .ref a0), (1, .int u1)]) hx hb dX2_distanceOfPanel_3 rfl hl (by decide) rfl (fun ls hl => ?_)
  refine lv_aload_n hx hb dX2_distanceOfPanel_4 rfl (lv_at hl 1 rfl) ?_
  refine lv_iload_n hx hb dX2_distanceOfPanel_5 rfl (lv_at hl 2 rfl) ?_
  refine lv_aload_n hx hb dX2_distanceOfPanel_6 rfl (lv_at hl 1 rfl) ?_
  refine va_get (D := D) (ci := 2) (v := .ref a5) (C := RX2) (T := TX2) (N := 12) hx hb hts hi_X2 hown hK hP 0 rfl rfl 4 (by decide) hf_28 (fun _ h9 => h9) rfl dX2_distanceOfPanel_7 ?_
  refine lv_iload_n hx hb dX2_distanceOfPanel_10 rfl (lv_at hl 0 rfl) ?_
  obtain ⟨r2, hcr2, hsp⟩ := clE hsp
  refine call_i (w1 := [(a5, .inl (cI, 18, .inl f5))]) (ws' := [(a0, .inr (2, [w0_0, w0_1, w0_2, .ref a4, .ref a5, w0_5, w0_6, w0_7, w0_8, w0_9, w0_10, w0_11])), (a4, .inl (cI, 18, .inl f4)), (a5, .inl (cI, 18, .inl f5))]) (va_runSN (As := [.ref a5, .int x1]) (rest := [.int u1, .ref a0]) ⟨hx, hb, hml, hown, hts⟩ (k_X4_at l D cI cZ cC cS H.size a5 18 f5 x1 r2 hcr2) ⟨va_cnB 2 hts gX2_distanceOfPanel_X4_at_n61 rfl rfl rfl (mn_Studio_61 hKU.2.2) hin_X4 nd_X4_at.2 ⟨Nat.le_of_ble_eq_true rfl, Nat.le_of_ble_eq_true rfl⟩, hst_X4_at, trivial⟩ (PB.preS hKU hP hD [2] rfl rfl) rfl rfl hl.1 rfl (lv_room (Nat.le_of_ble_eq_true rfl)) dX2_distanceOfPanel_11 ⟨Nat.zero_le _, Nat.zero_le _⟩) hS hP hD hA [2] rfl rfl (by first | (simp only [wset, List.set_cons_zero, List.set_cons_succ]; done) | rfl) rfl (fun H locs hP hD hS => ?_)
  refine lv_aload_n hx hb dX2_distanceOfPanel_14 rfl (lv_at hl 1 rfl) ?_
  refine va_get (D := D) (ci := 2) (v := .ref a5) (C := RX2) (T := TX2) (N := 12) hx hb hts hi_X2 hown hK hP 0 rfl rfl 4 (by decide) hf_28 (fun _ h9 => h9) rfl dX2_distanceOfPanel_15 ?_
  refine lv_iload_n hx hb dX2_distanceOfPanel_18 rfl (lv_at hl 0 rfl) ?_
  refine lv_iconst (v := 1) hx hb dX2_distanceOfPanel_19 (by decide) ?_
  refine lv_iadd hx hb dX2_distanceOfPanel_20 ?_
  obtain ⟨r3, hcr3, hsp⟩ := clE hsp
  refine call_i (w1 := [(a5, .inl (cI, 18, .inl f5))]) (ws' := [(a0, .inr (2, [w0_0, w0_1, w0_2, .ref a4, .ref a5, w0_5, w0_6, w0_7, w0_8, w0_9, w0_10, w0_11])), (a4, .inl (cI, 18, .inl f4)), (a5, .inl (cI, 18, .inl f5))]) (va_runSN (As := [.ref a5, .int (x1 + 1)]) (rest := [.int r2, .int u1, .ref a0]) ⟨hx, hb, hml, hown, hts⟩ (k_X4_at l D cI cZ cC cS H.size a5 18 f5 (x1 + 1) r3 hcr3) ⟨va_cnB 2 hts gX2_distanceOfPanel_X4_at_n61 rfl rfl rfl (mn_Studio_61 hKU.2.2) hin_X4 nd_X4_at.2 ⟨Nat.le_of_ble_eq_true rfl, Nat.le_of_ble_eq_true rfl⟩, hst_X4_at, trivial⟩ (PB.preS hKU hP hD [2] rfl rfl) rfl rfl hl.1 rfl (lv_room (Nat.le_of_ble_eq_true rfl)) dX2_distanceOfPanel_21 ⟨Nat.zero_le _, Nat.zero_le _⟩) hS hP hD hA [2] rfl rfl (by first | (simp only [wset, List.set_cons_zero, List.set_cons_succ]; done) | rfl) rfl (fun H locs hP hD hS => ?_)
  refine lv_aload_n hx hb dX2_distanceOfPanel_24 rfl (lv_at hl 1 rfl) ?_
  refine va_get (D := D) (ci := 2) (v := .ref a5) (C := RX2) (T := TX2) (N := 12) hx hb hts hi_X2 hown hK hP 0 rfl rfl 4 (by decide) hf_28 (fun _ h9 => h9) rfl dX2_distanceOfPanel_25 ?_
  refine lv_iload_n hx hb dX2_distanceOfPanel_28 rfl (lv_at hl 0 rfl) ?_
  refine lv_iconst (v := 2) hx hb dX2_distanceOfPanel_29 (by decide) ?_
  refine lv_iadd hx hb dX2_distanceOfPanel_30 ?_
  obtain ⟨r4, hcr4, hsp⟩ := clE hsp
  refine call_i (w1 := [(a5, .inl (cI, 18, .inl f5))]) (ws' := [(a0, .inr (2, [w0_0, w0_1, w0_2, .ref a4, .ref a5, w0_5, w0_6, w0_7, w0_8, w0_9, w0_10, w0_11])), (a4, .inl (cI, 18, .inl f4)), (a5, .inl (cI, 18, .inl f5))]) (va_runSN (As := [.ref a5, .int (x1 + 2)]) (rest := [.int r3, .int r2, .int u1, .ref a0]) ⟨hx, hb, hml, hown, hts⟩ (k_X4_at l D cI cZ cC cS H.size a5 18 f5 (x1 + 2) r4 hcr4) ⟨va_cnB 2 hts gX2_distanceOfPanel_X4_at_n61 rfl rfl rfl (mn_Studio_61 hKU.2.2) hin_X4 nd_X4_at.2 ⟨Nat.le_of_ble_eq_true rfl, Nat.le_of_ble_eq_true rfl⟩, hst_X4_at, trivial⟩ (PB.preS hKU hP hD [2] rfl rfl) rfl rfl hl.1 rfl (lv_room (Nat.le_of_ble_eq_true rfl)) dX2_distanceOfPanel_31 ⟨Nat.zero_le _, Nat.zero_le _⟩) hS hP hD hA [2] rfl rfl (by first | (simp only [wset, List.set_cons_zero, List.set_cons_succ]; done) | rfl) rfl (fun H locs hP hD hS => ?_)
  obtain ⟨r5, hcr5, hsp⟩ := clE hsp
  refine call_i (w1 := [(a0, .inr (2, [w0_0, w0_1, w0_2, .ref a4, .ref a5, w0_5, w0_6, w0_7, w0_8, w0_9, w0_10, w0_11])), (a4, .inl (cI, 18, .inl f4))]) (ws' := [(a0, .inr (2, [w0_0, w0_1, w0_2, .ref a4, .ref a5, w0_5, w0_6, w0_7, w0_8, w0_9, w0_10, w0_11])), (a4, .inl (cI, 18, .inl f4)), (a5, .inl (cI, 18, .inl f5))]) (va_runV (As := [.int u1, .int r2, .int r3, .int r4]) (rest := []) ⟨hx, hb, hml, hown, hts⟩ (k_X2_distance l D cI cZ cC cS H.size a0 a4 (w0_0) (w0_1) (w0_2) (.ref a5) (w0_5) (w0_6) (w0_7) (w0_8) (w0_9) (w0_10) (w0_11) f4 u1 r2 r3 r4 r5 hcr5) (cwV 4 hts gX2_distanceOfPanel_X2_distance rfl rfl rfl nd_X2_distance ⟨Nat.le_of_ble_eq_true rfl, Nat.le_of_ble_eq_true rfl⟩) (PB.preV (ci := 2) (q0 := 0) hKU hP hD [0, 1] rfl rfl rfl rfl) rfl rfl hl.1 rfl (lv_room (Nat.le_of_ble_eq_true rfl)) dX2_distanceOfPanel_34 ⟨Nat.zero_le _, Nat.zero_le _⟩) hS hP hD hA [0, 1] rfl rfl (by first | (simp only [wset, List.set_cons_zero, List.set_cons_succ]; done) | rfl) rfl (fun H locs hP hD hS => ?_)
  have hres := Option.some.inj hsp
  subst hres
  exact W.iret (v := r5) hx hb hr (fun t ht hW => ⟨⟨r5, (), rfl, rfl, P_at ht hP⟩, hS.F ht⟩) hS.2.2 dX2_distanceOfPanel_37

theorem nd_X2_isWell : yX2_isWell.cls = RX2 ∧ yX2_isWell.cls ≠ "java/lang/invoke/MethodHandle" ∧ yX2_isWell.cls ≠ "java/lang/invoke/VarHandle" ∧ (parseMethodDescriptor yX2_isWell.desc).map (fun d => d.parameters.length) = some 1 := by decide +kernel
set_option maxHeartbeats 8000000 in
set_option maxRecDepth 100000 in
theorem k_X2_isWell (l : Launch) (D : va_G) (cI cZ cC cS : ClassId) (sz : Nat) (a0 a1 a4 a5 a6 : Nat) (w0_1 : Value) (w0_2 : Value) (w0_6 : Value) (w0_7 : Value) (w0_8 : Value) (w0_9 : Value) (w0_10 : Value) (w0_11 : Value) (f1 : Nat → Int32) (f4 : Nat → Int32) (f5 : Nat → Int32) (f6 : Nat → Int32) (u1 : Int32) (res : Int32) (hsp : s_X2_isWell f1 f4 f5 f6 u1 = some res) : Met l yX2_isWell wsX2_isWell ({ frames := 3, cells := 0, slots := 0, locals := 71 }) (va_Pc [.ref a0, .int u1] (PB D cI cZ cC cS [(a0, .inr (2, [.ref a1, w0_1, w0_2, .ref a4, .ref a5, .ref a6, w0_6, w0_7, w0_8, w0_9, w0_10, w0_11])), (a1, .inl (cI, 2, .inl f1)), (a4, .inl (cI, 18, .inl f4)), (a5, .inl (cI, 18, .inl f5)), (a6, .inl (cI, 6, .inl f6))] sz)) (va_Qi (fun r (_ : Unit) => r = res ∧ (res = 0 ∨ res = 1)) (fun _ t => va_P D vwCl [(a0, .inr (2, [.ref a1, w0_1, w0_2, .ref a4, .ref a5, .ref a6, w0_6, w0_7, w0_8, w0_9, w0_10, w0_11])), (a1, .inl (cI, 2, .inl f1)), (a4, .inl (cI, 18, .inl f4)), (a5, .inl (cI, 18, .inl f5)), (a6, .inl (cI, 6, .inl f6))] t.heap) (va_A [(a0, .inr (2, [.ref a1, w0_1, w0_2, .ref a4, .ref a5, .ref a6, w0_6, w0_7, w0_8, w0_9, w0_10, w0_11])), (a1, .inl (cI, 2, .inl f1)), (a4, .inl (cI, 18, .inl f4)), (a5, .inl (cI, 18, .inl f5)), (a6, .inl (cI, 6, .inl f6))] sz)) 0 0 (va_A [(a0, .inr (2, [.ref a1, w0_1, w0_2, .ref a4, .ref a5, .ref a6, w0_6, w0_7, w0_8, w0_9, w0_10, w0_11])), (a1, .inl (cI, 2, .inl f1)), (a4, .inl (cI, 18, .inl f4)), (a5, .inl (cI, 18, .inl f5)), (a6, .inl (cI, 6, .inl f6))] sz) := by
  refine Met.ofW (cc := cX2_isWell) (maxL := 2) (ret := (some .boolean)) (by decide) rfl ?_
  intro p e s m args below meth c s₁ B hml hv
  obtain ⟨rfl, hsz, hP, hD0, hKU⟩ := hv
  have hx := B.exec
  have hb := B.bytes
  have hr := B.returns
  have hts := atoms_spec (ws := wsX2_isWell) B.pre
  have hown : s.vm.findClass RX2 = some m.cls := findClass_of_methodNamed B.named
  have hlocks := B.notSynchronized
  have hK := hKU.1
  have hf_9 := hts (.fieldLink RX2 9 "ThinnedPots$Studio" "settings" "[I") (by decide +kernel)
  have hi_X2 : ∀ w ∈ u_ws RX2 TX2 12, w ∈ wsX2_isWell := by decide +kernel
  have hst_X4_at := hts (.static yX4_at) (by decide +kernel)
  have hin_X4 := hts (.initialized RX4) (by decide +kernel)
  subst hsz
  have hD := hD0.self (sz := s.heap.size)
  generalize hAe : va_A [(a0, .inr (2, [.ref a1, w0_1, w0_2, .ref a4, .ref a5, .ref a6, w0_6, w0_7, w0_8, w0_9, w0_10, w0_11])), (a1, .inl (cI, 2, .inl f1)), (a4, .inl (cI, 18, .inl f4)), (a5, .inl (cI, 18, .inl f5)), (a6, .inl (cI, 6, .inl f6))] s.heap.size = A at hD ⊢
  have hA : ∀ q : Nat, s.heap.size ≤ q → A q := fun q h => by rw [← hAe]; exact Or.inr h
  have hP : va_P D vwCl [(a0, .inr (2, [.ref a1, w0_1, w0_2, .ref a4, .ref a5, .ref a6, w0_6, w0_7, w0_8, w0_9, w0_10, w0_11])), (a1, .inl (cI, 2, .inl f1)), (a4, .inl (cI, 18, .inl f4)), (a5, .inl (cI, 18, .inl f5)), (a6, .inl (cI, 6, .inl f6))] s.heap := hP
  generalize hHe : s.heap = H at hP ⊢
  have hS : va_S A s.heap H [] := by rw [hHe]; exact va_S.rf
  have hl := lv_entry ([.ref a0, .int u1]) (n := 2) (Nat.le_of_ble_eq_true rfl)
  rw [lg_entry_eq]
  generalize (lg_sl ([.ref a0, .int u1]) ++ List.replicate (2 - (lg_sl ([.ref a0, .int u1])).length) Slot.unset).toArray = ls at hl ⊢
  have hl : lv_has ls 2 [(0, .ref a0), (1, .int u1)] := hl
  unfold s_X2_isWell at hsp
  refine lv_aload_n hx hb dX2_isWell_0 rfl (lv_at hl 0 rfl) ?_
  refine lv_iload_n hx hb dX2_isWell_1 rfl (lv_at hl 1 rfl) ?_
  obtain ⟨r1, hcr1, hsp⟩ := clE hsp
  refine call_z (w1 := [(a0, .inr (2, [.ref a1, w0_1, w0_2, .ref a4, .ref a5, .ref a6, w0_6, w0_7, w0_8, w0_9, w0_10, w0_11])), (a6, .inl (cI, 6, .inl f6))]) (ws' := [(a0, .inr (2, [.ref a1, w0_1, w0_2, .ref a4, .ref a5, .ref a6, w0_6, w0_7, w0_8, w0_9, w0_10, w0_11])), (a1, .inl (cI, 2, .inl f1)), (a4, .inl (cI, 18, .inl f4)), (a5, .inl (cI, 18, .inl f5)), (a6, .inl (cI, 6, .inl f6))]) (va_runV (As := [.int u1]) (rest := []) ⟨hx, hb, hml, hown, hts⟩ (k_X2_isPainted l D cI cZ cC cS H.size a0 a6 (.ref a1) (w0_1) (w0_2) (.ref a4) (.ref a5) (w0_6) (w0_7) (w0_8) (w0_9) (w0_10) (w0_11) f6 u1 r1 hcr1) (cwV 1 hts gX2_isWell_X2_isPainted rfl rfl rfl nd_X2_isPainted ⟨Nat.le_of_ble_eq_true rfl, Nat.le_of_ble_eq_true rfl⟩) (PB.preV (ci := 2) (q0 := 0) hKU hP hD [0, 4] rfl rfl rfl rfl) rfl rfl hl.1 rfl (lv_room (Nat.le_of_ble_eq_true rfl)) dX2_isWell_2 ⟨Nat.zero_le _, Nat.zero_le _⟩) hS hP hD hA [0, 4] rfl rfl (by first | (simp only [wset, List.set_cons_zero, List.set_cons_succ]; done) | rfl) rfl (fun H locs hP hD hS hzr1 => ?_)
  refine lv_if_eq (tgt := 28) hx hb dX2_isWell_5 (by decide) (fun c2 => ?_) (fun c2 => ?_)
  · have hsp := itT hsp c2
    refine lv_iconst (v := 0) hx hb dX2_isWell_28 (by decide) ?_
    have hres := Option.some.inj hsp
    subst hres
    exact W.zret (v := 0) hx hb hr (zE (Or.inl rfl)) (fun t ht hW => ⟨⟨0, (), rfl, ⟨rfl, (Or.inl rfl)⟩, P_at ht hP⟩, hS.F ht⟩) hS.2.2 dX2_isWell_29
  have hsp := itF hsp c2
  refine lv_aload_n hx hb dX2_isWell_8 rfl (lv_at hl 0 rfl) ?_
  refine lv_iload_n hx hb dX2_isWell_9 rfl (lv_at hl 1 rfl) ?_
  obtain ⟨r3, hcr3, hsp⟩ := clE hsp
  refine call_i (w1 := [(a0, .inr (2, [.ref a1, w0_1, w0_2, .ref a4, .ref a5, .ref a6, w0_6, w0_7, w0_8, w0_9, w0_10, w0_11])), (a4, .inl (cI, 18, .inl f4)), (a5, .inl (cI, 18, .inl f5))]) (ws' := [(a0, .inr (2, [.ref a1, w0_1, w0_2, .ref a4, .ref a5, .ref a6, w0_6, w0_7, w0_8, w0_9, w0_10, w0_11])), (a1, .inl (cI, 2, .inl f1)), (a4, .inl (cI, 18, .inl f4)), (a5, .inl (cI, 18, .inl f5)), (a6, .inl (cI, 6, .inl f6))]) (va_runV (As := [.int u1]) (rest := []) ⟨hx, hb, hml, hown, hts⟩ (k_X2_distanceOfPanel l D cI cZ cC cS H.size a0 a4 a5 (.ref a1) (w0_1) (w0_2) (.ref a6) (w0_6) (w0_7) (w0_8) (w0_9) (w0_10) (w0_11) f4 f5 u1 r3 hcr3) (cwV 1 hts gX2_isWell_X2_distanceOfPanel rfl rfl rfl nd_X2_distanceOfPanel ⟨Nat.le_of_ble_eq_true rfl, Nat.le_of_ble_eq_true rfl⟩) (PB.preV (ci := 2) (q0 := 0) hKU hP hD [0, 2, 3] rfl rfl rfl rfl) rfl rfl hl.1 rfl (lv_room (Nat.le_of_ble_eq_true rfl)) dX2_isWell_10 ⟨Nat.zero_le _, Nat.zero_le _⟩) hS hP hD hA [0, 2, 3] rfl rfl (by first | (simp only [wset, List.set_cons_zero, List.set_cons_succ]; done) | rfl) rfl (fun H locs hP hD hS => ?_)
  refine lv_aload_n hx hb dX2_isWell_13 rfl (lv_at hl 0 rfl) ?_
  refine va_get (D := D) (ci := 2) (v := .ref a1) (C := RX2) (T := TX2) (N := 12) hx hb hts hi_X2 hown hK hP 0 rfl rfl 0 (by decide) hf_9 (fun _ h9 => h9) rfl dX2_isWell_14 ?_
  refine lv_iconst (v := 1) hx hb dX2_isWell_17 (by decide) ?_
  obtain ⟨r4, hcr4, hsp⟩ := clE hsp
  refine call_i (w1 := [(a1, .inl (cI, 2, .inl f1))]) (ws' := [(a0, .inr (2, [.ref a1, w0_1, w0_2, .ref a4, .ref a5, .ref a6, w0_6, w0_7, w0_8, w0_9, w0_10, w0_11])), (a1, .inl (cI, 2, .inl f1)), (a4, .inl (cI, 18, .inl f4)), (a5, .inl (cI, 18, .inl f5)), (a6, .inl (cI, 6, .inl f6))]) (va_runSN (As := [.ref a1, .int 1]) (rest := [.int r3]) ⟨hx, hb, hml, hown, hts⟩ (k_X4_at l D cI cZ cC cS H.size a1 2 f1 1 r4 hcr4) ⟨va_cnB 2 hts gX2_isWell_X4_at_n61 rfl rfl rfl (mn_Studio_61 hKU.2.2) hin_X4 nd_X4_at.2 ⟨Nat.le_of_ble_eq_true rfl, Nat.le_of_ble_eq_true rfl⟩, hst_X4_at, trivial⟩ (PB.preS hKU hP hD [1] rfl rfl) rfl rfl hl.1 rfl (lv_room (Nat.le_of_ble_eq_true rfl)) dX2_isWell_18 ⟨Nat.zero_le _, Nat.zero_le _⟩) hS hP hD hA [1] rfl rfl (by first | (simp only [wset, List.set_cons_zero, List.set_cons_succ]; done) | rfl) rfl (fun H locs hP hD hS => ?_)
  refine lv_icmp_gt (tgt := 28) hx hb dX2_isWell_21 (by decide) (fun c5 => ?_) (fun c5 => ?_)
  · have hsp := itT hsp c5
    refine lv_iconst (v := 0) hx hb dX2_isWell_28 (by decide) ?_
    have hres := Option.some.inj hsp
    subst hres
    exact W.zret (v := 0) hx hb hr (zE (Or.inl rfl)) (fun t ht hW => ⟨⟨0, (), rfl, ⟨rfl, (Or.inl rfl)⟩, P_at ht hP⟩, hS.F ht⟩) hS.2.2 dX2_isWell_29
  have hsp := itF hsp c5
  refine lv_iconst (v := 1) hx hb dX2_isWell_24 (by decide) ?_
  refine lv_goto (tgt := 29) hx hb dX2_isWell_25 (by decide) ?_
  have hres := Option.some.inj hsp
  subst hres
  exact W.zret (v := 1) hx hb hr (zE (Or.inr rfl)) (fun t ht hW => ⟨⟨1, (), rfl, ⟨rfl, (Or.inr rfl)⟩, P_at ht hP⟩, hS.F ht⟩) hS.2.2 dX2_isWell_29

theorem nd_X2_aboutPanel : yX2_aboutPanel.cls = RX2 ∧ yX2_aboutPanel.cls ≠ "java/lang/invoke/MethodHandle" ∧ yX2_aboutPanel.cls ≠ "java/lang/invoke/VarHandle" ∧ (parseMethodDescriptor yX2_aboutPanel.desc).map (fun d => d.parameters.length) = some 2 := by decide +kernel
set_option maxHeartbeats 8000000 in
set_option maxRecDepth 100000 in
theorem k_X2_aboutPanel (l : Launch) (D : va_G) (cI cZ cC cS : ClassId) (sz : Nat) (a0 a1 a4 a5 a6 : Nat) (w0_1 : Value) (w0_2 : Value) (w0_6 : Value) (w0_7 : Value) (w0_8 : Value) (w0_9 : Value) (w0_10 : Value) (w0_11 : Value) (f1 : Nat → Int32) (f4 : Nat → Int32) (f5 : Nat → Int32) (f6 : Nat → Int32) (u1 : Int32) (u2 : Int32) (res : Int32) (hsp : s_X2_aboutPanel f1 f4 f5 f6 u1 u2 = some res) : Met l yX2_aboutPanel wsX2_aboutPanel ({ frames := 4, cells := 0, slots := 0, locals := 92 }) (va_Pc [.ref a0, .int u1, .int u2] (PB D cI cZ cC cS [(a0, .inr (2, [.ref a1, w0_1, w0_2, .ref a4, .ref a5, .ref a6, w0_6, w0_7, w0_8, w0_9, w0_10, w0_11])), (a1, .inl (cI, 2, .inl f1)), (a4, .inl (cI, 18, .inl f4)), (a5, .inl (cI, 18, .inl f5)), (a6, .inl (cI, 6, .inl f6))] sz)) (va_Qi (fun r (_ : Unit) => r = res) (fun _ t => va_P D vwCl [(a0, .inr (2, [.ref a1, w0_1, w0_2, .ref a4, .ref a5, .ref a6, w0_6, w0_7, w0_8, w0_9, w0_10, w0_11])), (a1, .inl (cI, 2, .inl f1)), (a4, .inl (cI, 18, .inl f4)), (a5, .inl (cI, 18, .inl f5)), (a6, .inl (cI, 6, .inl f6))] t.heap) (va_A [(a0, .inr (2, [.ref a1, w0_1, w0_2, .ref a4, .ref a5, .ref a6, w0_6, w0_7, w0_8, w0_9, w0_10, w0_11])), (a1, .inl (cI, 2, .inl f1)), (a4, .inl (cI, 18, .inl f4)), (a5, .inl (cI, 18, .inl f5)), (a6, .inl (cI, 6, .inl f6))] sz)) 0 0 (va_A [(a0, .inr (2, [.ref a1, w0_1, w0_2, .ref a4, .ref a5, .ref a6, w0_6, w0_7, w0_8, w0_9, w0_10, w0_11])), (a1, .inl (cI, 2, .inl f1)), (a4, .inl (cI, 18, .inl f4)), (a5, .inl (cI, 18, .inl f5)), (a6, .inl (cI, 6, .inl f6))] sz) := by
  refine Met.ofW (cc := cX2_aboutPanel) (maxL := 3) (ret := (some .int)) (by decide) rfl ?_
  intro p e s m args below meth c s₁ B hml hv
  obtain ⟨rfl, hsz, hP, hD0, hKU⟩ := hv
  have hx := B.exec
  have hb := B.bytes
  have hr := B.returns
  have hts := atoms_spec (ws := wsX2_aboutPanel) B.pre
  have hown : s.vm.findClass RX2 = some m.cls := findClass_of_methodNamed B.named
  have hlocks := B.notSynchronized
  have hK := hKU.1
  have hst_X4_isBetween := hts (.static yX4_isBetween) (by decide +kernel)
  have hin_X4 := hts (.initialized RX4) (by decide +kernel)
  have hf_28 := hts (.fieldLink RX2 28 "ThinnedPots$Studio" "painted" "[I") (by decide +kernel)
  have hi_X2 : ∀ w ∈ u_ws RX2 TX2 12, w ∈ wsX2_aboutPanel := by decide +kernel
  have hst_X4_at := hts (.static yX4_at) (by decide +kernel)
  have hf_31 := hts (.fieldLink RX2 31 "ThinnedPots$Studio" "strokes" "[I") (by decide +kernel)
  have hf_25 := hts (.fieldLink RX2 25 "ThinnedPots$Studio" "wanted" "[I") (by decide +kernel)
  subst hsz
  have hD := hD0.self (sz := s.heap.size)
  generalize hAe : va_A [(a0, .inr (2, [.ref a1, w0_1, w0_2, .ref a4, .ref a5, .ref a6, w0_6, w0_7, w0_8, w0_9, w0_10, w0_11])), (a1, .inl (cI, 2, .inl f1)), (a4, .inl (cI, 18, .inl f4)), (a5, .inl (cI, 18, .inl f5)), (a6, .inl (cI, 6, .inl f6))] s.heap.size = A at hD ⊢
  have hA : ∀ q : Nat, s.heap.size ≤ q → A q := fun q h => by rw [← hAe]; exact Or.inr h
  have hP : va_P D vwCl [(a0, .inr (2, [.ref a1, w0_1, w0_2, .ref a4, .ref a5, .ref a6, w0_6, w0_7, w0_8, w0_9, w0_10, w0_11])), (a1, .inl (cI, 2, .inl f1)), (a4, .inl (cI, 18, .inl f4)), (a5, .inl (cI, 18, .inl f5)), (a6, .inl (cI, 6, .inl f6))] s.heap := hP
  generalize hHe : s.heap = H at hP ⊢
  have hS : va_S A s.heap H [] := by rw [hHe]; exact va_S.rf
  have hl := lv_entry ([.ref a0, .int u1, .int u2]) (n := 3) (Nat.le_of_ble_eq_true rfl)
  rw [lg_entry_eq]
  generalize (lg_sl ([.ref a0, .int u1, .int u2]) ++ List.replicate (3 - (lg_sl ([.ref a0, .int u1, .int u2])).length) Slot.unset).toArray = ls at hl ⊢
  have hl : lv_has ls 3 [(0, .ref a0), (1, .int u1), (2, .int u2)] := hl
  unfold s_X2_aboutPanel at hsp
  refine lv_iload_n hx hb dX2_aboutPanel_0 rfl (lv_at hl 2 rfl) ?_
  refine lv_iconst (v := 0) hx hb dX2_aboutPanel_1 (by decide) ?_
  refine lv_bipush (v := 8) hx hb dX2_aboutPanel_2 (by decide) ?_
  obtain ⟨r1, hcr1, hsp⟩ := clE hsp
  refine call_z (w1 := []) (ws' := [(a0, .inr (2, [.ref a1, w0_1, w0_2, .ref a4, .ref a5, .ref a6, w0_6, w0_7, w0_8, w0_9, w0_10, w0_11])), (a1, .inl (cI, 2, .inl f1)), (a4, .inl (cI, 18, .inl f4)), (a5, .inl (cI, 18, .inl f5)), (a6, .inl (cI, 6, .inl f6))]) (va_runSN (As := [.int u2, .int 0, .int 8]) (rest := []) ⟨hx, hb, hml, hown, hts⟩ (k_X4_isBetween l D cI cZ cC cS H.size u2 0 8 r1 hcr1) ⟨va_cnB 3 hts gX2_aboutPanel_X4_isBetween_n57 rfl rfl rfl (mn_Studio_57 hKU.2.2) hin_X4 nd_X4_isBetween.2 ⟨Nat.le_of_ble_eq_true rfl, Nat.le_of_ble_eq_true rfl⟩, hst_X4_isBetween, trivial⟩ (PB.preS hKU hP hD [] rfl rfl) rfl rfl hl.1 rfl (lv_room (Nat.le_of_ble_eq_true rfl)) dX2_aboutPanel_4 ⟨Nat.zero_le _, Nat.zero_le _⟩) hS hP hD hA [] rfl rfl (by first | (simp only [wset, List.set_cons_zero, List.set_cons_succ]; done) | rfl) rfl (fun H locs hP hD hS hzr1 => ?_)
  refine lv_if_ne (tgt := 13) hx hb dX2_aboutPanel_7 (by decide) (fun c2 => ?_) (fun c2 => ?_)
  · have hsp := itF hsp c2
    refine lv_iload_n hx hb dX2_aboutPanel_13 rfl (lv_at hl 2 rfl) ?_
    refine lv_iconst (v := 3) hx hb dX2_aboutPanel_14 (by decide) ?_
    refine lv_icmp_ge (tgt := 31) hx hb dX2_aboutPanel_15 (by decide) (fun c3 => ?_) (fun c3 => ?_)
    · have hsp := itT hsp c3
      refine lv_iload_n hx hb dX2_aboutPanel_31 rfl (lv_at hl 2 rfl) ?_
      refine lv_bipush (v := 7) hx hb dX2_aboutPanel_32 (by decide) ?_
      refine lv_icmp_ne (tgt := 51) hx hb dX2_aboutPanel_34 (by decide) (fun c4 => ?_) (fun c4 => ?_)
      · have hsp := itF hsp c4
        refine lv_iload_n hx hb dX2_aboutPanel_51 rfl (lv_at hl 2 rfl) ?_
        refine lv_bipush (v := 8) hx hb dX2_aboutPanel_52 (by decide) ?_
        refine lv_icmp_ne (tgt := 66) hx hb dX2_aboutPanel_54 (by decide) (fun c5 => ?_) (fun c5 => ?_)
        · have hsp := itF hsp c5
          refine lv_aload_n hx hb dX2_aboutPanel_66 rfl (lv_at hl 0 rfl) ?_
          refine lv_iload_n hx hb dX2_aboutPanel_67 rfl (lv_at hl 1 rfl) ?_
          obtain ⟨r6, hcr6, hsp⟩ := clE hsp
          refine call_z (w1 := [(a0, .inr (2, [.ref a1, w0_1, w0_2, .ref a4, .ref a5, .ref a6, w0_6, w0_7, w0_8, w0_9, w0_10, w0_11])), (a6, .inl (cI, 6, .inl f6))]) (ws' := [(a0, .inr (2, [.ref a1, w0_1, w0_2, .ref a4, .ref a5, .ref a6, w0_6, w0_7, w0_8, w0_9, w0_10, w0_11])), (a1, .inl (cI, 2, .inl f1)), (a4, .inl (cI, 18, .inl f4)), (a5, .inl (cI, 18, .inl f5)), (a6, .inl (cI, 6, .inl f6))]) (va_runV (As := [.int u1]) (rest := []) ⟨hx, hb, hml, hown, hts⟩ (k_X2_isPainted l D cI cZ cC cS H.size a0 a6 (.ref a1) (w0_1) (w0_2) (.ref a4) (.ref a5) (w0_6) (w0_7) (w0_8) (w0_9) (w0_10) (w0_11) f6 u1 r6 hcr6) (cwV 1 hts gX2_aboutPanel_X2_isPainted rfl rfl rfl nd_X2_isPainted ⟨Nat.le_of_ble_eq_true rfl, Nat.le_of_ble_eq_true rfl⟩) (PB.preV (ci := 2) (q0 := 0) hKU hP hD [0, 4] rfl rfl rfl rfl) rfl rfl hl.1 rfl (lv_room (Nat.le_of_ble_eq_true rfl)) dX2_aboutPanel_68 ⟨Nat.zero_le _, Nat.zero_le _⟩) hS hP hD hA [0, 4] rfl rfl (by first | (simp only [wset, List.set_cons_zero, List.set_cons_succ]; done) | rfl) rfl (fun H locs hP hD hS hzr6 => ?_)
          refine lv_if_ne (tgt := 77) hx hb dX2_aboutPanel_71 (by decide) (fun c7 => ?_) (fun c7 => ?_)
          · have hsp := itF hsp c7
            refine lv_iload_n hx hb dX2_aboutPanel_77 rfl (lv_at hl 2 rfl) ?_
            refine lv_bipush (v := 6) hx hb dX2_aboutPanel_78 (by decide) ?_
            refine lv_icmp_ne (tgt := 91) hx hb dX2_aboutPanel_80 (by decide) (fun c8 => ?_) (fun c8 => ?_)
            · have hsp := itF hsp c8
              refine lv_aload_n hx hb dX2_aboutPanel_91 rfl (lv_at hl 0 rfl) ?_
              refine va_get (D := D) (ci := 2) (v := .ref a5) (C := RX2) (T := TX2) (N := 12) hx hb hts hi_X2 hown hK hP 0 rfl rfl 4 (by decide) hf_28 (fun _ h9 => h9) rfl dX2_aboutPanel_92 ?_
              refine lv_iload_n hx hb dX2_aboutPanel_95 rfl (lv_at hl 1 rfl) ?_
              refine lv_iconst (v := 3) hx hb dX2_aboutPanel_96 (by decide) ?_
              refine lv_imul hx hb dX2_aboutPanel_97 ?_
              refine lv_iload_n hx hb dX2_aboutPanel_98 rfl (lv_at hl 2 rfl) ?_
              refine lv_iadd hx hb dX2_aboutPanel_99 ?_
              refine lv_iconst (v := 3) hx hb dX2_aboutPanel_100 (by decide) ?_
              refine lv_isub hx hb dX2_aboutPanel_101 ?_
              obtain ⟨r9, hcr9, hsp⟩ := clE hsp
              refine call_i (w1 := [(a5, .inl (cI, 18, .inl f5))]) (ws' := [(a0, .inr (2, [.ref a1, w0_1, w0_2, .ref a4, .ref a5, .ref a6, w0_6, w0_7, w0_8, w0_9, w0_10, w0_11])), (a1, .inl (cI, 2, .inl f1)), (a4, .inl (cI, 18, .inl f4)), (a5, .inl (cI, 18, .inl f5)), (a6, .inl (cI, 6, .inl f6))]) (va_runSN (As := [.ref a5, .int (((u1 * 3) + u2) - 3)]) (rest := []) ⟨hx, hb, hml, hown, hts⟩ (k_X4_at l D cI cZ cC cS H.size a5 18 f5 (((u1 * 3) + u2) - 3) r9 hcr9) ⟨va_cnB 2 hts gX2_aboutPanel_X4_at_n61 rfl rfl rfl (mn_Studio_61 hKU.2.2) hin_X4 nd_X4_at.2 ⟨Nat.le_of_ble_eq_true rfl, Nat.le_of_ble_eq_true rfl⟩, hst_X4_at, trivial⟩ (PB.preS hKU hP hD [3] rfl rfl) rfl rfl hl.1 rfl (lv_room (Nat.le_of_ble_eq_true rfl)) dX2_aboutPanel_102 ⟨Nat.zero_le _, Nat.zero_le _⟩) hS hP hD hA [3] rfl rfl (by first | (simp only [wset, List.set_cons_zero, List.set_cons_succ]; done) | rfl) rfl (fun H locs hP hD hS => ?_)
              have hres := Option.some.inj hsp
              subst hres
              exact W.iret (v := r9) hx hb hr (fun t ht hW => ⟨⟨r9, (), rfl, rfl, P_at ht hP⟩, hS.F ht⟩) hS.2.2 dX2_aboutPanel_105
            have hsp := itT hsp c8
            refine lv_aload_n hx hb dX2_aboutPanel_83 rfl (lv_at hl 0 rfl) ?_
            refine lv_iload_n hx hb dX2_aboutPanel_84 rfl (lv_at hl 1 rfl) ?_
            obtain ⟨r10, hcr10, hsp⟩ := clE hsp
            refine call_i (w1 := [(a0, .inr (2, [.ref a1, w0_1, w0_2, .ref a4, .ref a5, .ref a6, w0_6, w0_7, w0_8, w0_9, w0_10, w0_11])), (a4, .inl (cI, 18, .inl f4)), (a5, .inl (cI, 18, .inl f5))]) (ws' := [(a0, .inr (2, [.ref a1, w0_1, w0_2, .ref a4, .ref a5, .ref a6, w0_6, w0_7, w0_8, w0_9, w0_10, w0_11])), (a1, .inl (cI, 2, .inl f1)), (a4, .inl (cI, 18, .inl f4)), (a5, .inl (cI, 18, .inl f5)), (a6, .inl (cI, 6, .inl f6))]) (va_runV (As := [.int u1]) (rest := []) ⟨hx, hb, hml, hown, hts⟩ (k_X2_distanceOfPanel l D cI cZ cC cS H.size a0 a4 a5 (.ref a1) (w0_1) (w0_2) (.ref a6) (w0_6) (w0_7) (w0_8) (w0_9) (w0_10) (w0_11) f4 f5 u1 r10 hcr10) (cwV 1 hts gX2_aboutPanel_X2_distanceOfPanel rfl rfl rfl nd_X2_distanceOfPanel ⟨Nat.le_of_ble_eq_true rfl, Nat.le_of_ble_eq_true rfl⟩) (PB.preV (ci := 2) (q0 := 0) hKU hP hD [0, 2, 3] rfl rfl rfl rfl) rfl rfl hl.1 rfl (lv_room (Nat.le_of_ble_eq_true rfl)) dX2_aboutPanel_85 ⟨Nat.zero_le _, Nat.zero_le _⟩) hS hP hD hA [0, 2, 3] rfl rfl (by first | (simp only [wset, List.set_cons_zero, List.set_cons_succ]; done) | rfl) rfl (fun H locs hP hD hS => ?_)
            refine lv_goto (tgt := 105) hx hb dX2_aboutPanel_88 (by decide) ?_
            have hres := Option.some.inj hsp
            subst hres
            exact W.iret (v := r10) hx hb hr (fun t ht hW => ⟨⟨r10, (), rfl, rfl, P_at ht hP⟩, hS.F ht⟩) hS.2.2 dX2_aboutPanel_105
          have hsp := itT hsp c7
          refine lv_bipush (v := (-6)) hx hb dX2_aboutPanel_74 (by decide) ?_
          have hres := Option.some.inj hsp
          subst hres
          exact W.iret (v := (-6)) hx hb hr (fun t ht hW => ⟨⟨(-6), (), rfl, rfl, P_at ht hP⟩, hS.F ht⟩) hS.2.2 dX2_aboutPanel_76
        have hsp := itT hsp c5
        refine lv_aload_n hx hb dX2_aboutPanel_57 rfl (lv_at hl 0 rfl) ?_
        refine va_get (D := D) (ci := 2) (v := .ref a6) (C := RX2) (T := TX2) (N := 12) hx hb hts hi_X2 hown hK hP 0 rfl rfl 5 (by decide) hf_31 (fun _ h9 => h9) rfl dX2_aboutPanel_58 ?_
        refine lv_iload_n hx hb dX2_aboutPanel_61 rfl (lv_at hl 1 rfl) ?_
        obtain ⟨r11, hcr11, hsp⟩ := clE hsp
        refine call_i (w1 := [(a6, .inl (cI, 6, .inl f6))]) (ws' := [(a0, .inr (2, [.ref a1, w0_1, w0_2, .ref a4, .ref a5, .ref a6, w0_6, w0_7, w0_8, w0_9, w0_10, w0_11])), (a1, .inl (cI, 2, .inl f1)), (a4, .inl (cI, 18, .inl f4)), (a5, .inl (cI, 18, .inl f5)), (a6, .inl (cI, 6, .inl f6))]) (va_runSN (As := [.ref a6, .int u1]) (rest := []) ⟨hx, hb, hml, hown, hts⟩ (k_X4_at l D cI cZ cC cS H.size a6 6 f6 u1 r11 hcr11) ⟨va_cnB 2 hts gX2_aboutPanel_X4_at_n61 rfl rfl rfl (mn_Studio_61 hKU.2.2) hin_X4 nd_X4_at.2 ⟨Nat.le_of_ble_eq_true rfl, Nat.le_of_ble_eq_true rfl⟩, hst_X4_at, trivial⟩ (PB.preS hKU hP hD [4] rfl rfl) rfl rfl hl.1 rfl (lv_room (Nat.le_of_ble_eq_true rfl)) dX2_aboutPanel_62 ⟨Nat.zero_le _, Nat.zero_le _⟩) hS hP hD hA [4] rfl rfl (by first | (simp only [wset, List.set_cons_zero, List.set_cons_succ]; done) | rfl) rfl (fun H locs hP hD hS => ?_)
        have hres := Option.some.inj hsp
        subst hres
        exact W.iret (v := r11) hx hb hr (fun t ht hW => ⟨⟨r11, (), rfl, rfl, P_at ht hP⟩, hS.F ht⟩) hS.2.2 dX2_aboutPanel_65
      have hsp := itT hsp c4
      refine lv_aload_n hx hb dX2_aboutPanel_37 rfl (lv_at hl 0 rfl) ?_
      refine lv_iload_n hx hb dX2_aboutPanel_38 rfl (lv_at hl 1 rfl) ?_
      obtain ⟨r12, hcr12, hsp⟩ := clE hsp
      refine call_z (w1 := [(a0, .inr (2, [.ref a1, w0_1, w0_2, .ref a4, .ref a5, .ref a6, w0_6, w0_7, w0_8, w0_9, w0_10, w0_11])), (a1, .inl (cI, 2, .inl f1)), (a4, .inl (cI, 18, .inl f4)), (a5, .inl (cI, 18, .inl f5)), (a6, .inl (cI, 6, .inl f6))]) (ws' := [(a0, .inr (2, [.ref a1, w0_1, w0_2, .ref a4, .ref a5, .ref a6, w0_6, w0_7, w0_8, w0_9, w0_10, w0_11])), (a1, .inl (cI, 2, .inl f1)), (a4, .inl (cI, 18, .inl f4)), (a5, .inl (cI, 18, .inl f5)), (a6, .inl (cI, 6, .inl f6))]) (va_runV (As := [.int u1]) (rest := []) ⟨hx, hb, hml, hown, hts⟩ (k_X2_isWell l D cI cZ cC cS H.size a0 a1 a4 a5 a6 (w0_1) (w0_2) (w0_6) (w0_7) (w0_8) (w0_9) (w0_10) (w0_11) f1 f4 f5 f6 u1 r12 hcr12) (cwV 1 hts gX2_aboutPanel_X2_isWell rfl rfl rfl nd_X2_isWell ⟨Nat.le_of_ble_eq_true rfl, Nat.le_of_ble_eq_true rfl⟩) (PB.preV (ci := 2) (q0 := 0) hKU hP hD [0, 1, 2, 3, 4] rfl rfl rfl rfl) rfl rfl hl.1 rfl (lv_room (Nat.le_of_ble_eq_true rfl)) dX2_aboutPanel_39 ⟨Nat.zero_le _, Nat.zero_le _⟩) hS hP hD hA [0, 1, 2, 3, 4] rfl rfl (by first | (simp only [wset, List.set_cons_zero, List.set_cons_succ]; done) | rfl) rfl (fun H locs hP hD hS hzr12 => ?_)
      refine lv_if_eq (tgt := 49) hx hb dX2_aboutPanel_42 (by decide) (fun c13 => ?_) (fun c13 => ?_)
      · have hsp := itT hsp c13
        refine lv_iconst (v := 0) hx hb dX2_aboutPanel_49 (by decide) ?_
        have hres := Option.some.inj hsp
        subst hres
        exact W.iret (v := 0) hx hb hr (fun t ht hW => ⟨⟨0, (), rfl, rfl, P_at ht hP⟩, hS.F ht⟩) hS.2.2 dX2_aboutPanel_50
      have hsp := itF hsp c13
      refine lv_iconst (v := 1) hx hb dX2_aboutPanel_45 (by decide) ?_
      refine lv_goto (tgt := 50) hx hb dX2_aboutPanel_46 (by decide) ?_
      have hres := Option.some.inj hsp
      subst hres
      exact W.iret (v := 1) hx hb hr (fun t ht hW => ⟨⟨1, (), rfl, rfl, P_at ht hP⟩, hS.F ht⟩) hS.2.2 dX2_aboutPanel_50
    have hsp := itF hsp c3
    refine lv_aload_n hx hb dX2_aboutPanel_18 rfl (lv_at hl 0 rfl) ?_
    refine va_get (D := D) (ci := 2) (v := .ref a4) (C := RX2) (T := TX2) (N := 12) hx hb hts hi_X2 hown hK hP 0 rfl rfl 3 (by decide) hf_25 (fun _ h9 => h9) rfl dX2_aboutPanel_19 ?_
    refine lv_iload_n hx hb dX2_aboutPanel_22 rfl (lv_at hl 1 rfl) ?_
    refine lv_iconst (v := 3) hx hb dX2_aboutPanel_23 (by decide) ?_
    refine lv_imul hx hb dX2_aboutPanel_24 ?_
    refine lv_iload_n hx hb dX2_aboutPanel_25 rfl (lv_at hl 2 rfl) ?_
    refine lv_iadd hx hb dX2_aboutPanel_26 ?_
    obtain ⟨r14, hcr14, hsp⟩ := clE hsp
    refine call_i (w1 := [(a4, .inl (cI, 18, .inl f4))]) (ws' := [(a0, .inr (2, [.ref a1, w0_1, w0_2, .ref a4, .ref a5, .ref a6, w0_6, w0_7, w0_8, w0_9, w0_10, w0_11])), (a1, .inl (cI, 2, .inl f1)), (a4, .inl (cI, 18, .inl f4)), (a5, .inl (cI, 18, .inl f5)), (a6, .inl (cI, 6, .inl f6))]) (va_runSN (As := [.ref a4, .int ((u1 * 3) + u2)]) (rest := []) ⟨hx, hb, hml, hown, hts⟩ (k_X4_at l D cI cZ cC cS H.size a4 18 f4 ((u1 * 3) + u2) r14 hcr14) ⟨va_cnB 2 hts gX2_aboutPanel_X4_at_n61 rfl rfl rfl (mn_Studio_61 hKU.2.2) hin_X4 nd_X4_at.2 ⟨Nat.le_of_ble_eq_true rfl, Nat.le_of_ble_eq_true rfl⟩, hst_X4_at, trivial⟩ (PB.preS hKU hP hD [2] rfl rfl) rfl rfl hl.1 rfl (lv_room (Nat.le_of_ble_eq_true rfl)) dX2_aboutPanel_27 ⟨Nat.zero_le _, Nat.zero_le _⟩) hS hP hD hA [2] rfl rfl (by first | (simp only [wset, List.set_cons_zero, List.set_cons_succ]; done) | rfl) rfl (fun H locs hP hD hS => ?_)
    have hres := Option.some.inj hsp
    subst hres
    exact W.iret (v := r14) hx hb hr (fun t ht hW => ⟨⟨r14, (), rfl, rfl, P_at ht hP⟩, hS.F ht⟩) hS.2.2 dX2_aboutPanel_30
  have hsp := itT hsp c2
  refine lv_bipush (v := (-2)) hx hb dX2_aboutPanel_10 (by decide) ?_
  have hres := Option.some.inj hsp
  subst hres
  exact W.iret (v := (-2)) hx hb hr (fun t ht hW => ⟨⟨(-2), (), rfl, rfl, P_at ht hP⟩, hS.F ht⟩) hS.2.2 dX2_aboutPanel_12

theorem nd_X2_dropsInPots : yX2_dropsInPots.cls = RX2 ∧ yX2_dropsInPots.cls ≠ "java/lang/invoke/MethodHandle" ∧ yX2_dropsInPots.cls ≠ "java/lang/invoke/VarHandle" ∧ (parseMethodDescriptor yX2_dropsInPots.desc).map (fun d => d.parameters.length) = some 0 := by decide +kernel
set_option maxHeartbeats 8000000 in
set_option maxRecDepth 100000 in
theorem k_X2_dropsInPots (l : Launch) (D : va_G) (cI cZ cC cS : ClassId) (sz : Nat) (a0 a2 : Nat) (w0_0 : Value) (w0_2 : Value) (w0_3 : Value) (w0_4 : Value) (w0_5 : Value) (w0_6 : Value) (w0_7 : Value) (w0_8 : Value) (w0_9 : Value) (w0_10 : Value) (w0_11 : Value) (f2 : Nat → Int32) (res : Int32) (hsp : s_X2_dropsInPots f2 = some res) : Met l yX2_dropsInPots wsX2_dropsInPots ({ frames := 1, cells := 0, slots := 0, locals := 22 }) (va_Pc [.ref a0] (PB D cI cZ cC cS [(a0, .inr (2, [w0_0, .ref a2, w0_2, w0_3, w0_4, w0_5, w0_6, w0_7, w0_8, w0_9, w0_10, w0_11])), (a2, .inl (cI, 36, .inl f2))] sz)) (va_Qi (fun r (_ : Unit) => r = res) (fun _ t => va_P D vwCl [(a0, .inr (2, [w0_0, .ref a2, w0_2, w0_3, w0_4, w0_5, w0_6, w0_7, w0_8, w0_9, w0_10, w0_11])), (a2, .inl (cI, 36, .inl f2))] t.heap) (va_A [(a0, .inr (2, [w0_0, .ref a2, w0_2, w0_3, w0_4, w0_5, w0_6, w0_7, w0_8, w0_9, w0_10, w0_11])), (a2, .inl (cI, 36, .inl f2))] sz)) 0 0 (va_A [(a0, .inr (2, [w0_0, .ref a2, w0_2, w0_3, w0_4, w0_5, w0_6, w0_7, w0_8, w0_9, w0_10, w0_11])), (a2, .inl (cI, 36, .inl f2))] sz) := by
  refine Met.ofW (cc := cX2_dropsInPots) (maxL := 3) (ret := (some .int)) (by decide) rfl ?_
  intro p e s m args below meth c s₁ B hml hv
  obtain ⟨rfl, hsz, hP, hD0, hKU⟩ := hv
  have hx := B.exec
  have hb := B.bytes
  have hr := B.returns
  have hts := atoms_spec (ws := wsX2_dropsInPots) B.pre
  have hown : s.vm.findClass RX2 = some m.cls := findClass_of_methodNamed B.named
  have hlocks := B.notSynchronized
  have hK := hKU.1
  subst hsz
  have hD := hD0.self (sz := s.heap.size)
  generalize hAe : va_A [(a0, .inr (2, [w0_0, .ref a2, w0_2, w0_3, w0_4, w0_5, w0_6, w0_7, w0_8, w0_9, w0_10, w0_11])), (a2, .inl (cI, 36, .inl f2))] s.heap.size = A at hD ⊢
  have hA : ∀ q : Nat, s.heap.size ≤ q → A q := fun q h => by rw [← hAe]; exact Or.inr h
  have hP : va_P D vwCl [(a0, .inr (2, [w0_0, .ref a2, w0_2, w0_3, w0_4, w0_5, w0_6, w0_7, w0_8, w0_9, w0_10, w0_11])), (a2, .inl (cI, 36, .inl f2))] s.heap := hP
  generalize hHe : s.heap = H at hP ⊢
  have hS : va_S A s.heap H [] := by rw [hHe]; exact va_S.rf
  have hl := lv_entry ([.ref a0]) (n := 3) (Nat.le_of_ble_eq_true rfl)
  rw [lg_entry_eq]
  generalize (lg_sl ([.ref a0]) ++ List.replicate (3 - (lg_sl ([.ref a0])).length) Slot.unset).toArray = ls at hl ⊢
  have hl : lv_has ls 3 [(0, .ref a0)] := hl
  unfold s_X2_dropsInPots at hsp
  refine lv_iconst (v := 0) hx hb dX2_dropsInPots_0 (by decide) ?_
  refine lv_istore_n (lv' := [(1, .int 0), (0, .ref a0)]) hx hb dX2_dropsInPots_1 rfl hl (by decide) rfl (fun ls hl => ?_)
  refine lv_iconst (v := 0) hx hb dX2_dropsInPots_2 (by decide) ?_
  refine lv_istore_n (lv' := [(2, .int 0), (1, .int 0), (0, .ref a0)]) hx hb dX2_dropsInPots_3 rfl hl (by decide) rfl (fun ls hl => ?_)
  refine ex_rule (D := D) (K := s_X2_dropsInPots_X1) (P := fun (t1 : Int32) => [(a0, .inr (2, [w0_0, .ref a2, w0_2, w0_3, w0_4, w0_5, w0_6, w0_7, w0_8, w0_9, w0_10, w0_11])), (a2, .inl (cI, 36, .inl f2))]) (L := fun (t1 : Int32) => [(1, .int t1)]) (nL := 3) (pcx := 24) (res := res) (A := A) (H0 := s.heap) ?_ (fun hx1 => ?_)
  · intro t1 H locs hsp hP hD hS ls hl
    obtain ⟨x3, rfl⟩ : ∃ z, z = t1 := ⟨_, rfl⟩
    unfold s_X2_dropsInPots_X1 at hsp; try dsimp only at hsp
    have hP : va_P D vwCl [(a0, .inr (2, [w0_0, .ref a2, w0_2, w0_3, w0_4, w0_5, w0_6, w0_7, w0_8, w0_9, w0_10, w0_11])), (a2, .inl (cI, 36, .inl f2))] H := hP
    have hD : va_D A [(a0, .inr (2, [w0_0, .ref a2, w0_2, w0_3, w0_4, w0_5, w0_6, w0_7, w0_8, w0_9, w0_10, w0_11])), (a2, .inl (cI, 36, .inl f2))] := hD
    have hl : lv_has ls 3 [(1, .int x3)] := hl
    refine lv_iload_n hx hb dX2_dropsInPots_24 rfl (lv_at hl 0 rfl) ?_
    have hres := Option.some.inj hsp
    subst hres
    exact W.iret (v := x3) hx hb hr (fun t ht hW => ⟨⟨x3, (), rfl, rfl, P_at ht hP⟩, hS.F ht⟩) hS.2.2 dX2_dropsInPots_25
  have hl := lv_sub hl (l' := [(0, .ref a0), (1, .int 0), (2, .int 0)]) [2, 1, 0] rfl
  refine lp_rule (D := D) (F := s_X2_dropsInPots_L1 f2 (s_X2_dropsInPots_X1)) (P := fun (tv : Int32 × Int32) => [(a0, .inr (2, [w0_0, .ref a2, w0_2, w0_3, w0_4, w0_5, w0_6, w0_7, w0_8, w0_9, w0_10, w0_11])), (a2, .inl (cI, 36, .inl f2))]) (L := fun (tv : Int32 × Int32) => [(0, .ref a0), (1, .int tv.1), (2, .int tv.2)]) (nL := 3) (res := res) (A := A) (H0 := s.heap) (fun _ => rfl) ?_ 1000 (0, 0) _ _ hsp hP hD hS _ hl
  · intro n1 ih1 tv H locs hsp hP hD hS ls hl
    obtain ⟨x1, x2⟩ := tv
    have hsp : s_X2_dropsInPots_B1  f2 (s_X2_dropsInPots_X1) (s_X2_dropsInPots_L1 f2 (s_X2_dropsInPots_X1) n1) x1 x2 = some res := hsp
    unfold s_X2_dropsInPots_B1 at hsp
    have hP : va_P D vwCl [(a0, .inr (2, [w0_0, .ref a2, w0_2, w0_3, w0_4, w0_5, w0_6, w0_7, w0_8, w0_9, w0_10, w0_11])), (a2, .inl (cI, 36, .inl f2))] H := hP
    have hD : va_D A [(a0, .inr (2, [w0_0, .ref a2, w0_2, w0_3, w0_4, w0_5, w0_6, w0_7, w0_8, w0_9, w0_10, w0_11])), (a2, .inl (cI, 36, .inl f2))] := hD
    have hl : lv_has ls 3 [(0, .ref a0), (1, .int x1), (2, .int x2)] := hl
    refine lv_iload_n hx hb dX2_dropsInPots_4 rfl (lv_at hl 2 rfl) ?_
    refine lv_bipush (v := 8) hx hb dX2_dropsInPots_5 (by decide) ?_
    refine lv_icmp_ge (tgt := 24) hx hb dX2_dropsInPots_7 (by decide) (fun c4 => ?_) (fun c4 => ?_)
    · have hsp := itT hsp c4
      exact hx1 x1 _ _ hsp hP hD hS _ (lv_sub hl [1] rfl)
    have hsp := itF hsp c4
    refine lv_iload_n hx hb dX2_dropsInPots_10 rfl (lv_at hl 1 rfl) ?_
    refine lv_aload_n hx hb dX2_dropsInPots_11 rfl (lv_at hl 0 rfl) ?_
    refine lv_iload_n hx hb dX2_dropsInPots_12 rfl (lv_at hl 2 rfl) ?_
    obtain ⟨r5, hcr5, hsp⟩ := clE hsp
    refine call_i (w1 := [(a0, .inr (2, [w0_0, .ref a2, w0_2, w0_3, w0_4, w0_5, w0_6, w0_7, w0_8, w0_9, w0_10, w0_11])), (a2, .inl (cI, 36, .inl f2))]) (ws' := [(a0, .inr (2, [w0_0, .ref a2, w0_2, w0_3, w0_4, w0_5, w0_6, w0_7, w0_8, w0_9, w0_10, w0_11])), (a2, .inl (cI, 36, .inl f2))]) (va_runV (As := [.int x2]) (rest := [.int x1]) ⟨hx, hb, hml, hown, hts⟩ (k_X2_allDrops l D cI cZ cC cS H.size a0 a2 (w0_0) (w0_2) (w0_3) (w0_4) (w0_5) (w0_6) (w0_7) (w0_8) (w0_9) (w0_10) (w0_11) f2 x2 r5 hcr5) (cwV 1 hts gX2_dropsInPots_X2_allDrops rfl rfl rfl nd_X2_allDrops ⟨Nat.le_of_ble_eq_true rfl, Nat.le_of_ble_eq_true rfl⟩) (PB.preV (ci := 2) (q0 := 0) hKU hP hD [0, 1] rfl rfl rfl rfl) rfl rfl hl.1 rfl (lv_room (Nat.le_of_ble_eq_true rfl)) dX2_dropsInPots_13 ⟨Nat.zero_le _, Nat.zero_le _⟩) hS hP hD hA [0, 1] rfl rfl (by first | (simp only [wset, List.set_cons_zero, List.set_cons_succ]; done) | rfl) rfl (fun H locs hP hD hS => ?_)
    refine lv_iadd hx hb dX2_dropsInPots_16 ?_
    obtain ⟨x6, ex6, hsp⟩ := nmE hsp
    refine r_top ex6 ?_
    refine lv_istore_n (lv' := [(1, .int x6), (0, .ref a0), (2, .int x2)]) hx hb dX2_dropsInPots_17 rfl hl (by decide) rfl (fun ls hl => ?_)
    obtain ⟨x7, ex7, hsp⟩ := nmE hsp
    refine lv_iinc (k := 2) (v := x7) (lv' := [(2, .int x7), (1, .int x6), (0, .ref a0)]) hx hb dX2_dropsInPots_18 hl rfl (by rw [ex7]; rfl) (by decide) rfl (fun ls hl => ?_)
    refine lv_goto (tgt := 4) hx hb dX2_dropsInPots_21 (by decide) ?_
    exact ih1 (x6, x7) _ _ hsp hP hD hS _ (lv_sub hl [2, 1, 0] rfl)

theorem nd_X2_panelsPainted : yX2_panelsPainted.cls = RX2 ∧ yX2_panelsPainted.cls ≠ "java/lang/invoke/MethodHandle" ∧ yX2_panelsPainted.cls ≠ "java/lang/invoke/VarHandle" ∧ (parseMethodDescriptor yX2_panelsPainted.desc).map (fun d => d.parameters.length) = some 0 := by decide +kernel
set_option maxHeartbeats 8000000 in
set_option maxRecDepth 100000 in
theorem k_X2_panelsPainted (l : Launch) (D : va_G) (cI cZ cC cS : ClassId) (sz : Nat) (a0 a6 : Nat) (w0_0 : Value) (w0_1 : Value) (w0_2 : Value) (w0_3 : Value) (w0_4 : Value) (w0_6 : Value) (w0_7 : Value) (w0_8 : Value) (w0_9 : Value) (w0_10 : Value) (w0_11 : Value) (f6 : Nat → Int32) (res : Int32) (hsp : s_X2_panelsPainted f6 = some res) : Met l yX2_panelsPainted wsX2_panelsPainted ({ frames := 2, cells := 0, slots := 0, locals := 42 }) (va_Pc [.ref a0] (PB D cI cZ cC cS [(a0, .inr (2, [w0_0, w0_1, w0_2, w0_3, w0_4, .ref a6, w0_6, w0_7, w0_8, w0_9, w0_10, w0_11])), (a6, .inl (cI, 6, .inl f6))] sz)) (va_Qi (fun r (_ : Unit) => r = res) (fun _ t => va_P D vwCl [(a0, .inr (2, [w0_0, w0_1, w0_2, w0_3, w0_4, .ref a6, w0_6, w0_7, w0_8, w0_9, w0_10, w0_11])), (a6, .inl (cI, 6, .inl f6))] t.heap) (va_A [(a0, .inr (2, [w0_0, w0_1, w0_2, w0_3, w0_4, .ref a6, w0_6, w0_7, w0_8, w0_9, w0_10, w0_11])), (a6, .inl (cI, 6, .inl f6))] sz)) 0 0 (va_A [(a0, .inr (2, [w0_0, w0_1, w0_2, w0_3, w0_4, .ref a6, w0_6, w0_7, w0_8, w0_9, w0_10, w0_11])), (a6, .inl (cI, 6, .inl f6))] sz) := by
  refine Met.ofW (cc := cX2_panelsPainted) (maxL := 3) (ret := (some .int)) (by decide) rfl ?_
  intro p e s m args below meth c s₁ B hml hv
  obtain ⟨rfl, hsz, hP, hD0, hKU⟩ := hv
  have hx := B.exec
  have hb := B.bytes
  have hr := B.returns
  have hts := atoms_spec (ws := wsX2_panelsPainted) B.pre
  have hown : s.vm.findClass RX2 = some m.cls := findClass_of_methodNamed B.named
  have hlocks := B.notSynchronized
  have hK := hKU.1
  subst hsz
  have hD := hD0.self (sz := s.heap.size)
  generalize hAe : va_A [(a0, .inr (2, [w0_0, w0_1, w0_2, w0_3, w0_4, .ref a6, w0_6, w0_7, w0_8, w0_9, w0_10, w0_11])), (a6, .inl (cI, 6, .inl f6))] s.heap.size = A at hD ⊢
  have hA : ∀ q : Nat, s.heap.size ≤ q → A q := fun q h => by rw [← hAe]; exact Or.inr h
  have hP : va_P D vwCl [(a0, .inr (2, [w0_0, w0_1, w0_2, w0_3, w0_4, .ref a6, w0_6, w0_7, w0_8, w0_9, w0_10, w0_11])), (a6, .inl (cI, 6, .inl f6))] s.heap := hP
  generalize hHe : s.heap = H at hP ⊢
  have hS : va_S A s.heap H [] := by rw [hHe]; exact va_S.rf
  have hl := lv_entry ([.ref a0]) (n := 3) (Nat.le_of_ble_eq_true rfl)
  rw [lg_entry_eq]
  generalize (lg_sl ([.ref a0]) ++ List.replicate (3 - (lg_sl ([.ref a0])).length) Slot.unset).toArray = ls at hl ⊢
  have hl : lv_has ls 3 [(0, .ref a0)] := hl
  unfold s_X2_panelsPainted at hsp
  refine lv_iconst (v := 0) hx hb dX2_panelsPainted_0 (by decide) ?_
  refine lv_istore_n (lv' := [(1, .int 0), (0, .ref a0)]) hx hb dX2_panelsPainted_1 rfl hl (by decide) rfl (fun ls hl => ?_)
  refine lv_iconst (v := 0) hx hb dX2_panelsPainted_2 (by decide) ?_
  refine lv_istore_n (lv' := [(2, .int 0), (1, .int 0), (0, .ref a0)]) hx hb dX2_panelsPainted_3 rfl hl (by decide) rfl (fun ls hl => ?_)
  refine ex_rule (D := D) (K := s_X2_panelsPainted_X1) (P := fun (t1 : Int32) => [(a0, .inr (2, [w0_0, w0_1, w0_2, w0_3, w0_4, .ref a6, w0_6, w0_7, w0_8, w0_9, w0_10, w0_11])), (a6, .inl (cI, 6, .inl f6))]) (L := fun (t1 : Int32) => [(1, .int t1)]) (nL := 3) (pcx := 32) (res := res) (A := A) (H0 := s.heap) ?_ (fun hx1 => ?_)
  · intro t1 H locs hsp hP hD hS ls hl
    obtain ⟨x3, rfl⟩ : ∃ z, z = t1 := ⟨_, rfl⟩
    unfold s_X2_panelsPainted_X1 at hsp; try dsimp only at hsp
    have hP : va_P D vwCl [(a0, .inr (2, [w0_0, w0_1, w0_2, w0_3, w0_4, .ref a6, w0_6, w0_7, w0_8, w0_9, w0_10, w0_11])), (a6, .inl (cI, 6, .inl f6))] H := hP
    have hD : va_D A [(a0, .inr (2, [w0_0, w0_1, w0_2, w0_3, w0_4, .ref a6, w0_6, w0_7, w0_8, w0_9, w0_10, w0_11])), (a6, .inl (cI, 6, .inl f6))] := hD
    have hl : lv_has ls 3 [(1, .int x3)] := hl
    refine lv_iload_n hx hb dX2_panelsPainted_32 rfl (lv_at hl 0 rfl) ?_
    have hres := Option.some.inj hsp
    subst hres
    exact W.iret (v := x3) hx hb hr (fun t ht hW => ⟨⟨x3, (), rfl, rfl, P_at ht hP⟩, hS.F ht⟩) hS.2.2 dX2_panelsPainted_33
  have hl := lv_sub hl (l' := [(0, .ref a0), (1, .int 0), (2, .int 0)]) [2, 1, 0] rfl
  refine lp_rule (D := D) (F := s_X2_panelsPainted_L1 f6 (s_X2_panelsPainted_X1)) (P := fun (tv : Int32 × Int32) => [(a0, .inr (2, [w0_0, w0_1, w0_2, w0_3, w0_4, .ref a6, w0_6, w0_7, w0_8, w0_9, w0_10, w0_11])), (a6, .inl (cI, 6, .inl f6))]) (L := fun (tv : Int32 × Int32) => [(0, .ref a0), (1, .int tv.1), (2, .int tv.2)]) (nL := 3) (res := res) (A := A) (H0 := s.heap) (fun _ => rfl) ?_ 1000 (0, 0) _ _ hsp hP hD hS _ hl
  · intro n1 ih1 tv H locs hsp hP hD hS ls hl
    obtain ⟨x1, x2⟩ := tv
    have hsp : s_X2_panelsPainted_B1  f6 (s_X2_panelsPainted_X1) (s_X2_panelsPainted_L1 f6 (s_X2_panelsPainted_X1) n1) x1 x2 = some res := hsp
    unfold s_X2_panelsPainted_B1 at hsp
    have hP : va_P D vwCl [(a0, .inr (2, [w0_0, w0_1, w0_2, w0_3, w0_4, .ref a6, w0_6, w0_7, w0_8, w0_9, w0_10, w0_11])), (a6, .inl (cI, 6, .inl f6))] H := hP
    have hD : va_D A [(a0, .inr (2, [w0_0, w0_1, w0_2, w0_3, w0_4, .ref a6, w0_6, w0_7, w0_8, w0_9, w0_10, w0_11])), (a6, .inl (cI, 6, .inl f6))] := hD
    have hl : lv_has ls 3 [(0, .ref a0), (1, .int x1), (2, .int x2)] := hl
    refine lv_iload_n hx hb dX2_panelsPainted_4 rfl (lv_at hl 2 rfl) ?_
    refine lv_bipush (v := 6) hx hb dX2_panelsPainted_5 (by decide) ?_
    refine lv_icmp_ge (tgt := 32) hx hb dX2_panelsPainted_7 (by decide) (fun c4 => ?_) (fun c4 => ?_)
    · have hsp := itT hsp c4
      exact hx1 x1 _ _ hsp hP hD hS _ (lv_sub hl [1] rfl)
    have hsp := itF hsp c4
    refine lv_iload_n hx hb dX2_panelsPainted_10 rfl (lv_at hl 1 rfl) ?_
    refine lv_aload_n hx hb dX2_panelsPainted_11 rfl (lv_at hl 0 rfl) ?_
    refine lv_iload_n hx hb dX2_panelsPainted_12 rfl (lv_at hl 2 rfl) ?_
    obtain ⟨r5, hcr5, hsp⟩ := clE hsp
    refine call_z (w1 := [(a0, .inr (2, [w0_0, w0_1, w0_2, w0_3, w0_4, .ref a6, w0_6, w0_7, w0_8, w0_9, w0_10, w0_11])), (a6, .inl (cI, 6, .inl f6))]) (ws' := [(a0, .inr (2, [w0_0, w0_1, w0_2, w0_3, w0_4, .ref a6, w0_6, w0_7, w0_8, w0_9, w0_10, w0_11])), (a6, .inl (cI, 6, .inl f6))]) (va_runV (As := [.int x2]) (rest := [.int x1]) ⟨hx, hb, hml, hown, hts⟩ (k_X2_isPainted l D cI cZ cC cS H.size a0 a6 (w0_0) (w0_1) (w0_2) (w0_3) (w0_4) (w0_6) (w0_7) (w0_8) (w0_9) (w0_10) (w0_11) f6 x2 r5 hcr5) (cwV 1 hts gX2_panelsPainted_X2_isPainted rfl rfl rfl nd_X2_isPainted ⟨Nat.le_of_ble_eq_true rfl, Nat.le_of_ble_eq_true rfl⟩) (PB.preV (ci := 2) (q0 := 0) hKU hP hD [0, 1] rfl rfl rfl rfl) rfl rfl hl.1 rfl (lv_room (Nat.le_of_ble_eq_true rfl)) dX2_panelsPainted_13 ⟨Nat.zero_le _, Nat.zero_le _⟩) hS hP hD hA [0, 1] rfl rfl (by first | (simp only [wset, List.set_cons_zero, List.set_cons_succ]; done) | rfl) rfl (fun H locs hP hD hS hzr5 => ?_)
    refine lv_if_eq (tgt := 23) hx hb dX2_panelsPainted_16 (by decide) (fun c6 => ?_) (fun c6 => ?_)
    · have hsp := itT hsp c6
      refine lv_iconst (v := 0) hx hb dX2_panelsPainted_23 (by decide) ?_
      refine lv_iadd hx hb dX2_panelsPainted_24 ?_
      obtain ⟨x7, ex7, hsp⟩ := nmE hsp
      refine r_top ex7 ?_
      refine lv_istore_n (lv' := [(1, .int x7), (0, .ref a0), (2, .int x2)]) hx hb dX2_panelsPainted_25 rfl hl (by decide) rfl (fun ls hl => ?_)
      obtain ⟨x8, ex8, hsp⟩ := nmE hsp
      refine lv_iinc (k := 2) (v := x8) (lv' := [(2, .int x8), (1, .int x7), (0, .ref a0)]) hx hb dX2_panelsPainted_26 hl rfl (by rw [ex8]; rfl) (by decide) rfl (fun ls hl => ?_)
      refine lv_goto (tgt := 4) hx hb dX2_panelsPainted_29 (by decide) ?_
      exact ih1 (x7, x8) _ _ hsp hP hD hS _ (lv_sub hl [2, 1, 0] rfl)
    have hsp := itF hsp c6
    refine lv_iconst (v := 1) hx hb dX2_panelsPainted_19 (by decide) ?_
    refine lv_goto (tgt := 24) hx hb dX2_panelsPainted_20 (by decide) ?_
    refine lv_iadd hx hb dX2_panelsPainted_24 ?_
    obtain ⟨x9, ex9, hsp⟩ := nmE hsp
    refine r_top ex9 ?_
    refine lv_istore_n (lv' := [(1, .int x9), (0, .ref a0), (2, .int x2)]) hx hb dX2_panelsPainted_25 rfl hl (by decide) rfl (fun ls hl => ?_)
    obtain ⟨x10, ex10, hsp⟩ := nmE hsp
    refine lv_iinc (k := 2) (v := x10) (lv' := [(2, .int x10), (1, .int x9), (0, .ref a0)]) hx hb dX2_panelsPainted_26 hl rfl (by rw [ex10]; rfl) (by decide) rfl (fun ls hl => ?_)
    refine lv_goto (tgt := 4) hx hb dX2_panelsPainted_29 (by decide) ?_
    exact ih1 (x9, x10) _ _ hsp hP hD hS _ (lv_sub hl [2, 1, 0] rfl)

theorem nd_X2_panelsWell : yX2_panelsWell.cls = RX2 ∧ yX2_panelsWell.cls ≠ "java/lang/invoke/MethodHandle" ∧ yX2_panelsWell.cls ≠ "java/lang/invoke/VarHandle" ∧ (parseMethodDescriptor yX2_panelsWell.desc).map (fun d => d.parameters.length) = some 0 := by decide +kernel
set_option maxHeartbeats 8000000 in
set_option maxRecDepth 100000 in
theorem k_X2_panelsWell (l : Launch) (D : va_G) (cI cZ cC cS : ClassId) (sz : Nat) (a0 a1 a4 a5 a6 : Nat) (w0_1 : Value) (w0_2 : Value) (w0_6 : Value) (w0_7 : Value) (w0_8 : Value) (w0_9 : Value) (w0_10 : Value) (w0_11 : Value) (f1 : Nat → Int32) (f4 : Nat → Int32) (f5 : Nat → Int32) (f6 : Nat → Int32) (res : Int32) (hsp : s_X2_panelsWell f1 f4 f5 f6 = some res) : Met l yX2_panelsWell wsX2_panelsWell ({ frames := 4, cells := 0, slots := 0, locals := 92 }) (va_Pc [.ref a0] (PB D cI cZ cC cS [(a0, .inr (2, [.ref a1, w0_1, w0_2, .ref a4, .ref a5, .ref a6, w0_6, w0_7, w0_8, w0_9, w0_10, w0_11])), (a1, .inl (cI, 2, .inl f1)), (a4, .inl (cI, 18, .inl f4)), (a5, .inl (cI, 18, .inl f5)), (a6, .inl (cI, 6, .inl f6))] sz)) (va_Qi (fun r (_ : Unit) => r = res) (fun _ t => va_P D vwCl [(a0, .inr (2, [.ref a1, w0_1, w0_2, .ref a4, .ref a5, .ref a6, w0_6, w0_7, w0_8, w0_9, w0_10, w0_11])), (a1, .inl (cI, 2, .inl f1)), (a4, .inl (cI, 18, .inl f4)), (a5, .inl (cI, 18, .inl f5)), (a6, .inl (cI, 6, .inl f6))] t.heap) (va_A [(a0, .inr (2, [.ref a1, w0_1, w0_2, .ref a4, .ref a5, .ref a6, w0_6, w0_7, w0_8, w0_9, w0_10, w0_11])), (a1, .inl (cI, 2, .inl f1)), (a4, .inl (cI, 18, .inl f4)), (a5, .inl (cI, 18, .inl f5)), (a6, .inl (cI, 6, .inl f6))] sz)) 0 0 (va_A [(a0, .inr (2, [.ref a1, w0_1, w0_2, .ref a4, .ref a5, .ref a6, w0_6, w0_7, w0_8, w0_9, w0_10, w0_11])), (a1, .inl (cI, 2, .inl f1)), (a4, .inl (cI, 18, .inl f4)), (a5, .inl (cI, 18, .inl f5)), (a6, .inl (cI, 6, .inl f6))] sz) := by
  refine Met.ofW (cc := cX2_panelsWell) (maxL := 3) (ret := (some .int)) (by decide) rfl ?_
  intro p e s m args below meth c s₁ B hml hv
  obtain ⟨rfl, hsz, hP, hD0, hKU⟩ := hv
  have hx := B.exec
  have hb := B.bytes
  have hr := B.returns
  have hts := atoms_spec (ws := wsX2_panelsWell) B.pre
  have hown : s.vm.findClass RX2 = some m.cls := findClass_of_methodNamed B.named
  have hlocks := B.notSynchronized
  have hK := hKU.1
  subst hsz
  have hD := hD0.self (sz := s.heap.size)
  generalize hAe : va_A [(a0, .inr (2, [.ref a1, w0_1, w0_2, .ref a4, .ref a5, .ref a6, w0_6, w0_7, w0_8, w0_9, w0_10, w0_11])), (a1, .inl (cI, 2, .inl f1)), (a4, .inl (cI, 18, .inl f4)), (a5, .inl (cI, 18, .inl f5)), (a6, .inl (cI, 6, .inl f6))] s.heap.size = A at hD ⊢
  have hA : ∀ q : Nat, s.heap.size ≤ q → A q := fun q h => by rw [← hAe]; exact Or.inr h
  have hP : va_P D vwCl [(a0, .inr (2, [.ref a1, w0_1, w0_2, .ref a4, .ref a5, .ref a6, w0_6, w0_7, w0_8, w0_9, w0_10, w0_11])), (a1, .inl (cI, 2, .inl f1)), (a4, .inl (cI, 18, .inl f4)), (a5, .inl (cI, 18, .inl f5)), (a6, .inl (cI, 6, .inl f6))] s.heap := hP
  generalize hHe : s.heap = H at hP ⊢
  have hS : va_S A s.heap H [] := by rw [hHe]; exact va_S.rf
  have hl := lv_entry ([.ref a0]) (n := 3) (Nat.le_of_ble_eq_true rfl)
  rw [lg_entry_eq]
  generalize (lg_sl ([.ref a0]) ++ List.replicate (3 - (lg_sl ([.ref a0])).length) Slot.unset).toArray = ls at hl ⊢
  have hl : lv_has ls 3 [(0, .ref a0)] := hl
  unfold s_X2_panelsWell at hsp
  refine lv_iconst (v := 0) hx hb dX2_panelsWell_0 (by decide) ?_
  refine lv_istore_n (lv' := [(1, .int 0), (0, .ref a0)]) hx hb dX2_panelsWell_1 rfl hl (by decide) rfl (fun ls hl => ?_)
  refine lv_iconst (v := 0) hx hb dX2_panelsWell_2 (by decide) ?_
  refine lv_istore_n (lv' := [(2, .int 0), (1, .int 0), (0, .ref a0)]) hx hb dX2_panelsWell_3 rfl hl (by decide) rfl (fun ls hl => ?_)
  refine ex_rule (D := D) (K := s_X2_panelsWell_X1) (P := fun (t1 : Int32) => [(a0, .inr (2, [.ref a1, w0_1, w0_2, .ref a4, .ref a5, .ref a6, w0_6, w0_7, w0_8, w0_9, w0_10, w0_11])), (a1, .inl (cI, 2, .inl f1)), (a4, .inl (cI, 18, .inl f4)), (a5, .inl (cI, 18, .inl f5)), (a6, .inl (cI, 6, .inl f6))]) (L := fun (t1 : Int32) => [(1, .int t1)]) (nL := 3) (pcx := 32) (res := res) (A := A) (H0 := s.heap) ?_ (fun hx1 => ?_)
  · intro t1 H locs hsp hP hD hS ls hl
    obtain ⟨x3, rfl⟩ : ∃ z, z = t1 := ⟨_, rfl⟩
    unfold s_X2_panelsWell_X1 at hsp; try dsimp only at hsp
    have hP : va_P D vwCl [(a0, .inr (2, [.ref a1, w0_1, w0_2, .ref a4, .ref a5, .ref a6, w0_6, w0_7, w0_8, w0_9, w0_10, w0_11])), (a1, .inl (cI, 2, .inl f1)), (a4, .inl (cI, 18, .inl f4)), (a5, .inl (cI, 18, .inl f5)), (a6, .inl (cI, 6, .inl f6))] H := hP
    have hD : va_D A [(a0, .inr (2, [.ref a1, w0_1, w0_2, .ref a4, .ref a5, .ref a6, w0_6, w0_7, w0_8, w0_9, w0_10, w0_11])), (a1, .inl (cI, 2, .inl f1)), (a4, .inl (cI, 18, .inl f4)), (a5, .inl (cI, 18, .inl f5)), (a6, .inl (cI, 6, .inl f6))] := hD
    have hl : lv_has ls 3 [(1, .int x3)] := hl
    refine lv_iload_n hx hb dX2_panelsWell_32 rfl (lv_at hl 0 rfl) ?_
    have hres := Option.some.inj hsp
    subst hres
    exact W.iret (v := x3) hx hb hr (fun t ht hW => ⟨⟨x3, (), rfl, rfl, P_at ht hP⟩, hS.F ht⟩) hS.2.2 dX2_panelsWell_33
  have hl := lv_sub hl (l' := [(0, .ref a0), (1, .int 0), (2, .int 0)]) [2, 1, 0] rfl
  refine lp_rule (D := D) (F := s_X2_panelsWell_L1 f1 f4 f5 f6 (s_X2_panelsWell_X1)) (P := fun (tv : Int32 × Int32) => [(a0, .inr (2, [.ref a1, w0_1, w0_2, .ref a4, .ref a5, .ref a6, w0_6, w0_7, w0_8, w0_9, w0_10, w0_11])), (a1, .inl (cI, 2, .inl f1)), (a4, .inl (cI, 18, .inl f4)), (a5, .inl (cI, 18, .inl f5)), (a6, .inl (cI, 6, .inl f6))]) (L := fun (tv : Int32 × Int32) => [(0, .ref a0), (1, .int tv.1), (2, .int tv.2)]) (nL := 3) (res := res) (A := A) (H0 := s.heap) (fun _ => rfl) ?_ 1000 (0, 0) _ _ hsp hP hD hS _ hl
  · intro n1 ih1 tv H locs hsp hP hD hS ls hl
    obtain ⟨x1, x2⟩ := tv
    have hsp : s_X2_panelsWell_B1  f1 f4 f5 f6 (s_X2_panelsWell_X1) (s_X2_panelsWell_L1 f1 f4 f5 f6 (s_X2_panelsWell_X1) n1) x1 x2 = some res := hsp
    unfold s_X2_panelsWell_B1 at hsp
    have hP : va_P D vwCl [(a0, .inr (2, [.ref a1, w0_1, w0_2, .ref a4, .ref a5, .ref a6, w0_6, w0_7, w0_8, w0_9, w0_10, w0_11])), (a1, .inl (cI, 2, .inl f1)), (a4, .inl (cI, 18, .inl f4)), (a5, .inl (cI, 18, .inl f5)), (a6, .inl (cI, 6, .inl f6))] H := hP
    have hD : va_D A [(a0, .inr (2, [.ref a1, w0_1, w0_2, .ref a4, .ref a5, .ref a6, w0_6, w0_7, w0_8, w0_9, w0_10, w0_11])), (a1, .inl (cI, 2, .inl f1)), (a4, .inl (cI, 18, .inl f4)), (a5, .inl (cI, 18, .inl f5)), (a6, .inl (cI, 6, .inl f6))] := hD
    have hl : lv_has ls 3 [(0, .ref a0), (1, .int x1), (2, .int x2)] := hl
    refine lv_iload_n hx hb dX2_panelsWell_4 rfl (lv_at hl 2 rfl) ?_
    refine lv_bipush (v := 6) hx hb dX2_panelsWell_5 (by decide) ?_
    refine lv_icmp_ge (tgt := 32) hx hb dX2_panelsWell_7 (by decide) (fun c4 => ?_) (fun c4 => ?_)
    · have hsp := itT hsp c4
      exact hx1 x1 _ _ hsp hP hD hS _ (lv_sub hl [1] rfl)
    have hsp := itF hsp c4
    refine lv_iload_n hx hb dX2_panelsWell_10 rfl (lv_at hl 1 rfl) ?_
    refine lv_aload_n hx hb dX2_panelsWell_11 rfl (lv_at hl 0 rfl) ?_
    refine lv_iload_n hx hb dX2_panelsWell_12 rfl (lv_at hl 2 rfl) ?_
    obtain ⟨r5, hcr5, hsp⟩ := clE hsp
    refine call_z (w1 := [(a0, .inr (2, [.ref a1, w0_1, w0_2, .ref a4, .ref a5, .ref a6, w0_6, w0_7, w0_8, w0_9, w0_10, w0_11])), (a1, .inl (cI, 2, .inl f1)), (a4, .inl (cI, 18, .inl f4)), (a5, .inl (cI, 18, .inl f5)), (a6, .inl (cI, 6, .inl f6))]) (ws' := [(a0, .inr (2, [.ref a1, w0_1, w0_2, .ref a4, .ref a5, .ref a6, w0_6, w0_7, w0_8, w0_9, w0_10, w0_11])), (a1, .inl (cI, 2, .inl f1)), (a4, .inl (cI, 18, .inl f4)), (a5, .inl (cI, 18, .inl f5)), (a6, .inl (cI, 6, .inl f6))]) (va_runV (As := [.int x2]) (rest := [.int x1]) ⟨hx, hb, hml, hown, hts⟩ (k_X2_isWell l D cI cZ cC cS H.size a0 a1 a4 a5 a6 (w0_1) (w0_2) (w0_6) (w0_7) (w0_8) (w0_9) (w0_10) (w0_11) f1 f4 f5 f6 x2 r5 hcr5) (cwV 1 hts gX2_panelsWell_X2_isWell rfl rfl rfl nd_X2_isWell ⟨Nat.le_of_ble_eq_true rfl, Nat.le_of_ble_eq_true rfl⟩) (PB.preV (ci := 2) (q0 := 0) hKU hP hD [0, 1, 2, 3, 4] rfl rfl rfl rfl) rfl rfl hl.1 rfl (lv_room (Nat.le_of_ble_eq_true rfl)) dX2_panelsWell_13 ⟨Nat.zero_le _, Nat.zero_le _⟩) hS hP hD hA [0, 1, 2, 3, 4] rfl rfl (by first | (simp only [wset, List.set_cons_zero, List.set_cons_succ]; done) | rfl) rfl (fun H locs hP hD hS hzr5 => ?_)
    refine lv_if_eq (tgt := 23) hx hb dX2_panelsWell_16 (by decide) (fun c6 => ?_) (fun c6 => ?_)
    · have hsp := itT hsp c6
      refine lv_iconst (v := 0) hx hb dX2_panelsWell_23 (by decide) ?_
      refine lv_iadd hx hb dX2_panelsWell_24 ?_
      obtain ⟨x7, ex7, hsp⟩ := nmE hsp
      refine r_top ex7 ?_
      refine lv_istore_n (lv' := [(1, .int x7), (0, .ref a0), (2, .int x2)]) hx hb dX2_panelsWell_25 rfl hl (by decide) rfl (fun ls hl => ?_)
      obtain ⟨x8, ex8, hsp⟩ := nmE hsp
      refine lv_iinc (k := 2) (v := x8) (lv' := [(2, .int x8), (1, .int x7), (0, .ref a0)]) hx hb dX2_panelsWell_26 hl rfl (by rw [ex8]; rfl) (by decide) rfl (fun ls hl => ?_)
      refine lv_goto (tgt := 4) hx hb dX2_panelsWell_29 (by decide) ?_
      exact ih1 (x7, x8) _ _ hsp hP hD hS _ (lv_sub hl [2, 1, 0] rfl)
    have hsp := itF hsp c6
    refine lv_iconst (v := 1) hx hb dX2_panelsWell_19 (by decide) ?_
    refine lv_goto (tgt := 24) hx hb dX2_panelsWell_20 (by decide) ?_
    refine lv_iadd hx hb dX2_panelsWell_24 ?_
    obtain ⟨x9, ex9, hsp⟩ := nmE hsp
    refine r_top ex9 ?_
    refine lv_istore_n (lv' := [(1, .int x9), (0, .ref a0), (2, .int x2)]) hx hb dX2_panelsWell_25 rfl hl (by decide) rfl (fun ls hl => ?_)
    obtain ⟨x10, ex10, hsp⟩ := nmE hsp
    refine lv_iinc (k := 2) (v := x10) (lv' := [(2, .int x10), (1, .int x9), (0, .ref a0)]) hx hb dX2_panelsWell_26 hl rfl (by rw [ex10]; rfl) (by decide) rfl (fun ls hl => ?_)
    refine lv_goto (tgt := 4) hx hb dX2_panelsWell_29 (by decide) ?_
    exact ih1 (x9, x10) _ _ hsp hP hD hS _ (lv_sub hl [2, 1, 0] rfl)

theorem nd_X2_allStrokes : yX2_allStrokes.cls = RX2 ∧ yX2_allStrokes.cls ≠ "java/lang/invoke/MethodHandle" ∧ yX2_allStrokes.cls ≠ "java/lang/invoke/VarHandle" ∧ (parseMethodDescriptor yX2_allStrokes.desc).map (fun d => d.parameters.length) = some 0 := by decide +kernel
set_option maxHeartbeats 8000000 in
set_option maxRecDepth 100000 in
theorem k_X2_allStrokes (l : Launch) (D : va_G) (cI cZ cC cS : ClassId) (sz : Nat) (a0 a6 : Nat) (w0_0 : Value) (w0_1 : Value) (w0_2 : Value) (w0_3 : Value) (w0_4 : Value) (w0_6 : Value) (w0_7 : Value) (w0_8 : Value) (w0_9 : Value) (w0_10 : Value) (w0_11 : Value) (f6 : Nat → Int32) (res : Int32) (hsp : s_X2_allStrokes f6 = some res) : Met l yX2_allStrokes wsX2_allStrokes ({ frames := 1, cells := 0, slots := 0, locals := 21 }) (va_Pc [.ref a0] (PB D cI cZ cC cS [(a0, .inr (2, [w0_0, w0_1, w0_2, w0_3, w0_4, .ref a6, w0_6, w0_7, w0_8, w0_9, w0_10, w0_11])), (a6, .inl (cI, 6, .inl f6))] sz)) (va_Qi (fun r (_ : Unit) => r = res) (fun _ t => va_P D vwCl [(a0, .inr (2, [w0_0, w0_1, w0_2, w0_3, w0_4, .ref a6, w0_6, w0_7, w0_8, w0_9, w0_10, w0_11])), (a6, .inl (cI, 6, .inl f6))] t.heap) (va_A [(a0, .inr (2, [w0_0, w0_1, w0_2, w0_3, w0_4, .ref a6, w0_6, w0_7, w0_8, w0_9, w0_10, w0_11])), (a6, .inl (cI, 6, .inl f6))] sz)) 0 0 (va_A [(a0, .inr (2, [w0_0, w0_1, w0_2, w0_3, w0_4, .ref a6, w0_6, w0_7, w0_8, w0_9, w0_10, w0_11])), (a6, .inl (cI, 6, .inl f6))] sz) := by
  refine Met.ofW (cc := cX2_allStrokes) (maxL := 3) (ret := (some .int)) (by decide) rfl ?_
  intro p e s m args below meth c s₁ B hml hv
  obtain ⟨rfl, hsz, hP, hD0, hKU⟩ := hv
  have hx := B.exec
  have hb := B.bytes
  have hr := B.returns
  have hts := atoms_spec (ws := wsX2_allStrokes) B.pre
  have hown : s.vm.findClass RX2 = some m.cls := findClass_of_methodNamed B.named
  have hlocks := B.notSynchronized
  have hK := hKU.1
  have hf_31 := hts (.fieldLink RX2 31 "ThinnedPots$Studio" "strokes" "[I") (by decide +kernel)
  have hi_X2 : ∀ w ∈ u_ws RX2 TX2 12, w ∈ wsX2_allStrokes := by decide +kernel
  have hst_X4_at := hts (.static yX4_at) (by decide +kernel)
  have hin_X4 := hts (.initialized RX4) (by decide +kernel)
  subst hsz
  have hD := hD0.self (sz := s.heap.size)
  generalize hAe : va_A [(a0, .inr (2, [w0_0, w0_1, w0_2, w0_3, w0_4, .ref a6, w0_6, w0_7, w0_8, w0_9, w0_10, w0_11])), (a6, .inl (cI, 6, .inl f6))] s.heap.size = A at hD ⊢
  have hA : ∀ q : Nat, s.heap.size ≤ q → A q := fun q h => by rw [← hAe]; exact Or.inr h
  have hP : va_P D vwCl [(a0, .inr (2, [w0_0, w0_1, w0_2, w0_3, w0_4, .ref a6, w0_6, w0_7, w0_8, w0_9, w0_10, w0_11])), (a6, .inl (cI, 6, .inl f6))] s.heap := hP
  generalize hHe : s.heap = H at hP ⊢
  have hS : va_S A s.heap H [] := by rw [hHe]; exact va_S.rf
  have hl := lv_entry ([.ref a0]) (n := 3) (Nat.le_of_ble_eq_true rfl)
  rw [lg_entry_eq]
  generalize (lg_sl ([.ref a0]) ++ List.replicate (3 - (lg_sl ([.ref a0])).length) Slot.unset).toArray = ls at hl ⊢
  have hl : lv_has ls 3 [(0, .ref a0)] := hl
  unfold s_X2_allStrokes at hsp
  refine lv_iconst (v := 0) hx hb dX2_allStrokes_0 (by decide) ?_
  refine lv_istore_n (lv' := [(1, .int 0), (0, .ref a0)]) hx hb dX2_allStrokes_1 rfl hl (by decide) rfl (fun ls hl => ?_)
  refine lv_iconst (v := 0) hx hb dX2_allStrokes_2 (by decide) ?_
  refine lv_istore_n (lv' := [(2, .int 0), (1, .int 0), (0, .ref a0)]) hx hb dX2_allStrokes_3 rfl hl (by decide) rfl (fun ls hl => ?_)
  refine ex_rule (D := D) (K := s_X2_allStrokes_X1) (P := fun (t1 : Int32) => [(a0, .inr (2, [w0_0, w0_1, w0_2, w0_3, w0_4, .ref a6, w0_6, w0_7, w0_8, w0_9, w0_10, w0_11])), (a6, .inl (cI, 6, .inl f6))]) (L := fun (t1 : Int32) => [(1, .int t1)]) (nL := 3) (pcx := 27) (res := res) (A := A) (H0 := s.heap) ?_ (fun hx1 => ?_)
  · intro t1 H locs hsp hP hD hS ls hl
    obtain ⟨x3, rfl⟩ : ∃ z, z = t1 := ⟨_, rfl⟩
    unfold s_X2_allStrokes_X1 at hsp; try dsimp only at hsp
    have hP : va_P D vwCl [(a0, .inr (2, [w0_0, w0_1, w0_2, w0_3, w0_4, .ref a6, w0_6, w0_7, w0_8, w0_9, w0_10, w0_11])), (a6, .inl (cI, 6, .inl f6))] H := hP
    have hD : va_D A [(a0, .inr (2, [w0_0, w0_1, w0_2, w0_3, w0_4, .ref a6, w0_6, w0_7, w0_8, w0_9, w0_10, w0_11])), (a6, .inl (cI, 6, .inl f6))] := hD
    have hl : lv_has ls 3 [(1, .int x3)] := hl
    refine lv_iload_n hx hb dX2_allStrokes_27 rfl (lv_at hl 0 rfl) ?_
    have hres := Option.some.inj hsp
    subst hres
    exact W.iret (v := x3) hx hb hr (fun t ht hW => ⟨⟨x3, (), rfl, rfl, P_at ht hP⟩, hS.F ht⟩) hS.2.2 dX2_allStrokes_28
  have hl := lv_sub hl (l' := [(0, .ref a0), (1, .int 0), (2, .int 0)]) [2, 1, 0] rfl
  refine lp_rule (D := D) (F := s_X2_allStrokes_L1 f6 (s_X2_allStrokes_X1)) (P := fun (tv : Int32 × Int32) => [(a0, .inr (2, [w0_0, w0_1, w0_2, w0_3, w0_4, .ref a6, w0_6, w0_7, w0_8, w0_9, w0_10, w0_11])), (a6, .inl (cI, 6, .inl f6))]) (L := fun (tv : Int32 × Int32) => [(0, .ref a0), (1, .int tv.1), (2, .int tv.2)]) (nL := 3) (res := res) (A := A) (H0 := s.heap) (fun _ => rfl) ?_ 1000 (0, 0) _ _ hsp hP hD hS _ hl
  · intro n1 ih1 tv H locs hsp hP hD hS ls hl
    obtain ⟨x1, x2⟩ := tv
    have hsp : s_X2_allStrokes_B1  f6 (s_X2_allStrokes_X1) (s_X2_allStrokes_L1 f6 (s_X2_allStrokes_X1) n1) x1 x2 = some res := hsp
    unfold s_X2_allStrokes_B1 at hsp
    have hP : va_P D vwCl [(a0, .inr (2, [w0_0, w0_1, w0_2, w0_3, w0_4, .ref a6, w0_6, w0_7, w0_8, w0_9, w0_10, w0_11])), (a6, .inl (cI, 6, .inl f6))] H := hP
    have hD : va_D A [(a0, .inr (2, [w0_0, w0_1, w0_2, w0_3, w0_4, .ref a6, w0_6, w0_7, w0_8, w0_9, w0_10, w0_11])), (a6, .inl (cI, 6, .inl f6))] := hD
    have hl : lv_has ls 3 [(0, .ref a0), (1, .int x1), (2, .int x2)] := hl
    refine lv_iload_n hx hb dX2_allStrokes_4 rfl (lv_at hl 2 rfl) ?_
    refine lv_bipush (v := 6) hx hb dX2_allStrokes_5 (by decide) ?_
    refine lv_icmp_ge (tgt := 27) hx hb dX2_allStrokes_7 (by decide) (fun c4 => ?_) (fun c4 => ?_)
    · have hsp := itT hsp c4
      exact hx1 x1 _ _ hsp hP hD hS _ (lv_sub hl [1] rfl)
    have hsp := itF hsp c4
    refine lv_iload_n hx hb dX2_allStrokes_10 rfl (lv_at hl 1 rfl) ?_
    refine lv_aload_n hx hb dX2_allStrokes_11 rfl (lv_at hl 0 rfl) ?_
    refine va_get (D := D) (ci := 2) (v := .ref a6) (C := RX2) (T := TX2) (N := 12) hx hb hts hi_X2 hown hK hP 0 rfl rfl 5 (by decide) hf_31 (fun _ h9 => h9) rfl dX2_allStrokes_12 ?_
    refine lv_iload_n hx hb dX2_allStrokes_15 rfl (lv_at hl 2 rfl) ?_
    obtain ⟨r5, hcr5, hsp⟩ := clE hsp
    refine call_i (w1 := [(a6, .inl (cI, 6, .inl f6))]) (ws' := [(a0, .inr (2, [w0_0, w0_1, w0_2, w0_3, w0_4, .ref a6, w0_6, w0_7, w0_8, w0_9, w0_10, w0_11])), (a6, .inl (cI, 6, .inl f6))]) (va_runSN (As := [.ref a6, .int x2]) (rest := [.int x1]) ⟨hx, hb, hml, hown, hts⟩ (k_X4_at l D cI cZ cC cS H.size a6 6 f6 x2 r5 hcr5) ⟨va_cnB 2 hts gX2_allStrokes_X4_at_n61 rfl rfl rfl (mn_Studio_61 hKU.2.2) hin_X4 nd_X4_at.2 ⟨Nat.le_of_ble_eq_true rfl, Nat.le_of_ble_eq_true rfl⟩, hst_X4_at, trivial⟩ (PB.preS hKU hP hD [1] rfl rfl) rfl rfl hl.1 rfl (lv_room (Nat.le_of_ble_eq_true rfl)) dX2_allStrokes_16 ⟨Nat.zero_le _, Nat.zero_le _⟩) hS hP hD hA [1] rfl rfl (by first | (simp only [wset, List.set_cons_zero, List.set_cons_succ]; done) | rfl) rfl (fun H locs hP hD hS => ?_)
    refine lv_iadd hx hb dX2_allStrokes_19 ?_
    obtain ⟨x6, ex6, hsp⟩ := nmE hsp
    refine r_top ex6 ?_
    refine lv_istore_n (lv' := [(1, .int x6), (0, .ref a0), (2, .int x2)]) hx hb dX2_allStrokes_20 rfl hl (by decide) rfl (fun ls hl => ?_)
    obtain ⟨x7, ex7, hsp⟩ := nmE hsp
    refine lv_iinc (k := 2) (v := x7) (lv' := [(2, .int x7), (1, .int x6), (0, .ref a0)]) hx hb dX2_allStrokes_21 hl rfl (by rw [ex7]; rfl) (by decide) rfl (fun ls hl => ?_)
    refine lv_goto (tgt := 4) hx hb dX2_allStrokes_24 (by decide) ?_
    exact ih1 (x6, x7) _ _ hsp hP hD hS _ (lv_sub hl [2, 1, 0] rfl)
